/-! keepChunk, whole: the loop and its end -/
section
variable {x_objectLimit x_stepLimit x_depthLimit x_pendingCount x_keptTokens x_keptLines x_lineCount x_codeCount x_cursor x_stop x_waitingCount x_openCount x_classCount x_callCount x_operandCount x_stepsTaken x_error x_raisedCode x_printCount x_lastPlace : Int32} {x_lastResult : Int64} {x_pending x_lineTable x_orders x_merging x_letterClass x_objectClass x_calls x_lastPrints : Nat → Int32} {x_code x_waiting x_globals x_entries x_attributes x_held x_operands : Nat → Int64}
variable {y_maxObjects y_maxSteps y_maxDepth y_kept y_end y_tokens y_pending y_lines y_classes y_prints y_place y_steps y_d y_valTop y_opTop y_opens y_pos y_tk y_tv y_stmt y_target y_err y_code y_outcome y_dry y_want y_starting y_ended y_bad y_hosted y_sawSuper : Int32} {y_result : Int64} {y_text y_numbers y_classOf y_alive y_orders y_lengths y_letters y_bases y_ops y_fLine y_fPos y_fStmt y_fTarget y_fMask y_fHome y_fOps y_fVals y_fNew y_out : Nat → Int32} {y_globals y_entries y_attrs y_vals y_locals y_fRecv : Nat → Int64}
/-- a line's row when its chunk is kept -/
def hs_LN (LT : Nat → Int32) (cd : Nat → Int64) (ind : Nat → Nat) (tk : Nat → List Nat) (a b mx j : Nat) : Prop :=
  LT (j * 14 + 1) = nI (ind j) ∧ LT (j * 14 + 3) = hs_oI (hs_pa ind a j) ∧ LT (j * 14 + 4) = nI (hs_bk ind b j) ∧ (LT (j * 14) = 2 → LT (j * 14 + 8) = hs_lmask tk ind b j) ∧
  ∃ e c0, LT (j * 14 + 9) = nI c0 ∧ LT (j * 14 + 10) = nI (c0 + e.length) ∧ c0 + e.length ≤ mx ∧ hs_CA cd c0 e (c0 + e.length) ∧ hs_LF (LT (j * 14)) (LT (j * 14 + 5)) (LT (j * 14 + 6)) (LT (j * 14 + 7)) e (tk j)
theorem hs_x236b {pd : Nat → Int32} {a b pn kt kl cc0 nm : Nat} {x3 : Int32} {post : Int32 → SX → Prop} (h0 : nm ≠ 0) (h1 : nm < 2 ^ 31) {q1 q2 q3 q4 q6 : Int32} {q5 : Nat → Int64} {LT : Nat → Int32} {cd : Nat → Int64} (H : post (nI nm) (x_objectLimit, x_stepLimit, x_depthLimit, 0, nI kt, nI kl, nI a, nI cc0, q1, q2, q3, q4, x_classCount, x_callCount, x_operandCount, x_stepsTaken, x_error, x_raisedCode, x_printCount, x_lastResult, x_lastPlace, pd, LT, cd, q5, x_globals, x_entries, x_orders, x_merging, x_letterClass, x_objectClass, x_attributes, x_calls, x_held, x_operands, x_lastPrints)) : wX_keepChunk_236 post (nI a) (nI cc0) x3 (nI nm) x_objectLimit x_stepLimit x_depthLimit (nI pn) (nI kt) (nI kl) (nI b) q6 q1 q2 q3 q4 x_classCount x_callCount x_operandCount x_stepsTaken x_error x_raisedCode x_printCount x_lastResult x_lastPlace pd LT cd q5 x_globals x_entries x_orders x_merging x_letterClass x_objectClass x_attributes x_calls x_held x_operands x_lastPrints := by
  unfold wX_keepChunk_236
  exact br_f (nI_ne0 (by omega) h1) H
theorem hs_xKeepL {tx pd LT0 : Nat → Int32} {cd0 : Nat → Int64} {cs pn kt kl a b cc0 : Nat} {P E ind h : Nat → Nat} {tk : Nat → List Nat} (hkl : kl < 100000) (hab : a ≤ b) (hb : b ≤ 405) (hpn : pn ≤ 400) (hcc0 : cc0 + pn ≤ 443) (hcsp : cs + pn ≤ 1024)
    (hind : ∀ i, a ≤ i → i < b → ind i ≤ 8) (hPE : ∀ i, a ≤ i → i < b → cs ≤ P i ∧ P i < E i ∧ E i ≤ cs + pn) (hEP : ∀ i, a ≤ i → i + 1 < b → E i ≤ P (i + 1)) (hh : ∀ i, a ≤ i → i < b → h i = hs_hd (tk i)) (hlen : ∀ i, a ≤ i → i < b → (tk i).length = E i - P i ∧ tk i ≠ [] ∧ (∀ x, x ∈ tk i → x ≠ 0))
    (hPA : ∀ i, a ≤ i → i < b → hs_PA pd (E i - cs) (P i - cs) (tk i) ∧ (P i - cs = 0 ∨ ∃ t, 40 ≤ t ∧ t ≤ 48 ∧ pd (P i - cs - 1) = nI t))
    {post : Int32 → SX → Prop} {tl : Nat} (htl : tl < 2000)
    (Hw : ∀ i, a ≤ i → i < b → ¬ hs_lok tk h ind a i → (∀ j, a ≤ j → j < i → hs_lok tk h ind a j) → ∀ (q1 q2 q3 q4 : Int32) (q5 : Nat → Int64) (LT : Nat → Int32) (cd : Nat → Int64), (∀ k, k < a * 14 → LT k = LT0 k) → (∀ k, k < cc0 → cd k = cd0 k) → post (nI (kl + (hs_nE tx cs (P i) + 1))) (x_objectLimit, x_stepLimit, x_depthLimit, 0, nI kt, nI kl, nI a, nI cc0, q1, q2, q3, q4, x_classCount, x_callCount, x_operandCount, x_stepsTaken, x_error, x_raisedCode, x_printCount, x_lastResult, x_lastPlace, pd, LT, cd, q5, x_globals, x_entries, x_orders, x_merging, x_letterClass, x_objectClass, x_attributes, x_calls, x_held, x_operands, x_lastPrints))
    (He : (∀ i, a ≤ i → i < b → hs_lok tk h ind a i) → ¬ hs_eok h ind a b → ∀ (q1 q2 q3 q4 : Int32) (q5 : Nat → Int64) (LT : Nat → Int32) (cd : Nat → Int64), (∀ k, k < a * 14 → LT k = LT0 k) → (∀ k, k < cc0 → cd k = cd0 k) → post (nI (kl + tl + 1)) (x_objectLimit, x_stepLimit, x_depthLimit, 0, nI kt, nI kl, nI a, nI cc0, q1, q2, q3, q4, x_classCount, x_callCount, x_operandCount, x_stepsTaken, x_error, x_raisedCode, x_printCount, x_lastResult, x_lastPlace, pd, LT, cd, q5, x_globals, x_entries, x_orders, x_merging, x_letterClass, x_objectClass, x_attributes, x_calls, x_held, x_operands, x_lastPrints))
    (Ho : (∀ i, a ≤ i → i < b → hs_lok tk h ind a i) → hs_eok h ind a b → ∀ (q1 q2 q3 q4 : Int32) (q5 : Nat → Int64) (LT : Nat → Int32) (cd : Nat → Int64) (cc : Nat), cc0 ≤ cc → cc ≤ cc0 + pn → (∀ k, k < a * 14 → LT k = LT0 k) → (∀ k, k < cc0 → cd k = cd0 k) → (∀ j, a ≤ j → j < b → hs_LN LT cd ind tk a b cc j ∧ LT (j * 14 + 2) = nI (kl + (hs_nE tx cs (P j) + 1))) → post 0 (x_objectLimit, x_stepLimit, x_depthLimit, 0, nI (kt + pn), nI (kl + tl), nI b, nI cc, q1, q2, q3, q4, x_classCount, x_callCount, x_operandCount, x_stepsTaken, x_error, x_raisedCode, x_printCount, x_lastResult, x_lastPlace, pd, LT, cd, q5, x_globals, x_entries, x_orders, x_merging, x_letterClass, x_objectClass, x_attributes, x_calls, x_held, x_operands, x_lastPrints)) :
    ∀ (m i : Nat) (LT : Nat → Int32) (cd : Nat → Int64) (cc : Nat) (q1 q2 q3 q4 : Int32) (q5 : Nat → Int64), a ≤ i → i + m = b → (∀ j, a ≤ j → j < b → LT (j * 14 + 1) = nI (ind j) ∧ LT (j * 14 + 2) = nI (kl + (hs_nE tx cs (P j) + 1)) ∧ LT (j * 14 + 11) = nI (P j - cs) ∧ LT (j * 14 + 12) = nI (E j - cs)) → hs_PR LT ind a i → (∀ j, a ≤ j → j < i → hs_lok tk h ind a j ∧ ∃ e c0, LT (j * 14 + 9) = nI c0 ∧ LT (j * 14 + 10) = nI (c0 + e.length) ∧ c0 + e.length ≤ cc ∧ hs_CA cd c0 e (c0 + e.length) ∧ hs_LF (LT (j * 14)) (LT (j * 14 + 5)) (LT (j * 14 + 6)) (LT (j * 14 + 7)) e (tk j)) → (∀ k, k < a * 14 → LT k = LT0 k) → (∀ k, k < cc0 → cd k = cd0 k) → cc0 ≤ cc → cc ≤ cc0 + pn → (i < b → cc ≤ cc0 + (P i - cs)) →
    wX_keepChunk_21 post (nI a) (nI cc0) (nI tl) (m + 2) 0 (nI i) x_objectLimit x_stepLimit x_depthLimit (nI pn) (nI kt) (nI kl) (nI b) (nI cc) q1 q2 q3 q4 x_classCount x_callCount x_operandCount x_stepsTaken x_error x_raisedCode x_printCount x_lastResult x_lastPlace pd LT cd q5 x_globals x_entries x_orders x_merging x_letterClass x_objectClass x_attributes x_calls x_held x_operands x_lastPrints := by
  intro m
  have nle : ∀ j, a ≤ j → j < b → hs_nE tx cs (P j) ≤ 2000 ∨ True := fun _ _ _ => Or.inr trivial
  induction m with
  | zero =>
    intro i LT cd cc q1 q2 q3 q4 q5 ia hi hcol hPR hdone hLT hcd hcc1 hcc2 hcc3
    have eib : i = b := by omega
    subst eib
    have K : hs_IK LT h ind a i := fun j j1 j2 => by
      obtain ⟨_, e, c0, _, _, _, _, hL⟩ := hdone j j1 j2
      exact ⟨(hcol j j1 j2).1, by rw [hh j j1 j2]; exact hs_LFkd hL, hind j j1 j2⟩
    have Rr : ∀ k, a ≤ k → k < i → hs_LR LT tk k := fun k k1 k2 => by
      obtain ⟨_, e, c0, _, _, _, _, hL⟩ := hdone k k1 k2
      exact ⟨e, hL⟩
    refine br_t (nI_le (Nat.le_refl _) (by omega)) ?_
    unfold wX_keepChunk_213
    refine br_t rfl (hs_xEnd hab hb K (fun w => br_f (by decide) ?_) (fun w => br_t rfl ?_))
    · unfold wX_keepChunk_236
      refine br_t rfl (hs_xClose (tk := tk) hab hb K Rr (fun LT' u1 u2 => nm_r (nI_add kt pn) (nm_r (nI_add kl tl) ?_)))
      have U : ∀ j c, a ≤ j → j < i → c < 14 → c ≠ 4 → c ≠ 8 → LT' (j * 14 + c) = LT (j * 14 + c) := fun j c j1 j2 c1 c2 c3 => u1 _ (fun j' _ _ => by omega)
      refine Ho (fun j j1 j2 => (hdone j j1 j2).1) w _ _ _ _ _ LT' cd cc hcc1 hcc2 (fun k hk => ?_) hcd (fun j j1 j2 => ?_)
      · rw [u1 k (fun j' j1 _ => by omega)]; exact hLT k hk
      · obtain ⟨_, e, c0, f1, f2, f3, f4, f5⟩ := hdone j j1 j2
        have e0 : LT' (j * 14) = LT (j * 14) := U j 0 j1 j2 (by decide) (by decide) (by decide)
        refine ⟨⟨?_, ?_, (u2 j j1 j2).1, (u2 j j1 j2).2, e, c0, ?_, ?_, f3, f4, ?_⟩, ?_⟩
        · rw [U j 1 j1 j2 (by decide) (by decide) (by decide)]; exact (hcol j j1 j2).1
        · rw [U j 3 j1 j2 (by decide) (by decide) (by decide)]; exact hPR j j1 j2
        · rw [U j 9 j1 j2 (by decide) (by decide) (by decide)]; exact f1
        · rw [U j 10 j1 j2 (by decide) (by decide) (by decide)]; exact f2
        · rw [e0, U j 5 j1 j2 (by decide) (by decide) (by decide), U j 6 j1 j2 (by decide) (by decide) (by decide), U j 7 j1 j2 (by decide) (by decide) (by decide)]; exact f5
        · rw [U j 2 j1 j2 (by decide) (by decide) (by decide)]; exact (hcol j j1 j2).2.1
    · have ee : nI kl + nI tl + 1 = nI (kl + tl + 1) := by rw [nI_add, nI_1]
      refine nm_r ee (hs_x236b (by omega) (by omega) (He (fun j j1 j2 => (hdone j j1 j2).1) w _ _ _ _ _ LT cd hLT hcd))
  | succ m ih =>
    intro i LT cd cc q1 q2 q3 q4 q5 ia hi hcol hPR hdone hLT hcd hcc1 hcc2 hcc3
    have hib : i < b := by omega
    obtain ⟨p1, p2, p3⟩ := hPE i ia hib
    obtain ⟨l1, l2, l3⟩ := hlen i ia hib
    obtain ⟨c1, c2, c3, c4⟩ := hcol i ia hib
    have hcci := hcc3 hib
    have K : hs_IK LT h ind a i := fun j j1 j2 => by
      obtain ⟨_, e, c0, _, _, _, _, hL⟩ := hdone j j1 j2
      exact ⟨(hcol j j1 (by omega)).1, by rw [hh j j1 (by omega)]; exact hs_LFkd hL, hind j j1 (by omega)⟩
    have hce : (P i - cs) + (tk i).length = E i - cs := by omega
    have hce2 : E i - cs ≤ 400 := by omega
    have hce3 : cc + (tk i).length ≤ 443 := by omega
    have hn0 := hs_nEle (tx := tx) (cs := cs) (P i)
    refine hs_oneLine (h := h) (ind := ind) (tk := tk) (c := P i - cs) (e := E i - cs) (num := kl + (hs_nE tx cs (P i) + 1)) ia hib hb K hPR ⟨c1, hind i ia hib⟩ c2 c3 c4 hce2 (hPA i ia hib).1 (hh i ia hib) ?_ ?_ hce l2 l3 hce3 (hPA i ia hib).2 _ _ _ _ _
    · intro hg q1 q2 q3 q4 q5 LT' cd' em k1 k2 k3 k4 k5 k6 k7 k8
      refine ih (i + 1) LT' cd' (cc + em.length) q1 q2 q3 q4 q5 (by omega) (by omega) (fun j j1 j2 => ?_) (fun j j1 j2 => ?_) (fun j j1 j2 => ?_) (fun k hk => ?_) (fun k hk => ?_) (by omega) (by omega) (fun hlt => ?_)
      · obtain ⟨d1, d2, d3, d4⟩ := hcol j j1 j2
        by_cases ej : j = i
        · subst ej
          rw [k1 _ (by omega), k1 _ (by omega), k1 _ (by omega), k1 _ (by omega)]
          exact ⟨d1, d2, d3, d4⟩
        · rw [k1 _ (by omega), k1 _ (by omega), k1 _ (by omega), k1 _ (by omega)]
          exact ⟨d1, d2, d3, d4⟩
      · by_cases ej : j = i
        · subst ej; exact k2
        · rw [k1 _ (by omega)]; exact hPR j j1 (by omega)
      · by_cases ej : j = i
        · subst ej
          exact ⟨hg, em, cc, k3, k4, Nat.le_refl _, k6, k5⟩
        · obtain ⟨g1, e, c0, f1, f2, f3, f4, f5⟩ := hdone j j1 (by omega)
          refine ⟨g1, e, c0, ?_, ?_, by omega, hs_CAupd f4 (fun k _ hk => k7 k (by omega)), ?_⟩
          · rw [k1 _ (by omega)]; exact f1
          · rw [k1 _ (by omega)]; exact f2
          · rw [k1 _ (by omega), k1 _ (by omega), k1 _ (by omega), k1 _ (by omega)]; exact f5
      · rw [k1 _ (by omega)]; exact hLT k hk
      · rw [k7 k (by omega)]; exact hcd k hk
      · have := hEP i ia hlt; omega
    · intro hno q1 q2 q3 q4 q5 q6 LT' cd' k1 k2
      have hn := hs_nEle (tx := tx) (cs := cs) (P i)
      have go : wX_keepChunk_213 post (nI a) (nI cc0) (nI tl) (nI (kl + (hs_nE tx cs (P i) + 1))) x_objectLimit x_stepLimit x_depthLimit (nI pn) (nI kt) (nI kl) (nI b) q6 q1 q2 q3 q4 x_classCount x_callCount x_operandCount x_stepsTaken x_error x_raisedCode x_printCount x_lastResult x_lastPlace pd LT' cd' q5 x_globals x_entries x_orders x_merging x_letterClass x_objectClass x_attributes x_calls x_held x_operands x_lastPrints := by
        unfold wX_keepChunk_213
        refine br_f (nI_ne0 (by omega) (by omega)) (hs_x236b (by omega) (by omega) (Hw i ia hib hno (fun j j1 j2 => (hdone j j1 j2).1) _ _ _ _ _ LT' cd' (fun k hk => (k1 k (by omega)).trans (hLT k hk)) (fun k hk => (k2 k (by omega)).trans (hcd k hk))))
      refine pk_le b (i + 1) (fun _ => go) (fun _ => br_f (nI_ne0 (by omega) (by omega)) go)
end
