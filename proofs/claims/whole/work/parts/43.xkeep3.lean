/-! keepChunk as run calls it -/
section
variable {x_objectLimit x_stepLimit x_depthLimit x_pendingCount x_keptTokens x_keptLines x_lineCount x_codeCount x_cursor x_stop x_waitingCount x_openCount x_classCount x_callCount x_operandCount x_stepsTaken x_error x_raisedCode x_printCount x_lastPlace : Int32} {x_lastResult : Int64} {x_pending x_lineTable x_orders x_merging x_letterClass x_objectClass x_calls x_lastPrints : Nat → Int32} {x_code x_waiting x_globals x_entries x_attributes x_held x_operands : Nat → Int64}
variable {y_maxObjects y_maxSteps y_maxDepth y_kept y_end y_tokens y_pending y_lines y_classes y_prints y_place y_steps y_d y_valTop y_opTop y_opens y_pos y_tk y_tv y_stmt y_target y_err y_code y_outcome y_dry y_want y_starting y_ended y_bad y_hosted y_sawSuper : Int32} {y_result : Int64} {y_text y_numbers y_classOf y_alive y_orders y_lengths y_letters y_bases y_ops y_fLine y_fPos y_fStmt y_fTarget y_fMask y_fHome y_fOps y_fVals y_fNew y_out : Nat → Int32} {y_globals y_entries y_attrs y_vals y_locals y_fRecv : Nat → Int64}
theorem hs_xKeepW {tx pd LT0 : Nat → Int32} {cd0 : Nat → Int64} {cs pn kt kl a cc0 : Nat} (hD : hs_PD tx pd cs pn) (he : tx (cs + pn) = -1) (hcs : cs + pn < 1024) (hc0 : cs = 0 ∨ tx (cs - 1) = -1) (hpn : pn ≤ 400) (ha : a + pn ≤ 405) (hkl : kl < 100000) (hcc0 : cc0 + pn ≤ 443) {post : Int32 → SX → Prop}
    (Hw : ∀ (b : Nat) (P ind h : Nat → Nat) (tk : Nat → List Nat), a ≤ b → b ≤ a + pn → hs_Ch tx cs (cs + pn) a b P ind → hs_TK tx a b P h tk → (∀ i, a ≤ i → i < b → (tk i).length ≤ 400) → ∀ i, a ≤ i → i < b → ¬ hs_lok tk h ind a i → (∀ j, a ≤ j → j < i → hs_lok tk h ind a j) → ∀ (q1 q2 q3 q4 : Int32) (q5 : Nat → Int64) (LT : Nat → Int32) (cd : Nat → Int64), (∀ k, k < a * 14 → LT k = LT0 k) → (∀ k, k < cc0 → cd k = cd0 k) → post (nI (kl + (hs_nE tx cs (P i) + 1))) (x_objectLimit, x_stepLimit, x_depthLimit, 0, nI kt, nI kl, nI a, nI cc0, q1, q2, q3, q4, x_classCount, x_callCount, x_operandCount, x_stepsTaken, x_error, x_raisedCode, x_printCount, x_lastResult, x_lastPlace, pd, LT, cd, q5, x_globals, x_entries, x_orders, x_merging, x_letterClass, x_objectClass, x_attributes, x_calls, x_held, x_operands, x_lastPrints))
    (He : ∀ (b : Nat) (P ind h : Nat → Nat) (tk : Nat → List Nat), a ≤ b → b ≤ a + pn → hs_Ch tx cs (cs + pn) a b P ind → hs_TK tx a b P h tk → (∀ i, a ≤ i → i < b → (tk i).length ≤ 400) → (∀ i, a ≤ i → i < b → hs_lok tk h ind a i) → ¬ hs_eok h ind a b → ∀ (q1 q2 q3 q4 : Int32) (q5 : Nat → Int64) (LT : Nat → Int32) (cd : Nat → Int64), (∀ k, k < a * 14 → LT k = LT0 k) → (∀ k, k < cc0 → cd k = cd0 k) → post (nI (kl + (hs_nE tx cs (cs + pn) + 1) + 1)) (x_objectLimit, x_stepLimit, x_depthLimit, 0, nI kt, nI kl, nI a, nI cc0, q1, q2, q3, q4, x_classCount, x_callCount, x_operandCount, x_stepsTaken, x_error, x_raisedCode, x_printCount, x_lastResult, x_lastPlace, pd, LT, cd, q5, x_globals, x_entries, x_orders, x_merging, x_letterClass, x_objectClass, x_attributes, x_calls, x_held, x_operands, x_lastPrints))
    (Ho : ∀ (b : Nat) (P ind h : Nat → Nat) (tk : Nat → List Nat), a ≤ b → b ≤ a + pn → hs_Ch tx cs (cs + pn) a b P ind → hs_TK tx a b P h tk → (∀ i, a ≤ i → i < b → (tk i).length ≤ 400) → (∀ i, a ≤ i → i < b → hs_lok tk h ind a i) → hs_eok h ind a b → ∀ (q1 q2 q3 q4 : Int32) (q5 : Nat → Int64) (LT : Nat → Int32) (cd : Nat → Int64) (cc : Nat), cc0 ≤ cc → cc ≤ cc0 + pn → (∀ k, k < a * 14 → LT k = LT0 k) → (∀ k, k < cc0 → cd k = cd0 k) → (∀ j, a ≤ j → j < b → hs_LN LT cd ind tk a b cc j ∧ LT (j * 14 + 2) = nI (kl + (hs_nE tx cs (P j) + 1))) → post 0 (x_objectLimit, x_stepLimit, x_depthLimit, 0, nI (kt + pn), nI (kl + (hs_nE tx cs (cs + pn) + 1)), nI b, nI cc, q1, q2, q3, q4, x_classCount, x_callCount, x_operandCount, x_stepsTaken, x_error, x_raisedCode, x_printCount, x_lastResult, x_lastPlace, pd, LT, cd, q5, x_globals, x_entries, x_orders, x_merging, x_letterClass, x_objectClass, x_attributes, x_calls, x_held, x_operands, x_lastPrints)) :
    wpX_keepChunk post (x_objectLimit, x_stepLimit, x_depthLimit, nI pn, nI kt, nI kl, nI a, nI cc0, x_cursor, x_stop, x_waitingCount, x_openCount, x_classCount, x_callCount, x_operandCount, x_stepsTaken, x_error, x_raisedCode, x_printCount, x_lastResult, x_lastPlace, pd, LT0, cd0, x_waiting, x_globals, x_entries, x_orders, x_merging, x_letterClass, x_objectClass, x_attributes, x_calls, x_held, x_operands, x_lastPrints) := by
  refine hs_xSplitL hD he hcs hpn ha (fun LT b P E b1 b2 R hk => ?_)
  obtain ⟨C, K, hPA, hEP⟩ := hs_mkCh hD he hcs hc0 R
  have hl : ∀ i, a ≤ i → i < b → (hs_toks tx (P i) (E i - P i)).length ≤ 400 := fun i i1 i2 => by
    obtain ⟨r1, r2, r3, _⟩ := R.1 i i1 i2
    rw [hs_toksLen]; omega
  have hn := hs_nEle (tx := tx) (cs := cs) (cs + pn)
  have hn2 : hs_nE tx cs (cs + pn) + 1 < 2000 := by omega
  refine ⟨b - a + 2, hs_xKeepL (tl := hs_nE tx cs (cs + pn) + 1) (cs := cs) (pn := pn) (LT0 := LT0) (cd0 := cd0) (kt := kt) (kl := kl) (P := P) (E := E) (ind := fun i => hs_ind tx cs (P i)) (h := fun i => hs_hd (hs_toks tx (P i) (E i - P i))) (tk := fun i => hs_toks tx (P i) (E i - P i)) hkl b1 (by omega) hpn hcc0 (by omega) (fun i i1 i2 => hs_indLe (ind := fun i => hs_ind tx cs (P i)) C i1 i2) (fun i i1 i2 => ⟨(R.1 i i1 i2).1, (R.1 i i1 i2).2.1, (R.1 i i1 i2).2.2.1⟩) hEP (fun i _ _ => rfl) (fun i i1 i2 => ⟨hs_toksLen _ _, (K i i1 i2).2.1, fun x hx => ?_⟩) (fun i i1 i2 => ⟨(hPA i i1 i2).1, (hPA i i1 i2).2.1⟩) hn2
    (Hw b P _ _ _ b1 b2 C K hl) (He b P _ _ _ b1 b2 C K hl) (Ho b P _ _ _ b1 b2 C K hl) (b - a) a LT cd0 cc0 _ _ _ _ _ (Nat.le_refl _) (by omega) (fun j j1 j2 => ?_) (fun j j1 j2 => by omega) (fun j j1 j2 => by omega) hk (fun _ _ => rfl) (Nat.le_refl _) (by omega) (fun _ => by omega)⟩
  · have := (K i i1 i2).2.2.1 x hx
    intro hx0
    rw [hx0] at this
    rcases this with v | v | v | v | v
    · omega
    · omega
    · cases v
    · cases v
    · omega
  · obtain ⟨_, _, _, _, _, _, _, c1, c2, c3, c4⟩ := R.1 j j1 j2
    exact ⟨c1, c2, c3, c4⟩
end
