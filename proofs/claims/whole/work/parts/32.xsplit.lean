/-! the lines of a chunk on X's side -/
section
variable {x_objectLimit x_stepLimit x_depthLimit x_pendingCount x_keptTokens x_keptLines x_lineCount x_codeCount x_cursor x_stop x_waitingCount x_openCount x_classCount x_callCount x_operandCount x_stepsTaken x_error x_raisedCode x_printCount x_lastPlace : Int32} {x_lastResult : Int64} {x_pending x_lineTable x_orders x_merging x_letterClass x_objectClass x_calls x_lastPrints : Nat → Int32} {x_code x_waiting x_globals x_entries x_attributes x_held x_operands : Nat → Int64}
variable {y_maxObjects y_maxSteps y_maxDepth y_kept y_end y_tokens y_pending y_lines y_classes y_prints y_place y_steps y_d y_valTop y_opTop y_opens y_pos y_tk y_tv y_stmt y_target y_err y_code y_outcome y_dry y_want y_starting y_ended y_bad y_hosted y_sawSuper : Int32} {y_result : Int64} {y_text y_numbers y_classOf y_alive y_orders y_lengths y_letters y_bases y_ops y_fLine y_fPos y_fStmt y_fTarget y_fMask y_fHome y_fOps y_fVals y_fNew y_out : Nat → Int32} {y_globals y_entries y_attrs y_vals y_locals y_fRecv : Nat → Int64}
/-- the pending tokens of X stand in Y's text from cs on -/
def hs_PD (tx pd : Nat → Int32) (cs pn : Nat) : Prop := ∀ p, p < pn → pd p ≠ 0 ∧ tx (cs + p) = hs_norm (pd p)
def hs_ti (x : Int32) : Nat → Int32 := fun _ => x
theorem hs_litI {n : Nat} (h : n < 2 ^ 31) (x : Int32) (e : x = nI n) : x.toInt = (n : Int) := by rw [e]; exact nI_toInt h
/-- a raw token: an indent, or a token of a line -/
theorem hs_rawT {x : Int32} (h0 : x ≠ 0) : hs_okc (hs_norm x) ∧ (hs_norm x).toNatClampNeg ≠ 0 ∧ ((hs_en (hs_norm x).toNatClampNeg ∧ ∃ t, 40 ≤ t ∧ t ≤ 48 ∧ x = nI t ∧ hs_norm x = nI t) ∨ (¬ hs_en (hs_norm x).toNatClampNeg ∧ hs_rx x (hs_norm x).toNatClampNeg ∧ hs_vt (hs_norm x).toNatClampNeg ∧ (x < 40 ∨ 48 < x))) := by
  by_cases g : hs_good x
  · rw [hs_normT g]
    have hpos : ¬ x < 0 := by
      intro hn
      have h0' : (0 : Int32).toInt = 0 := by decide
      have h1 : (1 : Int32).toInt = 1 := by decide
      have h2 : (21 : Int32).toInt = 21 := by decide
      have h3 : (40 : Int32).toInt = 40 := by decide
      have h4 : (100 : Int32).toInt = 100 := by decide
      have h5 : (130 : Int32).toInt = 130 := by decide
      have h6 : (1000 : Int32).toInt = 1000 := by decide
      unfold hs_good at g
      simp only [Int32.le_iff_toInt_le, Int32.lt_iff_toInt_lt, h0', h1, h2, h3, h4, h5, h6] at g hn
      omega
    obtain ⟨t, ht, rfl⟩ := nI_of hpos
    have t0 : t ≠ 0 := fun e => h0 (by rw [e]; rfl)
    have G : (1 ≤ t ∧ t ≤ 13) ∨ (21 ≤ t ∧ t ≤ 32) ∨ (40 ≤ t ∧ t ≤ 48) ∨ (100 ≤ t ∧ t ≤ 125) ∨ (130 ≤ t ∧ t ≤ 155) ∨ 1000 ≤ t := by
      have L : ∀ a : Nat, a < 2 ^ 31 → (nI a ≤ nI t ↔ a ≤ t) := fun a ha => nI_leI ha ht
      have U : ∀ a : Nat, a < 2 ^ 31 → (nI t ≤ nI a ↔ t ≤ a) := fun a ha => nI_leI ht ha
      rcases g with g | g | g | g | g | g
      · exact Or.inl ⟨(L 1 (by decide)).mp g.1, (U 13 (by decide)).mp g.2⟩
      · exact Or.inr (Or.inl ⟨(L 21 (by decide)).mp g.1, (U 32 (by decide)).mp g.2⟩)
      · exact Or.inr (Or.inr (Or.inl ⟨(L 40 (by decide)).mp g.1, (U 48 (by decide)).mp g.2⟩))
      · exact Or.inr (Or.inr (Or.inr (Or.inl ⟨(L 100 (by decide)).mp g.1, (U 125 (by decide)).mp g.2⟩)))
      · exact Or.inr (Or.inr (Or.inr (Or.inr (Or.inl ⟨(L 130 (by decide)).mp g.1, (U 155 (by decide)).mp g.2⟩))))
      · exact Or.inr (Or.inr (Or.inr (Or.inr (Or.inr ((L 1000 (by decide)).mp g)))))
    rw [nI_clamp ht]
    refine ⟨Or.inr ⟨t, by omega, ht, rfl⟩, t0, ?_⟩
    by_cases e : 40 ≤ t ∧ t ≤ 48
    · exact Or.inl ⟨Or.inr e, t, e.1, e.2, rfl, rfl⟩
    · have hvt : hs_vt t := by
        rcases G with g | g | g | g | g | g
        · exact Or.inl g
        · exact Or.inr (Or.inl (by omega))
        · exact absurd g e
        · exact Or.inr (Or.inr (Or.inl (hs_isNi.mpr (by omega))))
        · exact Or.inr (Or.inr (Or.inr (Or.inl (hs_isCi.mpr (by omega)))))
        · exact Or.inr (Or.inr (Or.inr (Or.inr g)))
      refine Or.inr ⟨?_, Or.inr (Or.inl ⟨rfl, hvt, by omega, ht⟩), hvt, ?_⟩
      · rintro (z | z) <;> omega
      · by_cases q : t < 40
        · exact Or.inl (nI_lt (b := 40) q (by decide))
        · exact Or.inr (nI_lt (a := 48) (by omega) ht)
  · rw [hs_normF g]
    have c33 : (33 : Int32).toNatClampNeg = 33 := by decide
    rw [c33]
    refine ⟨Or.inr ⟨33, by decide, by decide, rfl⟩, by decide, Or.inr ⟨by rintro (z | z) <;> omega, Or.inr (Or.inr ⟨rfl, g, h0⟩), Or.inr (Or.inl (by decide)), ?_⟩⟩
    by_cases q : x < 40
    · exact Or.inl q
    · refine Or.inr (Classical.byContradiction fun z => g ?_)
      exact Or.inr (Or.inr (Or.inl ⟨Int32.not_lt.mp q, Int32.not_lt.mp z⟩))
/-- the rows of the lines that are found -/
def hs_Rw (tx LT : Nat → Int32) (cs kl a m f : Nat) (P E : Nat → Nat) : Prop :=
  (∀ j, a ≤ j → j < m → cs ≤ P j ∧ P j < E j ∧ E j ≤ f ∧ P j < f ∧ hs_ls tx cs (P j) ∧ (∀ k, P j ≤ k → k < E j → ¬ hs_en (hs_g tx k)) ∧ hs_en (hs_g tx (E j)) ∧ LT (j * 14 + 1) = nI (hs_ind tx cs (P j)) ∧ LT (j * 14 + 2) = nI (kl + (hs_nE tx cs (P j) + 1)) ∧ LT (j * 14 + 11) = nI (P j - cs) ∧ LT (j * 14 + 12) = nI (E j - cs)) ∧
  (∀ i j, a ≤ i → i < j → j < m → P i < P j) ∧ (∀ p, cs ≤ p → p < f → ¬ hs_en (hs_g tx p) → hs_ls tx cs p → ∃ i, a ≤ i ∧ i < m ∧ P i = p)
def hs_set (P : Nat → Nat) (m x : Nat) : Nat → Nat := fun j => if j = m then x else P j
theorem hs_setS {P : Nat → Nat} {m x : Nat} : hs_set P m x m = x := if_pos rfl
theorem hs_setN {P : Nat → Nat} {m x j : Nat} (h : j ≠ m) : hs_set P m x j = P j := if_neg h
theorem hs_xSplit {tx pd LT0 : Nat → Int32} {cs pn kl a : Nat} (hD : hs_PD tx pd cs pn) (he : tx (cs + pn) = -1) (hcs : cs + pn < 1024) (hpn : pn ≤ 400) (ha : a + pn ≤ 405) {post : Int32 → SX → Prop}
    (H : ∀ (LT : Nat → Int32) (b : Nat) (P E : Nat → Nat), a ≤ b → b ≤ a + pn → hs_Rw tx LT cs kl a b (cs + pn) P E → (∀ k, k < a * 14 → LT k = LT0 k) → post (nI (hs_nE tx cs (cs + pn) + 1)) (x_objectLimit, x_stepLimit, x_depthLimit, nI pn, x_keptTokens, nI kl, nI b, x_codeCount, x_cursor, x_stop, x_waitingCount, x_openCount, x_classCount, x_callCount, x_operandCount, x_stepsTaken, x_error, x_raisedCode, x_printCount, x_lastResult, x_lastPlace, pd, LT, x_code, x_waiting, x_globals, x_entries, x_orders, x_merging, x_letterClass, x_objectClass, x_attributes, x_calls, x_held, x_operands, x_lastPrints)) :
    ∀ (n k fr m : Nat) (LT : Nat → Int32) (P E : Nat → Nat), pn + 2 ≤ n + k → k ≤ pn → fr ≤ k → a ≤ m → m ≤ a + fr → hs_ls tx cs (cs + fr) → (∀ j, cs + fr ≤ j → j < cs + k → ¬ hs_en (hs_g tx j)) → hs_Rw tx LT cs kl a m (cs + fr) P E → (∀ k, k < a * 14 → LT k = LT0 k) →
    wX_splitLines_9 post x_objectLimit x_stepLimit x_depthLimit (nI pn) x_keptTokens (nI kl) x_codeCount x_cursor x_stop x_waitingCount x_openCount x_classCount x_callCount x_operandCount x_stepsTaken x_error x_raisedCode x_printCount x_lastResult x_lastPlace n (nI (hs_nE tx cs (cs + fr) + 1)) (nI (hs_ind tx cs (cs + fr))) (nI fr) (nI k) (nI m) pd LT x_code x_waiting x_globals x_entries x_orders x_merging x_letterClass x_objectClass x_attributes x_calls x_held x_operands x_lastPrints := by
  intro n
  induction n with
  | zero => intro k fr m LT P E h1 h2; omega
  | succ n ih =>
    intro k fr m LT P E h1 h2 h3 hm1 hm2 hl hno hR hLT
    refine br_f (nI_nlt h2 (by omega)) ?_
    -- writing a row
    have addrow : fr < k → hs_en (hs_g tx (cs + k)) → ∀ {Q : Nat → (Nat → Int32) → Prop}, (∀ LT', hs_Rw tx LT' cs kl a (m + 1) (cs + k) (hs_set P m (cs + fr)) (hs_set E m (cs + k)) → (∀ i, i < a * 14 → LT' i = LT0 i) → Q (m + 1) LT') → Q (m + 1) (upd (upd (upd (upd LT (m * 14 + 1) (nI (hs_ind tx cs (cs + fr)))) (m * 14 + 2) (nI (kl + (hs_nE tx cs (cs + fr) + 1)))) (m * 14 + 11) (nI fr)) (m * 14 + 12) (nI k)) := by
      intro hf hen Q hQ
      refine hQ _ ?_ (fun i hi => ?_)
      · obtain ⟨r1, r2, r3⟩ := hR
        refine ⟨fun j ja jm => ?_, fun i j ia ij jm => ?_, fun p p1 p2 p3 p4 => ?_⟩
        · by_cases e : j = m
          · subst e
            rw [hs_setS, hs_setS]
            refine ⟨by omega, by omega, Nat.le_refl _, by omega, hl, fun q q1 q2 => hno q q1 (by omega), hen, ?_, ?_, ?_, ?_⟩
            · rw [pk_un (by omega), pk_un (by omega), pk_un (by omega), pk_us]
            · rw [pk_un (by omega), pk_un (by omega), pk_us]
            · rw [pk_un (by omega), pk_us]; exact congrArg nI (by omega)
            · rw [pk_us]; exact congrArg nI (by omega)
          · obtain ⟨a1, a2, a3, a4, a5, a6, a7, a8, a9, a10, a11⟩ := r1 j ja (by omega)
            rw [hs_setN e, hs_setN e]
            refine ⟨a1, a2, by omega, by omega, a5, a6, a7, ?_, ?_, ?_, ?_⟩
            · rw [pk_un (by omega), pk_un (by omega), pk_un (by omega), pk_un (by omega)]; exact a8
            · rw [pk_un (by omega), pk_un (by omega), pk_un (by omega), pk_un (by omega)]; exact a9
            · rw [pk_un (by omega), pk_un (by omega), pk_un (by omega), pk_un (by omega)]; exact a10
            · rw [pk_un (by omega), pk_un (by omega), pk_un (by omega), pk_un (by omega)]; exact a11
        · by_cases e : j = m
          · subst e
            rw [hs_setS, hs_setN (by omega)]
            exact (r1 i ia (by omega)).2.2.2.1
          · rw [hs_setN (by omega), hs_setN e]
            exact r2 i j ia ij (by omega)
        · by_cases q : p < cs + fr
          · obtain ⟨i, i1, i2, i3⟩ := r3 p p1 q p3 p4
            exact ⟨i, i1, by omega, by rw [hs_setN (by omega)]; exact i3⟩
          · refine ⟨m, hm1, by omega, ?_⟩
            rw [hs_setS]
            by_cases e : p = cs + fr
            · exact e.symm
            · exfalso
              rcases p4 with z | z
              · omega
              · exact hno (p - 1) (by omega) (by omega) z
      · rw [pk_un (by omega), pk_un (by omega), pk_un (by omega), pk_un (by omega)]
        exact hLT i hi
    have en0 : hs_nE tx cs (cs + k) = hs_nE tx cs (cs + fr) := by
      have := hs_nEs (tx := tx) (cs := cs) (q := cs + fr) (k - fr) (fun j j1 j2 => hno j j1 (by omega))
      rw [show cs + fr + (k - fr) = cs + k by omega] at this
      exact this
    have nle := hs_nEle (tx := tx) (cs := cs) (cs + fr)
    -- a line end at k: what follows it, whether or not a row was written
    have t141 : ∀ (z : Int32) (m' : Nat) (LT' : Nat → Int32) (P' E' : Nat → Nat), a ≤ m' → m' ≤ a + k → hs_en (hs_g tx (cs + k)) → (k < pn → ∃ t, 40 ≤ t ∧ t ≤ 48 ∧ z = nI t ∧ tx (cs + k) = nI t) → hs_Rw tx LT' cs kl a m' (cs + k) P' E' → (∀ i, i < a * 14 → LT' i = LT0 i) →
        wX_splitLines_141 post (wX_splitLines_9 post x_objectLimit x_stepLimit x_depthLimit (nI pn) x_keptTokens (nI kl) x_codeCount x_cursor x_stop x_waitingCount x_openCount x_classCount x_callCount x_operandCount x_stepsTaken x_error x_raisedCode x_printCount x_lastResult x_lastPlace n) (nI (hs_nE tx cs (cs + fr) + 1)) (nI (hs_ind tx cs (cs + fr))) (nI fr) (nI k) z x_objectLimit x_stepLimit x_depthLimit (nI pn) x_keptTokens (nI kl) (nI m') x_codeCount x_cursor x_stop x_waitingCount x_openCount x_classCount x_callCount x_operandCount x_stepsTaken x_error x_raisedCode x_printCount x_lastResult x_lastPlace pd LT' x_code x_waiting x_globals x_entries x_orders x_merging x_letterClass x_objectClass x_attributes x_calls x_held x_operands x_lastPrints := by
      intro z m' LT' P' E' ma mk hen hz hR' hLT'
      unfold wX_splitLines_141
      refine pk_le pn k (fun q => ?_) (fun q => ?_)
      · have ek : k = pn := by omega
        subst ek
        refine nm_r (nI_1 k) ?_
        obtain ⟨n, rfl⟩ : ∃ j, n = j + 1 := ⟨n - 1, by omega⟩
        refine br_t (nI_lt (by omega) (by omega)) ?_
        rw [← en0]
        exact H LT' m' P' E' ma (by omega) hR' hLT'
      · obtain ⟨t, t1, t2, rfl, htx⟩ := hz q
        refine nm_r (nI_1 _) (nm_r (show nI t - 40 = nI (t - 40) from pk_sub (b := 40) t1) (nm_r (nI_1 k) (nm_r (nI_1 k) ?_)))
        have hg : hs_g tx (cs + k) = t := by unfold hs_g; rw [htx, nI_clamp (by omega)]
        have e1 : hs_ind tx cs (cs + (k + 1)) = t - 40 := by
          unfold hs_ind
          rw [if_neg (by omega), show cs + (k + 1) - 1 = cs + k by omega, hg]
        have e2 : hs_nE tx cs (cs + (k + 1)) = hs_nE tx cs (cs + fr) + 1 := by
          show hs_nE tx cs (cs + k) + _ = _
          rw [en0, if_pos ⟨Nat.le_add_right cs k, hen⟩]
        have := ih (k + 1) (k + 1) m' LT' P' E' (by omega) (by omega) (Nat.le_refl _) ma (by omega) (Or.inr (by rw [show cs + (k + 1) - 1 = cs + k by omega]; exact hen)) (fun j j1 j2 => by omega) ?_ hLT'
        · rw [e1, e2] at this
          exact this
        · obtain ⟨r1, r2, r3⟩ := hR'
          refine ⟨fun j ja jm => ?_, r2, fun p p1 p2 p3 p4 => ?_⟩
          · obtain ⟨a1, a2, a3, a4, a5⟩ := r1 j ja jm
            exact ⟨a1, a2, by omega, by omega, a5⟩
          · by_cases e : p = cs + k
            · subst e; exact absurd hen p3
            · exact r3 p p1 (by omega) p3 p4
    have end39 : ∀ (z : Int32) (zt : Nat), 40 ≤ zt → zt ≤ 48 → z = nI zt → hs_en (hs_g tx (cs + k)) → (k < pn → ∃ t, 40 ≤ t ∧ t ≤ 48 ∧ z = nI t ∧ tx (cs + k) = nI t) →
        wX_splitLines_39 post (wX_splitLines_9 post x_objectLimit x_stepLimit x_depthLimit (nI pn) x_keptTokens (nI kl) x_codeCount x_cursor x_stop x_waitingCount x_openCount x_classCount x_callCount x_operandCount x_stepsTaken x_error x_raisedCode x_printCount x_lastResult x_lastPlace n) (nI (hs_nE tx cs (cs + fr) + 1)) (nI (hs_ind tx cs (cs + fr))) (nI fr) (nI k) z x_objectLimit x_stepLimit x_depthLimit (nI pn) x_keptTokens (nI kl) (nI m) x_codeCount x_cursor x_stop x_waitingCount x_openCount x_classCount x_callCount x_operandCount x_stepsTaken x_error x_raisedCode x_printCount x_lastResult x_lastPlace pd LT x_code x_waiting x_globals x_entries x_orders x_merging x_letterClass x_objectClass x_attributes x_calls x_held x_operands x_lastPrints := by
      intro z zt z1 z2 ez hen hz
      subst ez
      unfold wX_splitLines_39
      refine br_f (nI_nlt (b := 40) z1 (by omega)) (br_t (nI_le (b := 48) z2 (by decide)) ?_)
      refine pk_le k fr (fun q => ?_) (fun q => ?_)
      · have ek : fr = k := by omega
        subst ek
        exact t141 _ m LT P E hm1 hm2 hen hz hR hLT
      · refine br_f (nI_ge (b := 405) (by omega) (by decide)) ?_
        have em : nI m * 14 = nI (m * 14) := pk_mul m 14
        have e1 : nI (m * 14) + 1 = nI (m * 14 + 1) := nI_1 _
        have e2 : nI (m * 14) + 2 = nI (m * 14 + 2) := nI_add _ 2
        have e11 : nI (m * 14) + 11 = nI (m * 14 + 11) := nI_add _ 11
        have e12 : nI (m * 14) + 12 = nI (m * 14 + 12) := nI_add _ 12
        refine nm_r em ?_
        rw [e1, e2, e11, e12, nI_clamp (show m * 14 + 1 < 2 ^ 31 by omega), nI_clamp (show m * 14 + 2 < 2 ^ 31 by omega), nI_clamp (show m * 14 + 11 < 2 ^ 31 by omega), nI_clamp (show m * 14 + 12 < 2 ^ 31 by omega), nI_add]
        refine And.intro (vp_in_nI (by omega) (by decide)) (nm_e (And.intro (vp_in_nI (by omega) (by decide)) (nm_e (And.intro (vp_in_nI (by omega) (by decide)) (nm_e (And.intro (vp_in_nI (by omega) (by decide)) (nm_e (nm_r (nI_1 m) ?_))))))))
        exact addrow q hen (Q := fun m' LT' => wX_splitLines_141 post (wX_splitLines_9 post x_objectLimit x_stepLimit x_depthLimit (nI pn) x_keptTokens (nI kl) x_codeCount x_cursor x_stop x_waitingCount x_openCount x_classCount x_callCount x_operandCount x_stepsTaken x_error x_raisedCode x_printCount x_lastResult x_lastPlace n) (nI (hs_nE tx cs (cs + fr) + 1)) (nI (hs_ind tx cs (cs + fr))) (nI fr) (nI k) (nI zt) x_objectLimit x_stepLimit x_depthLimit (nI pn) x_keptTokens (nI kl) (nI m') x_codeCount x_cursor x_stop x_waitingCount x_openCount x_classCount x_callCount x_operandCount x_stepsTaken x_error x_raisedCode x_printCount x_lastResult x_lastPlace pd LT' x_code x_waiting x_globals x_entries x_orders x_merging x_letterClass x_objectClass x_attributes x_calls x_held x_operands x_lastPrints) (fun LT' hR' hLT' => t141 _ (m + 1) LT' _ _ (by omega) (by omega) hen hz hR' hLT')
    refine pk_le pn k (fun q => ?_) (fun q => ?_)
    · have ek : k = pn := by omega
      refine end39 40 40 (by decide) (by decide) rfl (Or.inl ?_) (fun y => by omega)
      rw [ek]; unfold hs_g; rw [he]; exact hs_m1c
    · refine And.intro (vp_in_nI (by omega) (by decide)) ?_
      rw [nI_clamp (show k < 2 ^ 31 by omega)]
      obtain ⟨d0, d1⟩ := hD k q
      obtain ⟨w1, w2, w3⟩ := hs_rawT d0
      rw [← d1] at w1 w2 w3
      rcases w3 with ⟨w3, t, t1, t2, t3, t4⟩ | ⟨w3, w4, w5, w6⟩
      · rw [t3]
        exact end39 (nI t) t t1 t2 rfl w3 (fun _ => ⟨t, t1, t2, rfl, t4⟩)
      · have nxt : wX_splitLines_9 post x_objectLimit x_stepLimit x_depthLimit (nI pn) x_keptTokens (nI kl) x_codeCount x_cursor x_stop x_waitingCount x_openCount x_classCount x_callCount x_operandCount x_stepsTaken x_error x_raisedCode x_printCount x_lastResult x_lastPlace n (nI (hs_nE tx cs (cs + fr) + 1)) (nI (hs_ind tx cs (cs + fr))) (nI fr) (nI (k + 1)) (nI m) pd LT x_code x_waiting x_globals x_entries x_orders x_merging x_letterClass x_objectClass x_attributes x_calls x_held x_operands x_lastPrints := by
          refine ih (k + 1) fr m LT P E (by omega) (by omega) (by omega) hm1 hm2 hl (fun j j1 j2 => ?_) hR hLT
          by_cases e : j = cs + k
          · subst e; exact w3
          · exact hno j j1 (by omega)
        unfold wX_splitLines_39
        by_cases z1 : pd k < 40
        · exact br_t z1 (nm_r (nI_1 k) nxt)
        · refine br_f z1 (br_f ?_ (nm_r (nI_1 k) nxt))
          have := w6.resolve_left z1
          exact Int32.not_le.mpr this
theorem hs_xSplitL {tx pd LT0 : Nat → Int32} {cs pn kl a : Nat} (hD : hs_PD tx pd cs pn) (he : tx (cs + pn) = -1) (hcs : cs + pn < 1024) (hpn : pn ≤ 400) (ha : a + pn ≤ 405) {post : Int32 → SX → Prop}
    (H : ∀ (LT : Nat → Int32) (b : Nat) (P E : Nat → Nat), a ≤ b → b ≤ a + pn → hs_Rw tx LT cs kl a b (cs + pn) P E → (∀ k, k < a * 14 → LT k = LT0 k) → post (nI (hs_nE tx cs (cs + pn) + 1)) (x_objectLimit, x_stepLimit, x_depthLimit, nI pn, x_keptTokens, nI kl, nI b, x_codeCount, x_cursor, x_stop, x_waitingCount, x_openCount, x_classCount, x_callCount, x_operandCount, x_stepsTaken, x_error, x_raisedCode, x_printCount, x_lastResult, x_lastPlace, pd, LT, x_code, x_waiting, x_globals, x_entries, x_orders, x_merging, x_letterClass, x_objectClass, x_attributes, x_calls, x_held, x_operands, x_lastPrints)) : wpX_splitLines post (x_objectLimit, x_stepLimit, x_depthLimit, nI pn, x_keptTokens, nI kl, nI a, x_codeCount, x_cursor, x_stop, x_waitingCount, x_openCount, x_classCount, x_callCount, x_operandCount, x_stepsTaken, x_error, x_raisedCode, x_printCount, x_lastResult, x_lastPlace, pd, LT0, x_code, x_waiting, x_globals, x_entries, x_orders, x_merging, x_letterClass, x_objectClass, x_attributes, x_calls, x_held, x_operands, x_lastPrints) := by
  refine ⟨pn + 2, ?_⟩
  have e1 : hs_nE tx cs (cs + 0) + 1 = 1 := by rw [hs_nE0 (cs + 0) (by omega)]
  have e2 : hs_ind tx cs (cs + 0) = 0 := if_pos rfl
  have L : ∀ x1 x2 : Int32, x1 = nI (hs_nE tx cs (cs + 0) + 1) → x2 = nI (hs_ind tx cs (cs + 0)) → wX_splitLines_9 post x_objectLimit x_stepLimit x_depthLimit (nI pn) x_keptTokens (nI kl) x_codeCount x_cursor x_stop x_waitingCount x_openCount x_classCount x_callCount x_operandCount x_stepsTaken x_error x_raisedCode x_printCount x_lastResult x_lastPlace (pn + 2) x1 x2 (nI 0) (nI 0) (nI a) pd LT0 x_code x_waiting x_globals x_entries x_orders x_merging x_letterClass x_objectClass x_attributes x_calls x_held x_operands x_lastPrints := by
    intro x1 x2 h1 h2
    subst h1 h2
    exact hs_xSplit hD he hcs hpn ha H (pn + 2) 0 0 a LT0 (fun _ => 0) (fun _ => 0) (by omega) (by omega) (Nat.le_refl _) (Nat.le_refl _) (by omega) (Or.inl rfl) (fun j j1 j2 => by omega) ⟨fun j ja jm => by omega, fun i j ia ij jm => by omega, fun p p1 p2 => by omega⟩ (fun _ _ => rfl)
  exact L 1 0 (by rw [e1]; rfl) (by rw [e2]; rfl)
end
