/-! the reference: a chunk is taken -/
section
variable {x_objectLimit x_stepLimit x_depthLimit x_pendingCount x_keptTokens x_keptLines x_lineCount x_codeCount x_cursor x_stop x_waitingCount x_openCount x_classCount x_callCount x_operandCount x_stepsTaken x_error x_raisedCode x_printCount x_lastPlace : Int32} {x_lastResult : Int64} {x_pending x_lineTable x_orders x_merging x_letterClass x_objectClass x_calls x_lastPrints : Nat → Int32} {x_code x_waiting x_globals x_entries x_attributes x_held x_operands : Nat → Int64}
variable {y_maxObjects y_maxSteps y_maxDepth y_kept y_end y_tokens y_pending y_lines y_classes y_prints y_place y_steps y_d y_valTop y_opTop y_opens y_pos y_tk y_tv y_stmt y_target y_err y_code y_outcome y_dry y_want y_starting y_ended y_bad y_hosted y_sawSuper : Int32} {y_result : Int64} {y_text y_numbers y_classOf y_alive y_orders y_lengths y_letters y_bases y_ops y_fLine y_fPos y_fStmt y_fTarget y_fMask y_fHome y_fOps y_fVals y_fNew y_out : Nat → Int32} {y_globals y_entries y_attrs y_vals y_locals y_fRecv : Nat → Int64}
variable {tx LT LT' nu : Nat → Int32} {cd cd' : Nat → Int64} {lc kp cc cs ce a b kl : Nat} {P ind h : Nat → Nat} {tk : Nat → List Nat} {ca cb us ue : Nat → Nat}
theorem hs_TLT {cc9 : Nat} (T : hs_T tx nu LT cd lc kp cc P ind h tk ca cb us ue) (hc : cc ≤ cc9) (hc2 : cc9 ≤ 443) (eL : ∀ k, k < lc * 14 → LT' k = LT k) (ec : ∀ k, k < cc → cd' k = cd k) : hs_T tx nu LT' cd' lc kp cc9 P ind h tk ca cb us ue := by
  obtain ⟨c1, c2, c3, T⟩ := T
  refine ⟨c1, hc2, c3, fun j hj => ?_⟩
  obtain ⟨t1, t2, t3, t4, t5, t6, t7, t8, t9, t10, t11⟩ := T j hj
  exact ⟨t1, t2, t3, t4, t5, t6, t7, hs_LNC (h := h) (h' := h) (fun i i1 i2 => ⟨rfl, rfl, rfl⟩) t1 t2 (fun k k1 k2 => eL k (by omega)) ec hc t8, t9, t10, by rw [eL _ (by omega)]; exact t11⟩
theorem hs_yFoB {x1 : Int32} (C : hs_Ch tx cs ce a b P ind) {post : Int32 → Prop} (hpost : post (hs_at P b a)) :
    ∀ n q, ce + 2 ≤ n + q → cs ≤ q → q ≤ ce → hs_ls tx cs q → (∀ j, a ≤ j → j < b → q ≤ P j) → wY_follow_6 post x1 0 y_maxObjects y_maxSteps y_maxDepth y_kept y_end y_tokens y_pending y_lines y_classes y_prints y_place y_steps y_d y_valTop y_opTop y_opens y_pos y_tk y_tv y_stmt y_target y_err y_code y_outcome y_result y_dry y_want y_starting y_ended y_bad y_hosted y_sawSuper tx y_numbers y_globals y_entries y_attrs y_classOf y_alive y_orders y_lengths y_letters y_bases y_vals y_ops y_locals y_fRecv y_fLine y_fPos y_fStmt y_fTarget y_fMask y_fHome y_fOps y_fVals y_fNew y_out n (nI q) := by
  have C' := C
  obtain ⟨⟨hc, h0, hok⟩, hnz, hcs, hP, hm, hall⟩ := C
  intro n
  induction n with
  | zero => intro q h1 h2 h3; omega
  | succ n ih =>
    intro q h1 h2 h3 hl hlow
    refine br_f (nI_pos (by omega)) (And.intro (vp_in_nI (by omega) (by decide)) ?_)
    rw [nI_clamp (show q < 2 ^ 31 by omega)]
    refine hs_yends (hok q h2 h3) (fun he => br_f (by decide) ?_) (fun he => br_t rfl ?_)
    · have hne : ∀ j, a ≤ j → j < b → q ≠ P j := fun j j1 j2 z => by
        have := (hP j j1 j2).2.2.1
        rw [← z] at this
        exact this he
      obtain ⟨q2, hq2⟩ := hs_nlEx ⟨hc, h0, hok⟩ (p := q) h3
      unfold wY_follow_40
      refine hs_yNL ⟨hc, h0, hok⟩ h2 hq2 ?_
      rcases hs_adv C' h2 hq2 with ⟨g0, g1, g2⟩ | ⟨g0, g1, g1', g2, g3⟩
      · have en : hs_nx tx q2 = -1 := if_pos g0
        rw [en]
        have eb : ¬ a < b := fun z => by
          have z1 := hlow a (Nat.le_refl _) z
          have z2 := g2 a (Nat.le_refl _) z
          have z3 := hne a (Nat.le_refl _) z
          omega
        have ea : hs_at P b a = -1 := if_neg eb
        rw [ea] at hpost
        obtain ⟨m, rfl⟩ : ∃ m, n = m + 1 := ⟨n - 1, by omega⟩
        exact br_t (by decide) hpost
      · have en : hs_nx tx q2 = nI (q2 + 1) := if_neg g0
        rw [en]
        refine ih (q2 + 1) (by omega) (by omega) (by omega) g2 (fun j j1 j2 => ?_)
        have z1 := hlow j j1 j2
        have z3 := hne j j1 j2
        rcases g3 j j1 j2 with z | z
        · omega
        · exact z
    · have hqc : q < ce := by
        rcases Nat.lt_or_ge q ce with z | z
        · exact z
        · have z2 : q = ce := by omega
          subst z2
          exact absurd (Or.inl h0) he
      obtain ⟨i, ia, ib, e⟩ := hall q h2 hqc he hl
      have eia : i = a := by
        rcases Nat.lt_or_ge a i with z | z
        · have y1 := hm a i (Nat.le_refl _) z ib
          have y2 := hlow a (Nat.le_refl _) (by omega)
          omega
        · omega
      subst eia
      have ea : hs_at P b i = nI (P i) := if_pos ib
      rw [ea, e] at hpost
      exact br_t rfl hpost
/-- the first line of the chunk -/
theorem hs_yFirstL {post : Int32 → Prop} (C : hs_Ch tx cs ce a b P ind) (hcc : cs ≤ ce) (H : post (hs_at P b a)) : wpY_ends (fun r => ((r = 0 → post (nI cs)) ∧ (¬ r = 0 → wpY_follow (fun r2 => post r2) (y_maxObjects, y_maxSteps, y_maxDepth, y_kept, y_end, y_tokens, y_pending, y_lines, y_classes, y_prints, y_place, y_steps, y_d, y_valTop, y_opTop, y_opens, y_pos, y_tk, y_tv, y_stmt, y_target, y_err, y_code, y_outcome, y_result, y_dry, y_want, y_starting, y_ended, y_bad, y_hosted, y_sawSuper, tx, y_numbers, y_globals, y_entries, y_attrs, y_classOf, y_alive, y_orders, y_lengths, y_letters, y_bases, y_vals, y_ops, y_locals, y_fRecv, y_fLine, y_fPos, y_fStmt, y_fTarget, y_fMask, y_fHome, y_fOps, y_fVals, y_fNew, y_out) (nI cs) 0))) (y_maxObjects, y_maxSteps, y_maxDepth, y_kept, y_end, y_tokens, y_pending, y_lines, y_classes, y_prints, y_place, y_steps, y_d, y_valTop, y_opTop, y_opens, y_pos, y_tk, y_tv, y_stmt, y_target, y_err, y_code, y_outcome, y_result, y_dry, y_want, y_starting, y_ended, y_bad, y_hosted, y_sawSuper, tx, y_numbers, y_globals, y_entries, y_attrs, y_classOf, y_alive, y_orders, y_lengths, y_letters, y_bases, y_vals, y_ops, y_locals, y_fRecv, y_fLine, y_fPos, y_fStmt, y_fTarget, y_fMask, y_fHome, y_fOps, y_fVals, y_fNew, y_out) (tx cs) := by
  have C' := C
  obtain ⟨⟨hc, h0, hok⟩, hnz, hcs, hP, hm, hall⟩ := C
  refine hs_yends (hok cs (Nat.le_refl _) hcc) (fun he => br_f (by decide) ?_) (fun he => br_t rfl ?_)
  · have hne : ∀ j, a ≤ j → j < b → cs ≠ P j := fun j j1 j2 z => by
      have := (hP j j1 j2).2.2.1
      rw [← z] at this
      exact this he
    obtain ⟨q2, hq2⟩ := hs_nlEx ⟨hc, h0, hok⟩ (p := cs) hcc
    refine hs_yNL ⟨hc, h0, hok⟩ (Nat.le_refl _) hq2 ?_
    rcases hs_adv C' (Nat.le_refl _) hq2 with ⟨g0, g1, g2⟩ | ⟨g0, g1, g1', g2, g3⟩
    · have en : hs_nx tx q2 = -1 := if_pos g0
      rw [en]
      have eb : ¬ a < b := fun z => by
        have z1 := (hP a (Nat.le_refl _) z).1
        have z2 := g2 a (Nat.le_refl _) z
        have z3 := hne a (Nat.le_refl _) z
        omega
      have ea : hs_at P b a = -1 := if_neg eb
      rw [ea] at H
      exact ⟨1, br_t (by decide) H⟩
    · have en : hs_nx tx q2 = nI (q2 + 1) := if_neg g0
      rw [en]
      refine ⟨ce + 2, hs_yFoB C' H _ (q2 + 1) (by omega) (by omega) (by omega) g2 (fun j j1 j2 => ?_)⟩
      have := (hP j j1 j2).1
      have z3 := hne j j1 j2
      rcases g3 j j1 j2 with z | z
      · omega
      · exact z
  · have hqc : cs < ce := by
      rcases Nat.lt_or_ge cs ce with z | z
      · exact z
      · have z2 : cs = ce := by omega
        subst z2
        exact absurd (Or.inl h0) he
    obtain ⟨i, ia, ib, e⟩ := hall cs (Nat.le_refl _) hqc he (Or.inl rfl)
    have eia : i = a := by
      rcases Nat.lt_or_ge a i with z | z
      · have y1 := hm a i (Nat.le_refl _) z ib
        have y2 := (hP a (Nat.le_refl _) (by omega)).1
        omega
      · omega
    subst eia
    have ea : hs_at P b i = nI (P i) := if_pos ib
    rw [ea, e] at H
    exact H
theorem hs_yCount {x2 : Int32} {post : Int32 → SY → Prop} (C : hs_Ch tx cs ce a b P ind) (hkl : kl < 100000) (H : (x2 < 0 → wY_run_173 post x2 y_maxObjects y_maxSteps y_maxDepth (nI cs) (nI cs) y_tokens y_pending (nI (kl + 1 + hs_nE tx cs ce)) y_classes y_prints y_place y_steps y_d y_valTop y_opTop y_opens y_pos y_tk y_tv y_stmt y_target y_err y_code y_outcome y_result y_dry y_want y_starting y_ended y_bad y_hosted y_sawSuper tx y_numbers y_globals y_entries y_attrs y_classOf y_alive y_orders y_lengths y_letters y_bases y_vals y_ops y_locals y_fRecv y_fLine y_fPos y_fStmt y_fTarget y_fMask y_fHome y_fOps y_fVals y_fNew y_out) ∧ (¬ x2 < 0 → wY_run_173 post x2 y_maxObjects y_maxSteps y_maxDepth (nI (ce + 1)) (nI (ce + 1)) y_tokens y_pending (nI (kl + 1 + hs_nE tx cs ce)) y_classes y_prints y_place y_steps y_d y_valTop y_opTop y_opens y_pos y_tk y_tv y_stmt y_target y_err y_code y_outcome y_result y_dry y_want y_starting y_ended y_bad y_hosted y_sawSuper tx y_numbers y_globals y_entries y_attrs y_classOf y_alive y_orders y_lengths y_letters y_bases y_vals y_ops y_locals y_fRecv y_fLine y_fPos y_fStmt y_fTarget y_fMask y_fHome y_fOps y_fVals y_fNew y_out)) :
    ∀ (n q : Nat), q + n = ce → cs ≤ q → wY_run_97 post x2 y_maxObjects y_maxSteps y_maxDepth (nI cs) (nI ce) y_tokens y_pending y_classes y_prints y_place y_steps y_d y_valTop y_opTop y_opens y_pos y_tk y_tv y_stmt y_target y_err y_code y_outcome y_result y_dry y_want y_starting y_ended y_bad y_hosted y_sawSuper tx y_numbers y_globals y_entries y_attrs y_classOf y_alive y_orders y_lengths y_letters y_bases y_vals y_ops y_locals y_fRecv y_fLine y_fPos y_fStmt y_fTarget y_fMask y_fHome y_fOps y_fVals y_fNew y_out (n + 1) (nI q) (nI (kl + 1 + hs_nE tx cs q)) := by
  obtain ⟨⟨hc, h0, hok⟩, hnz, hcs, hP, hm, hall⟩ := C
  intro n
  induction n with
  | zero =>
    intro q hq hcq
    have : q = ce := by omega
    subst this
    exact br_t (nI_le (Nat.le_refl _) (by omega)) (br_c (fun z => H.1 z) (fun z => nm_r (nI_1 q) (nm_r (nI_1 q) (H.2 z))))
  | succ n ih =>
    intro q hq hcq
    have ihn := ih (q + 1) (by omega) (by omega)
    have es : hs_nE tx cs (q + 1) = hs_nE tx cs q + (if cs ≤ q ∧ (hs_g tx q = 0 ∨ (40 ≤ hs_g tx q ∧ hs_g tx q ≤ 48)) then 1 else 0) := rfl
    have nz := hnz q hcq (by omega)
    refine br_f (nI_ge (by omega) (by omega)) ?_
    rw [nI_clamp (show q < 2 ^ 31 by omega)]
    refine And.intro (vp_in_nI (by omega) (by decide)) ?_
    rcases hs_okcE (hok q hcq (by omega)) with ⟨z, _⟩ | ⟨z, zl, e⟩
    · exact absurd z nz
    · have eg : hs_g tx q = (tx q).toNatClampNeg := rfl
      rw [e]
      generalize (tx q).toNatClampNeg = t at *
      refine pk_lt t 40 (fun w => ?_) (fun w => And.intro (vp_in_nI (by omega) (by decide)) (pk_lt 48 t (fun w2 => ?_) (fun w2 => ?_)))
      · rw [if_neg (by omega), Nat.add_zero] at es
        rw [es] at ihn
        exact nm_r (nI_1 q) ihn
      · rw [if_neg (by omega), Nat.add_zero] at es
        rw [es] at ihn
        exact nm_r (nI_1 q) ihn
      · rw [if_pos (by omega)] at es
        rw [es, show kl + 1 + (hs_nE tx cs q + 1) = kl + 1 + hs_nE tx cs q + 1 by omega] at ihn
        exact nm_r (nI_1 _) (nm_r (nI_1 q) ihn)
end
