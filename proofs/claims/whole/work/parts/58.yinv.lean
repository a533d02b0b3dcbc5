/-! a call is started, on the reference's side -/
section
variable {x_objectLimit x_stepLimit x_depthLimit x_pendingCount x_keptTokens x_keptLines x_lineCount x_codeCount x_cursor x_stop x_waitingCount x_openCount x_classCount x_callCount x_operandCount x_stepsTaken x_error x_raisedCode x_printCount x_lastPlace : Int32} {x_lastResult : Int64} {x_pending x_lineTable x_orders x_merging x_letterClass x_objectClass x_calls x_lastPrints : Nat → Int32} {x_code x_waiting x_globals x_entries x_attributes x_held x_operands : Nat → Int64}
variable {y_maxObjects y_maxSteps y_maxDepth y_kept y_end y_tokens y_pending y_lines y_classes y_prints y_place y_steps y_d y_valTop y_opTop y_opens y_pos y_tk y_tv y_stmt y_target y_err y_code y_outcome y_dry y_want y_starting y_ended y_bad y_hosted y_sawSuper : Int32} {y_result : Int64} {y_text y_numbers y_classOf y_alive y_orders y_lengths y_letters y_bases y_ops y_fLine y_fPos y_fStmt y_fTarget y_fMask y_fHome y_fOps y_fVals y_fNew y_out : Nat → Int32} {y_globals y_entries y_attrs y_vals y_locals y_fRecv : Nat → Int64}
variable {P h ind : Nat → Nat} {tk : Nat → List Nat} {tx : Nat → Int32} {lc cn d vt mD n a us cs ce ca cb l m s ot : Nat} {t : Option Nat} {ml : Nat → List Nat} {gl ex ey at1 op va HE loc fRe : Nat → Int64} {LT fMa fHo fPo fSt fTa fVa fOp fNe fLi : Nat → Int32} {rv arg : Int64} {fo : Option Nat}
theorem hs_bt1 {x : Int32} {q : Nat} (hq : q < 32) : (x >>> (nI q &&& 31)) &&& 1 = 0 ↔ bt x q = false := by
  have b1 : ∀ i, i < 32 → bt (1 : Int32) i = decide (i = 0) := by decide +kernel
  constructor
  · intro e
    have h : bt ((x >>> (nI q &&& 31)) &&& 1) 0 = false := by rw [e]; exact b_0 0
    rw [b_and, b_sshr q hq x (by decide), Nat.add_zero, if_pos hq, b1 0 (by decide)] at h
    simpa using h
  · intro e
    apply b_ext
    intro i hi
    rw [b_and, b_sshr q hq x hi, b1 i hi, b_0]
    by_cases z : i = 0
    · subst z; rw [Nat.add_zero, if_pos hq, e]; rfl
    · rw [decide_eq_false z, Bool.and_false]
theorem hs_btSh {q : Nat} (hq : q < 32) : bt ((1 : Int32) <<< (nI q &&& 31)) q = true := by
  rw [b_shl q hq 1 hq, Nat.sub_self]
  simp
  decide
theorem hs_lmsM {q : Nat} : ∀ (k j : Nat) (x : Int32), bt x q = true → bt (hs_lms tk k j x) q = true
  | 0, _, _, e => e
  | k + 1, j, x, e => by
    refine hs_lmsM k (j + 1) _ ?_
    cases hs_lb (tk j) with
    | none => exact e
    | some f => show bt (x ||| _) q = true; rw [b_or, e]; rfl
theorem hs_lmaskS (D : hs_dfl LT tk l s t) : (¬ (hs_lmask tk ind cb l >>> (nI s &&& 31)) &&& 1 = 0) ∧ ∀ t', t = some t' → ¬ (hs_lmask tk ind cb l >>> (nI t' &&& 31)) &&& 1 = 0 := by
  obtain ⟨s26, _, nn, D⟩ := D
  have fin : ∀ q, q < 26 → bt (hs_lpar (tk l)) q = true → ¬ (hs_lmask tk ind cb l >>> (nI q &&& 31)) &&& 1 = 0 := by
    intro q hq e y
    have := (hs_bt1 (by omega)).mp y
    unfold hs_lmask at this
    rw [hs_lmsM _ _ _ e] at this
    cases this
  rcases D with ⟨rfl, _, et⟩ | ⟨t', rfl, t1, _, _, et⟩
  · refine ⟨fin s s26 ?_, fun t' y => by cases y⟩
    rw [et]
    show bt ((1 : Int32) <<< (nI (s + 100 - 100) &&& 31)) s = true
    rw [Nat.add_sub_cancel]
    exact hs_btSh (by omega)
  · refine ⟨fin s s26 ?_, fun t'' y => ?_⟩
    · rw [et]
      show bt (((1 : Int32) <<< (nI (s + 100 - 100) &&& 31)) ||| ((1 : Int32) <<< (nI (t' + 100 - 100) &&& 31))) s = true
      rw [b_or, Nat.add_sub_cancel, hs_btSh (by omega)]; rfl
    · cases y
      refine fin t' t1 ?_
      rw [et]
      show bt (((1 : Int32) <<< (nI (s + 100 - 100) &&& 31)) ||| ((1 : Int32) <<< (nI (t' + 100 - 100) &&& 31))) t' = true
      rw [b_or, Nat.add_sub_cancel, Nat.add_sub_cancel, hs_btSh (q := t') (by omega), Bool.or_true]
/-- the def line as the reference finds it -/
theorem hs_dfT (K : hs_TK tx ca cb P h tk) (la : ca ≤ l) (lb : l < cb) (D : hs_dfl LT tk l s t) : P l + 5 < 1024 ∧ tx (P l + 3) = nI (s + 100) ∧ (tx (P l + 4) = 23 ↔ hs_np LT l = 1) ∧ ∀ t', t = some t' → tx (P l + 5) = nI (t' + 100) := by
  have hT := (K l la lb).1
  obtain ⟨s26, _, nn, D⟩ := D
  rcases D with ⟨rfl, tl, et⟩ | ⟨t', rfl, t1, t2, tl, et⟩
  · rw [et] at hT
    have h1 := (hs_TAc hT).2.2.2.2.2
    have h2 := (hs_TAc h1).2.2.2.2.2
    have h3 := (hs_TAc h2).2.2.2.2.2
    have h4 := (hs_TAc h3).2.2.2.2.2
    have h5 := (hs_TAc h4).2.2.2.2.2
    have v3 : tx (P l + 3) = nI (s + 100) := (hs_TAc h3).1
    have v4 : tx (P l + 4) = nI 22 := (hs_TAc h4).1
    have l5 : P l + 5 < 1024 := hs_TAlt h5
    refine ⟨l5, v3, ⟨fun y => ?_, fun y => ?_⟩, fun t' y => by cases y⟩
    · rw [v4] at y; exact absurd y (by decide)
    · unfold hs_np at y; rw [tl] at y; exact absurd y (by decide)
  · rw [et] at hT
    have h1 := (hs_TAc hT).2.2.2.2.2
    have h2 := (hs_TAc h1).2.2.2.2.2
    have h3 := (hs_TAc h2).2.2.2.2.2
    have h4 := (hs_TAc h3).2.2.2.2.2
    have h5 := (hs_TAc h4).2.2.2.2.2
    have v3 : tx (P l + 3) = nI (s + 100) := (hs_TAc h3).1
    have v4 : tx (P l + 4) = nI 23 := (hs_TAc h4).1
    have v5 : tx (P l + 5) = nI (t' + 100) := (hs_TAc h5).1
    have l5 : P l + 5 < 1024 := hs_TAlt h5
    refine ⟨l5, v3, ⟨fun _ => ?_, fun _ => v4⟩, fun t'' y => by cases y; exact v5⟩
    unfold hs_np; rw [tl, if_pos (nI_pos' (by omega))]
theorem hs_yInvE {x7 x8 : Int32} (E : hs_EE P (hs_df h lc) ex ey) (hn : n < 26) (ha : a ≤ 1) (harg : arg = 0 ↔ a = 0) (hmD : mD ≤ 6) (hd : d ≤ mD) (hdf : ∀ l, hs_df h lc l → ∃ s t, hs_dfl LT tk l s t ∧ P l + 5 < 1024 ∧ tx (P l + 3) = nI (s + 100) ∧ (tx (P l + 4) = 23 ↔ hs_np LT l = 1) ∧ ∀ t', t = some t' → tx (P l + 5) = nI (t' + 100)) {er : Int32} (S : hs_SE LT ex h lc mD d fo n a er) {post : SY → Prop} (H : post (y_maxObjects, y_maxSteps, nI mD, y_kept, y_end, y_tokens, y_pending, y_lines, y_classes, y_prints, y_place, y_steps, nI d, y_valTop, y_opTop, y_opens, y_pos, y_tk, y_tv, y_stmt, y_target, er, y_code, y_outcome, y_result, y_dry, y_want, y_starting, y_ended, y_bad, y_hosted, y_sawSuper, tx, y_numbers, y_globals, ey, y_attrs, y_classOf, y_alive, y_orders, y_lengths, y_letters, y_bases, y_vals, y_ops, y_locals, y_fRecv, y_fLine, y_fPos, y_fStmt, y_fTarget, y_fMask, y_fHome, y_fOps, y_fVals, y_fNew, y_out)) : wpY_invoke post (y_maxObjects, y_maxSteps, nI mD, y_kept, y_end, y_tokens, y_pending, y_lines, y_classes, y_prints, y_place, y_steps, nI d, y_valTop, y_opTop, y_opens, y_pos, y_tk, y_tv, y_stmt, y_target, 0, y_code, y_outcome, y_result, y_dry, y_want, y_starting, y_ended, y_bad, y_hosted, y_sawSuper, tx, y_numbers, y_globals, ey, y_attrs, y_classOf, y_alive, y_orders, y_lengths, y_letters, y_bases, y_vals, y_ops, y_locals, y_fRecv, y_fLine, y_fPos, y_fStmt, y_fTarget, y_fMask, y_fHome, y_fOps, y_fVals, y_fNew, y_out) (hs_oV ey n fo) rv arg x7 x8 := by
  have fin : ∀ (x1 : Int64) (x9 : Int32), er ≠ 0 → wY_invoke_92 post x1 rv arg x7 x8 x9 y_maxObjects y_maxSteps (nI mD) y_kept y_end y_tokens y_pending y_lines y_classes y_prints y_place y_steps (nI d) y_valTop y_opTop y_opens y_pos y_tk y_tv y_stmt y_target er y_code y_outcome y_result y_dry y_want y_starting y_ended y_bad y_hosted y_sawSuper tx y_numbers y_globals ey y_attrs y_classOf y_alive y_orders y_lengths y_letters y_bases y_vals y_ops y_locals y_fRecv y_fLine y_fPos y_fStmt y_fTarget y_fMask y_fHome y_fOps y_fVals y_fNew y_out := fun x1 x9 z => br_f z H
  rcases S with ⟨rfl, rfl⟩ | ⟨m, rfl, m10, S⟩
  · exact nm_e (br_t rfl (fin _ _ (by decide)))
  · have ee := E m n m10 hn
    show wpY_invoke post (y_maxObjects, y_maxSteps, nI mD, y_kept, y_end, y_tokens, y_pending, y_lines, y_classes, y_prints, y_place, y_steps, nI d, y_valTop, y_opTop, y_opens, y_pos, y_tk, y_tv, y_stmt, y_target, 0, y_code, y_outcome, y_result, y_dry, y_want, y_starting, y_ended, y_bad, y_hosted, y_sawSuper, tx, y_numbers, y_globals, ey, y_attrs, y_classOf, y_alive, y_orders, y_lengths, y_letters, y_bases, y_vals, y_ops, y_locals, y_fRecv, y_fLine, y_fPos, y_fStmt, y_fTarget, y_fMask, y_fHome, y_fOps, y_fVals, y_fNew, y_out) (ey (m * 26 + n)) rv arg x7 x8
    rcases S with ⟨v, rfl⟩ | ⟨l, d1, l1, e1, S⟩
    · rw [hs_eeV ee v]
      have v' := v
      obtain ⟨k, k1, k2⟩ := v
      refine nm_e (br_f (hs_vvne v') (br_f ?_ ?_))
      · rw [k1, hs_yk4 (by omega)]; omega
      · unfold wY_invoke_67; exact fin _ _ (by decide)
    · obtain ⟨_, p1, e2⟩ := hs_eeM ee e1 l1
      obtain ⟨s, t, D, l5, v3, v4, v5⟩ := hdf l d1
      rw [e2]
      have ex9 : (lN (17179869184 + (m * 4096 + P l))).toInt32 &&& 4095 = nI (P l) := by
        rw [lN_i, hs_mod32, show (17179869184 + (m * 4096 + P l)) % 4294967296 = m * 4096 + P l by omega]
        refine (pk_andN (by omega) 12 (by decide)).trans (congrArg nI ?_)
        show (m * 4096 + P l) % 4096 = P l
        omega
      have e4 : nI (P l) + 4 = nI (P l + 4) := nI_add _ 4
      refine nm_r ex9 (br_f (fun y => ?_) (br_t ?_ ?_))
      · have := (pk_lEQ (a := 17179869184 + (m * 4096 + P l)) (b := 0) (by omega) (by decide)).mp y; omega
      · rw [hs_yk4 (by omega)]; omega
      · rw [e4, nI_clamp (show P l + 4 < 2 ^ 31 by omega)]
        refine And.intro (vp_in_nI (by omega) (by decide)) ?_
        have go : ∀ p, hs_np LT l = p → wY_invoke_52 post (lN (17179869184 + (m * 4096 + P l))) rv arg x7 x8 (nI (P l)) (nI p) y_maxObjects y_maxSteps (nI mD) y_kept y_end y_tokens y_pending y_lines y_classes y_prints y_place y_steps (nI d) y_valTop y_opTop y_opens y_pos y_tk y_tv y_stmt y_target 0 y_code y_outcome y_result y_dry y_want y_starting y_ended y_bad y_hosted y_sawSuper tx y_numbers y_globals ey y_attrs y_classOf y_alive y_orders y_lengths y_letters y_bases y_vals y_ops y_locals y_fRecv y_fLine y_fPos y_fStmt y_fTarget y_fMask y_fHome y_fOps y_fVals y_fNew y_out := by
          intro p hp
          have g2 : ∀ a', a = a' → wY_invoke_64 post (lN (17179869184 + (m * 4096 + P l))) rv arg x7 x8 (nI (P l)) (nI a') (nI p) y_maxObjects y_maxSteps (nI mD) y_kept y_end y_tokens y_pending y_lines y_classes y_prints y_place y_steps (nI d) y_valTop y_opTop y_opens y_pos y_tk y_tv y_stmt y_target 0 y_code y_outcome y_result y_dry y_want y_starting y_ended y_bad y_hosted y_sawSuper tx y_numbers y_globals ey y_attrs y_classOf y_alive y_orders y_lengths y_letters y_bases y_vals y_ops y_locals y_fRecv y_fLine y_fPos y_fStmt y_fTarget y_fMask y_fHome y_fOps y_fVals y_fNew y_out := by
            intro a' ea
            have p1 : p ≤ 1 := by rw [← hp]; unfold hs_np; split <;> omega
            unfold wY_invoke_64
            rcases S with ⟨s1, rfl⟩ | ⟨s1, s2, rfl⟩
            · refine br_f (hs_ne (by omega) (by omega) (by omega)) ?_
              unfold wY_invoke_67; exact fin _ _ (by decide)
            · exact br_t (by rw [show p = a' by omega]) (br_t (by rw [show d = mD by omega]) (fin _ _ (by decide)))
          unfold wY_invoke_52
          exact ⟨fun y => g2 0 (harg.mp y), fun y => g2 1 (by have : a ≠ 0 := fun z => y (harg.mpr z); omega)⟩
        refine ⟨fun y => go 1 (v4.mp y), fun y => go 0 ?_⟩
        have : hs_np LT l ≠ 1 := fun z => y (v4.mpr z)
        unfold hs_np at this ⊢
        split
        · rename_i z; exact absurd (if_pos z) this
        · rfl
end
