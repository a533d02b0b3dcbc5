/-! a call is started, on the reference's side: it begins -/
section
variable {x_objectLimit x_stepLimit x_depthLimit x_pendingCount x_keptTokens x_keptLines x_lineCount x_codeCount x_cursor x_stop x_waitingCount x_openCount x_classCount x_callCount x_operandCount x_stepsTaken x_error x_raisedCode x_printCount x_lastPlace : Int32} {x_lastResult : Int64} {x_pending x_lineTable x_orders x_merging x_letterClass x_objectClass x_calls x_lastPrints : Nat → Int32} {x_code x_waiting x_globals x_entries x_attributes x_held x_operands : Nat → Int64}
variable {y_maxObjects y_maxSteps y_maxDepth y_kept y_end y_tokens y_pending y_lines y_classes y_prints y_place y_steps y_d y_valTop y_opTop y_opens y_pos y_tk y_tv y_stmt y_target y_err y_code y_outcome y_dry y_want y_starting y_ended y_bad y_hosted y_sawSuper : Int32} {y_result : Int64} {y_text y_numbers y_classOf y_alive y_orders y_lengths y_letters y_bases y_ops y_fLine y_fPos y_fStmt y_fTarget y_fMask y_fHome y_fOps y_fVals y_fNew y_out : Nat → Int32} {y_globals y_entries y_attrs y_vals y_locals y_fRecv : Nat → Int64}
variable {P h ind : Nat → Nat} {tk : Nat → List Nat} {tx : Nat → Int32} {lc cn d vt mD n a us cs ce ca cb l m s ot fr : Nat} {t : Option Nat} {ml : Nat → List Nat} {gl ex ey at1 op va HE loc fRe : Nat → Int64} {LT fMa fHo fPo fSt fTa fVa fOp fNe fLi : Nat → Int32} {rv arg : Int64} {fo : Option Nat}
theorem hs_yInv239 (C : hs_Ch tx cs ce ca cb P ind) (la : ca ≤ l) (lb : l + 1 < cb) (D : hs_dfl LT tk l s t) (l5 : P l + 5 < 1024) (v3 : tx (P l + 3) = nI (s + 100)) (v5 : ∀ t', t = some t' → tx (P l + 5) = nI (t' + 100)) (hd : d < 6) (harg : arg = 0 ↔ t = none) {post : SY → Prop}
    (H : ∀ lo', (∀ j, j < (d + 1) * 26 → lo' j = loc j) → (∀ i, i < 26 → lo' ((d + 1) * 26 + i) = hs_lv1 s t rv arg i) → post (y_maxObjects, y_maxSteps, nI mD, y_kept, y_end, y_tokens, y_pending, y_lines, y_classes, y_prints, y_place, y_steps, nI (d + 1), nI (vt - us), nI ot, y_opens, y_pos, y_tk, y_tv, y_stmt, y_target, 0, y_code, y_outcome, y_result, y_dry, y_want, 1, y_ended, y_bad, y_hosted, y_sawSuper, tx, y_numbers, y_globals, ey, y_attrs, y_classOf, y_alive, y_orders, y_lengths, y_letters, y_bases, y_vals, y_ops, lo', vp_updL fRe (d + 1) rv, upd fLi (d + 1) (nI (P (l + 1))), upd fPo d y_pos, upd fSt d y_stmt, upd fTa d y_target, upd fMa (d + 1) (hs_lmask tk ind cb l), upd fHo (d + 1) (nI m), upd fOp (d + 1) (nI ot), upd fVa (d + 1) (nI (vt - us)), upd fNe (d + 1) (nI fr), y_out)) :
    ∀ (k i : Nat) (L1 : Nat → Int64), i + k = 26 → (∀ j, j < (d + 1) * 26 → L1 j = loc j) → (∀ j, j < i → L1 ((d + 1) * 26 + j) = 0) → wY_invoke_239 post rv arg (nI (P l)) y_maxObjects y_maxSteps (nI mD) y_kept y_end y_tokens y_pending y_lines y_classes y_prints y_place y_steps (nI (d + 1)) (nI (vt - us)) (nI ot) y_opens y_pos y_tk y_tv y_stmt y_target 0 y_code y_outcome y_result y_dry y_want y_starting y_ended y_bad y_hosted y_sawSuper (k + 1) (nI i) tx y_numbers y_globals ey y_attrs y_classOf y_alive y_orders y_lengths y_letters y_bases y_vals y_ops L1 (vp_updL fRe (d + 1) rv) fLi (upd fPo d y_pos) (upd fSt d y_stmt) (upd fTa d y_target) (upd fMa (d + 1) (hs_lmask tk ind cb l)) (upd fHo (d + 1) (nI m)) (upd fOp (d + 1) (nI ot)) (upd fVa (d + 1) (nI (vt - us))) (upd fNe (d + 1) (nI fr)) y_out := by
  intro k
  have s26 := D.1
  have mS := hs_lmaskS (ind := ind) (cb := cb) D
  have eM : ∀ x, upd fMa (d + 1) x (d + 1) = x := fun x => pk_us
  induction k with
  | zero =>
    intro i L1 hi h1 h2
    have e3 : nI (P l) + 3 = nI (P l + 3) := nI_add _ 3
    have e5 : nI (P l) + 5 = nI (P l + 5) := nI_add _ 5
    have es : nI (s + 100) - 100 = nI s := pk_sub (a := s + 100) (b := 100) (by omega)
    have ei : nI (d + 1) * 26 + nI s = nI ((d + 1) * 26 + s) := hs_ixMul (d + 1) 26 s
    have fin : ∀ lo', (∀ j, j < (d + 1) * 26 → lo' j = loc j) → (∀ i, i < 26 → lo' ((d + 1) * 26 + i) = hs_lv1 s t rv arg i) → wY_invoke_310 post (nI (P l)) y_maxObjects y_maxSteps (nI mD) y_kept y_end y_tokens y_pending y_lines y_classes y_prints y_place y_steps (nI (d + 1)) (nI (vt - us)) (nI ot) y_opens y_pos y_tk y_tv y_stmt y_target 0 y_code y_outcome y_result y_dry y_want y_starting y_ended y_bad y_hosted y_sawSuper tx y_numbers y_globals ey y_attrs y_classOf y_alive y_orders y_lengths y_letters y_bases y_vals y_ops lo' (vp_updL fRe (d + 1) rv) fLi (upd fPo d y_pos) (upd fSt d y_stmt) (upd fTa d y_target) (upd fMa (d + 1) (hs_lmask tk ind cb l)) (upd fHo (d + 1) (nI m)) (upd fOp (d + 1) (nI ot)) (upd fVa (d + 1) (nI (vt - us))) (upd fNe (d + 1) (nI fr)) y_out := by
      intro lo' u1 u2
      unfold wY_invoke_310 wpY_enter
      refine hs_yFollow C la (by omega) (hs_nxFo (by omega)) ?_
      have ea : hs_at P cb (l + 1) = nI (P (l + 1)) := if_pos lb
      refine And.intro (vp_in_nI (by omega) (by decide)) ?_
      rw [ea, nI_clamp (show d + 1 < 2 ^ 31 by omega)]
      exact nm_e (H lo' u1 u2)
    refine br_t (nI_le (a := 26) (by omega) (by omega)) ?_
    rw [e3, nI_clamp (show P l + 3 < 2 ^ 31 by omega), v3, es]
    refine And.intro (vp_in_nI (by omega) (by decide)) (And.intro (vp_in_nI (by omega) (by decide)) ?_)
    rw [nI_clamp (show d + 1 < 2 ^ 31 by omega), eM]
    refine br_f mS.1 ?_
    rw [ei, nI_clamp (show (d + 1) * 26 + s < 2 ^ 31 by omega)]
    refine And.intro (vp_in_nI (by omega) (by decide)) (nm_e ⟨fun z => ?_, fun z => ?_⟩)
    · have tn := harg.mp z
      subst tn
      refine fin _ (fun j hj => ?_) (fun i hi => ?_)
      · rw [pk_uLn (by omega)]; exact h1 j hj
      · unfold hs_lv1
        rw [if_neg (by intro y; cases y)]
        by_cases z : i = s
        · subst z; rw [if_pos rfl, pk_uLs]
        · rw [if_neg z, pk_uLn (by omega)]
          exact h2 i (by omega)
    · cases et : t with
      | none => exact absurd (harg.mpr et) z
      | some t' =>
        subst et
        have t26 : t' < 26 ∧ t' ≠ s := by
          obtain ⟨_, _, nn, D⟩ := D
          rcases D with ⟨y, _⟩ | ⟨t'', y, y1, y2, _⟩
          · cases y
          · cases y; exact ⟨y1, y2⟩
        have e6 : nI (t' + 100) - 100 = nI t' := pk_sub (a := t' + 100) (b := 100) (by omega)
        have ei2 : nI (d + 1) * 26 + nI t' = nI ((d + 1) * 26 + t') := hs_ixMul (d + 1) 26 t'
        rw [e5, nI_clamp (show P l + 5 < 2 ^ 31 by omega), v5 t' rfl, e6]
        refine And.intro (vp_in_nI (by omega) (by decide)) (And.intro (vp_in_nI (by omega) (by decide)) ?_)
        rw [nI_clamp (show d + 1 < 2 ^ 31 by omega), eM]
        refine br_f (mS.2 t' rfl) ?_
        rw [ei2, nI_clamp (show (d + 1) * 26 + t' < 2 ^ 31 by omega)]
        refine And.intro (vp_in_nI (by omega) (by decide)) (nm_e (fin _ (fun j hj => ?_) (fun i hi => ?_)))
        · rw [pk_uLn (by omega), pk_uLn (by omega)]; exact h1 j hj
        · unfold hs_lv1
          by_cases y : t' = i
          · subst y; rw [if_pos rfl, pk_uLs]
          · rw [if_neg (by intro x; exact y (Option.some.inj x)), pk_uLn (by omega)]
            by_cases z : i = s
            · subst z; rw [if_pos rfl, pk_uLs]
            · rw [if_neg z, pk_uLn (by omega)]
              exact h2 i (by omega)
  | succ k ih =>
    intro i L1 hi h1 h2
    have ei : nI (d + 1) * 26 + nI i = nI ((d + 1) * 26 + i) := hs_ixMul (d + 1) 26 i
    refine br_f (nI_ge (b := 26) (by omega) (by decide)) ?_
    rw [ei, nI_clamp (show (d + 1) * 26 + i < 2 ^ 31 by omega)]
    refine And.intro (vp_in_nI (by omega) (by decide)) (nm_e (nm_r (nI_add i 1) (ih (i + 1) _ (by omega) (fun j hj => ?_) (fun j hj => ?_))))
    · rw [pk_uLn (by omega)]; exact h1 j hj
    · by_cases z : j = i
      · subst z; exact pk_uLs
      · rw [pk_uLn (by omega)]; exact h2 j (by omega)
theorem hs_yInvC (E : hs_EE P (hs_df h lc) ex ey) (hn : n < 26) (ha : a ≤ 1) (harg : arg = 0 ↔ a = 0) (hmD : mD ≤ 6) (hus : us ≤ vt) (hvt : vt < 320) (hfr : fr ≤ 1) (C : hs_Ch tx cs ce ca cb P ind) (K : hs_TK tx ca cb P h tk) (hL : ∀ j, ca ≤ j → j < cb → ∃ k f s t cd, hs_LF k f s t cd (tk j)) (la : ca ≤ l) (lb : l + 1 < cb) (D : hs_dfl LT tk l s t) (S : hs_SO LT ex h lc mD d fo n a m l) {post : SY → Prop}
    (H : ∀ lo', (∀ j, j < (d + 1) * 26 → lo' j = loc j) → (∀ i, i < 26 → lo' ((d + 1) * 26 + i) = hs_lv1 s t rv arg i) → post (y_maxObjects, y_maxSteps, nI mD, y_kept, y_end, y_tokens, y_pending, y_lines, y_classes, y_prints, y_place, y_steps, nI (d + 1), nI (vt - us), nI ot, y_opens, y_pos, y_tk, y_tv, y_stmt, y_target, 0, y_code, y_outcome, y_result, y_dry, y_want, 1, y_ended, y_bad, y_hosted, y_sawSuper, tx, y_numbers, y_globals, ey, y_attrs, y_classOf, y_alive, y_orders, y_lengths, y_letters, y_bases, y_vals, y_ops, lo', vp_updL fRe (d + 1) rv, upd fLi (d + 1) (nI (P (l + 1))), upd fPo d y_pos, upd fSt d y_stmt, upd fTa d y_target, upd fMa (d + 1) (hs_lmask tk ind cb l), upd fHo (d + 1) (nI m), upd fOp (d + 1) (nI ot), upd fVa (d + 1) (nI (vt - us)), upd fNe (d + 1) (nI fr), y_out)) :
    wpY_invoke post (y_maxObjects, y_maxSteps, nI mD, y_kept, y_end, y_tokens, y_pending, y_lines, y_classes, y_prints, y_place, y_steps, nI d, nI vt, nI ot, y_opens, y_pos, y_tk, y_tv, y_stmt, y_target, 0, y_code, y_outcome, y_result, y_dry, y_want, y_starting, y_ended, y_bad, y_hosted, y_sawSuper, tx, y_numbers, y_globals, ey, y_attrs, y_classOf, y_alive, y_orders, y_lengths, y_letters, y_bases, y_vals, y_ops, loc, fRe, fLi, fPo, fSt, fTa, fMa, fHo, fOp, fVa, fNe, y_out) (hs_oV ey n fo) rv arg (nI us) (nI fr) := by
  obtain ⟨rfl, m10, d1, l1, e1, np, dm⟩ := S
  obtain ⟨l5, v3, v4, v5⟩ := hs_dfT K la (by omega) D
  have ee := E m n m10 hn
  obtain ⟨_, p1, e2⟩ := hs_eeM ee e1 l1
  have tn : t = none ↔ hs_np LT l = 0 := by
    obtain ⟨_, _, nn, D⟩ := D
    rcases D with ⟨y, y1, _⟩ | ⟨t', y, y1, _, y3, _⟩
    · unfold hs_np; rw [y1]; exact ⟨fun _ => rfl, fun _ => y⟩
    · unfold hs_np; rw [y3, if_pos (nI_pos' (by omega)), y]
      exact ⟨fun z => (by cases z), fun z => (by cases z)⟩
  show wpY_invoke post _ (ey (m * 26 + n)) rv arg (nI us) (nI fr)
  rw [e2]
  have elo : (lN (17179869184 + (m * 4096 + P l))).toInt32 = nI (m * 4096 + P l) := by
    rw [lN_i, hs_mod32, show (17179869184 + (m * 4096 + P l)) % 4294967296 = m * 4096 + P l by omega]
  have ex9 : (lN (17179869184 + (m * 4096 + P l))).toInt32 &&& 4095 = nI (P l) := by
    rw [elo]
    refine (pk_andN (by omega) 12 (by decide)).trans (congrArg nI ?_)
    show (m * 4096 + P l) % 4096 = P l
    omega
  have ehm : (lN (17179869184 + (m * 4096 + P l))).toInt32 >>> ((12 : Int32) &&& 31) = nI m := by
    rw [elo]
    refine (pk_shrN (by omega) _ 12 (by decide)).trans (congrArg nI ?_)
    show (m * 4096 + P l) / 4096 = m
    omega
  have enr : vp_nar .boolean (nI fr) = nI fr := by
    have : fr = 0 ∨ fr = 1 := by omega
    rcases this with rfl | rfl
    · exact hs_nar0
    · exact hs_nar1
  have e4 : nI (P l) + 4 = nI (P l + 4) := nI_add _ 4
  refine nm_r ex9 (br_f (fun y => ?_) (br_t ?_ ?_))
  · have := (pk_lEQ (a := 17179869184 + (m * 4096 + P l)) (b := 0) (by omega) (by decide)).mp y; omega
  · rw [hs_yk4 (by omega)]; omega
  · rw [e4, nI_clamp (show P l + 4 < 2 ^ 31 by omega)]
    refine And.intro (vp_in_nI (by omega) (by decide)) ?_
    have g92 : wY_invoke_92 post (lN (17179869184 + (m * 4096 + P l))) rv arg (nI us) (nI fr) (nI (P l)) y_maxObjects y_maxSteps (nI mD) y_kept y_end y_tokens y_pending y_lines y_classes y_prints y_place y_steps (nI d) (nI vt) (nI ot) y_opens y_pos y_tk y_tv y_stmt y_target 0 y_code y_outcome y_result y_dry y_want y_starting y_ended y_bad y_hosted y_sawSuper tx y_numbers y_globals ey y_attrs y_classOf y_alive y_orders y_lengths y_letters y_bases y_vals y_ops loc fRe fLi fPo fSt fTa fMa fHo fOp fVa fNe y_out := by
      have ed : nI d + 1 = nI (d + 1) := nI_add d 1
      unfold wY_invoke_92
      rw [ehm, enr, nI_clamp (show d < 2 ^ 31 by omega)]
      refine br_t rfl (nm_r (pk_sub hus) (And.intro (vp_in_nI (by omega) (by decide)) (nm_e (And.intro (vp_in_nI (by omega) (by decide)) (nm_e (And.intro (vp_in_nI (by omega) (by decide)) (nm_e (nm_r ed ?_))))))))
      rw [nI_clamp (show d + 1 < 2 ^ 31 by omega)]
      refine And.intro (vp_in_nI (by omega) (by decide)) (nm_e (And.intro (vp_in_nI (by omega) (by decide)) (nm_e (And.intro (vp_in_nI (by omega) (by decide)) (nm_e (And.intro (vp_in_nI (by omega) (by decide)) (nm_e (And.intro (vp_in_nI (by omega) (by decide)) (nm_e ?_)))))))))
      refine hs_yLocN C K hL la (by omega) D (And.intro (vp_in_nI (by omega) (by decide)) (nm_e ⟨27, hs_yInv239 C la lb D l5 v3 v5 (by omega) ?_ H 26 0 loc rfl (fun _ _ => rfl) (fun j hj => by omega)⟩))
      rw [tn, np]; exact harg
    have go : wY_invoke_52 post (lN (17179869184 + (m * 4096 + P l))) rv arg (nI us) (nI fr) (nI (P l)) (nI a) y_maxObjects y_maxSteps (nI mD) y_kept y_end y_tokens y_pending y_lines y_classes y_prints y_place y_steps (nI d) (nI vt) (nI ot) y_opens y_pos y_tk y_tv y_stmt y_target 0 y_code y_outcome y_result y_dry y_want y_starting y_ended y_bad y_hosted y_sawSuper tx y_numbers y_globals ey y_attrs y_classOf y_alive y_orders y_lengths y_letters y_bases y_vals y_ops loc fRe fLi fPo fSt fTa fMa fHo fOp fVa fNe y_out := by
      have g2 : ∀ a', a = a' → wY_invoke_64 post (lN (17179869184 + (m * 4096 + P l))) rv arg (nI us) (nI fr) (nI (P l)) (nI a') (nI a) y_maxObjects y_maxSteps (nI mD) y_kept y_end y_tokens y_pending y_lines y_classes y_prints y_place y_steps (nI d) (nI vt) (nI ot) y_opens y_pos y_tk y_tv y_stmt y_target 0 y_code y_outcome y_result y_dry y_want y_starting y_ended y_bad y_hosted y_sawSuper tx y_numbers y_globals ey y_attrs y_classOf y_alive y_orders y_lengths y_letters y_bases y_vals y_ops loc fRe fLi fPo fSt fTa fMa fHo fOp fVa fNe y_out := by
        intro a' ea
        subst ea
        unfold wY_invoke_64
        exact br_t rfl (br_f (hs_ne (by omega) (by omega) (by omega)) g92)
      unfold wY_invoke_52
      exact ⟨fun y => g2 0 (harg.mp y), fun y => g2 1 (by have : a ≠ 0 := fun z => y (harg.mpr z); omega)⟩
    refine ⟨fun y => ?_, fun y => ?_⟩
    · have := v4.mp y
      rw [np] at this
      rw [this] at go; exact go
    · have : a = 0 := by
        have : a ≠ 1 := fun z => y (v4.mpr (by rw [np]; exact z))
        omega
      rw [this] at go; exact go
end
