/-! an object is made, on the reference's side -/
section
variable {x_objectLimit x_stepLimit x_depthLimit x_pendingCount x_keptTokens x_keptLines x_lineCount x_codeCount x_cursor x_stop x_waitingCount x_openCount x_classCount x_callCount x_operandCount x_stepsTaken x_error x_raisedCode x_printCount x_lastPlace : Int32} {x_lastResult : Int64} {x_pending x_lineTable x_orders x_merging x_letterClass x_objectClass x_calls x_lastPrints : Nat → Int32} {x_code x_waiting x_globals x_entries x_attributes x_held x_operands : Nat → Int64}
variable {y_maxObjects y_maxSteps y_maxDepth y_kept y_end y_tokens y_pending y_lines y_classes y_prints y_place y_steps y_d y_valTop y_opTop y_opens y_pos y_tk y_tv y_stmt y_target y_err y_code y_outcome y_dry y_want y_starting y_ended y_bad y_hosted y_sawSuper : Int32} {y_result : Int64} {y_text y_numbers y_classOf y_alive y_orders y_lengths y_letters y_bases y_ops y_fLine y_fPos y_fStmt y_fTarget y_fMask y_fHome y_fOps y_fVals y_fNew y_out : Nat → Int32} {y_globals y_entries y_attrs y_vals y_locals y_fRecv : Nat → Int64}
variable {P h : Nat → Nat} {lc cn d vt mo q a o c : Nat} {ml : Nat → List Nat} {gl ex ey at1 op va HE loc fRe : Nat → Int64} {ox oc lt oy le : Nat → Int32} {arg : Int64}
theorem hs_eeOb {P : Nat → Nat} {df : Nat → Prop} {c : Nat} {e e' : Int64} (hc : c < 10) (h : hs_ee P df c e e') (k : Nat) : hs_ob e = some k ↔ hs_ob e' = some k := by
  rcases h with ⟨rfl, _⟩ | ⟨l, _, l1, l2, e1, e2⟩
  · exact Iff.rfl
  · have a1 : hs_ob e = none := by
      rw [e1]; unfold hs_ob; rw [if_neg]
      rw [hs_yk3 (by omega)]; omega
    have a2 : hs_ob e' = none := by
      rw [e2]; unfold hs_ob; rw [if_neg]
      rw [hs_yk3 (by omega)]; omega
    rw [a1, a2]
theorem hs_EEob (E : hs_EE P (hs_df h lc) ex ey) : ∀ j k, j < 260 → (hs_ob (ex j) = some k ↔ hs_ob (ey j) = some k) := by
  intro j k hj
  have := E (j / 26) (j % 26) (by omega) (by omega)
  rw [show j / 26 * 26 + j % 26 = j by omega] at this
  exact hs_eeOb (by omega) this k
/-- the mask of both -/
theorem hs_yMake0 (W : hs_WX P h lc cn ml gl ex at1 ox oc lt) (E : hs_EE P (hs_df h lc) ex ey) (O : hs_OY cn ml oy le) (hq : q < 26) (ha : a ≤ 1) (hvt : vt < 280) (hd : d ≤ 6) (hmo : mo ≤ 8) (hva : ∀ j, j < vt → va j = op j) (hlo : ∀ j i, 1 ≤ j → j ≤ d → i < 26 → HE (j * 27 + i) = loc (j * 26 + i)) (hfr : ∀ j, 1 ≤ j → j ≤ d → HE (j * 27 + 26) = fRe j) (rv1 : ∀ j, j < 208 → hs_rv (at1 j)) (rv2 : ∀ j, j < vt → hs_rv (va j)) (rv3 : ∀ j, j < (d + 1) * 26 → hs_rv (loc j)) (rv4 : ∀ j, j < 260 → hs_rv (ey j)) (rv5 : ∀ j, j < 26 → hs_rv (gl j)) (rv6 : ∀ j, 1 ≤ j → j ≤ d → hs_rv (fRe j)) {post : SY → Prop} (Hlt : lt q = -1 → post (nI mo, y_maxSteps, y_maxDepth, y_kept, y_end, y_tokens, y_pending, y_lines, y_classes, y_prints, y_place, y_steps, nI d, nI vt, y_opTop, y_opens, y_pos, y_tk, y_tv, y_stmt, y_target, 2, y_code, y_outcome, y_result, y_dry, y_want, y_starting, y_ended, y_bad, y_hosted, y_sawSuper, y_text, y_numbers, gl, ey, at1, oc, y_alive, oy, le, lt, y_bases, va, y_ops, loc, fRe, y_fLine, y_fPos, y_fStmt, y_fTarget, y_fMask, y_fHome, y_fOps, y_fVals, y_fNew, y_out)) (Hfull : ∀ al, (∃ c, c < cn ∧ lt q = nI c) → ¬ hs_cnt (hs_xm gl ex HE op at1 (d + 1) vt) 8 0 < mo → post (nI mo, y_maxSteps, y_maxDepth, y_kept, y_end, y_tokens, y_pending, y_lines, y_classes, y_prints, y_place, y_steps, nI d, nI vt, y_opTop, y_opens, y_pos, y_tk, y_tv, y_stmt, y_target, 7, y_code, y_outcome, y_result, y_dry, y_want, y_starting, y_ended, y_bad, y_hosted, y_sawSuper, y_text, y_numbers, gl, ey, at1, oc, al, oy, le, lt, y_bases, va, y_ops, loc, fRe, y_fLine, y_fPos, y_fStmt, y_fTarget, y_fMask, y_fHome, y_fOps, y_fVals, y_fNew, y_out))
    (Hok : ∀ al c, hs_AL al (hs_xm gl ex HE op at1 (d + 1) vt) → c < cn → lt q = nI c → hs_cnt (hs_xm gl ex HE op at1 (d + 1) vt) 8 0 < mo → ∃ n36 : Nat, wY_create_36 post (nI q) arg (nI a) (nI mo) y_maxSteps y_maxDepth y_kept y_end y_tokens y_pending y_lines y_classes y_prints y_place y_steps (nI d) (nI vt) y_opTop y_opens y_pos y_tk y_tv y_stmt y_target y_err y_code y_outcome y_result y_dry y_want y_starting y_ended y_bad y_hosted y_sawSuper y_text y_numbers gl ey at1 oc al oy le lt y_bases va y_ops loc fRe y_fLine y_fPos y_fStmt y_fTarget y_fMask y_fHome y_fOps y_fVals y_fNew y_out n36 0) : wpY_create post (nI mo, y_maxSteps, y_maxDepth, y_kept, y_end, y_tokens, y_pending, y_lines, y_classes, y_prints, y_place, y_steps, nI d, nI vt, y_opTop, y_opens, y_pos, y_tk, y_tv, y_stmt, y_target, y_err, y_code, y_outcome, y_result, y_dry, y_want, y_starting, y_ended, y_bad, y_hosted, y_sawSuper, y_text, y_numbers, gl, ey, at1, oc, y_alive, oy, le, lt, y_bases, va, y_ops, loc, fRe, y_fLine, y_fPos, y_fStmt, y_fTarget, y_fMask, y_fHome, y_fOps, y_fVals, y_fNew, y_out) (nI q) arg (nI a) := by
  obtain ⟨⟨w1, w2⟩, w3, w4, w5, w6, w7, w8, w9, w10⟩ := W
  refine And.intro (vp_in_nI hq (by decide)) ?_
  rw [nI_clamp (show q < 2 ^ 31 by omega)]
  have em : hs_xm gl ex HE op at1 (d + 1) vt = hs_ym gl ey va loc fRe at1 d vt := hs_xym (hs_EEob E) (fun j hj => (hva j hj).symm) hlo hfr
  rcases w9 q hq with y | ⟨c, c1, c2⟩
  · rw [y]; exact br_f (by decide) (Hlt y)
  · rw [c2]
    refine br_t (nI_pos' (by omega)) (hs_yMarkLive hd (by omega) rv1 rv6 rv3 rv2 rv4 rv5 (fun al hal => ?_))
    rw [← em] at hal ⊢
    exact pk_lt _ mo (fun z => Hok al c hal c1 c2 z) (fun z => Hfull al ⟨c, c1, c2⟩ (by omega)) rfl rfl (by have := hs_cntLe (hs_xm gl ex HE op at1 (d + 1) vt) 8 0; omega)
theorem hs_yMakeE (W : hs_WX P h lc cn ml gl ex at1 ox oc lt) (E : hs_EE P (hs_df h lc) ex ey) (O : hs_OY cn ml oy le) (hq : q < 26) (ha : a ≤ 1) (hvt : vt < 280) (hd : d ≤ 6) (hmo : mo ≤ 8) (hva : ∀ j, j < vt → va j = op j) (hlo : ∀ j i, 1 ≤ j → j ≤ d → i < 26 → HE (j * 27 + i) = loc (j * 26 + i)) (hfr : ∀ j, 1 ≤ j → j ≤ d → HE (j * 27 + 26) = fRe j) (rv1 : ∀ j, j < 208 → hs_rv (at1 j)) (rv2 : ∀ j, j < vt → hs_rv (va j)) (rv3 : ∀ j, j < (d + 1) * 26 → hs_rv (loc j)) (rv4 : ∀ j, j < 260 → hs_rv (ey j)) (rv5 : ∀ j, j < 26 → hs_rv (gl j)) (rv6 : ∀ j, 1 ≤ j → j ≤ d → hs_rv (fRe j)) {er : Int32} (N : hs_NE gl ex HE op at1 lt cn d vt mo q er) {post : SY → Prop} (H : ∀ al, post (nI mo, y_maxSteps, y_maxDepth, y_kept, y_end, y_tokens, y_pending, y_lines, y_classes, y_prints, y_place, y_steps, nI d, nI vt, y_opTop, y_opens, y_pos, y_tk, y_tv, y_stmt, y_target, er, y_code, y_outcome, y_result, y_dry, y_want, y_starting, y_ended, y_bad, y_hosted, y_sawSuper, y_text, y_numbers, gl, ey, at1, oc, al, oy, le, lt, y_bases, va, y_ops, loc, fRe, y_fLine, y_fPos, y_fStmt, y_fTarget, y_fMask, y_fHome, y_fOps, y_fVals, y_fNew, y_out)) : wpY_create post (nI mo, y_maxSteps, y_maxDepth, y_kept, y_end, y_tokens, y_pending, y_lines, y_classes, y_prints, y_place, y_steps, nI d, nI vt, y_opTop, y_opens, y_pos, y_tk, y_tv, y_stmt, y_target, y_err, y_code, y_outcome, y_result, y_dry, y_want, y_starting, y_ended, y_bad, y_hosted, y_sawSuper, y_text, y_numbers, gl, ey, at1, oc, y_alive, oy, le, lt, y_bases, va, y_ops, loc, fRe, y_fLine, y_fPos, y_fStmt, y_fTarget, y_fMask, y_fHome, y_fOps, y_fVals, y_fNew, y_out) (nI q) arg (nI a) := by
  refine hs_yMake0 W E O hq ha hvt hd hmo hva hlo hfr rv1 rv2 rv3 rv4 rv5 rv6 (fun y => ?_) (fun al y1 y2 => ?_) (fun al c y1 y2 y3 y4 => ?_)
  · rcases N with ⟨_, rfl⟩ | ⟨⟨c, c1, c2⟩, _⟩
    · exact H _
    · rw [y] at c2; exact absurd c2.symm (hs_neM1 (by have := W.1.2; omega))
  · rcases N with ⟨z, rfl⟩ | ⟨_, _, rfl⟩
    · obtain ⟨c, c1, c2⟩ := y1
      rw [z] at c2; exact absurd c2.symm (hs_neM1 (by have := W.1.2; omega))
    · exact H _
  · rcases N with ⟨z, rfl⟩ | ⟨_, z, rfl⟩
    · rw [z] at y3; exact absurd y3.symm (hs_neM1 (by have := W.1.2; omega))
    · exact absurd y4 z
theorem hs_yMake68 {al : Nat → Int32} (W : hs_WX P h lc cn ml gl ex at1 ox oc lt) (E : hs_EE P (hs_df h lc) ex ey) (O : hs_OY cn ml oy le) (hc : c < cn) (ho8 : o < 8) {post : SY → Prop}
    (H : wpY_search (fun r => ((r = 0 → ((nI a ≤ 0 → wpY_value (fun u => match u with | (y_maxObjectsq, y_maxStepsq, y_maxDepthq, y_keptq, y_endq, y_tokensq, y_pendingq, y_linesq, y_classesq, y_printsq, y_placeq, y_stepsq, y_dq, y_valTopq, y_opTopq, y_opensq, y_posq, y_tkq, y_tvq, y_stmtq, y_targetq, y_errq, y_codeq, y_outcomeq, y_resultq, y_dryq, y_wantq, y_startingq, y_endedq, y_badq, y_hostedq, y_sawSuperq, y_textq, y_numbersq, y_globalsq, y_entriesq, y_attrsq, y_classOfq, y_aliveq, y_ordersq, y_lengthsq, y_lettersq, y_basesq, y_valsq, y_opsq, y_localsq, y_fRecvq, y_fLineq, y_fPosq, y_fStmtq, y_fTargetq, y_fMaskq, y_fHomeq, y_fOpsq, y_fValsq, y_fNewq, y_outq) => post (y_maxObjectsq, y_maxStepsq, y_maxDepthq, y_keptq, y_endq, y_tokensq, y_pendingq, y_linesq, y_classesq, y_printsq, y_placeq, y_stepsq, y_dq, y_valTopq, y_opTopq, y_opensq, y_posq, y_tkq, y_tvq, y_stmtq, y_targetq, y_errq, y_codeq, y_outcomeq, y_resultq, y_dryq, y_wantq, y_startingq, y_endedq, y_badq, y_hostedq, y_sawSuperq, y_textq, y_numbersq, y_globalsq, y_entriesq, y_attrsq, y_classOfq, y_aliveq, y_ordersq, y_lengthsq, y_lettersq, y_basesq, y_valsq, y_opsq, y_localsq, y_fRecvq, y_fLineq, y_fPosq, y_fStmtq, y_fTargetq, y_fMaskq, y_fHomeq, y_fOpsq, y_fValsq, y_fNewq, y_outq)) (nI mo, y_maxSteps, y_maxDepth, y_kept, y_end, y_tokens, y_pending, y_lines, y_classes, y_prints, y_place, y_steps, nI d, nI vt, y_opTop, y_opens, y_pos, y_tk, y_tv, y_stmt, y_target, y_err, y_code, y_outcome, y_result, y_dry, y_want, y_starting, y_ended, y_bad, y_hosted, y_sawSuper, y_text, y_numbers, gl, ey, hs_zr at1 o, upd oc o (nI c), al, oy, le, lt, y_bases, va, y_ops, loc, fRe, y_fLine, y_fPos, y_fStmt, y_fTarget, y_fMask, y_fHome, y_fOps, y_fVals, y_fNew, y_out) (lN (12884901888 + o))) ∧ (¬ nI a ≤ 0 → post (nI mo, y_maxSteps, y_maxDepth, y_kept, y_end, y_tokens, y_pending, y_lines, y_classes, y_prints, y_place, y_steps, nI d, nI vt, y_opTop, y_opens, y_pos, y_tk, y_tv, y_stmt, y_target, 3, y_code, y_outcome, y_result, y_dry, y_want, y_starting, y_ended, y_bad, y_hosted, y_sawSuper, y_text, y_numbers, gl, ey, hs_zr at1 o, upd oc o (nI c), al, oy, le, lt, y_bases, va, y_ops, loc, fRe, y_fLine, y_fPos, y_fStmt, y_fTarget, y_fMask, y_fHome, y_fOps, y_fVals, y_fNew, y_out)))) ∧ (¬ r = 0 → wpY_invoke (fun u => match u with | (y_maxObjectsq, y_maxStepsq, y_maxDepthq, y_keptq, y_endq, y_tokensq, y_pendingq, y_linesq, y_classesq, y_printsq, y_placeq, y_stepsq, y_dq, y_valTopq, y_opTopq, y_opensq, y_posq, y_tkq, y_tvq, y_stmtq, y_targetq, y_errq, y_codeq, y_outcomeq, y_resultq, y_dryq, y_wantq, y_startingq, y_endedq, y_badq, y_hostedq, y_sawSuperq, y_textq, y_numbersq, y_globalsq, y_entriesq, y_attrsq, y_classOfq, y_aliveq, y_ordersq, y_lengthsq, y_lettersq, y_basesq, y_valsq, y_opsq, y_localsq, y_fRecvq, y_fLineq, y_fPosq, y_fStmtq, y_fTargetq, y_fMaskq, y_fHomeq, y_fOpsq, y_fValsq, y_fNewq, y_outq) => post (y_maxObjectsq, y_maxStepsq, y_maxDepthq, y_keptq, y_endq, y_tokensq, y_pendingq, y_linesq, y_classesq, y_printsq, y_placeq, y_stepsq, y_dq, y_valTopq, y_opTopq, y_opensq, y_posq, y_tkq, y_tvq, y_stmtq, y_targetq, y_errq, y_codeq, y_outcomeq, y_resultq, y_dryq, y_wantq, y_startingq, y_endedq, y_badq, y_hostedq, y_sawSuperq, y_textq, y_numbersq, y_globalsq, y_entriesq, y_attrsq, y_classOfq, y_aliveq, y_ordersq, y_lengthsq, y_lettersq, y_basesq, y_valsq, y_opsq, y_localsq, y_fRecvq, y_fLineq, y_fPosq, y_fStmtq, y_fTargetq, y_fMaskq, y_fHomeq, y_fOpsq, y_fValsq, y_fNewq, y_outq)) (nI mo, y_maxSteps, y_maxDepth, y_kept, y_end, y_tokens, y_pending, y_lines, y_classes, y_prints, y_place, y_steps, nI d, nI vt, y_opTop, y_opens, y_pos, y_tk, y_tv, y_stmt, y_target, y_err, y_code, y_outcome, y_result, y_dry, y_want, y_starting, y_ended, y_bad, y_hosted, y_sawSuper, y_text, y_numbers, gl, ey, hs_zr at1 o, upd oc o (nI c), al, oy, le, lt, y_bases, va, y_ops, loc, fRe, y_fLine, y_fPos, y_fStmt, y_fTarget, y_fMask, y_fHome, y_fOps, y_fVals, y_fNew, y_out) r (lN (12884901888 + o)) arg (nI a) 1))) (nI mo, y_maxSteps, y_maxDepth, y_kept, y_end, y_tokens, y_pending, y_lines, y_classes, y_prints, y_place, y_steps, nI d, nI vt, y_opTop, y_opens, y_pos, y_tk, y_tv, y_stmt, y_target, y_err, y_code, y_outcome, y_result, y_dry, y_want, y_starting, y_ended, y_bad, y_hosted, y_sawSuper, y_text, y_numbers, gl, ey, hs_zr at1 o, upd oc o (nI c), al, oy, le, lt, y_bases, va, y_ops, loc, fRe, y_fLine, y_fPos, y_fStmt, y_fTarget, y_fMask, y_fHome, y_fOps, y_fVals, y_fNew, y_out) (nI c) 0 8) :
    ∀ (k i : Nat) (A : Nat → Int64), i + k = 26 → (∀ j, A j = if o * 26 ≤ j ∧ j < o * 26 + i then 0 else at1 j) → wY_create_68 post arg (nI a) (nI o) (nI mo) y_maxSteps y_maxDepth y_kept y_end y_tokens y_pending y_lines y_classes y_prints y_place y_steps (nI d) (nI vt) y_opTop y_opens y_pos y_tk y_tv y_stmt y_target y_err y_code y_outcome y_result y_dry y_want y_starting y_ended y_bad y_hosted y_sawSuper (k + 1) (nI i) y_text y_numbers gl ey A (upd oc o (nI c)) al oy le lt y_bases va y_ops loc fRe y_fLine y_fPos y_fStmt y_fTarget y_fMask y_fHome y_fOps y_fVals y_fNew y_out := by
  intro k
  induction k with
  | zero =>
    intro i A hi hA
    have eA : A = hs_zr at1 o := by
      funext j
      rw [hA j, show i = 26 by omega]; rfl
    subst eA
    refine br_t (nI_le (a := 26) (by omega) (by omega)) (And.intro (vp_in_nI ho8 (by decide)) ?_)
    rw [nI_clamp (show o < 2 ^ 31 by omega), pk_us, hs_objN (show o < 2 ^ 31 by omega)]
    exact H
  | succ k ih =>
    intro i A hi hA
    have ei : nI o * 26 + nI i = nI (o * 26 + i) := hs_ixMul o 26 i
    refine br_f (nI_ge (b := 26) (by omega) (by decide)) ?_
    rw [ei, nI_clamp (show o * 26 + i < 2 ^ 31 by omega)]
    refine And.intro (vp_in_nI (by omega) (by decide)) (nm_e (nm_r (nI_add i 1) (ih (i + 1) _ (by omega) (fun j => ?_))))
    by_cases z : j = o * 26 + i
    · subst z
      rw [pk_uLs, if_pos (by omega)]
    · rw [pk_uLn z, hA j]
      by_cases y : o * 26 ≤ j ∧ j < o * 26 + i
      · rw [if_pos y, if_pos (by omega)]
      · rw [if_neg y, if_neg (by omega)]
theorem hs_yMakeO (W : hs_WX P h lc cn ml gl ex at1 ox oc lt) (E : hs_EE P (hs_df h lc) ex ey) (O : hs_OY cn ml oy le) (hq : q < 26) (ha : a ≤ 1) (hvt : vt < 280) (hd : d ≤ 6) (hmo : mo ≤ 8) (hva : ∀ j, j < vt → va j = op j) (hlo : ∀ j i, 1 ≤ j → j ≤ d → i < 26 → HE (j * 27 + i) = loc (j * 26 + i)) (hfr : ∀ j, 1 ≤ j → j ≤ d → HE (j * 27 + 26) = fRe j) (rv1 : ∀ j, j < 208 → hs_rv (at1 j)) (rv2 : ∀ j, j < vt → hs_rv (va j)) (rv3 : ∀ j, j < (d + 1) * 26 → hs_rv (loc j)) (rv4 : ∀ j, j < 260 → hs_rv (ey j)) (rv5 : ∀ j, j < 26 → hs_rv (gl j)) (rv6 : ∀ j, 1 ≤ j → j ≤ d → hs_rv (fRe j)) (N : hs_NO gl ex HE op at1 lt cn d vt mo q c o) {post : SY → Prop}
    (Hv : hs_sea ex 8 (ml c) = none → a = 0 → ∀ al, post (nI mo, y_maxSteps, y_maxDepth, y_kept, y_end, y_tokens, y_pending, y_lines, y_classes, y_prints, y_place, y_steps, nI d, nI (vt + 1), y_opTop, y_opens, y_pos, y_tk, y_tv, y_stmt, y_target, y_err, y_code, y_outcome, y_result, y_dry, 0, y_starting, y_ended, y_bad, y_hosted, y_sawSuper, y_text, y_numbers, gl, ey, hs_zr at1 o, upd oc o (nI c), al, oy, le, lt, y_bases, vp_updL va vt (lN (12884901888 + o)), y_ops, loc, fRe, y_fLine, y_fPos, y_fStmt, y_fTarget, y_fMask, y_fHome, y_fOps, y_fVals, y_fNew, y_out))
    (He : hs_sea ex 8 (ml c) = none → a = 1 → ∀ al, post (nI mo, y_maxSteps, y_maxDepth, y_kept, y_end, y_tokens, y_pending, y_lines, y_classes, y_prints, y_place, y_steps, nI d, nI vt, y_opTop, y_opens, y_pos, y_tk, y_tv, y_stmt, y_target, 3, y_code, y_outcome, y_result, y_dry, y_want, y_starting, y_ended, y_bad, y_hosted, y_sawSuper, y_text, y_numbers, gl, ey, hs_zr at1 o, upd oc o (nI c), al, oy, le, lt, y_bases, va, y_ops, loc, fRe, y_fLine, y_fPos, y_fStmt, y_fTarget, y_fMask, y_fHome, y_fOps, y_fVals, y_fNew, y_out))
    (Hm : ∀ m, hs_sea ex 8 (ml c) = some m → ∀ al, wpY_invoke (fun u => match u with | (y_maxObjectsq, y_maxStepsq, y_maxDepthq, y_keptq, y_endq, y_tokensq, y_pendingq, y_linesq, y_classesq, y_printsq, y_placeq, y_stepsq, y_dq, y_valTopq, y_opTopq, y_opensq, y_posq, y_tkq, y_tvq, y_stmtq, y_targetq, y_errq, y_codeq, y_outcomeq, y_resultq, y_dryq, y_wantq, y_startingq, y_endedq, y_badq, y_hostedq, y_sawSuperq, y_textq, y_numbersq, y_globalsq, y_entriesq, y_attrsq, y_classOfq, y_aliveq, y_ordersq, y_lengthsq, y_lettersq, y_basesq, y_valsq, y_opsq, y_localsq, y_fRecvq, y_fLineq, y_fPosq, y_fStmtq, y_fTargetq, y_fMaskq, y_fHomeq, y_fOpsq, y_fValsq, y_fNewq, y_outq) => post (y_maxObjectsq, y_maxStepsq, y_maxDepthq, y_keptq, y_endq, y_tokensq, y_pendingq, y_linesq, y_classesq, y_printsq, y_placeq, y_stepsq, y_dq, y_valTopq, y_opTopq, y_opensq, y_posq, y_tkq, y_tvq, y_stmtq, y_targetq, y_errq, y_codeq, y_outcomeq, y_resultq, y_dryq, y_wantq, y_startingq, y_endedq, y_badq, y_hostedq, y_sawSuperq, y_textq, y_numbersq, y_globalsq, y_entriesq, y_attrsq, y_classOfq, y_aliveq, y_ordersq, y_lengthsq, y_lettersq, y_basesq, y_valsq, y_opsq, y_localsq, y_fRecvq, y_fLineq, y_fPosq, y_fStmtq, y_fTargetq, y_fMaskq, y_fHomeq, y_fOpsq, y_fValsq, y_fNewq, y_outq)) (nI mo, y_maxSteps, y_maxDepth, y_kept, y_end, y_tokens, y_pending, y_lines, y_classes, y_prints, y_place, y_steps, nI d, nI vt, y_opTop, y_opens, y_pos, y_tk, y_tv, y_stmt, y_target, y_err, y_code, y_outcome, y_result, y_dry, y_want, y_starting, y_ended, y_bad, y_hosted, y_sawSuper, y_text, y_numbers, gl, ey, hs_zr at1 o, upd oc o (nI c), al, oy, le, lt, y_bases, va, y_ops, loc, fRe, y_fLine, y_fPos, y_fStmt, y_fTarget, y_fMask, y_fHome, y_fOps, y_fVals, y_fNew, y_out) (hs_oV ey 8 (some m)) (lN (12884901888 + o)) arg (nI a) 1) :
    wpY_create post (nI mo, y_maxSteps, y_maxDepth, y_kept, y_end, y_tokens, y_pending, y_lines, y_classes, y_prints, y_place, y_steps, nI d, nI vt, y_opTop, y_opens, y_pos, y_tk, y_tv, y_stmt, y_target, y_err, y_code, y_outcome, y_result, y_dry, y_want, y_starting, y_ended, y_bad, y_hosted, y_sawSuper, y_text, y_numbers, gl, ey, at1, oc, y_alive, oy, le, lt, y_bases, va, y_ops, loc, fRe, y_fLine, y_fPos, y_fStmt, y_fTarget, y_fMask, y_fHome, y_fOps, y_fVals, y_fNew, y_out) (nI q) arg (nI a) := by
  obtain ⟨n1, n2, n3, n4, n5, n6⟩ := N
  refine hs_yMake0 W E O hq ha hvt hd hmo hva hlo hfr rv1 rv2 rv3 rv4 rv5 rv6 (fun y => ?_) (fun al y1 y2 => absurd n3 y2) (fun al c' y1 y2 y3 y4 => ?_)
  · rw [y] at n2; exact absurd n2.symm (hs_neM1 (by have := W.1.2; omega))
  · have ec : c' = c := by
      have := (nI_eq (by have := W.1.2; omega) (by have := W.1.2; omega)).mp (y3.symm.trans n2)
      exact this
    subst ec
    have W' := W
    obtain ⟨⟨w1, w2⟩, w3, w4, w5, w6, w7, w8, w9, w10⟩ := W
    obtain ⟨o1, o2, o3, o4⟩ := w10 c' n1
    obtain ⟨u1, u2⟩ := O c' n1
    have hm10 : ∀ m, m ∈ ml c' → m < 10 := fun m hm => by have := o4 m hm; omega
    have fin : ∃ n68 : Nat, wY_create_68 post arg (nI a) (nI o) (nI mo) y_maxSteps y_maxDepth y_kept y_end y_tokens y_pending y_lines y_classes y_prints y_place y_steps (nI d) (nI vt) y_opTop y_opens y_pos y_tk y_tv y_stmt y_target y_err y_code y_outcome y_result y_dry y_want y_starting y_ended y_bad y_hosted y_sawSuper n68 0 y_text y_numbers gl ey at1 (upd oc o (nI c')) al oy le lt y_bases va y_ops loc fRe y_fLine y_fPos y_fStmt y_fTarget y_fMask y_fHome y_fOps y_fVals y_fNew y_out := by
      refine ⟨27, hs_yMake68 W' E O n1 n4 (hs_ySea (k := 0) (l := ml c') (by omega) (by decide) o2 u1 u2 hm10 (by decide) ?_) 26 0 at1 rfl (fun j => by rw [if_neg (by omega)])⟩
      rw [List.drop_zero, hs_seaE E (by decide) hm10]
      cases es : hs_sea ex 8 (ml c') with
      | none =>
        refine br_t rfl ⟨fun z => hs_yValue (by omega) (Hv es ?_ al), fun z => He es ?_ al⟩
        · have : a = 0 ∨ a = 1 := by omega
          rcases this with rfl | rfl
          · rfl
          · exact absurd z (by decide)
        · have : a = 0 ∨ a = 1 := by omega
          rcases this with rfl | rfl
          · exact absurd (by decide) z
          · rfl
      | some m =>
        obtain ⟨s1, s2⟩ := hs_seaM w3 es
        refine br_f (fun y => s2 ((hs_eeZ (hm10 m s1) (E m 8 (hm10 m s1) (by decide))).mpr y)) (Hm m es al)
    have lp : ∀ k i, i + k = o → wY_create_36 post (nI q) arg (nI a) (nI mo) y_maxSteps y_maxDepth y_kept y_end y_tokens y_pending y_lines y_classes y_prints y_place y_steps (nI d) (nI vt) y_opTop y_opens y_pos y_tk y_tv y_stmt y_target y_err y_code y_outcome y_result y_dry y_want y_starting y_ended y_bad y_hosted y_sawSuper y_text y_numbers gl ey at1 oc al oy le lt y_bases va y_ops loc fRe y_fLine y_fPos y_fStmt y_fTarget y_fMask y_fHome y_fOps y_fVals y_fNew y_out (k + 1) (nI i) := by
      intro k
      induction k with
      | zero =>
        intro i hi
        have : i = o := by omega
        subst this
        refine And.intro (vp_in_nI n4 (by decide)) ?_
        rw [nI_clamp (show i < 2 ^ 31 by omega), nI_clamp (show q < 2 ^ 31 by omega), y1 i n4, n5, n2]
        exact br_t rfl (And.intro (vp_in_nI hq (by decide)) (And.intro (vp_in_nI n4 (by decide)) (nm_e fin)))
      | succ k ih =>
        intro i hi
        refine And.intro (vp_in_nI (by omega) (by decide)) ?_
        rw [nI_clamp (show i < 2 ^ 31 by omega), y1 i (by omega), n6 i (by omega)]
        exact br_f (by decide) (nm_r (nI_add i 1) (ih (i + 1) (by omega)))
    exact ⟨o + 1, lp o 0 (by omega)⟩
end
