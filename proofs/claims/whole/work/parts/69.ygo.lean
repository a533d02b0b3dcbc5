/-! the reference: where it goes on, and where an error is held -/
section
variable {x_objectLimit x_stepLimit x_depthLimit x_pendingCount x_keptTokens x_keptLines x_lineCount x_codeCount x_cursor x_stop x_waitingCount x_openCount x_classCount x_callCount x_operandCount x_stepsTaken x_error x_raisedCode x_printCount x_lastPlace : Int32} {x_lastResult : Int64} {x_pending x_lineTable x_orders x_merging x_letterClass x_objectClass x_calls x_lastPrints : Nat → Int32} {x_code x_waiting x_globals x_entries x_attributes x_held x_operands : Nat → Int64}
variable {y_maxObjects y_maxSteps y_maxDepth y_kept y_end y_tokens y_pending y_lines y_classes y_prints y_place y_steps y_d y_valTop y_opTop y_opens y_pos y_tk y_tv y_stmt y_target y_err y_code y_outcome y_dry y_want y_starting y_ended y_bad y_hosted y_sawSuper : Int32} {y_result : Int64} {y_text y_numbers y_classOf y_alive y_orders y_lengths y_letters y_bases y_ops y_fLine y_fPos y_fStmt y_fTarget y_fMask y_fHome y_fOps y_fVals y_fNew y_out : Nat → Int32} {y_globals y_entries y_attrs y_vals y_locals y_fRecv : Nat → Int64}
variable {tx nu LT CL fLi fPo fSt fTa fMa fOp fVa fNe : Nat → Int32} {cd gl loc va fRe : Nat → Int64} {lc kp cc : Nat} {P ind h : Nat → Nat} {tk : Nat → List Nat} {ca cb us ue fl dl vb : Nat → Nat} {cs ce a b l k d s q vt j vn on : Nat} {ho : Bool} {v : Int64}
theorem hs_yBegin {x : Int32} (hd : d ≤ 6) {post : SY → Prop} (H : post (y_maxObjects, y_maxSteps, y_maxDepth, y_kept, y_end, y_tokens, y_pending, y_lines, y_classes, y_prints, y_place, y_steps, nI d, y_valTop, y_opTop, y_opens, y_pos, y_tk, y_tv, y_stmt, y_target, y_err, y_code, y_outcome, y_result, y_dry, y_want, 1, y_ended, y_bad, y_hosted, y_sawSuper, y_text, y_numbers, y_globals, y_entries, y_attrs, y_classOf, y_alive, y_orders, y_lengths, y_letters, y_bases, y_vals, y_ops, y_locals, y_fRecv, upd fLi d x, y_fPos, y_fStmt, y_fTarget, y_fMask, y_fHome, y_fOps, y_fVals, y_fNew, y_out)) : wpY_begin post (y_maxObjects, y_maxSteps, y_maxDepth, y_kept, y_end, y_tokens, y_pending, y_lines, y_classes, y_prints, y_place, y_steps, nI d, y_valTop, y_opTop, y_opens, y_pos, y_tk, y_tv, y_stmt, y_target, y_err, y_code, y_outcome, y_result, y_dry, y_want, y_starting, y_ended, y_bad, y_hosted, y_sawSuper, y_text, y_numbers, y_globals, y_entries, y_attrs, y_classOf, y_alive, y_orders, y_lengths, y_letters, y_bases, y_vals, y_ops, y_locals, y_fRecv, fLi, y_fPos, y_fStmt, y_fTarget, y_fMask, y_fHome, y_fOps, y_fVals, y_fNew, y_out) x := by
  refine And.intro (vp_in_nI (by omega) (by decide)) ?_
  rw [nI_clamp (show d < 2 ^ 31 by omega)]
  exact nm_e H
theorem hs_yEnter (C : hs_Ch tx cs ce a b P ind) (la : a ≤ l) (lb : l + 1 < b) (hd : d ≤ 6) {post : SY → Prop} (H : post (y_maxObjects, y_maxSteps, y_maxDepth, y_kept, y_end, y_tokens, y_pending, y_lines, y_classes, y_prints, y_place, y_steps, nI d, y_valTop, y_opTop, y_opens, y_pos, y_tk, y_tv, y_stmt, y_target, y_err, y_code, y_outcome, y_result, y_dry, y_want, 1, y_ended, y_bad, y_hosted, y_sawSuper, tx, y_numbers, y_globals, y_entries, y_attrs, y_classOf, y_alive, y_orders, y_lengths, y_letters, y_bases, y_vals, y_ops, y_locals, y_fRecv, upd fLi d (nI (P (l + 1))), y_fPos, y_fStmt, y_fTarget, y_fMask, y_fHome, y_fOps, y_fVals, y_fNew, y_out)) : wpY_enter post (y_maxObjects, y_maxSteps, y_maxDepth, y_kept, y_end, y_tokens, y_pending, y_lines, y_classes, y_prints, y_place, y_steps, nI d, y_valTop, y_opTop, y_opens, y_pos, y_tk, y_tv, y_stmt, y_target, y_err, y_code, y_outcome, y_result, y_dry, y_want, y_starting, y_ended, y_bad, y_hosted, y_sawSuper, tx, y_numbers, y_globals, y_entries, y_attrs, y_classOf, y_alive, y_orders, y_lengths, y_letters, y_bases, y_vals, y_ops, y_locals, y_fRecv, fLi, y_fPos, y_fStmt, y_fTarget, y_fMask, y_fHome, y_fOps, y_fVals, y_fNew, y_out) (nI (P l)) := by
  refine hs_yFollow C la (by omega) (hs_nxFo (by omega)) ?_
  have e : hs_at P b (l + 1) = nI (P (l + 1)) := if_pos lb
  rw [e]
  exact hs_yBegin hd H
theorem hs_yPlt (C : hs_Ch tx cs ce a b P ind) (la : a ≤ l) (lb : l < b) : P l < 1024 ∧ cs ≤ P l ∧ P l ≤ ce ∧ hs_ls tx cs (P l) ∧ ind l = hs_ind tx cs (P l) := by
  obtain ⟨p1, p2, p3, p4, p5⟩ := C.2.2.2.1 l la lb
  have := C.1.1
  exact ⟨by omega, p1, by omega, p4, p5⟩
theorem hs_yAf0 (C : hs_Ch tx cs ce a b P ind) (Hh : hs_H tx a b P h) (K : hs_ck h ind tk a b) (hd : d ≤ 6) {post : SY → Prop} :
    ∀ (n l : Nat), hs_am h ind l < n → a ≤ l → l < b → (∀ m, hs_af h ind a b n l = some m → post (y_maxObjects, y_maxSteps, y_maxDepth, y_kept, y_end, y_tokens, y_pending, y_lines, y_classes, y_prints, y_place, y_steps, nI d, y_valTop, y_opTop, y_opens, y_pos, y_tk, y_tv, y_stmt, y_target, y_err, y_code, y_outcome, y_result, y_dry, y_want, 1, y_ended, y_bad, y_hosted, y_sawSuper, tx, y_numbers, y_globals, y_entries, y_attrs, y_classOf, y_alive, y_orders, y_lengths, y_letters, y_bases, y_vals, y_ops, y_locals, y_fRecv, upd fLi d (nI (P m)), y_fPos, y_fStmt, y_fTarget, y_fMask, y_fHome, y_fOps, y_fVals, y_fNew, y_out)) → (hs_af h ind a b n l = none → hs_D h ind a l = none → post (y_maxObjects, y_maxSteps, y_maxDepth, y_kept, y_end, y_tokens, y_pending, y_lines, y_classes, y_prints, y_place, y_steps, nI d, y_valTop, y_opTop, y_opens, y_pos, y_tk, y_tv, y_stmt, y_target, y_err, y_code, y_outcome, y_result, y_dry, y_want, 1, y_ended, y_bad, y_hosted, y_sawSuper, tx, y_numbers, y_globals, y_entries, y_attrs, y_classOf, y_alive, y_orders, y_lengths, y_letters, y_bases, y_vals, y_ops, y_locals, y_fRecv, upd fLi d (-1), y_fPos, y_fStmt, y_fTarget, y_fMask, y_fHome, y_fOps, y_fVals, y_fNew, y_out)) →
    (hs_af h ind a b n l = none → (∃ dl, hs_D h ind a l = some dl) → ∀ c : SY → Prop, (∀ u, post u → c u) → wpY_giveBack (fun u => match u with | (y_maxObjectsq, y_maxStepsq, y_maxDepthq, y_keptq, y_endq, y_tokensq, y_pendingq, y_linesq, y_classesq, y_printsq, y_placeq, y_stepsq, y_dq, y_valTopq, y_opTopq, y_opensq, y_posq, y_tkq, y_tvq, y_stmtq, y_targetq, y_errq, y_codeq, y_outcomeq, y_resultq, y_dryq, y_wantq, y_startingq, y_endedq, y_badq, y_hostedq, y_sawSuperq, y_textq, y_numbersq, y_globalsq, y_entriesq, y_attrsq, y_classOfq, y_aliveq, y_ordersq, y_lengthsq, y_lettersq, y_basesq, y_valsq, y_opsq, y_localsq, y_fRecvq, y_fLineq, y_fPosq, y_fStmtq, y_fTargetq, y_fMaskq, y_fHomeq, y_fOpsq, y_fValsq, y_fNewq, y_outq) => c (y_maxObjectsq, y_maxStepsq, y_maxDepthq, y_keptq, y_endq, y_tokensq, y_pendingq, y_linesq, y_classesq, y_printsq, y_placeq, y_stepsq, y_dq, y_valTopq, y_opTopq, y_opensq, y_posq, y_tkq, y_tvq, y_stmtq, y_targetq, y_errq, y_codeq, y_outcomeq, y_resultq, y_dryq, y_wantq, y_startingq, y_endedq, y_badq, y_hostedq, y_sawSuperq, y_textq, y_numbersq, y_globalsq, y_entriesq, y_attrsq, y_classOfq, y_aliveq, y_ordersq, y_lengthsq, y_lettersq, y_basesq, y_valsq, y_opsq, y_localsq, y_fRecvq, y_fLineq, y_fPosq, y_fStmtq, y_fTargetq, y_fMaskq, y_fHomeq, y_fOpsq, y_fValsq, y_fNewq, y_outq)) (y_maxObjects, y_maxSteps, y_maxDepth, y_kept, y_end, y_tokens, y_pending, y_lines, y_classes, y_prints, y_place, y_steps, nI d, y_valTop, y_opTop, y_opens, y_pos, y_tk, y_tv, y_stmt, y_target, y_err, y_code, y_outcome, y_result, y_dry, y_want, y_starting, y_ended, y_bad, y_hosted, y_sawSuper, tx, y_numbers, y_globals, y_entries, y_attrs, y_classOf, y_alive, y_orders, y_lengths, y_letters, y_bases, y_vals, y_ops, y_locals, y_fRecv, fLi, y_fPos, y_fStmt, y_fTarget, y_fMask, y_fHome, y_fOps, y_fVals, y_fNew, y_out) 4294967296) → wY_after_4 post (n + 1) (nI (P l)) 1 y_maxObjects y_maxSteps y_maxDepth y_kept y_end y_tokens y_pending y_lines y_classes y_prints y_place y_steps (nI d) y_valTop y_opTop y_opens y_pos y_tk y_tv y_stmt y_target y_err y_code y_outcome y_result y_dry y_want y_starting y_ended y_bad y_hosted y_sawSuper tx y_numbers y_globals y_entries y_attrs y_classOf y_alive y_orders y_lengths y_letters y_bases y_vals y_ops y_locals y_fRecv fLi y_fPos y_fStmt y_fTarget y_fMask y_fHome y_fOps y_fVals y_fNew y_out := by
  intro n
  induction n with
  | zero => intro l h1; omega
  | succ n ih =>
    intro l hn la lb Hs Hn Hg
    obtain ⟨F1, F2, F3, F4⟩ := hs_bkF (ind := ind) lb
    obtain ⟨l1, l2, l3, l4, l5⟩ := hs_yPlt C la lb
    have i8 := (K.1 l la lb).2
    unfold hs_af at Hs Hn Hg
    have end0 : ∀ (x : Int32), post (y_maxObjects, y_maxSteps, y_maxDepth, y_kept, y_end, y_tokens, y_pending, y_lines, y_classes, y_prints, y_place, y_steps, nI d, y_valTop, y_opTop, y_opens, y_pos, y_tk, y_tv, y_stmt, y_target, y_err, y_code, y_outcome, y_result, y_dry, y_want, 1, y_ended, y_bad, y_hosted, y_sawSuper, tx, y_numbers, y_globals, y_entries, y_attrs, y_classOf, y_alive, y_orders, y_lengths, y_letters, y_bases, y_vals, y_ops, y_locals, y_fRecv, upd fLi d x, y_fPos, y_fStmt, y_fTarget, y_fMask, y_fHome, y_fOps, y_fVals, y_fNew, y_out) → wpY_begin (fun u => match u with | (y_maxObjectsq, y_maxStepsq, y_maxDepthq, y_keptq, y_endq, y_tokensq, y_pendingq, y_linesq, y_classesq, y_printsq, y_placeq, y_stepsq, y_dq, y_valTopq, y_opTopq, y_opensq, y_posq, y_tkq, y_tvq, y_stmtq, y_targetq, y_errq, y_codeq, y_outcomeq, y_resultq, y_dryq, y_wantq, y_startingq, y_endedq, y_badq, y_hostedq, y_sawSuperq, y_textq, y_numbersq, y_globalsq, y_entriesq, y_attrsq, y_classOfq, y_aliveq, y_ordersq, y_lengthsq, y_lettersq, y_basesq, y_valsq, y_opsq, y_localsq, y_fRecvq, y_fLineq, y_fPosq, y_fStmtq, y_fTargetq, y_fMaskq, y_fHomeq, y_fOpsq, y_fValsq, y_fNewq, y_outq) => wY_after_4 post (n + 1) x 0 y_maxObjectsq y_maxStepsq y_maxDepthq y_keptq y_endq y_tokensq y_pendingq y_linesq y_classesq y_printsq y_placeq y_stepsq y_dq y_valTopq y_opTopq y_opensq y_posq y_tkq y_tvq y_stmtq y_targetq y_errq y_codeq y_outcomeq y_resultq y_dryq y_wantq y_startingq y_endedq y_badq y_hostedq y_sawSuperq y_textq y_numbersq y_globalsq y_entriesq y_attrsq y_classOfq y_aliveq y_ordersq y_lengthsq y_lettersq y_basesq y_valsq y_opsq y_localsq y_fRecvq y_fLineq y_fPosq y_fStmtq y_fTargetq y_fMaskq y_fHomeq y_fOpsq y_fValsq y_fNewq y_outq) (y_maxObjects, y_maxSteps, y_maxDepth, y_kept, y_end, y_tokens, y_pending, y_lines, y_classes, y_prints, y_place, y_steps, nI d, y_valTop, y_opTop, y_opens, y_pos, y_tk, y_tv, y_stmt, y_target, y_err, y_code, y_outcome, y_result, y_dry, y_want, y_starting, y_ended, y_bad, y_hosted, y_sawSuper, tx, y_numbers, y_globals, y_entries, y_attrs, y_classOf, y_alive, y_orders, y_lengths, y_letters, y_bases, y_vals, y_ops, y_locals, y_fRecv, fLi, y_fPos, y_fStmt, y_fTarget, y_fMask, y_fHome, y_fOps, y_fVals, y_fNew, y_out) x := fun x H => hs_yBegin hd (br_t rfl H)
    have up : ¬ (hs_bk ind b l < b ∧ ind (hs_bk ind b l) = ind l) → wY_after_80 post (wY_after_4 post (n + 1)) (nI (P l)) y_maxObjects y_maxSteps y_maxDepth y_kept y_end y_tokens y_pending y_lines y_classes y_prints y_place y_steps (nI d) y_valTop y_opTop y_opens y_pos y_tk y_tv y_stmt y_target y_err y_code y_outcome y_result y_dry y_want y_starting y_ended y_bad y_hosted y_sawSuper tx y_numbers y_globals y_entries y_attrs y_classOf y_alive y_orders y_lengths y_letters y_bases y_vals y_ops y_locals y_fRecv fLi y_fPos y_fStmt y_fTarget y_fMask y_fHome y_fOps y_fVals y_fNew y_out := by
      intro e1
      rw [if_neg e1] at Hs Hn Hg
      unfold wY_after_80
      refine hs_yOpener C la lb (o := hs_pa ind a l) hs_paOK ?_
      cases q : hs_pa ind a l with
      | none =>
        rw [q] at Hs Hn Hg
        refine br_t (show (-1 : Int32) < 0 by decide) ?_
        unfold wY_after_115 wY_after_116
        refine br_t (show (-1 : Int32) < 0 by decide) ?_
        unfold wY_after_132
        exact end0 (-1) (Hn rfl (hs_D0 q))
      | some p =>
        rw [q] at Hs Hn Hg
        obtain ⟨p1, p2, p3⟩ := hs_paLt q
        obtain ⟨g1, g2, g3⟩ := Hh p p1 (by omega)
        have pl := (hs_yPlt C p1 (by omega)).1
        have dd := hs_D1 (h := h) i8 q
        have Hs' : ∀ m, (if h p = 2 then none else if h p = 6 then some p else hs_af h ind a b n p) = some m → post (y_maxObjects, y_maxSteps, y_maxDepth, y_kept, y_end, y_tokens, y_pending, y_lines, y_classes, y_prints, y_place, y_steps, nI d, y_valTop, y_opTop, y_opens, y_pos, y_tk, y_tv, y_stmt, y_target, y_err, y_code, y_outcome, y_result, y_dry, y_want, 1, y_ended, y_bad, y_hosted, y_sawSuper, tx, y_numbers, y_globals, y_entries, y_attrs, y_classOf, y_alive, y_orders, y_lengths, y_letters, y_bases, y_vals, y_ops, y_locals, y_fRecv, upd fLi d (nI (P m)), y_fPos, y_fStmt, y_fTarget, y_fMask, y_fHome, y_fOps, y_fVals, y_fNew, y_out) := Hs
        have Hn' : (if h p = 2 then none else if h p = 6 then some p else hs_af h ind a b n p) = none → hs_D h ind a l = none → post (y_maxObjects, y_maxSteps, y_maxDepth, y_kept, y_end, y_tokens, y_pending, y_lines, y_classes, y_prints, y_place, y_steps, nI d, y_valTop, y_opTop, y_opens, y_pos, y_tk, y_tv, y_stmt, y_target, y_err, y_code, y_outcome, y_result, y_dry, y_want, 1, y_ended, y_bad, y_hosted, y_sawSuper, tx, y_numbers, y_globals, y_entries, y_attrs, y_classOf, y_alive, y_orders, y_lengths, y_letters, y_bases, y_vals, y_ops, y_locals, y_fRecv, upd fLi d (-1), y_fPos, y_fStmt, y_fTarget, y_fMask, y_fHome, y_fOps, y_fVals, y_fNew, y_out) := Hn
        have Hg' : (if h p = 2 then none else if h p = 6 then some p else hs_af h ind a b n p) = none → (∃ dl, hs_D h ind a l = some dl) → ∀ c : SY → Prop, (∀ u, post u → c u) → wpY_giveBack (fun u => match u with | (y_maxObjectsq, y_maxStepsq, y_maxDepthq, y_keptq, y_endq, y_tokensq, y_pendingq, y_linesq, y_classesq, y_printsq, y_placeq, y_stepsq, y_dq, y_valTopq, y_opTopq, y_opensq, y_posq, y_tkq, y_tvq, y_stmtq, y_targetq, y_errq, y_codeq, y_outcomeq, y_resultq, y_dryq, y_wantq, y_startingq, y_endedq, y_badq, y_hostedq, y_sawSuperq, y_textq, y_numbersq, y_globalsq, y_entriesq, y_attrsq, y_classOfq, y_aliveq, y_ordersq, y_lengthsq, y_lettersq, y_basesq, y_valsq, y_opsq, y_localsq, y_fRecvq, y_fLineq, y_fPosq, y_fStmtq, y_fTargetq, y_fMaskq, y_fHomeq, y_fOpsq, y_fValsq, y_fNewq, y_outq) => c (y_maxObjectsq, y_maxStepsq, y_maxDepthq, y_keptq, y_endq, y_tokensq, y_pendingq, y_linesq, y_classesq, y_printsq, y_placeq, y_stepsq, y_dq, y_valTopq, y_opTopq, y_opensq, y_posq, y_tkq, y_tvq, y_stmtq, y_targetq, y_errq, y_codeq, y_outcomeq, y_resultq, y_dryq, y_wantq, y_startingq, y_endedq, y_badq, y_hostedq, y_sawSuperq, y_textq, y_numbersq, y_globalsq, y_entriesq, y_attrsq, y_classOfq, y_aliveq, y_ordersq, y_lengthsq, y_lettersq, y_basesq, y_valsq, y_opsq, y_localsq, y_fRecvq, y_fLineq, y_fPosq, y_fStmtq, y_fTargetq, y_fMaskq, y_fHomeq, y_fOpsq, y_fValsq, y_fNewq, y_outq)) (y_maxObjects, y_maxSteps, y_maxDepth, y_kept, y_end, y_tokens, y_pending, y_lines, y_classes, y_prints, y_place, y_steps, nI d, y_valTop, y_opTop, y_opens, y_pos, y_tk, y_tv, y_stmt, y_target, y_err, y_code, y_outcome, y_result, y_dry, y_want, y_starting, y_ended, y_bad, y_hosted, y_sawSuper, tx, y_numbers, y_globals, y_entries, y_attrs, y_classOf, y_alive, y_orders, y_lengths, y_letters, y_bases, y_vals, y_ops, y_locals, y_fRecv, fLi, y_fPos, y_fStmt, y_fTarget, y_fMask, y_fHome, y_fOps, y_fVals, y_fNew, y_out) 4294967296 := Hg
        refine br_f (show ¬ nI (P p) < 0 from nI_pos (by omega)) (And.intro (vp_in_nI pl (by decide)) ?_)
        rw [show hs_pI P (some p) = nI (P p) from rfl, nI_clamp (show P p < 2 ^ 31 by omega), g1]
        refine pk_eq (h p) 2 (fun z => ?_) (fun z => And.intro (vp_in_nI pl (by decide)) (pk_eq (h p) 6 (fun z6 => ?_) (fun z6 => ?_)))
        · rw [if_pos z] at Hs' Hn' Hg' dd
          unfold wY_after_115 wY_after_116
          refine br_f (show ¬ nI (P p) < 0 from nI_pos (by omega)) (And.intro (vp_in_nI pl (by decide)) ?_)
          rw [nI_clamp (show P p < 2 ^ 31 by omega), g1]
          refine pk_eq (h p) 6 (fun z6 => by omega) (fun z6 => And.intro (vp_in_nI pl (by decide)) (pk_eq (h p) 2 (fun _ => ?_) (fun y => absurd z y)))
          exact Hg' rfl ⟨p, dd⟩ (fun u => match u with | (y_maxObjectsw, y_maxStepsw, y_maxDepthw, y_keptw, y_endw, y_tokensw, y_pendingw, y_linesw, y_classesw, y_printsw, y_placew, y_stepsw, y_dw, y_valTopw, y_opTopw, y_opensw, y_posw, y_tkw, y_tvw, y_stmtw, y_targetw, y_errw, y_codew, y_outcomew, y_resultw, y_dryw, y_wantw, y_startingw, y_endedw, y_badw, y_hostedw, y_sawSuperw, y_textw, y_numbersw, y_globalsw, y_entriesw, y_attrsw, y_classOfw, y_alivew, y_ordersw, y_lengthsw, y_lettersw, y_basesw, y_valsw, y_opsw, y_localsw, y_fRecvw, y_fLinew, y_fPosw, y_fStmtw, y_fTargetw, y_fMaskw, y_fHomew, y_fOpsw, y_fValsw, y_fNeww, y_outw) => wY_after_4 post (n + 1) (nI (P p)) 0 y_maxObjectsw y_maxStepsw y_maxDepthw y_keptw y_endw y_tokensw y_pendingw y_linesw y_classesw y_printsw y_placew y_stepsw y_dw y_valTopw y_opTopw y_opensw y_posw y_tkw y_tvw y_stmtw y_targetw y_errw y_codew y_outcomew y_resultw y_dryw y_wantw y_startingw y_endedw y_badw y_hostedw y_sawSuperw y_textw y_numbersw y_globalsw y_entriesw y_attrsw y_classOfw y_alivew y_ordersw y_lengthsw y_lettersw y_basesw y_valsw y_opsw y_localsw y_fRecvw y_fLinew y_fPosw y_fStmtw y_fTargetw y_fMaskw y_fHomew y_fOpsw y_fValsw y_fNeww y_outw) (fun u hu => br_t rfl hu)
        · rw [if_neg z, if_pos z6] at Hs'
          unfold wY_after_115 wY_after_116
          refine br_f (show ¬ nI (P p) < 0 from nI_pos (by omega)) (And.intro (vp_in_nI pl (by decide)) ?_)
          rw [nI_clamp (show P p < 2 ^ 31 by omega), g1]
          refine pk_eq (h p) 6 (fun _ => ?_) (fun y => absurd z6 y)
          unfold wY_after_132
          exact end0 _ (Hs' p rfl)
        · rw [if_neg z, if_neg z6] at Hs' Hn' Hg'
          rw [if_neg z] at dd
          rw [dd] at Hn' Hg'
          unfold wY_after_116
          refine br_f (show ¬ nI (P p) < 0 from nI_pos (by omega)) (And.intro (vp_in_nI pl (by decide)) ?_)
          rw [nI_clamp (show P p < 2 ^ 31 by omega), g1]
          refine pk_eq (h p) 6 (fun y => absurd y z6) (fun _ => And.intro (vp_in_nI pl (by decide)) (pk_eq (h p) 2 (fun y => absurd y z) (fun _ => ?_)))
          have m := hs_am2 (h := h) q
          exact ih p (by omega) p1 (by omega) Hs' Hn' Hg'
    refine br_f (by decide) (hs_yFollow C la lb (hs_bkFo lb) ?_)
    by_cases e : hs_bk ind b l < b
    · have ea : hs_at P b (hs_bk ind b l) = nI (P (hs_bk ind b l)) := if_pos e
      obtain ⟨b1, b2, b3, b4, b5⟩ := hs_yPlt C (l := hs_bk ind b l) (by omega) e
      obtain ⟨g1, g2, g3⟩ := Hh (hs_bk ind b l) (by omega) e
      have j8 := (K.1 (hs_bk ind b l) (by omega) e).2
      rw [ea]
      refine br_f (nI_pos (by omega)) (hs_yIndent C b2 b3 b4 (hs_yIndent C l2 l3 l4 ?_))
      rw [← b5, ← l5]
      refine pk_eq (ind (hs_bk ind b l)) (ind l) (fun ei => And.intro (vp_in_nI b1 (by decide)) ?_) (fun ei => up (fun y => ei y.2))
      rw [if_pos ⟨e, ei⟩] at Hs Hn Hg
      rw [nI_clamp (show P (hs_bk ind b l) < 2 ^ 31 by omega), g1]
      have dd := (hs_DEq (h := h) la lb e ei).1
      have go : (h (hs_bk ind b l) = 5 ∨ h (hs_bk ind b l) = 8) → wY_after_58 post (wY_after_4 post (n + 1)) (nI (P (hs_bk ind b l))) y_maxObjects y_maxSteps y_maxDepth y_kept y_end y_tokens y_pending y_lines y_classes y_prints y_place y_steps (nI d) y_valTop y_opTop y_opens y_pos y_tk y_tv y_stmt y_target y_err y_code y_outcome y_result y_dry y_want y_starting y_ended y_bad y_hosted y_sawSuper tx y_numbers y_globals y_entries y_attrs y_classOf y_alive y_orders y_lengths y_letters y_bases y_vals y_ops y_locals y_fRecv fLi y_fPos y_fStmt y_fTarget y_fMask y_fHome y_fOps y_fVals y_fNew y_out := by
        intro y
        rw [if_pos y] at Hs Hn Hg
        rw [← dd] at Hn Hg
        have m := hs_am1 K la lb e ei y
        unfold wY_after_58 wY_after_63
        exact br_f (by decide) (ih _ (by omega) (by omega) e Hs Hn Hg)
      refine pk_eq (h (hs_bk ind b l)) 5 (fun y => go (Or.inl y)) (fun y5 => And.intro (vp_in_nI b1 (by decide)) (pk_eq (h (hs_bk ind b l)) 8 (fun y => go (Or.inr y)) (fun y8 => ?_)))
      rw [if_neg (fun y => y.elim y5 y8)] at Hs
      unfold wY_after_63
      exact br_t rfl (end0 _ (Hs _ rfl))
    · have ea : hs_at P b (hs_bk ind b l) = -1 := if_neg e
      rw [ea]
      exact br_t (by decide) (up (fun y => e y.1))
theorem hs_yAfter (T : hs_T tx nu LT cd lc kp cc P ind h tk ca cb us ue) (hl : l < lc) (hd : d ≤ 6) {post : SY → Prop} (Hs : ∀ m, hs_af h ind (ca l) (cb l) 18 l = some m → post (y_maxObjects, y_maxSteps, y_maxDepth, y_kept, y_end, y_tokens, y_pending, y_lines, y_classes, y_prints, y_place, y_steps, nI d, y_valTop, y_opTop, y_opens, y_pos, y_tk, y_tv, y_stmt, y_target, y_err, y_code, y_outcome, y_result, y_dry, y_want, 1, y_ended, y_bad, y_hosted, y_sawSuper, tx, y_numbers, y_globals, y_entries, y_attrs, y_classOf, y_alive, y_orders, y_lengths, y_letters, y_bases, y_vals, y_ops, y_locals, y_fRecv, upd fLi d (nI (P m)), y_fPos, y_fStmt, y_fTarget, y_fMask, y_fHome, y_fOps, y_fVals, y_fNew, y_out)) (Hn : hs_af h ind (ca l) (cb l) 18 l = none → hs_D h ind (ca l) l = none → post (y_maxObjects, y_maxSteps, y_maxDepth, y_kept, y_end, y_tokens, y_pending, y_lines, y_classes, y_prints, y_place, y_steps, nI d, y_valTop, y_opTop, y_opens, y_pos, y_tk, y_tv, y_stmt, y_target, y_err, y_code, y_outcome, y_result, y_dry, y_want, 1, y_ended, y_bad, y_hosted, y_sawSuper, tx, y_numbers, y_globals, y_entries, y_attrs, y_classOf, y_alive, y_orders, y_lengths, y_letters, y_bases, y_vals, y_ops, y_locals, y_fRecv, upd fLi d (-1), y_fPos, y_fStmt, y_fTarget, y_fMask, y_fHome, y_fOps, y_fVals, y_fNew, y_out))
    (Hg : hs_af h ind (ca l) (cb l) 18 l = none → (∃ dl, hs_D h ind (ca l) l = some dl) → ∀ c : SY → Prop, (∀ u, post u → c u) → wpY_giveBack (fun u => match u with | (y_maxObjectsq, y_maxStepsq, y_maxDepthq, y_keptq, y_endq, y_tokensq, y_pendingq, y_linesq, y_classesq, y_printsq, y_placeq, y_stepsq, y_dq, y_valTopq, y_opTopq, y_opensq, y_posq, y_tkq, y_tvq, y_stmtq, y_targetq, y_errq, y_codeq, y_outcomeq, y_resultq, y_dryq, y_wantq, y_startingq, y_endedq, y_badq, y_hostedq, y_sawSuperq, y_textq, y_numbersq, y_globalsq, y_entriesq, y_attrsq, y_classOfq, y_aliveq, y_ordersq, y_lengthsq, y_lettersq, y_basesq, y_valsq, y_opsq, y_localsq, y_fRecvq, y_fLineq, y_fPosq, y_fStmtq, y_fTargetq, y_fMaskq, y_fHomeq, y_fOpsq, y_fValsq, y_fNewq, y_outq) => c (y_maxObjectsq, y_maxStepsq, y_maxDepthq, y_keptq, y_endq, y_tokensq, y_pendingq, y_linesq, y_classesq, y_printsq, y_placeq, y_stepsq, y_dq, y_valTopq, y_opTopq, y_opensq, y_posq, y_tkq, y_tvq, y_stmtq, y_targetq, y_errq, y_codeq, y_outcomeq, y_resultq, y_dryq, y_wantq, y_startingq, y_endedq, y_badq, y_hostedq, y_sawSuperq, y_textq, y_numbersq, y_globalsq, y_entriesq, y_attrsq, y_classOfq, y_aliveq, y_ordersq, y_lengthsq, y_lettersq, y_basesq, y_valsq, y_opsq, y_localsq, y_fRecvq, y_fLineq, y_fPosq, y_fStmtq, y_fTargetq, y_fMaskq, y_fHomeq, y_fOpsq, y_fValsq, y_fNewq, y_outq)) (y_maxObjects, y_maxSteps, y_maxDepth, y_kept, y_end, y_tokens, y_pending, y_lines, y_classes, y_prints, y_place, y_steps, nI d, y_valTop, y_opTop, y_opens, y_pos, y_tk, y_tv, y_stmt, y_target, y_err, y_code, y_outcome, y_result, y_dry, y_want, y_starting, y_ended, y_bad, y_hosted, y_sawSuper, tx, y_numbers, y_globals, y_entries, y_attrs, y_classOf, y_alive, y_orders, y_lengths, y_letters, y_bases, y_vals, y_ops, y_locals, y_fRecv, fLi, y_fPos, y_fStmt, y_fTarget, y_fMask, y_fHome, y_fOps, y_fVals, y_fNew, y_out) 4294967296) : wpY_after post (y_maxObjects, y_maxSteps, y_maxDepth, y_kept, y_end, y_tokens, y_pending, y_lines, y_classes, y_prints, y_place, y_steps, nI d, y_valTop, y_opTop, y_opens, y_pos, y_tk, y_tv, y_stmt, y_target, y_err, y_code, y_outcome, y_result, y_dry, y_want, y_starting, y_ended, y_bad, y_hosted, y_sawSuper, tx, y_numbers, y_globals, y_entries, y_attrs, y_classOf, y_alive, y_orders, y_lengths, y_letters, y_bases, y_vals, y_ops, y_locals, y_fRecv, fLi, y_fPos, y_fStmt, y_fTarget, y_fMask, y_fHome, y_fOps, y_fVals, y_fNew, y_out) (nI (P l)) := by
  have K := hs_Tck T hl
  obtain ⟨t1, t2, t3, t4, t5, t6, t7, t8, t9, t10, t11⟩ := T.2.2.2 l hl
  exact ⟨19, hs_yAf0 t6 (hs_TKH t7) K hd 18 l (hs_am3 K t1 t2) t1 t2 Hs Hn Hg⟩
theorem hs_yGive {ans r : Int64} {x13 x14 hh : Int32} (hd : d < 6) (hv : fVa (d + 1) = nI vn) (hvn : vn < 320) (hop : fOp (d + 1) = nI on) (hr : r = if fNe (d + 1) = 0 then ans else fRe (d + 1)) {post : SY → Prop}
    (H0 : d = 0 → ¬ hh = 0 → post (y_maxObjects, y_maxSteps, y_maxDepth, y_kept, y_end, y_tokens, y_pending, y_lines, y_classes, y_prints, y_place, y_steps, nI d, nI (vn + 1), nI on, y_opens, fPo d, y_tk, y_tv, fSt d, fTa d, y_err, y_code, y_outcome, r, y_dry, 0, 0, 1, y_bad, hh, y_sawSuper, y_text, y_numbers, y_globals, y_entries, y_attrs, y_classOf, y_alive, y_orders, y_lengths, y_letters, y_bases, vp_updL va vn r, y_ops, y_locals, fRe, y_fLine, fPo, fSt, fTa, y_fMask, y_fHome, fOp, fVa, fNe, y_out))
    (H1 : ¬ (d = 0 ∧ ¬ hh = 0) → post (y_maxObjects, y_maxSteps, y_maxDepth, y_kept, y_end, y_tokens, y_pending, y_lines, y_classes, y_prints, y_place, y_steps, nI d, nI (vn + 1), nI on, y_opens, fPo d, y_tk, y_tv, fSt d, fTa d, y_err, y_code, y_outcome, y_result, y_dry, 0, 0, y_ended, y_bad, hh, y_sawSuper, y_text, y_numbers, y_globals, y_entries, y_attrs, y_classOf, y_alive, y_orders, y_lengths, y_letters, y_bases, vp_updL va vn r, y_ops, y_locals, fRe, y_fLine, fPo, fSt, fTa, y_fMask, y_fHome, fOp, fVa, fNe, y_out)) :
    wpY_giveBack post (y_maxObjects, y_maxSteps, y_maxDepth, y_kept, y_end, y_tokens, y_pending, y_lines, y_classes, y_prints, y_place, y_steps, nI (d + 1), x13, x14, y_opens, y_pos, y_tk, y_tv, y_stmt, y_target, y_err, y_code, y_outcome, y_result, y_dry, y_want, y_starting, y_ended, y_bad, hh, y_sawSuper, y_text, y_numbers, y_globals, y_entries, y_attrs, y_classOf, y_alive, y_orders, y_lengths, y_letters, y_bases, va, y_ops, y_locals, fRe, y_fLine, fPo, fSt, fTa, y_fMask, y_fHome, fOp, fVa, fNe, y_out) ans := by
  have c1 : (nI (d + 1)).toNatClampNeg = d + 1 := nI_clamp (by omega)
  have c0 : (nI d).toNatClampNeg = d := nI_clamp (by omega)
  have i1 : vp_in (nI (d + 1)) 7 := vp_in_nI (by omega) (by decide)
  have i0 : vp_in (nI d) 7 := vp_in_nI (by omega) (by decide)
  have main : wY_giveBack_25 post r y_maxObjects y_maxSteps y_maxDepth y_kept y_end y_tokens y_pending y_lines y_classes y_prints y_place y_steps (nI (d + 1)) x13 x14 y_opens y_pos y_tk y_tv y_stmt y_target y_err y_code y_outcome y_result y_dry y_want y_starting y_ended y_bad hh y_sawSuper y_text y_numbers y_globals y_entries y_attrs y_classOf y_alive y_orders y_lengths y_letters y_bases va y_ops y_locals fRe y_fLine fPo fSt fTa y_fMask y_fHome fOp fVa fNe y_out := by
    unfold wY_giveBack_25
    rw [c1]
    refine And.intro i1 (nm_r hv (And.intro i1 (nm_r hop (nm_r (nI_pred d) (hs_yValue hvn ?_)))))
    refine And.intro i0 (nm_r (congrArg fPo c0) (And.intro i0 (nm_r (congrArg fSt c0) (And.intro i0 (nm_r (congrArg fTa c0) ?_)))))
    refine pk_eq d 0 (fun z => br_c (fun y => H1 (fun w => w.2 y)) (fun y => H0 z y)) (fun z => H1 (fun w => z w.1))
  refine And.intro i1 ?_
  rw [c1]
  refine br_c (fun y => ?_) (fun y => And.intro i1 ?_)
  · rw [if_pos y] at hr
    subst hr; exact main
  · rw [if_neg y] at hr
    subst hr; exact main
theorem hs_ySetVar {mk : Int32} (hd : d ≤ 6) (hmk : fMa d = mk) (hq : q < 26) {post : SY → Prop} (H : post (y_maxObjects, y_maxSteps, y_maxDepth, y_kept, y_end, y_tokens, y_pending, y_lines, y_classes, y_prints, y_place, y_steps, nI d, y_valTop, y_opTop, y_opens, y_pos, y_tk, y_tv, y_stmt, y_target, y_err, y_code, y_outcome, y_result, y_dry, y_want, y_starting, y_ended, y_bad, y_hosted, y_sawSuper, y_text, y_numbers, hs_sg mk gl q v, y_entries, y_attrs, y_classOf, y_alive, y_orders, y_lengths, y_letters, y_bases, y_vals, y_ops, hs_sH mk loc q (d * 26 + q) v, y_fRecv, y_fLine, y_fPos, y_fStmt, y_fTarget, fMa, y_fHome, y_fOps, y_fVals, y_fNew, y_out)) : wpY_setVariable post (y_maxObjects, y_maxSteps, y_maxDepth, y_kept, y_end, y_tokens, y_pending, y_lines, y_classes, y_prints, y_place, y_steps, nI d, y_valTop, y_opTop, y_opens, y_pos, y_tk, y_tv, y_stmt, y_target, y_err, y_code, y_outcome, y_result, y_dry, y_want, y_starting, y_ended, y_bad, y_hosted, y_sawSuper, y_text, y_numbers, gl, y_entries, y_attrs, y_classOf, y_alive, y_orders, y_lengths, y_letters, y_bases, y_vals, y_ops, loc, y_fRecv, y_fLine, y_fPos, y_fStmt, y_fTarget, fMa, y_fHome, y_fOps, y_fVals, y_fNew, y_out) (nI q) v := by
  have e6 : nI d * 26 + nI q = nI (d * 26 + q) := hs_ixMul d 26 q
  refine And.intro (vp_in_nI (by omega) (by decide)) ?_
  rw [nI_clamp (show d < 2 ^ 31 by omega), hmk, e6, nI_clamp (show q < 2 ^ 31 by omega), nI_clamp (show d * 26 + q < 2 ^ 31 by omega)]
  unfold hs_sg hs_sH at H
  refine br_c (fun z => ?_) (fun z => ?_)
  · rw [if_pos z, if_pos z] at H
    exact And.intro (vp_in_nI hq (by decide)) (nm_e H)
  · rw [if_neg z, if_neg z] at H
    exact And.intro (vp_in_nI (by omega) (by decide)) (nm_e H)
theorem hs_yU71 (C : hs_Ch tx cs ce a b P ind) (Hh : hs_H tx a b P h) (K : hs_ck h ind tk a b) {J : Int32 → Int32 → Prop} {x1 x2 fd : Int32} {post : SY → Prop} :
    ∀ (n l : Nat), ind l < n → a ≤ l → l < b → (∀ t, hs_tr h ind a n l = some t → J (nI (P (hs_bk ind b t))) fd) → (hs_tr h ind a n l = none → wY_unwind_130 post J x1 x2 y_maxObjects y_maxSteps y_maxDepth y_kept y_end y_tokens y_pending y_lines y_classes y_prints y_place y_steps fd y_valTop y_opTop y_opens y_pos y_tk y_tv y_stmt y_target y_err y_code y_outcome y_result y_dry y_want y_starting y_ended y_bad y_hosted y_sawSuper tx y_numbers y_globals y_entries y_attrs y_classOf y_alive y_orders y_lengths y_letters y_bases y_vals y_ops y_locals y_fRecv y_fLine y_fPos y_fStmt y_fTarget y_fMask y_fHome y_fOps y_fVals y_fNew y_out) → wY_unwind_71 post J x1 x2 y_maxObjects y_maxSteps y_maxDepth y_kept y_end y_tokens y_pending y_lines y_classes y_prints y_place y_steps fd y_valTop y_opTop y_opens y_pos y_tk y_tv y_stmt y_target y_err y_code y_outcome y_result y_dry y_want y_starting y_ended y_bad y_hosted y_sawSuper tx y_numbers y_globals y_entries y_attrs y_classOf y_alive y_orders y_lengths y_letters y_bases y_vals y_ops y_locals y_fRecv y_fLine y_fPos y_fStmt y_fTarget y_fMask y_fHome y_fOps y_fVals y_fNew y_out n (hs_pI P (hs_pa ind a l)) := by
  intro n
  induction n with
  | zero => intro l h1; omega
  | succ n ih =>
    intro l hn la lb Hs Hn
    unfold hs_tr at Hs Hn
    cases q : hs_pa ind a l with
    | none =>
      rw [q] at Hs Hn
      refine br_t (show (-1 : Int32) < 0 by decide) ?_
      unfold wY_unwind_105
      exact br_t (show (-1 : Int32) < 0 by decide) (Hn rfl)
    | some p =>
      rw [q] at Hs Hn
      obtain ⟨p1, p2, p3⟩ := hs_paLt q
      obtain ⟨g1, g2, g3⟩ := Hh p p1 (by omega)
      have pl := (hs_yPlt C p1 (by omega)).1
      have Hs' : ∀ t, (if h p = 2 then none else if h p = 7 then some p else hs_tr h ind a n p) = some t → J (nI (P (hs_bk ind b t))) fd := Hs
      have Hn' : (if h p = 2 then none else if h p = 7 then some p else hs_tr h ind a n p) = none → wY_unwind_130 post J x1 x2 y_maxObjects y_maxSteps y_maxDepth y_kept y_end y_tokens y_pending y_lines y_classes y_prints y_place y_steps fd y_valTop y_opTop y_opens y_pos y_tk y_tv y_stmt y_target y_err y_code y_outcome y_result y_dry y_want y_starting y_ended y_bad y_hosted y_sawSuper tx y_numbers y_globals y_entries y_attrs y_classOf y_alive y_orders y_lengths y_letters y_bases y_vals y_ops y_locals y_fRecv y_fLine y_fPos y_fStmt y_fTarget y_fMask y_fHome y_fOps y_fVals y_fNew y_out := Hn
      have i105 : (h p = 2 ∨ h p = 7) → wY_unwind_105 post J x1 x2 (nI (P p)) y_maxObjects y_maxSteps y_maxDepth y_kept y_end y_tokens y_pending y_lines y_classes y_prints y_place y_steps fd y_valTop y_opTop y_opens y_pos y_tk y_tv y_stmt y_target y_err y_code y_outcome y_result y_dry y_want y_starting y_ended y_bad y_hosted y_sawSuper tx y_numbers y_globals y_entries y_attrs y_classOf y_alive y_orders y_lengths y_letters y_bases y_vals y_ops y_locals y_fRecv y_fLine y_fPos y_fStmt y_fTarget y_fMask y_fHome y_fOps y_fVals y_fNew y_out := by
        intro z
        unfold wY_unwind_105
        refine br_f (nI_pos (by omega)) (And.intro (vp_in_nI pl (by decide)) ?_)
        rw [nI_clamp (show P p < 2 ^ 31 by omega), g1]
        refine pk_eq (h p) 7 (fun z7 => ?_) (fun z7 => ?_)
        · rw [if_neg (by omega), if_pos z7] at Hs'
          obtain ⟨e1, e2, e3⟩ := hs_tryEnd K p1 (by omega) z7
          refine hs_yFollow C p1 (by omega) (hs_bkFo (by omega)) ?_
          have ea : hs_at P b (hs_bk ind b p) = nI (P (hs_bk ind b p)) := if_pos e1
          rw [ea]
          exact Hs' p rfl
        · rw [if_pos (z.resolve_right z7)] at Hn'
          exact Hn' rfl
      rw [show hs_pI P (some p) = nI (P p) from rfl]
      refine br_f (nI_pos (by omega)) (And.intro (vp_in_nI pl (by decide)) ?_)
      rw [nI_clamp (show P p < 2 ^ 31 by omega), g1]
      refine pk_eq (h p) 2 (fun z => i105 (Or.inl z)) (fun z => And.intro (vp_in_nI pl (by decide)) (pk_eq (h p) 7 (fun z7 => i105 (Or.inr z7)) (fun z7 => ?_)))
      rw [if_neg z, if_neg z7] at Hs' Hn'
      exact hs_yOpener C p1 (by omega) (o := hs_pa ind a p) hs_paOK (ih p (by omega) p1 (by omega) Hs' Hn')
theorem hs_yU35 {er rc z0 x1 : Int32} (T : hs_T tx nu LT cd lc kp cc P ind h tk ca cb us ue) (hd : d ≤ 6) (hfl : ∀ k, k ≤ d → ¬ (ho = true ∧ k = 0) → fLi k = nI (P (fl k)) ∧ fl k < lc) (hz : z0 = if er = 8 then rc else er) {post : SY → Prop}
    (Hn : (∀ k, k ≤ d → hs_hdl h ind ca ho fl k = none) → post (y_maxObjects, y_maxSteps, y_maxDepth, y_kept, y_end, y_tokens, y_pending, y_lines, y_classes, y_prints, x1, y_steps, 0, y_valTop, y_opTop, y_opens, y_pos, y_tk, y_tv, y_stmt, y_target, er, rc, er, if er = 8 then hs_int rc else y_result, y_dry, y_want, y_starting, 1, y_bad, hs_b ho, y_sawSuper, tx, y_numbers, y_globals, y_entries, y_attrs, y_classOf, y_alive, y_orders, y_lengths, y_letters, y_bases, y_vals, y_ops, y_locals, y_fRecv, fLi, y_fPos, y_fStmt, y_fTarget, y_fMask, y_fHome, fOp, fVa, y_fNew, y_out))
    (Hf : ∀ j t, j ≤ d → (∀ k, j < k → k ≤ d → hs_hdl h ind ca ho fl k = none) → hs_hdl h ind ca ho fl j = some t → wY_unwind_237 post (nI (P (hs_bk ind (cb (fl j)) t))) z0 y_maxObjects y_maxSteps y_maxDepth y_kept y_end y_tokens y_pending y_lines y_classes y_prints y_place y_steps (nI j) (fVa j) (fOp j) y_opens y_pos y_tk y_tv y_stmt y_target er rc y_outcome y_result y_dry y_want y_starting y_ended y_bad (hs_b ho) y_sawSuper tx y_numbers y_globals y_entries y_attrs y_classOf y_alive y_orders y_lengths y_letters y_bases y_vals y_ops y_locals y_fRecv fLi y_fPos y_fStmt y_fTarget y_fMask y_fHome fOp fVa y_fNew y_out) :
    ∀ (n j : Nat), j ≤ d → j + 2 ≤ n → (∀ k, j < k → k ≤ d → hs_hdl h ind ca ho fl k = none) → wY_unwind_35 post x1 y_maxObjects y_maxSteps y_maxDepth y_kept y_end y_tokens y_pending y_lines y_classes y_prints y_place y_steps y_valTop y_opTop y_opens y_pos y_tk y_tv y_stmt y_target er rc y_outcome y_result y_dry y_want y_starting y_ended y_bad (hs_b ho) y_sawSuper tx y_numbers y_globals y_entries y_attrs y_classOf y_alive y_orders y_lengths y_letters y_bases y_vals y_ops y_locals y_fRecv fLi y_fPos y_fStmt y_fTarget y_fMask y_fHome fOp fVa y_fNew y_out n (-1) (nI j) := by
  intro n
  induction n with
  | zero => intro j h1 h2; omega
  | succ n ih =>
    intro j hj hn hno
    have c0 : (nI j).toNatClampNeg = j := nI_clamp (by omega)
    have i0 : vp_in (nI j) 7 := vp_in_nI (by omega) (by decide)
    have out : hs_hdl h ind ca ho fl j = none → wY_unwind_130 post (wY_unwind_35 post x1 y_maxObjects y_maxSteps y_maxDepth y_kept y_end y_tokens y_pending y_lines y_classes y_prints y_place y_steps y_valTop y_opTop y_opens y_pos y_tk y_tv y_stmt y_target er rc y_outcome y_result y_dry y_want y_starting y_ended y_bad (hs_b ho) y_sawSuper tx y_numbers y_globals y_entries y_attrs y_classOf y_alive y_orders y_lengths y_letters y_bases y_vals y_ops y_locals y_fRecv fLi y_fPos y_fStmt y_fTarget y_fMask y_fHome fOp fVa y_fNew y_out n) x1 (-1) y_maxObjects y_maxSteps y_maxDepth y_kept y_end y_tokens y_pending y_lines y_classes y_prints y_place y_steps (nI j) y_valTop y_opTop y_opens y_pos y_tk y_tv y_stmt y_target er rc y_outcome y_result y_dry y_want y_starting y_ended y_bad (hs_b ho) y_sawSuper tx y_numbers y_globals y_entries y_attrs y_classOf y_alive y_orders y_lengths y_letters y_bases y_vals y_ops y_locals y_fRecv fLi y_fPos y_fStmt y_fTarget y_fMask y_fHome fOp fVa y_fNew y_out := by
      intro z
      unfold wY_unwind_130
      refine pk_eq j 0 (fun e => ?_) (fun e => ?_)
      · subst e
        have Hn' := Hn (fun k hk => by
          rcases Nat.lt_or_ge 0 k with y | y
          · exact hno k y hk
          · have : k = 0 := by omega
            subst this; exact z)
        refine br_c (fun y => ?_) (fun y => ?_)
        · rw [if_pos y] at Hn'; exact Hn'
        · rw [if_neg y] at Hn'; exact Hn'
      · obtain ⟨j', rfl⟩ : ∃ j', j = j' + 1 := ⟨j - 1, by omega⟩
        refine nm_r (nI_pred j') (ih j' (by omega) (by omega) (fun k k1 k2 => ?_))
        rcases Nat.lt_or_ge (j' + 1) k with y | y
        · exact hno k y k2
        · have : k = j' + 1 := by omega
          subst this; exact z
    refine br_f (by decide) ?_
    by_cases hh : ho = true ∧ j = 0
    · obtain ⟨hh1, rfl⟩ := hh
      subst hh1
      refine br_f (by decide) (br_t rfl ⟨1, br_t (by decide) ?_⟩)
      unfold wY_unwind_105
      exact br_t (by decide) (out (if_pos ⟨rfl, rfl⟩))
    · obtain ⟨c1, c2⟩ := hfl j hj hh
      obtain ⟨t1, t2, t3, t4, t5, t6, t7, t8, t9, t10, t11⟩ := T.2.2.2 (fl j) c2
      have K := hs_Tck T c2
      have i8 := (K.1 (fl j) t1 t2).2
      have ek : hs_hdl h ind ca ho fl j = hs_tr h ind (ca (fl j)) 9 (fl j) := if_neg hh
      have w57 : wY_unwind_57 post (wY_unwind_35 post x1 y_maxObjects y_maxSteps y_maxDepth y_kept y_end y_tokens y_pending y_lines y_classes y_prints y_place y_steps y_valTop y_opTop y_opens y_pos y_tk y_tv y_stmt y_target er rc y_outcome y_result y_dry y_want y_starting y_ended y_bad (hs_b ho) y_sawSuper tx y_numbers y_globals y_entries y_attrs y_classOf y_alive y_orders y_lengths y_letters y_bases y_vals y_ops y_locals y_fRecv fLi y_fPos y_fStmt y_fTarget y_fMask y_fHome fOp fVa y_fNew y_out n) x1 (-1) y_maxObjects y_maxSteps y_maxDepth y_kept y_end y_tokens y_pending y_lines y_classes y_prints y_place y_steps (nI j) y_valTop y_opTop y_opens y_pos y_tk y_tv y_stmt y_target er rc y_outcome y_result y_dry y_want y_starting y_ended y_bad (hs_b ho) y_sawSuper tx y_numbers y_globals y_entries y_attrs y_classOf y_alive y_orders y_lengths y_letters y_bases y_vals y_ops y_locals y_fRecv fLi y_fPos y_fStmt y_fTarget y_fMask y_fHome fOp fVa y_fNew y_out := by
        unfold wY_unwind_57
        rw [c0, c1]
        refine And.intro i0 (hs_yOpener t6 t1 t2 (o := hs_pa ind (ca (fl j)) (fl j)) hs_paOK ⟨9, hs_yU71 t6 (hs_TKH t7) K 9 (fl j) (by omega) t1 t2 (fun t ht => ?_) (fun ht => out (by rw [ek]; exact ht))⟩)
        obtain ⟨n', rfl⟩ : ∃ n', n = n' + 1 := ⟨n - 1, by omega⟩
        obtain ⟨r1, r2, r3, _⟩ := hs_trF K 9 (fl j) t t1 t2 ht
        have r4 := (hs_tryEnd K r1 r2 r3).1
        have r5 := (hs_bkF (ind := ind) r2).1
        have pl := (hs_yPlt t6 (l := hs_bk ind (cb (fl j)) t) (by omega) r4).1
        have r := Hf j t hj hno (by rw [ek]; exact ht)
        refine br_t (nI_pos' (by omega)) ?_
        rw [c0]
        refine And.intro i0 (nm_e (And.intro i0 (nm_e (br_c (fun y => ?_) (fun y => ?_)))))
        · rw [hz, if_pos y] at r; exact r
        · rw [hz, if_neg y] at r; exact r
      cases ho with
      | false => exact br_t rfl w57
      | true =>
        refine br_f (by decide) (pk_eq j 0 (fun e => absurd ⟨rfl, e⟩ hh) (fun _ => w57))
/-- an except line names a letter -/
theorem hs_exF (T : hs_T tx nu LT cd lc kp cc P ind h tk ca cb us ue) (hl : l < lc) (h8 : h l = 8) : ∃ f, f < 26 ∧ LT (l * 14 + 5) = nI f ∧ tx (P l + 1) = nI (f + 100) ∧ P l + 1 < 1024 := by
  obtain ⟨t1, t2, t3, t4, t5, t6, t7, t8, t9, t10, t11⟩ := T.2.2.2 l hl
  obtain ⟨n1, n2, n3, n4, e, c0, n5, n6, n7, n8, n9⟩ := t8
  obtain ⟨g1, g2, g3, g4⟩ := t7 l t1 t2
  cases q : tk l with
  | nil => exact absurd q g2
  | cons x r =>
    rw [q] at n9 g1 g4
    have hx : x = 8 := by rw [← h8, g4]; rfl
    subst hx
    rw [hs_LF] at n9
    rw [if_neg (by decide), if_neg (by decide), if_pos rfl] at n9
    obtain ⟨_, _, n, rfl, hn, hf⟩ := n9
    have hn2 : 100 ≤ n ∧ n < 126 := of_decide_eq_true hn
    obtain ⟨a1, a2, a3, a4, a5, a6⟩ := hs_TAc g1
    obtain ⟨b1, b2, b3, b4, b5, b6⟩ := hs_TAc a6
    exact ⟨n - 100, by omega, hf, by rw [b1]; exact congrArg nI (by omega), b5⟩
end
