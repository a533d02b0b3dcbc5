/-! an object is made on both sides -/
section
variable {x_objectLimit x_stepLimit x_depthLimit x_pendingCount x_keptTokens x_keptLines x_lineCount x_codeCount x_cursor x_stop x_waitingCount x_openCount x_classCount x_callCount x_operandCount x_stepsTaken x_error x_raisedCode x_printCount x_lastPlace : Int32} {x_lastResult : Int64} {x_pending x_lineTable x_orders x_merging x_letterClass x_objectClass x_calls x_lastPrints : Nat → Int32} {x_code x_waiting x_globals x_entries x_attributes x_held x_operands : Nat → Int64}
variable {y_maxObjects y_maxSteps y_maxDepth y_kept y_end y_tokens y_pending y_lines y_classes y_prints y_place y_steps y_d y_valTop y_opTop y_opens y_pos y_tk y_tv y_stmt y_target y_err y_code y_outcome y_dry y_want y_starting y_ended y_bad y_hosted y_sawSuper : Int32} {y_result : Int64} {y_text y_numbers y_classOf y_alive y_orders y_lengths y_letters y_bases y_ops y_fLine y_fPos y_fStmt y_fTarget y_fMask y_fHome y_fOps y_fVals y_fNew y_out : Nat → Int32} {y_globals y_entries y_attrs y_vals y_locals y_fRecv : Nat → Int64}
variable {tx nu LT : Nat → Int32} {cd : Nat → Int64} {lc kp cc : Nat} {P ind h : Nat → Nat} {tk : Nat → List Nat} {ca cb us ue : Nat → Nat} {yk yen yto ype yli : Int32} {mo mS mD : Nat} {ho : Bool}
variable {s d vt cn : Nat} {ml : Nat → List Nat} {gl ex at1 HE op : Nat → Int64} {ox oc lt lp CL mg : Nat → Int32} {pc rc : Int32} {fl dl vb ob : Nat → Nat} {ts st : Nat → List Nat} {M : Nat}
variable {w : Bool} {ts1 st1 : List Nat} {o qq c : Nat} {e1 : List (Nat × Nat)} {rs fs : List Nat}
theorem hs_NEer {er : Int32} {q : Nat} (N : hs_NE gl ex HE op at1 lt cn d vt mo q er) : er ≠ 0 ∧ er ≠ 9 := by
  rcases N with ⟨_, rfl⟩ | ⟨_, _, rfl⟩ <;> decide
theorem hs_sh6 {a b : Nat} (ha : a < 64) (hb : b < 1000) : nI (a + 64 * b) >>> ((6 : Int32) &&& 31) = nI b := by
  rw [show ((6 : Int32) &&& 31) = 6 by decide, pk_shrN (by omega) 6 6 (by decide)]
  exact congrArg nI (by omega)
theorem hs_yopN {post : SY → Prop} (h10 : o = 10 ∨ o = 11) (hq : qq < 26) (H : wpY_create (fun u => match u with | (y_maxObjectsq, y_maxStepsq, y_maxDepthq, y_keptq, y_endq, y_tokensq, y_pendingq, y_linesq, y_classesq, y_printsq, y_placeq, y_stepsq, y_dq, y_valTopq, y_opTopq, y_opensq, y_posq, y_tkq, y_tvq, y_stmtq, y_targetq, y_errq, y_codeq, y_outcomeq, y_resultq, y_dryq, y_wantq, y_startingq, y_endedq, y_badq, y_hostedq, y_sawSuperq, y_textq, y_numbersq, y_globalsq, y_entriesq, y_attrsq, y_classOfq, y_aliveq, y_ordersq, y_lengthsq, y_lettersq, y_basesq, y_valsq, y_opsq, y_localsq, y_fRecvq, y_fLineq, y_fPosq, y_fStmtq, y_fTargetq, y_fMaskq, y_fHomeq, y_fOpsq, y_fValsq, y_fNewq, y_outq) => post (y_maxObjectsq, y_maxStepsq, y_maxDepthq, y_keptq, y_endq, y_tokensq, y_pendingq, y_linesq, y_classesq, y_printsq, y_placeq, y_stepsq, y_dq, y_valTopq, y_opTopq, y_opensq, y_posq, y_tkq, y_tvq, y_stmtq, y_targetq, y_errq, y_codeq, y_outcomeq, y_resultq, y_dryq, y_wantq, y_startingq, y_endedq, y_badq, y_hostedq, y_sawSuperq, y_textq, y_numbersq, y_globalsq, y_entriesq, y_attrsq, y_classOfq, y_aliveq, y_ordersq, y_lengthsq, y_lettersq, y_basesq, y_valsq, y_opsq, y_localsq, y_fRecvq, y_fLineq, y_fPosq, y_fStmtq, y_fTargetq, y_fMaskq, y_fHomeq, y_fOpsq, y_fValsq, y_fNewq, y_outq)) (y_maxObjects, y_maxSteps, y_maxDepth, y_kept, y_end, y_tokens, y_pending, y_lines, y_classes, y_prints, y_place, y_steps, y_d, y_valTop, y_opTop, y_opens, y_pos, y_tk, y_tv, y_stmt, y_target, y_err, y_code, y_outcome, y_result, y_dry, y_want, y_starting, y_ended, y_bad, y_hosted, y_sawSuper, y_text, y_numbers, y_globals, y_entries, y_attrs, y_classOf, y_alive, y_orders, y_lengths, y_letters, y_bases, y_vals, y_ops, y_locals, y_fRecv, y_fLine, y_fPos, y_fStmt, y_fTarget, y_fMask, y_fHome, y_fOps, y_fVals, y_fNew, y_out) (nI qq) (if o % 2 = 1 then y_vals (vt - 1) else 0) (nI (o - 10))) : hs_yop post o qq vt (y_maxObjects, y_maxSteps, y_maxDepth, y_kept, y_end, y_tokens, y_pending, y_lines, y_classes, y_prints, y_place, y_steps, y_d, y_valTop, y_opTop, y_opens, y_pos, y_tk, y_tv, y_stmt, y_target, y_err, y_code, y_outcome, y_result, y_dry, y_want, y_starting, y_ended, y_bad, y_hosted, y_sawSuper, y_text, y_numbers, y_globals, y_entries, y_attrs, y_classOf, y_alive, y_orders, y_lengths, y_letters, y_bases, y_vals, y_ops, y_locals, y_fRecv, y_fLine, y_fPos, y_fStmt, y_fTarget, y_fMask, y_fHome, y_fOps, y_fVals, y_fNew, y_out) := by
  refine hs_yopC (by omega) (by omega) ?_
  unfold wY_close_149
  have e3 : o / 2 - 1 = 4 := by omega
  have e4 : o % 2 = o - 10 := by omega
  rw [e3, hs_sh6 (by omega) (by omega)]
  refine br_f (by decide) (br_f (by decide) ?_)
  rw [← e4] at H
  exact H
theorem hs_stepN (A : hs_GA tx nu LT cd lc kp cc P ind h tk ca cb us ue yk yen yto ype yli mo mS mD ho x_pendingCount x_keptTokens x_keptLines x_codeCount x_cursor x_stop x_waitingCount x_openCount x_lastResult x_pending x_waiting M) (G : hs_GB tx nu LT cd lc kp cc P ind h tk ca cb us ue yk yen yto ype yli mo mS mD ho x_pendingCount x_keptTokens x_keptLines x_codeCount x_cursor x_stop x_waitingCount x_openCount x_lastResult x_pending x_waiting M) (I : hs_XI tx nu LT cd lc kp cc P ind h tk ca cb us ue mo mS mD s d vt cn ml gl ex at1 ox oc lt HE CL op fl dl vb ob ts st ho) (L : hs_XL h ind ca cb lc cn CL ho (fl d) (dl d) d) (nh : ¬ (ho = true ∧ d = 0)) (hv : vt = vb d + hs_nv (st d) w) (m : hs_EM LT cd fl ts st CL d w ts1 st1 o qq c e1 rs fs) (hM : 250 * (mS - s) + hs_pot ts st d + (3 * (2 * (ts d).length + (st d).length) + 3) ≤ M + 1) (h10 : o = 10 ∨ o = 11) :
    hs_Gt (hs_F tx nu LT cd lc P h yk yen yto ype yli mo mS mD x_pendingCount x_keptTokens x_keptLines x_codeCount x_cursor x_stop x_waitingCount x_openCount x_lastResult x_pending x_waiting) M (fun x => wpX_makeObject (fun u => match u with | (x_objectLimitw, x_stepLimitw, x_depthLimitw, x_pendingCountw, x_keptTokensw, x_keptLinesw, x_lineCountw, x_codeCountw, x_cursorw, x_stopw, x_waitingCountw, x_openCountw, x_classCountw, x_callCountw, x_operandCountw, x_stepsTakenw, x_errorw, x_raisedCodew, x_printCountw, x_lastResultw, x_lastPlacew, x_pendingw, x_lineTablew, x_codew, x_waitingw, x_globalsw, x_entriesw, x_ordersw, x_mergingw, x_letterClassw, x_objectClassw, x_attributesw, x_callsw, x_heldw, x_operandsw, x_lastPrintsw) => (fun u => match u with | (x_objectLimitq, x_stepLimitq, x_depthLimitq, x_pendingCountq, x_keptTokensq, x_keptLinesq, x_lineCountq, x_codeCountq, x_cursorq, x_stopq, x_waitingCountq, x_openCountq, x_classCountq, x_callCountq, x_operandCountq, x_stepsTakenq, x_errorq, x_raisedCodeq, x_printCountq, x_lastResultq, x_lastPlaceq, x_pendingq, x_lineTableq, x_codeq, x_waitingq, x_globalsq, x_entriesq, x_ordersq, x_mergingq, x_letterClassq, x_objectClassq, x_attributesq, x_callsq, x_heldq, x_operandsq, x_lastPrintsq) => x (x_objectLimitq, x_stepLimitq, x_depthLimitq, x_pendingCountq, x_keptTokensq, x_keptLinesq, x_lineCountq, x_codeCountq, x_cursorq, x_stopq, x_waitingCountq, x_openCountq, x_classCountq, x_callCountq, x_operandCountq, x_stepsTakenq, x_errorq, x_raisedCodeq, x_printCountq, x_lastResultq, x_lastPlaceq, x_pendingq, x_lineTableq, x_codeq, x_waitingq, x_globalsq, x_entriesq, x_ordersq, x_mergingq, x_letterClassq, x_objectClassq, x_attributesq, x_callsq, x_heldq, x_operandsq, x_lastPrintsq)) (x_objectLimitw, x_stepLimitw, x_depthLimitw, x_pendingCountw, x_keptTokensw, x_keptLinesw, x_lineCountw, x_codeCountw, x_cursorw, x_stopw, x_waitingCountw, x_openCountw, x_classCountw, x_callCountw, x_operandCountw, x_stepsTakenw, x_errorw, x_raisedCodew, x_printCountw, x_lastResultw, x_lastPlacew, x_pendingw, x_lineTablew, x_codew, x_waitingw, x_globalsw, x_entriesw, x_ordersw, x_mergingw, x_letterClassw, x_objectClassw, x_attributesw, x_callsw, x_heldw, x_operandsw, x_lastPrintsw)) (nI mo, nI mS, nI mD, x_pendingCount, x_keptTokens, x_keptLines, nI lc, x_codeCount, x_cursor, x_stop, x_waitingCount, x_openCount, nI cn, nI (d + 1), nI vt, nI s, 0, rc, pc, x_lastResult, 0, x_pending, LT, cd, x_waiting, gl, ex, ox, mg, lt, oc, at1, upd CL (d * 6 + 3) (nI (c + 1)), HE, op, lp) (nI qq) (nI (o - 10))) (fun x => ∀ v, hs_V tx nu LT P h lc yk yen yto ype yli mo mS mD gl ex at1 oc lt lp CL HE op ml cn d vt s pc rc fl dl vb ob ts st ho (some (some w)) v → wpY_expressionToken (fun r u => match u with | (y_maxObjectsq, y_maxStepsq, y_maxDepthq, y_keptq, y_endq, y_tokensq, y_pendingq, y_linesq, y_classesq, y_printsq, y_placeq, y_stepsq, y_dq, y_valTopq, y_opTopq, y_opensq, y_posq, y_tkq, y_tvq, y_stmtq, y_targetq, y_errq, y_codeq, y_outcomeq, y_resultq, y_dryq, y_wantq, y_startingq, y_endedq, y_badq, y_hostedq, y_sawSuperq, y_textq, y_numbersq, y_globalsq, y_entriesq, y_attrsq, y_classOfq, y_aliveq, y_ordersq, y_lengthsq, y_lettersq, y_basesq, y_valsq, y_opsq, y_localsq, y_fRecvq, y_fLineq, y_fPosq, y_fStmtq, y_fTargetq, y_fMaskq, y_fHomeq, y_fOpsq, y_fValsq, y_fNewq, y_outq) => ((r = 0 → x (y_maxObjectsq, y_maxStepsq, y_maxDepthq, y_keptq, y_endq, y_tokensq, y_pendingq, y_linesq, y_classesq, y_printsq, y_placeq, y_stepsq, y_dq, y_valTopq, y_opTopq, y_opensq, y_posq, y_tkq, y_tvq, y_stmtq, y_targetq, y_errq, y_codeq, y_outcomeq, y_resultq, y_dryq, y_wantq, y_startingq, y_endedq, y_badq, y_hostedq, y_sawSuperq, y_textq, y_numbersq, y_globalsq, y_entriesq, y_attrsq, y_classOfq, y_aliveq, y_ordersq, y_lengthsq, y_lettersq, y_basesq, y_valsq, y_opsq, y_localsq, y_fRecvq, y_fLineq, y_fPosq, y_fStmtq, y_fTargetq, y_fMaskq, y_fHomeq, y_fOpsq, y_fValsq, y_fNewq, y_outq)) ∧ (¬ r = 0 → wpY_finish (fun u => match u with | (y_maxObjectsw, y_maxStepsw, y_maxDepthw, y_keptw, y_endw, y_tokensw, y_pendingw, y_linesw, y_classesw, y_printsw, y_placew, y_stepsw, y_dw, y_valTopw, y_opTopw, y_opensw, y_posw, y_tkw, y_tvw, y_stmtw, y_targetw, y_errw, y_codew, y_outcomew, y_resultw, y_dryw, y_wantw, y_startingw, y_endedw, y_badw, y_hostedw, y_sawSuperw, y_textw, y_numbersw, y_globalsw, y_entriesw, y_attrsw, y_classOfw, y_alivew, y_ordersw, y_lengthsw, y_lettersw, y_basesw, y_valsw, y_opsw, y_localsw, y_fRecvw, y_fLinew, y_fPosw, y_fStmtw, y_fTargetw, y_fMaskw, y_fHomew, y_fOpsw, y_fValsw, y_fNeww, y_outw) => x (y_maxObjectsw, y_maxStepsw, y_maxDepthw, y_keptw, y_endw, y_tokensw, y_pendingw, y_linesw, y_classesw, y_printsw, y_placew, y_stepsw, y_dw, y_valTopw, y_opTopw, y_opensw, y_posw, y_tkw, y_tvw, y_stmtw, y_targetw, y_errw, y_codew, y_outcomew, y_resultw, y_dryw, y_wantw, y_startingw, y_endedw, y_badw, y_hostedw, y_sawSuperw, y_textw, y_numbersw, y_globalsw, y_entriesw, y_attrsw, y_classOfw, y_alivew, y_ordersw, y_lengthsw, y_lettersw, y_basesw, y_valsw, y_opsw, y_localsw, y_fRecvw, y_fLinew, y_fPosw, y_fStmtw, y_fTargetw, y_fMaskw, y_fHomew, y_fOpsw, y_fValsw, y_fNeww, y_outw)) (y_maxObjectsq, y_maxStepsq, y_maxDepthq, y_keptq, y_endq, y_tokensq, y_pendingq, y_linesq, y_classesq, y_printsq, y_placeq, y_stepsq, y_dq, y_valTopq, y_opTopq, y_opensq, y_posq, y_tkq, y_tvq, y_stmtq, y_targetq, y_errq, y_codeq, y_outcomeq, y_resultq, y_dryq, y_wantq, y_startingq, y_endedq, y_badq, y_hostedq, y_sawSuperq, y_textq, y_numbersq, y_globalsq, y_entriesq, y_attrsq, y_classOfq, y_aliveq, y_ordersq, y_lengthsq, y_lettersq, y_basesq, y_valsq, y_opsq, y_localsq, y_fRecvq, y_fLineq, y_fPosq, y_fStmtq, y_fTargetq, y_fMaskq, y_fHomeq, y_fOpsq, y_fValsq, y_fNewq, y_outq)))) v) := by
  have I0 := I
  have m0 := m
  obtain ⟨d6, s200, m200, l405⟩ := hs_XId I
  obtain ⟨T, ⟨B1, B2, B3, B4, B5, B6⟩, W, MC, OV, H0, XCk, XLk, XSk, HO, v0, o0⟩ := I
  obtain ⟨s1, s2, s3, s4, s5, s6, s7, s8, s9, s10, s11, s12, s13, s14, s15⟩ := m
  obtain ⟨cL, fd⟩ := L.2.1 nh
  obtain ⟨x1, x2, x3, x4, x5⟩ := XCk d (Nat.le_refl _)
  have nl := hs_nstLe st1
  have ar : hs_arr o = o - 10 := by rcases h10 with rfl | rfl <;> rfl
  have har : hs_arr o ≤ vt := by omega
  have vt280 : vt < 280 := by omega
  have hvb : vb d ≤ vt := by omega
  have hq : qq < 26 := s11.2.2.2.2.1 (by omega) (by omega)
  obtain ⟨rv1, rv2, rv3, rv4, rv5⟩ := hs_WXrv (d := d) W OV ⟨H0, fun k k1 k2 => ⟨((XCk k k2).2.2.2.2 k1).2.2.2.1, ((XCk k k2).2.2.2.2 k1).2.2.2.2⟩⟩
  have yst : ∀ (x : SY → Prop) (v : SY), hs_V tx nu LT P h lc yk yen yto ype yli mo mS mD gl ex at1 oc lt lp CL HE op ml cn d vt s pc rc fl dl vb ob ts st ho (some (some w)) v → (∀ v1, hs_VE tx nu LT P h lc yk yen yto ype yli mo mS mD gl ex at1 oc lt lp CL HE op ml cn d vt s pc rc fl dl vb ob ts st ho ts1 st1 v1 → hs_yop (fun u => match u with | (y_maxObjectsq, y_maxStepsq, y_maxDepthq, y_keptq, y_endq, y_tokensq, y_pendingq, y_linesq, y_classesq, y_printsq, y_placeq, y_stepsq, y_dq, y_valTopq, y_opTopq, y_opensq, y_posq, y_tkq, y_tvq, y_stmtq, y_targetq, y_errq, y_codeq, y_outcomeq, y_resultq, y_dryq, y_wantq, y_startingq, y_endedq, y_badq, y_hostedq, y_sawSuperq, y_textq, y_numbersq, y_globalsq, y_entriesq, y_attrsq, y_classOfq, y_aliveq, y_ordersq, y_lengthsq, y_lettersq, y_basesq, y_valsq, y_opsq, y_localsq, y_fRecvq, y_fLineq, y_fPosq, y_fStmtq, y_fTargetq, y_fMaskq, y_fHomeq, y_fOpsq, y_fValsq, y_fNewq, y_outq) => ((fun r u => match u with | (y_maxObjectsq, y_maxStepsq, y_maxDepthq, y_keptq, y_endq, y_tokensq, y_pendingq, y_linesq, y_classesq, y_printsq, y_placeq, y_stepsq, y_dq, y_valTopq, y_opTopq, y_opensq, y_posq, y_tkq, y_tvq, y_stmtq, y_targetq, y_errq, y_codeq, y_outcomeq, y_resultq, y_dryq, y_wantq, y_startingq, y_endedq, y_badq, y_hostedq, y_sawSuperq, y_textq, y_numbersq, y_globalsq, y_entriesq, y_attrsq, y_classOfq, y_aliveq, y_ordersq, y_lengthsq, y_lettersq, y_basesq, y_valsq, y_opsq, y_localsq, y_fRecvq, y_fLineq, y_fPosq, y_fStmtq, y_fTargetq, y_fMaskq, y_fHomeq, y_fOpsq, y_fValsq, y_fNewq, y_outq) => ((r = 0 → x (y_maxObjectsq, y_maxStepsq, y_maxDepthq, y_keptq, y_endq, y_tokensq, y_pendingq, y_linesq, y_classesq, y_printsq, y_placeq, y_stepsq, y_dq, y_valTopq, y_opTopq, y_opensq, y_posq, y_tkq, y_tvq, y_stmtq, y_targetq, y_errq, y_codeq, y_outcomeq, y_resultq, y_dryq, y_wantq, y_startingq, y_endedq, y_badq, y_hostedq, y_sawSuperq, y_textq, y_numbersq, y_globalsq, y_entriesq, y_attrsq, y_classOfq, y_aliveq, y_ordersq, y_lengthsq, y_lettersq, y_basesq, y_valsq, y_opsq, y_localsq, y_fRecvq, y_fLineq, y_fPosq, y_fStmtq, y_fTargetq, y_fMaskq, y_fHomeq, y_fOpsq, y_fValsq, y_fNewq, y_outq)) ∧ (¬ r = 0 → wpY_finish (fun u => match u with | (y_maxObjectsw, y_maxStepsw, y_maxDepthw, y_keptw, y_endw, y_tokensw, y_pendingw, y_linesw, y_classesw, y_printsw, y_placew, y_stepsw, y_dw, y_valTopw, y_opTopw, y_opensw, y_posw, y_tkw, y_tvw, y_stmtw, y_targetw, y_errw, y_codew, y_outcomew, y_resultw, y_dryw, y_wantw, y_startingw, y_endedw, y_badw, y_hostedw, y_sawSuperw, y_textw, y_numbersw, y_globalsw, y_entriesw, y_attrsw, y_classOfw, y_alivew, y_ordersw, y_lengthsw, y_lettersw, y_basesw, y_valsw, y_opsw, y_localsw, y_fRecvw, y_fLinew, y_fPosw, y_fStmtw, y_fTargetw, y_fMaskw, y_fHomew, y_fOpsw, y_fValsw, y_fNeww, y_outw) => x (y_maxObjectsw, y_maxStepsw, y_maxDepthw, y_keptw, y_endw, y_tokensw, y_pendingw, y_linesw, y_classesw, y_printsw, y_placew, y_stepsw, y_dw, y_valTopw, y_opTopw, y_opensw, y_posw, y_tkw, y_tvw, y_stmtw, y_targetw, y_errw, y_codew, y_outcomew, y_resultw, y_dryw, y_wantw, y_startingw, y_endedw, y_badw, y_hostedw, y_sawSuperw, y_textw, y_numbersw, y_globalsw, y_entriesw, y_attrsw, y_classOfw, y_alivew, y_ordersw, y_lengthsw, y_lettersw, y_basesw, y_valsw, y_opsw, y_localsw, y_fRecvw, y_fLinew, y_fPosw, y_fStmtw, y_fTargetw, y_fMaskw, y_fHomew, y_fOpsw, y_fValsw, y_fNeww, y_outw)) (y_maxObjectsq, y_maxStepsq, y_maxDepthq, y_keptq, y_endq, y_tokensq, y_pendingq, y_linesq, y_classesq, y_printsq, y_placeq, y_stepsq, y_dq, y_valTopq, y_opTopq, y_opensq, y_posq, y_tkq, y_tvq, y_stmtq, y_targetq, y_errq, y_codeq, y_outcomeq, y_resultq, y_dryq, y_wantq, y_startingq, y_endedq, y_badq, y_hostedq, y_sawSuperq, y_textq, y_numbersq, y_globalsq, y_entriesq, y_attrsq, y_classOfq, y_aliveq, y_ordersq, y_lengthsq, y_lettersq, y_basesq, y_valsq, y_opsq, y_localsq, y_fRecvq, y_fLineq, y_fPosq, y_fStmtq, y_fTargetq, y_fMaskq, y_fHomeq, y_fOpsq, y_fValsq, y_fNewq, y_outq)))) : Int32 → SY → Prop) 0 (y_maxObjectsq, y_maxStepsq, y_maxDepthq, y_keptq, y_endq, y_tokensq, y_pendingq, y_linesq, y_classesq, y_printsq, y_placeq, y_stepsq, y_dq, y_valTopq, y_opTopq, y_opensq, y_posq, y_tkq, y_tvq, y_stmtq, y_targetq, y_errq, y_codeq, y_outcomeq, y_resultq, y_dryq, y_wantq, y_startingq, y_endedq, y_badq, y_hostedq, y_sawSuperq, y_textq, y_numbersq, y_globalsq, y_entriesq, y_attrsq, y_classOfq, y_aliveq, y_ordersq, y_lengthsq, y_lettersq, y_basesq, y_valsq, y_opsq, y_localsq, y_fRecvq, y_fLineq, y_fPosq, y_fStmtq, y_fTargetq, y_fMaskq, y_fHomeq, y_fOpsq, y_fValsq, y_fNewq, y_outq)) o qq vt v1) → wpY_expressionToken (fun r u => match u with | (y_maxObjectsq, y_maxStepsq, y_maxDepthq, y_keptq, y_endq, y_tokensq, y_pendingq, y_linesq, y_classesq, y_printsq, y_placeq, y_stepsq, y_dq, y_valTopq, y_opTopq, y_opensq, y_posq, y_tkq, y_tvq, y_stmtq, y_targetq, y_errq, y_codeq, y_outcomeq, y_resultq, y_dryq, y_wantq, y_startingq, y_endedq, y_badq, y_hostedq, y_sawSuperq, y_textq, y_numbersq, y_globalsq, y_entriesq, y_attrsq, y_classOfq, y_aliveq, y_ordersq, y_lengthsq, y_lettersq, y_basesq, y_valsq, y_opsq, y_localsq, y_fRecvq, y_fLineq, y_fPosq, y_fStmtq, y_fTargetq, y_fMaskq, y_fHomeq, y_fOpsq, y_fValsq, y_fNewq, y_outq) => ((r = 0 → x (y_maxObjectsq, y_maxStepsq, y_maxDepthq, y_keptq, y_endq, y_tokensq, y_pendingq, y_linesq, y_classesq, y_printsq, y_placeq, y_stepsq, y_dq, y_valTopq, y_opTopq, y_opensq, y_posq, y_tkq, y_tvq, y_stmtq, y_targetq, y_errq, y_codeq, y_outcomeq, y_resultq, y_dryq, y_wantq, y_startingq, y_endedq, y_badq, y_hostedq, y_sawSuperq, y_textq, y_numbersq, y_globalsq, y_entriesq, y_attrsq, y_classOfq, y_aliveq, y_ordersq, y_lengthsq, y_lettersq, y_basesq, y_valsq, y_opsq, y_localsq, y_fRecvq, y_fLineq, y_fPosq, y_fStmtq, y_fTargetq, y_fMaskq, y_fHomeq, y_fOpsq, y_fValsq, y_fNewq, y_outq)) ∧ (¬ r = 0 → wpY_finish (fun u => match u with | (y_maxObjectsw, y_maxStepsw, y_maxDepthw, y_keptw, y_endw, y_tokensw, y_pendingw, y_linesw, y_classesw, y_printsw, y_placew, y_stepsw, y_dw, y_valTopw, y_opTopw, y_opensw, y_posw, y_tkw, y_tvw, y_stmtw, y_targetw, y_errw, y_codew, y_outcomew, y_resultw, y_dryw, y_wantw, y_startingw, y_endedw, y_badw, y_hostedw, y_sawSuperw, y_textw, y_numbersw, y_globalsw, y_entriesw, y_attrsw, y_classOfw, y_alivew, y_ordersw, y_lengthsw, y_lettersw, y_basesw, y_valsw, y_opsw, y_localsw, y_fRecvw, y_fLinew, y_fPosw, y_fStmtw, y_fTargetw, y_fMaskw, y_fHomew, y_fOpsw, y_fValsw, y_fNeww, y_outw) => x (y_maxObjectsw, y_maxStepsw, y_maxDepthw, y_keptw, y_endw, y_tokensw, y_pendingw, y_linesw, y_classesw, y_printsw, y_placew, y_stepsw, y_dw, y_valTopw, y_opTopw, y_opensw, y_posw, y_tkw, y_tvw, y_stmtw, y_targetw, y_errw, y_codew, y_outcomew, y_resultw, y_dryw, y_wantw, y_startingw, y_endedw, y_badw, y_hostedw, y_sawSuperw, y_textw, y_numbersw, y_globalsw, y_entriesw, y_attrsw, y_classOfw, y_alivew, y_ordersw, y_lengthsw, y_lettersw, y_basesw, y_valsw, y_opsw, y_localsw, y_fRecvw, y_fLinew, y_fPosw, y_fStmtw, y_fTargetw, y_fMaskw, y_fHomew, y_fOpsw, y_fValsw, y_fNeww, y_outw)) (y_maxObjectsq, y_maxStepsq, y_maxDepthq, y_keptq, y_endq, y_tokensq, y_pendingq, y_linesq, y_classesq, y_printsq, y_placeq, y_stepsq, y_dq, y_valTopq, y_opTopq, y_opensq, y_posq, y_tkq, y_tvq, y_stmtq, y_targetq, y_errq, y_codeq, y_outcomeq, y_resultq, y_dryq, y_wantq, y_startingq, y_endedq, y_badq, y_hostedq, y_sawSuperq, y_textq, y_numbersq, y_globalsq, y_entriesq, y_attrsq, y_classOfq, y_aliveq, y_ordersq, y_lengthsq, y_lettersq, y_basesq, y_valsq, y_opsq, y_localsq, y_fRecvq, y_fLineq, y_fPosq, y_fStmtq, y_fTargetq, y_fMaskq, y_fHomeq, y_fOpsq, y_fValsq, y_fNewq, y_outq)))) v := by
    intro x v hvv H
    refine hs_yTok I0 s7.1 hv s13 s14 s15 hvv (fun z => by cases z) (fun o' q' eo _ v1 h1 => ?_)
    have eo1 : o = o' ∧ qq = q' := by
      have := List.head_eq_of_cons_eq eo
      exact ⟨congrArg Prod.fst this, congrArg Prod.snd this⟩
    obtain ⟨rfl, rfl⟩ := eo1
    exact H v1 h1
  intro i k n hi hk hn post HP
  refine hs_xMake W hq (by omega) vt280 d6 B2 rv1 rv2 rv3 rv4 rv5 (fun er N => ?_) (fun cx ob1 N sn a0 => ?_) (fun cx ob1 N sn a1 => ?_) (fun cx ob1 mm N sn => ?_)
  · obtain ⟨e0, e9⟩ := hs_NEer N
    have g := hs_emErr (c := c) (x14 := nI vt) (mg := mg) (pc := pc) (rc := rc) (lp := lp) A I0 L nh W hvb e0 e9 hM
    refine g i k n hi hk hn post (fun u' V' f gg => HP u' V' f (fun Q hQ m hm v' hv' => yst _ v' hv' (fun v1 h1 => ?_)))
    have ge := gg Q hQ m hm
    clear gg HP g yst
    obtain ⟨y_maxObjects, y_maxSteps, y_maxDepth, y_kept, y_end, y_tokens, y_pending, y_lines, y_classes, y_prints, y_place, y_steps, y_d, y_valTop, y_opTop, y_opens, y_pos, y_tk, y_tv, y_stmt, y_target, y_err, y_code, y_outcome, y_result, y_dry, y_want, y_starting, y_ended, y_bad, y_hosted, y_sawSuper, y_text, y_numbers, y_globals, y_entries, y_attrs, y_classOf, y_alive, y_orders, y_lengths, y_letters, y_bases, y_vals, y_ops, y_locals, y_fRecv, y_fLine, y_fPos, y_fStmt, y_fTarget, y_fMask, y_fHome, y_fOps, y_fVals, y_fNew, y_out⟩ := v1
    obtain ⟨⟨⟨a1, a2, a3, a4, a5, a6, a7, a8, a9, a10, a11, a12, a13, a14, a15, a16, a17, a18, a19, a20, a21, anu, a23, a24, a25, a26, a27⟩, E, O, va, l0, C, KK, qf⟩, w1, w2, pp, p1, p2, p3, p4, p5, p6⟩ := h1
    (have a1 := a1.symm; have a2 := a2.symm; have a3 := a3.symm; have a4 := a4.symm; have a5 := a5.symm; have a6 := a6.symm; have a7 := a7.symm; have a8 := a8.symm; have a9 := a9.symm; have a10 := a10.symm; have a11 := a11.symm; have a12 := a12.symm; have a13 := a13.symm; have a14 := a14.symm; have a15 := a15.symm; have a16 := a16.symm; have a17 := a17.symm; have a18 := a18.symm; have a19 := a19.symm; have a20 := a20.symm; have a21 := a21.symm; have a23 := a23.symm; have a24 := a24.symm; have a25 := a25.symm; have a26 := a26.symm; have a27 := a27.symm; subst a1 a2 a3 a4 a5 a6 a7 a8 a9 a10 a11 a12 a13 a14 a15 a16 a17 a18 a19 a20 a21 a23 a24 a25 a26 a27)
    subst w1 w2 p1 p3 p5
    refine hs_yopN h10 hq (hs_yMakeE W E O hq (by omega) vt280 d6 B2 va (fun j i j1 j2 hi => (((C j j2).2.2.2 j1).2.2.2.2 i hi).symm) (fun j j1 j2 => ((C j j2).2.2.2 j1).2.2.2.1.symm) rv1 (fun j hj => by rw [va j hj]; exact rv2 j hj) ?_ (fun j hj => ?_) rv5 (fun j j1 j2 => ?_) N (fun al => br_t rfl (ge _ ⟨⟨rfl, rfl, rfl, rfl, rfl, rfl, rfl, rfl, rfl, rfl, rfl, rfl, rfl, rfl, rfl, rfl, rfl, rfl, rfl, rfl, rfl, anu, rfl, rfl, rfl, rfl, rfl⟩, E, O, fun j hj => va j (by omega), l0, C, KK, qf⟩)))
    · intro j hj
      rcases Nat.lt_or_ge j 26 with z | z
      · rw [l0 j z]; exact hs_rvV (Or.inl rfl)
      · obtain ⟨k1, r, hr, e⟩ : ∃ k r, r < 26 ∧ j = k * 26 + r := ⟨j / 26, j % 26, Nat.mod_lt _ (by decide), by omega⟩
        subst e
        rw [((C k1 (by omega)).2.2.2 (by omega)).2.2.2.2 r hr]
        exact rv3 _ (by omega)
    · obtain ⟨k1, r, hr, e⟩ : ∃ k r, r < 26 ∧ j = k * 26 + r := ⟨j / 26, j % 26, Nat.mod_lt _ (by decide), by omega⟩
      subst e
      exact (hs_eeR (oc := oc) (by omega) (E k1 r (by omega) hr)).2.1
    · rw [((C j j2).2.2.2 j1).2.2.2.1]
      exact rv3 _ (by omega)
  · have W' := hs_WXnew W N.1 N.2.2.2.1
    have OV' : ∀ j, j < vt + 1 → hs_vv (vp_updL op vt (lN (12884901888 + ob1)) j) := by
      intro j hj
      by_cases z : j = vt
      · rw [z, pk_uLs]; exact hs_objV N.2.2.2.1
      · rw [pk_uLn z]; exact OV j (by omega)
    have g := hs_emGo (mg := mg) (pc := pc) (rc := rc) (lp := lp) G I0 L nh m0 W' OV' (by omega) hM
    refine g i k n hi hk hn post (fun u' V' f gg => HP u' V' f (fun Q hQ m hm v' hv' => yst _ v' hv' (fun v1 h1 => ?_)))
    have ge := gg Q hQ m hm
    clear gg HP g yst
    obtain ⟨y_maxObjects, y_maxSteps, y_maxDepth, y_kept, y_end, y_tokens, y_pending, y_lines, y_classes, y_prints, y_place, y_steps, y_d, y_valTop, y_opTop, y_opens, y_pos, y_tk, y_tv, y_stmt, y_target, y_err, y_code, y_outcome, y_result, y_dry, y_want, y_starting, y_ended, y_bad, y_hosted, y_sawSuper, y_text, y_numbers, y_globals, y_entries, y_attrs, y_classOf, y_alive, y_orders, y_lengths, y_letters, y_bases, y_vals, y_ops, y_locals, y_fRecv, y_fLine, y_fPos, y_fStmt, y_fTarget, y_fMask, y_fHome, y_fOps, y_fVals, y_fNew, y_out⟩ := v1
    obtain ⟨⟨⟨a1, a2, a3, a4, a5, a6, a7, a8, a9, a10, a11, a12, a13, a14, a15, a16, a17, a18, a19, a20, a21, anu, a23, a24, a25, a26, a27⟩, E, O, va, l0, C, KK, qf⟩, w1, w2, pp, p1, p2, p3, p4, p5, p6⟩ := h1
    (have a1 := a1.symm; have a2 := a2.symm; have a3 := a3.symm; have a4 := a4.symm; have a5 := a5.symm; have a6 := a6.symm; have a7 := a7.symm; have a8 := a8.symm; have a9 := a9.symm; have a10 := a10.symm; have a11 := a11.symm; have a12 := a12.symm; have a13 := a13.symm; have a14 := a14.symm; have a15 := a15.symm; have a16 := a16.symm; have a17 := a17.symm; have a18 := a18.symm; have a19 := a19.symm; have a20 := a20.symm; have a21 := a21.symm; have a23 := a23.symm; have a24 := a24.symm; have a25 := a25.symm; have a26 := a26.symm; have a27 := a27.symm; subst a1 a2 a3 a4 a5 a6 a7 a8 a9 a10 a11 a12 a13 a14 a15 a16 a17 a18 a19 a20 a21 a23 a24 a25 a26 a27)
    subst w1 w2 p1 p3 p5
    refine hs_yopN h10 hq (hs_yMakeO W E O hq (by omega) vt280 d6 B2 va (fun j i j1 j2 hi => (((C j j2).2.2.2 j1).2.2.2.2 i hi).symm) (fun j j1 j2 => ((C j j2).2.2.2 j1).2.2.2.1.symm) rv1 (fun j hj => by rw [va j hj]; exact rv2 j hj) ?_ (fun j hj => ?_) rv5 (fun j j1 j2 => ?_) N (fun _ _ al => br_t rfl (ge _ ⟨⟨rfl, rfl, rfl, rfl, rfl, rfl, rfl, rfl, rfl, rfl, rfl, rfl, rfl, rfl, rfl, rfl, rfl, rfl, rfl, rfl, rfl, rfl, anu, rfl, rfl, rfl, rfl, rfl⟩, E, O, fun j hj => ?_, l0, C, fun k hk nk => ?_, rfl, qf, rfl, pp, rfl, ?_, rfl, p4, ?_, ?_⟩)) (fun _ z => by omega) (fun mm z => by rw [sn] at z; cases z))
    · intro j hj
      rcases Nat.lt_or_ge j 26 with z | z
      · rw [l0 j z]; exact hs_rvV (Or.inl rfl)
      · obtain ⟨k1, r, hr, e⟩ : ∃ k r, r < 26 ∧ j = k * 26 + r := ⟨j / 26, j % 26, Nat.mod_lt _ (by decide), by omega⟩
        subst e
        rw [((C k1 (by omega)).2.2.2 (by omega)).2.2.2.2 r hr]
        exact rv3 _ (by omega)
    · obtain ⟨k1, r, hr, e⟩ : ∃ k r, r < 26 ∧ j = k * 26 + r := ⟨j / 26, j % 26, Nat.mod_lt _ (by decide), by omega⟩
      subst e
      exact (hs_eeR (oc := oc) (by omega) (E k1 r (by omega) hr)).2.1
    · rw [((C j j2).2.2.2 j1).2.2.2.1]
      exact rv3 _ (by omega)
    · by_cases z : j = vt
      · rw [z, pk_uLs, pk_uLs]
      · rw [pk_uLn z, pk_uLn z]; exact va j (by omega)
    · rw [hs_put1N (show k ≠ d by omega), hs_put1N (show k ≠ d by omega)]; exact KK k hk nk
    · rw [hs_put1S]; exact p2
    · rw [hs_put1S]
    · rw [hs_put1S]; exact p6
  · have W' := hs_WXnew W N.1 N.2.2.2.1
    have g := hs_emErr (c := c) (er := 3) (x14 := nI vt) (mg := mg) (pc := pc) (rc := rc) (lp := lp) A I0 L nh W' hvb (by decide) (by decide) hM
    refine g i k n hi hk hn post (fun u' V' f gg => HP u' V' f (fun Q hQ m hm v' hv' => yst _ v' hv' (fun v1 h1 => ?_)))
    have ge := gg Q hQ m hm
    clear gg HP g yst
    obtain ⟨y_maxObjects, y_maxSteps, y_maxDepth, y_kept, y_end, y_tokens, y_pending, y_lines, y_classes, y_prints, y_place, y_steps, y_d, y_valTop, y_opTop, y_opens, y_pos, y_tk, y_tv, y_stmt, y_target, y_err, y_code, y_outcome, y_result, y_dry, y_want, y_starting, y_ended, y_bad, y_hosted, y_sawSuper, y_text, y_numbers, y_globals, y_entries, y_attrs, y_classOf, y_alive, y_orders, y_lengths, y_letters, y_bases, y_vals, y_ops, y_locals, y_fRecv, y_fLine, y_fPos, y_fStmt, y_fTarget, y_fMask, y_fHome, y_fOps, y_fVals, y_fNew, y_out⟩ := v1
    obtain ⟨⟨⟨a1, a2, a3, a4, a5, a6, a7, a8, a9, a10, a11, a12, a13, a14, a15, a16, a17, a18, a19, a20, a21, anu, a23, a24, a25, a26, a27⟩, E, O, va, l0, C, KK, qf⟩, w1, w2, pp, p1, p2, p3, p4, p5, p6⟩ := h1
    (have a1 := a1.symm; have a2 := a2.symm; have a3 := a3.symm; have a4 := a4.symm; have a5 := a5.symm; have a6 := a6.symm; have a7 := a7.symm; have a8 := a8.symm; have a9 := a9.symm; have a10 := a10.symm; have a11 := a11.symm; have a12 := a12.symm; have a13 := a13.symm; have a14 := a14.symm; have a15 := a15.symm; have a16 := a16.symm; have a17 := a17.symm; have a18 := a18.symm; have a19 := a19.symm; have a20 := a20.symm; have a21 := a21.symm; have a23 := a23.symm; have a24 := a24.symm; have a25 := a25.symm; have a26 := a26.symm; have a27 := a27.symm; subst a1 a2 a3 a4 a5 a6 a7 a8 a9 a10 a11 a12 a13 a14 a15 a16 a17 a18 a19 a20 a21 a23 a24 a25 a26 a27)
    subst w1 w2 p1 p3 p5
    refine hs_yopN h10 hq (hs_yMakeO W E O hq (by omega) vt280 d6 B2 va (fun j i j1 j2 hi => (((C j j2).2.2.2 j1).2.2.2.2 i hi).symm) (fun j j1 j2 => ((C j j2).2.2.2 j1).2.2.2.1.symm) rv1 (fun j hj => by rw [va j hj]; exact rv2 j hj) ?_ (fun j hj => ?_) rv5 (fun j j1 j2 => ?_) N (fun _ z => by omega) (fun _ _ al => br_t rfl (ge _ ⟨⟨rfl, rfl, rfl, rfl, rfl, rfl, rfl, rfl, rfl, rfl, rfl, rfl, rfl, rfl, rfl, rfl, rfl, rfl, rfl, rfl, rfl, anu, rfl, rfl, rfl, rfl, rfl⟩, E, O, fun j hj => va j (by omega), l0, C, KK, qf⟩)) (fun mm z => by rw [sn] at z; cases z))
    · intro j hj
      rcases Nat.lt_or_ge j 26 with z | z
      · rw [l0 j z]; exact hs_rvV (Or.inl rfl)
      · obtain ⟨k1, r, hr, e⟩ : ∃ k r, r < 26 ∧ j = k * 26 + r := ⟨j / 26, j % 26, Nat.mod_lt _ (by decide), by omega⟩
        subst e
        rw [((C k1 (by omega)).2.2.2 (by omega)).2.2.2.2 r hr]
        exact rv3 _ (by omega)
    · obtain ⟨k1, r, hr, e⟩ : ∃ k r, r < 26 ∧ j = k * 26 + r := ⟨j / 26, j % 26, Nat.mod_lt _ (by decide), by omega⟩
      subst e
      exact (hs_eeR (oc := oc) (by omega) (E k1 r (by omega) hr)).2.1
    · rw [((C j j2).2.2.2 j1).2.2.2.1]
      exact rv3 _ (by omega)
  · have W' := hs_WXnew W N.1 N.2.2.2.1
    have o8 := N.2.2.2.1
    obtain ⟨q1, q2⟩ := hs_seaM W.2.1 sn
    have mlt : mm < cn := by have := (W.2.2.2.2.2.2.2.2 cx N.1).2.2.2 mm q1; have := N.1; omega
    refine hs_xStart (P := P) (h := h) (lc := lc) (tk := tk) (mD := mD) (fo := some mm) (n := 8) W.2.2.2.1 (fun m hm => by have := Option.some.inj hm; subst this; have := W.1.2; exact ⟨by omega, q2⟩) (by omega) (by omega) (fun z => by omega) (by omega) vt280 B3 B4 T.1 (fun l hl => by obtain ⟨sx, t, D, _⟩ := hs_hdf T l hl; exact ⟨sx, t, D⟩) (fun er S => br_t rfl ?_) (fun m1 l sx t S D HE' r1 r2 r3 => br_f (by decide) ?_)
    · obtain ⟨e0, e9⟩ := hs_SEer S
      have g := hs_emErr (c := c) (x14 := nI vt) (mg := mg) (pc := pc) (rc := rc) (lp := lp) A I0 L nh W' hvb e0 e9 hM
      refine g i k n hi hk hn post (fun u' V' f gg => HP u' V' f (fun Q hQ m hm v' hv' => yst _ v' hv' (fun v1 h1 => ?_)))
      have ge := gg Q hQ m hm
      clear gg HP g yst
      obtain ⟨y_maxObjects, y_maxSteps, y_maxDepth, y_kept, y_end, y_tokens, y_pending, y_lines, y_classes, y_prints, y_place, y_steps, y_d, y_valTop, y_opTop, y_opens, y_pos, y_tk, y_tv, y_stmt, y_target, y_err, y_code, y_outcome, y_result, y_dry, y_want, y_starting, y_ended, y_bad, y_hosted, y_sawSuper, y_text, y_numbers, y_globals, y_entries, y_attrs, y_classOf, y_alive, y_orders, y_lengths, y_letters, y_bases, y_vals, y_ops, y_locals, y_fRecv, y_fLine, y_fPos, y_fStmt, y_fTarget, y_fMask, y_fHome, y_fOps, y_fVals, y_fNew, y_out⟩ := v1
      obtain ⟨⟨⟨a1, a2, a3, a4, a5, a6, a7, a8, a9, a10, a11, a12, a13, a14, a15, a16, a17, a18, a19, a20, a21, anu, a23, a24, a25, a26, a27⟩, E, O, va, l0, C, KK, qf⟩, w1, w2, pp, p1, p2, p3, p4, p5, p6⟩ := h1
      (have a1 := a1.symm; have a2 := a2.symm; have a3 := a3.symm; have a4 := a4.symm; have a5 := a5.symm; have a6 := a6.symm; have a7 := a7.symm; have a8 := a8.symm; have a9 := a9.symm; have a10 := a10.symm; have a11 := a11.symm; have a12 := a12.symm; have a13 := a13.symm; have a14 := a14.symm; have a15 := a15.symm; have a16 := a16.symm; have a17 := a17.symm; have a18 := a18.symm; have a19 := a19.symm; have a20 := a20.symm; have a21 := a21.symm; have a23 := a23.symm; have a24 := a24.symm; have a25 := a25.symm; have a26 := a26.symm; have a27 := a27.symm; subst a1 a2 a3 a4 a5 a6 a7 a8 a9 a10 a11 a12 a13 a14 a15 a16 a17 a18 a19 a20 a21 a23 a24 a25 a26 a27)
      subst w1 w2 p1 p3 p5
      refine hs_yopN h10 hq (hs_yMakeO W E O hq (by omega) vt280 d6 B2 va (fun j i j1 j2 hi => (((C j j2).2.2.2 j1).2.2.2.2 i hi).symm) (fun j j1 j2 => ((C j j2).2.2.2 j1).2.2.2.1.symm) rv1 (fun j hj => by rw [va j hj]; exact rv2 j hj) ?_ (fun j hj => ?_) rv5 (fun j j1 j2 => ?_) N (fun z => by rw [sn] at z; cases z) (fun z => by rw [sn] at z; cases z) (fun m9 z al => ?_))
      · intro j hj
        rcases Nat.lt_or_ge j 26 with z | z
        · rw [l0 j z]; exact hs_rvV (Or.inl rfl)
        · obtain ⟨k1, r, hr, e⟩ : ∃ k r, r < 26 ∧ j = k * 26 + r := ⟨j / 26, j % 26, Nat.mod_lt _ (by decide), by omega⟩
          subst e
          rw [((C k1 (by omega)).2.2.2 (by omega)).2.2.2.2 r hr]
          exact rv3 _ (by omega)
      · obtain ⟨k1, r, hr, e⟩ : ∃ k r, r < 26 ∧ j = k * 26 + r := ⟨j / 26, j % 26, Nat.mod_lt _ (by decide), by omega⟩
        subst e
        exact (hs_eeR (oc := oc) (by omega) (E k1 r (by omega) hr)).2.1
      · rw [((C j j2).2.2.2 j1).2.2.2.1]
        exact rv3 _ (by omega)
      · have ez : m9 = mm := by rw [sn] at z; exact (Option.some.inj z).symm
        subst ez
        have ha : (if o % 2 = 1 then y_vals (vt - 1) else 0) = 0 ↔ o - 10 = 0 := by
          rcases h10 with rfl | rfl
          · exact ⟨fun _ => rfl, fun _ => rfl⟩
          · refine ⟨fun z => ?_, fun z => absurd z (by decide)⟩
            have z' : y_vals (vt - 1) = 0 := z
            rw [va (vt - 1) (by omega)] at z'
            exact absurd z' (hs_vvne (OV (vt - 1) (by omega)))
        exact hs_yInvE (n := 8) E (by omega) (by omega) ha B3 B4 (hs_hdf T) S (br_t rfl (ge _ ⟨⟨rfl, rfl, rfl, rfl, rfl, rfl, rfl, rfl, rfl, rfl, rfl, rfl, rfl, rfl, rfl, rfl, rfl, rfl, rfl, rfl, rfl, anu, rfl, rfl, rfl, rfl, rfl⟩, E, O, fun j hj => va j (by omega), l0, C, KK, qf⟩))
    · have ec := hs_C40 (CL := upd CL (d * 6 + 3) (nI (c + 1))) (d := d) (l := l) (m := m1) (x := vt - (o - 10))
      have dm := S.2.2.2.2.2.2
      have ei5 : (nI (d + 2) - 1) * 6 + 5 = nI ((d + 1) * 6 + 5) := by
        rw [show nI (d + 2) - 1 = nI (d + 1) from nI_pred (d + 1)]; exact hs_ixMul (d + 1) 6 5
      have ei : (nI (d + 2) - 1) * 6 + 0 = nI ((d + 1) * 6) := by
        rw [Int32.add_zero, show nI (d + 2) - 1 = nI (d + 1) from nI_pred (d + 1)]; exact pk_mul (d + 1) 6
      have el : nI l + 1 = nI (l + 1) := nI_1 l
      rw [ei5, ei, nI_clamp (show (d + 1) * 6 < 2 ^ 31 by omega), nI_clamp (show (d + 1) * 6 + 5 < 2 ^ 31 by omega)]
      refine And.intro (vp_in_nI (by omega) (by decide)) (nm_e ?_)
      have e0 : upd (hs_C4 (upd CL (d * 6 + 3) (nI (c + 1))) d l m1 (vt - (o - 10))) ((d + 1) * 6 + 5) 1 ((d + 1) * 6) = nI l := by rw [pk_un (by omega)]; exact ec.1
      rw [e0, el]
      have ldf := S.2.2.1
      have hag : ∀ t', t = some t' → hs_vv (op (vt - 1)) := by
        intro t' et
        obtain ⟨d1, d2, nn, ⟨d3, _⟩ | ⟨t3, d3, d4, d5, d7, d8⟩⟩ := D
        · rw [d3] at et; cases et
        · have hnp := S.2.2.2.2.2.1
          unfold hs_np at hnp
          rw [d7, if_pos (nI_pos' (by omega))] at hnp
          exact OV (vt - 1) (by omega)
      have Im := hs_emI (x := nI (c + 1)) (ts1 := ts1) (st1 := st1) I0 W OV
      have Im' := hs_emI (x := nI (c + 1)) (ts1 := ts1) (st1 := st1) I0 W' OV
      have pe : hs_pot (hs_put1 ts d ts1) (hs_put1 st d st1) d = hs_pot ts st d := hs_potE d (fun k hk => hs_put1N (by omega)) (fun k hk => hs_put1N (by omega))
      have pe1 : hs_pot (hs_put1 ts d ts1) (hs_put1 st d st1) (d + 1) = hs_pot ts st d + (3 * (2 * ts1.length + st1.length) + 3) := by
        show hs_pot (hs_put1 ts d ts1) (hs_put1 st d st1) d + (3 * (2 * (hs_put1 ts d ts1 d).length + (hs_put1 st d st1 d).length) + 3) = _
        rw [pe, hs_put1S, hs_put1S]
      have emm : m1 = mm := (Option.some.inj S.1).symm
      have g := hs_tGo (fun v hv => hs_Verr hv) (hs_callG (mg := mg) (pc := pc) (rc := rc) (lp := lp) (on := ob d + st1.length) (vn := vt - (o - 10)) (l := l) (CL2 := upd (hs_C4 (upd CL (d * 6 + 3) (nI (c + 1))) d l m1 (vt - (o - 10))) ((d + 1) * 6 + 5) 1) (HE' := HE') A Im (hs_XLin L (pk_un (by omega)) (Nat.le_refl _)) (fun _ => ⟨by rw [hs_put1S, hs_put1S]; exact hs_emXS m0, by rw [hs_put1S]; omega, by rw [hs_put1S]⟩) (fun y1 y2 => absurd ⟨y1, y2⟩ nh) dm (by omega) W' ldf (fun j hj => by rw [pk_un (by omega)]; exact hs_C4n hj) (by rw [pk_un (by omega)]; exact ec.2.2.1) e0 ⟨m1, by omega, by rw [pk_un (by omega)]; exact ec.2.1⟩ (Or.inr pk_us) r1 ⟨ob1, o8, r2⟩ (fun j hj => by rw [r3 j hj]; exact hs_lv1v (hs_objV o8) hag j) (by rw [pe1]; omega))
      refine And.intro (vp_in_nI (by omega) (by decide)) (hs_xReach (d := d + 1) (by omega) (by have := ldf.1; have := (hs_opNext (hs_Tck T ldf.1) (hs_TE T ldf.1).2.1 (hs_TE T ldf.1).2.2.1 (Or.inr (Or.inl ldf.2))).1; have := (hs_TE T ldf.1).1; omega) s200 m200 ?_)
      refine g i k n hi hk hn post (fun u' V' f gg => HP u' V' f (fun Q hQ m hm v' hv' => yst _ v' hv' (fun v1 h1 => ?_)))
      have ge := gg Q hQ m hm
      clear gg HP g yst
      obtain ⟨y_maxObjects, y_maxSteps, y_maxDepth, y_kept, y_end, y_tokens, y_pending, y_lines, y_classes, y_prints, y_place, y_steps, y_d, y_valTop, y_opTop, y_opens, y_pos, y_tk, y_tv, y_stmt, y_target, y_err, y_code, y_outcome, y_result, y_dry, y_want, y_starting, y_ended, y_bad, y_hosted, y_sawSuper, y_text, y_numbers, y_globals, y_entries, y_attrs, y_classOf, y_alive, y_orders, y_lengths, y_letters, y_bases, y_vals, y_ops, y_locals, y_fRecv, y_fLine, y_fPos, y_fStmt, y_fTarget, y_fMask, y_fHome, y_fOps, y_fVals, y_fNew, y_out⟩ := v1
      obtain ⟨⟨⟨a1, a2, a3, a4, a5, a6, a7, a8, a9, a10, a11, a12, a13, a14, a15, a16, a17, a18, a19, a20, a21, anu, a23, a24, a25, a26, a27⟩, E, O, va, l0, C, KK, qf⟩, w1, w2, pp, p1, p2, p3, p4, p5, p6⟩ := h1
      (have a1 := a1.symm; have a2 := a2.symm; have a3 := a3.symm; have a4 := a4.symm; have a5 := a5.symm; have a6 := a6.symm; have a7 := a7.symm; have a8 := a8.symm; have a9 := a9.symm; have a10 := a10.symm; have a11 := a11.symm; have a12 := a12.symm; have a13 := a13.symm; have a14 := a14.symm; have a15 := a15.symm; have a16 := a16.symm; have a17 := a17.symm; have a18 := a18.symm; have a19 := a19.symm; have a20 := a20.symm; have a21 := a21.symm; have a23 := a23.symm; have a24 := a24.symm; have a25 := a25.symm; have a26 := a26.symm; have a27 := a27.symm; subst a1 a2 a3 a4 a5 a6 a7 a8 a9 a10 a11 a12 a13 a14 a15 a16 a17 a18 a19 a20 a21 a23 a24 a25 a26 a27)
      subst w1 w2 p1 p3 p5
      refine hs_yopN h10 hq (hs_yMakeO W E O hq (by omega) vt280 d6 B2 va (fun j i j1 j2 hi => (((C j j2).2.2.2 j1).2.2.2.2 i hi).symm) (fun j j1 j2 => ((C j j2).2.2.2 j1).2.2.2.1.symm) rv1 (fun j hj => by rw [va j hj]; exact rv2 j hj) ?_ (fun j hj => ?_) rv5 (fun j j1 j2 => ?_) N (fun z => by rw [sn] at z; cases z) (fun z => by rw [sn] at z; cases z) (fun m9 z al => ?_))
      · intro j hj
        rcases Nat.lt_or_ge j 26 with z | z
        · rw [l0 j z]; exact hs_rvV (Or.inl rfl)
        · obtain ⟨k1, r, hr, e⟩ : ∃ k r, r < 26 ∧ j = k * 26 + r := ⟨j / 26, j % 26, Nat.mod_lt _ (by decide), by omega⟩
          subst e
          rw [((C k1 (by omega)).2.2.2 (by omega)).2.2.2.2 r hr]
          exact rv3 _ (by omega)
      · obtain ⟨k1, r, hr, e⟩ : ∃ k r, r < 26 ∧ j = k * 26 + r := ⟨j / 26, j % 26, Nat.mod_lt _ (by decide), by omega⟩
        subst e
        exact (hs_eeR (oc := oc) (by omega) (E k1 r (by omega) hr)).2.1
      · rw [((C j j2).2.2.2 j1).2.2.2.1]
        exact rv3 _ (by omega)
      · have ez : m9 = mm := by rw [sn] at z; exact (Option.some.inj z).symm
        subst ez
        have harg : ((o - 10) = 0 ∧ (if o % 2 = 1 then y_vals (vt - 1) else 0) = 0) ∨ ((o - 10) = 1 ∧ 1 ≤ vt ∧ (if o % 2 = 1 then y_vals (vt - 1) else 0) = op (vt - 1)) := by
          rcases h10 with rfl | rfl
          · exact Or.inl ⟨rfl, rfl⟩
          · exact Or.inr ⟨rfl, by omega, va (vt - 1) (by omega)⟩
        refine hs_yCallV (n := 8) (v := (nI mo, nI mS, nI mD, yk, yen, yto, ype, yli, nI cn, pc, 0, nI s, nI d, nI vt, nI (ob d + st1.length), y_opens, nI pp, y_tk, y_tv, hs_smk (LT (fl d * 14)), y_target, 0, rc, 0, 0, 0, y_want, 0, 0, y_bad, hs_b ho, y_sawSuper, tx, y_numbers, gl, y_entries, hs_zr at1 ob1, upd oc ob1 (nI cx), al, y_orders, y_lengths, lt, y_bases, y_vals, y_ops, y_locals, y_fRecv, y_fLine, y_fPos, y_fStmt, y_fTarget, y_fMask, y_fHome, y_fOps, y_fVals, y_fNew, lp)) (fr := 1) (m := m1) (CL := upd CL (d * 6 + 3) (nI (c + 1))) (ts := hs_put1 ts d ts1) (st := hs_put1 st d st1) Im' (fun _ => by rw [hs_put1S]) (by omega) (by omega) harg (by omega) vt280 (by omega) D S (fun j hj => by rw [pk_un (by omega)]; exact hs_C4n hj) (by rw [pk_un (by omega)]; exact ec.2.1) pk_us r1 r2 r3 ⟨⟨rfl, rfl, rfl, rfl, rfl, rfl, rfl, rfl, rfl, rfl, rfl, rfl, rfl, rfl, rfl, rfl, rfl, rfl, rfl, rfl, rfl, anu, rfl, rfl, rfl, rfl, rfl⟩, E, O, va, l0, fun k hk => hs_YCcl ⟨pk_un (by omega), pk_un (by omega)⟩ (C k hk), fun k hk nk => ?_, rfl, rfl, fun _ => ⟨qf, pp, rfl, ?_, rfl, p4, ?_⟩⟩ (fun v1 h1 => br_t rfl (ge v1 h1))
        · rw [hs_put1N (show k ≠ d by omega), hs_put1N (show k ≠ d by omega)]; exact KK k hk nk
        · rw [hs_put1S]; exact p2
        · rw [hs_put1S]; exact p6
end
