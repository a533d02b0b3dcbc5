/-! run -/
section
variable {x_objectLimit x_stepLimit x_depthLimit x_pendingCount x_keptTokens x_keptLines x_lineCount x_codeCount x_cursor x_stop x_waitingCount x_openCount x_classCount x_callCount x_operandCount x_stepsTaken x_error x_raisedCode x_printCount x_lastPlace : Int32} {x_lastResult : Int64} {x_pending x_lineTable x_orders x_merging x_letterClass x_objectClass x_calls x_lastPrints : Nat → Int32} {x_code x_waiting x_globals x_entries x_attributes x_held x_operands : Nat → Int64}
variable {y_maxObjects y_maxSteps y_maxDepth y_kept y_end y_tokens y_pending y_lines y_classes y_prints y_place y_steps y_d y_valTop y_opTop y_opens y_pos y_tk y_tv y_stmt y_target y_err y_code y_outcome y_dry y_want y_starting y_ended y_bad y_hosted y_sawSuper : Int32} {y_result : Int64} {y_text y_numbers y_classOf y_alive y_orders y_lengths y_letters y_bases y_ops y_fLine y_fPos y_fStmt y_fTarget y_fMask y_fHome y_fOps y_fVals y_fNew y_out : Nat → Int32} {y_globals y_entries y_attrs y_vals y_locals y_fRecv : Nat → Int64}
variable {tx nu LT : Nat → Int32} {cd : Nat → Int64} {lc kp cc : Nat} {P ind h : Nat → Nat} {tk : Nat → List Nat} {ca cb us ue : Nat → Nat} {yk yen yto ype yli : Int32} {mo mS mD : Nat} {ho : Bool}
variable {s d vt cn : Nat} {ml : Nat → List Nat} {gl ex at1 HE op : Nat → Int64} {ox oc lt lp CL mg : Nat → Int32} {pc rc : Int32} {fl dl vb ob : Nat → Nat} {ts st : Nat → List Nat} {M : Nat}
variable {pd : Nat → Int32} {pn kt kl k : Nat}
theorem hs_nE2 {tx : Nat → Int32} {cs : Nat} : ∀ n, hs_nE tx cs (cs + n) ≤ n
  | 0 => by rw [Nat.add_zero, hs_nE0 cs (Nat.le_refl _)]; exact Nat.le_refl _
  | n + 1 => by
    have := hs_nE2 (tx := tx) (cs := cs) n
    show hs_nE tx cs (cs + n) + (if cs ≤ cs + n ∧ (hs_g tx (cs + n) = 0 ∨ (40 ≤ hs_g tx (cs + n) ∧ hs_g tx (cs + n) ≤ 48)) then 1 else 0) ≤ n + 1
    split <;> omega
theorem hs_exec0 {u : SX} {V : SY → Prop} {N : Nat} (g : hs_Go (hs_F tx nu LT cd lc P h (nI kp) (nI (kp + pn)) (nI kt) (nI pn) (nI kl) mo mS mD (nI pn) (nI kt) (nI kl) (nI cc) x_cursor x_stop x_waitingCount x_openCount x_lastResult pd x_waiting) N M u V) (hN : N ≤ 999999) (hM : M ≤ 99999) (T : hs_T tx nu LT cd lc kp cc P ind h tk ca cb us ue) (hPD : hs_PD tx pd kp pn) (hkp : 1 ≤ kp ∧ tx (kp - 1) = -1) (hm : 2 ≤ mo ∧ mo ≤ 8 ∧ mS ≤ 200 ∧ mD ≤ 6) (hb : kt + pn ≤ 400 ∧ kl ≤ kt + k ∧ lc ≤ 5 + kt ∧ cc ≤ 43 + kt ∧ kp ≤ 44 + 2 * kt) {post : Int32 → SX → Prop}
    (H : ∀ er u1, (∃ m : Nat, ∀ v, V v → hs_lY (fun w => match w with | (y_maxObjectsq, y_maxStepsq, y_maxDepthq, y_keptq, y_endq, y_tokensq, y_pendingq, y_linesq, y_classesq, y_printsq, y_placeq, y_stepsq, y_dq, y_valTopq, y_opTopq, y_opensq, y_posq, y_tkq, y_tvq, y_stmtq, y_targetq, y_errq, y_codeq, y_outcomeq, y_resultq, y_dryq, y_wantq, y_startingq, y_endedq, y_badq, y_hostedq, y_sawSuperq, y_textq, y_numbersq, y_globalsq, y_entriesq, y_attrsq, y_classOfq, y_aliveq, y_ordersq, y_lengthsq, y_lettersq, y_basesq, y_valsq, y_opsq, y_localsq, y_fRecvq, y_fLineq, y_fPosq, y_fStmtq, y_fTargetq, y_fMaskq, y_fHomeq, y_fOpsq, y_fValsq, y_fNewq, y_outq) => (y_outcomeq = er ∧ i_Rel k u1 (y_maxObjectsq, y_maxStepsq, y_maxDepthq, y_keptq, y_endq, y_tokensq, y_pendingq, y_linesq, y_classesq, y_printsq, y_placeq, y_stepsq, y_dq, y_valTopq, y_opTopq, y_opensq, y_posq, y_tkq, y_tvq, y_stmtq, y_targetq, y_errq, y_codeq, y_outcomeq, y_resultq, y_dryq, y_wantq, y_startingq, y_endedq, y_badq, y_hostedq, y_sawSuperq, y_textq, y_numbersq, y_globalsq, y_entriesq, y_attrsq, y_classOfq, y_aliveq, y_ordersq, y_lengthsq, y_lettersq, y_basesq, y_valsq, y_opsq, y_localsq, y_fRecvq, y_fLineq, y_fPosq, y_fStmtq, y_fTargetq, y_fMaskq, y_fHomeq, y_fOpsq, y_fValsq, y_fNewq, y_outq))) m (nI 0) v) → post er u1) :
    ∃ n2 : Nat, hs_lX (fun u => match u with | (x_objectLimitq, x_stepLimitq, x_depthLimitq, x_pendingCountq, x_keptTokensq, x_keptLinesq, x_lineCountq, x_codeCountq, x_cursorq, x_stopq, x_waitingCountq, x_openCountq, x_classCountq, x_callCountq, x_operandCountq, x_stepsTakenq, x_errorq, x_raisedCodeq, x_printCountq, x_lastResultq, x_lastPlaceq, x_pendingq, x_lineTableq, x_codeq, x_waitingq, x_globalsq, x_entriesq, x_ordersq, x_mergingq, x_letterClassq, x_objectClassq, x_attributesq, x_callsq, x_heldq, x_operandsq, x_lastPrintsq) => wpX_finish (fun r u => match u with | (x_objectLimitw, x_stepLimitw, x_depthLimitw, x_pendingCountw, x_keptTokensw, x_keptLinesw, x_lineCountw, x_codeCountw, x_cursorw, x_stopw, x_waitingCountw, x_openCountw, x_classCountw, x_callCountw, x_operandCountw, x_stepsTakenw, x_errorw, x_raisedCodew, x_printCountw, x_lastResultw, x_lastPlacew, x_pendingw, x_lineTablew, x_codew, x_waitingw, x_globalsw, x_entriesw, x_ordersw, x_mergingw, x_letterClassw, x_objectClassw, x_attributesw, x_callsw, x_heldw, x_operandsw, x_lastPrintsw) => post r (x_objectLimitw, x_stepLimitw, x_depthLimitw, x_pendingCountw, x_keptTokensw, x_keptLinesw, x_lineCountw, x_codeCountw, x_cursorw, x_stopw, x_waitingCountw, x_openCountw, x_classCountw, x_callCountw, x_operandCountw, x_stepsTakenw, x_errorw, x_raisedCodew, x_printCountw, x_lastResultw, x_lastPlacew, x_pendingw, x_lineTablew, x_codew, x_waitingw, x_globalsw, x_entriesw, x_ordersw, x_mergingw, x_letterClassw, x_objectClassw, x_attributesw, x_callsw, x_heldw, x_operandsw, x_lastPrintsw)) (x_objectLimitq, x_stepLimitq, x_depthLimitq, x_pendingCountq, x_keptTokensq, x_keptLinesq, x_lineCountq, x_codeCountq, x_cursorq, x_stopq, x_waitingCountq, x_openCountq, x_classCountq, x_callCountq, x_operandCountq, x_stepsTakenq, x_errorq, x_raisedCodeq, x_printCountq, x_lastResultq, x_lastPlaceq, x_pendingq, x_lineTableq, x_codeq, x_waitingq, x_globalsq, x_entriesq, x_ordersq, x_mergingq, x_letterClassq, x_objectClassq, x_attributesq, x_callsq, x_heldq, x_operandsq, x_lastPrintsq)) n2 (nI 0) u := by
  refine ⟨N + 1, g 0 0 (N + 1) (by omega) (by omega) (by omega) _ (fun u' V' f gg => ?_)⟩
  have fx := hs_finX (k := k) (post := fun r u => match u with | (x_objectLimitw, x_stepLimitw, x_depthLimitw, x_pendingCountw, x_keptTokensw, x_keptLinesw, x_lineCountw, x_codeCountw, x_cursorw, x_stopw, x_waitingCountw, x_openCountw, x_classCountw, x_callCountw, x_operandCountw, x_stepsTakenw, x_errorw, x_raisedCodew, x_printCountw, x_lastResultw, x_lastPlacew, x_pendingw, x_lineTablew, x_codew, x_waitingw, x_globalsw, x_entriesw, x_ordersw, x_mergingw, x_letterClassw, x_objectClassw, x_attributesw, x_callsw, x_heldw, x_operandsw, x_lastPrintsw) => post r (x_objectLimitw, x_stepLimitw, x_depthLimitw, x_pendingCountw, x_keptTokensw, x_keptLinesw, x_lineCountw, x_codeCountw, x_cursorw, x_stopw, x_waitingCountw, x_openCountw, x_classCountw, x_callCountw, x_operandCountw, x_stepsTakenw, x_errorw, x_raisedCodew, x_printCountw, x_lastResultw, x_lastPlacew, x_pendingw, x_lineTablew, x_codew, x_waitingw, x_globalsw, x_entriesw, x_ordersw, x_mergingw, x_letterClassw, x_objectClassw, x_attributesw, x_callsw, x_heldw, x_operandsw, x_lastPrintsw)) T hPD hkp hm hb f (fun er u1 hr => by
    have r := H er u1 ⟨M + 1, fun v hv => gg _ (fun v' hv' => by
      have hr' := hr v' hv'
      obtain ⟨y_maxObjects, y_maxSteps, y_maxDepth, y_kept, y_end, y_tokens, y_pending, y_lines, y_classes, y_prints, y_place, y_steps, y_d, y_valTop, y_opTop, y_opens, y_pos, y_tk, y_tv, y_stmt, y_target, y_err, y_code, y_outcome, y_result, y_dry, y_want, y_starting, y_ended, y_bad, y_hosted, y_sawSuper, y_text, y_numbers, y_globals, y_entries, y_attrs, y_classOf, y_alive, y_orders, y_lengths, y_letters, y_bases, y_vals, y_ops, y_locals, y_fRecv, y_fLine, y_fPos, y_fStmt, y_fTarget, y_fMask, y_fHome, y_fOps, y_fVals, y_fNew, y_out⟩ := v'
      exact ⟨hr'.2, hr'.1⟩) (M + 1) (by omega) v hv⟩
    obtain ⟨x_objectLimit, x_stepLimit, x_depthLimit, x_pendingCount, x_keptTokens, x_keptLines, x_lineCount, x_codeCount, x_cursor, x_stop, x_waitingCount, x_openCount, x_classCount, x_callCount, x_operandCount, x_stepsTaken, x_error, x_raisedCode, x_printCount, x_lastResult, x_lastPlace, x_pending, x_lineTable, x_code, x_waiting, x_globals, x_entries, x_orders, x_merging, x_letterClass, x_objectClass, x_attributes, x_calls, x_held, x_operands, x_lastPrints⟩ := u1
    exact r)
  obtain ⟨x_objectLimit, x_stepLimit, x_depthLimit, x_pendingCount, x_keptTokens, x_keptLines, x_lineCount, x_codeCount, x_cursor, x_stop, x_waitingCount, x_openCount, x_classCount, x_callCount, x_operandCount, x_stepsTaken, x_error, x_raisedCode, x_printCount, x_lastResult, x_lastPlace, x_pending, x_lineTable, x_code, x_waiting, x_globals, x_entries, x_orders, x_merging, x_letterClass, x_objectClass, x_attributes, x_calls, x_held, x_operands, x_lastPrints⟩ := u'
  exact fx
theorem hs_exec {u : SX} {V : SY → Prop} {N : Nat} (g : hs_Go (hs_F tx nu LT cd lc P h (nI kp) (nI (kp + pn)) (nI kt) (nI pn) (nI kl) mo mS mD (nI pn) (nI kt) (nI kl) (nI cc) x_cursor x_stop x_waitingCount x_openCount x_lastResult pd x_waiting) N M u V) (hN : N ≤ 999999) (hM : M ≤ 99999) (T : hs_T tx nu LT cd lc kp cc P ind h tk ca cb us ue) (hPD : hs_PD tx pd kp pn) (hkp : 1 ≤ kp ∧ tx (kp - 1) = -1) (hm : 2 ≤ mo ∧ mo ≤ 8 ∧ mS ≤ 200 ∧ mD ≤ 6) (hb : kt + pn ≤ 400 ∧ kl ≤ kt + k ∧ lc ≤ 5 + kt ∧ cc ≤ 43 + kt ∧ kp ≤ 44 + 2 * kt) {post : Int32 → SX → Prop}
    (H : ∀ er u1, (∃ m : Nat, ∀ v, V v → hs_lY (fun w => match w with | (y_maxObjectsq, y_maxStepsq, y_maxDepthq, y_keptq, y_endq, y_tokensq, y_pendingq, y_linesq, y_classesq, y_printsq, y_placeq, y_stepsq, y_dq, y_valTopq, y_opTopq, y_opensq, y_posq, y_tkq, y_tvq, y_stmtq, y_targetq, y_errq, y_codeq, y_outcomeq, y_resultq, y_dryq, y_wantq, y_startingq, y_endedq, y_badq, y_hostedq, y_sawSuperq, y_textq, y_numbersq, y_globalsq, y_entriesq, y_attrsq, y_classOfq, y_aliveq, y_ordersq, y_lengthsq, y_lettersq, y_basesq, y_valsq, y_opsq, y_localsq, y_fRecvq, y_fLineq, y_fPosq, y_fStmtq, y_fTargetq, y_fMaskq, y_fHomeq, y_fOpsq, y_fValsq, y_fNewq, y_outq) => (y_outcomeq = er ∧ i_Rel k u1 (y_maxObjectsq, y_maxStepsq, y_maxDepthq, y_keptq, y_endq, y_tokensq, y_pendingq, y_linesq, y_classesq, y_printsq, y_placeq, y_stepsq, y_dq, y_valTopq, y_opTopq, y_opensq, y_posq, y_tkq, y_tvq, y_stmtq, y_targetq, y_errq, y_codeq, y_outcomeq, y_resultq, y_dryq, y_wantq, y_startingq, y_endedq, y_badq, y_hostedq, y_sawSuperq, y_textq, y_numbersq, y_globalsq, y_entriesq, y_attrsq, y_classOfq, y_aliveq, y_ordersq, y_lengthsq, y_lettersq, y_basesq, y_valsq, y_opsq, y_localsq, y_fRecvq, y_fLineq, y_fPosq, y_fStmtq, y_fTargetq, y_fMaskq, y_fHomeq, y_fOpsq, y_fValsq, y_fNewq, y_outq))) m (nI 0) v) → post er u1) :
    wpX_execute (fun u => match u with | (x_objectLimitq, x_stepLimitq, x_depthLimitq, x_pendingCountq, x_keptTokensq, x_keptLinesq, x_lineCountq, x_codeCountq, x_cursorq, x_stopq, x_waitingCountq, x_openCountq, x_classCountq, x_callCountq, x_operandCountq, x_stepsTakenq, x_errorq, x_raisedCodeq, x_printCountq, x_lastResultq, x_lastPlaceq, x_pendingq, x_lineTableq, x_codeq, x_waitingq, x_globalsq, x_entriesq, x_ordersq, x_mergingq, x_letterClassq, x_objectClassq, x_attributesq, x_callsq, x_heldq, x_operandsq, x_lastPrintsq) => wpX_finish (fun r u => match u with | (x_objectLimitw, x_stepLimitw, x_depthLimitw, x_pendingCountw, x_keptTokensw, x_keptLinesw, x_lineCountw, x_codeCountw, x_cursorw, x_stopw, x_waitingCountw, x_openCountw, x_classCountw, x_callCountw, x_operandCountw, x_stepsTakenw, x_errorw, x_raisedCodew, x_printCountw, x_lastResultw, x_lastPlacew, x_pendingw, x_lineTablew, x_codew, x_waitingw, x_globalsw, x_entriesw, x_ordersw, x_mergingw, x_letterClassw, x_objectClassw, x_attributesw, x_callsw, x_heldw, x_operandsw, x_lastPrintsw) => post r (x_objectLimitw, x_stepLimitw, x_depthLimitw, x_pendingCountw, x_keptTokensw, x_keptLinesw, x_lineCountw, x_codeCountw, x_cursorw, x_stopw, x_waitingCountw, x_openCountw, x_classCountw, x_callCountw, x_operandCountw, x_stepsTakenw, x_errorw, x_raisedCodew, x_printCountw, x_lastResultw, x_lastPlacew, x_pendingw, x_lineTablew, x_codew, x_waitingw, x_globalsw, x_entriesw, x_ordersw, x_mergingw, x_letterClassw, x_objectClassw, x_attributesw, x_callsw, x_heldw, x_operandsw, x_lastPrintsw)) (x_objectLimitq, x_stepLimitq, x_depthLimitq, x_pendingCountq, x_keptTokensq, x_keptLinesq, x_lineCountq, x_codeCountq, x_cursorq, x_stopq, x_waitingCountq, x_openCountq, x_classCountq, x_callCountq, x_operandCountq, x_stepsTakenq, x_errorq, x_raisedCodeq, x_printCountq, x_lastResultq, x_lastPlaceq, x_pendingq, x_lineTableq, x_codeq, x_waitingq, x_globalsq, x_entriesq, x_ordersq, x_mergingq, x_letterClassq, x_objectClassq, x_attributesq, x_callsq, x_heldq, x_operandsq, x_lastPrintsq)) u := by
  obtain ⟨n2, e⟩ := hs_exec0 g hN hM T hPD hkp hm hb H
  obtain ⟨x_objectLimit, x_stepLimit, x_depthLimit, x_pendingCount, x_keptTokens, x_keptLines, x_lineCount, x_codeCount, x_cursor, x_stop, x_waitingCount, x_openCount, x_classCount, x_callCount, x_operandCount, x_stepsTaken, x_error, x_raisedCode, x_printCount, x_lastResult, x_lastPlace, x_pending, x_lineTable, x_code, x_waiting, x_globals, x_entries, x_orders, x_merging, x_letterClass, x_objectClass, x_attributes, x_calls, x_held, x_operands, x_lastPrints⟩ := u
  exact ⟨n2, e⟩
theorem hs_goV {post : SY → Prop} {m : Nat} (h : hs_lY post m (nI 0) (y_maxObjects, y_maxSteps, y_maxDepth, y_kept, y_end, y_tokens, y_pending, y_lines, y_classes, y_prints, 0, 0, y_d, y_valTop, y_opTop, y_opens, y_pos, y_tk, y_tv, y_stmt, y_target, 0, y_code, 0, 0, y_dry, y_want, y_starting, 0, y_bad, y_hosted, y_sawSuper, y_text, y_numbers, y_globals, y_entries, y_attrs, y_classOf, y_alive, y_orders, y_lengths, y_letters, y_bases, y_vals, y_ops, y_locals, y_fRecv, y_fLine, y_fPos, y_fStmt, y_fTarget, y_fMask, y_fHome, y_fOps, y_fVals, y_fNew, y_out)) : wpY_go post (y_maxObjects, y_maxSteps, y_maxDepth, y_kept, y_end, y_tokens, y_pending, y_lines, y_classes, y_prints, y_place, y_steps, y_d, y_valTop, y_opTop, y_opens, y_pos, y_tk, y_tv, y_stmt, y_target, y_err, y_code, y_outcome, y_result, y_dry, y_want, y_starting, y_ended, y_bad, y_hosted, y_sawSuper, y_text, y_numbers, y_globals, y_entries, y_attrs, y_classOf, y_alive, y_orders, y_lengths, y_letters, y_bases, y_vals, y_ops, y_locals, y_fRecv, y_fLine, y_fPos, y_fStmt, y_fTarget, y_fMask, y_fHome, y_fOps, y_fVals, y_fNew, y_out) := ⟨m, h⟩
theorem i_vc_run {k : Nat} {u : SX} {v : SY} (I : i_Rel k u v) (hk : k + 5 ≤ 2563) : wpX_run (fun r u' => wpY_run (fun r' v' => r' = r ∧ i_Rel (k + 5) u' v') v) u := by
  suffices hh : ∀ Q : Int32 → SX → Prop, (∀ r u', wpY_run (fun r' v' => r' = r ∧ i_Rel (k + 5) u' v') v → Q r u') → wpX_run Q u from hh _ (fun _ _ h => h)
  intro Q hQ
  obtain ⟨tx, nu, LT, pd, cd, lc, kp, cc, P, ind, h, tk, ca, cb, us, ue, cn, ml, gl, ex, at1, HE, ox, oc, lt, lp, mo, mS, mD, kt, kl, pn, pc, rc, pl, er, rv, ⟨T, W, MC, H0, PD, ⟨kp1, kp2⟩, rv0, ⟨m1, m2, m3, m4⟩, ⟨c1, c2, c3, c4, c5⟩⟩, hx, hy⟩ := I
  obtain ⟨x_objectLimit, x_stepLimit, x_depthLimit, x_pendingCount, x_keptTokens, x_keptLines, x_lineCount, x_codeCount, x_cursor, x_stop, x_waitingCount, x_openCount, x_classCount, x_callCount, x_operandCount, x_stepsTaken, x_error, x_raisedCode, x_printCount, x_lastResult, x_lastPlace, x_pending, x_lineTable, x_code, x_waiting, x_globals, x_entries, x_orders, x_merging, x_letterClass, x_objectClass, x_attributes, x_calls, x_held, x_operands, x_lastPrints⟩ := u
  obtain ⟨y_maxObjects, y_maxSteps, y_maxDepth, y_kept, y_end, y_tokens, y_pending, y_lines, y_classes, y_prints, y_place, y_steps, y_d, y_valTop, y_opTop, y_opens, y_pos, y_tk, y_tv, y_stmt, y_target, y_err, y_code, y_outcome, y_result, y_dry, y_want, y_starting, y_ended, y_bad, y_hosted, y_sawSuper, y_text, y_numbers, y_globals, y_entries, y_attrs, y_classOf, y_alive, y_orders, y_lengths, y_letters, y_bases, y_vals, y_ops, y_locals, y_fRecv, y_fLine, y_fPos, y_fStmt, y_fTarget, y_fMask, y_fHome, y_fOps, y_fVals, y_fNew, y_out⟩ := v
  obtain ⟨b1, b2, b3, b4, b5, b6, b7, b8, b9, b10, b11, b12, b13, b14, b15, b16, b17, b18, b19, b20, b21, b22, b23, b24, b25, b26⟩ := hx
  obtain ⟨⟨a1, a2, a3, a4, a5, a6, a7, a8, a9, a10, a11, a12, a13, a14, a15, a16, a17, a18, a19, anu, a21, a22, a23, a24, a25⟩, E, O, l0, f0, f1, f2⟩ := hy
  (have b1 := b1.symm; have b2 := b2.symm; have b3 := b3.symm; have b4 := b4.symm; have b5 := b5.symm; have b6 := b6.symm; have b7 := b7.symm; have b8 := b8.symm; have b9 := b9.symm; have b10 := b10.symm; have b11 := b11.symm; have b12 := b12.symm; have b13 := b13.symm; have b14 := b14.symm; have b15 := b15.symm; have b16 := b16.symm; have b17 := b17.symm; have b18 := b18.symm; have b19 := b19.symm; have b20 := b20.symm; have b21 := b21.symm; have b22 := b22.symm; have b23 := b23.symm; have b24 := b24.symm; have b25 := b25.symm; have b26 := b26.symm; subst b1 b2 b3 b4 b5 b6 b7 b8 b9 b10 b11 b12 b13 b14 b15 b16 b17 b18 b19 b20 b21 b22 b23 b24 b25 b26)
  (have a1 := a1.symm; have a2 := a2.symm; have a3 := a3.symm; have a4 := a4.symm; have a5 := a5.symm; have a6 := a6.symm; have a7 := a7.symm; have a8 := a8.symm; have a9 := a9.symm; have a10 := a10.symm; have a11 := a11.symm; have a12 := a12.symm; have a13 := a13.symm; have a14 := a14.symm; have a15 := a15.symm; have a16 := a16.symm; have a17 := a17.symm; have a18 := a18.symm; have a19 := a19.symm; have a21 := a21.symm; have a22 := a22.symm; have a23 := a23.symm; have a24 := a24.symm; have a25 := a25.symm; subst a1 a2 a3 a4 a5 a6 a7 a8 a9 a10 a11 a12 a13 a14 a15 a16 a17 a18 a19 a21 a22 a23 a24 a25)
  have hend : upd tx (kp + pn) (-1) (kp + pn) = -1 := pk_us
  have htx : ∀ q, q < kp → upd tx (kp + pn) (-1) q = tx q := fun q hq => pk_un (by omega)
  have PD1 : hs_PD (upd tx (kp + pn) (-1)) pd kp pn := fun p hp => ⟨(PD p hp).1, by rw [pk_un (by omega)]; exact (PD p hp).2⟩
  have kp3 : upd tx (kp + pn) (-1) (kp - 1) = -1 := by rw [pk_un (by omega)]; exact kp2
  have Plt : ∀ j, j < lc → P j < kp := by
    intro j hj
    obtain ⟨t1, t2, t3, t4, t5, t6, _⟩ := T.2.2.2 j hj
    have := (t6.2.2.2.1 j t1 t2).2.1
    omega
  refine hs_xKeepW PD1 hend (by omega) (Or.inr kp3) (by omega) (by omega) (by omega) (by omega) (fun b9 P9 ind9 h9 tk9 lb1 lb2 C K hl i i1 i2 nl al q1 q2 q3 q4 q5 LT' cd' eL ec => br_f ?_ ?_) (fun b9 P9 ind9 h9 tk9 lb1 lb2 C K hl al ne q1 q2 q3 q4 q5 LT' cd' eL ec => br_f ?_ ?_) (fun b9 P9 ind9 h9 tk9 lb1 lb2 C K hl al eo q1 q2 q3 q4 q5 LT' cd' cc9 g1 g2 eL ec LN => br_t rfl ?_)
  · have := hs_nEle (tx := upd tx (kp + pn) (-1)) (cs := kp) (P9 i)
    have := (hs_yPlt C i1 i2).1
    intro z
    have := (nI_eq (a := kl + (hs_nE (upd tx (kp + pn) (-1)) kp (P9 i) + 1)) (b := 0) (by omega) (by omega)).mp z
    omega
  · refine hQ _ _ (hs_yRun0 (by omega) (by omega) f2 C K lb1 hl (fun j j1 j2 n1 n2 nu' hn q1 q2 q3 q4 sm q6 q7 q8 ss q9 q10 => ?_) (fun n1 => absurd (n1 i i1 i2) nl) (fun n1 => absurd (n1 i i1 i2) nl))
    have ej : j = i := by
      rcases Nat.lt_trichotomy j i with z | z | z
      · exact absurd (al j j1 z) n1
      · exact z
      · exact absurd (n2 i i1 z) nl
    subst ej
    have anu : ∀ j, j < lc → nu' (P j) = nu (P j) := fun j hj => by rw [hn _ (Plt j hj)]; exact anu j hj
    exact ⟨rfl, upd tx (kp + pn) (-1), nu, LT', pd, cd', lc, kp, cc, P, ind, h, tk, ca, cb, us, ue, cn, ml, gl, ex, at1, HE, ox, oc, lt, lp, mo, mS, mD, kt, kl, 0, pc, rc, _, _, 0, ⟨hs_TLT (hs_Ttx T htx (fun q hq => rfl)) (Nat.le_refl _) (by omega) eL ec, W, MC, H0, fun p hp => by omega, ⟨kp1, kp3⟩, Or.inl rfl, ⟨m1, m2, m3, m4⟩, ⟨by omega, by omega, c3, c4, c5⟩⟩, ⟨rfl, rfl, rfl, rfl, rfl, rfl, rfl, rfl, rfl, rfl, rfl, rfl, rfl, hs_sh0.symm, rfl, rfl, rfl, rfl, rfl, rfl, rfl, rfl, rfl, rfl, rfl, rfl⟩, ⟨⟨rfl, rfl, rfl, rfl, rfl, rfl, rfl, rfl, rfl, rfl, rfl, rfl, rfl, rfl, rfl, rfl, rfl, rfl, rfl, anu, rfl, rfl, rfl, rfl, rfl⟩, E, O, l0, f0, f1, f2⟩⟩
  · have := hs_nEle (tx := upd tx (kp + pn) (-1)) (cs := kp) (kp + pn)
    intro z
    have := (nI_eq (a := kl + (hs_nE (upd tx (kp + pn) (-1)) kp (kp + pn) + 1) + 1) (b := 0) (by omega) (by omega)).mp z
    omega
  · refine hQ _ _ (hs_yRun0 (by omega) (by omega) f2 C K lb1 hl (fun j j1 j2 n1 => absurd (al j j1 j2) n1) (fun n1 n2 nu' hn q1 q2 q3 q4 sm q6 q7 q8 ss q9 q10 => ?_) (fun _ n2 => absurd n2 ne))
    have anu : ∀ j, j < lc → nu' (P j) = nu (P j) := fun j hj => by rw [hn _ (Plt j hj)]; exact anu j hj
    exact ⟨rfl, upd tx (kp + pn) (-1), nu, LT', pd, cd', lc, kp, cc, P, ind, h, tk, ca, cb, us, ue, cn, ml, gl, ex, at1, HE, ox, oc, lt, lp, mo, mS, mD, kt, kl, 0, pc, rc, _, _, 0, ⟨hs_TLT (hs_Ttx T htx (fun q hq => rfl)) (Nat.le_refl _) (by omega) eL ec, W, MC, H0, fun p hp => by omega, ⟨kp1, kp3⟩, Or.inl rfl, ⟨m1, m2, m3, m4⟩, ⟨by omega, by omega, c3, c4, c5⟩⟩, ⟨rfl, rfl, rfl, rfl, rfl, rfl, rfl, rfl, rfl, rfl, rfl, rfl, rfl, hs_sh0.symm, rfl, rfl, rfl, rfl, rfl, rfl, rfl, rfl, rfl, rfl, rfl, rfl⟩, ⟨⟨rfl, rfl, rfl, rfl, rfl, rfl, rfl, rfl, rfl, rfl, rfl, rfl, rfl, rfl, rfl, rfl, rfl, rfl, rfl, anu, rfl, rfl, rfl, rfl, rfl⟩, E, O, l0, f0, f1, f2⟩⟩
  · have nE2 := hs_nE2 (tx := upd tx (kp + pn) (-1)) (cs := kp) pn
    by_cases eb : b9 = lc
    · have g := hs_GoEnd (M := 1) (tx := upd tx (kp + pn) (-1)) (nu := nu) (LT := LT') (cd := cd') (lc := lc) (P := P) (h := h) (yk := nI kp) (yen := nI (kp + 0)) (yto := nI (kt + pn)) (ype := nI 0) (yli := nI (kl + (hs_nE (upd tx (kp + pn) (-1)) kp (kp + pn) + 1))) (mo := mo) (mS := mS) (mD := mD) (x_pendingCount := nI 0) (x_keptTokens := nI (kt + pn)) (x_keptLines := nI (kl + (hs_nE (upd tx (kp + pn) (-1)) kp (kp + pn) + 1))) (x_codeCount := nI cc9) (x_cursor := q1) (x_stop := q2) (x_waitingCount := q3) (x_openCount := q4) (x_lastResult := hs_sh oc rv) (x_pending := pd) (x_waiting := q5) (cn := cn) (ml := ml) (gl := gl) (ex := ex) (at1 := at1) (HE := HE) (op := x_operands) (ox := ox) (oc := oc) (lt := lt) (lp := lp) (CL := upd (upd (upd x_calls 0 (-1)) 4 0) 2 (-1)) (mg := x_merging) (pc := pc) (rc := rc) (s := 0) (fl := fun _ => 0) (dl := fun _ => 0) (vb := fun _ => 0) (ob := fun _ => 0) (ts := fun _ => []) (st := fun _ => []) (ho := false) W MC H0 pk_us rfl rfl (by omega)
      refine br_t (nI_le (by omega) (by omega)) ?_
      unfold wX_run_40
      refine nm_e (nm_e (nm_e (br_t rfl ?_)))
      subst eb
      refine hs_exec (k := k + 5) g (by omega) (by omega) (hs_TLT (hs_Ttx T htx (fun q hq => rfl)) g1 (by omega) eL ec) (fun p hp => by omega) ⟨kp1, kp3⟩ ⟨m1, m2, m3, m4⟩ ⟨by omega, by omega, by omega, by omega, by omega⟩ (fun er u1 hm => ?_)
      obtain ⟨m, hm⟩ := hm
      refine hQ _ _ (hs_yRun0 (by omega) (by omega) f2 C K lb1 hl (fun j j1 j2 n1 => absurd (al j j1 j2) n1) (fun _ n2 => absurd eo n2) (fun n1 n2 nu' hn hn2 q1 q2 q3 q4 sm q6 q7 q8 ss q9 q10 => ?_))
      rw [if_pos rfl]
      have anu : ∀ j, j < b9 → nu' (P j) = nu (P j) := fun j hj => by rw [hn _ (Plt j hj)]; exact anu j hj
      refine hs_goV (hm _ ⟨⟨rfl, rfl, rfl, rfl, rfl, rfl, rfl, rfl, rfl, rfl, rfl, rfl, rfl, rfl, rfl, rfl, rfl, rfl, rfl, rfl, rfl, rfl, anu, rfl, rfl, rfl, rfl, rfl⟩, E, O, fun j hj => by omega, l0, fun k hk => ?_, fun k hk => by omega, rfl, ?_⟩)
      · have : k = 0 := by omega
        subst this
        exact ⟨f1, f2, fun _ => f0, fun z => by omega⟩
      · rw [pk_us]; exact if_neg (Nat.lt_irrefl _)
    · have hlt : lc < b9 := by omega
      obtain ⟨nuG, hnu⟩ : ∃ nuG : Nat → Int32, nuG = fun p => if p < kp then nu p else nI (kl + (hs_nE (upd tx (kp + pn) (-1)) kp p + 1)) := ⟨_, rfl⟩
      have nuO : ∀ q, q < kp → nuG q = nu q := fun q hq => by rw [hnu]; exact if_pos hq
      have nuN : ∀ q, kp ≤ q → nuG q = nI (kl + (hs_nE (upd tx (kp + pn) (-1)) kp q + 1)) := fun q hq => by rw [hnu]; exact if_neg (by omega)
      have T1 : hs_T (upd tx (kp + pn) (-1)) nuG LT cd lc kp cc P ind h tk ca cb us ue := hs_Ttx T htx nuO
      have T' := hs_Tnew (cs := kp) (ce := kp + pn) (kp' := kp + pn + 1) (LT' := LT') (cd' := cd') T1 lb1 (by omega) g1 (by omega) (by omega) (by omega) rfl (by omega) C K al eo eL ec (fun j j1 j2 => ⟨(LN j j1 j2).1, by rw [nuN _ (hs_yPlt C j1 j2).2.1]; exact (LN j j1 j2).2.symm⟩)
      obtain ⟨P', hP'⟩ : ∃ P' : Nat → Nat, P' = fun j => if j < lc then P j else P9 j := ⟨_, rfl⟩
      obtain ⟨ind', hi'⟩ : ∃ ind' : Nat → Nat, ind' = fun j => if j < lc then ind j else ind9 j := ⟨_, rfl⟩
      obtain ⟨h', hh'⟩ : ∃ h' : Nat → Nat, h' = fun j => if j < lc then h j else h9 j := ⟨_, rfl⟩
      obtain ⟨tk', ht'⟩ : ∃ tk' : Nat → List Nat, tk' = fun j => if j < lc then tk j else tk9 j := ⟨_, rfl⟩
      obtain ⟨ca', hca'⟩ : ∃ ca' : Nat → Nat, ca' = fun j => if j < lc then ca j else lc := ⟨_, rfl⟩
      obtain ⟨cb', hcb'⟩ : ∃ cb' : Nat → Nat, cb' = fun j => if j < lc then cb j else b9 := ⟨_, rfl⟩
      obtain ⟨us', hus'⟩ : ∃ us' : Nat → Nat, us' = fun j => if j < lc then us j else kp := ⟨_, rfl⟩
      obtain ⟨ue', hue'⟩ : ∃ ue' : Nat → Nat, ue' = fun j => if j < lc then ue j else kp + pn := ⟨_, rfl⟩
      rw [← hP', ← hi', ← hh', ← ht', ← hca', ← hcb', ← hus', ← hue'] at T'
      have eP : ∀ l, l < lc → P' l = P l ∧ h' l = h l := fun l hl' => by rw [hP', hh']; exact ⟨if_pos hl', if_pos hl'⟩
      have ePn : ∀ l, ¬ l < lc → P' l = P9 l := fun l hl' => by rw [hP']; exact if_neg hl'
      have eca : ca' lc = lc := by rw [hca']; exact if_neg (Nat.lt_irrefl _)
      have ecb : cb' lc = b9 := by rw [hcb']; exact if_neg (Nat.lt_irrefl _)
      have W' : hs_WX P' h' b9 cn ml gl ex at1 ox oc lt := hs_WXP lb1 eP W
      have K' := hs_Tck T' hlt
      rw [eca, ecb] at K'
      have ir := hs_ckI K' (i := lc) (Nat.le_refl _) hlt
      have pa0 : hs_pa ind' lc lc = none := if_pos (ir.1 rfl)
      have nlw : ∀ w, ¬ hs_lvW h' ind' lc lc w := by
        rintro w ⟨u, e1, _⟩
        rw [hs_lfA] at e1; cases e1
      have I0 : hs_XI (upd tx (kp + pn) (-1)) nuG LT' cd' b9 (kp + pn + 1) cc9 P' ind' h' tk' ca' cb' us' ue' mo mS mD 0 0 0 cn ml gl ex at1 ox oc lt HE (upd (upd (upd x_calls 0 (-1)) 4 0) 2 (-1)) x_operands (fun _ => 0) (fun _ => 0) (fun _ => 0) (fun _ => 0) (fun _ => []) (fun _ => []) false := by
        refine ⟨T', ⟨m1, m2, m4, by omega, m3, by omega⟩, W', MC, fun j hj => by omega, H0, fun k hk => ?_, fun k hk => by omega, fun k hk => by omega, fun z => (by cases z), rfl, rfl⟩
        have : k = 0 := by omega
        subst this
        refine ⟨?_, Nat.zero_le _, Nat.zero_le _, fun _ => ?_, fun z => by omega⟩
        · show upd (upd (upd x_calls 0 (-1)) 4 0) 2 (-1) 4 = nI 0
          rw [pk_un (by decide), pk_us]; rfl
        · rw [pk_un (by decide), pk_un (by decide), pk_us]
      have lc0 : hs_lc h' ind' ca' cb' b9 cn false lc 0 0 := by
        refine ⟨hlt, fun _ _ => ⟨ecb, ?_, ?_⟩, fun z => by omega⟩
        · rw [eca]; exact hs_D0 pa0
        · rw [eca, hs_in0 pa0]; intro z; cases z
      have g := hs_goR (M := 250 * mS + 2) (mg := x_merging) (pc := pc) (rc := rc) (lp := lp) (l := lc) (yk := nI (kp + pn + 1)) (yen := nI (kp + pn + 1 + 0)) (yto := nI (kt + pn)) (ype := nI 0) (yli := nI (kl + (hs_nE (upd tx (kp + pn) (-1)) kp (kp + pn) + 1))) (x_pendingCount := nI 0) (x_keptTokens := nI (kt + pn)) (x_keptLines := nI (kl + (hs_nE (upd tx (kp + pn) (-1)) kp (kp + pn) + 1))) (x_codeCount := nI cc9) (x_cursor := q1) (x_stop := q2) (x_waitingCount := q3) (x_openCount := q4) (x_lastResult := hs_sh oc rv) (x_pending := pd) (x_waiting := q5) (hs_Main (250 * mS + 2)).1 I0 rfl (by rintro ⟨z, _⟩; cases z) lc0 (fun z => nlw 4 (ir.2.2.2.1 z)) (fun z => nlw 7 (ir.2.2.2.2 z)) (by show 250 * (mS - 0) + 0 + 2 ≤ 250 * mS + 2; omega)
      refine br_f (nI_ge hlt (by omega)) ?_
      unfold wX_run_40
      refine nm_e (nm_e (nm_e (br_f (hs_neM1 (by omega)) (hs_xReach (d := 0) (s := 0) (by omega) (by omega) (by omega) m3 ?_))))
      refine hs_exec (k := k + 5) g (by omega) (by omega) T' (fun p hp => by omega) ⟨by omega, pk_us⟩ ⟨m1, m2, m3, m4⟩ ⟨by omega, by omega, by omega, by omega, by omega⟩ (fun er u1 hm => ?_)
      obtain ⟨m, hm⟩ := hm
      refine hQ _ _ (hs_yRun0 (by omega) (by omega) f2 C K lb1 hl (fun j j1 j2 n1 => absurd (al j j1 j2) n1) (fun _ n2 => absurd eo n2) (fun n1 n2 nu' hn hn2 q1 q2 q3 q4 sm q6 q7 q8 ss q9 q10 => ?_))
      rw [if_neg eb]
      have anu : ∀ j, j < b9 → nu' (P' j) = nuG (P' j) := by
        intro j hj
        by_cases z : j < lc
        · have pj := Plt j z
          rw [(eP j z).1, nuO _ pj, hn _ pj]; exact anu j z
        · rw [ePn j z, nuN _ (hs_yPlt C (by omega) hj).2.1]; exact hn2 j (by omega) hj
      refine hs_goV (hm _ ⟨⟨rfl, rfl, rfl, rfl, rfl, rfl, rfl, rfl, rfl, rfl, rfl, rfl, rfl, rfl, rfl, rfl, rfl, rfl, rfl, rfl, rfl, rfl, anu, rfl, rfl, rfl, rfl, rfl⟩, hs_EEP lb1 eP E, O, fun j hj => by omega, l0, fun k hk => ?_, fun k hk => by omega, rfl, ?_, rfl⟩)
      · have : k = 0 := by omega
        subst this
        exact ⟨f1, f2, fun _ => f0, fun z => by omega⟩
      · rw [pk_us, hs_put1S, ePn lc (Nat.lt_irrefl _)]; exact if_pos hlt
end
