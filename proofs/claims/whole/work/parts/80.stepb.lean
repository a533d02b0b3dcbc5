/-! an field is set; one turn of an expression on both sides -/
section
variable {x_objectLimit x_stepLimit x_depthLimit x_pendingCount x_keptTokens x_keptLines x_lineCount x_codeCount x_cursor x_stop x_waitingCount x_openCount x_classCount x_callCount x_operandCount x_stepsTaken x_error x_raisedCode x_printCount x_lastPlace : Int32} {x_lastResult : Int64} {x_pending x_lineTable x_orders x_merging x_letterClass x_objectClass x_calls x_lastPrints : Nat → Int32} {x_code x_waiting x_globals x_entries x_attributes x_held x_operands : Nat → Int64}
variable {y_maxObjects y_maxSteps y_maxDepth y_kept y_end y_tokens y_pending y_lines y_classes y_prints y_place y_steps y_d y_valTop y_opTop y_opens y_pos y_tk y_tv y_stmt y_target y_err y_code y_outcome y_dry y_want y_starting y_ended y_bad y_hosted y_sawSuper : Int32} {y_result : Int64} {y_text y_numbers y_classOf y_alive y_orders y_lengths y_letters y_bases y_ops y_fLine y_fPos y_fStmt y_fTarget y_fMask y_fHome y_fOps y_fVals y_fNew y_out : Nat → Int32} {y_globals y_entries y_attrs y_vals y_locals y_fRecv : Nat → Int64}
variable {tx nu LT : Nat → Int32} {cd : Nat → Int64} {lc kp cc : Nat} {P ind h : Nat → Nat} {tk : Nat → List Nat} {ca cb us ue : Nat → Nat} {yk yen yto ype yli : Int32} {mo mS mD : Nat} {ho : Bool}
variable {s d vt cn : Nat} {ml : Nat → List Nat} {gl ex at1 HE op : Nat → Int64} {ox oc lt lp CL mg : Nat → Int32} {pc rc : Int32} {fl dl vb ob : Nat → Nat} {ts st : Nat → List Nat} {M : Nat}
theorem hs_naLe {a1 : Nat → Int64} {r : Nat} : ∀ (n i : Nat), hs_na a1 r n i ≤ n
  | 0, _ => Nat.le_refl _
  | n + 1, i => by
    have := hs_naLe (a1 := a1) (r := r) n (i + 1)
    show (if a1 (r + i) = 0 then 0 else 1) + hs_na a1 r n (i + 1) ≤ n + 1
    split <;> omega
theorem hs_xSA {b f : Nat} {v : Int64} (hb : b < 8) (hf : f < 26) {post : SX → Prop} (H1 : (at1 (b * 26 + f) ≠ 0 ∨ hs_na at1 (b * 26) 26 0 < 4) → post (x_objectLimit, x_stepLimit, x_depthLimit, x_pendingCount, x_keptTokens, x_keptLines, x_lineCount, x_codeCount, x_cursor, x_stop, x_waitingCount, x_openCount, x_classCount, x_callCount, x_operandCount, x_stepsTaken, x_error, x_raisedCode, x_printCount, x_lastResult, x_lastPlace, x_pending, x_lineTable, x_code, x_waiting, x_globals, x_entries, x_orders, x_merging, x_letterClass, x_objectClass, vp_updL at1 (b * 26 + f) v, x_calls, x_held, x_operands, x_lastPrints)) (H0 : ¬ hs_na at1 (b * 26) 26 0 < 4 → at1 (b * 26 + f) = 0 → post (x_objectLimit, x_stepLimit, x_depthLimit, x_pendingCount, x_keptTokens, x_keptLines, x_lineCount, x_codeCount, x_cursor, x_stop, x_waitingCount, x_openCount, x_classCount, x_callCount, x_operandCount, x_stepsTaken, 7, x_raisedCode, x_printCount, x_lastResult, x_lastPlace, x_pending, x_lineTable, x_code, x_waiting, x_globals, x_entries, x_orders, x_merging, x_letterClass, x_objectClass, at1, x_calls, x_held, x_operands, x_lastPrints)) :
    ∀ (k i cnt : Nat), i + k = 26 → cnt + hs_na at1 (b * 26) k i = hs_na at1 (b * 26) 26 0 → wX_setAttribute_29 post (nI f) v (nI (b * 26)) x_objectLimit x_stepLimit x_depthLimit x_pendingCount x_keptTokens x_keptLines x_lineCount x_codeCount x_cursor x_stop x_waitingCount x_openCount x_classCount x_callCount x_operandCount x_stepsTaken x_error x_raisedCode x_printCount x_lastResult x_lastPlace x_pending x_lineTable x_code x_waiting x_globals x_entries x_orders x_merging x_letterClass x_objectClass at1 x_calls x_held x_operands x_lastPrints (k + 1) (nI cnt) (nI i) := by
  have le := hs_naLe (a1 := at1) (r := b * 26) 26 0
  have ef : nI (b * 26) + nI f = nI (b * 26 + f) := nI_add _ _
  have w94 : (at1 (b * 26 + f) ≠ 0 ∨ hs_na at1 (b * 26) 26 0 < 4) → wX_setAttribute_94 post (nI f) v (nI (b * 26)) x_objectLimit x_stepLimit x_depthLimit x_pendingCount x_keptTokens x_keptLines x_lineCount x_codeCount x_cursor x_stop x_waitingCount x_openCount x_classCount x_callCount x_operandCount x_stepsTaken x_error x_raisedCode x_printCount x_lastResult x_lastPlace x_pending x_lineTable x_code x_waiting x_globals x_entries x_orders x_merging x_letterClass x_objectClass at1 x_calls x_held x_operands x_lastPrints := by
    intro z
    unfold wX_setAttribute_94
    rw [ef, nI_clamp (show b * 26 + f < 2 ^ 31 by omega)]
    exact And.intro (vp_in_nI (by omega) (by decide)) (nm_e (H1 z))
  intro k
  induction k with
  | zero =>
    intro i cnt hi hc
    have e0 : hs_na at1 (b * 26) 0 i = 0 := rfl
    refine br_t (nI_le (a := 26) (by omega) (by omega)) (pk_lt cnt 4 (fun z => w94 (Or.inr (by omega))) (fun z => ?_))
    rw [ef, nI_clamp (show b * 26 + f < 2 ^ 31 by omega)]
    exact And.intro (vp_in_nI (by omega) (by decide)) (br_c (fun y => H0 (by omega) y) (fun y => w94 (Or.inl y)))
  | succ k ih =>
    intro i cnt hi hc
    have ei : nI (b * 26) + nI i = nI (b * 26 + i) := nI_add _ _
    have es : hs_na at1 (b * 26) (k + 1) i = (if at1 (b * 26 + i) = 0 then 0 else 1) + hs_na at1 (b * 26) k (i + 1) := rfl
    rw [es] at hc
    refine br_f (nI_ge (b := 26) (by omega) (by decide)) ?_
    rw [ei, nI_clamp (show b * 26 + i < 2 ^ 31 by omega)]
    refine And.intro (vp_in_nI (by omega) (by decide)) (br_c (fun y => ?_) (fun y => ?_))
    · rw [if_pos y] at hc
      exact nm_r (Int32.add_zero _) (nm_r (nI_1 i) (ih (i + 1) cnt (by omega) (by omega)))
    · rw [if_neg y] at hc
      exact nm_r (nI_1 cnt) (nm_r (nI_1 i) (ih (i + 1) (cnt + 1) (by omega) (by omega)))
theorem hs_ySA {b f : Nat} {v : Int64} (hb : b < 8) (hf : f < 26) (hle : hs_na at1 (b * 26) 26 0 ≤ 4) {post : SY → Prop} (H1 : (at1 (b * 26 + f) ≠ 0 ∨ hs_na at1 (b * 26) 26 0 < 4) → post (y_maxObjects, y_maxSteps, y_maxDepth, y_kept, y_end, y_tokens, y_pending, y_lines, y_classes, y_prints, y_place, y_steps, y_d, y_valTop, y_opTop, y_opens, y_pos, y_tk, y_tv, y_stmt, y_target, y_err, y_code, y_outcome, y_result, y_dry, y_want, y_starting, y_ended, y_bad, y_hosted, y_sawSuper, y_text, y_numbers, y_globals, y_entries, vp_updL at1 (b * 26 + f) v, y_classOf, y_alive, y_orders, y_lengths, y_letters, y_bases, y_vals, y_ops, y_locals, y_fRecv, y_fLine, y_fPos, y_fStmt, y_fTarget, y_fMask, y_fHome, y_fOps, y_fVals, y_fNew, y_out)) (H0 : ¬ hs_na at1 (b * 26) 26 0 < 4 → at1 (b * 26 + f) = 0 → post (y_maxObjects, y_maxSteps, y_maxDepth, y_kept, y_end, y_tokens, y_pending, y_lines, y_classes, y_prints, y_place, y_steps, y_d, y_valTop, y_opTop, y_opens, y_pos, y_tk, y_tv, y_stmt, y_target, 7, y_code, y_outcome, y_result, y_dry, y_want, y_starting, y_ended, y_bad, y_hosted, y_sawSuper, y_text, y_numbers, y_globals, y_entries, at1, y_classOf, y_alive, y_orders, y_lengths, y_letters, y_bases, y_vals, y_ops, y_locals, y_fRecv, y_fLine, y_fPos, y_fStmt, y_fTarget, y_fMask, y_fHome, y_fOps, y_fVals, y_fNew, y_out)) :
    ∀ (k i cnt : Nat), i + k = 26 → cnt + hs_na at1 (b * 26) k i = hs_na at1 (b * 26) 26 0 → wY_setAttribute_50 post (nI f) v (nI (b * 26)) y_maxObjects y_maxSteps y_maxDepth y_kept y_end y_tokens y_pending y_lines y_classes y_prints y_place y_steps y_d y_valTop y_opTop y_opens y_pos y_tk y_tv y_stmt y_target y_err y_code y_outcome y_result y_dry y_want y_starting y_ended y_bad y_hosted y_sawSuper y_text y_numbers y_globals y_entries at1 y_classOf y_alive y_orders y_lengths y_letters y_bases y_vals y_ops y_locals y_fRecv y_fLine y_fPos y_fStmt y_fTarget y_fMask y_fHome y_fOps y_fVals y_fNew y_out (k + 1) (nI cnt) (nI i) := by
  have ef : nI (b * 26) + nI f = nI (b * 26 + f) := nI_add _ _
  have w94 : (at1 (b * 26 + f) ≠ 0 ∨ hs_na at1 (b * 26) 26 0 < 4) → wY_setAttribute_110 post (nI f) v (nI (b * 26)) y_maxObjects y_maxSteps y_maxDepth y_kept y_end y_tokens y_pending y_lines y_classes y_prints y_place y_steps y_d y_valTop y_opTop y_opens y_pos y_tk y_tv y_stmt y_target y_err y_code y_outcome y_result y_dry y_want y_starting y_ended y_bad y_hosted y_sawSuper y_text y_numbers y_globals y_entries at1 y_classOf y_alive y_orders y_lengths y_letters y_bases y_vals y_ops y_locals y_fRecv y_fLine y_fPos y_fStmt y_fTarget y_fMask y_fHome y_fOps y_fVals y_fNew y_out := by
    intro z
    unfold wY_setAttribute_110
    rw [ef, nI_clamp (show b * 26 + f < 2 ^ 31 by omega)]
    exact And.intro (vp_in_nI (by omega) (by decide)) (nm_e (H1 z))
  intro k
  induction k with
  | zero =>
    intro i cnt hi hc
    have e0 : hs_na at1 (b * 26) 0 i = 0 := rfl
    refine br_t (nI_le (a := 26) (by omega) (by omega)) (pk_eq cnt 4 (fun z => ?_) (fun z => w94 (Or.inr (by omega))))
    rw [ef, nI_clamp (show b * 26 + f < 2 ^ 31 by omega)]
    exact And.intro (vp_in_nI (by omega) (by decide)) (br_c (fun y => H0 (by omega) y) (fun y => w94 (Or.inl y)))
  | succ k ih =>
    intro i cnt hi hc
    have ei : nI (b * 26) + nI i = nI (b * 26 + i) := nI_add _ _
    have es : hs_na at1 (b * 26) (k + 1) i = (if at1 (b * 26 + i) = 0 then 0 else 1) + hs_na at1 (b * 26) k (i + 1) := rfl
    rw [es] at hc
    refine br_f (nI_ge (b := 26) (by omega) (by decide)) ?_
    rw [ei, nI_clamp (show b * 26 + i < 2 ^ 31 by omega)]
    refine And.intro (vp_in_nI (by omega) (by decide)) (br_c (fun y => ?_) (fun y => ?_))
    · rw [if_pos y] at hc
      exact nm_r (nI_1 i) (ih (i + 1) cnt (by omega) (by omega))
    · rw [if_neg y] at hc
      exact nm_r (nI_1 cnt) (nm_r (nI_1 i) (ih (i + 1) (cnt + 1) (by omega) (by omega)))
/-- the reference reaches the setting of an field -/
theorem hs_y16 {f : Nat} {v x3 : Int64} {x4 : Int32} {va : Nat → Int64} {post : SY → Prop} {fOp ops : Nat → Int32} {x1 : Int32} (d6 : d ≤ 6) (hf : f < 26) (h2 : 2 ≤ vt) (hvt : vt ≤ 320) (hob : ob d < 319) (c2 : fOp d = nI (ob d)) (w6 : hs_SA ops (ob d) (ob d + 1) [5 + 64 * f]) (hva : va (vt - 2) = v) (hle : ∀ b, b < 8 → hs_na at1 (b * 26) 26 0 ≤ 4) (hv : hs_vv v)
    (He : hs_no v → post (y_maxObjects, y_maxSteps, y_maxDepth, y_kept, y_end, y_tokens, y_pending, y_lines, y_classes, y_prints, y_place, y_steps, nI d, nI (vt - 2), nI (ob d), y_opens, y_pos, y_tk, y_tv, 50, y_target, 3, y_code, y_outcome, y_result, y_dry, y_want, y_starting, y_ended, y_bad, y_hosted, y_sawSuper, y_text, y_numbers, y_globals, y_entries, at1, y_classOf, y_alive, y_orders, y_lengths, y_letters, y_bases, va, ops, y_locals, y_fRecv, y_fLine, y_fPos, y_fStmt, y_fTarget, y_fMask, y_fHome, fOp, y_fVals, y_fNew, y_out))
    (Hu : ∀ b, hs_io v b → (at1 (b * 26 + f) ≠ 0 ∨ hs_na at1 (b * 26) 26 0 < 4) → wpY_after (fun u => match u with | (y_maxObjectsq, y_maxStepsq, y_maxDepthq, y_keptq, y_endq, y_tokensq, y_pendingq, y_linesq, y_classesq, y_printsq, y_placeq, y_stepsq, y_dq, y_valTopq, y_opTopq, y_opensq, y_posq, y_tkq, y_tvq, y_stmtq, y_targetq, y_errq, y_codeq, y_outcomeq, y_resultq, y_dryq, y_wantq, y_startingq, y_endedq, y_badq, y_hostedq, y_sawSuperq, y_textq, y_numbersq, y_globalsq, y_entriesq, y_attrsq, y_classOfq, y_aliveq, y_ordersq, y_lengthsq, y_lettersq, y_basesq, y_valsq, y_opsq, y_localsq, y_fRecvq, y_fLineq, y_fPosq, y_fStmtq, y_fTargetq, y_fMaskq, y_fHomeq, y_fOpsq, y_fValsq, y_fNewq, y_outq) => post (y_maxObjectsq, y_maxStepsq, y_maxDepthq, y_keptq, y_endq, y_tokensq, y_pendingq, y_linesq, y_classesq, y_printsq, y_placeq, y_stepsq, y_dq, y_valTopq, y_opTopq, y_opensq, y_posq, y_tkq, y_tvq, y_stmtq, y_targetq, y_errq, y_codeq, y_outcomeq, y_resultq, y_dryq, y_wantq, y_startingq, y_endedq, y_badq, y_hostedq, y_sawSuperq, y_textq, y_numbersq, y_globalsq, y_entriesq, y_attrsq, y_classOfq, y_aliveq, y_ordersq, y_lengthsq, y_lettersq, y_basesq, y_valsq, y_opsq, y_localsq, y_fRecvq, y_fLineq, y_fPosq, y_fStmtq, y_fTargetq, y_fMaskq, y_fHomeq, y_fOpsq, y_fValsq, y_fNewq, y_outq)) (y_maxObjects, y_maxSteps, y_maxDepth, y_kept, y_end, y_tokens, y_pending, y_lines, y_classes, y_prints, y_place, y_steps, nI d, nI (vt - 2), nI (ob d), y_opens, y_pos, y_tk, y_tv, 50, y_target, 0, y_code, y_outcome, y_result, y_dry, y_want, y_starting, y_ended, y_bad, y_hosted, y_sawSuper, y_text, y_numbers, y_globals, y_entries, vp_updL at1 (b * 26 + f) x3, y_classOf, y_alive, y_orders, y_lengths, y_letters, y_bases, va, ops, y_locals, y_fRecv, y_fLine, y_fPos, y_fStmt, y_fTarget, y_fMask, y_fHome, fOp, y_fVals, y_fNew, y_out) x1)
    (Hm : ∀ b, hs_io v b → ¬ hs_na at1 (b * 26) 26 0 < 4 → at1 (b * 26 + f) = 0 → post (y_maxObjects, y_maxSteps, y_maxDepth, y_kept, y_end, y_tokens, y_pending, y_lines, y_classes, y_prints, y_place, y_steps, nI d, nI (vt - 2), nI (ob d), y_opens, y_pos, y_tk, y_tv, 50, y_target, 7, y_code, y_outcome, y_result, y_dry, y_want, y_starting, y_ended, y_bad, y_hosted, y_sawSuper, y_text, y_numbers, y_globals, y_entries, at1, y_classOf, y_alive, y_orders, y_lengths, y_letters, y_bases, va, ops, y_locals, y_fRecv, y_fLine, y_fPos, y_fStmt, y_fTarget, y_fMask, y_fHome, fOp, y_fVals, y_fNew, y_out)) :
    wY_finish_59 post x1 x3 x4 y_maxObjects y_maxSteps y_maxDepth y_kept y_end y_tokens y_pending y_lines y_classes y_prints y_place y_steps (nI d) (nI (vt - 1)) (nI (ob d + 1)) y_opens y_pos y_tk y_tv 50 y_target 0 y_code y_outcome y_result y_dry y_want y_starting y_ended y_bad y_hosted y_sawSuper y_text y_numbers y_globals y_entries at1 y_classOf y_alive y_orders y_lengths y_letters y_bases va ops y_locals y_fRecv y_fLine y_fPos y_fStmt y_fTarget y_fMask y_fHome fOp y_fVals y_fNew y_out := by
  obtain ⟨t, e1, e2, e3, e4, e5⟩ := w6
  have et : t = ob d := by omega
  subst et
  have ev : nI (vt - 1) - 1 = nI (vt - 2) := by
    rw [show (1 : Int32) = nI 1 from rfl, pk_sub (by omega)]
    exact congrArg nI (by omega)
  unfold wY_finish_59
  rw [nI_clamp (show d < 2 ^ 31 by omega), c2, nI_pred, nI_clamp (show ob d < 2 ^ 31 by omega), e3, hs_sh6 (by omega) (by omega)]
  refine br_f (by decide) (br_f (by decide) (br_f (by decide) (br_f (by decide) (br_f (by decide) (br_f (by decide) (br_f (by decide) (And.intro (vp_in_nI (by omega) (by decide)) (br_f (nI_ge (by omega) (by omega)) (nm_e (And.intro (vp_in_nI (by omega) (by decide)) ?_))))))))))
  refine nm_r ev ?_
  rw [ev, nI_clamp (show vt - 2 < 2 ^ 31 by omega)]
  refine And.intro (vp_in_nI (by omega) (by decide)) (nm_r hva ?_)
  rcases hs_vvO hv with ⟨b, hb⟩ | hb
  · have b8 := hb.1
    rw [hs_ioL hb]
    refine br_t (hs_ykO hb) (nm_r (pk_mul b 26) ⟨27, hs_ySA b8 hf (hle b b8) (fun z => ?_) (fun z1 z2 => ?_) 26 0 0 (by omega) (by omega)⟩)
    · unfold wY_finish_459
      exact br_t rfl (Hu b hb z)
    · unfold wY_finish_459
      exact br_f (by decide) (Hm b hb z1 z2)
  · refine br_f (hs_ykNO hb) ?_
    unfold wY_finish_459
    exact br_f (by decide) (He hb)
theorem hs_fin16 {f : Nat} (A : hs_GA tx nu LT cd lc kp cc P ind h tk ca cb us ue yk yen yto ype yli mo mS mD ho x_pendingCount x_keptTokens x_keptLines x_codeCount x_cursor x_stop x_waitingCount x_openCount x_lastResult x_pending x_waiting M) (G : hs_GB tx nu LT cd lc kp cc P ind h tk ca cb us ue yk yen yto ype yli mo mS mD ho x_pendingCount x_keptTokens x_keptLines x_codeCount x_cursor x_stop x_waitingCount x_openCount x_lastResult x_pending x_waiting M) (I : hs_XI tx nu LT cd lc kp cc P ind h tk ca cb us ue mo mS mD s d vt cn ml gl ex at1 ox oc lt HE CL op fl dl vb ob ts st ho) (nh : ¬ (ho = true ∧ d = 0)) (L : hs_XL h ind ca cb lc cn CL ho (fl d) (dl d) d) (hk : LT (fl d * 14) = 16) (hf : LT (fl d * 14 + 5) = nI f) (f26 : f < 26) (hvt : vt = vb d + 2) (hst : st d = [5 + 64 * f]) (hM : 250 * (mS - s) + hs_pot ts st d + 2 ≤ M) :
    hs_Gt (hs_F tx nu LT cd lc P h yk yen yto ype yli mo mS mD x_pendingCount x_keptTokens x_keptLines x_codeCount x_cursor x_stop x_waitingCount x_openCount x_lastResult x_pending x_waiting) M (fun x => wpX_finishLine (fun u => match u with | (x_objectLimitq, x_stepLimitq, x_depthLimitq, x_pendingCountq, x_keptTokensq, x_keptLinesq, x_lineCountq, x_codeCountq, x_cursorq, x_stopq, x_waitingCountq, x_openCountq, x_classCountq, x_callCountq, x_operandCountq, x_stepsTakenq, x_errorq, x_raisedCodeq, x_printCountq, x_lastResultq, x_lastPlaceq, x_pendingq, x_lineTableq, x_codeq, x_waitingq, x_globalsq, x_entriesq, x_ordersq, x_mergingq, x_letterClassq, x_objectClassq, x_attributesq, x_callsq, x_heldq, x_operandsq, x_lastPrintsq) => x (x_objectLimitq, x_stepLimitq, x_depthLimitq, x_pendingCountq, x_keptTokensq, x_keptLinesq, x_lineCountq, x_codeCountq, x_cursorq, x_stopq, x_waitingCountq, x_openCountq, x_classCountq, x_callCountq, x_operandCountq, x_stepsTakenq, x_errorq, x_raisedCodeq, x_printCountq, x_lastResultq, x_lastPlaceq, x_pendingq, x_lineTableq, x_codeq, x_waitingq, x_globalsq, x_entriesq, x_ordersq, x_mergingq, x_letterClassq, x_objectClassq, x_attributesq, x_callsq, x_heldq, x_operandsq, x_lastPrintsq)) (nI mo, nI mS, nI mD, x_pendingCount, x_keptTokens, x_keptLines, nI lc, x_codeCount, x_cursor, x_stop, x_waitingCount, x_openCount, nI cn, nI (d + 1), nI vt, nI s, 0, rc, pc, x_lastResult, 0, x_pending, LT, cd, x_waiting, gl, ex, ox, mg, lt, oc, at1, CL, HE, op, lp) (nI (fl d))) (fun x => ∀ v, hs_VD tx nu LT P h lc yk yen yto ype yli mo mS mD gl ex at1 oc lt lp CL HE op ml cn d vt s pc rc fl dl vb ob ts st ho v → wpY_finish (fun u => match u with | (y_maxObjectsw, y_maxStepsw, y_maxDepthw, y_keptw, y_endw, y_tokensw, y_pendingw, y_linesw, y_classesw, y_printsw, y_placew, y_stepsw, y_dw, y_valTopw, y_opTopw, y_opensw, y_posw, y_tkw, y_tvw, y_stmtw, y_targetw, y_errw, y_codew, y_outcomew, y_resultw, y_dryw, y_wantw, y_startingw, y_endedw, y_badw, y_hostedw, y_sawSuperw, y_textw, y_numbersw, y_globalsw, y_entriesw, y_attrsw, y_classOfw, y_alivew, y_ordersw, y_lengthsw, y_lettersw, y_basesw, y_valsw, y_opsw, y_localsw, y_fRecvw, y_fLinew, y_fPosw, y_fStmtw, y_fTargetw, y_fMaskw, y_fHomew, y_fOpsw, y_fValsw, y_fNeww, y_outw) => x (y_maxObjectsw, y_maxStepsw, y_maxDepthw, y_keptw, y_endw, y_tokensw, y_pendingw, y_linesw, y_classesw, y_printsw, y_placew, y_stepsw, y_dw, y_valTopw, y_opTopw, y_opensw, y_posw, y_tkw, y_tvw, y_stmtw, y_targetw, y_errw, y_codew, y_outcomew, y_resultw, y_dryw, y_wantw, y_startingw, y_endedw, y_badw, y_hostedw, y_sawSuperw, y_textw, y_numbersw, y_globalsw, y_entriesw, y_attrsw, y_classOfw, y_alivew, y_ordersw, y_lengthsw, y_lettersw, y_basesw, y_valsw, y_opsw, y_localsw, y_fRecvw, y_fLinew, y_fPosw, y_fStmtw, y_fTargetw, y_fMaskw, y_fHomew, y_fOpsw, y_fValsw, y_fNeww, y_outw)) v) := by
  have I0 := I
  obtain ⟨d6, s200, m200, l405⟩ := hs_XId I
  obtain ⟨T, ⟨B1, B2, B3, B4, B5, B6⟩, W, MC, OV, H0, XCk, XLk, XSk, HO, v0, o0⟩ := I
  obtain ⟨cL, fd⟩ := L.2.1 nh
  obtain ⟨x1, x2, x3, x4, x5⟩ := XCk d (Nat.le_refl _)
  have ev : vt - 1 - 1 = vb d := by omega
  have ev2 : vt - 2 = vb d := by omega
  have vv := OV (vt - 1) (by omega)
  have vh := OV (vt - 2) (by omega)
  have lcd := hs_lcOf nh L
  have hle := W.2.2.2.2.2.1
  have e5 : nI (fl d * 14) + 5 = nI (fl d * 14 + 5) := nI_add _ 5
  intro i k n hi hk' hn post HP
  refine nm_r (pk_mul (fl d) 14) ?_
  rw [Int32.add_zero, nI_clamp (show fl d * 14 < 2 ^ 31 by omega)]
  refine And.intro (vp_in_nI (by omega) (by decide)) (nm_r hk (br_f (by decide) (br_t (by decide) ?_)))
  unfold wX_finishLine_139
  show vp_in _ _ ∧ _
  rw [Int32.add_zero, e5, nI_clamp (show fl d * 14 < 2 ^ 31 by omega), nI_clamp (show fl d * 14 + 5 < 2 ^ 31 by omega)]
  refine And.intro (vp_in_nI (by omega) (by decide)) (nm_r hk (And.intro (vp_in_nI (by omega) (by decide)) (nm_r hf (hs_xPop (by omega) (by omega) (br_f (by decide) (br_f (by decide) (br_t rfl (hs_xPop (by omega) (by omega) ?_))))))))
  rw [show vt - 1 - 1 = vb d from ev]
  have yall : ∀ (er : Int32) (Q : SY → Prop) (m : Nat) (c : SY → Prop) (v : SY), hs_VD tx nu LT P h lc yk yen yto ype yli mo mS mD gl ex at1 oc lt lp CL HE op ml cn d vt s pc rc fl dl vb ob ts st ho v → (hs_no (op (vb d)) → ∀ v1, hs_VC tx nu LT P h lc yk yen yto ype yli mo mS mD gl ex at1 oc lt lp CL HE op ml cn d (vb d) s pc rc fl dl vb ob ts st ho 3 v1 → c v1) → (∀ b, hs_io (op (vb d)) b → (at1 (b * 26 + f) ≠ 0 ∨ hs_na at1 (b * 26) 26 0 < 4) → ∀ v1, hs_VB tx nu LT P h lc yk yen yto ype yli mo mS mD gl ex (vp_updL at1 (b * 26 + f) (op (vt - 1))) oc lt lp CL HE op ml cn d (vb d) s pc rc fl dl vb ob ts st ho v1 → wpY_after (fun u => match u with | (y_maxObjectsq, y_maxStepsq, y_maxDepthq, y_keptq, y_endq, y_tokensq, y_pendingq, y_linesq, y_classesq, y_printsq, y_placeq, y_stepsq, y_dq, y_valTopq, y_opTopq, y_opensq, y_posq, y_tkq, y_tvq, y_stmtq, y_targetq, y_errq, y_codeq, y_outcomeq, y_resultq, y_dryq, y_wantq, y_startingq, y_endedq, y_badq, y_hostedq, y_sawSuperq, y_textq, y_numbersq, y_globalsq, y_entriesq, y_attrsq, y_classOfq, y_aliveq, y_ordersq, y_lengthsq, y_lettersq, y_basesq, y_valsq, y_opsq, y_localsq, y_fRecvq, y_fLineq, y_fPosq, y_fStmtq, y_fTargetq, y_fMaskq, y_fHomeq, y_fOpsq, y_fValsq, y_fNewq, y_outq) => c (y_maxObjectsq, y_maxStepsq, y_maxDepthq, y_keptq, y_endq, y_tokensq, y_pendingq, y_linesq, y_classesq, y_printsq, y_placeq, y_stepsq, y_dq, y_valTopq, y_opTopq, y_opensq, y_posq, y_tkq, y_tvq, y_stmtq, y_targetq, y_errq, y_codeq, y_outcomeq, y_resultq, y_dryq, y_wantq, y_startingq, y_endedq, y_badq, y_hostedq, y_sawSuperq, y_textq, y_numbersq, y_globalsq, y_entriesq, y_attrsq, y_classOfq, y_aliveq, y_ordersq, y_lengthsq, y_lettersq, y_basesq, y_valsq, y_opsq, y_localsq, y_fRecvq, y_fLineq, y_fPosq, y_fStmtq, y_fTargetq, y_fMaskq, y_fHomeq, y_fOpsq, y_fValsq, y_fNewq, y_outq)) v1 (nI (P (fl d)))) → (∀ b, hs_io (op (vb d)) b → ¬ hs_na at1 (b * 26) 26 0 < 4 → at1 (b * 26 + f) = 0 → ∀ v1, hs_VC tx nu LT P h lc yk yen yto ype yli mo mS mD gl ex at1 oc lt lp CL HE op ml cn d (vb d) s pc rc fl dl vb ob ts st ho 7 v1 → c v1) → wpY_finish (fun u => match u with | (y_maxObjectsw, y_maxStepsw, y_maxDepthw, y_keptw, y_endw, y_tokensw, y_pendingw, y_linesw, y_classesw, y_printsw, y_placew, y_stepsw, y_dw, y_valTopw, y_opTopw, y_opensw, y_posw, y_tkw, y_tvw, y_stmtw, y_targetw, y_errw, y_codew, y_outcomew, y_resultw, y_dryw, y_wantw, y_startingw, y_endedw, y_badw, y_hostedw, y_sawSuperw, y_textw, y_numbersw, y_globalsw, y_entriesw, y_attrsw, y_classOfw, y_alivew, y_ordersw, y_lengthsw, y_lettersw, y_basesw, y_valsw, y_opsw, y_localsw, y_fRecvw, y_fLinew, y_fPosw, y_fStmtw, y_fTargetw, y_fMaskw, y_fHomew, y_fOpsw, y_fValsw, y_fNeww, y_outw) => c (y_maxObjectsw, y_maxStepsw, y_maxDepthw, y_keptw, y_endw, y_tokensw, y_pendingw, y_linesw, y_classesw, y_printsw, y_placew, y_stepsw, y_dw, y_valTopw, y_opTopw, y_opensw, y_posw, y_tkw, y_tvw, y_stmtw, y_targetw, y_errw, y_codew, y_outcomew, y_resultw, y_dryw, y_wantw, y_startingw, y_endedw, y_badw, y_hostedw, y_sawSuperw, y_textw, y_numbersw, y_globalsw, y_entriesw, y_attrsw, y_classOfw, y_alivew, y_ordersw, y_lengthsw, y_lettersw, y_basesw, y_valsw, y_opsw, y_localsw, y_fRecvw, y_fLinew, y_fPosw, y_fStmtw, y_fTargetw, y_fMaskw, y_fHomew, y_fOpsw, y_fValsw, y_fNeww, y_outw)) v := by
    intro er Q m c v hv H3 Hu H7
    obtain ⟨y_maxObjects, y_maxSteps, y_maxDepth, y_kept, y_end, y_tokens, y_pending, y_lines, y_classes, y_prints, y_place, y_steps, y_d, y_valTop, y_opTop, y_opens, y_pos, y_tk, y_tv, y_stmt, y_target, y_err, y_code, y_outcome, y_result, y_dry, y_want, y_starting, y_ended, y_bad, y_hosted, y_sawSuper, y_text, y_numbers, y_globals, y_entries, y_attrs, y_classOf, y_alive, y_orders, y_lengths, y_letters, y_bases, y_vals, y_ops, y_locals, y_fRecv, y_fLine, y_fPos, y_fStmt, y_fTarget, y_fMask, y_fHome, y_fOps, y_fVals, y_fNew, y_out⟩ := v
    obtain ⟨⟨⟨a1, a2, a3, a4, a5, a6, a7, a8, a9, a10, a11, a12, a13, a14, a15, a16, a17, a18, a19, a20, a21, anu, a23, a24, a25, a26, a27⟩, E, O, va, l0, C, KK, qf⟩, w1, w2, w3, w4, w5, w6⟩ := hv
    (have a1 := a1.symm; have a2 := a2.symm; have a3 := a3.symm; have a4 := a4.symm; have a5 := a5.symm; have a6 := a6.symm; have a7 := a7.symm; have a8 := a8.symm; have a9 := a9.symm; have a10 := a10.symm; have a11 := a11.symm; have a12 := a12.symm; have a13 := a13.symm; have a14 := a14.symm; have a15 := a15.symm; have a16 := a16.symm; have a17 := a17.symm; have a18 := a18.symm; have a19 := a19.symm; have a20 := a20.symm; have a21 := a21.symm; have a23 := a23.symm; have a24 := a24.symm; have a25 := a25.symm; have a26 := a26.symm; have a27 := a27.symm; subst a1 a2 a3 a4 a5 a6 a7 a8 a9 a10 a11 a12 a13 a14 a15 a16 a17 a18 a19 a20 a21 a23 a24 a25 a26 a27)
    subst w1 w2 w3 w5
    obtain ⟨c1, c2, c3, c4⟩ := C d (Nat.le_refl _)
    rw [hst] at w6
    refine hs_yFin0 d6 qf (va (vt - 1) (by omega)) vv (by omega) (by omega) ?_
    rw [hk, hst]
    refine hs_y16 (v := op (vb d)) d6 f26 (by omega) (by omega) (by omega) c2 w6 ((va (vt - 2) (by omega)).trans (congrArg op ev2)) hle (by rw [← ev2]; exact vh) (fun z => ?_) (fun b z1 z2 => ?_) (fun b z1 z2 z3 => ?_)
    · rw [ev2]
      exact H3 z _ ⟨⟨rfl, rfl, rfl, rfl, rfl, rfl, rfl, rfl, rfl, rfl, rfl, rfl, rfl, rfl, rfl, rfl, rfl, rfl, rfl, rfl, rfl, anu, rfl, rfl, rfl, rfl, rfl⟩, E, O, fun j hj => va j (by omega), l0, C, KK, qf⟩
    · rw [ev2]
      exact Hu b z1 z2 _ ⟨⟨⟨rfl, rfl, rfl, rfl, rfl, rfl, rfl, rfl, rfl, rfl, rfl, rfl, rfl, rfl, rfl, rfl, rfl, rfl, rfl, rfl, rfl, anu, rfl, rfl, rfl, rfl, rfl⟩, E, O, fun j hj => va j (by omega), l0, C, KK, qf⟩, rfl, rfl⟩
    · rw [ev2]
      exact H7 b z1 z2 z3 _ ⟨⟨rfl, rfl, rfl, rfl, rfl, rfl, rfl, rfl, rfl, rfl, rfl, rfl, rfl, rfl, rfl, rfl, rfl, rfl, rfl, rfl, rfl, anu, rfl, rfl, rfl, rfl, rfl⟩, E, O, fun j hj => va j (by omega), l0, C, KK, qf⟩
  unfold wpX_setAttribute
  rcases hs_vvO (by rw [← ev2]; exact vh : hs_vv (op (vb d))) with ⟨b, hb⟩ | hb
  · have b8 := hb.1
    have uq : ∀ b', hs_io (op (vb d)) b' → b' = b := by
      intro b' hb'
      have := (pk_lEQ (a := 12884901888 + b') (b := 12884901888 + b) (by have := hb'.1; omega) (by omega)).mp (hb'.2.symm.trans hb.2)
      omega
    have no : ¬ hs_no (op (vb d)) := fun z => hs_ykNO z (hs_ykO hb)
    refine hs_xkO hb (br_f (by decide) ?_)
    rw [hs_ioL hb]
    refine nm_r (pk_mul b 26) ⟨27, hs_xSA b8 f26 (fun z => ?_) (fun z1 z2 => ?_) 26 0 0 (by omega) (by omega)⟩
    · unfold wX_finishLine_144
      have W' := hs_WXat W b8 f26 vv z
      have g := hs_tAfter (mg := mg) (pc := pc) (rc := rc) (lp := lp) A G (hs_fI I0 (by omega) W' (Nat.le_refl _) MC (hs_XIh I0)) nh lcd rfl hM
      refine br_t rfl (g i k n hi hk' hn post (fun u' V' ff gg => HP u' V' ff (fun Q hQ m hm v hv => yall 0 Q m _ v hv (fun y => absurd y no) (fun b' y1 y2 v1 h1 => ?_) (fun b' y1 y2 y3 => ?_))))
      · have eb := uq b' y1
        subst eb
        exact gg Q hQ m hm v1 h1
      · have eb := uq b' y1
        subst eb
        rcases z with z | z
        · exact absurd y3 z
        · exact absurd z y2
    · unfold wX_finishLine_144
      have g := hs_tErr (er := 7) (x14 := nI (vb d)) (mg := mg) (pc := pc) (rc := rc) (lp := lp) A I0 nh L (by omega) (by decide) (by decide) hM
      refine br_f (by decide) (g i k n hi hk' hn post (fun u' V' ff gg => HP u' V' ff (fun Q hQ m hm v hv => yall 0 Q m _ v hv (fun y => absurd y no) (fun b' y1 y2 v1 h1 => ?_) (fun b' y1 y2 y3 v1 h1 => gg Q hQ m hm v1 h1))))
      have eb := uq b' y1
      subst eb
      rcases y2 with y2 | y2
      · exact absurd z2 y2
      · exact absurd y2 z1
  · refine hs_xkNO hb (br_t rfl ?_)
    unfold wX_finishLine_144
    have g := hs_tErr (er := 3) (x14 := nI (vb d)) (mg := mg) (pc := pc) (rc := rc) (lp := lp) A I0 nh L (by omega) (by decide) (by decide) hM
    refine br_f (by decide) (g i k n hi hk' hn post (fun u' V' ff gg => HP u' V' ff (fun Q hQ m hm v hv => yall 0 Q m _ v hv (fun _ v1 h1 => gg Q hQ m hm v1 h1) (fun b' y1 => ?_) (fun b' y1 => ?_))))
    · exact absurd (hs_ykO y1) (hs_ykNO hb)
    · exact absurd (hs_ykO y1) (hs_ykNO hb)
theorem hs_finAll {rs : List Nat} (A : hs_GA tx nu LT cd lc kp cc P ind h tk ca cb us ue yk yen yto ype yli mo mS mD ho x_pendingCount x_keptTokens x_keptLines x_codeCount x_cursor x_stop x_waitingCount x_openCount x_lastResult x_pending x_waiting M) (G : hs_GB tx nu LT cd lc kp cc P ind h tk ca cb us ue yk yen yto ype yli mo mS mD ho x_pendingCount x_keptTokens x_keptLines x_codeCount x_cursor x_stop x_waitingCount x_openCount x_lastResult x_pending x_waiting M) (I : hs_XI tx nu LT cd lc kp cc P ind h tk ca cb us ue mo mS mD s d vt cn ml gl ex at1 ox oc lt HE CL op fl dl vb ob ts st ho) (nh : ¬ (ho = true ∧ d = 0)) (L : hs_XL h ind ca cb lc cn CL ho (fl d) (dl d) d) (En : hs_En (LT (fl d * 14)) (LT (fl d * 14 + 5)) rs (st d)) (hv : vt = vb d + hs_nv (st d) false) (hM : 250 * (mS - s) + hs_pot ts st d + 2 ≤ M) :
    hs_Gt (hs_F tx nu LT cd lc P h yk yen yto ype yli mo mS mD x_pendingCount x_keptTokens x_keptLines x_codeCount x_cursor x_stop x_waitingCount x_openCount x_lastResult x_pending x_waiting) M (fun x => wpX_finishLine (fun u => match u with | (x_objectLimitq, x_stepLimitq, x_depthLimitq, x_pendingCountq, x_keptTokensq, x_keptLinesq, x_lineCountq, x_codeCountq, x_cursorq, x_stopq, x_waitingCountq, x_openCountq, x_classCountq, x_callCountq, x_operandCountq, x_stepsTakenq, x_errorq, x_raisedCodeq, x_printCountq, x_lastResultq, x_lastPlaceq, x_pendingq, x_lineTableq, x_codeq, x_waitingq, x_globalsq, x_entriesq, x_ordersq, x_mergingq, x_letterClassq, x_objectClassq, x_attributesq, x_callsq, x_heldq, x_operandsq, x_lastPrintsq) => x (x_objectLimitq, x_stepLimitq, x_depthLimitq, x_pendingCountq, x_keptTokensq, x_keptLinesq, x_lineCountq, x_codeCountq, x_cursorq, x_stopq, x_waitingCountq, x_openCountq, x_classCountq, x_callCountq, x_operandCountq, x_stepsTakenq, x_errorq, x_raisedCodeq, x_printCountq, x_lastResultq, x_lastPlaceq, x_pendingq, x_lineTableq, x_codeq, x_waitingq, x_globalsq, x_entriesq, x_ordersq, x_mergingq, x_letterClassq, x_objectClassq, x_attributesq, x_callsq, x_heldq, x_operandsq, x_lastPrintsq)) (nI mo, nI mS, nI mD, x_pendingCount, x_keptTokens, x_keptLines, nI lc, x_codeCount, x_cursor, x_stop, x_waitingCount, x_openCount, nI cn, nI (d + 1), nI vt, nI s, 0, rc, pc, x_lastResult, 0, x_pending, LT, cd, x_waiting, gl, ex, ox, mg, lt, oc, at1, CL, HE, op, lp) (nI (fl d))) (fun x => ∀ v, hs_VD tx nu LT P h lc yk yen yto ype yli mo mS mD gl ex at1 oc lt lp CL HE op ml cn d vt s pc rc fl dl vb ob ts st ho v → wpY_finish (fun u => match u with | (y_maxObjectsw, y_maxStepsw, y_maxDepthw, y_keptw, y_endw, y_tokensw, y_pendingw, y_linesw, y_classesw, y_printsw, y_placew, y_stepsw, y_dw, y_valTopw, y_opTopw, y_opensw, y_posw, y_tkw, y_tvw, y_stmtw, y_targetw, y_errw, y_codew, y_outcomew, y_resultw, y_dryw, y_wantw, y_startingw, y_endedw, y_badw, y_hostedw, y_sawSuperw, y_textw, y_numbersw, y_globalsw, y_entriesw, y_attrsw, y_classOfw, y_alivew, y_ordersw, y_lengthsw, y_lettersw, y_basesw, y_valsw, y_opsw, y_localsw, y_fRecvw, y_fLinew, y_fPosw, y_fStmtw, y_fTargetw, y_fMaskw, y_fHomew, y_fOpsw, y_fValsw, y_fNeww, y_outw) => x (y_maxObjectsw, y_maxStepsw, y_maxDepthw, y_keptw, y_endw, y_tokensw, y_pendingw, y_linesw, y_classesw, y_printsw, y_placew, y_stepsw, y_dw, y_valTopw, y_opTopw, y_opensw, y_posw, y_tkw, y_tvw, y_stmtw, y_targetw, y_errw, y_codew, y_outcomew, y_resultw, y_dryw, y_wantw, y_startingw, y_endedw, y_badw, y_hostedw, y_sawSuperw, y_textw, y_numbersw, y_globalsw, y_entriesw, y_attrsw, y_classOfw, y_alivew, y_ordersw, y_lengthsw, y_lettersw, y_basesw, y_valsw, y_opsw, y_localsw, y_fRecvw, y_fLinew, y_fPosw, y_fStmtw, y_fTargetw, y_fMaskw, y_fHomew, y_fOpsw, y_fValsw, y_fNeww, y_outw)) v) := by
  obtain ⟨ek, En⟩ := En
  have v1 : st d = [] → vt = vb d + 1 := by
    intro z
    rw [z] at hv
    exact hv
  rcases En with ⟨z, en⟩ | ⟨k16, _, f, f26, hf, hst⟩
  · have n16 : LT (fl d * 14) ≠ 16 := by
      rcases en with ⟨_, _, _, y⟩ | ⟨_, y | y⟩
      · exact y
      · rw [y]; decide
      · rw [y]; decide
    rcases ek with k | k | k | k | k | k | k | k | k
    · exact hs_fin3 (ans := 0) G I nh L k (v1 z) hM
    · exact hs_finIf A G I nh L (Or.inl k) (v1 z) z hM
    · exact hs_finIf A G I nh L (Or.inr k) (v1 z) z hM
    · exact hs_fin9 A I nh L k (v1 z) hM
    · exact hs_fin11 A G I nh L k (v1 z) z hM
    · exact hs_fin14 A G I nh L k (v1 z) z hM
    · exact hs_fin15 A G I nh L k (v1 z) z hM
    · exact absurd k n16
    · exact hs_fin17 A G I nh L k (v1 z) z hM
  · refine hs_fin16 A G I nh L k16 hf f26 ?_ hst hM
    rw [hst] at hv
    have e : hs_nv [5 + 64 * f] false = 2 := by
      show (if 27 ≤ (5 + 64 * f) % 64 ∨ (5 + 64 * f) % 64 = 2 ∨ (5 + 64 * f) % 64 = 5 then 1 else 0) + 0 + 1 = 2
      rw [if_pos (by omega)]
    omega
theorem hs_stepBB (A : hs_GA tx nu LT cd lc kp cc P ind h tk ca cb us ue yk yen yto ype yli mo mS mD ho x_pendingCount x_keptTokens x_keptLines x_codeCount x_cursor x_stop x_waitingCount x_openCount x_lastResult x_pending x_waiting M) (G : hs_GB tx nu LT cd lc kp cc P ind h tk ca cb us ue yk yen yto ype yli mo mS mD ho x_pendingCount x_keptTokens x_keptLines x_codeCount x_cursor x_stop x_waitingCount x_openCount x_lastResult x_pending x_waiting M) : hs_GB tx nu LT cd lc kp cc P ind h tk ca cb us ue yk yen yto ype yli mo mS mD ho x_pendingCount x_keptTokens x_keptLines x_codeCount x_cursor x_stop x_waitingCount x_openCount x_lastResult x_pending x_waiting (M + 1) := by
  intro s d vt cn ml gl ex at1 HE op ox oc lt lp CL mg pc rc fl dl vb ob ts st w I m hM
  have I0 := I
  obtain ⟨d6, s200, m200, l405⟩ := hs_XId I
  obtain ⟨T, ⟨B1, B2, B3, B4, B5, B6⟩, W, MC, OV, H0, XCk, XLk, XSk, HO, v0, o0⟩ := I
  obtain ⟨L, ⟨c, e, rs, fs, s1, s2, s3, s4, s5, s6, s7, s8⟩, hv, nh⟩ := m
  obtain ⟨cL, fd⟩ := L.2.1 nh
  by_cases fin : hs_fin (ts d) w (st d)
  · have w0 : w = false := fin.1
    subst w0
    obtain ⟨e0, r0, f0⟩ := (hs_Sfin fin).mp s5
    subst e0 r0 f0
    have g := hs_finAll (mg := mg) (pc := pc) (rc := rc) (lp := lp) A G I0 nh L s6 hv (by omega)
    refine hs_enterF d6 (by omega) cL s1 s2 s3 ?_
    intro i k n hi hk hn post HP
    refine g i k n hi hk hn post (fun u' V' f gg => HP u' V' f (fun Q hQ m hm v hv => ?_))
    have ge := gg Q hQ m hm
    clear gg HP g
    obtain ⟨x1, x2, x3, x4, x5⟩ := XCk d (Nat.le_refl _)
    obtain ⟨y_maxObjects, y_maxSteps, y_maxDepth, y_kept, y_end, y_tokens, y_pending, y_lines, y_classes, y_prints, y_place, y_steps, y_d, y_valTop, y_opTop, y_opens, y_pos, y_tk, y_tv, y_stmt, y_target, y_err, y_code, y_outcome, y_result, y_dry, y_want, y_starting, y_ended, y_bad, y_hosted, y_sawSuper, y_text, y_numbers, y_globals, y_entries, y_attrs, y_classOf, y_alive, y_orders, y_lengths, y_letters, y_bases, y_vals, y_ops, y_locals, y_fRecv, y_fLine, y_fPos, y_fStmt, y_fTarget, y_fMask, y_fHome, y_fOps, y_fVals, y_fNew, y_out⟩ := v
    obtain ⟨⟨a1, a2, a3, a4, a5, a6, a7, a8, a9, a10, a11, a12, a13, a14, a15, a16, a17, a18, a19, a20, a21, a22, anu, a24, a25, a26, a27, a28⟩, E, O, va, l0, C, K, m1, m2, m3, pp, p1, p2, p3, p4, p5, p6⟩ := hv
    (have a1 := a1.symm; have a2 := a2.symm; have a3 := a3.symm; have a4 := a4.symm; have a5 := a5.symm; have a6 := a6.symm; have a7 := a7.symm; have a8 := a8.symm; have a9 := a9.symm; have a10 := a10.symm; have a11 := a11.symm; have a12 := a12.symm; have a13 := a13.symm; have a14 := a14.symm; have a15 := a15.symm; have a16 := a16.symm; have a17 := a17.symm; have a18 := a18.symm; have a19 := a19.symm; have a20 := a20.symm; have a21 := a21.symm; have a22 := a22.symm; have a24 := a24.symm; have a25 := a25.symm; have a26 := a26.symm; have a27 := a27.symm; have a28 := a28.symm; subst a1 a2 a3 a4 a5 a6 a7 a8 a9 a10 a11 a12 a13 a14 a15 a16 a17 a18 a19 a20 a21 a22 a24 a25 a26 a27 a28)
    subst m1 m3 p1 p3 p5
    obtain ⟨c1, c2, c3, c4⟩ := C d (Nat.le_refl _)
    have lt320 : ob d + (st d).length < 320 := by
      have : (st d).length ≤ 40 := by omega
      omega
    exact hs_yFin p2 (by omega) c2 p6 lt320 fin (fun q1 q2 q3 => br_f (by decide) (ge _ ⟨⟨⟨rfl, rfl, rfl, rfl, rfl, rfl, rfl, rfl, rfl, rfl, rfl, rfl, rfl, rfl, rfl, rfl, rfl, rfl, rfl, rfl, rfl, anu, rfl, rfl, rfl, rfl, rfl⟩, E, O, va, l0, C, K, m2⟩, rfl, rfl, rfl, p4, rfl, p6⟩))
  · cases q : hs_step (hs_zk (LT (fl d * 14))) (ts d) w (st d) with
    | none => exact absurd s5 (hs_Sbad fin q)
    | some x =>
      obtain ⟨ts1, w1, st1, e1⟩ := x
      obtain ⟨e', ee, s5'⟩ := (hs_Sstep fin q).mp s5
      obtain ⟨mm1, mm2⟩ := hs_stepM q
      obtain ⟨qs', kk⟩ := hs_stepV q s8
      rcases kk with ⟨e0, nv⟩ | ⟨o, qq, eo, w0, nv, oq⟩
      · subst e0
        have ee' : e = e' := ee
        subst ee'
        have I1 : hs_XI tx nu LT cd lc kp cc P ind h tk ca cb us ue mo mS mD s d vt cn ml gl ex at1 ox oc lt HE CL op fl dl vb ob (hs_put1 ts d ts1) (hs_put1 st d st1) ho := hs_XIin I0 (fun _ _ => rfl) (fun k hk => hs_put1N (by omega)) (fun k hk => hs_put1N (by omega)) (fun _ _ _ => rfl) B6 W (Nat.le_refl _) MC OV (hs_XIh I0)
        have m1 : hs_MB h ind ca cb lc cn CL ho LT cd fl dl vb (hs_put1 ts d ts1) (hs_put1 st d st1) d vt w1 := by
          refine ⟨L, ⟨c, e, rs, fs, s1, s2, s3, s4, ?_, s6, ?_, ?_⟩, ?_, nh⟩
          · rw [hs_put1S, hs_put1S]; exact s5'
          · rw [hs_put1S, hs_put1S]; omega
          · rw [hs_put1S, hs_put1S]; exact qs'
          · rw [hs_put1S, ← nv]; exact hv
        have pe : hs_pot (hs_put1 ts d ts1) (hs_put1 st d st1) d = hs_pot ts st d := hs_potE d (fun k hk => hs_put1N (by omega)) (fun k hk => hs_put1N (by omega))
        refine hs_GoM (N1 := 2 * M + 2) (by omega) (Nat.le_refl _) (hs_GoY (fun Q m k hk H v hv' => ?_) (G s d vt cn ml gl ex at1 HE op ox oc lt lp CL mg pc rc fl dl vb ob (hs_put1 ts d ts1) (hs_put1 st d st1) w1 I1 m1 (by rw [pe, hs_put1S, hs_put1S]; omega)))
        have hv0 := hv'
        obtain ⟨y_maxObjects, y_maxSteps, y_maxDepth, y_kept, y_end, y_tokens, y_pending, y_lines, y_classes, y_prints, y_place, y_steps, y_d, y_valTop, y_opTop, y_opens, y_pos, y_tk, y_tv, y_stmt, y_target, y_err, y_code, y_outcome, y_result, y_dry, y_want, y_starting, y_ended, y_bad, y_hosted, y_sawSuper, y_text, y_numbers, y_globals, y_entries, y_attrs, y_classOf, y_alive, y_orders, y_lengths, y_letters, y_bases, y_vals, y_ops, y_locals, y_fRecv, y_fLine, y_fPos, y_fStmt, y_fTarget, y_fMask, y_fHome, y_fOps, y_fVals, y_fNew, y_out⟩ := v
        obtain ⟨⟨a1, a2, a3, a4, a5, a6, a7, a8, a9, a10, a11, a12, a13, a14, a15, a16, a17, a18, a19, a20, a21, a22, anu, a24, a25, a26, a27, a28⟩, E, O, va, l0, C, K, n1, n2⟩ := hv'
        refine br_f (nI_ge (b := 100000) (by omega) (by decide)) (br_t a20 (br_t n1 (hs_yTok I0 s6.1 hv s7 fin q hv0 (fun _ v1 h1 => ?_) (fun o qq y => by cases y))))
        have r := H v1 h1
        have r0 := hs_Verr h1
        obtain ⟨y_maxObjectsz, y_maxStepsz, y_maxDepthz, y_keptz, y_endz, y_tokensz, y_pendingz, y_linesz, y_classesz, y_printsz, y_placez, y_stepsz, y_dz, y_valTopz, y_opTopz, y_opensz, y_posz, y_tkz, y_tvz, y_stmtz, y_targetz, y_errz, y_codez, y_outcomez, y_resultz, y_dryz, y_wantz, y_startingz, y_endedz, y_badz, y_hostedz, y_sawSuperz, y_textz, y_numbersz, y_globalsz, y_entriesz, y_attrsz, y_classOfz, y_alivez, y_ordersz, y_lengthsz, y_lettersz, y_basesz, y_valsz, y_opsz, y_localsz, y_fRecvz, y_fLinez, y_fPosz, y_fStmtz, y_fTargetz, y_fMaskz, y_fHomez, y_fOpsz, y_fValsz, y_fNewz, y_outz⟩ := v1
        exact br_t rfl (br_t r0 (nm_r (nI_1 k) r))
      · subst eo w0
        have ee' : e = (o, qq) :: e' := ee
        subst ee'
        have el : ((o, qq) :: e').length = e'.length + 1 := List.length_cons ..
        have em : hs_EM LT cd fl ts st CL d w ts1 st1 o qq c e' rs fs := by
          refine ⟨s1, ?_, by omega, s4.1, ?_, s5', s6, ?_, qs', nv, oq, mm1, s7, fin, q⟩
          · rw [s2]; exact congrArg nI (by omega)
          · have r := s4.2.2.2
            rw [show c + ((o, qq) :: e').length = c + 1 + e'.length by omega] at r
            exact r
          · rw [if_neg (by decide)] at mm2; omega
        exact hs_stepEm A G I0 L nh hv em hM (fun h10 => hs_stepN A G I0 L nh hv em hM h10)
end
