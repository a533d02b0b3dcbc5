/-! Y's expression tokens, a theorem a rule -/
section
variable {x_objectLimit x_stepLimit x_depthLimit x_pendingCount x_keptTokens x_keptLines x_lineCount x_codeCount x_cursor x_stop x_waitingCount x_openCount x_classCount x_callCount x_operandCount x_stepsTaken x_error x_raisedCode x_printCount x_lastPlace : Int32} {x_lastResult : Int64} {x_pending x_lineTable x_orders x_merging x_letterClass x_objectClass x_calls x_lastPrints : Nat → Int32} {x_code x_waiting x_globals x_entries x_attributes x_held x_operands : Nat → Int64}
variable {y_maxObjects y_maxSteps y_maxDepth y_kept y_end y_tokens y_pending y_lines y_classes y_prints y_place y_steps y_d y_valTop y_opTop y_opens y_pos y_tk y_tv y_stmt y_target y_err y_code y_outcome y_dry y_want y_starting y_ended y_bad y_hosted y_sawSuper : Int32} {y_result : Int64} {y_text y_numbers y_classOf y_alive y_orders y_lengths y_letters y_bases y_ops y_fLine y_fPos y_fStmt y_fTarget y_fMask y_fHome y_fOps y_fVals y_fNew y_out : Nat → Int32} {y_globals y_entries y_attrs y_vals y_locals y_fRecv : Nat → Int64}
theorem hs_ne {a b : Nat} (h : a ≠ b) (ha : a < 2 ^ 31) (hb : b < 2 ^ 31) : ¬ nI a = nI b := fun e => h ((nI_eq ha hb).mp e)
theorem hs_yTokK {tx : Nat → Int32} {p t : Nat} {r : List Nat} (h : hs_TA tx p (t :: r)) (k : Nat) (hk : hs_tk t = k) {post : SY → Prop} (hp : post (y_maxObjects, y_maxSteps, y_maxDepth, y_kept, y_end, y_tokens, y_pending, y_lines, y_classes, y_prints, y_place, y_steps, y_d, y_valTop, y_opTop, y_opens, nI (p + 1), nI k, nI (t - k), y_stmt, y_target, y_err, y_code, y_outcome, y_result, y_dry, y_want, y_starting, y_ended, y_bad, y_hosted, y_sawSuper, tx, y_numbers, y_globals, y_entries, y_attrs, y_classOf, y_alive, y_orders, y_lengths, y_letters, y_bases, y_vals, y_ops, y_locals, y_fRecv, y_fLine, y_fPos, y_fStmt, y_fTarget, y_fMask, y_fHome, y_fOps, y_fVals, y_fNew, y_out)) : wpY_tok post (y_maxObjects, y_maxSteps, y_maxDepth, y_kept, y_end, y_tokens, y_pending, y_lines, y_classes, y_prints, y_place, y_steps, y_d, y_valTop, y_opTop, y_opens, nI p, y_tk, y_tv, y_stmt, y_target, y_err, y_code, y_outcome, y_result, y_dry, y_want, y_starting, y_ended, y_bad, y_hosted, y_sawSuper, tx, y_numbers, y_globals, y_entries, y_attrs, y_classOf, y_alive, y_orders, y_lengths, y_letters, y_bases, y_vals, y_ops, y_locals, y_fRecv, y_fLine, y_fPos, y_fStmt, y_fTarget, y_fMask, y_fHome, y_fOps, y_fVals, y_fNew, y_out) := by
  subst hk
  exact hs_yTokC h hp
theorem hs_tkN {t : Nat} (h : hs_isN t = true) : hs_tk t = 100 ∧ 100 ≤ t ∧ t < 126 := by
  unfold hs_isN at h
  have h := of_decide_eq_true h
  unfold hs_tk
  rw [if_neg (by omega), if_neg (by omega), if_pos (by omega)]
  exact ⟨rfl, h⟩
theorem hs_tkC {t : Nat} (h : hs_isC t = true) : hs_tk t = 130 ∧ 130 ≤ t ∧ t < 156 := by
  unfold hs_isC at h
  have h := of_decide_eq_true h
  unfold hs_tk
  rw [if_neg (by omega), if_pos (by omega)]
  exact ⟨rfl, h⟩
theorem hs_tkB {t : Nat} (h : 1000 ≤ t) : hs_tk t = 1000 := if_pos h
theorem hs_tkS {t : Nat} (h : t < 100) : hs_tk t = t := by
  unfold hs_tk
  rw [if_neg (by omega), if_neg (by omega), if_neg (by omega)]
/-- a token as put writes it -/
def hs_vt (t : Nat) : Prop := (1 ≤ t ∧ t ≤ 13) ∨ (21 ≤ t ∧ t ≤ 33) ∨ hs_isN t = true ∨ hs_isC t = true ∨ 1000 ≤ t
theorem hs_isNf {t : Nat} (hv : hs_vt t) (h : hs_isN t = false) : hs_tk t ≠ 100 := by
  unfold hs_isN at h
  have h1 := of_decide_eq_false h
  rcases hv with h2 | h2 | h2 | h2 | h2
  · rw [hs_tkS (by omega)]; omega
  · rw [hs_tkS (by omega)]; omega
  · unfold hs_isN at h2; rw [h] at h2; cases h2
  · have := hs_tkC h2; omega
  · rw [hs_tkB h2]; omega
-- operands
theorem hs_yNum {tx : Nat → Int32} {p t vt : Nat} {r : List Nat} (h : hs_TA tx p (t :: r)) (ht : 1000 ≤ t) (hv : vt < 320) {post : Int32 → SY → Prop} (H : post 0 (y_maxObjects, y_maxSteps, y_maxDepth, y_kept, y_end, y_tokens, y_pending, y_lines, y_classes, y_prints, y_place, y_steps, y_d, nI (vt + 1), y_opTop, y_opens, nI (p + 1), nI 1000, nI (t - 1000), y_stmt, y_target, y_err, y_code, y_outcome, y_result, y_dry, 0, y_starting, y_ended, y_bad, y_hosted, y_sawSuper, tx, y_numbers, y_globals, y_entries, y_attrs, y_classOf, y_alive, y_orders, y_lengths, y_letters, y_bases, vp_updL y_vals vt (hs_int (nI (t - 1000))), y_ops, y_locals, y_fRecv, y_fLine, y_fPos, y_fStmt, y_fTarget, y_fMask, y_fHome, y_fOps, y_fVals, y_fNew, y_out)) : wpY_expressionToken post (y_maxObjects, y_maxSteps, y_maxDepth, y_kept, y_end, y_tokens, y_pending, y_lines, y_classes, y_prints, y_place, y_steps, y_d, nI vt, y_opTop, y_opens, nI p, y_tk, y_tv, y_stmt, y_target, y_err, y_code, y_outcome, y_result, y_dry, 1, y_starting, y_ended, y_bad, y_hosted, y_sawSuper, tx, y_numbers, y_globals, y_entries, y_attrs, y_classOf, y_alive, y_orders, y_lengths, y_letters, y_bases, y_vals, y_ops, y_locals, y_fRecv, y_fLine, y_fPos, y_fStmt, y_fTarget, y_fMask, y_fHome, y_fOps, y_fVals, y_fNew, y_out) := by
  unfold wpY_expressionToken
  refine hs_yTokK h 1000 (hs_tkB ht) (br_f (by decide) ?_)
  unfold wpY_operand
  exact br_t rfl (hs_yValueInt hv H)
theorem hs_yNone {tx : Nat → Int32} {p vt : Nat} {r : List Nat} (h : hs_TA tx p (12 :: r)) (hv : vt < 320) {post : Int32 → SY → Prop} (H : post 0 (y_maxObjects, y_maxSteps, y_maxDepth, y_kept, y_end, y_tokens, y_pending, y_lines, y_classes, y_prints, y_place, y_steps, y_d, nI (vt + 1), y_opTop, y_opens, nI (p + 1), nI 12, nI (12 - 12), y_stmt, y_target, y_err, y_code, y_outcome, y_result, y_dry, 0, y_starting, y_ended, y_bad, y_hosted, y_sawSuper, tx, y_numbers, y_globals, y_entries, y_attrs, y_classOf, y_alive, y_orders, y_lengths, y_letters, y_bases, vp_updL y_vals vt 4294967296, y_ops, y_locals, y_fRecv, y_fLine, y_fPos, y_fStmt, y_fTarget, y_fMask, y_fHome, y_fOps, y_fVals, y_fNew, y_out)) : wpY_expressionToken post (y_maxObjects, y_maxSteps, y_maxDepth, y_kept, y_end, y_tokens, y_pending, y_lines, y_classes, y_prints, y_place, y_steps, y_d, nI vt, y_opTop, y_opens, nI p, y_tk, y_tv, y_stmt, y_target, y_err, y_code, y_outcome, y_result, y_dry, 1, y_starting, y_ended, y_bad, y_hosted, y_sawSuper, tx, y_numbers, y_globals, y_entries, y_attrs, y_classOf, y_alive, y_orders, y_lengths, y_letters, y_bases, y_vals, y_ops, y_locals, y_fRecv, y_fLine, y_fPos, y_fStmt, y_fTarget, y_fMask, y_fHome, y_fOps, y_fVals, y_fNew, y_out) := by
  unfold wpY_expressionToken
  refine hs_yTokK h 12 (hs_tkS (by decide)) (br_f (by decide) ?_)
  unfold wpY_operand
  exact br_f (hs_ne (a := 12) (b := 1000) (by decide) (by decide) (by decide)) (br_t rfl (hs_yValue hv H))
theorem hs_yNameD {tx : Nat → Int32} {p t vt : Nat} {r : List Nat} (h : hs_TA tx p (t :: r)) (ht : hs_isN t = true) (hv : vt < 320) {post : Int32 → SY → Prop} (H : post 0 (y_maxObjects, y_maxSteps, y_maxDepth, y_kept, y_end, y_tokens, y_pending, y_lines, y_classes, y_prints, y_place, y_steps, y_d, nI (vt + 1), y_opTop, y_opens, nI (p + 1), nI 100, nI (t - 100), y_stmt, y_target, y_err, y_code, y_outcome, y_result, 1, 0, y_starting, y_ended, y_bad, y_hosted, y_sawSuper, tx, y_numbers, y_globals, y_entries, y_attrs, y_classOf, y_alive, y_orders, y_lengths, y_letters, y_bases, vp_updL y_vals vt 1, y_ops, y_locals, y_fRecv, y_fLine, y_fPos, y_fStmt, y_fTarget, y_fMask, y_fHome, y_fOps, y_fVals, y_fNew, y_out)) : wpY_expressionToken post (y_maxObjects, y_maxSteps, y_maxDepth, y_kept, y_end, y_tokens, y_pending, y_lines, y_classes, y_prints, y_place, y_steps, y_d, nI vt, y_opTop, y_opens, nI p, y_tk, y_tv, y_stmt, y_target, y_err, y_code, y_outcome, y_result, 1, 1, y_starting, y_ended, y_bad, y_hosted, y_sawSuper, tx, y_numbers, y_globals, y_entries, y_attrs, y_classOf, y_alive, y_orders, y_lengths, y_letters, y_bases, y_vals, y_ops, y_locals, y_fRecv, y_fLine, y_fPos, y_fStmt, y_fTarget, y_fMask, y_fHome, y_fOps, y_fVals, y_fNew, y_out) := by
  unfold wpY_expressionToken
  refine hs_yTokK h 100 (hs_tkN ht).1 (br_f (by decide) ?_)
  unfold wpY_operand
  refine br_f (hs_ne (a := 100) (b := 1000) (by decide) (by decide) (by decide)) (br_f (hs_ne (a := 100) (b := 12) (by decide) (by decide) (by decide)) (br_t rfl (br_f (by decide) ?_)))
  unfold wY_operand_63 wY_operand_75
  exact br_f (by decide) (hs_yValue hv H)
theorem hs_yNameR {tx : Nat → Int32} {p t : Nat} {r : List Nat} (h : hs_TA tx p (t :: r)) (ht : hs_isN t = true) {post : Int32 → SY → Prop} (H : wpY_variableNow (fun x => wY_operand_63 (fun u => match u with | (y_maxObjectsq, y_maxStepsq, y_maxDepthq, y_keptq, y_endq, y_tokensq, y_pendingq, y_linesq, y_classesq, y_printsq, y_placeq, y_stepsq, y_dq, y_valTopq, y_opTopq, y_opensq, y_posq, y_tkq, y_tvq, y_stmtq, y_targetq, y_errq, y_codeq, y_outcomeq, y_resultq, y_dryq, y_wantq, y_startingq, y_endedq, y_badq, y_hostedq, y_sawSuperq, y_textq, y_numbersq, y_globalsq, y_entriesq, y_attrsq, y_classOfq, y_aliveq, y_ordersq, y_lengthsq, y_lettersq, y_basesq, y_valsq, y_opsq, y_localsq, y_fRecvq, y_fLineq, y_fPosq, y_fStmtq, y_fTargetq, y_fMaskq, y_fHomeq, y_fOpsq, y_fValsq, y_fNewq, y_outq) => post 0 (y_maxObjectsq, y_maxStepsq, y_maxDepthq, y_keptq, y_endq, y_tokensq, y_pendingq, y_linesq, y_classesq, y_printsq, y_placeq, y_stepsq, y_dq, y_valTopq, y_opTopq, y_opensq, y_posq, y_tkq, y_tvq, y_stmtq, y_targetq, y_errq, y_codeq, y_outcomeq, y_resultq, y_dryq, y_wantq, y_startingq, y_endedq, y_badq, y_hostedq, y_sawSuperq, y_textq, y_numbersq, y_globalsq, y_entriesq, y_attrsq, y_classOfq, y_aliveq, y_ordersq, y_lengthsq, y_lettersq, y_basesq, y_valsq, y_opsq, y_localsq, y_fRecvq, y_fLineq, y_fPosq, y_fStmtq, y_fTargetq, y_fMaskq, y_fHomeq, y_fOpsq, y_fValsq, y_fNewq, y_outq)) x y_maxObjects y_maxSteps y_maxDepth y_kept y_end y_tokens y_pending y_lines y_classes y_prints y_place y_steps y_d y_valTop y_opTop y_opens (nI (p + 1)) (nI 100) (nI (t - 100)) y_stmt y_target y_err y_code y_outcome y_result 0 1 y_starting y_ended y_bad y_hosted y_sawSuper tx y_numbers y_globals y_entries y_attrs y_classOf y_alive y_orders y_lengths y_letters y_bases y_vals y_ops y_locals y_fRecv y_fLine y_fPos y_fStmt y_fTarget y_fMask y_fHome y_fOps y_fVals y_fNew y_out) (y_maxObjects, y_maxSteps, y_maxDepth, y_kept, y_end, y_tokens, y_pending, y_lines, y_classes, y_prints, y_place, y_steps, y_d, y_valTop, y_opTop, y_opens, nI (p + 1), nI 100, nI (t - 100), y_stmt, y_target, y_err, y_code, y_outcome, y_result, 0, 1, y_starting, y_ended, y_bad, y_hosted, y_sawSuper, tx, y_numbers, y_globals, y_entries, y_attrs, y_classOf, y_alive, y_orders, y_lengths, y_letters, y_bases, y_vals, y_ops, y_locals, y_fRecv, y_fLine, y_fPos, y_fStmt, y_fTarget, y_fMask, y_fHome, y_fOps, y_fVals, y_fNew, y_out) (nI (t - 100))) : wpY_expressionToken post (y_maxObjects, y_maxSteps, y_maxDepth, y_kept, y_end, y_tokens, y_pending, y_lines, y_classes, y_prints, y_place, y_steps, y_d, y_valTop, y_opTop, y_opens, nI p, y_tk, y_tv, y_stmt, y_target, y_err, y_code, y_outcome, y_result, 0, 1, y_starting, y_ended, y_bad, y_hosted, y_sawSuper, tx, y_numbers, y_globals, y_entries, y_attrs, y_classOf, y_alive, y_orders, y_lengths, y_letters, y_bases, y_vals, y_ops, y_locals, y_fRecv, y_fLine, y_fPos, y_fStmt, y_fTarget, y_fMask, y_fHome, y_fOps, y_fVals, y_fNew, y_out) := by
  unfold wpY_expressionToken
  refine hs_yTokK h 100 (hs_tkN ht).1 (br_f (by decide) ?_)
  unfold wpY_operand
  exact br_f (hs_ne (a := 100) (b := 1000) (by decide) (by decide) (by decide)) (br_f (hs_ne (a := 100) (b := 12) (by decide) (by decide) (by decide)) (br_t rfl (br_t rfl H)))
theorem hs_yOpenR {tx : Nat → Int32} {p ot : Nat} {r : List Nat} (h : hs_TA tx p (21 :: r)) (ho : ot < 320) {post : Int32 → SY → Prop} (H : post 0 (y_maxObjects, y_maxSteps, y_maxDepth, y_kept, y_end, y_tokens, y_pending, y_lines, y_classes, y_prints, y_place, y_steps, y_d, y_valTop, nI (ot + 1), y_opens + 1, nI (p + 1), nI 21, nI (21 - 21), y_stmt, y_target, y_err, y_code, y_outcome, y_result, 0, 1, y_starting, y_ended, y_bad, y_hosted, y_sawSuper, tx, y_numbers, y_globals, y_entries, y_attrs, y_classOf, y_alive, y_orders, y_lengths, y_letters, y_bases, y_vals, upd y_ops ot 1, y_locals, y_fRecv, y_fLine, y_fPos, y_fStmt, y_fTarget, y_fMask, y_fHome, y_fOps, y_fVals, y_fNew, y_out)) : wpY_expressionToken post (y_maxObjects, y_maxSteps, y_maxDepth, y_kept, y_end, y_tokens, y_pending, y_lines, y_classes, y_prints, y_place, y_steps, y_d, y_valTop, nI ot, y_opens, nI p, y_tk, y_tv, y_stmt, y_target, y_err, y_code, y_outcome, y_result, 0, 1, y_starting, y_ended, y_bad, y_hosted, y_sawSuper, tx, y_numbers, y_globals, y_entries, y_attrs, y_classOf, y_alive, y_orders, y_lengths, y_letters, y_bases, y_vals, y_ops, y_locals, y_fRecv, y_fLine, y_fPos, y_fStmt, y_fTarget, y_fMask, y_fHome, y_fOps, y_fVals, y_fNew, y_out) := by
  unfold wpY_expressionToken
  refine hs_yTokK h 21 (hs_tkS (by decide)) (br_f (by decide) ?_)
  unfold wpY_operand
  exact br_f (hs_ne (a := 21) (b := 1000) (by decide) (by decide) (by decide)) (br_f (hs_ne (a := 21) (b := 12) (by decide) (by decide) (by decide)) (br_f (hs_ne (a := 21) (b := 100) (by decide) (by decide) (by decide)) (br_t rfl (hs_yParenR ho H))))
theorem hs_yOpenD {tx : Nat → Int32} {p ot on : Nat} {r : List Nat} (h : hs_TA tx p (21 :: r)) (ho : ot < 320) (hn : on < 1000) {post : Int32 → SY → Prop} (H : on < 4 → post 0 (y_maxObjects, y_maxSteps, y_maxDepth, y_kept, y_end, y_tokens, y_pending, y_lines, y_classes, y_prints, y_place, y_steps, y_d, y_valTop, nI (ot + 1), nI (on + 1), nI (p + 1), nI 21, nI (21 - 21), y_stmt, y_target, y_err, y_code, y_outcome, y_result, 1, 1, y_starting, y_ended, y_bad, y_hosted, y_sawSuper, tx, y_numbers, y_globals, y_entries, y_attrs, y_classOf, y_alive, y_orders, y_lengths, y_letters, y_bases, y_vals, upd y_ops ot 1, y_locals, y_fRecv, y_fLine, y_fPos, y_fStmt, y_fTarget, y_fMask, y_fHome, y_fOps, y_fVals, y_fNew, y_out)) (Hb : 4 ≤ on → post 0 (y_maxObjects, y_maxSteps, y_maxDepth, y_kept, y_end, y_tokens, y_pending, y_lines, y_classes, y_prints, y_place, y_steps, y_d, y_valTop, nI (ot + 1), nI (on + 1), nI (p + 1), nI 21, nI (21 - 21), y_stmt, y_target, y_err, y_code, y_outcome, y_result, 1, 1, y_starting, y_ended, 1, y_hosted, y_sawSuper, tx, y_numbers, y_globals, y_entries, y_attrs, y_classOf, y_alive, y_orders, y_lengths, y_letters, y_bases, y_vals, upd y_ops ot 1, y_locals, y_fRecv, y_fLine, y_fPos, y_fStmt, y_fTarget, y_fMask, y_fHome, y_fOps, y_fVals, y_fNew, y_out)) : wpY_expressionToken post (y_maxObjects, y_maxSteps, y_maxDepth, y_kept, y_end, y_tokens, y_pending, y_lines, y_classes, y_prints, y_place, y_steps, y_d, y_valTop, nI ot, nI on, nI p, y_tk, y_tv, y_stmt, y_target, y_err, y_code, y_outcome, y_result, 1, 1, y_starting, y_ended, y_bad, y_hosted, y_sawSuper, tx, y_numbers, y_globals, y_entries, y_attrs, y_classOf, y_alive, y_orders, y_lengths, y_letters, y_bases, y_vals, y_ops, y_locals, y_fRecv, y_fLine, y_fPos, y_fStmt, y_fTarget, y_fMask, y_fHome, y_fOps, y_fVals, y_fNew, y_out) := by
  unfold wpY_expressionToken
  refine hs_yTokK h 21 (hs_tkS (by decide)) (br_f (by decide) ?_)
  unfold wpY_operand
  exact br_f (hs_ne (a := 21) (b := 1000) (by decide) (by decide) (by decide)) (br_f (hs_ne (a := 21) (b := 12) (by decide) (by decide) (by decide)) (br_f (hs_ne (a := 21) (b := 100) (by decide) (by decide) (by decide)) (br_t rfl (hs_yParenD ho hn H Hb))))
theorem hs_TAh {tx : Nat → Int32} : ∀ {ts : List Nat} {p k : Nat}, hs_TA tx p ts → ¬ hs_en k → k < 2 ^ 31 → (tx p = nI k ↔ hs_hd ts = k)
  | [], p, k, h, h1, h2 => by
    refine ⟨fun e => absurd ?_ h1, fun e => absurd (Or.inl e.symm) h1⟩
    have := h.2.1
    unfold hs_g at this
    rw [e, nI_clamp h2] at this
    exact this
  | t :: r, p, k, h, h1, h2 => by
    obtain ⟨a, b, c, _⟩ := hs_TAc h
    rw [a, nI_eq c h2]
    rfl
theorem hs_op64 (c a : Nat) : nI c + 64 * nI a = nI (c + 64 * a) := by
  show nI c + nI 64 * nI a = _
  rw [pk_mul, nI_add]
theorem hs_notEn {k : Nat} (h : k ≠ 0) (h2 : k < 40 ∨ 48 < k) : ¬ hs_en k := by
  rintro (z | z) <;> omega
-- a class and its parenthesis
theorem hs_yNewR {tx : Nat → Int32} {p t ot : Nat} {r : List Nat} (h : hs_TA tx p (t :: 21 :: r)) (ht : hs_isC t = true) (ho : ot < 320) {post : Int32 → SY → Prop} (H : post 0 (y_maxObjects, y_maxSteps, y_maxDepth, y_kept, y_end, y_tokens, y_pending, y_lines, y_classes, y_prints, y_place, y_steps, y_d, y_valTop, nI (ot + 1), y_opens + 1, nI (p + 1 + 1), nI 21, nI (21 - 21), y_stmt, y_target, y_err, y_code, y_outcome, y_result, 0, 1, y_starting, y_ended, y_bad, y_hosted, y_sawSuper, tx, y_numbers, y_globals, y_entries, y_attrs, y_classOf, y_alive, y_orders, y_lengths, y_letters, y_bases, y_vals, upd y_ops ot (nI (4 + 64 * (t - 130))), y_locals, y_fRecv, y_fLine, y_fPos, y_fStmt, y_fTarget, y_fMask, y_fHome, y_fOps, y_fVals, y_fNew, y_out)) : wpY_expressionToken post (y_maxObjects, y_maxSteps, y_maxDepth, y_kept, y_end, y_tokens, y_pending, y_lines, y_classes, y_prints, y_place, y_steps, y_d, y_valTop, nI ot, y_opens, nI p, y_tk, y_tv, y_stmt, y_target, y_err, y_code, y_outcome, y_result, 0, 1, y_starting, y_ended, y_bad, y_hosted, y_sawSuper, tx, y_numbers, y_globals, y_entries, y_attrs, y_classOf, y_alive, y_orders, y_lengths, y_letters, y_bases, y_vals, y_ops, y_locals, y_fRecv, y_fLine, y_fPos, y_fStmt, y_fTarget, y_fMask, y_fHome, y_fOps, y_fVals, y_fNew, y_out) := by
  unfold wpY_expressionToken
  refine hs_yTokK h 130 (hs_tkC ht).1 (br_f (by decide) ?_)
  unfold wpY_operand
  refine br_f (hs_ne (a := 130) (b := 1000) (by decide) (by decide) (by decide)) (br_f (hs_ne (a := 130) (b := 12) (by decide) (by decide) (by decide)) (br_f (hs_ne (a := 130) (b := 100) (by decide) (by decide) (by decide)) (br_f (hs_ne (a := 130) (b := 21) (by decide) (by decide) (by decide)) (br_t rfl ?_))))
  unfold wpY_ofClass
  refine hs_yTokK (hs_TAc h).2.2.2.2.2 21 (hs_tkS (by decide)) (br_t rfl (hs_yParenR ho ?_))
  rw [show (4 : Int32) = nI 4 from rfl, hs_op64]
  exact H
theorem hs_yNewD {tx : Nat → Int32} {p t ot on : Nat} {r : List Nat} (h : hs_TA tx p (t :: 21 :: r)) (ht : hs_isC t = true) (ho : ot < 320) (hn : on < 1000) {post : Int32 → SY → Prop} (H : on < 4 → post 0 (y_maxObjects, y_maxSteps, y_maxDepth, y_kept, y_end, y_tokens, y_pending, y_lines, y_classes, y_prints, y_place, y_steps, y_d, y_valTop, nI (ot + 1), nI (on + 1), nI (p + 1 + 1), nI 21, nI (21 - 21), y_stmt, y_target, y_err, y_code, y_outcome, y_result, 1, 1, y_starting, y_ended, y_bad, y_hosted, y_sawSuper, tx, y_numbers, y_globals, y_entries, y_attrs, y_classOf, y_alive, y_orders, y_lengths, y_letters, y_bases, y_vals, upd y_ops ot (nI (4 + 64 * (t - 130))), y_locals, y_fRecv, y_fLine, y_fPos, y_fStmt, y_fTarget, y_fMask, y_fHome, y_fOps, y_fVals, y_fNew, y_out)) (Hb : 4 ≤ on → post 0 (y_maxObjects, y_maxSteps, y_maxDepth, y_kept, y_end, y_tokens, y_pending, y_lines, y_classes, y_prints, y_place, y_steps, y_d, y_valTop, nI (ot + 1), nI (on + 1), nI (p + 1 + 1), nI 21, nI (21 - 21), y_stmt, y_target, y_err, y_code, y_outcome, y_result, 1, 1, y_starting, y_ended, 1, y_hosted, y_sawSuper, tx, y_numbers, y_globals, y_entries, y_attrs, y_classOf, y_alive, y_orders, y_lengths, y_letters, y_bases, y_vals, upd y_ops ot (nI (4 + 64 * (t - 130))), y_locals, y_fRecv, y_fLine, y_fPos, y_fStmt, y_fTarget, y_fMask, y_fHome, y_fOps, y_fVals, y_fNew, y_out)) : wpY_expressionToken post (y_maxObjects, y_maxSteps, y_maxDepth, y_kept, y_end, y_tokens, y_pending, y_lines, y_classes, y_prints, y_place, y_steps, y_d, y_valTop, nI ot, nI on, nI p, y_tk, y_tv, y_stmt, y_target, y_err, y_code, y_outcome, y_result, 1, 1, y_starting, y_ended, y_bad, y_hosted, y_sawSuper, tx, y_numbers, y_globals, y_entries, y_attrs, y_classOf, y_alive, y_orders, y_lengths, y_letters, y_bases, y_vals, y_ops, y_locals, y_fRecv, y_fLine, y_fPos, y_fStmt, y_fTarget, y_fMask, y_fHome, y_fOps, y_fVals, y_fNew, y_out) := by
  unfold wpY_expressionToken
  refine hs_yTokK h 130 (hs_tkC ht).1 (br_f (by decide) ?_)
  unfold wpY_operand
  refine br_f (hs_ne (a := 130) (b := 1000) (by decide) (by decide) (by decide)) (br_f (hs_ne (a := 130) (b := 12) (by decide) (by decide) (by decide)) (br_f (hs_ne (a := 130) (b := 100) (by decide) (by decide) (by decide)) (br_f (hs_ne (a := 130) (b := 21) (by decide) (by decide) (by decide)) (br_t rfl ?_))))
  unfold wpY_ofClass
  refine hs_yTokK (hs_TAc h).2.2.2.2.2 21 (hs_tkS (by decide)) (br_t rfl ?_)
  rw [show (4 : Int32) = nI 4 from rfl, hs_op64]
  exact hs_yParenD ho hn H Hb
end
