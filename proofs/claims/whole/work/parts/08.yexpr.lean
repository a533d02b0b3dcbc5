/-! Y's expression tokens, a theorem a rule -/
section
variable {x_objectLimit x_stepLimit x_depthLimit x_pendingCount x_keptTokens x_keptLines x_lineCount x_codeCount x_cursor x_stop x_waitingCount x_openCount x_classCount x_callCount x_operandCount x_stepsTaken x_error x_raisedCode x_printCount x_lastPlace : Int32} {x_lastResult : Int64} {x_pending x_lineTable x_orders x_merging x_letterClass x_objectClass x_calls x_lastPrints : Nat → Int32} {x_code x_waiting x_globals x_entries x_attributes x_held x_operands : Nat → Int64}
variable {y_maxObjects y_maxSteps y_maxDepth y_kept y_end y_tokens y_pending y_lines y_classes y_prints y_place y_steps y_d y_valTop y_opTop y_opens y_pos y_tk y_tv y_stmt y_target y_err y_code y_outcome y_dry y_want y_starting y_ended y_bad y_hosted y_sawSuper : Int32} {y_result : Int64} {y_text y_numbers y_classOf y_alive y_orders y_lengths y_letters y_bases y_ops y_fLine y_fPos y_fStmt y_fTarget y_fMask y_fHome y_fOps y_fVals y_fNew y_out : Nat → Int32} {y_globals y_entries y_attrs y_vals y_locals y_fRecv : Nat → Int64}
theorem hs_ne {a b : Nat} (h : a ≠ b) (ha : a < 2 ^ 31) (hb : b < 2 ^ 31) : ¬ nI a = nI b := fun e => h ((nI_eq ha hb).mp e)
theorem hs_yTokK {tx : Nat → Int32} {p t : Nat} {r : List Nat} (h : hs_TA tx p (t :: r)) (k : Nat) (hk : hs_tk t = k) {post : SY → Prop} (hp : post (y_maxObjects, y_maxSteps, y_maxDepth, y_kept, y_end, y_tokens, y_pending, y_lines, y_classes, y_prints, y_place, y_steps, y_d, y_valTop, y_opTop, y_opens, nI (p + 1), nI k, nI (t - k), y_stmt, y_target, y_err, y_code, y_outcome, y_result, y_dry, y_want, y_starting, y_ended, y_bad, y_hosted, y_sawSuper, tx, y_numbers, y_globals, y_entries, y_attrs, y_classOf, y_alive, y_orders, y_lengths, y_letters, y_bases, y_vals, y_ops, y_locals, y_fRecv, y_fLine, y_fPos, y_fStmt, y_fTarget, y_fMask, y_fHome, y_fOps, y_fVals, y_fNew, y_out)) : wpY_tok post (y_maxObjects, y_maxSteps, y_maxDepth, y_kept, y_end, y_tokens, y_pending, y_lines, y_classes, y_prints, y_place, y_steps, y_d, y_valTop, y_opTop, y_opens, nI p, y_tk, y_tv, y_stmt, y_target, y_err, y_code, y_outcome, y_result, y_dry, y_want, y_starting, y_ended, y_bad, y_hosted, y_sawSuper, tx, y_numbers, y_globals, y_entries, y_attrs, y_classOf, y_alive, y_orders, y_lengths, y_letters, y_bases, y_vals, y_ops, y_locals, y_fRecv, y_fLine, y_fPos, y_fStmt, y_fTarget, y_fMask, y_fHome, y_fOps, y_fVals, y_fNew, y_out) := by
  subst hk
  exact hs_yTokC h hp
theorem hs_tkN {t : Nat} (h : hs_isN t = true) : hs_tk t = 100 ∧ 100 ≤ t ∧ t < 126 := by
  unfold hs_isN at h
  have h := of_decide_eq_true h
  unfold hs_tk
  rw [if_neg (by omega), if_neg (by omega), if_pos (by omega)]
  exact ⟨rfl, h⟩
theorem hs_tkC {t : Nat} (h : hs_isC t = true) : hs_tk t = 130 ∧ 130 ≤ t ∧ t < 156 := by
  unfold hs_isC at h
  have h := of_decide_eq_true h
  unfold hs_tk
  rw [if_neg (by omega), if_pos (by omega)]
  exact ⟨rfl, h⟩
theorem hs_tkB {t : Nat} (h : 1000 ≤ t) : hs_tk t = 1000 := if_pos h
theorem hs_tkS {t : Nat} (h : t < 100) : hs_tk t = t := by
  unfold hs_tk
  rw [if_neg (by omega), if_neg (by omega), if_neg (by omega)]
/-- a token as put writes it -/
def hs_vt (t : Nat) : Prop := (1 ≤ t ∧ t ≤ 13) ∨ (21 ≤ t ∧ t ≤ 33) ∨ hs_isN t = true ∨ hs_isC t = true ∨ 1000 ≤ t
theorem hs_isNf {t : Nat} (hv : hs_vt t) (h : hs_isN t = false) : hs_tk t ≠ 100 := by
  unfold hs_isN at h
  have h1 := of_decide_eq_false h
  rcases hv with h2 | h2 | h2 | h2 | h2
  · rw [hs_tkS (by omega)]; omega
  · rw [hs_tkS (by omega)]; omega
  · unfold hs_isN at h2; rw [h] at h2; cases h2
  · have := hs_tkC h2; omega
  · rw [hs_tkB h2]; omega
-- operands
theorem hs_yNum {tx : Nat → Int32} {p t vt : Nat} {r : List Nat} (h : hs_TA tx p (t :: r)) (ht : 1000 ≤ t) (hv : vt < 320) {post : Int32 → SY → Prop} (H : post 0 (y_maxObjects, y_maxSteps, y_maxDepth, y_kept, y_end, y_tokens, y_pending, y_lines, y_classes, y_prints, y_place, y_steps, y_d, nI (vt + 1), y_opTop, y_opens, nI (p + 1), nI 1000, nI (t - 1000), y_stmt, y_target, y_err, y_code, y_outcome, y_result, y_dry, 0, y_starting, y_ended, y_bad, y_hosted, y_sawSuper, tx, y_numbers, y_globals, y_entries, y_attrs, y_classOf, y_alive, y_orders, y_lengths, y_letters, y_bases, vp_updL y_vals vt (hs_int (nI (t - 1000))), y_ops, y_locals, y_fRecv, y_fLine, y_fPos, y_fStmt, y_fTarget, y_fMask, y_fHome, y_fOps, y_fVals, y_fNew, y_out)) : wpY_expressionToken post (y_maxObjects, y_maxSteps, y_maxDepth, y_kept, y_end, y_tokens, y_pending, y_lines, y_classes, y_prints, y_place, y_steps, y_d, nI vt, y_opTop, y_opens, nI p, y_tk, y_tv, y_stmt, y_target, y_err, y_code, y_outcome, y_result, y_dry, 1, y_starting, y_ended, y_bad, y_hosted, y_sawSuper, tx, y_numbers, y_globals, y_entries, y_attrs, y_classOf, y_alive, y_orders, y_lengths, y_letters, y_bases, y_vals, y_ops, y_locals, y_fRecv, y_fLine, y_fPos, y_fStmt, y_fTarget, y_fMask, y_fHome, y_fOps, y_fVals, y_fNew, y_out) := by
  unfold wpY_expressionToken
  refine hs_yTokK h 1000 (hs_tkB ht) (br_f (by decide) ?_)
  unfold wpY_operand
  exact br_t rfl (hs_yValueInt hv H)
theorem hs_yNone {tx : Nat → Int32} {p vt : Nat} {r : List Nat} (h : hs_TA tx p (12 :: r)) (hv : vt < 320) {post : Int32 → SY → Prop} (H : post 0 (y_maxObjects, y_maxSteps, y_maxDepth, y_kept, y_end, y_tokens, y_pending, y_lines, y_classes, y_prints, y_place, y_steps, y_d, nI (vt + 1), y_opTop, y_opens, nI (p + 1), nI 12, nI (12 - 12), y_stmt, y_target, y_err, y_code, y_outcome, y_result, y_dry, 0, y_starting, y_ended, y_bad, y_hosted, y_sawSuper, tx, y_numbers, y_globals, y_entries, y_attrs, y_classOf, y_alive, y_orders, y_lengths, y_letters, y_bases, vp_updL y_vals vt 4294967296, y_ops, y_locals, y_fRecv, y_fLine, y_fPos, y_fStmt, y_fTarget, y_fMask, y_fHome, y_fOps, y_fVals, y_fNew, y_out)) : wpY_expressionToken post (y_maxObjects, y_maxSteps, y_maxDepth, y_kept, y_end, y_tokens, y_pending, y_lines, y_classes, y_prints, y_place, y_steps, y_d, nI vt, y_opTop, y_opens, nI p, y_tk, y_tv, y_stmt, y_target, y_err, y_code, y_outcome, y_result, y_dry, 1, y_starting, y_ended, y_bad, y_hosted, y_sawSuper, tx, y_numbers, y_globals, y_entries, y_attrs, y_classOf, y_alive, y_orders, y_lengths, y_letters, y_bases, y_vals, y_ops, y_locals, y_fRecv, y_fLine, y_fPos, y_fStmt, y_fTarget, y_fMask, y_fHome, y_fOps, y_fVals, y_fNew, y_out) := by
  unfold wpY_expressionToken
  refine hs_yTokK h 12 (hs_tkS (by decide)) (br_f (by decide) ?_)
  unfold wpY_operand
  exact br_f (hs_ne (a := 12) (b := 1000) (by decide) (by decide) (by decide)) (br_t rfl (hs_yValue hv H))
theorem hs_yNameD {tx : Nat → Int32} {p t vt : Nat} {r : List Nat} (h : hs_TA tx p (t :: r)) (ht : hs_isN t = true) (hv : vt < 320) {post : Int32 → SY → Prop} (H : post 0 (y_maxObjects, y_maxSteps, y_maxDepth, y_kept, y_end, y_tokens, y_pending, y_lines, y_classes, y_prints, y_place, y_steps, y_d, nI (vt + 1), y_opTop, y_opens, nI (p + 1), nI 100, nI (t - 100), y_stmt, y_target, y_err, y_code, y_outcome, y_result, 1, 0, y_starting, y_ended, y_bad, y_hosted, y_sawSuper, tx, y_numbers, y_globals, y_entries, y_attrs, y_classOf, y_alive, y_orders, y_lengths, y_letters, y_bases, vp_updL y_vals vt 1, y_ops, y_locals, y_fRecv, y_fLine, y_fPos, y_fStmt, y_fTarget, y_fMask, y_fHome, y_fOps, y_fVals, y_fNew, y_out)) : wpY_expressionToken post (y_maxObjects, y_maxSteps, y_maxDepth, y_kept, y_end, y_tokens, y_pending, y_lines, y_classes, y_prints, y_place, y_steps, y_d, nI vt, y_opTop, y_opens, nI p, y_tk, y_tv, y_stmt, y_target, y_err, y_code, y_outcome, y_result, 1, 1, y_starting, y_ended, y_bad, y_hosted, y_sawSuper, tx, y_numbers, y_globals, y_entries, y_attrs, y_classOf, y_alive, y_orders, y_lengths, y_letters, y_bases, y_vals, y_ops, y_locals, y_fRecv, y_fLine, y_fPos, y_fStmt, y_fTarget, y_fMask, y_fHome, y_fOps, y_fVals, y_fNew, y_out) := by
  unfold wpY_expressionToken
  refine hs_yTokK h 100 (hs_tkN ht).1 (br_f (by decide) ?_)
  unfold wpY_operand
  refine br_f (hs_ne (a := 100) (b := 1000) (by decide) (by decide) (by decide)) (br_f (hs_ne (a := 100) (b := 12) (by decide) (by decide) (by decide)) (br_t rfl (br_f (by decide) ?_)))
  unfold wY_operand_63 wY_operand_75
  exact br_f (by decide) (hs_yValue hv H)
theorem hs_yNameR {tx : Nat → Int32} {p t : Nat} {r : List Nat} (h : hs_TA tx p (t :: r)) (ht : hs_isN t = true) {post : Int32 → SY → Prop} (H : wpY_variableNow (fun x => wY_operand_63 (fun u => match u with | (y_maxObjectsq, y_maxStepsq, y_maxDepthq, y_keptq, y_endq, y_tokensq, y_pendingq, y_linesq, y_classesq, y_printsq, y_placeq, y_stepsq, y_dq, y_valTopq, y_opTopq, y_opensq, y_posq, y_tkq, y_tvq, y_stmtq, y_targetq, y_errq, y_codeq, y_outcomeq, y_resultq, y_dryq, y_wantq, y_startingq, y_endedq, y_badq, y_hostedq, y_sawSuperq, y_textq, y_numbersq, y_globalsq, y_entriesq, y_attrsq, y_classOfq, y_aliveq, y_ordersq, y_lengthsq, y_lettersq, y_basesq, y_valsq, y_opsq, y_localsq, y_fRecvq, y_fLineq, y_fPosq, y_fStmtq, y_fTargetq, y_fMaskq, y_fHomeq, y_fOpsq, y_fValsq, y_fNewq, y_outq) => post 0 (y_maxObjectsq, y_maxStepsq, y_maxDepthq, y_keptq, y_endq, y_tokensq, y_pendingq, y_linesq, y_classesq, y_printsq, y_placeq, y_stepsq, y_dq, y_valTopq, y_opTopq, y_opensq, y_posq, y_tkq, y_tvq, y_stmtq, y_targetq, y_errq, y_codeq, y_outcomeq, y_resultq, y_dryq, y_wantq, y_startingq, y_endedq, y_badq, y_hostedq, y_sawSuperq, y_textq, y_numbersq, y_globalsq, y_entriesq, y_attrsq, y_classOfq, y_aliveq, y_ordersq, y_lengthsq, y_lettersq, y_basesq, y_valsq, y_opsq, y_localsq, y_fRecvq, y_fLineq, y_fPosq, y_fStmtq, y_fTargetq, y_fMaskq, y_fHomeq, y_fOpsq, y_fValsq, y_fNewq, y_outq)) x y_maxObjects y_maxSteps y_maxDepth y_kept y_end y_tokens y_pending y_lines y_classes y_prints y_place y_steps y_d y_valTop y_opTop y_opens (nI (p + 1)) (nI 100) (nI (t - 100)) y_stmt y_target y_err y_code y_outcome y_result 0 1 y_starting y_ended y_bad y_hosted y_sawSuper tx y_numbers y_globals y_entries y_attrs y_classOf y_alive y_orders y_lengths y_letters y_bases y_vals y_ops y_locals y_fRecv y_fLine y_fPos y_fStmt y_fTarget y_fMask y_fHome y_fOps y_fVals y_fNew y_out) (y_maxObjects, y_maxSteps, y_maxDepth, y_kept, y_end, y_tokens, y_pending, y_lines, y_classes, y_prints, y_place, y_steps, y_d, y_valTop, y_opTop, y_opens, nI (p + 1), nI 100, nI (t - 100), y_stmt, y_target, y_err, y_code, y_outcome, y_result, 0, 1, y_starting, y_ended, y_bad, y_hosted, y_sawSuper, tx, y_numbers, y_globals, y_entries, y_attrs, y_classOf, y_alive, y_orders, y_lengths, y_letters, y_bases, y_vals, y_ops, y_locals, y_fRecv, y_fLine, y_fPos, y_fStmt, y_fTarget, y_fMask, y_fHome, y_fOps, y_fVals, y_fNew, y_out) (nI (t - 100))) : wpY_expressionToken post (y_maxObjects, y_maxSteps, y_maxDepth, y_kept, y_end, y_tokens, y_pending, y_lines, y_classes, y_prints, y_place, y_steps, y_d, y_valTop, y_opTop, y_opens, nI p, y_tk, y_tv, y_stmt, y_target, y_err, y_code, y_outcome, y_result, 0, 1, y_starting, y_ended, y_bad, y_hosted, y_sawSuper, tx, y_numbers, y_globals, y_entries, y_attrs, y_classOf, y_alive, y_orders, y_lengths, y_letters, y_bases, y_vals, y_ops, y_locals, y_fRecv, y_fLine, y_fPos, y_fStmt, y_fTarget, y_fMask, y_fHome, y_fOps, y_fVals, y_fNew, y_out) := by
  unfold wpY_expressionToken
  refine hs_yTokK h 100 (hs_tkN ht).1 (br_f (by decide) ?_)
  unfold wpY_operand
  exact br_f (hs_ne (a := 100) (b := 1000) (by decide) (by decide) (by decide)) (br_f (hs_ne (a := 100) (b := 12) (by decide) (by decide) (by decide)) (br_t rfl (br_t rfl H)))
theorem hs_yOpenR {tx : Nat → Int32} {p ot : Nat} {r : List Nat} (h : hs_TA tx p (21 :: r)) (ho : ot < 320) {post : Int32 → SY → Prop} (H : post 0 (y_maxObjects, y_maxSteps, y_maxDepth, y_kept, y_end, y_tokens, y_pending, y_lines, y_classes, y_prints, y_place, y_steps, y_d, y_valTop, nI (ot + 1), y_opens + 1, nI (p + 1), nI 21, nI (21 - 21), y_stmt, y_target, y_err, y_code, y_outcome, y_result, 0, 1, y_starting, y_ended, y_bad, y_hosted, y_sawSuper, tx, y_numbers, y_globals, y_entries, y_attrs, y_classOf, y_alive, y_orders, y_lengths, y_letters, y_bases, y_vals, upd y_ops ot 1, y_locals, y_fRecv, y_fLine, y_fPos, y_fStmt, y_fTarget, y_fMask, y_fHome, y_fOps, y_fVals, y_fNew, y_out)) : wpY_expressionToken post (y_maxObjects, y_maxSteps, y_maxDepth, y_kept, y_end, y_tokens, y_pending, y_lines, y_classes, y_prints, y_place, y_steps, y_d, y_valTop, nI ot, y_opens, nI p, y_tk, y_tv, y_stmt, y_target, y_err, y_code, y_outcome, y_result, 0, 1, y_starting, y_ended, y_bad, y_hosted, y_sawSuper, tx, y_numbers, y_globals, y_entries, y_attrs, y_classOf, y_alive, y_orders, y_lengths, y_letters, y_bases, y_vals, y_ops, y_locals, y_fRecv, y_fLine, y_fPos, y_fStmt, y_fTarget, y_fMask, y_fHome, y_fOps, y_fVals, y_fNew, y_out) := by
  unfold wpY_expressionToken
  refine hs_yTokK h 21 (hs_tkS (by decide)) (br_f (by decide) ?_)
  unfold wpY_operand
  exact br_f (hs_ne (a := 21) (b := 1000) (by decide) (by decide) (by decide)) (br_f (hs_ne (a := 21) (b := 12) (by decide) (by decide) (by decide)) (br_f (hs_ne (a := 21) (b := 100) (by decide) (by decide) (by decide)) (br_t rfl (hs_yParenR ho H))))
theorem hs_yOpenD {tx : Nat → Int32} {p ot on : Nat} {r : List Nat} (h : hs_TA tx p (21 :: r)) (ho : ot < 320) (hn : on < 1000) {post : Int32 → SY → Prop} (H : on < 4 → post 0 (y_maxObjects, y_maxSteps, y_maxDepth, y_kept, y_end, y_tokens, y_pending, y_lines, y_classes, y_prints, y_place, y_steps, y_d, y_valTop, nI (ot + 1), nI (on + 1), nI (p + 1), nI 21, nI (21 - 21), y_stmt, y_target, y_err, y_code, y_outcome, y_result, 1, 1, y_starting, y_ended, y_bad, y_hosted, y_sawSuper, tx, y_numbers, y_globals, y_entries, y_attrs, y_classOf, y_alive, y_orders, y_lengths, y_letters, y_bases, y_vals, upd y_ops ot 1, y_locals, y_fRecv, y_fLine, y_fPos, y_fStmt, y_fTarget, y_fMask, y_fHome, y_fOps, y_fVals, y_fNew, y_out)) (Hb : 4 ≤ on → post 0 (y_maxObjects, y_maxSteps, y_maxDepth, y_kept, y_end, y_tokens, y_pending, y_lines, y_classes, y_prints, y_place, y_steps, y_d, y_valTop, nI (ot + 1), nI (on + 1), nI (p + 1), nI 21, nI (21 - 21), y_stmt, y_target, y_err, y_code, y_outcome, y_result, 1, 1, y_starting, y_ended, 1, y_hosted, y_sawSuper, tx, y_numbers, y_globals, y_entries, y_attrs, y_classOf, y_alive, y_orders, y_lengths, y_letters, y_bases, y_vals, upd y_ops ot 1, y_locals, y_fRecv, y_fLine, y_fPos, y_fStmt, y_fTarget, y_fMask, y_fHome, y_fOps, y_fVals, y_fNew, y_out)) : wpY_expressionToken post (y_maxObjects, y_maxSteps, y_maxDepth, y_kept, y_end, y_tokens, y_pending, y_lines, y_classes, y_prints, y_place, y_steps, y_d, y_valTop, nI ot, nI on, nI p, y_tk, y_tv, y_stmt, y_target, y_err, y_code, y_outcome, y_result, 1, 1, y_starting, y_ended, y_bad, y_hosted, y_sawSuper, tx, y_numbers, y_globals, y_entries, y_attrs, y_classOf, y_alive, y_orders, y_lengths, y_letters, y_bases, y_vals, y_ops, y_locals, y_fRecv, y_fLine, y_fPos, y_fStmt, y_fTarget, y_fMask, y_fHome, y_fOps, y_fVals, y_fNew, y_out) := by
  unfold wpY_expressionToken
  refine hs_yTokK h 21 (hs_tkS (by decide)) (br_f (by decide) ?_)
  unfold wpY_operand
  exact br_f (hs_ne (a := 21) (b := 1000) (by decide) (by decide) (by decide)) (br_f (hs_ne (a := 21) (b := 12) (by decide) (by decide) (by decide)) (br_f (hs_ne (a := 21) (b := 100) (by decide) (by decide) (by decide)) (br_t rfl (hs_yParenD ho hn H Hb))))
theorem hs_TAh {tx : Nat → Int32} : ∀ {ts : List Nat} {p k : Nat}, hs_TA tx p ts → ¬ hs_en k → k < 2 ^ 31 → (tx p = nI k ↔ hs_hd ts = k)
  | [], p, k, h, h1, h2 => by
    refine ⟨fun e => absurd ?_ h1, fun e => absurd (Or.inl e.symm) h1⟩
    have := h.2.1
    unfold hs_g at this
    rw [e, nI_clamp h2] at this
    exact this
  | t :: r, p, k, h, h1, h2 => by
    obtain ⟨a, b, c, _⟩ := hs_TAc h
    rw [a, nI_eq c h2]
    rfl
theorem hs_op64 (c a : Nat) : nI c + 64 * nI a = nI (c + 64 * a) := by
  show nI c + nI 64 * nI a = _
  rw [pk_mul, nI_add]
theorem hs_notEn {k : Nat} (h : k ≠ 0) (h2 : k < 40 ∨ 48 < k) : ¬ hs_en k := by
  rintro (z | z) <;> omega
-- a sort and its parenthesis
theorem hs_yNewR {tx : Nat → Int32} {p t ot : Nat} {r : List Nat} (h : hs_TA tx p (t :: 21 :: r)) (ht : hs_isC t = true) (ho : ot < 320) {post : Int32 → SY → Prop} (H : post 0 (y_maxObjects, y_maxSteps, y_maxDepth, y_kept, y_end, y_tokens, y_pending, y_lines, y_classes, y_prints, y_place, y_steps, y_d, y_valTop, nI (ot + 1), y_opens + 1, nI (p + 1 + 1), nI 21, nI (21 - 21), y_stmt, y_target, y_err, y_code, y_outcome, y_result, 0, 1, y_starting, y_ended, y_bad, y_hosted, y_sawSuper, tx, y_numbers, y_globals, y_entries, y_attrs, y_classOf, y_alive, y_orders, y_lengths, y_letters, y_bases, y_vals, upd y_ops ot (nI (4 + 64 * (t - 130))), y_locals, y_fRecv, y_fLine, y_fPos, y_fStmt, y_fTarget, y_fMask, y_fHome, y_fOps, y_fVals, y_fNew, y_out)) : wpY_expressionToken post (y_maxObjects, y_maxSteps, y_maxDepth, y_kept, y_end, y_tokens, y_pending, y_lines, y_classes, y_prints, y_place, y_steps, y_d, y_valTop, nI ot, y_opens, nI p, y_tk, y_tv, y_stmt, y_target, y_err, y_code, y_outcome, y_result, 0, 1, y_starting, y_ended, y_bad, y_hosted, y_sawSuper, tx, y_numbers, y_globals, y_entries, y_attrs, y_classOf, y_alive, y_orders, y_lengths, y_letters, y_bases, y_vals, y_ops, y_locals, y_fRecv, y_fLine, y_fPos, y_fStmt, y_fTarget, y_fMask, y_fHome, y_fOps, y_fVals, y_fNew, y_out) := by
  unfold wpY_expressionToken
  refine hs_yTokK h 130 (hs_tkC ht).1 (br_f (by decide) ?_)
  unfold wpY_operand
  refine br_f (hs_ne (a := 130) (b := 1000) (by decide) (by decide) (by decide)) (br_f (hs_ne (a := 130) (b := 12) (by decide) (by decide) (by decide)) (br_f (hs_ne (a := 130) (b := 100) (by decide) (by decide) (by decide)) (br_f (hs_ne (a := 130) (b := 21) (by decide) (by decide) (by decide)) (br_t rfl ?_))))
  unfold wpY_ofClass
  refine hs_yTokK (hs_TAc h).2.2.2.2.2 21 (hs_tkS (by decide)) (br_t rfl (hs_yParenR ho ?_))
  rw [show (4 : Int32) = nI 4 from rfl, hs_op64]
  exact H
theorem hs_yNewD {tx : Nat → Int32} {p t ot on : Nat} {r : List Nat} (h : hs_TA tx p (t :: 21 :: r)) (ht : hs_isC t = true) (ho : ot < 320) (hn : on < 1000) {post : Int32 → SY → Prop} (H : on < 4 → post 0 (y_maxObjects, y_maxSteps, y_maxDepth, y_kept, y_end, y_tokens, y_pending, y_lines, y_classes, y_prints, y_place, y_steps, y_d, y_valTop, nI (ot + 1), nI (on + 1), nI (p + 1 + 1), nI 21, nI (21 - 21), y_stmt, y_target, y_err, y_code, y_outcome, y_result, 1, 1, y_starting, y_ended, y_bad, y_hosted, y_sawSuper, tx, y_numbers, y_globals, y_entries, y_attrs, y_classOf, y_alive, y_orders, y_lengths, y_letters, y_bases, y_vals, upd y_ops ot (nI (4 + 64 * (t - 130))), y_locals, y_fRecv, y_fLine, y_fPos, y_fStmt, y_fTarget, y_fMask, y_fHome, y_fOps, y_fVals, y_fNew, y_out)) (Hb : 4 ≤ on → post 0 (y_maxObjects, y_maxSteps, y_maxDepth, y_kept, y_end, y_tokens, y_pending, y_lines, y_classes, y_prints, y_place, y_steps, y_d, y_valTop, nI (ot + 1), nI (on + 1), nI (p + 1 + 1), nI 21, nI (21 - 21), y_stmt, y_target, y_err, y_code, y_outcome, y_result, 1, 1, y_starting, y_ended, 1, y_hosted, y_sawSuper, tx, y_numbers, y_globals, y_entries, y_attrs, y_classOf, y_alive, y_orders, y_lengths, y_letters, y_bases, y_vals, upd y_ops ot (nI (4 + 64 * (t - 130))), y_locals, y_fRecv, y_fLine, y_fPos, y_fStmt, y_fTarget, y_fMask, y_fHome, y_fOps, y_fVals, y_fNew, y_out)) : wpY_expressionToken post (y_maxObjects, y_maxSteps, y_maxDepth, y_kept, y_end, y_tokens, y_pending, y_lines, y_classes, y_prints, y_place, y_steps, y_d, y_valTop, nI ot, nI on, nI p, y_tk, y_tv, y_stmt, y_target, y_err, y_code, y_outcome, y_result, 1, 1, y_starting, y_ended, y_bad, y_hosted, y_sawSuper, tx, y_numbers, y_globals, y_entries, y_attrs, y_classOf, y_alive, y_orders, y_lengths, y_letters, y_bases, y_vals, y_ops, y_locals, y_fRecv, y_fLine, y_fPos, y_fStmt, y_fTarget, y_fMask, y_fHome, y_fOps, y_fVals, y_fNew, y_out) := by
  unfold wpY_expressionToken
  refine hs_yTokK h 130 (hs_tkC ht).1 (br_f (by decide) ?_)
  unfold wpY_operand
  refine br_f (hs_ne (a := 130) (b := 1000) (by decide) (by decide) (by decide)) (br_f (hs_ne (a := 130) (b := 12) (by decide) (by decide) (by decide)) (br_f (hs_ne (a := 130) (b := 100) (by decide) (by decide) (by decide)) (br_f (hs_ne (a := 130) (b := 21) (by decide) (by decide) (by decide)) (br_t rfl ?_))))
  unfold wpY_ofClass
  refine hs_yTokK (hs_TAc h).2.2.2.2.2 21 (hs_tkS (by decide)) (br_t rfl ?_)
  rw [show (4 : Int32) = nI 4 from rfl, hs_op64]
  exact hs_yParenD ho hn H Hb
theorem hs_yGetD {tx : Nat → Int32} {p t n vt : Nat} {r : List Nat} (h : hs_TA tx p (t :: 24 :: n :: r)) (ht : hs_isC t = true) (hn : hs_isN n = true) (hr : hs_hd r ≠ 21) (hv : vt < 320) {post : Int32 → SY → Prop} (H : post 0 (y_maxObjects, y_maxSteps, y_maxDepth, y_kept, y_end, y_tokens, y_pending, y_lines, y_classes, y_prints, y_place, y_steps, y_d, nI (vt + 1), y_opTop, y_opens, nI (p + 1 + 1 + 1), nI 100, nI (n - 100), y_stmt, y_target, y_err, y_code, y_outcome, y_result, 1, 0, y_starting, y_ended, y_bad, y_hosted, y_sawSuper, tx, y_numbers, y_globals, y_entries, y_attrs, y_classOf, y_alive, y_orders, y_lengths, y_letters, y_bases, vp_updL y_vals vt 1, y_ops, y_locals, y_fRecv, y_fLine, y_fPos, y_fStmt, y_fTarget, y_fMask, y_fHome, y_fOps, y_fVals, y_fNew, y_out)) : wpY_expressionToken post (y_maxObjects, y_maxSteps, y_maxDepth, y_kept, y_end, y_tokens, y_pending, y_lines, y_classes, y_prints, y_place, y_steps, y_d, nI vt, y_opTop, y_opens, nI p, y_tk, y_tv, y_stmt, y_target, y_err, y_code, y_outcome, y_result, 1, 1, y_starting, y_ended, y_bad, y_hosted, y_sawSuper, tx, y_numbers, y_globals, y_entries, y_attrs, y_classOf, y_alive, y_orders, y_lengths, y_letters, y_bases, y_vals, y_ops, y_locals, y_fRecv, y_fLine, y_fPos, y_fStmt, y_fTarget, y_fMask, y_fHome, y_fOps, y_fVals, y_fNew, y_out) := by
  unfold wpY_expressionToken
  refine hs_yTokK h 130 (hs_tkC ht).1 (br_f (by decide) ?_)
  unfold wpY_operand
  refine br_f (hs_ne (a := 130) (b := 1000) (by decide) (by decide) (by decide)) (br_f (hs_ne (a := 130) (b := 12) (by decide) (by decide) (by decide)) (br_f (hs_ne (a := 130) (b := 100) (by decide) (by decide) (by decide)) (br_f (hs_ne (a := 130) (b := 21) (by decide) (by decide) (by decide)) (br_t rfl ?_))))
  unfold wpY_ofClass
  have h2 := (hs_TAc h).2.2.2.2.2
  have h3 := (hs_TAc h2).2.2.2.2.2
  have h4 := (hs_TAc h3).2.2.2.2.2
  refine hs_yTokK h2 24 (hs_tkS (by decide)) (br_f (hs_ne (a := 24) (b := 21) (by decide) (by decide) (by decide)) (br_t rfl ?_))
  unfold wpY_is
  refine hs_yTokK h3 100 (hs_tkN hn).1 (br_t rfl (br_f (by decide) (And.intro (vp_in_nI (hs_TAlt h4) (by decide)) ?_)))
  rw [nI_clamp (show p + 1 + 1 + 1 < 2 ^ 31 by have := hs_TAlt h4; omega)]
  exact br_f (fun z => hr ((hs_TAh h4 (hs_notEn (by decide) (by decide)) (by decide)).mp z)) (br_f (by decide) (hs_yValue hv H))
theorem hs_yGetR {tx : Nat → Int32} {p t n : Nat} {r : List Nat} (h : hs_TA tx p (t :: 24 :: n :: r)) (ht : hs_isC t = true) (hn : hs_isN n = true) (hr : hs_hd r ≠ 21) {post : Int32 → SY → Prop} {le : Nat → Int32}
    (H0 : ¬ 0 ≤ le (t - 130) → post 0 (y_maxObjects, y_maxSteps, y_maxDepth, y_kept, y_end, y_tokens, y_pending, y_lines, y_classes, y_prints, y_place, y_steps, y_d, y_valTop, y_opTop, y_opens, nI (p + 1 + 1 + 1), nI 100, nI (n - 100), y_stmt, y_target, 2, y_code, y_outcome, y_result, 0, 1, y_starting, y_ended, y_bad, y_hosted, y_sawSuper, tx, y_numbers, y_globals, y_entries, y_attrs, y_classOf, y_alive, y_orders, y_lengths, le, y_bases, y_vals, y_ops, y_locals, y_fRecv, y_fLine, y_fPos, y_fStmt, y_fTarget, y_fMask, y_fHome, y_fOps, y_fVals, y_fNew, y_out))
    (H1 : 0 ≤ le (t - 130) → wpY_search (fun e => wpY_read (fun u => match u with | (y_maxObjectsq, y_maxStepsq, y_maxDepthq, y_keptq, y_endq, y_tokensq, y_pendingq, y_linesq, y_classesq, y_printsq, y_placeq, y_stepsq, y_dq, y_valTopq, y_opTopq, y_opensq, y_posq, y_tkq, y_tvq, y_stmtq, y_targetq, y_errq, y_codeq, y_outcomeq, y_resultq, y_dryq, y_wantq, y_startingq, y_endedq, y_badq, y_hostedq, y_sawSuperq, y_textq, y_numbersq, y_globalsq, y_entriesq, y_attrsq, y_classOfq, y_aliveq, y_ordersq, y_lengthsq, y_lettersq, y_basesq, y_valsq, y_opsq, y_localsq, y_fRecvq, y_fLineq, y_fPosq, y_fStmtq, y_fTargetq, y_fMaskq, y_fHomeq, y_fOpsq, y_fValsq, y_fNewq, y_outq) => post 0 (y_maxObjectsq, y_maxStepsq, y_maxDepthq, y_keptq, y_endq, y_tokensq, y_pendingq, y_linesq, y_classesq, y_printsq, y_placeq, y_stepsq, y_dq, y_valTopq, y_opTopq, y_opensq, y_posq, y_tkq, y_tvq, y_stmtq, y_targetq, y_errq, y_codeq, y_outcomeq, y_resultq, y_dryq, y_wantq, y_startingq, y_endedq, y_badq, y_hostedq, y_sawSuperq, y_textq, y_numbersq, y_globalsq, y_entriesq, y_attrsq, y_classOfq, y_aliveq, y_ordersq, y_lengthsq, y_lettersq, y_basesq, y_valsq, y_opsq, y_localsq, y_fRecvq, y_fLineq, y_fPosq, y_fStmtq, y_fTargetq, y_fMaskq, y_fHomeq, y_fOpsq, y_fValsq, y_fNewq, y_outq)) (y_maxObjects, y_maxSteps, y_maxDepth, y_kept, y_end, y_tokens, y_pending, y_lines, y_classes, y_prints, y_place, y_steps, y_d, y_valTop, y_opTop, y_opens, nI (p + 1 + 1 + 1), nI 100, nI (n - 100), y_stmt, y_target, y_err, y_code, y_outcome, y_result, 0, 1, y_starting, y_ended, y_bad, y_hosted, y_sawSuper, tx, y_numbers, y_globals, y_entries, y_attrs, y_classOf, y_alive, y_orders, y_lengths, le, y_bases, y_vals, y_ops, y_locals, y_fRecv, y_fLine, y_fPos, y_fStmt, y_fTarget, y_fMask, y_fHome, y_fOps, y_fVals, y_fNew, y_out) e) (y_maxObjects, y_maxSteps, y_maxDepth, y_kept, y_end, y_tokens, y_pending, y_lines, y_classes, y_prints, y_place, y_steps, y_d, y_valTop, y_opTop, y_opens, nI (p + 1 + 1 + 1), nI 100, nI (n - 100), y_stmt, y_target, y_err, y_code, y_outcome, y_result, 0, 1, y_starting, y_ended, y_bad, y_hosted, y_sawSuper, tx, y_numbers, y_globals, y_entries, y_attrs, y_classOf, y_alive, y_orders, y_lengths, le, y_bases, y_vals, y_ops, y_locals, y_fRecv, y_fLine, y_fPos, y_fStmt, y_fTarget, y_fMask, y_fHome, y_fOps, y_fVals, y_fNew, y_out) (le (t - 130)) 0 (nI (n - 100))) : wpY_expressionToken post (y_maxObjects, y_maxSteps, y_maxDepth, y_kept, y_end, y_tokens, y_pending, y_lines, y_classes, y_prints, y_place, y_steps, y_d, y_valTop, y_opTop, y_opens, nI p, y_tk, y_tv, y_stmt, y_target, y_err, y_code, y_outcome, y_result, 0, 1, y_starting, y_ended, y_bad, y_hosted, y_sawSuper, tx, y_numbers, y_globals, y_entries, y_attrs, y_classOf, y_alive, y_orders, y_lengths, le, y_bases, y_vals, y_ops, y_locals, y_fRecv, y_fLine, y_fPos, y_fStmt, y_fTarget, y_fMask, y_fHome, y_fOps, y_fVals, y_fNew, y_out) := by
  unfold wpY_expressionToken
  refine hs_yTokK h 130 (hs_tkC ht).1 (br_f (by decide) ?_)
  unfold wpY_operand
  refine br_f (hs_ne (a := 130) (b := 1000) (by decide) (by decide) (by decide)) (br_f (hs_ne (a := 130) (b := 12) (by decide) (by decide) (by decide)) (br_f (hs_ne (a := 130) (b := 100) (by decide) (by decide) (by decide)) (br_f (hs_ne (a := 130) (b := 21) (by decide) (by decide) (by decide)) (br_t rfl ?_))))
  unfold wpY_ofClass
  have h2 := (hs_TAc h).2.2.2.2.2
  have h3 := (hs_TAc h2).2.2.2.2.2
  have h4 := (hs_TAc h3).2.2.2.2.2
  have hl : t - 130 < 26 := by have := hs_tkC ht; omega
  refine hs_yTokK h2 24 (hs_tkS (by decide)) (br_f (hs_ne (a := 24) (b := 21) (by decide) (by decide) (by decide)) (br_t rfl ?_))
  unfold wpY_is
  refine hs_yTokK h3 100 (hs_tkN hn).1 (br_t rfl (br_f (by decide) (And.intro (vp_in_nI (hs_TAlt h4) (by decide)) ?_)))
  rw [nI_clamp (show p + 1 + 1 + 1 < 2 ^ 31 by have := hs_TAlt h4; omega)]
  refine br_f (fun z => hr ((hs_TAh h4 (hs_notEn (by decide) (by decide)) (by decide)).mp z)) (br_t rfl (And.intro (vp_in_nI hl (by decide)) ?_))
  rw [nI_clamp (show t - 130 < 2 ^ 31 by omega)]
  by_cases z : 0 ≤ le (t - 130)
  · exact br_t z (And.intro (vp_in_nI hl (by decide)) (H1 z))
  · exact br_f z (H0 z)
theorem hs_yClsBad {tx : Nat → Int32} {p t ot on : Nat} {r : List Nat} (h : hs_TA tx p (t :: r)) (hvt : ∀ x, x ∈ r → hs_vt x) (ht : hs_isC t = true) {post : Int32 → SY → Prop} (h1 : hs_hd r ≠ 21) (h2 : hs_hd r ≠ 24 ∨ r.length < 2 ∨ hs_isN (hs_hd r.tail) = false ∨ hs_hd r.tail.tail = 21) (Hb : (∀ (q1 q2 q3 q4 q5 q6 q7 q8 : Int32) (q9 : Nat → Int64) (q10 : Nat → Int32), post 0 (y_maxObjects, y_maxSteps, y_maxDepth, y_kept, y_end, y_tokens, y_pending, y_lines, y_classes, y_prints, y_place, y_steps, y_d, q7, q8, q1, q2, q3, q4, y_stmt, y_target, y_err, y_code, y_outcome, y_result, 1, q5, y_starting, y_ended, 1, y_hosted, q6, tx, y_numbers, y_globals, y_entries, y_attrs, y_classOf, y_alive, y_orders, y_lengths, y_letters, y_bases, q9, q10, y_locals, y_fRecv, y_fLine, y_fPos, y_fStmt, y_fTarget, y_fMask, y_fHome, y_fOps, y_fVals, y_fNew, y_out))) : wpY_expressionToken post (y_maxObjects, y_maxSteps, y_maxDepth, y_kept, y_end, y_tokens, y_pending, y_lines, y_classes, y_prints, y_place, y_steps, y_d, y_valTop, nI ot, nI on, nI p, y_tk, y_tv, y_stmt, y_target, y_err, y_code, y_outcome, y_result, 1, 1, y_starting, y_ended, y_bad, y_hosted, y_sawSuper, tx, y_numbers, y_globals, y_entries, y_attrs, y_classOf, y_alive, y_orders, y_lengths, y_letters, y_bases, y_vals, y_ops, y_locals, y_fRecv, y_fLine, y_fPos, y_fStmt, y_fTarget, y_fMask, y_fHome, y_fOps, y_fVals, y_fNew, y_out) := by
  unfold wpY_expressionToken
  refine hs_yTokK h 130 (hs_tkC ht).1 (br_f (by decide) ?_)
  unfold wpY_operand
  refine br_f (hs_ne (a := 130) (b := 1000) (by decide) (by decide) (by decide)) (br_f (hs_ne (a := 130) (b := 12) (by decide) (by decide) (by decide)) (br_f (hs_ne (a := 130) (b := 100) (by decide) (by decide) (by decide)) (br_f (hs_ne (a := 130) (b := 21) (by decide) (by decide) (by decide)) (br_t rfl ?_))))
  unfold wpY_ofClass
  have k2 := (hs_TAc h).2.2.2.2.2
  cases r with
  | nil => exact hs_yTokE k2 (br_f (hs_ne (a := 0) (b := 21) (by decide) (by decide) (by decide)) (br_f (hs_ne (a := 0) (b := 24) (by decide) (by decide) (by decide)) (Hb _ _ _ _ _ _ _ _ _ _)))
  | cons a r =>
    have k3 := (hs_TAc k2).2.2.2.2.2
    have ta := hs_tkLe a
    by_cases e : a = 24
    · subst e
      refine hs_yTokK k2 24 (hs_tkS (by decide)) (br_f (hs_ne (a := 24) (b := 21) (by decide) (by decide) (by decide)) (br_t rfl ?_))
      unfold wpY_is
      cases r with
      | nil => exact hs_yTokE k3 (br_f (hs_ne (a := 0) (b := 100) (by decide) (by decide) (by decide)) (br_t rfl (Hb _ _ _ _ _ _ _ _ _ _)))
      | cons n r =>
        have k4 := (hs_TAc k3).2.2.2.2.2
        have tn := hs_tkLe n
        by_cases en : hs_isN n = true
        · refine hs_yTokK k3 100 (hs_tkN en).1 (br_t rfl (br_f (by decide) (And.intro (vp_in_nI (hs_TAlt k4) (by decide)) ?_)))
          rw [nI_clamp (show p + 1 + 1 + 1 < 2 ^ 31 by have := hs_TAlt k4; omega)]
          have : hs_hd r = 21 := by
            rcases h2 with z | z | z | z
            · exact absurd rfl z
            · simp only [List.length_cons] at z; omega
            · have z : hs_isN n = false := z
              rw [en] at z; cases z
            · exact z
          exact br_t ((hs_TAh k4 (hs_notEn (by decide) (by decide)) (by decide)).mpr this) (Hb _ _ _ _ _ _ _ _ _ _)
        · have hf : hs_tk n ≠ 100 := hs_isNf (hvt n (by simp)) (by simpa using en)
          exact hs_yTokC k3 (br_f (hs_ne hf (by omega) (by decide)) (br_t rfl (Hb _ _ _ _ _ _ _ _ _ _)))
    · have ha : hs_tk a ≠ 24 ∧ hs_tk a ≠ 21 := by
        have h1 : a ≠ 21 := h1
        unfold hs_tk
        split
        · omega
        · split
          · omega
          · split <;> omega
      exact hs_yTokC k2 (br_f (hs_ne ha.2 (by omega) (by decide)) (br_f (hs_ne ha.1 (by omega) (by decide)) (Hb _ _ _ _ _ _ _ _ _ _)))
theorem hs_ySupR {tx : Nat → Int32} {p n ot : Nat} {r : List Nat} (h : hs_TA tx p (13 :: 24 :: n :: 21 :: r)) (hn : hs_isN n = true) (ho : ot < 320) {post : Int32 → SY → Prop} (H : post 0 (y_maxObjects, y_maxSteps, y_maxDepth, y_kept, y_end, y_tokens, y_pending, y_lines, y_classes, y_prints, y_place, y_steps, y_d, y_valTop, nI (ot + 1), y_opens + 1, nI (p + 1 + 1 + 1 + 1), nI 21, nI (21 - 21), y_stmt, y_target, y_err, y_code, y_outcome, y_result, 0, 1, y_starting, y_ended, y_bad, y_hosted, 1, tx, y_numbers, y_globals, y_entries, y_attrs, y_classOf, y_alive, y_orders, y_lengths, y_letters, y_bases, y_vals, upd y_ops ot (nI (3 + 64 * (n - 100))), y_locals, y_fRecv, y_fLine, y_fPos, y_fStmt, y_fTarget, y_fMask, y_fHome, y_fOps, y_fVals, y_fNew, y_out)) : wpY_expressionToken post (y_maxObjects, y_maxSteps, y_maxDepth, y_kept, y_end, y_tokens, y_pending, y_lines, y_classes, y_prints, y_place, y_steps, y_d, y_valTop, nI ot, y_opens, nI p, y_tk, y_tv, y_stmt, y_target, y_err, y_code, y_outcome, y_result, 0, 1, y_starting, y_ended, y_bad, y_hosted, y_sawSuper, tx, y_numbers, y_globals, y_entries, y_attrs, y_classOf, y_alive, y_orders, y_lengths, y_letters, y_bases, y_vals, y_ops, y_locals, y_fRecv, y_fLine, y_fPos, y_fStmt, y_fTarget, y_fMask, y_fHome, y_fOps, y_fVals, y_fNew, y_out) := by
  unfold wpY_expressionToken
  refine hs_yTokK h 13 (hs_tkS (by decide)) (br_f (by decide) ?_)
  unfold wpY_operand
  refine br_f (hs_ne (a := 13) (b := 1000) (by decide) (by decide) (by decide)) (br_f (hs_ne (a := 13) (b := 12) (by decide) (by decide) (by decide)) (br_f (hs_ne (a := 13) (b := 100) (by decide) (by decide) (by decide)) (br_f (hs_ne (a := 13) (b := 21) (by decide) (by decide) (by decide)) (br_f (hs_ne (a := 13) (b := 130) (by decide) (by decide) (by decide)) (br_t rfl ?_)))))
  unfold wpY_is
  have h2 := (hs_TAc h).2.2.2.2.2
  have h3 := (hs_TAc h2).2.2.2.2.2
  have h4 := (hs_TAc h3).2.2.2.2.2
  refine hs_yTokK h2 24 (hs_tkS (by decide)) (br_t rfl (br_f (by decide) ?_))
  refine hs_yTokK h3 100 (hs_tkN hn).1 (br_t rfl (br_f (by decide) ?_))
  refine hs_yTokK h4 21 (hs_tkS (by decide)) (br_t rfl (br_f (by decide) ?_))
  rw [show (3 : Int32) = nI 3 from rfl, hs_op64]
  exact hs_yParenR ho H
theorem hs_ySupD {tx : Nat → Int32} {p n ot on : Nat} {r : List Nat} (h : hs_TA tx p (13 :: 24 :: n :: 21 :: r)) (hn : hs_isN n = true) (ho : ot < 320) (hon : on < 1000) {post : Int32 → SY → Prop} (H : on < 4 → post 0 (y_maxObjects, y_maxSteps, y_maxDepth, y_kept, y_end, y_tokens, y_pending, y_lines, y_classes, y_prints, y_place, y_steps, y_d, y_valTop, nI (ot + 1), nI (on + 1), nI (p + 1 + 1 + 1 + 1), nI 21, nI (21 - 21), y_stmt, y_target, y_err, y_code, y_outcome, y_result, 1, 1, y_starting, y_ended, y_bad, y_hosted, 1, tx, y_numbers, y_globals, y_entries, y_attrs, y_classOf, y_alive, y_orders, y_lengths, y_letters, y_bases, y_vals, upd y_ops ot (nI (3 + 64 * (n - 100))), y_locals, y_fRecv, y_fLine, y_fPos, y_fStmt, y_fTarget, y_fMask, y_fHome, y_fOps, y_fVals, y_fNew, y_out)) (Hb : 4 ≤ on → post 0 (y_maxObjects, y_maxSteps, y_maxDepth, y_kept, y_end, y_tokens, y_pending, y_lines, y_classes, y_prints, y_place, y_steps, y_d, y_valTop, nI (ot + 1), nI (on + 1), nI (p + 1 + 1 + 1 + 1), nI 21, nI (21 - 21), y_stmt, y_target, y_err, y_code, y_outcome, y_result, 1, 1, y_starting, y_ended, 1, y_hosted, 1, tx, y_numbers, y_globals, y_entries, y_attrs, y_classOf, y_alive, y_orders, y_lengths, y_letters, y_bases, y_vals, upd y_ops ot (nI (3 + 64 * (n - 100))), y_locals, y_fRecv, y_fLine, y_fPos, y_fStmt, y_fTarget, y_fMask, y_fHome, y_fOps, y_fVals, y_fNew, y_out)) : wpY_expressionToken post (y_maxObjects, y_maxSteps, y_maxDepth, y_kept, y_end, y_tokens, y_pending, y_lines, y_classes, y_prints, y_place, y_steps, y_d, y_valTop, nI ot, nI on, nI p, y_tk, y_tv, y_stmt, y_target, y_err, y_code, y_outcome, y_result, 1, 1, y_starting, y_ended, y_bad, y_hosted, y_sawSuper, tx, y_numbers, y_globals, y_entries, y_attrs, y_classOf, y_alive, y_orders, y_lengths, y_letters, y_bases, y_vals, y_ops, y_locals, y_fRecv, y_fLine, y_fPos, y_fStmt, y_fTarget, y_fMask, y_fHome, y_fOps, y_fVals, y_fNew, y_out) := by
  unfold wpY_expressionToken
  refine hs_yTokK h 13 (hs_tkS (by decide)) (br_f (by decide) ?_)
  unfold wpY_operand
  refine br_f (hs_ne (a := 13) (b := 1000) (by decide) (by decide) (by decide)) (br_f (hs_ne (a := 13) (b := 12) (by decide) (by decide) (by decide)) (br_f (hs_ne (a := 13) (b := 100) (by decide) (by decide) (by decide)) (br_f (hs_ne (a := 13) (b := 21) (by decide) (by decide) (by decide)) (br_f (hs_ne (a := 13) (b := 130) (by decide) (by decide) (by decide)) (br_t rfl ?_)))))
  unfold wpY_is
  have h2 := (hs_TAc h).2.2.2.2.2
  have h3 := (hs_TAc h2).2.2.2.2.2
  have h4 := (hs_TAc h3).2.2.2.2.2
  refine hs_yTokK h2 24 (hs_tkS (by decide)) (br_t rfl (br_f (by decide) ?_))
  refine hs_yTokK h3 100 (hs_tkN hn).1 (br_t rfl (br_f (by decide) ?_))
  refine hs_yTokK h4 21 (hs_tkS (by decide)) (br_t rfl (br_f (by decide) ?_))
  rw [show (3 : Int32) = nI 3 from rfl, hs_op64]
  exact hs_yParenD ho hon H Hb
theorem hs_tkK {a k : Nat} (h : a ≠ k) (hk : k < 100) : hs_tk a ≠ k := by
  unfold hs_tk
  split
  · omega
  · split
    · omega
    · split <;> omega
theorem hs_ySupBad {tx : Nat → Int32} {p : Nat} {r : List Nat} (h : hs_TA tx p (13 :: r)) (hvt : ∀ x, x ∈ r → hs_vt x) {post : Int32 → SY → Prop} (hr : ∀ n r1, r = 24 :: n :: 21 :: r1 → hs_isN n = false) (Hb : (∀ (q1 q2 q3 q4 q5 q6 q7 q8 : Int32) (q9 : Nat → Int64) (q10 : Nat → Int32), post 0 (y_maxObjects, y_maxSteps, y_maxDepth, y_kept, y_end, y_tokens, y_pending, y_lines, y_classes, y_prints, y_place, y_steps, y_d, q7, q8, q1, q2, q3, q4, y_stmt, y_target, y_err, y_code, y_outcome, y_result, 1, q5, y_starting, y_ended, 1, y_hosted, q6, tx, y_numbers, y_globals, y_entries, y_attrs, y_classOf, y_alive, y_orders, y_lengths, y_letters, y_bases, q9, q10, y_locals, y_fRecv, y_fLine, y_fPos, y_fStmt, y_fTarget, y_fMask, y_fHome, y_fOps, y_fVals, y_fNew, y_out))) : wpY_expressionToken post (y_maxObjects, y_maxSteps, y_maxDepth, y_kept, y_end, y_tokens, y_pending, y_lines, y_classes, y_prints, y_place, y_steps, y_d, y_valTop, y_opTop, y_opens, nI p, y_tk, y_tv, y_stmt, y_target, y_err, y_code, y_outcome, y_result, 1, 1, y_starting, y_ended, y_bad, y_hosted, y_sawSuper, tx, y_numbers, y_globals, y_entries, y_attrs, y_classOf, y_alive, y_orders, y_lengths, y_letters, y_bases, y_vals, y_ops, y_locals, y_fRecv, y_fLine, y_fPos, y_fStmt, y_fTarget, y_fMask, y_fHome, y_fOps, y_fVals, y_fNew, y_out) := by
  unfold wpY_expressionToken
  refine hs_yTokK h 13 (hs_tkS (by decide)) (br_f (by decide) ?_)
  unfold wpY_operand
  refine br_f (hs_ne (a := 13) (b := 1000) (by decide) (by decide) (by decide)) (br_f (hs_ne (a := 13) (b := 12) (by decide) (by decide) (by decide)) (br_f (hs_ne (a := 13) (b := 100) (by decide) (by decide) (by decide)) (br_f (hs_ne (a := 13) (b := 21) (by decide) (by decide) (by decide)) (br_f (hs_ne (a := 13) (b := 130) (by decide) (by decide) (by decide)) (br_t rfl ?_)))))
  unfold wpY_is
  have k2 := (hs_TAc h).2.2.2.2.2
  cases r with
  | nil => exact hs_yTokE k2 (br_f (hs_ne (a := 0) (b := 24) (by decide) (by decide) (by decide)) (br_t rfl (Hb _ _ _ _ _ _ _ _ _ _)))
  | cons a r =>
    have k3 := (hs_TAc k2).2.2.2.2.2
    have ta := hs_tkLe a
    by_cases e : a = 24
    · subst e
      refine hs_yTokK k2 24 (hs_tkS (by decide)) (br_t rfl (br_f (by decide) ?_))
      cases r with
      | nil => exact hs_yTokE k3 (br_f (hs_ne (a := 0) (b := 100) (by decide) (by decide) (by decide)) (br_t rfl (Hb _ _ _ _ _ _ _ _ _ _)))
      | cons n r =>
        have k4 := (hs_TAc k3).2.2.2.2.2
        have tn := hs_tkLe n
        by_cases en : hs_isN n = true
        · refine hs_yTokK k3 100 (hs_tkN en).1 (br_t rfl (br_f (by decide) ?_))
          cases r with
          | nil => exact hs_yTokE k4 (br_f (hs_ne (a := 0) (b := 21) (by decide) (by decide) (by decide)) (br_t rfl (Hb _ _ _ _ _ _ _ _ _ _)))
          | cons q r =>
            have tq := hs_tkLe q
            by_cases eq : q = 21
            · subst eq
              have := hr n r rfl
              rw [en] at this; cases this
            · exact hs_yTokC k4 (br_f (hs_ne (hs_tkK eq (by decide)) (by omega) (by decide)) (br_t rfl (Hb _ _ _ _ _ _ _ _ _ _)))
        · have hf : hs_tk n ≠ 100 := hs_isNf (hvt n (by simp)) (by simpa using en)
          exact hs_yTokC k3 (br_f (hs_ne hf (by omega) (by decide)) (br_t rfl (Hb _ _ _ _ _ _ _ _ _ _)))
    · exact hs_yTokC k2 (br_f (hs_ne (hs_tkK e (by decide)) (by omega) (by decide)) (br_t rfl (Hb _ _ _ _ _ _ _ _ _ _)))
theorem hs_and63 {s : Nat} (h : s < 1048576) : nI s &&& 63 = nI (s % 64) := pk_andN (n := s) (by omega) 6 (by decide)
theorem hs_shr6 {s : Nat} (h : s < 1048576) : nI s >>> ((6 : Int32) &&& 31) = nI (s / 64) := pk_shrN (n := s) (by omega) _ 6 (by decide)
theorem hs_yClose0 {n dd base ot s : Nat} {fo : Nat → Int32} (hd : dd < 7) (hf : fo dd = nI base) (hb : base ≤ ot) (ho : ot < 320) (hs : y_ops ot = nI s) {post : SY → Prop} (H : wY_close_31 post (nI n) (nI s) y_maxObjects y_maxSteps y_maxDepth y_kept y_end y_tokens y_pending y_lines y_classes y_prints y_place y_steps (nI dd) y_valTop (nI (ot + 1)) y_opens y_pos y_tk y_tv y_stmt y_target y_err y_code y_outcome y_result y_dry y_want y_starting y_ended y_bad y_hosted y_sawSuper y_text y_numbers y_globals y_entries y_attrs y_classOf y_alive y_orders y_lengths y_letters y_bases y_vals y_ops y_locals y_fRecv y_fLine y_fPos y_fStmt y_fTarget y_fMask y_fHome fo y_fVals y_fNew y_out) : wpY_close post (y_maxObjects, y_maxSteps, y_maxDepth, y_kept, y_end, y_tokens, y_pending, y_lines, y_classes, y_prints, y_place, y_steps, nI dd, y_valTop, nI (ot + 1), y_opens, y_pos, y_tk, y_tv, y_stmt, y_target, y_err, y_code, y_outcome, y_result, y_dry, y_want, y_starting, y_ended, y_bad, y_hosted, y_sawSuper, y_text, y_numbers, y_globals, y_entries, y_attrs, y_classOf, y_alive, y_orders, y_lengths, y_letters, y_bases, y_vals, y_ops, y_locals, y_fRecv, y_fLine, y_fPos, y_fStmt, y_fTarget, y_fMask, y_fHome, fo, y_fVals, y_fNew, y_out) (nI n) := by
  refine And.intro (vp_in_nI hd (by decide)) ?_
  rw [nI_clamp (show dd < 2 ^ 31 by omega), hf, nI_pred, nI_clamp (show ot < 2 ^ 31 by omega), hs]
  exact br_f (nI_ge (by omega) (by omega)) (And.intro (vp_in_nI ho (by decide)) H)
theorem hs_yCloseE {n dd base : Nat} {fo : Nat → Int32} (hd : dd < 7) (hf : fo dd = nI base) (ho : base < 1000) {post : SY → Prop} (H : post (y_maxObjects, y_maxSteps, y_maxDepth, y_kept, y_end, y_tokens, y_pending, y_lines, y_classes, y_prints, y_place, y_steps, nI dd, y_valTop, nI base, y_opens, y_pos, y_tk, y_tv, y_stmt, y_target, y_err, y_code, y_outcome, y_result, y_dry, y_want, y_starting, y_ended, 1, y_hosted, y_sawSuper, y_text, y_numbers, y_globals, y_entries, y_attrs, y_classOf, y_alive, y_orders, y_lengths, y_letters, y_bases, y_vals, y_ops, y_locals, y_fRecv, y_fLine, y_fPos, y_fStmt, y_fTarget, y_fMask, y_fHome, fo, y_fVals, y_fNew, y_out)) : wpY_close post (y_maxObjects, y_maxSteps, y_maxDepth, y_kept, y_end, y_tokens, y_pending, y_lines, y_classes, y_prints, y_place, y_steps, nI dd, y_valTop, nI base, y_opens, y_pos, y_tk, y_tv, y_stmt, y_target, y_err, y_code, y_outcome, y_result, y_dry, y_want, y_starting, y_ended, y_bad, y_hosted, y_sawSuper, y_text, y_numbers, y_globals, y_entries, y_attrs, y_classOf, y_alive, y_orders, y_lengths, y_letters, y_bases, y_vals, y_ops, y_locals, y_fRecv, y_fLine, y_fPos, y_fStmt, y_fTarget, y_fMask, y_fHome, fo, y_fVals, y_fNew, y_out) (nI n) := by
  refine And.intro (vp_in_nI hd (by decide)) ?_
  rw [nI_clamp (show dd < 2 ^ 31 by omega), hf]
  refine br_t (nI_le (Nat.le_refl _) (by omega)) ?_
  unfold wY_close_31
  exact nm_e (br_t (by decide) H)
theorem hs_yCloseB {n ot s : Nat} (hs2 : s < 1048576) (hty : ¬ (1 ≤ s % 64 ∧ s % 64 ≤ 4)) {post : SY → Prop} (H : post (y_maxObjects, y_maxSteps, y_maxDepth, y_kept, y_end, y_tokens, y_pending, y_lines, y_classes, y_prints, y_place, y_steps, y_d, y_valTop, nI (ot + 1), y_opens, y_pos, y_tk, y_tv, y_stmt, y_target, y_err, y_code, y_outcome, y_result, y_dry, y_want, y_starting, y_ended, 1, y_hosted, y_sawSuper, y_text, y_numbers, y_globals, y_entries, y_attrs, y_classOf, y_alive, y_orders, y_lengths, y_letters, y_bases, y_vals, y_ops, y_locals, y_fRecv, y_fLine, y_fPos, y_fStmt, y_fTarget, y_fMask, y_fHome, y_fOps, y_fVals, y_fNew, y_out)) : wY_close_31 post (nI n) (nI s) y_maxObjects y_maxSteps y_maxDepth y_kept y_end y_tokens y_pending y_lines y_classes y_prints y_place y_steps y_d y_valTop (nI (ot + 1)) y_opens y_pos y_tk y_tv y_stmt y_target y_err y_code y_outcome y_result y_dry y_want y_starting y_ended y_bad y_hosted y_sawSuper y_text y_numbers y_globals y_entries y_attrs y_classOf y_alive y_orders y_lengths y_letters y_bases y_vals y_ops y_locals y_fRecv y_fLine y_fPos y_fStmt y_fTarget y_fMask y_fHome y_fOps y_fVals y_fNew y_out := by
  unfold wY_close_31
  exact nm_r (hs_and63 hs2) (pk_lt (s % 64) 1 (fun _ => H) (fun a => br_f (nI_ge (a := 4) (by omega) (by omega)) H))
theorem hs_yCloseG {n ot s : Nat} (hs2 : s < 1048576) (hty : s % 64 = 1) {post : SY → Prop} (H : post (y_maxObjects, y_maxSteps, y_maxDepth, y_kept, y_end, y_tokens, y_pending, y_lines, y_classes, y_prints, y_place, y_steps, y_d, y_valTop, nI ot, y_opens - 1, y_pos, y_tk, y_tv, y_stmt, y_target, y_err, y_code, y_outcome, y_result, y_dry, 0, y_starting, y_ended, y_bad, y_hosted, y_sawSuper, y_text, y_numbers, y_globals, y_entries, y_attrs, y_classOf, y_alive, y_orders, y_lengths, y_letters, y_bases, y_vals, y_ops, y_locals, y_fRecv, y_fLine, y_fPos, y_fStmt, y_fTarget, y_fMask, y_fHome, y_fOps, y_fVals, y_fNew, y_out)) : wY_close_31 post (nI n) (nI s) y_maxObjects y_maxSteps y_maxDepth y_kept y_end y_tokens y_pending y_lines y_classes y_prints y_place y_steps y_d y_valTop (nI (ot + 1)) y_opens y_pos y_tk y_tv y_stmt y_target y_err y_code y_outcome y_result y_dry y_want y_starting y_ended y_bad y_hosted y_sawSuper y_text y_numbers y_globals y_entries y_attrs y_classOf y_alive y_orders y_lengths y_letters y_bases y_vals y_ops y_locals y_fRecv y_fLine y_fPos y_fStmt y_fTarget y_fMask y_fHome y_fOps y_fVals y_fNew y_out := by
  unfold wY_close_31
  rw [hs_and63 hs2, hty]
  exact nm_e (br_f (by decide) (br_t (by decide) (nm_r (nI_pred ot) (nm_e (br_t rfl H)))))
def hs_cn (ty n : Nat) : Nat := if ty = 2 then n + 1 else n
theorem hs_yCloseD {n ot s vt : Nat} (hs2 : s < 1048576) (hty : 2 ≤ s % 64 ∧ s % 64 ≤ 4) (hn : n ≤ 1) (hv : hs_cn (s % 64) n ≤ vt) (hv2 : vt < 320) {post : SY → Prop} (H : post (y_maxObjects, y_maxSteps, y_maxDepth, y_kept, y_end, y_tokens, y_pending, y_lines, y_classes, y_prints, y_place, y_steps, y_d, nI (vt - hs_cn (s % 64) n + 1), nI ot, y_opens - 1, y_pos, y_tk, y_tv, y_stmt, y_target, y_err, y_code, y_outcome, y_result, 1, 0, y_starting, y_ended, y_bad, y_hosted, y_sawSuper, y_text, y_numbers, y_globals, y_entries, y_attrs, y_classOf, y_alive, y_orders, y_lengths, y_letters, y_bases, vp_updL y_vals (vt - hs_cn (s % 64) n) 1, y_ops, y_locals, y_fRecv, y_fLine, y_fPos, y_fStmt, y_fTarget, y_fMask, y_fHome, y_fOps, y_fVals, y_fNew, y_out)) : wY_close_31 post (nI n) (nI s) y_maxObjects y_maxSteps y_maxDepth y_kept y_end y_tokens y_pending y_lines y_classes y_prints y_place y_steps y_d (nI vt) (nI (ot + 1)) y_opens y_pos y_tk y_tv y_stmt y_target y_err y_code y_outcome y_result 1 y_want y_starting y_ended y_bad y_hosted y_sawSuper y_text y_numbers y_globals y_entries y_attrs y_classOf y_alive y_orders y_lengths y_letters y_bases y_vals y_ops y_locals y_fRecv y_fLine y_fPos y_fStmt y_fTarget y_fMask y_fHome y_fOps y_fVals y_fNew y_out := by
  unfold wY_close_31
  rw [hs_and63 hs2]
  generalize s % 64 = ty at *
  refine nm_e (br_f (nI_nlt (b := 1) (by omega) (by omega)) (br_t (nI_le (b := 4) (by omega) (by decide)) (nm_r (nI_pred ot) (nm_e (br_f (hs_ne (b := 1) (by omega) (by omega) (by decide)) (br_f (by decide) ?_))))))
  unfold hs_cn at *
  refine pk_eq ty 2 (fun e => ?_) (fun e => ?_)
  · rw [if_pos e] at H hv
    unfold wY_close_108
    refine nm_r (show nI vt - (nI n + 1) = nI (vt - (n + 1)) by rw [nI_1, pk_sub hv]) (nm_r (nI_1 _) (And.intro (vp_in_nI (by omega) (by decide)) ?_))
    rw [nI_clamp (show vt - (n + 1) < 2 ^ 31 by omega)]
    exact nm_e H
  · rw [if_neg e] at H hv
    unfold wY_close_108
    refine nm_r (pk_sub hv) (nm_r (nI_1 _) (And.intro (vp_in_nI (by omega) (by decide)) ?_))
    rw [nI_clamp (show vt - n < 2 ^ 31 by omega)]
    exact nm_e H
theorem hs_yCloseR {n ot s vt : Nat} {arg : Int64} (hs2 : s < 1048576) (hty : 2 ≤ s % 64 ∧ s % 64 ≤ 4) (hn : n = 0 ∧ arg = 0 ∨ n = 1 ∧ 1 ≤ vt ∧ arg = y_vals (vt - 1)) (hv2 : vt < 320) {post : SY → Prop} (H : wY_close_149 post (nI n) (nI s) (nI (s % 64)) arg y_maxObjects y_maxSteps y_maxDepth y_kept y_end y_tokens y_pending y_lines y_classes y_prints y_place y_steps y_d (nI vt) (nI ot) (y_opens - 1) y_pos y_tk y_tv y_stmt y_target y_err y_code y_outcome y_result 0 0 y_starting y_ended y_bad y_hosted y_sawSuper y_text y_numbers y_globals y_entries y_attrs y_classOf y_alive y_orders y_lengths y_letters y_bases y_vals y_ops y_locals y_fRecv y_fLine y_fPos y_fStmt y_fTarget y_fMask y_fHome y_fOps y_fVals y_fNew y_out) : wY_close_31 post (nI n) (nI s) y_maxObjects y_maxSteps y_maxDepth y_kept y_end y_tokens y_pending y_lines y_classes y_prints y_place y_steps y_d (nI vt) (nI (ot + 1)) y_opens y_pos y_tk y_tv y_stmt y_target y_err y_code y_outcome y_result 0 y_want y_starting y_ended y_bad y_hosted y_sawSuper y_text y_numbers y_globals y_entries y_attrs y_classOf y_alive y_orders y_lengths y_letters y_bases y_vals y_ops y_locals y_fRecv y_fLine y_fPos y_fStmt y_fTarget y_fMask y_fHome y_fOps y_fVals y_fNew y_out := by
  unfold wY_close_31
  rw [hs_and63 hs2]
  generalize s % 64 = ty at *
  refine nm_e (br_f (nI_nlt (b := 1) (by omega) (by omega)) (br_t (nI_le (b := 4) (by omega) (by decide)) (nm_r (nI_pred ot) (nm_e (br_f (hs_ne (b := 1) (by omega) (by omega) (by decide)) (br_t rfl ?_))))))
  rcases hn with ⟨rfl, rfl⟩ | ⟨rfl, h1, rfl⟩
  · exact br_t (by decide) H
  · have e : nI vt - 1 = nI (vt - 1) := pk_sub (b := 1) h1
    rw [e, nI_clamp (show vt - 1 < 2 ^ 31 by omega)]
    exact br_f (by decide) (And.intro (vp_in_nI (by omega) (by decide)) H)
/-- 22 where an operand is wanted -/
theorem hs_yC0 {tx : Nat → Int32} {p dd base ot s : Nat} {r : List Nat} {fo : Nat → Int32} (h : hs_TA tx p (22 :: r)) (hd : dd < 7) (hf : fo dd = nI base) (hb : base ≤ ot) (ho : ot < 320) (hs : y_ops ot = nI s) (hs2 : s < 1048576) (hty : 2 ≤ s % 64 ∧ s % 64 ≤ 4) {post : Int32 → SY → Prop} (H : wpY_close (fun u => match u with | (y_maxObjectsq, y_maxStepsq, y_maxDepthq, y_keptq, y_endq, y_tokensq, y_pendingq, y_linesq, y_classesq, y_printsq, y_placeq, y_stepsq, y_dq, y_valTopq, y_opTopq, y_opensq, y_posq, y_tkq, y_tvq, y_stmtq, y_targetq, y_errq, y_codeq, y_outcomeq, y_resultq, y_dryq, y_wantq, y_startingq, y_endedq, y_badq, y_hostedq, y_sawSuperq, y_textq, y_numbersq, y_globalsq, y_entriesq, y_attrsq, y_classOfq, y_aliveq, y_ordersq, y_lengthsq, y_lettersq, y_basesq, y_valsq, y_opsq, y_localsq, y_fRecvq, y_fLineq, y_fPosq, y_fStmtq, y_fTargetq, y_fMaskq, y_fHomeq, y_fOpsq, y_fValsq, y_fNewq, y_outq) => post 0 (y_maxObjectsq, y_maxStepsq, y_maxDepthq, y_keptq, y_endq, y_tokensq, y_pendingq, y_linesq, y_classesq, y_printsq, y_placeq, y_stepsq, y_dq, y_valTopq, y_opTopq, y_opensq, y_posq, y_tkq, y_tvq, y_stmtq, y_targetq, y_errq, y_codeq, y_outcomeq, y_resultq, y_dryq, y_wantq, y_startingq, y_endedq, y_badq, y_hostedq, y_sawSuperq, y_textq, y_numbersq, y_globalsq, y_entriesq, y_attrsq, y_classOfq, y_aliveq, y_ordersq, y_lengthsq, y_lettersq, y_basesq, y_valsq, y_opsq, y_localsq, y_fRecvq, y_fLineq, y_fPosq, y_fStmtq, y_fTargetq, y_fMaskq, y_fHomeq, y_fOpsq, y_fValsq, y_fNewq, y_outq)) (y_maxObjects, y_maxSteps, y_maxDepth, y_kept, y_end, y_tokens, y_pending, y_lines, y_classes, y_prints, y_place, y_steps, nI dd, y_valTop, nI (ot + 1), y_opens, nI (p + 1), nI 22, nI (22 - 22), y_stmt, y_target, y_err, y_code, y_outcome, y_result, y_dry, 1, y_starting, y_ended, y_bad, y_hosted, y_sawSuper, tx, y_numbers, y_globals, y_entries, y_attrs, y_classOf, y_alive, y_orders, y_lengths, y_letters, y_bases, y_vals, y_ops, y_locals, y_fRecv, y_fLine, y_fPos, y_fStmt, y_fTarget, y_fMask, y_fHome, fo, y_fVals, y_fNew, y_out) (nI 0)) : wpY_expressionToken post (y_maxObjects, y_maxSteps, y_maxDepth, y_kept, y_end, y_tokens, y_pending, y_lines, y_classes, y_prints, y_place, y_steps, nI dd, y_valTop, nI (ot + 1), y_opens, nI p, y_tk, y_tv, y_stmt, y_target, y_err, y_code, y_outcome, y_result, y_dry, 1, y_starting, y_ended, y_bad, y_hosted, y_sawSuper, tx, y_numbers, y_globals, y_entries, y_attrs, y_classOf, y_alive, y_orders, y_lengths, y_letters, y_bases, y_vals, y_ops, y_locals, y_fRecv, y_fLine, y_fPos, y_fStmt, y_fTarget, y_fMask, y_fHome, fo, y_fVals, y_fNew, y_out) := by
  unfold wpY_expressionToken
  refine hs_yTokK h 22 (hs_tkS (by decide)) (br_f (by decide) ?_)
  unfold wpY_operand
  refine br_f (hs_ne (a := 22) (b := 1000) (by decide) (by decide) (by decide)) (br_f (hs_ne (a := 22) (b := 12) (by decide) (by decide) (by decide)) (br_f (hs_ne (a := 22) (b := 100) (by decide) (by decide) (by decide)) (br_f (hs_ne (a := 22) (b := 21) (by decide) (by decide) (by decide)) (br_f (hs_ne (a := 22) (b := 130) (by decide) (by decide) (by decide)) (br_f (hs_ne (a := 22) (b := 13) (by decide) (by decide) (by decide)) (br_t rfl (And.intro (vp_in_nI hd (by decide)) ?_)))))))
  rw [nI_clamp (show dd < 2 ^ 31 by omega), hf, nI_pred, nI_clamp (show ot < 2 ^ 31 by omega), hs, hs_and63 hs2]
  have vi : vp_in (nI ot) 320 := vp_in_nI ho (by decide)
  exact br_f (nI_ge (by omega) (by omega)) (And.intro vi (br_f (nI_nlt (b := 2) (by omega) (by omega)) (And.intro vi (br_f (nI_nlt (a := 4) (by omega) (by decide)) H))))
theorem hs_yC0bad {tx : Nat → Int32} {p dd base : Nat} {r st : List Nat} {fo : Nat → Int32} {ot : Nat} (h : hs_TA tx p (22 :: r)) (hd : dd < 7) (hf : fo dd = nI base) (hS : hs_SA y_ops base ot st) (ho : ot < 320) (hty : ¬ (2 ≤ hs_hd st % 64 ∧ hs_hd st % 64 ≤ 4)) {post : Int32 → SY → Prop} (Hb : (∀ (q1 q2 q3 q4 q5 q6 q7 q8 : Int32) (q9 : Nat → Int64) (q10 : Nat → Int32), post 0 (y_maxObjects, y_maxSteps, y_maxDepth, y_kept, y_end, y_tokens, y_pending, y_lines, y_classes, y_prints, y_place, y_steps, y_d, q7, q8, q1, q2, q3, q4, y_stmt, y_target, y_err, y_code, y_outcome, y_result, 1, q5, y_starting, y_ended, 1, y_hosted, q6, tx, y_numbers, y_globals, y_entries, y_attrs, y_classOf, y_alive, y_orders, y_lengths, y_letters, y_bases, q9, q10, y_locals, y_fRecv, y_fLine, y_fPos, y_fStmt, y_fTarget, y_fMask, y_fHome, y_fOps, y_fVals, y_fNew, y_out))) (Hb' : post 0 (y_maxObjects, y_maxSteps, y_maxDepth, y_kept, y_end, y_tokens, y_pending, y_lines, y_classes, y_prints, y_place, y_steps, nI dd, y_valTop, nI ot, y_opens, nI (p + 1), nI 22, nI (22 - 22), y_stmt, y_target, y_err, y_code, y_outcome, y_result, y_dry, 1, y_starting, y_ended, 1, y_hosted, y_sawSuper, tx, y_numbers, y_globals, y_entries, y_attrs, y_classOf, y_alive, y_orders, y_lengths, y_letters, y_bases, y_vals, y_ops, y_locals, y_fRecv, y_fLine, y_fPos, y_fStmt, y_fTarget, y_fMask, y_fHome, fo, y_fVals, y_fNew, y_out)) : wpY_expressionToken post (y_maxObjects, y_maxSteps, y_maxDepth, y_kept, y_end, y_tokens, y_pending, y_lines, y_classes, y_prints, y_place, y_steps, nI dd, y_valTop, nI ot, y_opens, nI p, y_tk, y_tv, y_stmt, y_target, y_err, y_code, y_outcome, y_result, y_dry, 1, y_starting, y_ended, y_bad, y_hosted, y_sawSuper, tx, y_numbers, y_globals, y_entries, y_attrs, y_classOf, y_alive, y_orders, y_lengths, y_letters, y_bases, y_vals, y_ops, y_locals, y_fRecv, y_fLine, y_fPos, y_fStmt, y_fTarget, y_fMask, y_fHome, fo, y_fVals, y_fNew, y_out) := by
  unfold wpY_expressionToken
  refine hs_yTokK h 22 (hs_tkS (by decide)) (br_f (by decide) ?_)
  unfold wpY_operand
  refine br_f (hs_ne (a := 22) (b := 1000) (by decide) (by decide) (by decide)) (br_f (hs_ne (a := 22) (b := 12) (by decide) (by decide) (by decide)) (br_f (hs_ne (a := 22) (b := 100) (by decide) (by decide) (by decide)) (br_f (hs_ne (a := 22) (b := 21) (by decide) (by decide) (by decide)) (br_f (hs_ne (a := 22) (b := 130) (by decide) (by decide) (by decide)) (br_f (hs_ne (a := 22) (b := 13) (by decide) (by decide) (by decide)) (br_t rfl (And.intro (vp_in_nI hd (by decide)) ?_)))))))
  rw [nI_clamp (show dd < 2 ^ 31 by omega), hf]
  cases st with
  | nil =>
    have e : ot = base := hS
    subst e
    exact br_t (nI_le (Nat.le_refl _) (by omega)) Hb'
  | cons s st =>
    obtain ⟨t, rfl, hb, hs, hs2, _⟩ := hS
    have hty : ¬ (2 ≤ s % 64 ∧ s % 64 ≤ 4) := hty
    rw [nI_pred, nI_clamp (show t < 2 ^ 31 by omega), hs, hs_and63 hs2]
    have vi : vp_in (nI t) 320 := vp_in_nI (by omega) (by decide)
    refine br_f (nI_ge (by omega) (by omega)) (And.intro vi ?_)
    refine pk_lt (s % 64) 2 (fun _ => Hb') (fun z => And.intro vi (pk_lt 4 (s % 64) (fun _ => Hb') (fun y => absurd ⟨z, y⟩ hty)))
theorem hs_yOpdBad {tx : Nat → Int32} {p t : Nat} {r : List Nat} (h : hs_TA tx p (t :: r)) (hv : hs_vt t) (h1 : ¬ 1000 ≤ t) (h2 : t ≠ 12) (h3 : hs_isN t = false) (h4 : t ≠ 21) (h5 : hs_isC t = false) (h6 : t ≠ 13) (h7 : t ≠ 22) {post : Int32 → SY → Prop} (H : post 0 (y_maxObjects, y_maxSteps, y_maxDepth, y_kept, y_end, y_tokens, y_pending, y_lines, y_classes, y_prints, y_place, y_steps, y_d, y_valTop, y_opTop, y_opens, nI (p + 1), nI t, nI (t - t), y_stmt, y_target, y_err, y_code, y_outcome, y_result, y_dry, 1, y_starting, y_ended, 1, y_hosted, y_sawSuper, tx, y_numbers, y_globals, y_entries, y_attrs, y_classOf, y_alive, y_orders, y_lengths, y_letters, y_bases, y_vals, y_ops, y_locals, y_fRecv, y_fLine, y_fPos, y_fStmt, y_fTarget, y_fMask, y_fHome, y_fOps, y_fVals, y_fNew, y_out)) : wpY_expressionToken post (y_maxObjects, y_maxSteps, y_maxDepth, y_kept, y_end, y_tokens, y_pending, y_lines, y_classes, y_prints, y_place, y_steps, y_d, y_valTop, y_opTop, y_opens, nI p, y_tk, y_tv, y_stmt, y_target, y_err, y_code, y_outcome, y_result, y_dry, 1, y_starting, y_ended, y_bad, y_hosted, y_sawSuper, tx, y_numbers, y_globals, y_entries, y_attrs, y_classOf, y_alive, y_orders, y_lengths, y_letters, y_bases, y_vals, y_ops, y_locals, y_fRecv, y_fLine, y_fPos, y_fStmt, y_fTarget, y_fMask, y_fHome, y_fOps, y_fVals, y_fNew, y_out) := by
  have ht : t < 100 := by
    rcases hv with z | z | z | z | z
    · omega
    · omega
    · rw [h3] at z; cases z
    · rw [h5] at z; cases z
    · omega
  unfold wpY_expressionToken
  refine hs_yTokK h t (hs_tkS ht) (br_f (by decide) ?_)
  unfold wpY_operand
  exact br_f (hs_ne (a := t) (b := 1000) (by omega) (by omega) (by omega)) (br_f (hs_ne (a := t) (b := 12) (by omega) (by omega) (by omega)) (br_f (hs_ne (a := t) (b := 100) (by omega) (by omega) (by omega)) (br_f (hs_ne (a := t) (b := 21) (by omega) (by omega) (by omega)) (br_f (hs_ne (a := t) (b := 130) (by omega) (by omega) (by omega)) (br_f (hs_ne (a := t) (b := 13) (by omega) (by omega) (by omega)) (br_f (hs_ne (a := t) (b := 22) (by omega) (by omega) (by omega)) H))))))
theorem hs_yOpdEnd {tx : Nat → Int32} {p : Nat} (h : hs_TA tx p []) {post : Int32 → SY → Prop} (H : post 0 (y_maxObjects, y_maxSteps, y_maxDepth, y_kept, y_end, y_tokens, y_pending, y_lines, y_classes, y_prints, y_place, y_steps, y_d, y_valTop, y_opTop, y_opens, nI p, 0, y_tv, y_stmt, y_target, y_err, y_code, y_outcome, y_result, y_dry, 1, y_starting, y_ended, 1, y_hosted, y_sawSuper, tx, y_numbers, y_globals, y_entries, y_attrs, y_classOf, y_alive, y_orders, y_lengths, y_letters, y_bases, y_vals, y_ops, y_locals, y_fRecv, y_fLine, y_fPos, y_fStmt, y_fTarget, y_fMask, y_fHome, y_fOps, y_fVals, y_fNew, y_out)) : wpY_expressionToken post (y_maxObjects, y_maxSteps, y_maxDepth, y_kept, y_end, y_tokens, y_pending, y_lines, y_classes, y_prints, y_place, y_steps, y_d, y_valTop, y_opTop, y_opens, nI p, y_tk, y_tv, y_stmt, y_target, y_err, y_code, y_outcome, y_result, y_dry, 1, y_starting, y_ended, y_bad, y_hosted, y_sawSuper, tx, y_numbers, y_globals, y_entries, y_attrs, y_classOf, y_alive, y_orders, y_lengths, y_letters, y_bases, y_vals, y_ops, y_locals, y_fRecv, y_fLine, y_fPos, y_fStmt, y_fTarget, y_fMask, y_fHome, y_fOps, y_fVals, y_fNew, y_out) := by
  unfold wpY_expressionToken
  refine hs_yTokE h (br_f (by decide) ?_)
  unfold wpY_operand
  exact br_f (hs_ne (a := 0) (b := 1000) (by decide) (by decide) (by decide)) (br_f (hs_ne (a := 0) (b := 12) (by decide) (by decide) (by decide)) (br_f (hs_ne (a := 0) (b := 100) (by decide) (by decide) (by decide)) (br_f (hs_ne (a := 0) (b := 21) (by decide) (by decide) (by decide)) (br_f (hs_ne (a := 0) (b := 130) (by decide) (by decide) (by decide)) (br_f (hs_ne (a := 0) (b := 13) (by decide) (by decide) (by decide)) (br_f (hs_ne (a := 0) (b := 22) (by decide) (by decide) (by decide)) H))))))
end
