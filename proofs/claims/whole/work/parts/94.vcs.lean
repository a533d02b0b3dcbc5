/-! the smaller calls -/
section
variable {x_objectLimit x_stepLimit x_depthLimit x_pendingCount x_keptTokens x_keptLines x_lineCount x_codeCount x_cursor x_stop x_waitingCount x_openCount x_classCount x_callCount x_operandCount x_stepsTaken x_error x_raisedCode x_printCount x_lastPlace : Int32} {x_lastResult : Int64} {x_pending x_lineTable x_orders x_merging x_letterClass x_objectClass x_calls x_lastPrints : Nat → Int32} {x_code x_waiting x_globals x_entries x_attributes x_held x_operands : Nat → Int64}
variable {y_maxObjects y_maxSteps y_maxDepth y_kept y_end y_tokens y_pending y_lines y_classes y_prints y_place y_steps y_d y_valTop y_opTop y_opens y_pos y_tk y_tv y_stmt y_target y_err y_code y_outcome y_dry y_want y_starting y_ended y_bad y_hosted y_sawSuper : Int32} {y_result : Int64} {y_text y_numbers y_classOf y_alive y_orders y_lengths y_letters y_bases y_ops y_fLine y_fPos y_fStmt y_fTarget y_fMask y_fHome y_fOps y_fVals y_fNew y_out : Nat → Int32} {y_globals y_entries y_attrs y_vals y_locals y_fRecv : Nat → Int64}
theorem i_vc_result {k : Nat} {u : SX} {v : SY} (I : i_Rel k u v) (hk : k + 5 ≤ 2563) : wpX_result (fun r => wpY_result (fun r' => r' = r ∧ i_Rel (k + 5) u v) v) u := by
  have I0 := I
  obtain ⟨tx, nu, LT, pd, cd, lc, kp, cc, P, ind, h, tk, ca, cb, us, ue, cn, ml, gl, ex, at1, HE, ox, oc, lt, lp, mo, mS, mD, kt, kl, pn, pc, rc, pl, er, rv, ⟨T, W, MC, H0, PD, ⟨kp1, kp2⟩, rv0, ⟨m1, m2, m3, m4⟩, ⟨c1, c2, c3, c4, c5⟩⟩, hx, hy⟩ := I
  obtain ⟨x_objectLimit, x_stepLimit, x_depthLimit, x_pendingCount, x_keptTokens, x_keptLines, x_lineCount, x_codeCount, x_cursor, x_stop, x_waitingCount, x_openCount, x_classCount, x_callCount, x_operandCount, x_stepsTaken, x_error, x_raisedCode, x_printCount, x_lastResult, x_lastPlace, x_pending, x_lineTable, x_code, x_waiting, x_globals, x_entries, x_orders, x_merging, x_letterClass, x_objectClass, x_attributes, x_calls, x_held, x_operands, x_lastPrints⟩ := u
  obtain ⟨y_maxObjects, y_maxSteps, y_maxDepth, y_kept, y_end, y_tokens, y_pending, y_lines, y_classes, y_prints, y_place, y_steps, y_d, y_valTop, y_opTop, y_opens, y_pos, y_tk, y_tv, y_stmt, y_target, y_err, y_code, y_outcome, y_result, y_dry, y_want, y_starting, y_ended, y_bad, y_hosted, y_sawSuper, y_text, y_numbers, y_globals, y_entries, y_attrs, y_classOf, y_alive, y_orders, y_lengths, y_letters, y_bases, y_vals, y_ops, y_locals, y_fRecv, y_fLine, y_fPos, y_fStmt, y_fTarget, y_fMask, y_fHome, y_fOps, y_fVals, y_fNew, y_out⟩ := v
  have J := i_up I0
  obtain ⟨b1, b2, b3, b4, b5, b6, b7, b8, b9, b10, b11, b12, b13, b14, b15, b16, b17, b18, b19, b20, b21, b22, b23, b24, b25, b26⟩ := hx
  obtain ⟨⟨a1, a2, a3, a4, a5, a6, a7, a8, a9, a10, a11, a12, a13, a14, a15, a16, a17, a18, a19, anu, a21, a22, a23, a24, a25⟩, E, O, l0, f0, f1, f2⟩ := hy
  subst b1 b2 b3 b4 b5 b6 b7 b8 b9 b10 b11 b12 b13 b14 b15 b16 b17 b18 b19 b20 b21 b22 b23 b24 b25 b26
  subst a1 a2 a3 a4 a5 a6 a7 a8 a9 a10 a11 a12 a13 a14 a15 a16 a17 a18 a19 a21 a22 a23 a24 a25
  exact hs_yShown (hs_rvV rv0) ⟨rfl, J⟩
theorem i_vc_place {k : Nat} {u : SX} {v : SY} (I : i_Rel k u v) (hk : k + 5 ≤ 2563) : wpX_place (fun r => wpY_place (fun r' => r' = r ∧ i_Rel (k + 5) u v) v) u := by
  have I0 := I
  obtain ⟨tx, nu, LT, pd, cd, lc, kp, cc, P, ind, h, tk, ca, cb, us, ue, cn, ml, gl, ex, at1, HE, ox, oc, lt, lp, mo, mS, mD, kt, kl, pn, pc, rc, pl, er, rv, ⟨T, W, MC, H0, PD, ⟨kp1, kp2⟩, rv0, ⟨m1, m2, m3, m4⟩, ⟨c1, c2, c3, c4, c5⟩⟩, hx, hy⟩ := I
  obtain ⟨x_objectLimit, x_stepLimit, x_depthLimit, x_pendingCount, x_keptTokens, x_keptLines, x_lineCount, x_codeCount, x_cursor, x_stop, x_waitingCount, x_openCount, x_classCount, x_callCount, x_operandCount, x_stepsTaken, x_error, x_raisedCode, x_printCount, x_lastResult, x_lastPlace, x_pending, x_lineTable, x_code, x_waiting, x_globals, x_entries, x_orders, x_merging, x_letterClass, x_objectClass, x_attributes, x_calls, x_held, x_operands, x_lastPrints⟩ := u
  obtain ⟨y_maxObjects, y_maxSteps, y_maxDepth, y_kept, y_end, y_tokens, y_pending, y_lines, y_classes, y_prints, y_place, y_steps, y_d, y_valTop, y_opTop, y_opens, y_pos, y_tk, y_tv, y_stmt, y_target, y_err, y_code, y_outcome, y_result, y_dry, y_want, y_starting, y_ended, y_bad, y_hosted, y_sawSuper, y_text, y_numbers, y_globals, y_entries, y_attrs, y_classOf, y_alive, y_orders, y_lengths, y_letters, y_bases, y_vals, y_ops, y_locals, y_fRecv, y_fLine, y_fPos, y_fStmt, y_fTarget, y_fMask, y_fHome, y_fOps, y_fVals, y_fNew, y_out⟩ := v
  have J := i_up I0
  obtain ⟨b1, b2, b3, b4, b5, b6, b7, b8, b9, b10, b11, b12, b13, b14, b15, b16, b17, b18, b19, b20, b21, b22, b23, b24, b25, b26⟩ := hx
  obtain ⟨⟨a1, a2, a3, a4, a5, a6, a7, a8, a9, a10, a11, a12, a13, a14, a15, a16, a17, a18, a19, anu, a21, a22, a23, a24, a25⟩, E, O, l0, f0, f1, f2⟩ := hy
  subst b1 b2 b3 b4 b5 b6 b7 b8 b9 b10 b11 b12 b13 b14 b15 b16 b17 b18 b19 b20 b21 b22 b23 b24 b25 b26
  subst a1 a2 a3 a4 a5 a6 a7 a8 a9 a10 a11 a12 a13 a14 a15 a16 a17 a18 a19 a21 a22 a23 a24 a25
  exact ⟨rfl, J⟩
theorem i_vc_lines {k : Nat} {u : SX} {v : SY} (I : i_Rel k u v) (hk : k + 5 ≤ 2563) : wpX_lines (fun r => wpY_lines (fun r' => r' = r ∧ i_Rel (k + 5) u v) v) u := by
  have I0 := I
  obtain ⟨tx, nu, LT, pd, cd, lc, kp, cc, P, ind, h, tk, ca, cb, us, ue, cn, ml, gl, ex, at1, HE, ox, oc, lt, lp, mo, mS, mD, kt, kl, pn, pc, rc, pl, er, rv, ⟨T, W, MC, H0, PD, ⟨kp1, kp2⟩, rv0, ⟨m1, m2, m3, m4⟩, ⟨c1, c2, c3, c4, c5⟩⟩, hx, hy⟩ := I
  obtain ⟨x_objectLimit, x_stepLimit, x_depthLimit, x_pendingCount, x_keptTokens, x_keptLines, x_lineCount, x_codeCount, x_cursor, x_stop, x_waitingCount, x_openCount, x_classCount, x_callCount, x_operandCount, x_stepsTaken, x_error, x_raisedCode, x_printCount, x_lastResult, x_lastPlace, x_pending, x_lineTable, x_code, x_waiting, x_globals, x_entries, x_orders, x_merging, x_letterClass, x_objectClass, x_attributes, x_calls, x_held, x_operands, x_lastPrints⟩ := u
  obtain ⟨y_maxObjects, y_maxSteps, y_maxDepth, y_kept, y_end, y_tokens, y_pending, y_lines, y_classes, y_prints, y_place, y_steps, y_d, y_valTop, y_opTop, y_opens, y_pos, y_tk, y_tv, y_stmt, y_target, y_err, y_code, y_outcome, y_result, y_dry, y_want, y_starting, y_ended, y_bad, y_hosted, y_sawSuper, y_text, y_numbers, y_globals, y_entries, y_attrs, y_classOf, y_alive, y_orders, y_lengths, y_letters, y_bases, y_vals, y_ops, y_locals, y_fRecv, y_fLine, y_fPos, y_fStmt, y_fTarget, y_fMask, y_fHome, y_fOps, y_fVals, y_fNew, y_out⟩ := v
  have J := i_up I0
  obtain ⟨b1, b2, b3, b4, b5, b6, b7, b8, b9, b10, b11, b12, b13, b14, b15, b16, b17, b18, b19, b20, b21, b22, b23, b24, b25, b26⟩ := hx
  obtain ⟨⟨a1, a2, a3, a4, a5, a6, a7, a8, a9, a10, a11, a12, a13, a14, a15, a16, a17, a18, a19, anu, a21, a22, a23, a24, a25⟩, E, O, l0, f0, f1, f2⟩ := hy
  subst b1 b2 b3 b4 b5 b6 b7 b8 b9 b10 b11 b12 b13 b14 b15 b16 b17 b18 b19 b20 b21 b22 b23 b24 b25 b26
  subst a1 a2 a3 a4 a5 a6 a7 a8 a9 a10 a11 a12 a13 a14 a15 a16 a17 a18 a19 a21 a22 a23 a24 a25
  exact ⟨rfl, J⟩
theorem i_vc_variable {k : Nat} {u : SX} {v : SY} (I : i_Rel k u v) (hk : k + 5 ≤ 2563) (v1 : Int32) : wpX_variable (fun r => wpY_variable (fun r' => r' = r ∧ i_Rel (k + 5) u v) v v1) u v1 := by
  have I0 := I
  obtain ⟨tx, nu, LT, pd, cd, lc, kp, cc, P, ind, h, tk, ca, cb, us, ue, cn, ml, gl, ex, at1, HE, ox, oc, lt, lp, mo, mS, mD, kt, kl, pn, pc, rc, pl, er, rv, ⟨T, W, MC, H0, PD, ⟨kp1, kp2⟩, rv0, ⟨m1, m2, m3, m4⟩, ⟨c1, c2, c3, c4, c5⟩⟩, hx, hy⟩ := I
  obtain ⟨x_objectLimit, x_stepLimit, x_depthLimit, x_pendingCount, x_keptTokens, x_keptLines, x_lineCount, x_codeCount, x_cursor, x_stop, x_waitingCount, x_openCount, x_classCount, x_callCount, x_operandCount, x_stepsTaken, x_error, x_raisedCode, x_printCount, x_lastResult, x_lastPlace, x_pending, x_lineTable, x_code, x_waiting, x_globals, x_entries, x_orders, x_merging, x_letterClass, x_objectClass, x_attributes, x_calls, x_held, x_operands, x_lastPrints⟩ := u
  obtain ⟨y_maxObjects, y_maxSteps, y_maxDepth, y_kept, y_end, y_tokens, y_pending, y_lines, y_classes, y_prints, y_place, y_steps, y_d, y_valTop, y_opTop, y_opens, y_pos, y_tk, y_tv, y_stmt, y_target, y_err, y_code, y_outcome, y_result, y_dry, y_want, y_starting, y_ended, y_bad, y_hosted, y_sawSuper, y_text, y_numbers, y_globals, y_entries, y_attrs, y_classOf, y_alive, y_orders, y_lengths, y_letters, y_bases, y_vals, y_ops, y_locals, y_fRecv, y_fLine, y_fPos, y_fStmt, y_fTarget, y_fMask, y_fHome, y_fOps, y_fVals, y_fNew, y_out⟩ := v
  have J := i_up I0
  obtain ⟨b1, b2, b3, b4, b5, b6, b7, b8, b9, b10, b11, b12, b13, b14, b15, b16, b17, b18, b19, b20, b21, b22, b23, b24, b25, b26⟩ := hx
  obtain ⟨⟨a1, a2, a3, a4, a5, a6, a7, a8, a9, a10, a11, a12, a13, a14, a15, a16, a17, a18, a19, anu, a21, a22, a23, a24, a25⟩, E, O, l0, f0, f1, f2⟩ := hy
  subst b1 b2 b3 b4 b5 b6 b7 b8 b9 b10 b11 b12 b13 b14 b15 b16 b17 b18 b19 b20 b21 b22 b23 b24 b25 b26
  subst a1 a2 a3 a4 a5 a6 a7 a8 a9 a10 a11 a12 a13 a14 a15 a16 a17 a18 a19 a21 a22 a23 a24 a25
  exact hs_rVariable (fun j hj => hs_rvV (W.2.2.1 j hj)) J v1
theorem i_vc_attribute {k : Nat} {u : SX} {v : SY} (I : i_Rel k u v) (hk : k + 5 ≤ 2563) (v1 : Int32) (v2 : Int32) : wpX_attribute (fun r => wpY_attribute (fun r' => r' = r ∧ i_Rel (k + 5) u v) v v1 v2) u v1 v2 := by
  have I0 := I
  obtain ⟨tx, nu, LT, pd, cd, lc, kp, cc, P, ind, h, tk, ca, cb, us, ue, cn, ml, gl, ex, at1, HE, ox, oc, lt, lp, mo, mS, mD, kt, kl, pn, pc, rc, pl, er, rv, ⟨T, W, MC, H0, PD, ⟨kp1, kp2⟩, rv0, ⟨m1, m2, m3, m4⟩, ⟨c1, c2, c3, c4, c5⟩⟩, hx, hy⟩ := I
  obtain ⟨x_objectLimit, x_stepLimit, x_depthLimit, x_pendingCount, x_keptTokens, x_keptLines, x_lineCount, x_codeCount, x_cursor, x_stop, x_waitingCount, x_openCount, x_classCount, x_callCount, x_operandCount, x_stepsTaken, x_error, x_raisedCode, x_printCount, x_lastResult, x_lastPlace, x_pending, x_lineTable, x_code, x_waiting, x_globals, x_entries, x_orders, x_merging, x_letterClass, x_objectClass, x_attributes, x_calls, x_held, x_operands, x_lastPrints⟩ := u
  obtain ⟨y_maxObjects, y_maxSteps, y_maxDepth, y_kept, y_end, y_tokens, y_pending, y_lines, y_classes, y_prints, y_place, y_steps, y_d, y_valTop, y_opTop, y_opens, y_pos, y_tk, y_tv, y_stmt, y_target, y_err, y_code, y_outcome, y_result, y_dry, y_want, y_starting, y_ended, y_bad, y_hosted, y_sawSuper, y_text, y_numbers, y_globals, y_entries, y_attrs, y_classOf, y_alive, y_orders, y_lengths, y_letters, y_bases, y_vals, y_ops, y_locals, y_fRecv, y_fLine, y_fPos, y_fStmt, y_fTarget, y_fMask, y_fHome, y_fOps, y_fVals, y_fNew, y_out⟩ := v
  have J := i_up I0
  obtain ⟨b1, b2, b3, b4, b5, b6, b7, b8, b9, b10, b11, b12, b13, b14, b15, b16, b17, b18, b19, b20, b21, b22, b23, b24, b25, b26⟩ := hx
  obtain ⟨⟨a1, a2, a3, a4, a5, a6, a7, a8, a9, a10, a11, a12, a13, a14, a15, a16, a17, a18, a19, anu, a21, a22, a23, a24, a25⟩, E, O, l0, f0, f1, f2⟩ := hy
  subst b1 b2 b3 b4 b5 b6 b7 b8 b9 b10 b11 b12 b13 b14 b15 b16 b17 b18 b19 b20 b21 b22 b23 b24 b25 b26
  subst a1 a2 a3 a4 a5 a6 a7 a8 a9 a10 a11 a12 a13 a14 a15 a16 a17 a18 a19 a21 a22 a23 a24 a25
  exact hs_rAttribute (fun j hj => hs_rvV (W.2.2.1 j hj)) (fun j hj => hs_rvV (W.2.2.2.2.1 j hj)) J v1 v2
theorem i_vc_entry {k : Nat} {u : SX} {v : SY} (I : i_Rel k u v) (hk : k + 5 ≤ 2563) (v1 : Int32) (v2 : Int32) : wpX_entry (fun r => wpY_entry (fun r' => r' = r ∧ i_Rel (k + 5) u v) v v1 v2) u v1 v2 := by
  have I0 := I
  obtain ⟨tx, nu, LT, pd, cd, lc, kp, cc, P, ind, h, tk, ca, cb, us, ue, cn, ml, gl, ex, at1, HE, ox, oc, lt, lp, mo, mS, mD, kt, kl, pn, pc, rc, pl, er, rv, ⟨T, W, MC, H0, PD, ⟨kp1, kp2⟩, rv0, ⟨m1, m2, m3, m4⟩, ⟨c1, c2, c3, c4, c5⟩⟩, hx, hy⟩ := I
  obtain ⟨x_objectLimit, x_stepLimit, x_depthLimit, x_pendingCount, x_keptTokens, x_keptLines, x_lineCount, x_codeCount, x_cursor, x_stop, x_waitingCount, x_openCount, x_classCount, x_callCount, x_operandCount, x_stepsTaken, x_error, x_raisedCode, x_printCount, x_lastResult, x_lastPlace, x_pending, x_lineTable, x_code, x_waiting, x_globals, x_entries, x_orders, x_merging, x_letterClass, x_objectClass, x_attributes, x_calls, x_held, x_operands, x_lastPrints⟩ := u
  obtain ⟨y_maxObjects, y_maxSteps, y_maxDepth, y_kept, y_end, y_tokens, y_pending, y_lines, y_classes, y_prints, y_place, y_steps, y_d, y_valTop, y_opTop, y_opens, y_pos, y_tk, y_tv, y_stmt, y_target, y_err, y_code, y_outcome, y_result, y_dry, y_want, y_starting, y_ended, y_bad, y_hosted, y_sawSuper, y_text, y_numbers, y_globals, y_entries, y_attrs, y_classOf, y_alive, y_orders, y_lengths, y_letters, y_bases, y_vals, y_ops, y_locals, y_fRecv, y_fLine, y_fPos, y_fStmt, y_fTarget, y_fMask, y_fHome, y_fOps, y_fVals, y_fNew, y_out⟩ := v
  have J := i_up I0
  obtain ⟨b1, b2, b3, b4, b5, b6, b7, b8, b9, b10, b11, b12, b13, b14, b15, b16, b17, b18, b19, b20, b21, b22, b23, b24, b25, b26⟩ := hx
  obtain ⟨⟨a1, a2, a3, a4, a5, a6, a7, a8, a9, a10, a11, a12, a13, a14, a15, a16, a17, a18, a19, anu, a21, a22, a23, a24, a25⟩, E, O, l0, f0, f1, f2⟩ := hy
  subst b1 b2 b3 b4 b5 b6 b7 b8 b9 b10 b11 b12 b13 b14 b15 b16 b17 b18 b19 b20 b21 b22 b23 b24 b25 b26
  subst a1 a2 a3 a4 a5 a6 a7 a8 a9 a10 a11 a12 a13 a14 a15 a16 a17 a18 a19 a21 a22 a23 a24 a25
  exact hs_rEntry W.1.2 E J v1 v2
theorem i_vc_order {k : Nat} {u : SX} {v : SY} (I : i_Rel k u v) (hk : k + 5 ≤ 2563) (v1 : Int32) (v2 : Int32) : wpX_order (fun r => wpY_order (fun r' => r' = r ∧ i_Rel (k + 5) u v) v v1 v2) u v1 v2 := by
  have I0 := I
  obtain ⟨tx, nu, LT, pd, cd, lc, kp, cc, P, ind, h, tk, ca, cb, us, ue, cn, ml, gl, ex, at1, HE, ox, oc, lt, lp, mo, mS, mD, kt, kl, pn, pc, rc, pl, er, rv, ⟨T, W, MC, H0, PD, ⟨kp1, kp2⟩, rv0, ⟨m1, m2, m3, m4⟩, ⟨c1, c2, c3, c4, c5⟩⟩, hx, hy⟩ := I
  obtain ⟨x_objectLimit, x_stepLimit, x_depthLimit, x_pendingCount, x_keptTokens, x_keptLines, x_lineCount, x_codeCount, x_cursor, x_stop, x_waitingCount, x_openCount, x_classCount, x_callCount, x_operandCount, x_stepsTaken, x_error, x_raisedCode, x_printCount, x_lastResult, x_lastPlace, x_pending, x_lineTable, x_code, x_waiting, x_globals, x_entries, x_orders, x_merging, x_letterClass, x_objectClass, x_attributes, x_calls, x_held, x_operands, x_lastPrints⟩ := u
  obtain ⟨y_maxObjects, y_maxSteps, y_maxDepth, y_kept, y_end, y_tokens, y_pending, y_lines, y_classes, y_prints, y_place, y_steps, y_d, y_valTop, y_opTop, y_opens, y_pos, y_tk, y_tv, y_stmt, y_target, y_err, y_code, y_outcome, y_result, y_dry, y_want, y_starting, y_ended, y_bad, y_hosted, y_sawSuper, y_text, y_numbers, y_globals, y_entries, y_attrs, y_classOf, y_alive, y_orders, y_lengths, y_letters, y_bases, y_vals, y_ops, y_locals, y_fRecv, y_fLine, y_fPos, y_fStmt, y_fTarget, y_fMask, y_fHome, y_fOps, y_fVals, y_fNew, y_out⟩ := v
  have J := i_up I0
  obtain ⟨b1, b2, b3, b4, b5, b6, b7, b8, b9, b10, b11, b12, b13, b14, b15, b16, b17, b18, b19, b20, b21, b22, b23, b24, b25, b26⟩ := hx
  obtain ⟨⟨a1, a2, a3, a4, a5, a6, a7, a8, a9, a10, a11, a12, a13, a14, a15, a16, a17, a18, a19, anu, a21, a22, a23, a24, a25⟩, E, O, l0, f0, f1, f2⟩ := hy
  subst b1 b2 b3 b4 b5 b6 b7 b8 b9 b10 b11 b12 b13 b14 b15 b16 b17 b18 b19 b20 b21 b22 b23 b24 b25 b26
  subst a1 a2 a3 a4 a5 a6 a7 a8 a9 a10 a11 a12 a13 a14 a15 a16 a17 a18 a19 a21 a22 a23 a24 a25
  refine hs_rOrder W.1.2 (fun c hc => ?_) J v1 v2
  obtain ⟨o1, o2, o3, o4⟩ := W.2.2.2.2.2.2.2.2 c hc
  exact ⟨ml c, (O c hc).1, o1, o2, o3, (O c hc).2, o4⟩
theorem i_vc_named {k : Nat} {u : SX} {v : SY} (I : i_Rel k u v) (hk : k + 5 ≤ 2563) (v1 : Int32) : wpX_named (fun r => wpY_named (fun r' => r' = r ∧ i_Rel (k + 5) u v) v v1) u v1 := by
  have I0 := I
  obtain ⟨tx, nu, LT, pd, cd, lc, kp, cc, P, ind, h, tk, ca, cb, us, ue, cn, ml, gl, ex, at1, HE, ox, oc, lt, lp, mo, mS, mD, kt, kl, pn, pc, rc, pl, er, rv, ⟨T, W, MC, H0, PD, ⟨kp1, kp2⟩, rv0, ⟨m1, m2, m3, m4⟩, ⟨c1, c2, c3, c4, c5⟩⟩, hx, hy⟩ := I
  obtain ⟨x_objectLimit, x_stepLimit, x_depthLimit, x_pendingCount, x_keptTokens, x_keptLines, x_lineCount, x_codeCount, x_cursor, x_stop, x_waitingCount, x_openCount, x_classCount, x_callCount, x_operandCount, x_stepsTaken, x_error, x_raisedCode, x_printCount, x_lastResult, x_lastPlace, x_pending, x_lineTable, x_code, x_waiting, x_globals, x_entries, x_orders, x_merging, x_letterClass, x_objectClass, x_attributes, x_calls, x_held, x_operands, x_lastPrints⟩ := u
  obtain ⟨y_maxObjects, y_maxSteps, y_maxDepth, y_kept, y_end, y_tokens, y_pending, y_lines, y_classes, y_prints, y_place, y_steps, y_d, y_valTop, y_opTop, y_opens, y_pos, y_tk, y_tv, y_stmt, y_target, y_err, y_code, y_outcome, y_result, y_dry, y_want, y_starting, y_ended, y_bad, y_hosted, y_sawSuper, y_text, y_numbers, y_globals, y_entries, y_attrs, y_classOf, y_alive, y_orders, y_lengths, y_letters, y_bases, y_vals, y_ops, y_locals, y_fRecv, y_fLine, y_fPos, y_fStmt, y_fTarget, y_fMask, y_fHome, y_fOps, y_fVals, y_fNew, y_out⟩ := v
  have J := i_up I0
  obtain ⟨b1, b2, b3, b4, b5, b6, b7, b8, b9, b10, b11, b12, b13, b14, b15, b16, b17, b18, b19, b20, b21, b22, b23, b24, b25, b26⟩ := hx
  obtain ⟨⟨a1, a2, a3, a4, a5, a6, a7, a8, a9, a10, a11, a12, a13, a14, a15, a16, a17, a18, a19, anu, a21, a22, a23, a24, a25⟩, E, O, l0, f0, f1, f2⟩ := hy
  subst b1 b2 b3 b4 b5 b6 b7 b8 b9 b10 b11 b12 b13 b14 b15 b16 b17 b18 b19 b20 b21 b22 b23 b24 b25 b26
  subst a1 a2 a3 a4 a5 a6 a7 a8 a9 a10 a11 a12 a13 a14 a15 a16 a17 a18 a19 a21 a22 a23 a24 a25
  exact hs_rNamed J v1
theorem i_vc_prints {k : Nat} {u : SX} {v : SY} (I : i_Rel k u v) (hk : k + 5 ≤ 2563) : wpX_prints (fun r => wpY_prints (fun r' => r' = r ∧ i_Rel (k + 5) u v) v) u := by
  have I0 := I
  obtain ⟨tx, nu, LT, pd, cd, lc, kp, cc, P, ind, h, tk, ca, cb, us, ue, cn, ml, gl, ex, at1, HE, ox, oc, lt, lp, mo, mS, mD, kt, kl, pn, pc, rc, pl, er, rv, ⟨T, W, MC, H0, PD, ⟨kp1, kp2⟩, rv0, ⟨m1, m2, m3, m4⟩, ⟨c1, c2, c3, c4, c5⟩⟩, hx, hy⟩ := I
  obtain ⟨x_objectLimit, x_stepLimit, x_depthLimit, x_pendingCount, x_keptTokens, x_keptLines, x_lineCount, x_codeCount, x_cursor, x_stop, x_waitingCount, x_openCount, x_classCount, x_callCount, x_operandCount, x_stepsTaken, x_error, x_raisedCode, x_printCount, x_lastResult, x_lastPlace, x_pending, x_lineTable, x_code, x_waiting, x_globals, x_entries, x_orders, x_merging, x_letterClass, x_objectClass, x_attributes, x_calls, x_held, x_operands, x_lastPrints⟩ := u
  obtain ⟨y_maxObjects, y_maxSteps, y_maxDepth, y_kept, y_end, y_tokens, y_pending, y_lines, y_classes, y_prints, y_place, y_steps, y_d, y_valTop, y_opTop, y_opens, y_pos, y_tk, y_tv, y_stmt, y_target, y_err, y_code, y_outcome, y_result, y_dry, y_want, y_starting, y_ended, y_bad, y_hosted, y_sawSuper, y_text, y_numbers, y_globals, y_entries, y_attrs, y_classOf, y_alive, y_orders, y_lengths, y_letters, y_bases, y_vals, y_ops, y_locals, y_fRecv, y_fLine, y_fPos, y_fStmt, y_fTarget, y_fMask, y_fHome, y_fOps, y_fVals, y_fNew, y_out⟩ := v
  have J := i_up I0
  obtain ⟨b1, b2, b3, b4, b5, b6, b7, b8, b9, b10, b11, b12, b13, b14, b15, b16, b17, b18, b19, b20, b21, b22, b23, b24, b25, b26⟩ := hx
  obtain ⟨⟨a1, a2, a3, a4, a5, a6, a7, a8, a9, a10, a11, a12, a13, a14, a15, a16, a17, a18, a19, anu, a21, a22, a23, a24, a25⟩, E, O, l0, f0, f1, f2⟩ := hy
  subst b1 b2 b3 b4 b5 b6 b7 b8 b9 b10 b11 b12 b13 b14 b15 b16 b17 b18 b19 b20 b21 b22 b23 b24 b25 b26
  subst a1 a2 a3 a4 a5 a6 a7 a8 a9 a10 a11 a12 a13 a14 a15 a16 a17 a18 a19 a21 a22 a23 a24 a25
  exact ⟨rfl, J⟩
theorem i_vc_printed {k : Nat} {u : SX} {v : SY} (I : i_Rel k u v) (hk : k + 5 ≤ 2563) (v1 : Int32) : wpX_printed (fun r => wpY_printed (fun r' => r' = r ∧ i_Rel (k + 5) u v) v v1) u v1 := by
  have I0 := I
  obtain ⟨tx, nu, LT, pd, cd, lc, kp, cc, P, ind, h, tk, ca, cb, us, ue, cn, ml, gl, ex, at1, HE, ox, oc, lt, lp, mo, mS, mD, kt, kl, pn, pc, rc, pl, er, rv, ⟨T, W, MC, H0, PD, ⟨kp1, kp2⟩, rv0, ⟨m1, m2, m3, m4⟩, ⟨c1, c2, c3, c4, c5⟩⟩, hx, hy⟩ := I
  obtain ⟨x_objectLimit, x_stepLimit, x_depthLimit, x_pendingCount, x_keptTokens, x_keptLines, x_lineCount, x_codeCount, x_cursor, x_stop, x_waitingCount, x_openCount, x_classCount, x_callCount, x_operandCount, x_stepsTaken, x_error, x_raisedCode, x_printCount, x_lastResult, x_lastPlace, x_pending, x_lineTable, x_code, x_waiting, x_globals, x_entries, x_orders, x_merging, x_letterClass, x_objectClass, x_attributes, x_calls, x_held, x_operands, x_lastPrints⟩ := u
  obtain ⟨y_maxObjects, y_maxSteps, y_maxDepth, y_kept, y_end, y_tokens, y_pending, y_lines, y_classes, y_prints, y_place, y_steps, y_d, y_valTop, y_opTop, y_opens, y_pos, y_tk, y_tv, y_stmt, y_target, y_err, y_code, y_outcome, y_result, y_dry, y_want, y_starting, y_ended, y_bad, y_hosted, y_sawSuper, y_text, y_numbers, y_globals, y_entries, y_attrs, y_classOf, y_alive, y_orders, y_lengths, y_letters, y_bases, y_vals, y_ops, y_locals, y_fRecv, y_fLine, y_fPos, y_fStmt, y_fTarget, y_fMask, y_fHome, y_fOps, y_fVals, y_fNew, y_out⟩ := v
  have J := i_up I0
  obtain ⟨b1, b2, b3, b4, b5, b6, b7, b8, b9, b10, b11, b12, b13, b14, b15, b16, b17, b18, b19, b20, b21, b22, b23, b24, b25, b26⟩ := hx
  obtain ⟨⟨a1, a2, a3, a4, a5, a6, a7, a8, a9, a10, a11, a12, a13, a14, a15, a16, a17, a18, a19, anu, a21, a22, a23, a24, a25⟩, E, O, l0, f0, f1, f2⟩ := hy
  subst b1 b2 b3 b4 b5 b6 b7 b8 b9 b10 b11 b12 b13 b14 b15 b16 b17 b18 b19 b20 b21 b22 b23 b24 b25 b26
  subst a1 a2 a3 a4 a5 a6 a7 a8 a9 a10 a11 a12 a13 a14 a15 a16 a17 a18 a19 a21 a22 a23 a24 a25
  exact hs_rPrinted J v1
theorem i_vc_live {k : Nat} {u : SX} {v : SY} (I : i_Rel k u v) (hk : k + 5 ≤ 2563) : wpX_live (fun r => wpY_live (fun r' v' => r' = r ∧ i_Rel (k + 5) u v') v) u := by
  have I0 := I
  obtain ⟨tx, nu, LT, pd, cd, lc, kp, cc, P, ind, h, tk, ca, cb, us, ue, cn, ml, gl, ex, at1, HE, ox, oc, lt, lp, mo, mS, mD, kt, kl, pn, pc, rc, pl, er, rv, ⟨T, W, MC, H0, PD, ⟨kp1, kp2⟩, rv0, ⟨m1, m2, m3, m4⟩, ⟨c1, c2, c3, c4, c5⟩⟩, hx, hy⟩ := I
  obtain ⟨x_objectLimit, x_stepLimit, x_depthLimit, x_pendingCount, x_keptTokens, x_keptLines, x_lineCount, x_codeCount, x_cursor, x_stop, x_waitingCount, x_openCount, x_classCount, x_callCount, x_operandCount, x_stepsTaken, x_error, x_raisedCode, x_printCount, x_lastResult, x_lastPlace, x_pending, x_lineTable, x_code, x_waiting, x_globals, x_entries, x_orders, x_merging, x_letterClass, x_objectClass, x_attributes, x_calls, x_held, x_operands, x_lastPrints⟩ := u
  obtain ⟨y_maxObjects, y_maxSteps, y_maxDepth, y_kept, y_end, y_tokens, y_pending, y_lines, y_classes, y_prints, y_place, y_steps, y_d, y_valTop, y_opTop, y_opens, y_pos, y_tk, y_tv, y_stmt, y_target, y_err, y_code, y_outcome, y_result, y_dry, y_want, y_starting, y_ended, y_bad, y_hosted, y_sawSuper, y_text, y_numbers, y_globals, y_entries, y_attrs, y_classOf, y_alive, y_orders, y_lengths, y_letters, y_bases, y_vals, y_ops, y_locals, y_fRecv, y_fLine, y_fPos, y_fStmt, y_fTarget, y_fMask, y_fHome, y_fOps, y_fVals, y_fNew, y_out⟩ := v
  have J := i_up I0
  obtain ⟨b1, b2, b3, b4, b5, b6, b7, b8, b9, b10, b11, b12, b13, b14, b15, b16, b17, b18, b19, b20, b21, b22, b23, b24, b25, b26⟩ := hx
  obtain ⟨⟨a1, a2, a3, a4, a5, a6, a7, a8, a9, a10, a11, a12, a13, a14, a15, a16, a17, a18, a19, anu, a21, a22, a23, a24, a25⟩, E, O, l0, f0, f1, f2⟩ := hy
  subst b1 b2 b3 b4 b5 b6 b7 b8 b9 b10 b11 b12 b13 b14 b15 b16 b17 b18 b19 b20 b21 b22 b23 b24 b25 b26
  subst a1 a2 a3 a4 a5 a6 a7 a8 a9 a10 a11 a12 a13 a14 a15 a16 a17 a18 a19 a21 a22 a23 a24 a25
  obtain ⟨rv1, rv2, rv3, rv4, rv5⟩ := hs_WXrv (d := 0) (vt := 0) (op := x_operands) W (fun j hj => by omega) ⟨H0, fun k k1 k2 => by omega⟩
  have eqm : hs_xm gl ex HE x_operands at1 0 0 = hs_xm gl ex HE x_operands at1 (0 + 1) 0 := rfl
  have exy : hs_xm gl ex HE x_operands at1 (0 + 1) 0 = hs_ym gl y_entries y_vals y_locals y_fRecv at1 0 0 := hs_xym (hs_EEob E) (fun j hj => by omega) (fun j c j1 j2 => by omega) (fun j j1 j2 => by omega)
  have lt := hs_xmLt (cl := 0 + 1) (on := 0) rv1 (fun j hj => by omega) rv3 rv4 rv5 (by omega)
  refine hs_xLive (cl := 0) (on := 0) (by omega) (by omega) rv1 (fun j hj => by omega) (fun j hj => by omega) rv4 rv5 ?_
  rw [eqm]
  refine hs_xCountBits lt ?_
  refine hs_yMarkLive (dd := 0) (vn := 0) (by omega) (by omega) rv1 (fun j j1 j2 => by omega) (fun j hj => ?_) (fun j hj => by omega) (fun j hj => ?_) rv5 (fun al hal => ?_)
  · rw [l0 j (by omega)]; exact hs_rvV (Or.inl rfl)
  · obtain ⟨k1, r, hr, e⟩ : ∃ k r, r < 26 ∧ j = k * 26 + r := ⟨j / 26, j % 26, Nat.mod_lt _ (by decide), by omega⟩
    subst e
    exact (hs_eeR (oc := oc) (by omega) (E k1 r (by omega) hr)).2.1
  · rw [exy]
    exact ⟨rfl, tx, nu, LT, pd, cd, lc, kp, cc, P, ind, h, tk, ca, cb, us, ue, cn, ml, gl, ex, at1, HE, ox, oc, lt, lp, mo, mS, mD, kt, kl, pn, pc, rc, pl, _, rv, ⟨T, W, MC, H0, PD, ⟨kp1, kp2⟩, rv0, ⟨m1, m2, m3, m4⟩, ⟨c1, by omega, c3, c4, c5⟩⟩, ⟨rfl, rfl, rfl, rfl, rfl, rfl, rfl, rfl, rfl, rfl, rfl, rfl, rfl, rfl, rfl, rfl, rfl, rfl, rfl, rfl, rfl, rfl, rfl, rfl, rfl, rfl⟩, ⟨⟨rfl, rfl, rfl, rfl, rfl, rfl, rfl, rfl, rfl, rfl, rfl, rfl, rfl, rfl, rfl, rfl, rfl, rfl, rfl, anu, rfl, rfl, rfl, rfl, rfl⟩, E, O, l0, f0, f1, f2⟩⟩
theorem hs_PD1 {tx pd : Nat → Int32} {cs pn : Nat} {x : Int32} (D : hs_PD tx pd cs pn) : hs_PD (hs_atx tx (cs + pn) x) (hs_apd pd pn x) cs (pn + hs_nz x) := by
  intro p hp
  unfold hs_atx hs_apd
  unfold hs_nz at hp
  by_cases z : x = 0
  · rw [if_pos z] at hp ⊢
    rw [if_pos z]
    exact D p (by omega)
  · rw [if_neg z] at hp ⊢
    rw [if_neg z]
    by_cases y : p = pn
    · subst y; rw [pk_us, pk_us]; exact ⟨z, rfl⟩
    · rw [pk_un y, pk_un (by omega)]; exact D p (by omega)
theorem hs_atxO {tx : Nat → Int32} {e q : Nat} {x : Int32} (h : q < e) : hs_atx tx e x q = tx q := by
  unfold hs_atx
  split
  · rfl
  · exact pk_un (by omega)
theorem i_vc_put {k : Nat} {u : SX} {v : SY} (I : i_Rel k u v) (hk : k + 5 ≤ 2563) (v1 : Int32) (v2 : Int32) (v3 : Int32) (v4 : Int32) : wpX_put (fun r u' => wpY_put (fun r' v' => r' = r ∧ i_Rel (k + 5) u' v') v v1 v2 v3 v4) u v1 v2 v3 v4 := by
  have I0 := I
  obtain ⟨tx, nu, LT, pd, cd, lc, kp, cc, P, ind, h, tk, ca, cb, us, ue, cn, ml, gl, ex, at1, HE, ox, oc, lt, lp, mo, mS, mD, kt, kl, pn, pc, rc, pl, er, rv, ⟨T, W, MC, H0, PD, ⟨kp1, kp2⟩, rv0, ⟨m1, m2, m3, m4⟩, ⟨c1, c2, c3, c4, c5⟩⟩, hx, hy⟩ := I
  obtain ⟨x_objectLimit, x_stepLimit, x_depthLimit, x_pendingCount, x_keptTokens, x_keptLines, x_lineCount, x_codeCount, x_cursor, x_stop, x_waitingCount, x_openCount, x_classCount, x_callCount, x_operandCount, x_stepsTaken, x_error, x_raisedCode, x_printCount, x_lastResult, x_lastPlace, x_pending, x_lineTable, x_code, x_waiting, x_globals, x_entries, x_orders, x_merging, x_letterClass, x_objectClass, x_attributes, x_calls, x_held, x_operands, x_lastPrints⟩ := u
  obtain ⟨y_maxObjects, y_maxSteps, y_maxDepth, y_kept, y_end, y_tokens, y_pending, y_lines, y_classes, y_prints, y_place, y_steps, y_d, y_valTop, y_opTop, y_opens, y_pos, y_tk, y_tv, y_stmt, y_target, y_err, y_code, y_outcome, y_result, y_dry, y_want, y_starting, y_ended, y_bad, y_hosted, y_sawSuper, y_text, y_numbers, y_globals, y_entries, y_attrs, y_classOf, y_alive, y_orders, y_lengths, y_letters, y_bases, y_vals, y_ops, y_locals, y_fRecv, y_fLine, y_fPos, y_fStmt, y_fTarget, y_fMask, y_fHome, y_fOps, y_fVals, y_fNew, y_out⟩ := v
  have J := i_up I0
  obtain ⟨b1, b2, b3, b4, b5, b6, b7, b8, b9, b10, b11, b12, b13, b14, b15, b16, b17, b18, b19, b20, b21, b22, b23, b24, b25, b26⟩ := hx
  obtain ⟨⟨a1, a2, a3, a4, a5, a6, a7, a8, a9, a10, a11, a12, a13, a14, a15, a16, a17, a18, a19, anu, a21, a22, a23, a24, a25⟩, E, O, l0, f0, f1, f2⟩ := hy
  subst b1 b2 b3 b4 b5 b6 b7 b8 b9 b10 b11 b12 b13 b14 b15 b16 b17 b18 b19 b20 b21 b22 b23 b24 b25 b26
  subst a1 a2 a3 a4 a5 a6 a7 a8 a9 a10 a11 a12 a13 a14 a15 a16 a17 a18 a19 a21 a22 a23 a24 a25
  have z1 := hs_nzLe v1
  have z2 := hs_nzLe v2
  have z3 := hs_nzLe v3
  have z4 := hs_nzLe v4
  refine hs_xPut c1 (fun hle => hs_yPut c1 (by omega) (fun _ => ⟨rfl, ?_⟩) (fun z => by omega)) (fun hgt => hs_yPut c1 (by omega) (fun z => by omega) (fun _ => ⟨rfl, J⟩))
  have D1 := hs_PD1 (x := v1) PD
  have D2 := hs_PD1 (x := v2) D1
  have D3 := hs_PD1 (x := v3) D2
  have D4 := hs_PD1 (x := v4) D3
  have e4 : hs_at4 tx (kp + pn) v1 v2 v3 v4 = hs_atx (hs_atx (hs_atx (hs_atx tx (kp + pn) v1) (kp + (pn + hs_nz v1)) v2) (kp + (pn + hs_nz v1 + hs_nz v2)) v3) (kp + (pn + hs_nz v1 + hs_nz v2 + hs_nz v3)) v4 := by
    unfold hs_at4
    rw [Nat.add_assoc kp pn (hs_nz v1), Nat.add_assoc kp (pn + hs_nz v1) (hs_nz v2), Nat.add_assoc kp (pn + hs_nz v1 + hs_nz v2) (hs_nz v3)]
  have ee : kp + pn + hs_nz v1 + hs_nz v2 + hs_nz v3 + hs_nz v4 = kp + (pn + hs_nz v1 + hs_nz v2 + hs_nz v3 + hs_nz v4) := by omega
  rw [e4, ee]
  have out : ∀ q, q < kp → hs_atx (hs_atx (hs_atx (hs_atx tx (kp + pn) v1) (kp + (pn + hs_nz v1)) v2) (kp + (pn + hs_nz v1 + hs_nz v2)) v3) (kp + (pn + hs_nz v1 + hs_nz v2 + hs_nz v3)) v4 q = tx q := fun q hq => by rw [hs_atxO (by omega), hs_atxO (by omega), hs_atxO (by omega), hs_atxO (by omega)]
  exact ⟨_, nu, LT, _, cd, lc, kp, cc, P, ind, h, tk, ca, cb, us, ue, cn, ml, gl, ex, at1, HE, ox, oc, lt, lp, mo, mS, mD, kt, kl, pn + hs_nz v1 + hs_nz v2 + hs_nz v3 + hs_nz v4, pc, rc, pl, _, rv, ⟨hs_Ttx T out (fun _ _ => rfl), W, MC, H0, D4, ⟨kp1, by rw [out _ (by omega)]; exact kp2⟩, rv0, ⟨m1, m2, m3, m4⟩, ⟨by omega, by omega, c3, c4, c5⟩⟩, ⟨rfl, rfl, rfl, rfl, rfl, rfl, rfl, rfl, rfl, rfl, rfl, rfl, rfl, rfl, rfl, rfl, rfl, rfl, rfl, rfl, rfl, rfl, rfl, rfl, rfl, rfl⟩, ⟨⟨rfl, rfl, rfl, rfl, rfl, rfl, rfl, rfl, rfl, rfl, rfl, rfl, rfl, rfl, rfl, rfl, rfl, rfl, rfl, anu, rfl, rfl, rfl, rfl, rfl⟩, E, O, l0, f0, f1, f2⟩⟩
end
