/-! what an element of code does, on the reference's side: errors, calls -/
section
variable {x_objectLimit x_stepLimit x_depthLimit x_pendingCount x_keptTokens x_keptLines x_lineCount x_codeCount x_cursor x_stop x_waitingCount x_openCount x_classCount x_callCount x_operandCount x_stepsTaken x_error x_raisedCode x_printCount x_lastPlace : Int32} {x_lastResult : Int64} {x_pending x_lineTable x_orders x_merging x_letterClass x_objectClass x_calls x_lastPrints : Nat → Int32} {x_code x_waiting x_globals x_entries x_attributes x_held x_operands : Nat → Int64}
variable {y_maxObjects y_maxSteps y_maxDepth y_kept y_end y_tokens y_pending y_lines y_classes y_prints y_place y_steps y_d y_valTop y_opTop y_opens y_pos y_tk y_tv y_stmt y_target y_err y_code y_outcome y_dry y_want y_starting y_ended y_bad y_hosted y_sawSuper : Int32} {y_result : Int64} {y_text y_numbers y_classOf y_alive y_orders y_lengths y_letters y_bases y_ops y_fLine y_fPos y_fStmt y_fTarget y_fMask y_fHome y_fOps y_fVals y_fNew y_out : Nat → Int32} {y_globals y_entries y_attrs y_vals y_locals y_fRecv : Nat → Int64}
variable {P h : Nat → Nat} {lc cn d vt q hm o dr : Nat} {ml : Nat → List Nat} {gl ex ey at1 op va HE loc fRe : Nat → Int64} {ox oc lt oy le fMa fHo : Nat → Int32} {mk : Int32}
theorem hs_yMethE {n : Nat} {v arg : Int64} {dr : Int32} (hn : n < 26) (k : hs_no v ∨ ∃ b, hs_io v b ∧ at1 (b * 26 + n) ≠ 0) {post : SY → Prop} (H : post (y_maxObjects, y_maxSteps, y_maxDepth, y_kept, y_end, y_tokens, y_pending, y_lines, y_classes, y_prints, y_place, y_steps, nI d, nI vt, y_opTop, y_opens, y_pos, y_tk, y_tv, y_stmt, y_target, 3, y_code, y_outcome, y_result, 0, y_want, y_starting, y_ended, y_bad, y_hosted, y_sawSuper, y_text, y_numbers, gl, ey, at1, oc, y_alive, oy, le, lt, y_bases, va, y_ops, loc, fRe, y_fLine, y_fPos, y_fStmt, y_fTarget, fMa, fHo, y_fOps, y_fVals, y_fNew, y_out)) : wpY_method post (y_maxObjects, y_maxSteps, y_maxDepth, y_kept, y_end, y_tokens, y_pending, y_lines, y_classes, y_prints, y_place, y_steps, nI d, nI vt, y_opTop, y_opens, y_pos, y_tk, y_tv, y_stmt, y_target, y_err, y_code, y_outcome, y_result, 0, y_want, y_starting, y_ended, y_bad, y_hosted, y_sawSuper, y_text, y_numbers, gl, ey, at1, oc, y_alive, oy, le, lt, y_bases, va, y_ops, loc, fRe, y_fLine, y_fPos, y_fStmt, y_fTarget, fMa, fHo, y_fOps, y_fVals, y_fNew, y_out) v (nI n) arg dr := by
  rcases k with k | ⟨b, k1, k2⟩
  · exact br_f (hs_ykNO k) H
  · have b8 := k1.1
    have ei : nI b * 26 + nI n = nI (b * 26 + n) := hs_ixMul b 26 n
    refine br_t (hs_ykO k1) ?_
    rw [hs_ioL k1, ei, nI_clamp (show b * 26 + n < 2 ^ 31 by omega)]
    exact And.intro (vp_in_nI (by omega) (by decide)) (br_f k2 H)
theorem hs_yMethM {n b c : Nat} {v arg : Int64} {dr : Int32} (W : hs_WX P h lc cn ml gl ex at1 ox oc lt) (E : hs_EE P (hs_df h lc) ex ey) (O : hs_OY cn ml oy le) (hn : n < 26) (hb : hs_io v b) (h0 : at1 (b * 26 + n) = 0) (hc : c < cn) (hoc : oc b = nI c) {post : SY → Prop} (H : wpY_invoke (fun u => match u with | (y_maxObjectsq, y_maxStepsq, y_maxDepthq, y_keptq, y_endq, y_tokensq, y_pendingq, y_linesq, y_classesq, y_printsq, y_placeq, y_stepsq, y_dq, y_valTopq, y_opTopq, y_opensq, y_posq, y_tkq, y_tvq, y_stmtq, y_targetq, y_errq, y_codeq, y_outcomeq, y_resultq, y_dryq, y_wantq, y_startingq, y_endedq, y_badq, y_hostedq, y_sawSuperq, y_textq, y_numbersq, y_globalsq, y_entriesq, y_attrsq, y_classOfq, y_aliveq, y_ordersq, y_lengthsq, y_lettersq, y_basesq, y_valsq, y_opsq, y_localsq, y_fRecvq, y_fLineq, y_fPosq, y_fStmtq, y_fTargetq, y_fMaskq, y_fHomeq, y_fOpsq, y_fValsq, y_fNewq, y_outq) => post (y_maxObjectsq, y_maxStepsq, y_maxDepthq, y_keptq, y_endq, y_tokensq, y_pendingq, y_linesq, y_classesq, y_printsq, y_placeq, y_stepsq, y_dq, y_valTopq, y_opTopq, y_opensq, y_posq, y_tkq, y_tvq, y_stmtq, y_targetq, y_errq, y_codeq, y_outcomeq, y_resultq, y_dryq, y_wantq, y_startingq, y_endedq, y_badq, y_hostedq, y_sawSuperq, y_textq, y_numbersq, y_globalsq, y_entriesq, y_attrsq, y_classOfq, y_aliveq, y_ordersq, y_lengthsq, y_lettersq, y_basesq, y_valsq, y_opsq, y_localsq, y_fRecvq, y_fLineq, y_fPosq, y_fStmtq, y_fTargetq, y_fMaskq, y_fHomeq, y_fOpsq, y_fValsq, y_fNewq, y_outq)) (y_maxObjects, y_maxSteps, y_maxDepth, y_kept, y_end, y_tokens, y_pending, y_lines, y_classes, y_prints, y_place, y_steps, nI d, nI vt, y_opTop, y_opens, y_pos, y_tk, y_tv, y_stmt, y_target, y_err, y_code, y_outcome, y_result, 0, y_want, y_starting, y_ended, y_bad, y_hosted, y_sawSuper, y_text, y_numbers, gl, ey, at1, oc, y_alive, oy, le, lt, y_bases, va, y_ops, loc, fRe, y_fLine, y_fPos, y_fStmt, y_fTarget, fMa, fHo, y_fOps, y_fVals, y_fNew, y_out) (hs_oV ey n (hs_sea ex n (ml c))) v arg dr 0) : wpY_method post (y_maxObjects, y_maxSteps, y_maxDepth, y_kept, y_end, y_tokens, y_pending, y_lines, y_classes, y_prints, y_place, y_steps, nI d, nI vt, y_opTop, y_opens, y_pos, y_tk, y_tv, y_stmt, y_target, y_err, y_code, y_outcome, y_result, 0, y_want, y_starting, y_ended, y_bad, y_hosted, y_sawSuper, y_text, y_numbers, gl, ey, at1, oc, y_alive, oy, le, lt, y_bases, va, y_ops, loc, fRe, y_fLine, y_fPos, y_fStmt, y_fTarget, fMa, fHo, y_fOps, y_fVals, y_fNew, y_out) v (nI n) arg dr := by
  obtain ⟨⟨w1, w2⟩, w3, w4, w5, w6, w7, w8, w9, w10⟩ := W
  obtain ⟨o1, o2, o3, o4⟩ := w10 c hc
  obtain ⟨u1, u2⟩ := O c hc
  have hm : ∀ m, m ∈ ml c → m < 10 := fun m hm => by have := o4 m hm; omega
  have b8 := hb.1
  have ei : nI b * 26 + nI n = nI (b * 26 + n) := hs_ixMul b 26 n
  refine br_t (hs_ykO hb) ?_
  rw [hs_ioL hb, ei, nI_clamp (show b * 26 + n < 2 ^ 31 by omega)]
  refine And.intro (vp_in_nI (by omega) (by decide)) (br_t h0 (And.intro (vp_in_nI b8 (by decide)) ?_))
  rw [nI_clamp (show b < 2 ^ 31 by omega), hoc]
  refine hs_ySea (k := 0) (l := ml c) (by omega) hn o2 u1 u2 hm (by decide) ?_
  rw [List.drop_zero, hs_seaE E hn hm]
  exact H
theorem hs_yOpE (W : hs_WX P h lc cn ml gl ex at1 ox oc lt) (E : hs_EE P (hs_df h lc) ex ey) (O : hs_OY cn ml oy le) (hva : ∀ j, j < vt → va j = op j) (hd : d ≤ 6) (hmk : fMa d = mk) (hm0 : d = 0 → mk = 0) (hlo : ∀ j, j < 26 → 1 ≤ d → loc (d * 26 + j) = HE (d * 27 + j)) (hvt : vt < 320) (har : hs_arr o ≤ vt) (hoq : hs_oq d o q) (hop : ∀ j, j < vt → hs_vv (op j)) {er : Int32} (R : hs_RE ml gl ex at1 HE op oc lt mk cn d vt o q er) {post : SY → Prop} (H : ∀ (q1 q3 : Int32) (q2 : Nat → Int64), (∀ j, j < vt → q2 j = va j) → post (y_maxObjects, y_maxSteps, y_maxDepth, y_kept, y_end, y_tokens, y_pending, y_lines, y_classes, y_prints, y_place, y_steps, nI d, q1, y_opTop, y_opens, y_pos, y_tk, y_tv, y_stmt, y_target, er, y_code, y_outcome, y_result, 0, q3, y_starting, y_ended, y_bad, y_hosted, y_sawSuper, y_text, y_numbers, gl, ey, at1, oc, y_alive, oy, le, lt, y_bases, q2, y_ops, loc, fRe, y_fLine, y_fPos, y_fStmt, y_fTarget, fMa, fHo, y_fOps, y_fVals, y_fNew, y_out)) : hs_yop post o q vt (y_maxObjects, y_maxSteps, y_maxDepth, y_kept, y_end, y_tokens, y_pending, y_lines, y_classes, y_prints, y_place, y_steps, nI d, nI vt, y_opTop, y_opens, y_pos, y_tk, y_tv, y_stmt, y_target, y_err, y_code, y_outcome, y_result, 0, y_want, y_starting, y_ended, y_bad, y_hosted, y_sawSuper, y_text, y_numbers, gl, ey, at1, oc, y_alive, oy, le, lt, y_bases, va, y_ops, loc, fRe, y_fLine, y_fPos, y_fStmt, y_fTarget, fMa, fHo, y_fOps, y_fVals, y_fNew, y_out) := by
  have W' := W
  obtain ⟨⟨w1, w2⟩, w3, w4, w5, w6, w7, w8, w9, w10⟩ := W
  obtain ⟨p1, p2, p3, p4, p5, p6, p7⟩ := hoq
  have cmb : 27 ≤ o → 2 ≤ vt ∧ ((∀ hk : o = 29 → ¬ (op (vt - 2)) >>> ((32 : Int32).toInt64 &&& 63) = 3, wY_combine_80 post (nI o) (op (vt - 2)) (op (vt - 1)) y_maxObjects y_maxSteps y_maxDepth y_kept y_end y_tokens y_pending y_lines y_classes y_prints y_place y_steps (nI d) (nI vt) y_opTop y_opens y_pos y_tk y_tv y_stmt y_target y_err y_code y_outcome y_result 0 y_want y_starting y_ended y_bad y_hosted y_sawSuper y_text y_numbers gl ey at1 oc y_alive oy le lt y_bases va y_ops loc fRe y_fLine y_fPos y_fStmt y_fTarget fMa fHo y_fOps y_fVals y_fNew y_out → hs_yop post o q vt (y_maxObjects, y_maxSteps, y_maxDepth, y_kept, y_end, y_tokens, y_pending, y_lines, y_classes, y_prints, y_place, y_steps, nI d, nI vt, y_opTop, y_opens, y_pos, y_tk, y_tv, y_stmt, y_target, y_err, y_code, y_outcome, y_result, 0, y_want, y_starting, y_ended, y_bad, y_hosted, y_sawSuper, y_text, y_numbers, gl, ey, at1, oc, y_alive, oy, le, lt, y_bases, va, y_ops, loc, fRe, y_fLine, y_fPos, y_fStmt, y_fTarget, fMa, fHo, y_fOps, y_fVals, y_fNew, y_out)) ∧ (o = 29 → (op (vt - 2)) >>> ((32 : Int32).toInt64 &&& 63) = 3 → wpY_method (fun u => match u with | (y_maxObjectsq, y_maxStepsq, y_maxDepthq, y_keptq, y_endq, y_tokensq, y_pendingq, y_linesq, y_classesq, y_printsq, y_placeq, y_stepsq, y_dq, y_valTopq, y_opTopq, y_opensq, y_posq, y_tkq, y_tvq, y_stmtq, y_targetq, y_errq, y_codeq, y_outcomeq, y_resultq, y_dryq, y_wantq, y_startingq, y_endedq, y_badq, y_hostedq, y_sawSuperq, y_textq, y_numbersq, y_globalsq, y_entriesq, y_attrsq, y_classOfq, y_aliveq, y_ordersq, y_lengthsq, y_lettersq, y_basesq, y_valsq, y_opsq, y_localsq, y_fRecvq, y_fLineq, y_fPosq, y_fStmtq, y_fTargetq, y_fMaskq, y_fHomeq, y_fOpsq, y_fValsq, y_fNewq, y_outq) => post (y_maxObjectsq, y_maxStepsq, y_maxDepthq, y_keptq, y_endq, y_tokensq, y_pendingq, y_linesq, y_classesq, y_printsq, y_placeq, y_stepsq, y_dq, y_valTopq, y_opTopq, y_opensq, y_posq, y_tkq, y_tvq, y_stmtq, y_targetq, y_errq, y_codeq, y_outcomeq, y_resultq, y_dryq, y_wantq, y_startingq, y_endedq, y_badq, y_hostedq, y_sawSuperq, y_textq, y_numbersq, y_globalsq, y_entriesq, y_attrsq, y_classOfq, y_aliveq, y_ordersq, y_lengthsq, y_lettersq, y_basesq, y_valsq, y_opsq, y_localsq, y_fRecvq, y_fLineq, y_fPosq, y_fStmtq, y_fTargetq, y_fMaskq, y_fHomeq, y_fOpsq, y_fValsq, y_fNewq, y_outq)) (y_maxObjects, y_maxSteps, y_maxDepth, y_kept, y_end, y_tokens, y_pending, y_lines, y_classes, y_prints, y_place, y_steps, nI d, nI vt, y_opTop, y_opens, y_pos, y_tk, y_tv, y_stmt, y_target, y_err, y_code, y_outcome, y_result, 0, y_want, y_starting, y_ended, y_bad, y_hosted, y_sawSuper, y_text, y_numbers, gl, ey, at1, oc, y_alive, oy, le, lt, y_bases, va, y_ops, loc, fRe, y_fLine, y_fPos, y_fStmt, y_fTarget, fMa, fHo, y_fOps, y_fVals, y_fNew, y_out) (op (vt - 2)) 0 (op (vt - 1)) 2 → hs_yop post o q vt (y_maxObjects, y_maxSteps, y_maxDepth, y_kept, y_end, y_tokens, y_pending, y_lines, y_classes, y_prints, y_place, y_steps, nI d, nI vt, y_opTop, y_opens, y_pos, y_tk, y_tv, y_stmt, y_target, y_err, y_code, y_outcome, y_result, 0, y_want, y_starting, y_ended, y_bad, y_hosted, y_sawSuper, y_text, y_numbers, gl, ey, at1, oc, y_alive, oy, le, lt, y_bases, va, y_ops, loc, fRe, y_fLine, y_fPos, y_fStmt, y_fTarget, fMa, fHo, y_fOps, y_fVals, y_fNew, y_out))) := by
    intro h27
    have a2 : 2 ≤ vt := by
      have : hs_arr o = 2 := (if_neg (by omega)).trans (if_pos (by omega))
      omega
    have e2 : nI vt - 2 = nI (vt - 2) := pk_sub (b := 2) a2
    have e1 : nI vt - 1 = nI (vt - 1) := pk_sub (b := 1) (by omega)
    refine ⟨a2, fun hk Z => ?_, fun h29 hk Z => ?_⟩
    · refine hs_yopB h27 (nm_r (show y_opTop + 1 - 1 = y_opTop from Int32.add_sub_cancel _ _) (br_t rfl ?_))
      rw [e2, e1, nI_clamp (show vt - 2 < 2 ^ 31 by omega), nI_clamp (show vt - 1 < 2 ^ 31 by omega)]
      refine And.intro (vp_in_nI (by omega) (by decide)) (nm_r (hva (vt - 2) (by omega)) (And.intro (vp_in_nI (by omega) (by decide)) (nm_r (hva (vt - 1) (by omega)) ?_)))
      exact pk_eq o 29 (fun z => br_f (hk z) Z) (fun _ => Z)
    · refine hs_yopB h27 (nm_r (show y_opTop + 1 - 1 = y_opTop from Int32.add_sub_cancel _ _) (br_t rfl ?_))
      rw [e2, e1, nI_clamp (show vt - 2 < 2 ^ 31 by omega), nI_clamp (show vt - 1 < 2 ^ 31 by omega)]
      refine And.intro (vp_in_nI (by omega) (by decide)) (nm_r (hva (vt - 2) (by omega)) (And.intro (vp_in_nI (by omega) (by decide)) (nm_r (hva (vt - 1) (by omega)) ?_)))
      rw [h29]
      exact br_t rfl (br_t hk Z)
  rcases R with ⟨rfl, r1, rfl⟩ | ⟨rfl, r1, rfl⟩ | ⟨rfl, c, c1, c2, r1⟩ | ⟨rfl, r1, rfl⟩ | ⟨rfl, b, hb, z, c, c1, c2, r1⟩ | ⟨h28, r1, r2, rfl⟩ | ⟨rfl, a, ha, hb, rfl⟩ | ⟨h67, r1, rfl⟩ | ⟨h67, b, hb, r1, rfl⟩ | ⟨rfl, b, hb, r1, rfl⟩
  · refine hs_yop2 (hs_yVar hd hmk hm0 hlo (p5 (by decide) (by decide)) ?_)
    unfold wY_operand_63 wY_operand_75
    exact br_t r1 (hs_yValue hvt (H _ _ _ (fun j hj => pk_uLn (by omega))))
  · refine hs_yop5 (fun y => H _ _ _ (fun _ _ => rfl)) (fun y => ?_)
    rw [r1] at y
    exact absurd y (by decide)
  · refine hs_yop5 (fun y => ?_) (fun _ => ?_)
    · rw [c2] at y; exact absurd (nI_pos' (by omega)) y
    · rw [c2]
      have := p6 rfl
      exact hs_yReadX W' E O c1 (by omega) r1 (H _ _ _ (fun _ _ => rfl))
  · have a1 : 1 ≤ vt := har
    have ev : nI vt - 1 = nI (vt - 1) := pk_sub (b := 1) a1
    refine hs_yop4 (br_t rfl ?_)
    rw [ev, nI_clamp (show vt - 1 < 2 ^ 31 by omega)]
    exact nm_e (And.intro (vp_in_nI (by omega) (by decide)) (nm_r (hva (vt - 1) (by omega)) (br_f (hs_ykNO r1) (H _ _ _ (fun _ _ => rfl)))))
  · have a1 : 1 ≤ vt := har
    have b8 := hb.1
    have q26 := p5 (by decide) (by decide)
    have ei : nI b * 26 + nI q = nI (b * 26 + q) := hs_ixMul b 26 q
    have ev : nI vt - 1 = nI (vt - 1) := pk_sub (b := 1) a1
    refine hs_yop4 (br_t rfl ?_)
    rw [ev, nI_clamp (show vt - 1 < 2 ^ 31 by omega)]
    refine nm_e (And.intro (vp_in_nI (by omega) (by decide)) (nm_r (hva (vt - 1) (by omega)) (br_t (hs_ykO hb) ?_)))
    rw [hs_ioL hb, ei, nI_clamp (show b * 26 + q < 2 ^ 31 by omega)]
    refine And.intro (vp_in_nI (by omega) (by decide)) (nm_e ?_)
    refine br_t z (And.intro (vp_in_nI b8 (by decide)) ?_)
    rw [nI_clamp (show b < 2 ^ 31 by omega), c2]
    unfold wY_dot_218
    exact hs_yReadX (vt := vt - 1) W' E O c1 q26 r1 (H _ _ _ (fun _ _ => rfl))
  · obtain ⟨a2, m1, _⟩ := cmb (by omega)
    refine m1 (fun h29 k => ?_) ?_
    · rcases hs_vvO (hop (vt - 2) (by omega)) with ⟨b, hb⟩ | hb
      · exact r1 ⟨h29, b, hb⟩
      · exact hs_ykNO hb k
    · have e2 : nI vt - 2 = nI (vt - 2) := pk_sub (b := 2) a2
      unfold wY_combine_80
      refine nm_r e2 (br_f (hs_ne (b := 27) (by omega) (by omega) (by decide)) ?_)
      rcases r2 with r2 | ⟨⟨a, r2⟩, r3⟩
      · exact br_f (hs_ykNI r2) (H _ _ _ (fun _ _ => rfl))
      · rw [r2]
        exact br_t hs_ykI (br_f (hs_ykNI r3) (H _ _ _ (fun _ _ => rfl)))
  · obtain ⟨a2, m1, _⟩ := cmb (by decide)
    refine m1 (fun h29 k => by omega) ?_
    have e2 : nI vt - 2 = nI (vt - 2) := pk_sub (b := 2) a2
    rw [ha, hb]
    unfold wY_combine_80
    refine nm_r e2 (br_f (by decide) (br_t hs_ykI (br_t hs_ykI ?_)))
    unfold wY_combine_127
    refine br_t rfl (br_t (hs_intLow 0) (H _ _ _ (fun _ _ => rfl)))
  · have a1 : o - 6 < vt := by
      have : hs_arr o = o - 5 := by rcases h67 with rfl | rfl <;> rfl
      omega
    refine hs_yopC (by omega) (by omega) ?_
    rw [show o % 2 = o - 6 by omega, show o / 2 - 1 = 2 by omega]
    have ev : nI vt - nI (o - 6) - 1 = nI (vt - 1 - (o - 6)) := by
      rw [pk_sub (by omega), show (1 : Int32) = nI 1 from rfl, pk_sub (by omega)]; exact congrArg nI (by omega)
    unfold wY_close_149
    rw [ev, nI_clamp (show vt - 1 - (o - 6) < 2 ^ 31 by omega), hs_shr6 (by omega), show (2 + 64 * q) / 64 = q by omega, hva _ (by omega)]
    exact br_t rfl (And.intro (vp_in_nI (by omega) (by decide)) (hs_yMethE (p5 (by omega) (by omega)) (Or.inl r1) (H _ _ _ (fun _ _ => rfl))))
  · have a1 : o - 6 < vt := by
      have : hs_arr o = o - 5 := by rcases h67 with rfl | rfl <;> rfl
      omega
    refine hs_yopC (by omega) (by omega) ?_
    rw [show o % 2 = o - 6 by omega, show o / 2 - 1 = 2 by omega]
    have ev : nI vt - nI (o - 6) - 1 = nI (vt - 1 - (o - 6)) := by
      rw [pk_sub (by omega), show (1 : Int32) = nI 1 from rfl, pk_sub (by omega)]; exact congrArg nI (by omega)
    unfold wY_close_149
    rw [ev, nI_clamp (show vt - 1 - (o - 6) < 2 ^ 31 by omega), hs_shr6 (by omega), show (2 + 64 * q) / 64 = q by omega, hva _ (by omega)]
    exact br_t rfl (And.intro (vp_in_nI (by omega) (by decide)) (hs_yMethE (p5 (by omega) (by omega)) (Or.inr ⟨b, hb, r1⟩) (H _ _ _ (fun _ _ => rfl))))
  · obtain ⟨a2, _, m1⟩ := cmb (by decide)
    exact m1 rfl (hs_ykO hb) (hs_yMethE (n := 0) (by decide) (Or.inr ⟨b, hb, r1⟩) (H _ _ _ (fun _ _ => rfl)))
end
