/-! an element of code on both sides: values, errors, calls -/
section
variable {x_objectLimit x_stepLimit x_depthLimit x_pendingCount x_keptTokens x_keptLines x_lineCount x_codeCount x_cursor x_stop x_waitingCount x_openCount x_classCount x_callCount x_operandCount x_stepsTaken x_error x_raisedCode x_printCount x_lastPlace : Int32} {x_lastResult : Int64} {x_pending x_lineTable x_orders x_merging x_letterClass x_objectClass x_calls x_lastPrints : Nat → Int32} {x_code x_waiting x_globals x_entries x_attributes x_held x_operands : Nat → Int64}
variable {y_maxObjects y_maxSteps y_maxDepth y_kept y_end y_tokens y_pending y_lines y_classes y_prints y_place y_steps y_d y_valTop y_opTop y_opens y_pos y_tk y_tv y_stmt y_target y_err y_code y_outcome y_dry y_want y_starting y_ended y_bad y_hosted y_sawSuper : Int32} {y_result : Int64} {y_text y_numbers y_classOf y_alive y_orders y_lengths y_letters y_bases y_ops y_fLine y_fPos y_fStmt y_fTarget y_fMask y_fHome y_fOps y_fVals y_fNew y_out : Nat → Int32} {y_globals y_entries y_attrs y_vals y_locals y_fRecv : Nat → Int64}
variable {tx nu LT : Nat → Int32} {cd : Nat → Int64} {lc kp cc : Nat} {P ind h : Nat → Nat} {tk : Nat → List Nat} {ca cb us ue : Nat → Nat} {yk yen yto ype yli : Int32} {mo mS mD : Nat} {ho : Bool}
variable {s d vt cn : Nat} {ml : Nat → List Nat} {gl ex at1 HE op : Nat → Int64} {ox oc lt lp CL mg : Nat → Int32} {pc rc : Int32} {fl dl vb ob : Nat → Nat} {ts st : Nat → List Nat} {M : Nat}
variable {w : Bool} {ts1 st1 : List Nat} {o qq c : Nat} {e1 : List (Nat × Nat)} {rs fs : List Nat}
theorem hs_arr2 : hs_arr o ≤ 2 := by
  unfold hs_arr
  split
  · omega
  · split <;> omega
theorem hs_gXer {er : Int32} {n cx : Nat} (h : hs_gX ex ml cx n er) : er ≠ 0 ∧ er ≠ 9 := by
  rcases h with ⟨_, rfl⟩ | ⟨_, _, _, _, _, _, rfl⟩ <;> decide
theorem hs_REer {mk er : Int32} (R : hs_RE ml gl ex at1 HE op oc lt mk cn d vt o qq er) : er ≠ 0 ∧ er ≠ 9 := by
  rcases R with ⟨_, _, rfl⟩ | ⟨_, _, rfl⟩ | ⟨_, _, _, _, g⟩ | ⟨_, _, rfl⟩ | ⟨_, _, _, _, _, _, _, g⟩ | ⟨_, _, _, rfl⟩ | ⟨_, _, _, _, rfl⟩ | ⟨_, _, rfl⟩ | ⟨_, _, _, _, rfl⟩ | ⟨_, _, _, _, rfl⟩
  · decide
  · decide
  · exact hs_gXer g
  · decide
  · exact hs_gXer g
  · decide
  · decide
  · decide
  · decide
  · decide
theorem hs_SEer {er : Int32} {fo : Option Nat} {n a : Nat} (S : hs_SE LT ex h lc mD d fo n a er) : er ≠ 0 ∧ er ≠ 9 := by
  rcases S with ⟨_, rfl⟩ | ⟨_, _, _, ⟨_, rfl⟩ | ⟨_, _, _, _, ⟨_, rfl⟩ | ⟨_, _, rfl⟩⟩⟩ <;> decide
theorem hs_RMf {hm : Nat} {fo : Option Nat} {n a uz : Nat} {rv : Int64} (W : hs_WX P h lc cn ml gl ex at1 ox oc lt) (oq : hs_oq d o qq) (R : hs_RM ml ex at1 HE op oc hm cn d vt o qq fo n rv a uz) : n < 26 ∧ a ≤ 1 ∧ uz = hs_arr o ∧ a ≤ uz ∧ (∀ m, fo = some m → m < cn ∧ ex (m * 26 + n) ≠ 0) ∧ ∃ b, hs_io rv b := by
  obtain ⟨w1, w2, w3, w4, w5, w6, w7, w8, w9⟩ := W
  have key : ∀ (cx n' k : Nat), cx < cn → ∀ m, hs_sea ex n' ((ml cx).drop k) = some m → m < cn ∧ ex (m * 26 + n') ≠ 0 := by
    intro cx n' k hc m hm
    obtain ⟨q1, q2⟩ := hs_seaM w2 hm
    have := (w9 cx hc).2.2.2 m (List.mem_of_mem_drop q1)
    exact ⟨by omega, q2⟩
  have key0 : ∀ (cx n' : Nat), cx < cn → ∀ m, hs_sea ex n' (ml cx) = some m → m < cn ∧ ex (m * 26 + n') ≠ 0 := fun cx n' hc m hm => key cx n' 0 hc m hm
  rcases R with ⟨h6, e1, e2, e3, e4, b, cx, b1, b2, b3, b4, b5⟩ | ⟨h8, e1, e2, e3, e4, e5, b, cx, b1, b3, b4, b5⟩ | ⟨rfl, rfl, rfl, rfl, e4, b, cx, b1, b2, b3, b4, b5⟩
  · have hq : qq < 26 := oq.2.2.2.2.1 (by omega) (by omega)
    refine ⟨by omega, by omega, ?_, by omega, fun m hm => ?_, b, b1⟩
    · rcases h6 with rfl | rfl
      · rw [e2, e1]; rfl
      · rw [e2, e1]; rfl
    · rw [b5] at hm; exact key0 cx n b3 m hm
  · have hq : qq < 26 := oq.2.2.2.2.1 (by omega) (by omega)
    refine ⟨by omega, by omega, ?_, by omega, fun m hm => ?_, b, b1⟩
    · rcases h8 with rfl | rfl
      · rw [e2, e1]; rfl
      · rw [e2, e1]; rfl
    · rw [b5] at hm; exact key cx n _ b3 m hm
  · exact ⟨by omega, by omega, rfl, by omega, fun m hm => by rw [b5] at hm; exact key0 cx 0 b3 m hm, b, b1⟩
/-- what the reference's elements ask of its state -/
theorem hs_VCmk {er : Int32} {v : SY} (V : hs_VC tx nu LT P h lc yk yen yto ype yli mo mS mD gl ex at1 oc lt lp CL HE op ml cn d vt s pc rc fl dl vb ob ts st ho er v) : match v with | (y_maxObjects, y_maxSteps, y_maxDepth, y_kept, y_end, y_tokens, y_pending, y_lines, y_classes, y_prints, y_place, y_steps, y_d, y_valTop, y_opTop, y_opens, y_pos, y_tk, y_tv, y_stmt, y_target, y_err, y_code, y_outcome, y_result, y_dry, y_want, y_starting, y_ended, y_bad, y_hosted, y_sawSuper, y_text, y_numbers, y_globals, y_entries, y_attrs, y_classOf, y_alive, y_orders, y_lengths, y_letters, y_bases, y_vals, y_ops, y_locals, y_fRecv, y_fLine, y_fPos, y_fStmt, y_fTarget, y_fMask, y_fHome, y_fOps, y_fVals, y_fNew, y_out) => y_fMask d = hs_mk1 LT dl d ∧ (∀ j, j < 26 → 1 ≤ d → y_locals (d * 26 + j) = HE (d * 27 + j)) ∧ (1 ≤ d → y_fHome d = CL (d * 6 + 1) ∧ y_fRecv d = HE (d * 27 + 26)) := by
  obtain ⟨y_maxObjects, y_maxSteps, y_maxDepth, y_kept, y_end, y_tokens, y_pending, y_lines, y_classes, y_prints, y_place, y_steps, y_d, y_valTop, y_opTop, y_opens, y_pos, y_tk, y_tv, y_stmt, y_target, y_err, y_code, y_outcome, y_result, y_dry, y_want, y_starting, y_ended, y_bad, y_hosted, y_sawSuper, y_text, y_numbers, y_globals, y_entries, y_attrs, y_classOf, y_alive, y_orders, y_lengths, y_letters, y_bases, y_vals, y_ops, y_locals, y_fRecv, y_fLine, y_fPos, y_fStmt, y_fTarget, y_fMask, y_fHome, y_fOps, y_fVals, y_fNew, y_out⟩ := v
  obtain ⟨⟨a1, a2, a3, a4, a5, a6, a7, a8, a9, a10, a11, a12, a13, a14, a15, a16, a17, a18, a19, a20, a21, anu, a23, a24, a25, a26, a27⟩, E, O, va, l0, C, K, q⟩ := V
  obtain ⟨c1, c2, c3, c4⟩ := C d (Nat.le_refl _)
  refine ⟨?_, fun j hj z => (c4 z).2.2.2.2 j hj, fun z => ⟨(c4 z).2.1, (c4 z).2.2.2.1⟩⟩
  unfold hs_mk1
  by_cases z : d = 0
  · rw [if_pos z]
    subst z
    exact c3 rfl
  · rw [if_neg z]; exact (c4 (by omega)).1
theorem hs_hdf (T : hs_T tx nu LT cd lc kp cc P ind h tk ca cb us ue) : ∀ l, hs_df h lc l → ∃ sx t, hs_dfl LT tk l sx t ∧ P l + 5 < 1024 ∧ tx (P l + 3) = nI (sx + 100) ∧ (tx (P l + 4) = 23 ↔ hs_np LT l = 1) ∧ ∀ t', t = some t' → tx (P l + 5) = nI (t' + 100) := by
  intro l hl
  obtain ⟨t1, t2, t3, t4, t5, t6, t7, t8, t9, t10, t11⟩ := T.2.2.2 l hl.1
  have h2 : hs_hd (tk l) = 2 := by rw [← (t7 l t1 t2).2.2.2]; exact hl.2
  obtain ⟨⟨sx, t, D⟩, _⟩ := hs_dflE (h := h) t8 h2
  exact ⟨sx, t, D, hs_dfT t7 t1 t2 D⟩
theorem hs_C4n {j l m x : Nat} (hj : j < (d + 1) * 6) : hs_C4 CL d l m x j = CL j := by
  unfold hs_C4
  rw [pk_un (by omega), pk_un (by omega), pk_un (by omega), pk_un (by omega)]
theorem hs_C40 {l m x : Nat} : hs_C4 CL d l m x ((d + 1) * 6) = nI l ∧ hs_C4 CL d l m x ((d + 1) * 6 + 1) = nI m ∧ hs_C4 CL d l m x ((d + 1) * 6 + 4) = nI x ∧ hs_C4 CL d l m x ((d + 1) * 6 + 5) = 0 := by
  unfold hs_C4
  refine ⟨?_, ?_, ?_, pk_us⟩
  · rw [pk_un (by omega), pk_un (by omega), pk_un (by omega), pk_us]
  · rw [pk_un (by omega), pk_un (by omega), pk_us]
  · rw [pk_un (by omega), pk_us]
theorem hs_lv1v {sx : Nat} {t : Option Nat} {rv ag : Int64} (h1 : hs_vv rv) (h2 : ∀ t', t = some t' → hs_vv ag) : ∀ i, hs_v0 (hs_lv1 sx t rv ag i) := by
  intro i
  unfold hs_lv1
  split
  · rename_i z; exact Or.inr (h2 i z)
  · split
    · exact Or.inr h1
    · exact Or.inl rfl
theorem hs_stepEm (A : hs_GA tx nu LT cd lc kp cc P ind h tk ca cb us ue yk yen yto ype yli mo mS mD ho x_pendingCount x_keptTokens x_keptLines x_codeCount x_cursor x_stop x_waitingCount x_openCount x_lastResult x_pending x_waiting M) (G : hs_GB tx nu LT cd lc kp cc P ind h tk ca cb us ue yk yen yto ype yli mo mS mD ho x_pendingCount x_keptTokens x_keptLines x_codeCount x_cursor x_stop x_waitingCount x_openCount x_lastResult x_pending x_waiting M) (I : hs_XI tx nu LT cd lc kp cc P ind h tk ca cb us ue mo mS mD s d vt cn ml gl ex at1 ox oc lt HE CL op fl dl vb ob ts st ho) (L : hs_XL h ind ca cb lc cn CL ho (fl d) (dl d) d) (nh : ¬ (ho = true ∧ d = 0)) (hv : vt = vb d + hs_nv (st d) w) (m : hs_EM LT cd fl ts st CL d w ts1 st1 o qq c e1 rs fs) (hM : 250 * (mS - s) + hs_pot ts st d + (3 * (2 * (ts d).length + (st d).length) + 3) ≤ M + 1)
    (Hn : o = 10 ∨ o = 11 → hs_Gt (hs_F tx nu LT cd lc P h yk yen yto ype yli mo mS mD x_pendingCount x_keptTokens x_keptLines x_codeCount x_cursor x_stop x_waitingCount x_openCount x_lastResult x_pending x_waiting) M (fun x => wpX_makeObject (fun u => match u with | (x_objectLimitw, x_stepLimitw, x_depthLimitw, x_pendingCountw, x_keptTokensw, x_keptLinesw, x_lineCountw, x_codeCountw, x_cursorw, x_stopw, x_waitingCountw, x_openCountw, x_classCountw, x_callCountw, x_operandCountw, x_stepsTakenw, x_errorw, x_raisedCodew, x_printCountw, x_lastResultw, x_lastPlacew, x_pendingw, x_lineTablew, x_codew, x_waitingw, x_globalsw, x_entriesw, x_ordersw, x_mergingw, x_letterClassw, x_objectClassw, x_attributesw, x_callsw, x_heldw, x_operandsw, x_lastPrintsw) => (fun u => match u with | (x_objectLimitq, x_stepLimitq, x_depthLimitq, x_pendingCountq, x_keptTokensq, x_keptLinesq, x_lineCountq, x_codeCountq, x_cursorq, x_stopq, x_waitingCountq, x_openCountq, x_classCountq, x_callCountq, x_operandCountq, x_stepsTakenq, x_errorq, x_raisedCodeq, x_printCountq, x_lastResultq, x_lastPlaceq, x_pendingq, x_lineTableq, x_codeq, x_waitingq, x_globalsq, x_entriesq, x_ordersq, x_mergingq, x_letterClassq, x_objectClassq, x_attributesq, x_callsq, x_heldq, x_operandsq, x_lastPrintsq) => x (x_objectLimitq, x_stepLimitq, x_depthLimitq, x_pendingCountq, x_keptTokensq, x_keptLinesq, x_lineCountq, x_codeCountq, x_cursorq, x_stopq, x_waitingCountq, x_openCountq, x_classCountq, x_callCountq, x_operandCountq, x_stepsTakenq, x_errorq, x_raisedCodeq, x_printCountq, x_lastResultq, x_lastPlaceq, x_pendingq, x_lineTableq, x_codeq, x_waitingq, x_globalsq, x_entriesq, x_ordersq, x_mergingq, x_letterClassq, x_objectClassq, x_attributesq, x_callsq, x_heldq, x_operandsq, x_lastPrintsq)) (x_objectLimitw, x_stepLimitw, x_depthLimitw, x_pendingCountw, x_keptTokensw, x_keptLinesw, x_lineCountw, x_codeCountw, x_cursorw, x_stopw, x_waitingCountw, x_openCountw, x_classCountw, x_callCountw, x_operandCountw, x_stepsTakenw, x_errorw, x_raisedCodew, x_printCountw, x_lastResultw, x_lastPlacew, x_pendingw, x_lineTablew, x_codew, x_waitingw, x_globalsw, x_entriesw, x_ordersw, x_mergingw, x_letterClassw, x_objectClassw, x_attributesw, x_callsw, x_heldw, x_operandsw, x_lastPrintsw)) (nI mo, nI mS, nI mD, x_pendingCount, x_keptTokens, x_keptLines, nI lc, x_codeCount, x_cursor, x_stop, x_waitingCount, x_openCount, nI cn, nI (d + 1), nI vt, nI s, 0, rc, pc, x_lastResult, 0, x_pending, LT, cd, x_waiting, gl, ex, ox, mg, lt, oc, at1, upd CL (d * 6 + 3) (nI (c + 1)), HE, op, lp) (nI qq) (nI (o - 10))) (fun x => ∀ v, hs_V tx nu LT P h lc yk yen yto ype yli mo mS mD gl ex at1 oc lt lp CL HE op ml cn d vt s pc rc fl dl vb ob ts st ho (some (some w)) v → wpY_expressionToken (fun r u => match u with | (y_maxObjectsq, y_maxStepsq, y_maxDepthq, y_keptq, y_endq, y_tokensq, y_pendingq, y_linesq, y_classesq, y_printsq, y_placeq, y_stepsq, y_dq, y_valTopq, y_opTopq, y_opensq, y_posq, y_tkq, y_tvq, y_stmtq, y_targetq, y_errq, y_codeq, y_outcomeq, y_resultq, y_dryq, y_wantq, y_startingq, y_endedq, y_badq, y_hostedq, y_sawSuperq, y_textq, y_numbersq, y_globalsq, y_entriesq, y_attrsq, y_classOfq, y_aliveq, y_ordersq, y_lengthsq, y_lettersq, y_basesq, y_valsq, y_opsq, y_localsq, y_fRecvq, y_fLineq, y_fPosq, y_fStmtq, y_fTargetq, y_fMaskq, y_fHomeq, y_fOpsq, y_fValsq, y_fNewq, y_outq) => ((r = 0 → x (y_maxObjectsq, y_maxStepsq, y_maxDepthq, y_keptq, y_endq, y_tokensq, y_pendingq, y_linesq, y_classesq, y_printsq, y_placeq, y_stepsq, y_dq, y_valTopq, y_opTopq, y_opensq, y_posq, y_tkq, y_tvq, y_stmtq, y_targetq, y_errq, y_codeq, y_outcomeq, y_resultq, y_dryq, y_wantq, y_startingq, y_endedq, y_badq, y_hostedq, y_sawSuperq, y_textq, y_numbersq, y_globalsq, y_entriesq, y_attrsq, y_classOfq, y_aliveq, y_ordersq, y_lengthsq, y_lettersq, y_basesq, y_valsq, y_opsq, y_localsq, y_fRecvq, y_fLineq, y_fPosq, y_fStmtq, y_fTargetq, y_fMaskq, y_fHomeq, y_fOpsq, y_fValsq, y_fNewq, y_outq)) ∧ (¬ r = 0 → wpY_finish (fun u => match u with | (y_maxObjectsw, y_maxStepsw, y_maxDepthw, y_keptw, y_endw, y_tokensw, y_pendingw, y_linesw, y_classesw, y_printsw, y_placew, y_stepsw, y_dw, y_valTopw, y_opTopw, y_opensw, y_posw, y_tkw, y_tvw, y_stmtw, y_targetw, y_errw, y_codew, y_outcomew, y_resultw, y_dryw, y_wantw, y_startingw, y_endedw, y_badw, y_hostedw, y_sawSuperw, y_textw, y_numbersw, y_globalsw, y_entriesw, y_attrsw, y_classOfw, y_alivew, y_ordersw, y_lengthsw, y_lettersw, y_basesw, y_valsw, y_opsw, y_localsw, y_fRecvw, y_fLinew, y_fPosw, y_fStmtw, y_fTargetw, y_fMaskw, y_fHomew, y_fOpsw, y_fValsw, y_fNeww, y_outw) => x (y_maxObjectsw, y_maxStepsw, y_maxDepthw, y_keptw, y_endw, y_tokensw, y_pendingw, y_linesw, y_classesw, y_printsw, y_placew, y_stepsw, y_dw, y_valTopw, y_opTopw, y_opensw, y_posw, y_tkw, y_tvw, y_stmtw, y_targetw, y_errw, y_codew, y_outcomew, y_resultw, y_dryw, y_wantw, y_startingw, y_endedw, y_badw, y_hostedw, y_sawSuperw, y_textw, y_numbersw, y_globalsw, y_entriesw, y_attrsw, y_classOfw, y_alivew, y_ordersw, y_lengthsw, y_lettersw, y_basesw, y_valsw, y_opsw, y_localsw, y_fRecvw, y_fLinew, y_fPosw, y_fStmtw, y_fTargetw, y_fMaskw, y_fHomew, y_fOpsw, y_fValsw, y_fNeww, y_outw)) (y_maxObjectsq, y_maxStepsq, y_maxDepthq, y_keptq, y_endq, y_tokensq, y_pendingq, y_linesq, y_classesq, y_printsq, y_placeq, y_stepsq, y_dq, y_valTopq, y_opTopq, y_opensq, y_posq, y_tkq, y_tvq, y_stmtq, y_targetq, y_errq, y_codeq, y_outcomeq, y_resultq, y_dryq, y_wantq, y_startingq, y_endedq, y_badq, y_hostedq, y_sawSuperq, y_textq, y_numbersq, y_globalsq, y_entriesq, y_attrsq, y_classOfq, y_aliveq, y_ordersq, y_lengthsq, y_lettersq, y_basesq, y_valsq, y_opsq, y_localsq, y_fRecvq, y_fLineq, y_fPosq, y_fStmtq, y_fTargetq, y_fMaskq, y_fHomeq, y_fOpsq, y_fValsq, y_fNewq, y_outq)))) v)) :
    hs_Go (hs_F tx nu LT cd lc P h yk yen yto ype yli mo mS mD x_pendingCount x_keptTokens x_keptLines x_codeCount x_cursor x_stop x_waitingCount x_openCount x_lastResult x_pending x_waiting) (2 * (M + 1) + 2) (M + 1) (nI mo, nI mS, nI mD, x_pendingCount, x_keptTokens, x_keptLines, nI lc, x_codeCount, x_cursor, x_stop, x_waitingCount, x_openCount, nI cn, nI (d + 1), nI vt, nI s, 0, rc, pc, x_lastResult, 0, x_pending, LT, cd, x_waiting, gl, ex, ox, mg, lt, oc, at1, CL, HE, op, lp) (hs_V tx nu LT P h lc yk yen yto ype yli mo mS mD gl ex at1 oc lt lp CL HE op ml cn d vt s pc rc fl dl vb ob ts st ho (some (some w))) := by
  have I0 := I
  have m0 := m
  obtain ⟨d6, s200, m200, l405⟩ := hs_XId I
  obtain ⟨T, ⟨B1, B2, B3, B4, B5, B6⟩, W, MC, OV, H0, XCk, XLk, XSk, HO, v0, o0⟩ := I
  obtain ⟨s1, s2, s3, s4, s5, s6, s7, s8, s9, s10, s11, s12, s13, s14, s15⟩ := m
  obtain ⟨cL, fd⟩ := L.2.1 nh
  obtain ⟨x1, x2, x3, x4, x5⟩ := XCk d (Nat.le_refl _)
  have nl := hs_nstLe st1
  have ar2 := hs_arr2 (o := o)
  have har : hs_arr o ≤ vt := by omega
  have vt280 : vt < 280 := by omega
  have hvb : vb d ≤ vt := by omega
  have K := hs_Tck T fd
  obtain ⟨g1, g2, g3, g4, g5⟩ := hs_TE T fd
  have hdl : 1 ≤ d → dl d < 405 := by
    intro z
    have := (hs_DIn K 9 (fl d) (dl d) (by have := (K.1 (fl d) g2 g3).2; omega) g2 g3 (L.2.2.2 z)).2.2.1
    omega
  have hHE : ∀ j, j < 26 → hs_v0 (HE (d * 27 + j)) := by
    intro j hj
    by_cases z : d = 0
    · rw [H0 _ (by omega)]; exact Or.inl rfl
    · exact (x5 (by omega)).2.2.2.2 j hj
  have hh : 1 ≤ d → CL (d * 6 + 1) = nI (CL (d * 6 + 1)).toNatClampNeg ∧ (CL (d * 6 + 1)).toNatClampNeg < 10 := by
    intro z
    obtain ⟨cx, c1, c2⟩ := (x5 z).2.1
    have := W.1.2
    rw [c2, nI_clamp (show cx < 2 ^ 31 by omega)]
    exact ⟨rfl, by omega⟩
  have hm0 : d = 0 → hs_mk1 LT dl d = 0 := fun z => if_pos z
  have yst : ∀ (x : SY → Prop) (v : SY), hs_V tx nu LT P h lc yk yen yto ype yli mo mS mD gl ex at1 oc lt lp CL HE op ml cn d vt s pc rc fl dl vb ob ts st ho (some (some w)) v → (∀ v1, hs_VE tx nu LT P h lc yk yen yto ype yli mo mS mD gl ex at1 oc lt lp CL HE op ml cn d vt s pc rc fl dl vb ob ts st ho ts1 st1 v1 → hs_yop (fun u => match u with | (y_maxObjectsq, y_maxStepsq, y_maxDepthq, y_keptq, y_endq, y_tokensq, y_pendingq, y_linesq, y_classesq, y_printsq, y_placeq, y_stepsq, y_dq, y_valTopq, y_opTopq, y_opensq, y_posq, y_tkq, y_tvq, y_stmtq, y_targetq, y_errq, y_codeq, y_outcomeq, y_resultq, y_dryq, y_wantq, y_startingq, y_endedq, y_badq, y_hostedq, y_sawSuperq, y_textq, y_numbersq, y_globalsq, y_entriesq, y_attrsq, y_classOfq, y_aliveq, y_ordersq, y_lengthsq, y_lettersq, y_basesq, y_valsq, y_opsq, y_localsq, y_fRecvq, y_fLineq, y_fPosq, y_fStmtq, y_fTargetq, y_fMaskq, y_fHomeq, y_fOpsq, y_fValsq, y_fNewq, y_outq) => ((fun r u => match u with | (y_maxObjectsq, y_maxStepsq, y_maxDepthq, y_keptq, y_endq, y_tokensq, y_pendingq, y_linesq, y_classesq, y_printsq, y_placeq, y_stepsq, y_dq, y_valTopq, y_opTopq, y_opensq, y_posq, y_tkq, y_tvq, y_stmtq, y_targetq, y_errq, y_codeq, y_outcomeq, y_resultq, y_dryq, y_wantq, y_startingq, y_endedq, y_badq, y_hostedq, y_sawSuperq, y_textq, y_numbersq, y_globalsq, y_entriesq, y_attrsq, y_classOfq, y_aliveq, y_ordersq, y_lengthsq, y_lettersq, y_basesq, y_valsq, y_opsq, y_localsq, y_fRecvq, y_fLineq, y_fPosq, y_fStmtq, y_fTargetq, y_fMaskq, y_fHomeq, y_fOpsq, y_fValsq, y_fNewq, y_outq) => ((r = 0 → x (y_maxObjectsq, y_maxStepsq, y_maxDepthq, y_keptq, y_endq, y_tokensq, y_pendingq, y_linesq, y_classesq, y_printsq, y_placeq, y_stepsq, y_dq, y_valTopq, y_opTopq, y_opensq, y_posq, y_tkq, y_tvq, y_stmtq, y_targetq, y_errq, y_codeq, y_outcomeq, y_resultq, y_dryq, y_wantq, y_startingq, y_endedq, y_badq, y_hostedq, y_sawSuperq, y_textq, y_numbersq, y_globalsq, y_entriesq, y_attrsq, y_classOfq, y_aliveq, y_ordersq, y_lengthsq, y_lettersq, y_basesq, y_valsq, y_opsq, y_localsq, y_fRecvq, y_fLineq, y_fPosq, y_fStmtq, y_fTargetq, y_fMaskq, y_fHomeq, y_fOpsq, y_fValsq, y_fNewq, y_outq)) ∧ (¬ r = 0 → wpY_finish (fun u => match u with | (y_maxObjectsw, y_maxStepsw, y_maxDepthw, y_keptw, y_endw, y_tokensw, y_pendingw, y_linesw, y_classesw, y_printsw, y_placew, y_stepsw, y_dw, y_valTopw, y_opTopw, y_opensw, y_posw, y_tkw, y_tvw, y_stmtw, y_targetw, y_errw, y_codew, y_outcomew, y_resultw, y_dryw, y_wantw, y_startingw, y_endedw, y_badw, y_hostedw, y_sawSuperw, y_textw, y_numbersw, y_globalsw, y_entriesw, y_attrsw, y_classOfw, y_alivew, y_ordersw, y_lengthsw, y_lettersw, y_basesw, y_valsw, y_opsw, y_localsw, y_fRecvw, y_fLinew, y_fPosw, y_fStmtw, y_fTargetw, y_fMaskw, y_fHomew, y_fOpsw, y_fValsw, y_fNeww, y_outw) => x (y_maxObjectsw, y_maxStepsw, y_maxDepthw, y_keptw, y_endw, y_tokensw, y_pendingw, y_linesw, y_classesw, y_printsw, y_placew, y_stepsw, y_dw, y_valTopw, y_opTopw, y_opensw, y_posw, y_tkw, y_tvw, y_stmtw, y_targetw, y_errw, y_codew, y_outcomew, y_resultw, y_dryw, y_wantw, y_startingw, y_endedw, y_badw, y_hostedw, y_sawSuperw, y_textw, y_numbersw, y_globalsw, y_entriesw, y_attrsw, y_classOfw, y_alivew, y_ordersw, y_lengthsw, y_lettersw, y_basesw, y_valsw, y_opsw, y_localsw, y_fRecvw, y_fLinew, y_fPosw, y_fStmtw, y_fTargetw, y_fMaskw, y_fHomew, y_fOpsw, y_fValsw, y_fNeww, y_outw)) (y_maxObjectsq, y_maxStepsq, y_maxDepthq, y_keptq, y_endq, y_tokensq, y_pendingq, y_linesq, y_classesq, y_printsq, y_placeq, y_stepsq, y_dq, y_valTopq, y_opTopq, y_opensq, y_posq, y_tkq, y_tvq, y_stmtq, y_targetq, y_errq, y_codeq, y_outcomeq, y_resultq, y_dryq, y_wantq, y_startingq, y_endedq, y_badq, y_hostedq, y_sawSuperq, y_textq, y_numbersq, y_globalsq, y_entriesq, y_attrsq, y_classOfq, y_aliveq, y_ordersq, y_lengthsq, y_lettersq, y_basesq, y_valsq, y_opsq, y_localsq, y_fRecvq, y_fLineq, y_fPosq, y_fStmtq, y_fTargetq, y_fMaskq, y_fHomeq, y_fOpsq, y_fValsq, y_fNewq, y_outq)))) : Int32 → SY → Prop) 0 (y_maxObjectsq, y_maxStepsq, y_maxDepthq, y_keptq, y_endq, y_tokensq, y_pendingq, y_linesq, y_classesq, y_printsq, y_placeq, y_stepsq, y_dq, y_valTopq, y_opTopq, y_opensq, y_posq, y_tkq, y_tvq, y_stmtq, y_targetq, y_errq, y_codeq, y_outcomeq, y_resultq, y_dryq, y_wantq, y_startingq, y_endedq, y_badq, y_hostedq, y_sawSuperq, y_textq, y_numbersq, y_globalsq, y_entriesq, y_attrsq, y_classOfq, y_aliveq, y_ordersq, y_lengthsq, y_lettersq, y_basesq, y_valsq, y_opsq, y_localsq, y_fRecvq, y_fLineq, y_fPosq, y_fStmtq, y_fTargetq, y_fMaskq, y_fHomeq, y_fOpsq, y_fValsq, y_fNewq, y_outq)) o qq vt v1) → wpY_expressionToken (fun r u => match u with | (y_maxObjectsq, y_maxStepsq, y_maxDepthq, y_keptq, y_endq, y_tokensq, y_pendingq, y_linesq, y_classesq, y_printsq, y_placeq, y_stepsq, y_dq, y_valTopq, y_opTopq, y_opensq, y_posq, y_tkq, y_tvq, y_stmtq, y_targetq, y_errq, y_codeq, y_outcomeq, y_resultq, y_dryq, y_wantq, y_startingq, y_endedq, y_badq, y_hostedq, y_sawSuperq, y_textq, y_numbersq, y_globalsq, y_entriesq, y_attrsq, y_classOfq, y_aliveq, y_ordersq, y_lengthsq, y_lettersq, y_basesq, y_valsq, y_opsq, y_localsq, y_fRecvq, y_fLineq, y_fPosq, y_fStmtq, y_fTargetq, y_fMaskq, y_fHomeq, y_fOpsq, y_fValsq, y_fNewq, y_outq) => ((r = 0 → x (y_maxObjectsq, y_maxStepsq, y_maxDepthq, y_keptq, y_endq, y_tokensq, y_pendingq, y_linesq, y_classesq, y_printsq, y_placeq, y_stepsq, y_dq, y_valTopq, y_opTopq, y_opensq, y_posq, y_tkq, y_tvq, y_stmtq, y_targetq, y_errq, y_codeq, y_outcomeq, y_resultq, y_dryq, y_wantq, y_startingq, y_endedq, y_badq, y_hostedq, y_sawSuperq, y_textq, y_numbersq, y_globalsq, y_entriesq, y_attrsq, y_classOfq, y_aliveq, y_ordersq, y_lengthsq, y_lettersq, y_basesq, y_valsq, y_opsq, y_localsq, y_fRecvq, y_fLineq, y_fPosq, y_fStmtq, y_fTargetq, y_fMaskq, y_fHomeq, y_fOpsq, y_fValsq, y_fNewq, y_outq)) ∧ (¬ r = 0 → wpY_finish (fun u => match u with | (y_maxObjectsw, y_maxStepsw, y_maxDepthw, y_keptw, y_endw, y_tokensw, y_pendingw, y_linesw, y_classesw, y_printsw, y_placew, y_stepsw, y_dw, y_valTopw, y_opTopw, y_opensw, y_posw, y_tkw, y_tvw, y_stmtw, y_targetw, y_errw, y_codew, y_outcomew, y_resultw, y_dryw, y_wantw, y_startingw, y_endedw, y_badw, y_hostedw, y_sawSuperw, y_textw, y_numbersw, y_globalsw, y_entriesw, y_attrsw, y_classOfw, y_alivew, y_ordersw, y_lengthsw, y_lettersw, y_basesw, y_valsw, y_opsw, y_localsw, y_fRecvw, y_fLinew, y_fPosw, y_fStmtw, y_fTargetw, y_fMaskw, y_fHomew, y_fOpsw, y_fValsw, y_fNeww, y_outw) => x (y_maxObjectsw, y_maxStepsw, y_maxDepthw, y_keptw, y_endw, y_tokensw, y_pendingw, y_linesw, y_classesw, y_printsw, y_placew, y_stepsw, y_dw, y_valTopw, y_opTopw, y_opensw, y_posw, y_tkw, y_tvw, y_stmtw, y_targetw, y_errw, y_codew, y_outcomew, y_resultw, y_dryw, y_wantw, y_startingw, y_endedw, y_badw, y_hostedw, y_sawSuperw, y_textw, y_numbersw, y_globalsw, y_entriesw, y_attrsw, y_classOfw, y_alivew, y_ordersw, y_lengthsw, y_lettersw, y_basesw, y_valsw, y_opsw, y_localsw, y_fRecvw, y_fLinew, y_fPosw, y_fStmtw, y_fTargetw, y_fMaskw, y_fHomew, y_fOpsw, y_fValsw, y_fNeww, y_outw)) (y_maxObjectsq, y_maxStepsq, y_maxDepthq, y_keptq, y_endq, y_tokensq, y_pendingq, y_linesq, y_classesq, y_printsq, y_placeq, y_stepsq, y_dq, y_valTopq, y_opTopq, y_opensq, y_posq, y_tkq, y_tvq, y_stmtq, y_targetq, y_errq, y_codeq, y_outcomeq, y_resultq, y_dryq, y_wantq, y_startingq, y_endedq, y_badq, y_hostedq, y_sawSuperq, y_textq, y_numbersq, y_globalsq, y_entriesq, y_attrsq, y_classOfq, y_aliveq, y_ordersq, y_lengthsq, y_lettersq, y_basesq, y_valsq, y_opsq, y_localsq, y_fRecvq, y_fLineq, y_fPosq, y_fStmtq, y_fTargetq, y_fMaskq, y_fHomeq, y_fOpsq, y_fValsq, y_fNewq, y_outq)))) v := by
    intro x v hvv H
    refine hs_yTok I0 s7.1 hv s13 s14 s15 hvv (fun z => by cases z) (fun o' q' eo _ v1 h1 => ?_)
    have eo1 : o = o' ∧ qq = q' := by
      have := List.head_eq_of_cons_eq eo
      exact ⟨congrArg Prod.fst this, congrArg Prod.snd this⟩
    obtain ⟨rfl, rfl⟩ := eo1
    exact H v1 h1
  refine hs_enterE d6 (by omega) cL s1 s2 (by omega) s3 s4 ?_
  intro i k n hi hk hn post HP
  refine hs_xRun (mk := hs_mk1 LT dl d) (hm := (CL (d * 6 + 1)).toNatClampNeg) W d6 (fun z => by rw [pk_un (by omega)]; exact x4 z) (fun z => ⟨by rw [pk_un (by omega)]; exact (x5 z).1, hdl z⟩) (fun z => (x5 z).2.2.2.1) (fun z => by rw [pk_un (by omega)]; exact hh z) OV vt280 har s11 rfl (fun dr v R hdr => ?_) (fun er cc9 R => ?_) (fun fo n' rv a uz R => ?_) (fun ho1 => Hn ho1 i k n hi hk hn post HP)
  · have edr := hs_RVdr R
    have vv := hs_RVvv W OV hHE s11 R
    have OV' : ∀ j, j < vt - dr + 1 → hs_vv (vp_updL op (vt - dr) v j) := by
      intro j hj
      by_cases z : j = vt - dr
      · rw [z, pk_uLs]; exact vv
      · rw [pk_uLn z]; exact OV j (by omega)
    have g := hs_emGo (mg := mg) (pc := pc) (rc := rc) (lp := lp) G I0 L nh m0 W OV' (by omega) hM
    refine g i k n hi hk hn post (fun u' V' f gg => HP u' V' f (fun Q hQ m hm v' hv' => yst _ v' hv' (fun v1 h1 => ?_)))
    have ge := gg Q hQ m hm
    clear gg HP g yst
    obtain ⟨f1, f2, f3⟩ : (match v1 with | (y_maxObjects, y_maxSteps, y_maxDepth, y_kept, y_end, y_tokens, y_pending, y_lines, y_classes, y_prints, y_place, y_steps, y_d, y_valTop, y_opTop, y_opens, y_pos, y_tk, y_tv, y_stmt, y_target, y_err, y_code, y_outcome, y_result, y_dry, y_want, y_starting, y_ended, y_bad, y_hosted, y_sawSuper, y_text, y_numbers, y_globals, y_entries, y_attrs, y_classOf, y_alive, y_orders, y_lengths, y_letters, y_bases, y_vals, y_ops, y_locals, y_fRecv, y_fLine, y_fPos, y_fStmt, y_fTarget, y_fMask, y_fHome, y_fOps, y_fVals, y_fNew, y_out) => y_fMask d = hs_mk1 LT dl d ∧ (∀ j, j < 26 → 1 ≤ d → y_locals (d * 26 + j) = HE (d * 27 + j)) ∧ (1 ≤ d → y_fHome d = CL (d * 6 + 1) ∧ y_fRecv d = HE (d * 27 + 26))) := hs_VCmk h1.1
    obtain ⟨y_maxObjects, y_maxSteps, y_maxDepth, y_kept, y_end, y_tokens, y_pending, y_lines, y_classes, y_prints, y_place, y_steps, y_d, y_valTop, y_opTop, y_opens, y_pos, y_tk, y_tv, y_stmt, y_target, y_err, y_code, y_outcome, y_result, y_dry, y_want, y_starting, y_ended, y_bad, y_hosted, y_sawSuper, y_text, y_numbers, y_globals, y_entries, y_attrs, y_classOf, y_alive, y_orders, y_lengths, y_letters, y_bases, y_vals, y_ops, y_locals, y_fRecv, y_fLine, y_fPos, y_fStmt, y_fTarget, y_fMask, y_fHome, y_fOps, y_fVals, y_fNew, y_out⟩ := v1
    obtain ⟨⟨⟨a1, a2, a3, a4, a5, a6, a7, a8, a9, a10, a11, a12, a13, a14, a15, a16, a17, a18, a19, a20, a21, anu, a23, a24, a25, a26, a27⟩, E, O, va, l0, C, KK, qf⟩, w1, w2, pp, p1, p2, p3, p4, p5, p6⟩ := h1
    (have a1 := a1.symm; have a2 := a2.symm; have a3 := a3.symm; have a4 := a4.symm; have a5 := a5.symm; have a6 := a6.symm; have a7 := a7.symm; have a8 := a8.symm; have a9 := a9.symm; have a10 := a10.symm; have a11 := a11.symm; have a12 := a12.symm; have a13 := a13.symm; have a14 := a14.symm; have a15 := a15.symm; have a16 := a16.symm; have a17 := a17.symm; have a18 := a18.symm; have a19 := a19.symm; have a20 := a20.symm; have a21 := a21.symm; have a23 := a23.symm; have a24 := a24.symm; have a25 := a25.symm; have a26 := a26.symm; have a27 := a27.symm; subst a1 a2 a3 a4 a5 a6 a7 a8 a9 a10 a11 a12 a13 a14 a15 a16 a17 a18 a19 a20 a21 a23 a24 a25 a26 a27)
    subst w1 w2 p1 p3 p5
    refine hs_yOpV W E O va d6 f1 hm0 f2 (by omega) har s11 OV R (br_t rfl (ge _ ⟨⟨rfl, rfl, rfl, rfl, rfl, rfl, rfl, rfl, rfl, rfl, rfl, rfl, rfl, rfl, rfl, rfl, rfl, rfl, rfl, rfl, rfl, rfl, anu, rfl, rfl, rfl, rfl, rfl⟩, E, O, fun j hj => ?_, l0, C, fun k hk nk => ?_, rfl, qf, rfl, pp, rfl, ?_, rfl, p4, ?_, ?_⟩))
    · by_cases z : j = vt - dr
      · rw [z, pk_uLs, pk_uLs]
      · rw [pk_uLn z, pk_uLn z]; exact va j (by omega)
    · rw [hs_put1N (show k ≠ d by omega), hs_put1N (show k ≠ d by omega)]; exact KK k hk nk
    · rw [hs_put1S]; exact p2
    · rw [hs_put1S]
    · rw [hs_put1S]; exact p6
  · obtain ⟨e0, e9⟩ := hs_REer R
    have g := hs_emErr (c := c) (x14 := cc9) (mg := mg) (pc := pc) (rc := rc) (lp := lp) A I0 L nh W hvb e0 e9 hM
    refine g i k n hi hk hn post (fun u' V' f gg => HP u' V' f (fun Q hQ m hm v' hv' => yst _ v' hv' (fun v1 h1 => ?_)))
    have ge := gg Q hQ m hm
    clear gg HP g yst
    obtain ⟨f1, f2, f3⟩ : (match v1 with | (y_maxObjects, y_maxSteps, y_maxDepth, y_kept, y_end, y_tokens, y_pending, y_lines, y_classes, y_prints, y_place, y_steps, y_d, y_valTop, y_opTop, y_opens, y_pos, y_tk, y_tv, y_stmt, y_target, y_err, y_code, y_outcome, y_result, y_dry, y_want, y_starting, y_ended, y_bad, y_hosted, y_sawSuper, y_text, y_numbers, y_globals, y_entries, y_attrs, y_classOf, y_alive, y_orders, y_lengths, y_letters, y_bases, y_vals, y_ops, y_locals, y_fRecv, y_fLine, y_fPos, y_fStmt, y_fTarget, y_fMask, y_fHome, y_fOps, y_fVals, y_fNew, y_out) => y_fMask d = hs_mk1 LT dl d ∧ (∀ j, j < 26 → 1 ≤ d → y_locals (d * 26 + j) = HE (d * 27 + j)) ∧ (1 ≤ d → y_fHome d = CL (d * 6 + 1) ∧ y_fRecv d = HE (d * 27 + 26))) := hs_VCmk h1.1
    obtain ⟨y_maxObjects, y_maxSteps, y_maxDepth, y_kept, y_end, y_tokens, y_pending, y_lines, y_classes, y_prints, y_place, y_steps, y_d, y_valTop, y_opTop, y_opens, y_pos, y_tk, y_tv, y_stmt, y_target, y_err, y_code, y_outcome, y_result, y_dry, y_want, y_starting, y_ended, y_bad, y_hosted, y_sawSuper, y_text, y_numbers, y_globals, y_entries, y_attrs, y_classOf, y_alive, y_orders, y_lengths, y_letters, y_bases, y_vals, y_ops, y_locals, y_fRecv, y_fLine, y_fPos, y_fStmt, y_fTarget, y_fMask, y_fHome, y_fOps, y_fVals, y_fNew, y_out⟩ := v1
    obtain ⟨⟨⟨a1, a2, a3, a4, a5, a6, a7, a8, a9, a10, a11, a12, a13, a14, a15, a16, a17, a18, a19, a20, a21, anu, a23, a24, a25, a26, a27⟩, E, O, va, l0, C, KK, qf⟩, w1, w2, pp, p1, p2, p3, p4, p5, p6⟩ := h1
    (have a1 := a1.symm; have a2 := a2.symm; have a3 := a3.symm; have a4 := a4.symm; have a5 := a5.symm; have a6 := a6.symm; have a7 := a7.symm; have a8 := a8.symm; have a9 := a9.symm; have a10 := a10.symm; have a11 := a11.symm; have a12 := a12.symm; have a13 := a13.symm; have a14 := a14.symm; have a15 := a15.symm; have a16 := a16.symm; have a17 := a17.symm; have a18 := a18.symm; have a19 := a19.symm; have a20 := a20.symm; have a21 := a21.symm; have a23 := a23.symm; have a24 := a24.symm; have a25 := a25.symm; have a26 := a26.symm; have a27 := a27.symm; subst a1 a2 a3 a4 a5 a6 a7 a8 a9 a10 a11 a12 a13 a14 a15 a16 a17 a18 a19 a20 a21 a23 a24 a25 a26 a27)
    subst w1 w2 p1 p3 p5
    exact hs_yOpE W E O va d6 f1 hm0 f2 (by omega) har s11 OV R (fun q1 q3 q2 hq2 => br_t rfl (ge _ ⟨⟨rfl, rfl, rfl, rfl, rfl, rfl, rfl, rfl, rfl, rfl, rfl, rfl, rfl, rfl, rfl, rfl, rfl, rfl, rfl, rfl, rfl, anu, rfl, rfl, rfl, rfl, rfl⟩, E, O, fun j hj => (hq2 j (by omega)).trans (va j (by omega)), l0, C, KK, qf⟩))
  · obtain ⟨r1, r2, r3, r4, r5, b, r6⟩ := hs_RMf W s11 R
    refine hs_xStart (P := P) (h := h) (lc := lc) (tk := tk) (mD := mD) W.2.2.2.1 (fun m hm => ⟨by have := (r5 m hm).1; have := W.1.2; omega, (r5 m hm).2⟩) r1 r2 (fun z => by omega) (by omega) vt280 B3 B4 T.1 (fun l hl => by obtain ⟨sx, t, D, _⟩ := hs_hdf T l hl; exact ⟨sx, t, D⟩) (fun er S => br_t rfl ?_) (fun m1 l sx t S D HE' q1 q2 q3 => br_f (by decide) ?_)
    · obtain ⟨e0, e9⟩ := hs_SEer S
      have g := hs_emErr (c := c) (x14 := nI vt) (mg := mg) (pc := pc) (rc := rc) (lp := lp) A I0 L nh W hvb e0 e9 hM
      refine g i k n hi hk hn post (fun u' V' f gg => HP u' V' f (fun Q hQ m hm v' hv' => yst _ v' hv' (fun v1 h1 => ?_)))
      have ge := gg Q hQ m hm
      clear gg HP g yst
      obtain ⟨f1, f2, f3⟩ : (match v1 with | (y_maxObjects, y_maxSteps, y_maxDepth, y_kept, y_end, y_tokens, y_pending, y_lines, y_classes, y_prints, y_place, y_steps, y_d, y_valTop, y_opTop, y_opens, y_pos, y_tk, y_tv, y_stmt, y_target, y_err, y_code, y_outcome, y_result, y_dry, y_want, y_starting, y_ended, y_bad, y_hosted, y_sawSuper, y_text, y_numbers, y_globals, y_entries, y_attrs, y_classOf, y_alive, y_orders, y_lengths, y_letters, y_bases, y_vals, y_ops, y_locals, y_fRecv, y_fLine, y_fPos, y_fStmt, y_fTarget, y_fMask, y_fHome, y_fOps, y_fVals, y_fNew, y_out) => y_fMask d = hs_mk1 LT dl d ∧ (∀ j, j < 26 → 1 ≤ d → y_locals (d * 26 + j) = HE (d * 27 + j)) ∧ (1 ≤ d → y_fHome d = CL (d * 6 + 1) ∧ y_fRecv d = HE (d * 27 + 26))) := hs_VCmk h1.1
      obtain ⟨y_maxObjects, y_maxSteps, y_maxDepth, y_kept, y_end, y_tokens, y_pending, y_lines, y_classes, y_prints, y_place, y_steps, y_d, y_valTop, y_opTop, y_opens, y_pos, y_tk, y_tv, y_stmt, y_target, y_err, y_code, y_outcome, y_result, y_dry, y_want, y_starting, y_ended, y_bad, y_hosted, y_sawSuper, y_text, y_numbers, y_globals, y_entries, y_attrs, y_classOf, y_alive, y_orders, y_lengths, y_letters, y_bases, y_vals, y_ops, y_locals, y_fRecv, y_fLine, y_fPos, y_fStmt, y_fTarget, y_fMask, y_fHome, y_fOps, y_fVals, y_fNew, y_out⟩ := v1
      obtain ⟨⟨⟨a1, a2, a3, a4, a5, a6, a7, a8, a9, a10, a11, a12, a13, a14, a15, a16, a17, a18, a19, a20, a21, anu, a23, a24, a25, a26, a27⟩, E, O, va, l0, C, KK, qf⟩, w1, w2, pp, p1, p2, p3, p4, p5, p6⟩ := h1
      (have a1 := a1.symm; have a2 := a2.symm; have a3 := a3.symm; have a4 := a4.symm; have a5 := a5.symm; have a6 := a6.symm; have a7 := a7.symm; have a8 := a8.symm; have a9 := a9.symm; have a10 := a10.symm; have a11 := a11.symm; have a12 := a12.symm; have a13 := a13.symm; have a14 := a14.symm; have a15 := a15.symm; have a16 := a16.symm; have a17 := a17.symm; have a18 := a18.symm; have a19 := a19.symm; have a20 := a20.symm; have a21 := a21.symm; have a23 := a23.symm; have a24 := a24.symm; have a25 := a25.symm; have a26 := a26.symm; have a27 := a27.symm; subst a1 a2 a3 a4 a5 a6 a7 a8 a9 a10 a11 a12 a13 a14 a15 a16 a17 a18 a19 a20 a21 a23 a24 a25 a26 a27)
      subst w1 w2 p1 p3 p5
      refine hs_yOpM W E O va d6 (by omega) har s11 OV (fun z => ⟨(f3 z).1.trans (hh z).1, (hh z).2⟩) (fun z => (f3 z).2) R (fun arg harg => ?_)
      have ha : arg = 0 ↔ a = 0 := by
        rcases harg with ⟨y1, y2⟩ | ⟨y1, y2, y3⟩
        · exact ⟨fun _ => y1, fun _ => y2⟩
        · exact ⟨fun z => absurd (y3.symm.trans z) (hs_vvne (OV (vt - 1) (by omega))), fun z => by omega⟩
      exact hs_yInvE E r1 r2 ha B3 B4 (hs_hdf T) S (br_t rfl (ge _ ⟨⟨rfl, rfl, rfl, rfl, rfl, rfl, rfl, rfl, rfl, rfl, rfl, rfl, rfl, rfl, rfl, rfl, rfl, rfl, rfl, rfl, rfl, anu, rfl, rfl, rfl, rfl, rfl⟩, E, O, fun j hj => va j (by omega), l0, C, KK, qf⟩))
    · have ec := hs_C40 (CL := upd CL (d * 6 + 3) (nI (c + 1))) (d := d) (l := l) (m := m1) (x := vt - uz)
      have ei : (nI (d + 2) - 1) * 6 + 0 = nI ((d + 1) * 6) := by
        rw [Int32.add_zero, show nI (d + 2) - 1 = nI (d + 1) from nI_pred (d + 1)]; exact pk_mul (d + 1) 6
      have el : nI l + 1 = nI (l + 1) := nI_1 l
      rw [ei, nI_clamp (show (d + 1) * 6 < 2 ^ 31 by omega), ec.1, el]
      have dm := S.2.2.2.2.2.2
      have ldf := S.2.2.1
      have hrv : hs_vv rv := by rw [r6.2]; exact hs_objV r6.1
      have hag : ∀ t', t = some t' → hs_vv (op (vt - 1)) := by
        intro t' et
        obtain ⟨d1, d2, nn, ⟨d3, _⟩ | ⟨t3, d3, d4, d5, d7, d8⟩⟩ := D
        · rw [d3] at et; cases et
        · have hnp := S.2.2.2.2.2.1
          unfold hs_np at hnp
          rw [d7, if_pos (nI_pos' (by omega))] at hnp
          exact OV (vt - 1) (by omega)
      have Im := hs_emI (x := nI (c + 1)) (ts1 := ts1) (st1 := st1) I0 W OV
      have pe : hs_pot (hs_put1 ts d ts1) (hs_put1 st d st1) d = hs_pot ts st d := hs_potE d (fun k hk => hs_put1N (by omega)) (fun k hk => hs_put1N (by omega))
      have pe1 : hs_pot (hs_put1 ts d ts1) (hs_put1 st d st1) (d + 1) = hs_pot ts st d + (3 * (2 * ts1.length + st1.length) + 3) := by
        show hs_pot (hs_put1 ts d ts1) (hs_put1 st d st1) d + (3 * (2 * (hs_put1 ts d ts1 d).length + (hs_put1 st d st1 d).length) + 3) = _
        rw [pe, hs_put1S, hs_put1S]
      have g := hs_tGo (fun v hv => hs_Verr hv) (hs_callG (mg := mg) (pc := pc) (rc := rc) (lp := lp) (on := ob d + st1.length) (vn := vt - uz) (l := l) (CL2 := hs_C4 (upd CL (d * 6 + 3) (nI (c + 1))) d l m1 (vt - uz)) (HE' := HE') A Im (hs_XLin L (pk_un (by omega)) (Nat.le_refl _)) (fun _ => ⟨by rw [hs_put1S, hs_put1S]; exact hs_emXS m0, by rw [hs_put1S]; omega, by rw [hs_put1S]⟩) (fun y1 y2 => absurd ⟨y1, y2⟩ nh) dm (by omega) W ldf (fun j hj => hs_C4n hj) ec.2.2.1 ec.1 ⟨m1, (r5 m1 S.1).1, ec.2.1⟩ (Or.inl ec.2.2.2) q1 ⟨b, by rw [q2]; exact r6⟩ (fun j hj => by rw [q3 j hj]; exact hs_lv1v hrv hag j) (by rw [pe1]; omega))
      refine And.intro (vp_in_nI (by omega) (by decide)) (hs_xReach (d := d + 1) (by omega) (by have := ldf.1; have := (hs_opNext (hs_Tck T ldf.1) (hs_TE T ldf.1).2.1 (hs_TE T ldf.1).2.2.1 (Or.inr (Or.inl ldf.2))).1; have := (hs_TE T ldf.1).1; omega) s200 m200 ?_)
      refine g i k n hi hk hn post (fun u' V' f gg => HP u' V' f (fun Q hQ m hm v' hv' => yst _ v' hv' (fun v1 h1 => ?_)))
      have ge := gg Q hQ m hm
      clear gg HP g yst
      obtain ⟨f1, f2, f3⟩ : (match v1 with | (y_maxObjects, y_maxSteps, y_maxDepth, y_kept, y_end, y_tokens, y_pending, y_lines, y_classes, y_prints, y_place, y_steps, y_d, y_valTop, y_opTop, y_opens, y_pos, y_tk, y_tv, y_stmt, y_target, y_err, y_code, y_outcome, y_result, y_dry, y_want, y_starting, y_ended, y_bad, y_hosted, y_sawSuper, y_text, y_numbers, y_globals, y_entries, y_attrs, y_classOf, y_alive, y_orders, y_lengths, y_letters, y_bases, y_vals, y_ops, y_locals, y_fRecv, y_fLine, y_fPos, y_fStmt, y_fTarget, y_fMask, y_fHome, y_fOps, y_fVals, y_fNew, y_out) => y_fMask d = hs_mk1 LT dl d ∧ (∀ j, j < 26 → 1 ≤ d → y_locals (d * 26 + j) = HE (d * 27 + j)) ∧ (1 ≤ d → y_fHome d = CL (d * 6 + 1) ∧ y_fRecv d = HE (d * 27 + 26))) := hs_VCmk h1.1
      obtain ⟨y_maxObjects, y_maxSteps, y_maxDepth, y_kept, y_end, y_tokens, y_pending, y_lines, y_classes, y_prints, y_place, y_steps, y_d, y_valTop, y_opTop, y_opens, y_pos, y_tk, y_tv, y_stmt, y_target, y_err, y_code, y_outcome, y_result, y_dry, y_want, y_starting, y_ended, y_bad, y_hosted, y_sawSuper, y_text, y_numbers, y_globals, y_entries, y_attrs, y_classOf, y_alive, y_orders, y_lengths, y_letters, y_bases, y_vals, y_ops, y_locals, y_fRecv, y_fLine, y_fPos, y_fStmt, y_fTarget, y_fMask, y_fHome, y_fOps, y_fVals, y_fNew, y_out⟩ := v1
      obtain ⟨⟨⟨a1, a2, a3, a4, a5, a6, a7, a8, a9, a10, a11, a12, a13, a14, a15, a16, a17, a18, a19, a20, a21, anu, a23, a24, a25, a26, a27⟩, E, O, va, l0, C, KK, qf⟩, w1, w2, pp, p1, p2, p3, p4, p5, p6⟩ := h1
      (have a1 := a1.symm; have a2 := a2.symm; have a3 := a3.symm; have a4 := a4.symm; have a5 := a5.symm; have a6 := a6.symm; have a7 := a7.symm; have a8 := a8.symm; have a9 := a9.symm; have a10 := a10.symm; have a11 := a11.symm; have a12 := a12.symm; have a13 := a13.symm; have a14 := a14.symm; have a15 := a15.symm; have a16 := a16.symm; have a17 := a17.symm; have a18 := a18.symm; have a19 := a19.symm; have a20 := a20.symm; have a21 := a21.symm; have a23 := a23.symm; have a24 := a24.symm; have a25 := a25.symm; have a26 := a26.symm; have a27 := a27.symm; subst a1 a2 a3 a4 a5 a6 a7 a8 a9 a10 a11 a12 a13 a14 a15 a16 a17 a18 a19 a20 a21 a23 a24 a25 a26 a27)
      subst w1 w2 p1 p3 p5
      refine hs_yOpM W E O va d6 (by omega) har s11 OV (fun z => ⟨(f3 z).1.trans (hh z).1, (hh z).2⟩) (fun z => (f3 z).2) R (fun arg harg => ?_)
      refine hs_yCallV (v := (nI mo, nI mS, nI mD, yk, yen, yto, ype, yli, nI cn, pc, 0, nI s, nI d, nI vt, nI (ob d + st1.length), y_opens, nI pp, y_tk, y_tv, hs_smk (LT (fl d * 14)), y_target, 0, rc, 0, 0, 0, y_want, 0, 0, y_bad, hs_b ho, y_sawSuper, tx, y_numbers, gl, y_entries, at1, oc, y_alive, y_orders, y_lengths, lt, y_bases, y_vals, y_ops, y_locals, y_fRecv, y_fLine, y_fPos, y_fStmt, y_fTarget, y_fMask, y_fHome, y_fOps, y_fVals, y_fNew, lp)) (fr := 0) (m := m1) (CL := upd CL (d * 6 + 3) (nI (c + 1))) (ts := hs_put1 ts d ts1) (st := hs_put1 st d st1) Im (fun _ => by rw [hs_put1S]) r1 r2 harg (by omega) vt280 (by omega) D S (fun j hj => hs_C4n hj) ec.2.1 ec.2.2.2 q1 q2 q3 ⟨⟨rfl, rfl, rfl, rfl, rfl, rfl, rfl, rfl, rfl, rfl, rfl, rfl, rfl, rfl, rfl, rfl, rfl, rfl, rfl, rfl, rfl, anu, rfl, rfl, rfl, rfl, rfl⟩, E, O, va, l0, fun k hk => hs_YCcl ⟨pk_un (by omega), pk_un (by omega)⟩ (C k hk), fun k hk nk => ?_, rfl, rfl, fun _ => ⟨qf, pp, rfl, ?_, rfl, p4, ?_⟩⟩ (fun v1 h1 => br_t rfl (ge v1 h1))
      · rw [hs_put1N (show k ≠ d by omega), hs_put1N (show k ≠ d by omega)]; exact KK k hk nk
      · rw [hs_put1S]; exact p2
      · rw [hs_put1S]; exact p6
end
