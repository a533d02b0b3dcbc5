/-! a value is set: a name, an entry, an field -/
section
variable {x_objectLimit x_stepLimit x_depthLimit x_pendingCount x_keptTokens x_keptLines x_lineCount x_codeCount x_cursor x_stop x_waitingCount x_openCount x_classCount x_callCount x_operandCount x_stepsTaken x_error x_raisedCode x_printCount x_lastPlace : Int32} {x_lastResult : Int64} {x_pending x_lineTable x_orders x_merging x_letterClass x_objectClass x_calls x_lastPrints : Nat → Int32} {x_code x_waiting x_globals x_entries x_attributes x_held x_operands : Nat → Int64}
variable {y_maxObjects y_maxSteps y_maxDepth y_kept y_end y_tokens y_pending y_lines y_classes y_prints y_place y_steps y_d y_valTop y_opTop y_opens y_pos y_tk y_tv y_stmt y_target y_err y_code y_outcome y_dry y_want y_starting y_ended y_bad y_hosted y_sawSuper : Int32} {y_result : Int64} {y_text y_numbers y_classOf y_alive y_orders y_lengths y_letters y_bases y_ops y_fLine y_fPos y_fStmt y_fTarget y_fMask y_fHome y_fOps y_fVals y_fNew y_out : Nat → Int32} {y_globals y_entries y_attrs y_vals y_locals y_fRecv : Nat → Int64}
variable {tx nu LT : Nat → Int32} {cd : Nat → Int64} {lc kp cc : Nat} {P ind h : Nat → Nat} {tk : Nat → List Nat} {ca cb us ue : Nat → Nat} {yk yen yto ype yli : Int32} {mo mS mD : Nat} {ho : Bool}
variable {s d vt cn : Nat} {ml : Nat → List Nat} {gl ex at1 HE op : Nat → Int64} {ox oc lt lp CL mg : Nat → Int32} {pc rc : Int32} {fl dl vb ob : Nat → Nat} {ts st : Nat → List Nat} {M : Nat}
theorem hs_LFset {k f s9 t : Int32} {e : List (Nat × Nat)} {ts0 : List Nat} (hL : hs_LF k f s9 t e ts0) : (k = 15 → ∃ n, n < 26 ∧ f = nI n) ∧ (k = 17 → ∃ n m, n < 26 ∧ m < 26 ∧ f = nI n ∧ s9 = nI m) := by
  have kd := hs_LFkd hL
  cases ts0 with
  | nil => exact absurd hL id
  | cons x r =>
    by_cases hw : 1 ≤ x ∧ x ≤ 11
    · rcases kd with ⟨k1, k2, k3⟩ | ⟨k1, _⟩
      · have k2' : x ≤ 11 := k2
        have k3' : k = nI x := k3
        refine ⟨fun z => ?_, fun z => ?_⟩
        · have := (nI_eq (a := x) (b := 15) (by omega) (by omega)).mp (k3'.symm.trans z); omega
        · have := (nI_eq (a := x) (b := 17) (by omega) (by omega)).mp (k3'.symm.trans z); omega
      · exact absurd hw k1
    · rw [hs_LFo hw] at hL
      split at hL
      · rename_i q
        obtain ⟨m1, m2, _⟩ := hL
        have hn : 100 ≤ x ∧ x < 126 := of_decide_eq_true q.1
        exact ⟨fun _ => ⟨x - 100, by omega, m2⟩, fun z => by rw [m1] at z; exact absurd z (by decide)⟩
      · split at hL
        · rename_i q
          obtain ⟨m1, m2, m3, _⟩ := hL
          have hn : 100 ≤ hs_hd r.tail ∧ hs_hd r.tail < 126 := of_decide_eq_true q.2.2.1
          have hc : 130 ≤ x ∧ x < 156 := of_decide_eq_true q.1
          exact ⟨fun z => by rw [m1] at z; exact absurd z (by decide), fun _ => ⟨hs_hd r.tail - 100, x - 130, by omega, by omega, m2, m3⟩⟩
        · rcases hL with ⟨m1, _⟩ | ⟨m1, _⟩
          · exact ⟨fun z => by rw [m1] at z; exact absurd z (by decide), fun z => by rw [m1] at z; exact absurd z (by decide)⟩
          · exact ⟨fun z => by rw [m1] at z; exact absurd z (by decide), fun z => by rw [m1] at z; exact absurd z (by decide)⟩
theorem hs_fin15 (A : hs_GA tx nu LT cd lc kp cc P ind h tk ca cb us ue yk yen yto ype yli mo mS mD ho x_pendingCount x_keptTokens x_keptLines x_codeCount x_cursor x_stop x_waitingCount x_openCount x_lastResult x_pending x_waiting M) (G : hs_GB tx nu LT cd lc kp cc P ind h tk ca cb us ue yk yen yto ype yli mo mS mD ho x_pendingCount x_keptTokens x_keptLines x_codeCount x_cursor x_stop x_waitingCount x_openCount x_lastResult x_pending x_waiting M) (I : hs_XI tx nu LT cd lc kp cc P ind h tk ca cb us ue mo mS mD s d vt cn ml gl ex at1 ox oc lt HE CL op fl dl vb ob ts st ho) (nh : ¬ (ho = true ∧ d = 0)) (L : hs_XL h ind ca cb lc cn CL ho (fl d) (dl d) d) (hk : LT (fl d * 14) = 15) (hvt : vt = vb d + 1) (hst : st d = []) (hM : 250 * (mS - s) + hs_pot ts st d + 2 ≤ M) :
    hs_Gt (hs_F tx nu LT cd lc P h yk yen yto ype yli mo mS mD x_pendingCount x_keptTokens x_keptLines x_codeCount x_cursor x_stop x_waitingCount x_openCount x_lastResult x_pending x_waiting) M (fun x => wpX_finishLine (fun u => match u with | (x_objectLimitq, x_stepLimitq, x_depthLimitq, x_pendingCountq, x_keptTokensq, x_keptLinesq, x_lineCountq, x_codeCountq, x_cursorq, x_stopq, x_waitingCountq, x_openCountq, x_classCountq, x_callCountq, x_operandCountq, x_stepsTakenq, x_errorq, x_raisedCodeq, x_printCountq, x_lastResultq, x_lastPlaceq, x_pendingq, x_lineTableq, x_codeq, x_waitingq, x_globalsq, x_entriesq, x_ordersq, x_mergingq, x_letterClassq, x_objectClassq, x_attributesq, x_callsq, x_heldq, x_operandsq, x_lastPrintsq) => x (x_objectLimitq, x_stepLimitq, x_depthLimitq, x_pendingCountq, x_keptTokensq, x_keptLinesq, x_lineCountq, x_codeCountq, x_cursorq, x_stopq, x_waitingCountq, x_openCountq, x_classCountq, x_callCountq, x_operandCountq, x_stepsTakenq, x_errorq, x_raisedCodeq, x_printCountq, x_lastResultq, x_lastPlaceq, x_pendingq, x_lineTableq, x_codeq, x_waitingq, x_globalsq, x_entriesq, x_ordersq, x_mergingq, x_letterClassq, x_objectClassq, x_attributesq, x_callsq, x_heldq, x_operandsq, x_lastPrintsq)) (nI mo, nI mS, nI mD, x_pendingCount, x_keptTokens, x_keptLines, nI lc, x_codeCount, x_cursor, x_stop, x_waitingCount, x_openCount, nI cn, nI (d + 1), nI vt, nI s, 0, rc, pc, x_lastResult, 0, x_pending, LT, cd, x_waiting, gl, ex, ox, mg, lt, oc, at1, CL, HE, op, lp) (nI (fl d))) (fun x => ∀ v, hs_VD tx nu LT P h lc yk yen yto ype yli mo mS mD gl ex at1 oc lt lp CL HE op ml cn d vt s pc rc fl dl vb ob ts st ho v → wpY_finish (fun u => match u with | (y_maxObjectsw, y_maxStepsw, y_maxDepthw, y_keptw, y_endw, y_tokensw, y_pendingw, y_linesw, y_classesw, y_printsw, y_placew, y_stepsw, y_dw, y_valTopw, y_opTopw, y_opensw, y_posw, y_tkw, y_tvw, y_stmtw, y_targetw, y_errw, y_codew, y_outcomew, y_resultw, y_dryw, y_wantw, y_startingw, y_endedw, y_badw, y_hostedw, y_sawSuperw, y_textw, y_numbersw, y_globalsw, y_entriesw, y_attrsw, y_classOfw, y_alivew, y_ordersw, y_lengthsw, y_lettersw, y_basesw, y_valsw, y_opsw, y_localsw, y_fRecvw, y_fLinew, y_fPosw, y_fStmtw, y_fTargetw, y_fMaskw, y_fHomew, y_fOpsw, y_fValsw, y_fNeww, y_outw) => x (y_maxObjectsw, y_maxStepsw, y_maxDepthw, y_keptw, y_endw, y_tokensw, y_pendingw, y_linesw, y_classesw, y_printsw, y_placew, y_stepsw, y_dw, y_valTopw, y_opTopw, y_opensw, y_posw, y_tkw, y_tvw, y_stmtw, y_targetw, y_errw, y_codew, y_outcomew, y_resultw, y_dryw, y_wantw, y_startingw, y_endedw, y_badw, y_hostedw, y_sawSuperw, y_textw, y_numbersw, y_globalsw, y_entriesw, y_attrsw, y_classOfw, y_alivew, y_ordersw, y_lengthsw, y_lettersw, y_basesw, y_valsw, y_opsw, y_localsw, y_fRecvw, y_fLinew, y_fPosw, y_fStmtw, y_fTargetw, y_fMaskw, y_fHomew, y_fOpsw, y_fValsw, y_fNeww, y_outw)) v) := by
  have I0 := I
  obtain ⟨d6, s200, m200, l405⟩ := hs_XId I
  obtain ⟨T, ⟨B1, B2, B3, B4, B5, B6⟩, W, MC, OV, H0, XCk, XLk, XSk, HO, v0, o0⟩ := I
  obtain ⟨cL, fd⟩ := L.2.1 nh
  obtain ⟨x1, x2, x3, x4, x5⟩ := XCk d (Nat.le_refl _)
  have ev : vt - 1 = vb d := by omega
  have vv := OV (vt - 1) (by omega)
  have lcd := hs_lcOf nh L
  have K := hs_Tck T fd
  have IK := hs_TIK T fd
  obtain ⟨g1, g2, g3, g4, g5⟩ := hs_TE T fd
  obtain ⟨t1, t2, t3, t4, t5, t6, t7, t8, t9, t10, t11⟩ := T.2.2.2 (fl d) fd
  have HH := hs_TKH t7
  obtain ⟨n1, n2, n3, n4, e, c0, n5, n6, n7, n8, n9⟩ := t8
  obtain ⟨f, f26, hf⟩ := (hs_LFset n9).1 hk
  have e5 : nI (fl d * 14) + 5 = nI (fl d * 14 + 5) := nI_add _ 5
  have e3 : nI (fl d * 14) + 3 = nI (fl d * 14 + 3) := nI_add _ 3
  have hdl : 1 ≤ d → dl d < 405 := by
    intro z
    have := (hs_DIn K 9 (fl d) (dl d) (by have := (K.1 (fl d) g2 g3).2; omega) g2 g3 (L.2.2.2 z)).2.2.1
    omega
  intro i k n hi hk' hn post HP
  refine nm_r (pk_mul (fl d) 14) ?_
  rw [Int32.add_zero, nI_clamp (show fl d * 14 < 2 ^ 31 by omega)]
  refine And.intro (vp_in_nI (by omega) (by decide)) (nm_r hk (br_f (by decide) (br_t (by decide) ?_)))
  unfold wX_finishLine_139
  show vp_in _ _ ∧ _
  rw [Int32.add_zero, e5, nI_clamp (show fl d * 14 < 2 ^ 31 by omega), nI_clamp (show fl d * 14 + 5 < 2 ^ 31 by omega)]
  refine And.intro (vp_in_nI (by omega) (by decide)) (nm_r hk (And.intro (vp_in_nI (by omega) (by decide)) (nm_r hf (hs_xPop (by omega) (by omega) ?_))))
  refine br_f (by decide) (br_f (by decide) (br_f (by decide) (br_f (by decide) (br_t rfl ?_))))
  rw [e3, nI_clamp (show fl d * 14 + 3 < 2 ^ 31 by omega), (g5 (fl d) g2 g3).2, ev]
  refine And.intro (vp_in_nI (by omega) (by decide)) ?_
  by_cases dr : hs_dir h ind (ca (fl d)) (fl d)
  · -- an entry of the sort that is made
    have dr' := dr
    obtain ⟨p, pa, hp1⟩ := dr'
    obtain ⟨p1, p2, p3⟩ := hs_paLt pa
    have i8 := (K.1 (fl d) g2 g3).2
    have d0 : d = 0 := by
      rcases Nat.lt_or_ge 0 d with z | z
      · exact absurd dr (hs_noDir K g2 g3 (L.2.2.2 z)).1
      · omega
    have hof : ho = false := by
      cases ho with
      | false => rfl
      | true => exact absurd ⟨rfl, d0⟩ nh
    have cn2 : 2 ≤ cn := by
      refine (L.2.2.1 d0 hof).2.2 ?_
      rw [hs_in1 i8 pa, decide_eq_true hp1, Bool.true_or]
    have ec : (nI cn - 1) * 26 + nI f = nI ((cn - 1) * 26 + f) := by
      rw [show nI cn - 1 = nI (cn - 1) from pk_sub (b := 1) (by omega)]; exact hs_ixMul (cn - 1) 26 f
    have cn10 := W.1.2
    have W' : hs_WX P h lc cn ml gl (vp_updL ex ((cn - 1) * 26 + f) (op (vb d))) at1 ox oc lt := hs_WXent W (by omega) f26 (Or.inl (Or.inr (by rw [← ev]; exact vv)))
    have g := hs_tAfter (mg := mg) (pc := pc) (rc := rc) (lp := lp) A G (hs_fI I0 (by omega) W' (Nat.le_refl _) MC (hs_XIh I0)) nh lcd rfl hM
    rw [pa]
    refine hs_xOf (i := p) (c := 0) (by omega) (br_t ((hs_kdE (IK p p1 (by omega)).2.1 (w := 1) (by decide)).mpr hp1) ?_)
    show (nI cn ≤ 0 → _) ∧ _
    refine br_f (nI_nle (by omega) (by omega)) ?_
    rw [ec, nI_clamp (show (cn - 1) * 26 + f < 2 ^ 31 by omega)]
    refine And.intro (vp_in_nI (by omega) (by decide)) (nm_e ?_)
    unfold wX_finishLine_144
    refine br_t rfl (g i k n hi hk' hn post (fun u' V' ff gg => HP u' V' ff (fun Q hQ m hm v hv => ?_)))
    have ge := gg Q hQ m hm
    clear gg HP g
    obtain ⟨y_maxObjects, y_maxSteps, y_maxDepth, y_kept, y_end, y_tokens, y_pending, y_lines, y_classes, y_prints, y_place, y_steps, y_d, y_valTop, y_opTop, y_opens, y_pos, y_tk, y_tv, y_stmt, y_target, y_err, y_code, y_outcome, y_result, y_dry, y_want, y_starting, y_ended, y_bad, y_hosted, y_sawSuper, y_text, y_numbers, y_globals, y_entries, y_attrs, y_classOf, y_alive, y_orders, y_lengths, y_letters, y_bases, y_vals, y_ops, y_locals, y_fRecv, y_fLine, y_fPos, y_fStmt, y_fTarget, y_fMask, y_fHome, y_fOps, y_fVals, y_fNew, y_out⟩ := v
    obtain ⟨⟨⟨a1, a2, a3, a4, a5, a6, a7, a8, a9, a10, a11, a12, a13, a14, a15, a16, a17, a18, a19, a20, a21, anu, a23, a24, a25, a26, a27⟩, E, O, va, l0, C, KK, qf⟩, w1, w2, w3, w4, w5, w6⟩ := hv
    (have a1 := a1.symm; have a2 := a2.symm; have a3 := a3.symm; have a4 := a4.symm; have a5 := a5.symm; have a6 := a6.symm; have a7 := a7.symm; have a8 := a8.symm; have a9 := a9.symm; have a10 := a10.symm; have a11 := a11.symm; have a12 := a12.symm; have a13 := a13.symm; have a14 := a14.symm; have a15 := a15.symm; have a16 := a16.symm; have a17 := a17.symm; have a18 := a18.symm; have a19 := a19.symm; have a20 := a20.symm; have a21 := a21.symm; have a23 := a23.symm; have a24 := a24.symm; have a25 := a25.symm; have a26 := a26.symm; have a27 := a27.symm; subst a1 a2 a3 a4 a5 a6 a7 a8 a9 a10 a11 a12 a13 a14 a15 a16 a17 a18 a19 a20 a21 a23 a24 a25 a26 a27)
    subst w1 w2 w3 w5
    have etg := w4.1 hk
    rw [hf] at etg
    subst etg
    obtain ⟨q1, q2, q3⟩ := HH p p1 (by omega)
    have pl := (hs_yPlt t6 p1 (by omega)).1
    refine hs_yFin0 d6 qf (va (vt - 1) (by omega)) vv (by omega) (by omega) ?_
    unfold wY_finish_59
    rw [hk, hst, ev]
    refine br_f (by decide) (br_f (by decide) (br_f (by decide) (br_f (by decide) (br_f (by decide) (br_t (by decide) (hs_yOpener t6 g2 g3 (o := hs_pa ind (ca (fl d)) (fl d)) hs_paOK ?_))))))
    rw [pa, show hs_pI P (some p) = nI (P p) from rfl]
    refine br_f (nI_pos (by omega)) (And.intro (vp_in_nI pl (by decide)) ?_)
    rw [nI_clamp (show P p < 2 ^ 31 by omega), q1, hp1, ec, nI_clamp (show (cn - 1) * 26 + f < 2 ^ 31 by omega)]
    refine br_t rfl (And.intro (vp_in_nI (by omega) (by decide)) (nm_e ?_))
    unfold wY_finish_459
    exact br_t rfl (ge _ ⟨⟨⟨rfl, rfl, rfl, rfl, rfl, rfl, rfl, rfl, rfl, rfl, rfl, rfl, rfl, rfl, rfl, rfl, rfl, rfl, rfl, rfl, rfl, anu, rfl, rfl, rfl, rfl, rfl⟩, hs_EEupd E f26 (Or.inl ⟨rfl, Or.inr (by rw [← ev]; exact vv)⟩), O, fun j hj => va j (by omega), l0, C, KK, qf⟩, rfl, rfl⟩)
  · -- a variable
    have vvb : hs_vv (op (vb d)) := by rw [← ev]; exact vv
    have W' : hs_WX P h lc cn ml (hs_sg (hs_mk1 LT dl d) gl f (op (vb d))) ex at1 ox oc lt := by
      unfold hs_sg
      split
      · exact hs_WXgl W vvb
      · exact W
    have g := hs_tAfter (mg := mg) (pc := pc) (rc := rc) (lp := lp) A G (hs_fI I0 (by omega) W' (Nat.le_refl _) MC (hs_XIsn I0 f26 vvb)) nh lcd rfl hM
    have setn : wpX_setName (fun u => match u with | (x_objectLimitw, x_stepLimitw, x_depthLimitw, x_pendingCountw, x_keptTokensw, x_keptLinesw, x_lineCountw, x_codeCountw, x_cursorw, x_stopw, x_waitingCountw, x_openCountw, x_classCountw, x_callCountw, x_operandCountw, x_stepsTakenw, x_errorw, x_raisedCodew, x_printCountw, x_lastResultw, x_lastPlacew, x_pendingw, x_lineTablew, x_codew, x_waitingw, x_globalsw, x_entriesw, x_ordersw, x_mergingw, x_letterClassw, x_objectClassw, x_attributesw, x_callsw, x_heldw, x_operandsw, x_lastPrintsw) => wX_finishLine_144 (fun u => match u with | (x_objectLimitq, x_stepLimitq, x_depthLimitq, x_pendingCountq, x_keptTokensq, x_keptLinesq, x_lineCountq, x_codeCountq, x_cursorq, x_stopq, x_waitingCountq, x_openCountq, x_classCountq, x_callCountq, x_operandCountq, x_stepsTakenq, x_errorq, x_raisedCodeq, x_printCountq, x_lastResultq, x_lastPlaceq, x_pendingq, x_lineTableq, x_codeq, x_waitingq, x_globalsq, x_entriesq, x_ordersq, x_mergingq, x_letterClassq, x_objectClassq, x_attributesq, x_callsq, x_heldq, x_operandsq, x_lastPrintsq) => hs_lXn post n i (x_objectLimitq, x_stepLimitq, x_depthLimitq, x_pendingCountq, x_keptTokensq, x_keptLinesq, x_lineCountq, x_codeCountq, x_cursorq, x_stopq, x_waitingCountq, x_openCountq, x_classCountq, x_callCountq, x_operandCountq, x_stepsTakenq, x_errorq, x_raisedCodeq, x_printCountq, x_lastResultq, x_lastPlaceq, x_pendingq, x_lineTableq, x_codeq, x_waitingq, x_globalsq, x_entriesq, x_ordersq, x_mergingq, x_letterClassq, x_objectClassq, x_attributesq, x_callsq, x_heldq, x_operandsq, x_lastPrintsq)) (nI (fl d)) x_objectLimitw x_stepLimitw x_depthLimitw x_pendingCountw x_keptTokensw x_keptLinesw x_lineCountw x_codeCountw x_cursorw x_stopw x_waitingCountw x_openCountw x_classCountw x_callCountw x_operandCountw x_stepsTakenw x_errorw x_raisedCodew x_printCountw x_lastResultw x_lastPlacew x_pendingw x_lineTablew x_codew x_waitingw x_globalsw x_entriesw x_ordersw x_mergingw x_letterClassw x_objectClassw x_attributesw x_callsw x_heldw x_operandsw x_lastPrintsw) (nI mo, nI mS, nI mD, x_pendingCount, x_keptTokens, x_keptLines, nI lc, x_codeCount, x_cursor, x_stop, x_waitingCount, x_openCount, nI cn, nI (d + 1), nI (vb d), nI s, 0, rc, pc, x_lastResult, 0, x_pending, LT, cd, x_waiting, gl, ex, ox, mg, lt, oc, at1, CL, HE, op, lp) (nI f) (op (vb d)) := by
      refine hs_xSetName (dl := dl) d6 f26 (fun z => x4 z) (fun z => ⟨(x5 z).1, hdl z⟩) ?_
      unfold wX_finishLine_144
      refine br_t rfl (g i k n hi hk' hn post (fun u' V' ff gg => HP u' V' ff (fun Q hQ m hm v hv => ?_)))
      have ge := gg Q hQ m hm
      clear gg HP g
      have emk := hs_VCmk hv.1
      obtain ⟨y_maxObjects, y_maxSteps, y_maxDepth, y_kept, y_end, y_tokens, y_pending, y_lines, y_classes, y_prints, y_place, y_steps, y_d, y_valTop, y_opTop, y_opens, y_pos, y_tk, y_tv, y_stmt, y_target, y_err, y_code, y_outcome, y_result, y_dry, y_want, y_starting, y_ended, y_bad, y_hosted, y_sawSuper, y_text, y_numbers, y_globals, y_entries, y_attrs, y_classOf, y_alive, y_orders, y_lengths, y_letters, y_bases, y_vals, y_ops, y_locals, y_fRecv, y_fLine, y_fPos, y_fStmt, y_fTarget, y_fMask, y_fHome, y_fOps, y_fVals, y_fNew, y_out⟩ := v
      obtain ⟨⟨⟨a1, a2, a3, a4, a5, a6, a7, a8, a9, a10, a11, a12, a13, a14, a15, a16, a17, a18, a19, a20, a21, anu, a23, a24, a25, a26, a27⟩, E, O, va, l0, C, KK, qf⟩, w1, w2, w3, w4, w5, w6⟩ := hv
      (have a1 := a1.symm; have a2 := a2.symm; have a3 := a3.symm; have a4 := a4.symm; have a5 := a5.symm; have a6 := a6.symm; have a7 := a7.symm; have a8 := a8.symm; have a9 := a9.symm; have a10 := a10.symm; have a11 := a11.symm; have a12 := a12.symm; have a13 := a13.symm; have a14 := a14.symm; have a15 := a15.symm; have a16 := a16.symm; have a17 := a17.symm; have a18 := a18.symm; have a19 := a19.symm; have a20 := a20.symm; have a21 := a21.symm; have a23 := a23.symm; have a24 := a24.symm; have a25 := a25.symm; have a26 := a26.symm; have a27 := a27.symm; subst a1 a2 a3 a4 a5 a6 a7 a8 a9 a10 a11 a12 a13 a14 a15 a16 a17 a18 a19 a20 a21 a23 a24 a25 a26 a27)
      subst w1 w2 w3 w5
      have etg := w4.1 hk
      rw [hf] at etg
      subst etg
      have f329 : wY_finish_329 (fun u => match u with | (y_maxObjectsw, y_maxStepsw, y_maxDepthw, y_keptw, y_endw, y_tokensw, y_pendingw, y_linesw, y_classesw, y_printsw, y_placew, y_stepsw, y_dw, y_valTopw, y_opTopw, y_opensw, y_posw, y_tkw, y_tvw, y_stmtw, y_targetw, y_errw, y_codew, y_outcomew, y_resultw, y_dryw, y_wantw, y_startingw, y_endedw, y_badw, y_hostedw, y_sawSuperw, y_textw, y_numbersw, y_globalsw, y_entriesw, y_attrsw, y_classOfw, y_alivew, y_ordersw, y_lengthsw, y_lettersw, y_basesw, y_valsw, y_opsw, y_localsw, y_fRecvw, y_fLinew, y_fPosw, y_fStmtw, y_fTargetw, y_fMaskw, y_fHomew, y_fOpsw, y_fValsw, y_fNeww, y_outw) => hs_ykk Q m (nI k) (y_maxObjectsw, y_maxStepsw, y_maxDepthw, y_keptw, y_endw, y_tokensw, y_pendingw, y_linesw, y_classesw, y_printsw, y_placew, y_stepsw, y_dw, y_valTopw, y_opTopw, y_opensw, y_posw, y_tkw, y_tvw, y_stmtw, y_targetw, y_errw, y_codew, y_outcomew, y_resultw, y_dryw, y_wantw, y_startingw, y_endedw, y_badw, y_hostedw, y_sawSuperw, y_textw, y_numbersw, y_globalsw, y_entriesw, y_attrsw, y_classOfw, y_alivew, y_ordersw, y_lengthsw, y_lettersw, y_basesw, y_valsw, y_opsw, y_localsw, y_fRecvw, y_fLinew, y_fPosw, y_fStmtw, y_fTargetw, y_fMaskw, y_fHomew, y_fOpsw, y_fValsw, y_fNeww, y_outw)) (nI (P (fl d))) (op (vb d)) (nI mo) (nI mS) (nI mD) yk yen yto ype yli (nI cn) pc 0 (nI s) (nI d) (nI (vb d)) (nI (ob d + ([] : List Nat).length)) y_opens y_pos y_tk y_tv (hs_smk 15) (nI f) 0 rc 0 0 0 y_want 0 0 y_bad (hs_b ho) y_sawSuper tx y_numbers gl y_entries at1 oc y_alive y_orders y_lengths lt y_bases y_vals y_ops y_locals y_fRecv y_fLine y_fPos y_fStmt y_fTarget y_fMask y_fHome y_fOps y_fVals y_fNew lp := by
        unfold wY_finish_329
        refine hs_ySetVar d6 emk.1 f26 ?_
        unfold wY_finish_459
        exact br_t rfl (ge _ ⟨⟨⟨rfl, rfl, rfl, rfl, rfl, rfl, rfl, rfl, rfl, rfl, rfl, rfl, rfl, rfl, rfl, rfl, rfl, rfl, rfl, rfl, rfl, anu, rfl, rfl, rfl, rfl, rfl⟩, E, O, fun j hj => va j (by omega), hs_loc0 l0, fun k hk => hs_YCset f26 (C k hk), KK, qf⟩, rfl, rfl⟩)
      refine hs_yFin0 d6 qf (va (vt - 1) (by omega)) vv (by omega) (by omega) ?_
      unfold wY_finish_59
      rw [hk, hst, ev]
      refine br_f (by decide) (br_f (by decide) (br_f (by decide) (br_f (by decide) (br_f (by decide) (br_t (by decide) (hs_yOpener t6 g2 g3 (o := hs_pa ind (ca (fl d)) (fl d)) hs_paOK ?_))))))
      cases pa : hs_pa ind (ca (fl d)) (fl d) with
      | none => exact br_t (show (-1 : Int32) < 0 by decide) f329
      | some p =>
        obtain ⟨p1, p2, p3⟩ := hs_paLt pa
        obtain ⟨q1, q2, q3⟩ := HH p p1 (by omega)
        have pl := (hs_yPlt t6 p1 (by omega)).1
        rw [show hs_pI P (some p) = nI (P p) from rfl]
        refine br_f (nI_pos (by omega)) (And.intro (vp_in_nI pl (by decide)) ?_)
        rw [nI_clamp (show P p < 2 ^ 31 by omega), q1]
        exact pk_eq (h p) 1 (fun z => absurd ⟨p, pa, z⟩ dr) (fun _ => f329)
    cases pa : hs_pa ind (ca (fl d)) (fl d) with
    | none => exact hs_xOfM (c := 0) (br_f (show ¬ (-1 : Int32) = 1 by decide) setn)
    | some p =>
      obtain ⟨p1, p2, p3⟩ := hs_paLt pa
      exact hs_xOf (i := p) (c := 0) (by omega) (br_f (fun z => dr ⟨p, pa, (hs_kdE (IK p p1 (by omega)).2.1 (w := 1) (by decide)).mp z⟩) setn)
theorem hs_fin17 (A : hs_GA tx nu LT cd lc kp cc P ind h tk ca cb us ue yk yen yto ype yli mo mS mD ho x_pendingCount x_keptTokens x_keptLines x_codeCount x_cursor x_stop x_waitingCount x_openCount x_lastResult x_pending x_waiting M) (G : hs_GB tx nu LT cd lc kp cc P ind h tk ca cb us ue yk yen yto ype yli mo mS mD ho x_pendingCount x_keptTokens x_keptLines x_codeCount x_cursor x_stop x_waitingCount x_openCount x_lastResult x_pending x_waiting M) (I : hs_XI tx nu LT cd lc kp cc P ind h tk ca cb us ue mo mS mD s d vt cn ml gl ex at1 ox oc lt HE CL op fl dl vb ob ts st ho) (nh : ¬ (ho = true ∧ d = 0)) (L : hs_XL h ind ca cb lc cn CL ho (fl d) (dl d) d) (hk : LT (fl d * 14) = 17) (hvt : vt = vb d + 1) (hst : st d = []) (hM : 250 * (mS - s) + hs_pot ts st d + 2 ≤ M) :
    hs_Gt (hs_F tx nu LT cd lc P h yk yen yto ype yli mo mS mD x_pendingCount x_keptTokens x_keptLines x_codeCount x_cursor x_stop x_waitingCount x_openCount x_lastResult x_pending x_waiting) M (fun x => wpX_finishLine (fun u => match u with | (x_objectLimitq, x_stepLimitq, x_depthLimitq, x_pendingCountq, x_keptTokensq, x_keptLinesq, x_lineCountq, x_codeCountq, x_cursorq, x_stopq, x_waitingCountq, x_openCountq, x_classCountq, x_callCountq, x_operandCountq, x_stepsTakenq, x_errorq, x_raisedCodeq, x_printCountq, x_lastResultq, x_lastPlaceq, x_pendingq, x_lineTableq, x_codeq, x_waitingq, x_globalsq, x_entriesq, x_ordersq, x_mergingq, x_letterClassq, x_objectClassq, x_attributesq, x_callsq, x_heldq, x_operandsq, x_lastPrintsq) => x (x_objectLimitq, x_stepLimitq, x_depthLimitq, x_pendingCountq, x_keptTokensq, x_keptLinesq, x_lineCountq, x_codeCountq, x_cursorq, x_stopq, x_waitingCountq, x_openCountq, x_classCountq, x_callCountq, x_operandCountq, x_stepsTakenq, x_errorq, x_raisedCodeq, x_printCountq, x_lastResultq, x_lastPlaceq, x_pendingq, x_lineTableq, x_codeq, x_waitingq, x_globalsq, x_entriesq, x_ordersq, x_mergingq, x_letterClassq, x_objectClassq, x_attributesq, x_callsq, x_heldq, x_operandsq, x_lastPrintsq)) (nI mo, nI mS, nI mD, x_pendingCount, x_keptTokens, x_keptLines, nI lc, x_codeCount, x_cursor, x_stop, x_waitingCount, x_openCount, nI cn, nI (d + 1), nI vt, nI s, 0, rc, pc, x_lastResult, 0, x_pending, LT, cd, x_waiting, gl, ex, ox, mg, lt, oc, at1, CL, HE, op, lp) (nI (fl d))) (fun x => ∀ v, hs_VD tx nu LT P h lc yk yen yto ype yli mo mS mD gl ex at1 oc lt lp CL HE op ml cn d vt s pc rc fl dl vb ob ts st ho v → wpY_finish (fun u => match u with | (y_maxObjectsw, y_maxStepsw, y_maxDepthw, y_keptw, y_endw, y_tokensw, y_pendingw, y_linesw, y_classesw, y_printsw, y_placew, y_stepsw, y_dw, y_valTopw, y_opTopw, y_opensw, y_posw, y_tkw, y_tvw, y_stmtw, y_targetw, y_errw, y_codew, y_outcomew, y_resultw, y_dryw, y_wantw, y_startingw, y_endedw, y_badw, y_hostedw, y_sawSuperw, y_textw, y_numbersw, y_globalsw, y_entriesw, y_attrsw, y_classOfw, y_alivew, y_ordersw, y_lengthsw, y_lettersw, y_basesw, y_valsw, y_opsw, y_localsw, y_fRecvw, y_fLinew, y_fPosw, y_fStmtw, y_fTargetw, y_fMaskw, y_fHomew, y_fOpsw, y_fValsw, y_fNeww, y_outw) => x (y_maxObjectsw, y_maxStepsw, y_maxDepthw, y_keptw, y_endw, y_tokensw, y_pendingw, y_linesw, y_classesw, y_printsw, y_placew, y_stepsw, y_dw, y_valTopw, y_opTopw, y_opensw, y_posw, y_tkw, y_tvw, y_stmtw, y_targetw, y_errw, y_codew, y_outcomew, y_resultw, y_dryw, y_wantw, y_startingw, y_endedw, y_badw, y_hostedw, y_sawSuperw, y_textw, y_numbersw, y_globalsw, y_entriesw, y_attrsw, y_classOfw, y_alivew, y_ordersw, y_lengthsw, y_lettersw, y_basesw, y_valsw, y_opsw, y_localsw, y_fRecvw, y_fLinew, y_fPosw, y_fStmtw, y_fTargetw, y_fMaskw, y_fHomew, y_fOpsw, y_fValsw, y_fNeww, y_outw)) v) := by
  have I0 := I
  obtain ⟨d6, s200, m200, l405⟩ := hs_XId I
  obtain ⟨T, ⟨B1, B2, B3, B4, B5, B6⟩, W, MC, OV, H0, XCk, XLk, XSk, HO, v0, o0⟩ := I
  obtain ⟨cL, fd⟩ := L.2.1 nh
  obtain ⟨x1, x2, x3, x4, x5⟩ := XCk d (Nat.le_refl _)
  have ev : vt - 1 = vb d := by omega
  have vv := OV (vt - 1) (by omega)
  have lcd := hs_lcOf nh L
  obtain ⟨t1, t2, t3, t4, t5, t6, t7, t8, t9, t10, t11⟩ := T.2.2.2 (fl d) fd
  obtain ⟨n1, n2, n3, n4, e, c0, n5, n6, n7, n8, n9⟩ := t8
  obtain ⟨f, g, f26, g26, hf, hg⟩ := (hs_LFset n9).2 hk
  have e5 : nI (fl d * 14) + 5 = nI (fl d * 14 + 5) := nI_add _ 5
  have e6 : nI (fl d * 14) + 6 = nI (fl d * 14 + 6) := nI_add _ 6
  have etgt : nI g * 26 + nI f = nI (g * 26 + f) := hs_ixMul g 26 f
  have ed : nI (g * 26 + f) / 26 = nI g := by
    rw [show (26 : Int32) = nI 26 from rfl, pk_div (by omega) (by omega) (by omega)]
    exact congrArg nI (by omega)
  have er : nI (g * 26 + f) - nI (g * 26 + f) / 26 * 26 = nI f := by
    rw [show (26 : Int32) = nI 26 from rfl, pk_rem (by omega) (by omega) (by omega)]
    exact congrArg nI (by omega)
  intro i k n hi hk' hn post HP
  refine nm_r (pk_mul (fl d) 14) ?_
  rw [Int32.add_zero, nI_clamp (show fl d * 14 < 2 ^ 31 by omega)]
  refine And.intro (vp_in_nI (by omega) (by decide)) (nm_r hk (br_f (by decide) (br_t (by decide) ?_)))
  unfold wX_finishLine_139
  show vp_in _ _ ∧ _
  rw [Int32.add_zero, e5, nI_clamp (show fl d * 14 < 2 ^ 31 by omega), nI_clamp (show fl d * 14 + 5 < 2 ^ 31 by omega)]
  refine And.intro (vp_in_nI (by omega) (by decide)) (nm_r hk (And.intro (vp_in_nI (by omega) (by decide)) (nm_r hf (hs_xPop (by omega) (by omega) ?_))))
  refine br_f (by decide) (br_f (by decide) (br_f (by decide) (br_t rfl ?_)))
  rw [e6, nI_clamp (show fl d * 14 + 6 < 2 ^ 31 by omega), hg, ev]
  refine And.intro (vp_in_nI (by omega) (by decide)) ?_
  show vp_in _ _ ∧ _
  rw [nI_clamp (show g < 2 ^ 31 by omega)]
  refine And.intro (vp_in_nI g26 (by decide)) (nm_e ?_)
  rcases W.2.2.2.2.2.2.2.1 g g26 with z | ⟨c, c1, c2⟩
  · rw [z]
    refine br_f (by decide) ?_
    unfold wX_finishLine_144
    have tg := hs_tErr (er := 2) (x14 := nI (vb d)) (mg := mg) (pc := pc) (rc := rc) (lp := lp) A I0 nh L (by omega) (by decide) (by decide) hM
    refine br_f (by decide) (tg i k n hi hk' hn post (fun u' V' ff gg => HP u' V' ff (fun Q hQ m hm v hv => ?_)))
    have ge := gg Q hQ m hm
    clear gg HP tg
    obtain ⟨y_maxObjects, y_maxSteps, y_maxDepth, y_kept, y_end, y_tokens, y_pending, y_lines, y_classes, y_prints, y_place, y_steps, y_d, y_valTop, y_opTop, y_opens, y_pos, y_tk, y_tv, y_stmt, y_target, y_err, y_code, y_outcome, y_result, y_dry, y_want, y_starting, y_ended, y_bad, y_hosted, y_sawSuper, y_text, y_numbers, y_globals, y_entries, y_attrs, y_classOf, y_alive, y_orders, y_lengths, y_letters, y_bases, y_vals, y_ops, y_locals, y_fRecv, y_fLine, y_fPos, y_fStmt, y_fTarget, y_fMask, y_fHome, y_fOps, y_fVals, y_fNew, y_out⟩ := v
    obtain ⟨⟨⟨a1, a2, a3, a4, a5, a6, a7, a8, a9, a10, a11, a12, a13, a14, a15, a16, a17, a18, a19, a20, a21, anu, a23, a24, a25, a26, a27⟩, E, O, va, l0, C, KK, qf⟩, w1, w2, w3, w4, w5, w6⟩ := hv
    (have a1 := a1.symm; have a2 := a2.symm; have a3 := a3.symm; have a4 := a4.symm; have a5 := a5.symm; have a6 := a6.symm; have a7 := a7.symm; have a8 := a8.symm; have a9 := a9.symm; have a10 := a10.symm; have a11 := a11.symm; have a12 := a12.symm; have a13 := a13.symm; have a14 := a14.symm; have a15 := a15.symm; have a16 := a16.symm; have a17 := a17.symm; have a18 := a18.symm; have a19 := a19.symm; have a20 := a20.symm; have a21 := a21.symm; have a23 := a23.symm; have a24 := a24.symm; have a25 := a25.symm; have a26 := a26.symm; have a27 := a27.symm; subst a1 a2 a3 a4 a5 a6 a7 a8 a9 a10 a11 a12 a13 a14 a15 a16 a17 a18 a19 a20 a21 a23 a24 a25 a26 a27)
    subst w1 w2 w3 w5
    have etg := w4.2 hk
    rw [hf, hg, show (26 : Int32) = nI 26 from rfl, pk_mul, nI_add] at etg
    subst etg
    refine hs_yFin0 d6 qf (va (vt - 1) (by omega)) vv (by omega) (by omega) ?_
    unfold wY_finish_59
    rw [hk, ed, nI_clamp (show g < 2 ^ 31 by omega), z]
    refine br_f (by decide) (br_f (by decide) (br_f (by decide) (br_f (by decide) (br_f (by decide) (br_f (by decide) (br_t (by decide) (And.intro (by decide) (And.intro (vp_in_nI g26 (by decide)) (br_f (by decide) ?_)))))))))
    unfold wY_finish_459
    exact br_f (by decide) (ge _ ⟨⟨rfl, rfl, rfl, rfl, rfl, rfl, rfl, rfl, rfl, rfl, rfl, rfl, rfl, rfl, rfl, rfl, rfl, rfl, rfl, rfl, rfl, anu, rfl, rfl, rfl, rfl, rfl⟩, E, O, fun j hj => va j (by omega), l0, C, KK, qf⟩)
  · have c10 := W.1.2
    rw [c2]
    refine br_t (nI_pos' (by omega)) ?_
    by_cases c0' : c = 0
    · subst c0'
      refine br_t rfl ?_
      unfold wX_finishLine_144
      have tg := hs_tErr (er := 3) (x14 := nI (vb d)) (mg := mg) (pc := pc) (rc := rc) (lp := lp) A I0 nh L (by omega) (by decide) (by decide) hM
      refine br_f (by decide) (tg i k n hi hk' hn post (fun u' V' ff gg => HP u' V' ff (fun Q hQ m hm v hv => ?_)))
      have ge := gg Q hQ m hm
      clear gg HP tg
      obtain ⟨y_maxObjects, y_maxSteps, y_maxDepth, y_kept, y_end, y_tokens, y_pending, y_lines, y_classes, y_prints, y_place, y_steps, y_d, y_valTop, y_opTop, y_opens, y_pos, y_tk, y_tv, y_stmt, y_target, y_err, y_code, y_outcome, y_result, y_dry, y_want, y_starting, y_ended, y_bad, y_hosted, y_sawSuper, y_text, y_numbers, y_globals, y_entries, y_attrs, y_classOf, y_alive, y_orders, y_lengths, y_letters, y_bases, y_vals, y_ops, y_locals, y_fRecv, y_fLine, y_fPos, y_fStmt, y_fTarget, y_fMask, y_fHome, y_fOps, y_fVals, y_fNew, y_out⟩ := v
      obtain ⟨⟨⟨a1, a2, a3, a4, a5, a6, a7, a8, a9, a10, a11, a12, a13, a14, a15, a16, a17, a18, a19, a20, a21, anu, a23, a24, a25, a26, a27⟩, E, O, va, l0, C, KK, qf⟩, w1, w2, w3, w4, w5, w6⟩ := hv
      (have a1 := a1.symm; have a2 := a2.symm; have a3 := a3.symm; have a4 := a4.symm; have a5 := a5.symm; have a6 := a6.symm; have a7 := a7.symm; have a8 := a8.symm; have a9 := a9.symm; have a10 := a10.symm; have a11 := a11.symm; have a12 := a12.symm; have a13 := a13.symm; have a14 := a14.symm; have a15 := a15.symm; have a16 := a16.symm; have a17 := a17.symm; have a18 := a18.symm; have a19 := a19.symm; have a20 := a20.symm; have a21 := a21.symm; have a23 := a23.symm; have a24 := a24.symm; have a25 := a25.symm; have a26 := a26.symm; have a27 := a27.symm; subst a1 a2 a3 a4 a5 a6 a7 a8 a9 a10 a11 a12 a13 a14 a15 a16 a17 a18 a19 a20 a21 a23 a24 a25 a26 a27)
      subst w1 w2 w3 w5
      have etg := w4.2 hk
      rw [hf, hg, show (26 : Int32) = nI 26 from rfl, pk_mul, nI_add] at etg
      subst etg
      refine hs_yFin0 d6 qf (va (vt - 1) (by omega)) vv (by omega) (by omega) ?_
      unfold wY_finish_59
      rw [hk, ed, nI_clamp (show g < 2 ^ 31 by omega), c2]
      refine br_f (by decide) (br_f (by decide) (br_f (by decide) (br_f (by decide) (br_f (by decide) (br_f (by decide) (br_t (by decide) (And.intro (by decide) (And.intro (vp_in_nI g26 (by decide)) (br_t (by decide) (And.intro (by decide) (And.intro (vp_in_nI g26 (by decide)) (br_t rfl ?_))))))))))))
      unfold wY_finish_459
      exact br_f (by decide) (ge _ ⟨⟨rfl, rfl, rfl, rfl, rfl, rfl, rfl, rfl, rfl, rfl, rfl, rfl, rfl, rfl, rfl, rfl, rfl, rfl, rfl, rfl, rfl, anu, rfl, rfl, rfl, rfl, rfl⟩, E, O, fun j hj => va j (by omega), l0, C, KK, qf⟩)
    · have ec : nI c * 26 + nI f = nI (c * 26 + f) := hs_ixMul c 26 f
      have nz : ¬ nI c = 0 := fun y => c0' ((nI_eq (a := c) (b := 0) (by omega) (by omega)).mp y)
      have W' : hs_WX P h lc cn ml gl (vp_updL ex (c * 26 + f) (op (vb d))) at1 ox oc lt := hs_WXent W (by omega) f26 (Or.inl (Or.inr (by rw [← ev]; exact vv)))
      have tg := hs_tAfter (mg := mg) (pc := pc) (rc := rc) (lp := lp) A G (hs_fI I0 (by omega) W' (Nat.le_refl _) MC (hs_XIh I0)) nh lcd rfl hM
      refine br_f nz ?_
      rw [ec, nI_clamp (show c * 26 + f < 2 ^ 31 by omega)]
      refine And.intro (vp_in_nI (by omega) (by decide)) (nm_e ?_)
      unfold wX_finishLine_144
      refine br_t rfl (tg i k n hi hk' hn post (fun u' V' ff gg => HP u' V' ff (fun Q hQ m hm v hv => ?_)))
      have ge := gg Q hQ m hm
      clear gg HP tg
      obtain ⟨y_maxObjects, y_maxSteps, y_maxDepth, y_kept, y_end, y_tokens, y_pending, y_lines, y_classes, y_prints, y_place, y_steps, y_d, y_valTop, y_opTop, y_opens, y_pos, y_tk, y_tv, y_stmt, y_target, y_err, y_code, y_outcome, y_result, y_dry, y_want, y_starting, y_ended, y_bad, y_hosted, y_sawSuper, y_text, y_numbers, y_globals, y_entries, y_attrs, y_classOf, y_alive, y_orders, y_lengths, y_letters, y_bases, y_vals, y_ops, y_locals, y_fRecv, y_fLine, y_fPos, y_fStmt, y_fTarget, y_fMask, y_fHome, y_fOps, y_fVals, y_fNew, y_out⟩ := v
      obtain ⟨⟨⟨a1, a2, a3, a4, a5, a6, a7, a8, a9, a10, a11, a12, a13, a14, a15, a16, a17, a18, a19, a20, a21, anu, a23, a24, a25, a26, a27⟩, E, O, va, l0, C, KK, qf⟩, w1, w2, w3, w4, w5, w6⟩ := hv
      (have a1 := a1.symm; have a2 := a2.symm; have a3 := a3.symm; have a4 := a4.symm; have a5 := a5.symm; have a6 := a6.symm; have a7 := a7.symm; have a8 := a8.symm; have a9 := a9.symm; have a10 := a10.symm; have a11 := a11.symm; have a12 := a12.symm; have a13 := a13.symm; have a14 := a14.symm; have a15 := a15.symm; have a16 := a16.symm; have a17 := a17.symm; have a18 := a18.symm; have a19 := a19.symm; have a20 := a20.symm; have a21 := a21.symm; have a23 := a23.symm; have a24 := a24.symm; have a25 := a25.symm; have a26 := a26.symm; have a27 := a27.symm; subst a1 a2 a3 a4 a5 a6 a7 a8 a9 a10 a11 a12 a13 a14 a15 a16 a17 a18 a19 a20 a21 a23 a24 a25 a26 a27)
      subst w1 w2 w3 w5
      have etg := w4.2 hk
      rw [hf, hg, show (26 : Int32) = nI 26 from rfl, pk_mul, nI_add] at etg
      subst etg
      refine hs_yFin0 d6 qf (va (vt - 1) (by omega)) vv (by omega) (by omega) ?_
      unfold wY_finish_59
      rw [hk, er, ed, nI_clamp (show g < 2 ^ 31 by omega), c2, ec, nI_clamp (show c * 26 + f < 2 ^ 31 by omega), hst, ev]
      refine br_f (by decide) (br_f (by decide) (br_f (by decide) (br_f (by decide) (br_f (by decide) (br_f (by decide) (br_t (by decide) (And.intro (by decide) (And.intro (vp_in_nI g26 (by decide)) (br_t (nI_pos' (by omega)) (And.intro (by decide) (And.intro (vp_in_nI g26 (by decide)) (br_f nz (And.intro (by decide) (And.intro (vp_in_nI g26 (by decide)) (And.intro (by decide) (And.intro (vp_in_nI (by omega) (by decide)) (nm_e ?_)))))))))))))))))
      unfold wY_finish_459
      exact br_t rfl (ge _ ⟨⟨⟨rfl, rfl, rfl, rfl, rfl, rfl, rfl, rfl, rfl, rfl, rfl, rfl, rfl, rfl, rfl, rfl, rfl, rfl, rfl, rfl, rfl, anu, rfl, rfl, rfl, rfl, rfl⟩, hs_EEupd E f26 (Or.inl ⟨rfl, Or.inr (by rw [← ev]; exact vv)⟩), O, fun j hj => va j (by omega), l0, C, KK, qf⟩, rfl, rfl⟩)
end
