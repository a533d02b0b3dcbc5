/-! a line's expressions are done -/
section
variable {x_objectLimit x_stepLimit x_depthLimit x_pendingCount x_keptTokens x_keptLines x_lineCount x_codeCount x_cursor x_stop x_waitingCount x_openCount x_classCount x_callCount x_operandCount x_stepsTaken x_error x_raisedCode x_printCount x_lastPlace : Int32} {x_lastResult : Int64} {x_pending x_lineTable x_orders x_merging x_letterClass x_objectClass x_calls x_lastPrints : Nat → Int32} {x_code x_waiting x_globals x_entries x_attributes x_held x_operands : Nat → Int64}
variable {y_maxObjects y_maxSteps y_maxDepth y_kept y_end y_tokens y_pending y_lines y_classes y_prints y_place y_steps y_d y_valTop y_opTop y_opens y_pos y_tk y_tv y_stmt y_target y_err y_code y_outcome y_dry y_want y_starting y_ended y_bad y_hosted y_sawSuper : Int32} {y_result : Int64} {y_text y_numbers y_classOf y_alive y_orders y_lengths y_letters y_bases y_ops y_fLine y_fPos y_fStmt y_fTarget y_fMask y_fHome y_fOps y_fVals y_fNew y_out : Nat → Int32} {y_globals y_entries y_attrs y_vals y_locals y_fRecv : Nat → Int64}
variable {tx nu LT : Nat → Int32} {cd : Nat → Int64} {lc kp cc : Nat} {P ind h : Nat → Nat} {tk : Nat → List Nat} {ca cb us ue : Nat → Nat} {yk yen yto ype yli : Int32} {mo mS mD : Nat} {ho : Bool}
variable {s d vt cn : Nat} {ml : Nat → List Nat} {gl ex at1 HE op : Nat → Int64} {ox oc lt lp CL mg : Nat → Int32} {pc rc : Int32} {fl dl vb ob : Nat → Nat} {ts st : Nat → List Nat} {M : Nat}
def hs_tv (v : Int64) : Int32 := if v = 4294967296 ∨ v = 8589934592 then 0 else 1
theorem hs_yFin0 {v : Int64} {va : Nat → Int64} {fLi : Nat → Int32} {l : Nat} (d6 : d ≤ 6) (hf : fLi d = nI (P l)) (hva : va (vt - 1) = v) (hv : hs_vv v) (h1 : 1 ≤ vt) (h2 : vt ≤ 320) {post : SY → Prop} (H : wY_finish_59 post (nI (P l)) v (hs_tv v) y_maxObjects y_maxSteps y_maxDepth y_kept y_end y_tokens y_pending y_lines y_classes y_prints y_place y_steps (nI d) (nI (vt - 1)) y_opTop y_opens y_pos y_tk y_tv y_stmt y_target y_err y_code y_outcome y_result y_dry y_want y_starting y_ended y_bad y_hosted y_sawSuper y_text y_numbers y_globals y_entries y_attrs y_classOf y_alive y_orders y_lengths y_letters y_bases va y_ops y_locals y_fRecv fLi y_fPos y_fStmt y_fTarget y_fMask y_fHome y_fOps y_fVals y_fNew y_out) : wpY_finish post (y_maxObjects, y_maxSteps, y_maxDepth, y_kept, y_end, y_tokens, y_pending, y_lines, y_classes, y_prints, y_place, y_steps, nI d, nI vt, y_opTop, y_opens, y_pos, y_tk, y_tv, y_stmt, y_target, y_err, y_code, y_outcome, y_result, y_dry, y_want, y_starting, y_ended, y_bad, y_hosted, y_sawSuper, y_text, y_numbers, y_globals, y_entries, y_attrs, y_classOf, y_alive, y_orders, y_lengths, y_letters, y_bases, va, y_ops, y_locals, y_fRecv, fLi, y_fPos, y_fStmt, y_fTarget, y_fMask, y_fHome, y_fOps, y_fVals, y_fNew, y_out) := by
  have ev : nI vt - 1 = nI (vt - 1) := pk_sub (b := 1) h1
  refine And.intro (vp_in_nI (by omega) (by decide)) ?_
  rw [nI_clamp (show d < 2 ^ 31 by omega), ev, nI_clamp (show vt - 1 < 2 ^ 31 by omega)]
  refine nm_r hf (nm_e (And.intro (vp_in_nI (by omega) (by decide)) (nm_r hva ?_)))
  rcases hs_vvO hv with ⟨o, ho⟩ | ho
  · have e : hs_tv v = 1 := by
      refine if_neg (fun z => ?_)
      rw [ho.2] at z
      have o8 := ho.1
      rcases z with z | z
      · have := (pk_lEQ (a := 12884901888 + o) (b := 4294967296) (by omega) (by omega)).mp z; omega
      · have := (pk_lEQ (a := 12884901888 + o) (b := 8589934592) (by omega) (by omega)).mp z; omega
    rw [e] at H
    refine br_t (hs_ykO ho) ?_
    unfold wY_finish_54
    exact H
  · refine br_f (hs_ykNO ho) ?_
    rcases hs_vvI hv with ⟨a, ha⟩ | ha
    · subst ha
      refine br_t hs_ykI ?_
      rw [hs_intLow]
      refine br_c (fun z => ?_) (fun z => ?_)
      · have e : hs_tv (hs_int a) = 0 := if_pos (Or.inr (by rw [z]; decide))
        rw [e] at H
        unfold wY_finish_58
        exact H
      · have e : hs_tv (hs_int a) = 1 := by
          refine if_neg (fun y => ?_)
          rcases y with y | y
          · have := hs_ykI (a := a)
            rw [y] at this
            exact absurd this (by decide)
          · have y2 := congrArg Int64.toInt32 y
            rw [hs_intLow] at y2
            exact z (y2.trans (by decide))
        rw [e] at H
        unfold wY_finish_54
        exact H
    · have e : hs_tv v = 0 := by
        refine if_pos ?_
        obtain ⟨m, m1, m2⟩ := hv
        obtain ⟨m', n1, n2, n3⟩ := ha
        obtain ⟨m3, k1, k2, k3⟩ := ho
        have q1 : m = m' := (pk_lEQ (by omega) (by omega)).mp (m1.symm.trans n1)
        have q2 : m = m3 := (pk_lEQ (by omega) (by omega)).mp (m1.symm.trans k1)
        subst q1 q2
        left
        rw [m1]
        have : m = 4294967296 := by omega
        rw [this]; rfl
      rw [e] at H
      refine br_f (hs_ykNI ha) ?_
      unfold wY_finish_58
      exact H
theorem hs_inD {a b l : Nat} (K : hs_ck h ind tk a b) : ∀ (n l : Nat), ind l < n → a ≤ l → l < b → hs_in h ind a 2 9 l = true → ∃ dx, hs_D h ind a l = some dx
  | 0, _, z, _, _, _ => by omega
  | n + 1, l, hn, la, lb, e => by
    have i8 := (K.1 l la lb).2
    cases q : hs_pa ind a l with
    | none => rw [hs_in0 q] at e; cases e
    | some p =>
      obtain ⟨p1, p2, p3⟩ := hs_paLt q
      rw [hs_in1 i8 q] at e
      rw [hs_D1 i8 q]
      by_cases z : h p = 2
      · exact ⟨p, if_pos z⟩
      · rw [if_neg z]
        rw [decide_eq_false z, Bool.false_or] at e
        exact hs_inD (l := l) K n p (by omega) p1 (by omega) e
/-- the picture when the line's values are used up -/
theorem hs_fI {cn' : Nat} {ml' : Nat → List Nat} {gl' ex' at1' HE' : Nat → Int64} {ox' oc' lt' : Nat → Int32} (I : hs_XI tx nu LT cd lc kp cc P ind h tk ca cb us ue mo mS mD s d vt cn ml gl ex at1 ox oc lt HE CL op fl dl vb ob ts st ho) (hvb : vb d ≤ vt) (W' : hs_WX P h lc cn' ml' gl' ex' at1' ox' oc' lt') (hcn : cn ≤ cn') (MC' : ∀ c, c < cn' → c ∈ ml' c) (hH : (∀ j, j < 27 → HE' j = 0) ∧ ∀ k, 1 ≤ k → k ≤ d → HE' (k * 27 + 26) = HE (k * 27 + 26) ∧ ∀ j, j < 26 → hs_v0 (HE' (k * 27 + j))) : hs_XI tx nu LT cd lc kp cc P ind h tk ca cb us ue mo mS mD s d (vb d) cn' ml' gl' ex' at1' ox' oc' lt' HE' CL op fl dl vb ob ts st ho := by
  have I0 := I
  obtain ⟨T, ⟨B1, B2, B3, B4, B5, B6⟩, W, MC, OV, H0, XCk, XLk, XSk, HO, v0, o0⟩ := I
  exact hs_XIin I0 (fun _ _ => rfl) (fun _ _ => rfl) (fun _ _ => rfl) (fun _ _ _ => rfl) B6 W' hcn MC' (fun j hj => OV j (by omega)) hH
/-- the world unchanged -/
theorem hs_fI0 (I : hs_XI tx nu LT cd lc kp cc P ind h tk ca cb us ue mo mS mD s d vt cn ml gl ex at1 ox oc lt HE CL op fl dl vb ob ts st ho) (hvb : vb d ≤ vt) : hs_XI tx nu LT cd lc kp cc P ind h tk ca cb us ue mo mS mD s d (vb d) cn ml gl ex at1 ox oc lt HE CL op fl dl vb ob ts st ho := by
  have I0 := I
  obtain ⟨T, B, W, MC, _⟩ := I
  exact hs_fI I0 hvb W (Nat.le_refl _) MC (hs_XIh I0)
theorem hs_fin3 {ans : Int64} (G : hs_GB tx nu LT cd lc kp cc P ind h tk ca cb us ue yk yen yto ype yli mo mS mD ho x_pendingCount x_keptTokens x_keptLines x_codeCount x_cursor x_stop x_waitingCount x_openCount x_lastResult x_pending x_waiting M) (I : hs_XI tx nu LT cd lc kp cc P ind h tk ca cb us ue mo mS mD s d vt cn ml gl ex at1 ox oc lt HE CL op fl dl vb ob ts st ho) (nh : ¬ (ho = true ∧ d = 0)) (L : hs_XL h ind ca cb lc cn CL ho (fl d) (dl d) d) (hk : LT (fl d * 14) = 3) (hvt : vt = vb d + 1) (hM : 250 * (mS - s) + hs_pot ts st d + 2 ≤ M) :
    hs_Gt (hs_F tx nu LT cd lc P h yk yen yto ype yli mo mS mD x_pendingCount x_keptTokens x_keptLines x_codeCount x_cursor x_stop x_waitingCount x_openCount x_lastResult x_pending x_waiting) M (fun x => wpX_finishLine (fun u => match u with | (x_objectLimitq, x_stepLimitq, x_depthLimitq, x_pendingCountq, x_keptTokensq, x_keptLinesq, x_lineCountq, x_codeCountq, x_cursorq, x_stopq, x_waitingCountq, x_openCountq, x_classCountq, x_callCountq, x_operandCountq, x_stepsTakenq, x_errorq, x_raisedCodeq, x_printCountq, x_lastResultq, x_lastPlaceq, x_pendingq, x_lineTableq, x_codeq, x_waitingq, x_globalsq, x_entriesq, x_ordersq, x_mergingq, x_letterClassq, x_objectClassq, x_attributesq, x_callsq, x_heldq, x_operandsq, x_lastPrintsq) => x (x_objectLimitq, x_stepLimitq, x_depthLimitq, x_pendingCountq, x_keptTokensq, x_keptLinesq, x_lineCountq, x_codeCountq, x_cursorq, x_stopq, x_waitingCountq, x_openCountq, x_classCountq, x_callCountq, x_operandCountq, x_stepsTakenq, x_errorq, x_raisedCodeq, x_printCountq, x_lastResultq, x_lastPlaceq, x_pendingq, x_lineTableq, x_codeq, x_waitingq, x_globalsq, x_entriesq, x_ordersq, x_mergingq, x_letterClassq, x_objectClassq, x_attributesq, x_callsq, x_heldq, x_operandsq, x_lastPrintsq)) (nI mo, nI mS, nI mD, x_pendingCount, x_keptTokens, x_keptLines, nI lc, x_codeCount, x_cursor, x_stop, x_waitingCount, x_openCount, nI cn, nI (d + 1), nI vt, nI s, 0, rc, pc, x_lastResult, 0, x_pending, LT, cd, x_waiting, gl, ex, ox, mg, lt, oc, at1, CL, HE, op, lp) (nI (fl d))) (fun x => ∀ v, hs_VD tx nu LT P h lc yk yen yto ype yli mo mS mD gl ex at1 oc lt lp CL HE op ml cn d vt s pc rc fl dl vb ob ts st ho v → wpY_finish (fun u => match u with | (y_maxObjectsw, y_maxStepsw, y_maxDepthw, y_keptw, y_endw, y_tokensw, y_pendingw, y_linesw, y_classesw, y_printsw, y_placew, y_stepsw, y_dw, y_valTopw, y_opTopw, y_opensw, y_posw, y_tkw, y_tvw, y_stmtw, y_targetw, y_errw, y_codew, y_outcomew, y_resultw, y_dryw, y_wantw, y_startingw, y_endedw, y_badw, y_hostedw, y_sawSuperw, y_textw, y_numbersw, y_globalsw, y_entriesw, y_attrsw, y_classOfw, y_alivew, y_ordersw, y_lengthsw, y_lettersw, y_basesw, y_valsw, y_opsw, y_localsw, y_fRecvw, y_fLinew, y_fPosw, y_fStmtw, y_fTargetw, y_fMaskw, y_fHomew, y_fOpsw, y_fValsw, y_fNeww, y_outw) => x (y_maxObjectsw, y_maxStepsw, y_maxDepthw, y_keptw, y_endw, y_tokensw, y_pendingw, y_linesw, y_classesw, y_printsw, y_placew, y_stepsw, y_dw, y_valTopw, y_opTopw, y_opensw, y_posw, y_tkw, y_tvw, y_stmtw, y_targetw, y_errw, y_codew, y_outcomew, y_resultw, y_dryw, y_wantw, y_startingw, y_endedw, y_badw, y_hostedw, y_sawSuperw, y_textw, y_numbersw, y_globalsw, y_entriesw, y_attrsw, y_classOfw, y_alivew, y_ordersw, y_lengthsw, y_lettersw, y_basesw, y_valsw, y_opsw, y_localsw, y_fRecvw, y_fLinew, y_fPosw, y_fStmtw, y_fTargetw, y_fMaskw, y_fHomew, y_fOpsw, y_fValsw, y_fNeww, y_outw)) v) := by
  have I0 := I
  obtain ⟨d6, s200, m200, l405⟩ := hs_XId I
  obtain ⟨T, ⟨B1, B2, B3, B4, B5, B6⟩, W, MC, OV, H0, XCk, XLk, XSk, HO, v0, o0⟩ := I
  obtain ⟨cL, fd⟩ := L.2.1 nh
  obtain ⟨x1, x2, x3, x4, x5⟩ := XCk d (Nat.le_refl _)
  have K := hs_Tck T fd
  obtain ⟨g1, g2, g3, g4, g5⟩ := hs_TE T fd
  have hh : h (fl d) = 3 := (hs_kdE ((hs_TIK T fd) (fl d) g2 g3).2.1 (w := 3) (by decide)).mp hk
  have d1 : 1 ≤ d := by
    rcases Nat.lt_or_ge 0 d with z | z
    · exact z
    · exfalso
      have hf : ho = false := by
        cases ho with
        | false => rfl
        | true => exact absurd ⟨rfl, by omega⟩ nh
      have r := (hs_ckW K g2 g3).2.1 (Or.inl hh)
      obtain ⟨dx, e⟩ := hs_inD (l := 0) K 9 (fl d) (by have := (K.1 (fl d) g2 g3).2; omega) g2 g3 r
      rw [(L.2.2.1 (by omega) hf).2.1] at e; cases e
  obtain ⟨d', rfl⟩ : ∃ d', d = d' + 1 := ⟨d - 1, by omega⟩
  have g := hs_tLeave (x14 := nI (vt - 1)) (mg := mg) (pc := pc) (rc := rc) (lp := lp) G I0 (by omega) (OV (vt - 1) (by omega)) (by omega) (by omega)
  intro i k n hi hk' hn post HP
  refine nm_r (pk_mul (fl (d' + 1)) 14) ?_
  rw [Int32.add_zero, nI_clamp (show fl (d' + 1) * 14 < 2 ^ 31 by omega)]
  refine And.intro (vp_in_nI (by omega) (by decide)) (nm_r hk (br_f (by decide) (br_f (by decide) (br_f (by decide) (br_f (by decide) (br_t rfl (hs_xPop (by omega) (by omega) ?_)))))))
  refine g i k n hi hk' hn post (fun u' V' f gg => HP u' V' f (fun Q hQ m hm v hv => ?_))
  have ge := gg Q hQ m hm
  clear gg HP g
  obtain ⟨y_maxObjects, y_maxSteps, y_maxDepth, y_kept, y_end, y_tokens, y_pending, y_lines, y_classes, y_prints, y_place, y_steps, y_d, y_valTop, y_opTop, y_opens, y_pos, y_tk, y_tv, y_stmt, y_target, y_err, y_code, y_outcome, y_result, y_dry, y_want, y_starting, y_ended, y_bad, y_hosted, y_sawSuper, y_text, y_numbers, y_globals, y_entries, y_attrs, y_classOf, y_alive, y_orders, y_lengths, y_letters, y_bases, y_vals, y_ops, y_locals, y_fRecv, y_fLine, y_fPos, y_fStmt, y_fTarget, y_fMask, y_fHome, y_fOps, y_fVals, y_fNew, y_out⟩ := v
  obtain ⟨⟨⟨a1, a2, a3, a4, a5, a6, a7, a8, a9, a10, a11, a12, a13, a14, a15, a16, a17, a18, a19, a20, a21, anu, a23, a24, a25, a26, a27⟩, E, O, va, l0, C, KK, qf⟩, w1, w2, w3, w4, w5, w6⟩ := hv
  (have a1 := a1.symm; have a2 := a2.symm; have a3 := a3.symm; have a4 := a4.symm; have a5 := a5.symm; have a6 := a6.symm; have a7 := a7.symm; have a8 := a8.symm; have a9 := a9.symm; have a10 := a10.symm; have a11 := a11.symm; have a12 := a12.symm; have a13 := a13.symm; have a14 := a14.symm; have a15 := a15.symm; have a16 := a16.symm; have a17 := a17.symm; have a18 := a18.symm; have a19 := a19.symm; have a20 := a20.symm; have a21 := a21.symm; have a23 := a23.symm; have a24 := a24.symm; have a25 := a25.symm; have a26 := a26.symm; have a27 := a27.symm; subst a1 a2 a3 a4 a5 a6 a7 a8 a9 a10 a11 a12 a13 a14 a15 a16 a17 a18 a19 a20 a21 a23 a24 a25 a26 a27)
  subst w1 w2 w3 w5
  refine hs_yFin0 d6 qf (va (vt - 1) (by omega)) (OV (vt - 1) (by omega)) (by omega) (by omega) ?_
  unfold wY_finish_59
  rw [hk]
  exact br_t (by decide) (ge _ (fun _ hu => hu) _ ⟨⟨rfl, rfl, rfl, rfl, rfl, rfl, rfl, rfl, rfl, rfl, rfl, rfl, rfl, rfl, rfl, rfl, rfl, rfl, rfl, rfl, rfl, anu, rfl, rfl, rfl, rfl, rfl⟩, E, O, fun j hj => va j (by omega), l0, C, KK, qf⟩)
theorem hs_fin14 (A : hs_GA tx nu LT cd lc kp cc P ind h tk ca cb us ue yk yen yto ype yli mo mS mD ho x_pendingCount x_keptTokens x_keptLines x_codeCount x_cursor x_stop x_waitingCount x_openCount x_lastResult x_pending x_waiting M) (G : hs_GB tx nu LT cd lc kp cc P ind h tk ca cb us ue yk yen yto ype yli mo mS mD ho x_pendingCount x_keptTokens x_keptLines x_codeCount x_cursor x_stop x_waitingCount x_openCount x_lastResult x_pending x_waiting M) (I : hs_XI tx nu LT cd lc kp cc P ind h tk ca cb us ue mo mS mD s d vt cn ml gl ex at1 ox oc lt HE CL op fl dl vb ob ts st ho) (nh : ¬ (ho = true ∧ d = 0)) (L : hs_XL h ind ca cb lc cn CL ho (fl d) (dl d) d) (hk : LT (fl d * 14) = 14) (hvt : vt = vb d + 1) (hst : st d = []) (hM : 250 * (mS - s) + hs_pot ts st d + 2 ≤ M) :
    hs_Gt (hs_F tx nu LT cd lc P h yk yen yto ype yli mo mS mD x_pendingCount x_keptTokens x_keptLines x_codeCount x_cursor x_stop x_waitingCount x_openCount x_lastResult x_pending x_waiting) M (fun x => wpX_finishLine (fun u => match u with | (x_objectLimitq, x_stepLimitq, x_depthLimitq, x_pendingCountq, x_keptTokensq, x_keptLinesq, x_lineCountq, x_codeCountq, x_cursorq, x_stopq, x_waitingCountq, x_openCountq, x_classCountq, x_callCountq, x_operandCountq, x_stepsTakenq, x_errorq, x_raisedCodeq, x_printCountq, x_lastResultq, x_lastPlaceq, x_pendingq, x_lineTableq, x_codeq, x_waitingq, x_globalsq, x_entriesq, x_ordersq, x_mergingq, x_letterClassq, x_objectClassq, x_attributesq, x_callsq, x_heldq, x_operandsq, x_lastPrintsq) => x (x_objectLimitq, x_stepLimitq, x_depthLimitq, x_pendingCountq, x_keptTokensq, x_keptLinesq, x_lineCountq, x_codeCountq, x_cursorq, x_stopq, x_waitingCountq, x_openCountq, x_classCountq, x_callCountq, x_operandCountq, x_stepsTakenq, x_errorq, x_raisedCodeq, x_printCountq, x_lastResultq, x_lastPlaceq, x_pendingq, x_lineTableq, x_codeq, x_waitingq, x_globalsq, x_entriesq, x_ordersq, x_mergingq, x_letterClassq, x_objectClassq, x_attributesq, x_callsq, x_heldq, x_operandsq, x_lastPrintsq)) (nI mo, nI mS, nI mD, x_pendingCount, x_keptTokens, x_keptLines, nI lc, x_codeCount, x_cursor, x_stop, x_waitingCount, x_openCount, nI cn, nI (d + 1), nI vt, nI s, 0, rc, pc, x_lastResult, 0, x_pending, LT, cd, x_waiting, gl, ex, ox, mg, lt, oc, at1, CL, HE, op, lp) (nI (fl d))) (fun x => ∀ v, hs_VD tx nu LT P h lc yk yen yto ype yli mo mS mD gl ex at1 oc lt lp CL HE op ml cn d vt s pc rc fl dl vb ob ts st ho v → wpY_finish (fun u => match u with | (y_maxObjectsw, y_maxStepsw, y_maxDepthw, y_keptw, y_endw, y_tokensw, y_pendingw, y_linesw, y_classesw, y_printsw, y_placew, y_stepsw, y_dw, y_valTopw, y_opTopw, y_opensw, y_posw, y_tkw, y_tvw, y_stmtw, y_targetw, y_errw, y_codew, y_outcomew, y_resultw, y_dryw, y_wantw, y_startingw, y_endedw, y_badw, y_hostedw, y_sawSuperw, y_textw, y_numbersw, y_globalsw, y_entriesw, y_attrsw, y_classOfw, y_alivew, y_ordersw, y_lengthsw, y_lettersw, y_basesw, y_valsw, y_opsw, y_localsw, y_fRecvw, y_fLinew, y_fPosw, y_fStmtw, y_fTargetw, y_fMaskw, y_fHomew, y_fOpsw, y_fValsw, y_fNeww, y_outw) => x (y_maxObjectsw, y_maxStepsw, y_maxDepthw, y_keptw, y_endw, y_tokensw, y_pendingw, y_linesw, y_classesw, y_printsw, y_placew, y_stepsw, y_dw, y_valTopw, y_opTopw, y_opensw, y_posw, y_tkw, y_tvw, y_stmtw, y_targetw, y_errw, y_codew, y_outcomew, y_resultw, y_dryw, y_wantw, y_startingw, y_endedw, y_badw, y_hostedw, y_sawSuperw, y_textw, y_numbersw, y_globalsw, y_entriesw, y_attrsw, y_classOfw, y_alivew, y_ordersw, y_lengthsw, y_lettersw, y_basesw, y_valsw, y_opsw, y_localsw, y_fRecvw, y_fLinew, y_fPosw, y_fStmtw, y_fTargetw, y_fMaskw, y_fHomew, y_fOpsw, y_fValsw, y_fNeww, y_outw)) v) := by
  have I0 := I
  obtain ⟨d6, s200, m200, l405⟩ := hs_XId I
  obtain ⟨T, ⟨B1, B2, B3, B4, B5, B6⟩, W, MC, OV, H0, XCk, XLk, XSk, HO, v0, o0⟩ := I
  obtain ⟨cL, fd⟩ := L.2.1 nh
  obtain ⟨x1, x2, x3, x4, x5⟩ := XCk d (Nat.le_refl _)
  have ev : vt - 1 = vb d := by omega
  have e5 : nI (fl d * 14) + 5 = nI (fl d * 14 + 5) := nI_add _ 5
  have g := hs_tAfter (mg := mg) (pc := pc) (rc := rc) (lp := lp) A G (hs_fI0 I0 (by omega)) nh (hs_lcOf nh L) rfl hM
  intro i k n hi hk' hn post HP
  refine nm_r (pk_mul (fl d) 14) ?_
  rw [Int32.add_zero, nI_clamp (show fl d * 14 < 2 ^ 31 by omega)]
  refine And.intro (vp_in_nI (by omega) (by decide)) (nm_r hk (br_f (by decide) (br_t (by decide) ?_)))
  unfold wX_finishLine_139
  show vp_in _ _ ∧ _
  rw [Int32.add_zero, e5, nI_clamp (show fl d * 14 < 2 ^ 31 by omega), nI_clamp (show fl d * 14 + 5 < 2 ^ 31 by omega)]
  refine And.intro (vp_in_nI (by omega) (by decide)) (nm_r hk (And.intro (vp_in_nI (by omega) (by decide)) (nm_e (hs_xPop (by omega) (by omega) ?_))))
  refine br_f (by decide) (br_f (by decide) (br_f (by decide) (br_f (by decide) (br_f (by decide) ?_))))
  unfold wX_finishLine_144
  rw [ev]
  refine br_t rfl (g i k n hi hk' hn post (fun u' V' f gg => HP u' V' f (fun Q hQ m hm v hv => ?_)))
  have ge := gg Q hQ m hm
  clear gg HP g
  obtain ⟨y_maxObjects, y_maxSteps, y_maxDepth, y_kept, y_end, y_tokens, y_pending, y_lines, y_classes, y_prints, y_place, y_steps, y_d, y_valTop, y_opTop, y_opens, y_pos, y_tk, y_tv, y_stmt, y_target, y_err, y_code, y_outcome, y_result, y_dry, y_want, y_starting, y_ended, y_bad, y_hosted, y_sawSuper, y_text, y_numbers, y_globals, y_entries, y_attrs, y_classOf, y_alive, y_orders, y_lengths, y_letters, y_bases, y_vals, y_ops, y_locals, y_fRecv, y_fLine, y_fPos, y_fStmt, y_fTarget, y_fMask, y_fHome, y_fOps, y_fVals, y_fNew, y_out⟩ := v
  obtain ⟨⟨⟨a1, a2, a3, a4, a5, a6, a7, a8, a9, a10, a11, a12, a13, a14, a15, a16, a17, a18, a19, a20, a21, anu, a23, a24, a25, a26, a27⟩, E, O, va, l0, C, KK, qf⟩, w1, w2, w3, w4, w5, w6⟩ := hv
  (have a1 := a1.symm; have a2 := a2.symm; have a3 := a3.symm; have a4 := a4.symm; have a5 := a5.symm; have a6 := a6.symm; have a7 := a7.symm; have a8 := a8.symm; have a9 := a9.symm; have a10 := a10.symm; have a11 := a11.symm; have a12 := a12.symm; have a13 := a13.symm; have a14 := a14.symm; have a15 := a15.symm; have a16 := a16.symm; have a17 := a17.symm; have a18 := a18.symm; have a19 := a19.symm; have a20 := a20.symm; have a21 := a21.symm; have a23 := a23.symm; have a24 := a24.symm; have a25 := a25.symm; have a26 := a26.symm; have a27 := a27.symm; subst a1 a2 a3 a4 a5 a6 a7 a8 a9 a10 a11 a12 a13 a14 a15 a16 a17 a18 a19 a20 a21 a23 a24 a25 a26 a27)
  subst w1 w2 w3 w5
  obtain ⟨c1, c2, c3, c4⟩ := C d (Nat.le_refl _)
  refine hs_yFin0 d6 qf (va (vt - 1) (by omega)) (OV (vt - 1) (by omega)) (by omega) (by omega) ?_
  unfold wY_finish_59
  rw [hk, hst, ev, nI_clamp (show d < 2 ^ 31 by omega), c2]
  refine br_f (by decide) (br_f (by decide) (br_f (by decide) (br_f (by decide) (br_f (by decide) (br_f (by decide) (br_f (by decide) (And.intro (vp_in_nI (by omega) (by decide)) (br_t (nI_le (Nat.le_refl _) (by omega)) ?_))))))))
  unfold wY_finish_459
  exact br_t rfl (ge _ ⟨⟨⟨rfl, rfl, rfl, rfl, rfl, rfl, rfl, rfl, rfl, rfl, rfl, rfl, rfl, rfl, rfl, rfl, rfl, rfl, rfl, rfl, rfl, anu, rfl, rfl, rfl, rfl, rfl⟩, E, O, fun j hj => va j (by omega), l0, C, KK, qf⟩, rfl, rfl⟩)
theorem hs_fin9 (A : hs_GA tx nu LT cd lc kp cc P ind h tk ca cb us ue yk yen yto ype yli mo mS mD ho x_pendingCount x_keptTokens x_keptLines x_codeCount x_cursor x_stop x_waitingCount x_openCount x_lastResult x_pending x_waiting M) (I : hs_XI tx nu LT cd lc kp cc P ind h tk ca cb us ue mo mS mD s d vt cn ml gl ex at1 ox oc lt HE CL op fl dl vb ob ts st ho) (nh : ¬ (ho = true ∧ d = 0)) (L : hs_XL h ind ca cb lc cn CL ho (fl d) (dl d) d) (hk : LT (fl d * 14) = 9) (hvt : vt = vb d + 1) (hM : 250 * (mS - s) + hs_pot ts st d + 2 ≤ M) :
    hs_Gt (hs_F tx nu LT cd lc P h yk yen yto ype yli mo mS mD x_pendingCount x_keptTokens x_keptLines x_codeCount x_cursor x_stop x_waitingCount x_openCount x_lastResult x_pending x_waiting) M (fun x => wpX_finishLine (fun u => match u with | (x_objectLimitq, x_stepLimitq, x_depthLimitq, x_pendingCountq, x_keptTokensq, x_keptLinesq, x_lineCountq, x_codeCountq, x_cursorq, x_stopq, x_waitingCountq, x_openCountq, x_classCountq, x_callCountq, x_operandCountq, x_stepsTakenq, x_errorq, x_raisedCodeq, x_printCountq, x_lastResultq, x_lastPlaceq, x_pendingq, x_lineTableq, x_codeq, x_waitingq, x_globalsq, x_entriesq, x_ordersq, x_mergingq, x_letterClassq, x_objectClassq, x_attributesq, x_callsq, x_heldq, x_operandsq, x_lastPrintsq) => x (x_objectLimitq, x_stepLimitq, x_depthLimitq, x_pendingCountq, x_keptTokensq, x_keptLinesq, x_lineCountq, x_codeCountq, x_cursorq, x_stopq, x_waitingCountq, x_openCountq, x_classCountq, x_callCountq, x_operandCountq, x_stepsTakenq, x_errorq, x_raisedCodeq, x_printCountq, x_lastResultq, x_lastPlaceq, x_pendingq, x_lineTableq, x_codeq, x_waitingq, x_globalsq, x_entriesq, x_ordersq, x_mergingq, x_letterClassq, x_objectClassq, x_attributesq, x_callsq, x_heldq, x_operandsq, x_lastPrintsq)) (nI mo, nI mS, nI mD, x_pendingCount, x_keptTokens, x_keptLines, nI lc, x_codeCount, x_cursor, x_stop, x_waitingCount, x_openCount, nI cn, nI (d + 1), nI vt, nI s, 0, rc, pc, x_lastResult, 0, x_pending, LT, cd, x_waiting, gl, ex, ox, mg, lt, oc, at1, CL, HE, op, lp) (nI (fl d))) (fun x => ∀ v, hs_VD tx nu LT P h lc yk yen yto ype yli mo mS mD gl ex at1 oc lt lp CL HE op ml cn d vt s pc rc fl dl vb ob ts st ho v → wpY_finish (fun u => match u with | (y_maxObjectsw, y_maxStepsw, y_maxDepthw, y_keptw, y_endw, y_tokensw, y_pendingw, y_linesw, y_classesw, y_printsw, y_placew, y_stepsw, y_dw, y_valTopw, y_opTopw, y_opensw, y_posw, y_tkw, y_tvw, y_stmtw, y_targetw, y_errw, y_codew, y_outcomew, y_resultw, y_dryw, y_wantw, y_startingw, y_endedw, y_badw, y_hostedw, y_sawSuperw, y_textw, y_numbersw, y_globalsw, y_entriesw, y_attrsw, y_classOfw, y_alivew, y_ordersw, y_lengthsw, y_lettersw, y_basesw, y_valsw, y_opsw, y_localsw, y_fRecvw, y_fLinew, y_fPosw, y_fStmtw, y_fTargetw, y_fMaskw, y_fHomew, y_fOpsw, y_fValsw, y_fNeww, y_outw) => x (y_maxObjectsw, y_maxStepsw, y_maxDepthw, y_keptw, y_endw, y_tokensw, y_pendingw, y_linesw, y_classesw, y_printsw, y_placew, y_stepsw, y_dw, y_valTopw, y_opTopw, y_opensw, y_posw, y_tkw, y_tvw, y_stmtw, y_targetw, y_errw, y_codew, y_outcomew, y_resultw, y_dryw, y_wantw, y_startingw, y_endedw, y_badw, y_hostedw, y_sawSuperw, y_textw, y_numbersw, y_globalsw, y_entriesw, y_attrsw, y_classOfw, y_alivew, y_ordersw, y_lengthsw, y_lettersw, y_basesw, y_valsw, y_opsw, y_localsw, y_fRecvw, y_fLinew, y_fPosw, y_fStmtw, y_fTargetw, y_fMaskw, y_fHomew, y_fOpsw, y_fValsw, y_fNeww, y_outw)) v) := by
  have I0 := I
  obtain ⟨d6, s200, m200, l405⟩ := hs_XId I
  obtain ⟨T, ⟨B1, B2, B3, B4, B5, B6⟩, W, MC, OV, H0, XCk, XLk, XSk, HO, v0, o0⟩ := I
  obtain ⟨cL, fd⟩ := L.2.1 nh
  obtain ⟨x1, x2, x3, x4, x5⟩ := XCk d (Nat.le_refl _)
  have e5 : nI (fl d * 14) + 5 = nI (fl d * 14 + 5) := nI_add _ 5
  have vv := OV (vt - 1) (by omega)
  intro i k n hi hk' hn post HP
  refine nm_r (pk_mul (fl d) 14) ?_
  rw [Int32.add_zero, nI_clamp (show fl d * 14 < 2 ^ 31 by omega)]
  refine And.intro (vp_in_nI (by omega) (by decide)) (nm_r hk (br_f (by decide) (br_f (by decide) (br_f (by decide) (br_f (by decide) (br_f (by decide) (br_f (by decide) (br_f (by decide) (br_f (by decide) (br_f (by decide) (br_f (by decide) (br_t rfl ?_))))))))))))
  unfold wX_finishLine_139
  show vp_in _ _ ∧ _
  rw [Int32.add_zero, e5, nI_clamp (show fl d * 14 < 2 ^ 31 by omega), nI_clamp (show fl d * 14 + 5 < 2 ^ 31 by omega)]
  refine And.intro (vp_in_nI (by omega) (by decide)) (nm_r hk (And.intro (vp_in_nI (by omega) (by decide)) (nm_e (hs_xPop (by omega) (by omega) (br_f (by decide) (br_t rfl ?_))))))
  rcases hs_vvI vv with ⟨a, ha⟩ | ha
  · rw [ha]
    refine hs_xkI (br_f (by decide) ?_)
    unfold wX_finishLine_144
    rw [hs_intLow]
    have g := hs_tErr (er := 8) (x14 := nI (vt - 1)) (mg := mg) (pc := pc) (rc := a) (lp := lp) A I0 nh L (by omega) (by decide) (by decide) hM
    refine br_f (by decide) (g i k n hi hk' hn post (fun u' V' f gg => HP u' V' f (fun Q hQ m hm v hv => ?_)))
    have ge := gg Q hQ m hm
    clear gg HP g
    obtain ⟨y_maxObjects, y_maxSteps, y_maxDepth, y_kept, y_end, y_tokens, y_pending, y_lines, y_classes, y_prints, y_place, y_steps, y_d, y_valTop, y_opTop, y_opens, y_pos, y_tk, y_tv, y_stmt, y_target, y_err, y_code, y_outcome, y_result, y_dry, y_want, y_starting, y_ended, y_bad, y_hosted, y_sawSuper, y_text, y_numbers, y_globals, y_entries, y_attrs, y_classOf, y_alive, y_orders, y_lengths, y_letters, y_bases, y_vals, y_ops, y_locals, y_fRecv, y_fLine, y_fPos, y_fStmt, y_fTarget, y_fMask, y_fHome, y_fOps, y_fVals, y_fNew, y_out⟩ := v
    obtain ⟨⟨⟨a1, a2, a3, a4, a5, a6, a7, a8, a9, a10, a11, a12, a13, a14, a15, a16, a17, a18, a19, a20, a21, anu, a23, a24, a25, a26, a27⟩, E, O, va, l0, C, KK, qf⟩, w1, w2, w3, w4, w5, w6⟩ := hv
    (have a1 := a1.symm; have a2 := a2.symm; have a3 := a3.symm; have a4 := a4.symm; have a5 := a5.symm; have a6 := a6.symm; have a7 := a7.symm; have a8 := a8.symm; have a9 := a9.symm; have a10 := a10.symm; have a11 := a11.symm; have a12 := a12.symm; have a13 := a13.symm; have a14 := a14.symm; have a15 := a15.symm; have a16 := a16.symm; have a17 := a17.symm; have a18 := a18.symm; have a19 := a19.symm; have a20 := a20.symm; have a21 := a21.symm; have a23 := a23.symm; have a24 := a24.symm; have a25 := a25.symm; have a26 := a26.symm; have a27 := a27.symm; subst a1 a2 a3 a4 a5 a6 a7 a8 a9 a10 a11 a12 a13 a14 a15 a16 a17 a18 a19 a20 a21 a23 a24 a25 a26 a27)
    subst w1 w2 w3 w5
    refine hs_yFin0 d6 qf ((va (vt - 1) (by omega)).trans ha) (hs_intV a) (by omega) (by omega) ?_
    unfold wY_finish_59
    rw [hk, hs_intLow]
    exact br_f (by decide) (br_f (by decide) (br_f (by decide) (br_t (by decide) (br_t hs_ykI (ge _ ⟨⟨rfl, rfl, rfl, rfl, rfl, rfl, rfl, rfl, rfl, rfl, rfl, rfl, rfl, rfl, rfl, rfl, rfl, rfl, rfl, rfl, rfl, anu, rfl, rfl, rfl, rfl, rfl⟩, E, O, fun j hj => va j (by omega), l0, C, KK, qf⟩)))))
  · refine hs_xkNI ha (br_t rfl ?_)
    unfold wX_finishLine_144
    have g := hs_tErr (er := 3) (x14 := nI (vt - 1)) (mg := mg) (pc := pc) (rc := (op (vt - 1)).toInt32) (lp := lp) A I0 nh L (by omega) (by decide) (by decide) hM
    refine br_f (by decide) (g i k n hi hk' hn post (fun u' V' f gg => HP u' V' f (fun Q hQ m hm v hv => ?_)))
    have ge := gg Q hQ m hm
    clear gg HP g
    obtain ⟨y_maxObjects, y_maxSteps, y_maxDepth, y_kept, y_end, y_tokens, y_pending, y_lines, y_classes, y_prints, y_place, y_steps, y_d, y_valTop, y_opTop, y_opens, y_pos, y_tk, y_tv, y_stmt, y_target, y_err, y_code, y_outcome, y_result, y_dry, y_want, y_starting, y_ended, y_bad, y_hosted, y_sawSuper, y_text, y_numbers, y_globals, y_entries, y_attrs, y_classOf, y_alive, y_orders, y_lengths, y_letters, y_bases, y_vals, y_ops, y_locals, y_fRecv, y_fLine, y_fPos, y_fStmt, y_fTarget, y_fMask, y_fHome, y_fOps, y_fVals, y_fNew, y_out⟩ := v
    obtain ⟨⟨⟨a1, a2, a3, a4, a5, a6, a7, a8, a9, a10, a11, a12, a13, a14, a15, a16, a17, a18, a19, a20, a21, anu, a23, a24, a25, a26, a27⟩, E, O, va, l0, C, KK, qf⟩, w1, w2, w3, w4, w5, w6⟩ := hv
    (have a1 := a1.symm; have a2 := a2.symm; have a3 := a3.symm; have a4 := a4.symm; have a5 := a5.symm; have a6 := a6.symm; have a7 := a7.symm; have a8 := a8.symm; have a9 := a9.symm; have a10 := a10.symm; have a11 := a11.symm; have a12 := a12.symm; have a13 := a13.symm; have a14 := a14.symm; have a15 := a15.symm; have a16 := a16.symm; have a17 := a17.symm; have a18 := a18.symm; have a19 := a19.symm; have a20 := a20.symm; have a21 := a21.symm; have a23 := a23.symm; have a24 := a24.symm; have a25 := a25.symm; have a26 := a26.symm; have a27 := a27.symm; subst a1 a2 a3 a4 a5 a6 a7 a8 a9 a10 a11 a12 a13 a14 a15 a16 a17 a18 a19 a20 a21 a23 a24 a25 a26 a27)
    subst w1 w2 w3 w5
    refine hs_yFin0 d6 qf (va (vt - 1) (by omega)) vv (by omega) (by omega) ?_
    unfold wY_finish_59
    rw [hk]
    exact br_f (by decide) (br_f (by decide) (br_f (by decide) (br_t (by decide) (br_f (hs_ykNI ha) (ge _ ⟨⟨rfl, rfl, rfl, rfl, rfl, rfl, rfl, rfl, rfl, rfl, rfl, rfl, rfl, rfl, rfl, rfl, rfl, rfl, rfl, rfl, rfl, anu, rfl, rfl, rfl, rfl, rfl⟩, E, O, fun j hj => va j (by omega), l0, C, KK, qf⟩)))))
theorem hs_fin11 (A : hs_GA tx nu LT cd lc kp cc P ind h tk ca cb us ue yk yen yto ype yli mo mS mD ho x_pendingCount x_keptTokens x_keptLines x_codeCount x_cursor x_stop x_waitingCount x_openCount x_lastResult x_pending x_waiting M) (G : hs_GB tx nu LT cd lc kp cc P ind h tk ca cb us ue yk yen yto ype yli mo mS mD ho x_pendingCount x_keptTokens x_keptLines x_codeCount x_cursor x_stop x_waitingCount x_openCount x_lastResult x_pending x_waiting M) (I : hs_XI tx nu LT cd lc kp cc P ind h tk ca cb us ue mo mS mD s d vt cn ml gl ex at1 ox oc lt HE CL op fl dl vb ob ts st ho) (nh : ¬ (ho = true ∧ d = 0)) (L : hs_XL h ind ca cb lc cn CL ho (fl d) (dl d) d) (hk : LT (fl d * 14) = 11) (hvt : vt = vb d + 1) (hst : st d = []) (hM : 250 * (mS - s) + hs_pot ts st d + 2 ≤ M) :
    hs_Gt (hs_F tx nu LT cd lc P h yk yen yto ype yli mo mS mD x_pendingCount x_keptTokens x_keptLines x_codeCount x_cursor x_stop x_waitingCount x_openCount x_lastResult x_pending x_waiting) M (fun x => wpX_finishLine (fun u => match u with | (x_objectLimitq, x_stepLimitq, x_depthLimitq, x_pendingCountq, x_keptTokensq, x_keptLinesq, x_lineCountq, x_codeCountq, x_cursorq, x_stopq, x_waitingCountq, x_openCountq, x_classCountq, x_callCountq, x_operandCountq, x_stepsTakenq, x_errorq, x_raisedCodeq, x_printCountq, x_lastResultq, x_lastPlaceq, x_pendingq, x_lineTableq, x_codeq, x_waitingq, x_globalsq, x_entriesq, x_ordersq, x_mergingq, x_letterClassq, x_objectClassq, x_attributesq, x_callsq, x_heldq, x_operandsq, x_lastPrintsq) => x (x_objectLimitq, x_stepLimitq, x_depthLimitq, x_pendingCountq, x_keptTokensq, x_keptLinesq, x_lineCountq, x_codeCountq, x_cursorq, x_stopq, x_waitingCountq, x_openCountq, x_classCountq, x_callCountq, x_operandCountq, x_stepsTakenq, x_errorq, x_raisedCodeq, x_printCountq, x_lastResultq, x_lastPlaceq, x_pendingq, x_lineTableq, x_codeq, x_waitingq, x_globalsq, x_entriesq, x_ordersq, x_mergingq, x_letterClassq, x_objectClassq, x_attributesq, x_callsq, x_heldq, x_operandsq, x_lastPrintsq)) (nI mo, nI mS, nI mD, x_pendingCount, x_keptTokens, x_keptLines, nI lc, x_codeCount, x_cursor, x_stop, x_waitingCount, x_openCount, nI cn, nI (d + 1), nI vt, nI s, 0, rc, pc, x_lastResult, 0, x_pending, LT, cd, x_waiting, gl, ex, ox, mg, lt, oc, at1, CL, HE, op, lp) (nI (fl d))) (fun x => ∀ v, hs_VD tx nu LT P h lc yk yen yto ype yli mo mS mD gl ex at1 oc lt lp CL HE op ml cn d vt s pc rc fl dl vb ob ts st ho v → wpY_finish (fun u => match u with | (y_maxObjectsw, y_maxStepsw, y_maxDepthw, y_keptw, y_endw, y_tokensw, y_pendingw, y_linesw, y_classesw, y_printsw, y_placew, y_stepsw, y_dw, y_valTopw, y_opTopw, y_opensw, y_posw, y_tkw, y_tvw, y_stmtw, y_targetw, y_errw, y_codew, y_outcomew, y_resultw, y_dryw, y_wantw, y_startingw, y_endedw, y_badw, y_hostedw, y_sawSuperw, y_textw, y_numbersw, y_globalsw, y_entriesw, y_attrsw, y_classOfw, y_alivew, y_ordersw, y_lengthsw, y_lettersw, y_basesw, y_valsw, y_opsw, y_localsw, y_fRecvw, y_fLinew, y_fPosw, y_fStmtw, y_fTargetw, y_fMaskw, y_fHomew, y_fOpsw, y_fValsw, y_fNeww, y_outw) => x (y_maxObjectsw, y_maxStepsw, y_maxDepthw, y_keptw, y_endw, y_tokensw, y_pendingw, y_linesw, y_classesw, y_printsw, y_placew, y_stepsw, y_dw, y_valTopw, y_opTopw, y_opensw, y_posw, y_tkw, y_tvw, y_stmtw, y_targetw, y_errw, y_codew, y_outcomew, y_resultw, y_dryw, y_wantw, y_startingw, y_endedw, y_badw, y_hostedw, y_sawSuperw, y_textw, y_numbersw, y_globalsw, y_entriesw, y_attrsw, y_classOfw, y_alivew, y_ordersw, y_lengthsw, y_lettersw, y_basesw, y_valsw, y_opsw, y_localsw, y_fRecvw, y_fLinew, y_fPosw, y_fStmtw, y_fTargetw, y_fMaskw, y_fHomew, y_fOpsw, y_fValsw, y_fNeww, y_outw)) v) := by
  have I0 := I
  obtain ⟨d6, s200, m200, l405⟩ := hs_XId I
  obtain ⟨T, ⟨B1, B2, B3, B4, B5, B6⟩, W, MC, OV, H0, XCk, XLk, XSk, HO, v0, o0⟩ := I
  obtain ⟨cL, fd⟩ := L.2.1 nh
  obtain ⟨x1, x2, x3, x4, x5⟩ := XCk d (Nat.le_refl _)
  have ev : vt - 1 = vb d := by omega
  have e5 : nI (fl d * 14) + 5 = nI (fl d * 14 + 5) := nI_add _ 5
  have vv := OV (vt - 1) (by omega)
  have i15 : vp_in (pc &&& 15) 16 := pk_andIn pc (m := 15) 4 (by decide) (by decide)
  intro i k n hi hk' hn post HP
  refine nm_r (pk_mul (fl d) 14) ?_
  rw [Int32.add_zero, nI_clamp (show fl d * 14 < 2 ^ 31 by omega)]
  refine And.intro (vp_in_nI (by omega) (by decide)) (nm_r hk (br_f (by decide) (br_t (by decide) ?_)))
  unfold wX_finishLine_139
  show vp_in _ _ ∧ _
  rw [Int32.add_zero, e5, nI_clamp (show fl d * 14 < 2 ^ 31 by omega), nI_clamp (show fl d * 14 + 5 < 2 ^ 31 by omega)]
  refine And.intro (vp_in_nI (by omega) (by decide)) (nm_r hk (And.intro (vp_in_nI (by omega) (by decide)) (nm_e (hs_xPop (by omega) (by omega) (br_t rfl ?_)))))
  unfold wpX_print
  rcases hs_vvI vv with ⟨a, ha⟩ | ha
  · rw [ha]
    refine hs_xkI (br_f (by decide) (And.intro i15 (nm_e (nm_e ?_))))
    unfold wX_finishLine_144
    rw [hs_intLow, ev]
    have g := hs_tAfter (mg := mg) (pc := pc + 1) (rc := rc) (lp := upd lp (pc &&& 15).toNatClampNeg a) A G (hs_fI0 I0 (by omega)) nh (hs_lcOf nh L) rfl hM
    refine br_t rfl (g i k n hi hk' hn post (fun u' V' f gg => HP u' V' f (fun Q hQ m hm v hv => ?_)))
    have ge := gg Q hQ m hm
    clear gg HP g
    obtain ⟨y_maxObjects, y_maxSteps, y_maxDepth, y_kept, y_end, y_tokens, y_pending, y_lines, y_classes, y_prints, y_place, y_steps, y_d, y_valTop, y_opTop, y_opens, y_pos, y_tk, y_tv, y_stmt, y_target, y_err, y_code, y_outcome, y_result, y_dry, y_want, y_starting, y_ended, y_bad, y_hosted, y_sawSuper, y_text, y_numbers, y_globals, y_entries, y_attrs, y_classOf, y_alive, y_orders, y_lengths, y_letters, y_bases, y_vals, y_ops, y_locals, y_fRecv, y_fLine, y_fPos, y_fStmt, y_fTarget, y_fMask, y_fHome, y_fOps, y_fVals, y_fNew, y_out⟩ := v
    obtain ⟨⟨⟨a1, a2, a3, a4, a5, a6, a7, a8, a9, a10, a11, a12, a13, a14, a15, a16, a17, a18, a19, a20, a21, anu, a23, a24, a25, a26, a27⟩, E, O, va, l0, C, KK, qf⟩, w1, w2, w3, w4, w5, w6⟩ := hv
    (have a1 := a1.symm; have a2 := a2.symm; have a3 := a3.symm; have a4 := a4.symm; have a5 := a5.symm; have a6 := a6.symm; have a7 := a7.symm; have a8 := a8.symm; have a9 := a9.symm; have a10 := a10.symm; have a11 := a11.symm; have a12 := a12.symm; have a13 := a13.symm; have a14 := a14.symm; have a15 := a15.symm; have a16 := a16.symm; have a17 := a17.symm; have a18 := a18.symm; have a19 := a19.symm; have a20 := a20.symm; have a21 := a21.symm; have a23 := a23.symm; have a24 := a24.symm; have a25 := a25.symm; have a26 := a26.symm; have a27 := a27.symm; subst a1 a2 a3 a4 a5 a6 a7 a8 a9 a10 a11 a12 a13 a14 a15 a16 a17 a18 a19 a20 a21 a23 a24 a25 a26 a27)
    subst w1 w2 w3 w5
    refine hs_yFin0 d6 qf ((va (vt - 1) (by omega)).trans ha) (hs_intV a) (by omega) (by omega) ?_
    unfold wY_finish_59
    rw [hk, hst, ev, hs_intLow]
    refine br_f (by decide) (br_f (by decide) (br_f (by decide) (br_f (by decide) (br_t (by decide) (br_t hs_ykI (nm_e (And.intro i15 (nm_e ?_))))))))
    unfold wY_finish_459
    exact br_t rfl (ge _ ⟨⟨⟨rfl, rfl, rfl, rfl, rfl, rfl, rfl, rfl, rfl, rfl, rfl, rfl, rfl, rfl, rfl, rfl, rfl, rfl, rfl, rfl, rfl, anu, rfl, rfl, rfl, rfl, rfl⟩, E, O, fun j hj => va j (by omega), l0, C, KK, qf⟩, rfl, rfl⟩)
  · refine hs_xkNI ha (br_t rfl ?_)
    unfold wX_finishLine_144
    have g := hs_tErr (er := 3) (x14 := nI (vt - 1)) (mg := mg) (pc := pc) (rc := rc) (lp := lp) A I0 nh L (by omega) (by decide) (by decide) hM
    refine br_f (by decide) (g i k n hi hk' hn post (fun u' V' f gg => HP u' V' f (fun Q hQ m hm v hv => ?_)))
    have ge := gg Q hQ m hm
    clear gg HP g
    obtain ⟨y_maxObjects, y_maxSteps, y_maxDepth, y_kept, y_end, y_tokens, y_pending, y_lines, y_classes, y_prints, y_place, y_steps, y_d, y_valTop, y_opTop, y_opens, y_pos, y_tk, y_tv, y_stmt, y_target, y_err, y_code, y_outcome, y_result, y_dry, y_want, y_starting, y_ended, y_bad, y_hosted, y_sawSuper, y_text, y_numbers, y_globals, y_entries, y_attrs, y_classOf, y_alive, y_orders, y_lengths, y_letters, y_bases, y_vals, y_ops, y_locals, y_fRecv, y_fLine, y_fPos, y_fStmt, y_fTarget, y_fMask, y_fHome, y_fOps, y_fVals, y_fNew, y_out⟩ := v
    obtain ⟨⟨⟨a1, a2, a3, a4, a5, a6, a7, a8, a9, a10, a11, a12, a13, a14, a15, a16, a17, a18, a19, a20, a21, anu, a23, a24, a25, a26, a27⟩, E, O, va, l0, C, KK, qf⟩, w1, w2, w3, w4, w5, w6⟩ := hv
    (have a1 := a1.symm; have a2 := a2.symm; have a3 := a3.symm; have a4 := a4.symm; have a5 := a5.symm; have a6 := a6.symm; have a7 := a7.symm; have a8 := a8.symm; have a9 := a9.symm; have a10 := a10.symm; have a11 := a11.symm; have a12 := a12.symm; have a13 := a13.symm; have a14 := a14.symm; have a15 := a15.symm; have a16 := a16.symm; have a17 := a17.symm; have a18 := a18.symm; have a19 := a19.symm; have a20 := a20.symm; have a21 := a21.symm; have a23 := a23.symm; have a24 := a24.symm; have a25 := a25.symm; have a26 := a26.symm; have a27 := a27.symm; subst a1 a2 a3 a4 a5 a6 a7 a8 a9 a10 a11 a12 a13 a14 a15 a16 a17 a18 a19 a20 a21 a23 a24 a25 a26 a27)
    subst w1 w2 w3 w5
    refine hs_yFin0 d6 qf (va (vt - 1) (by omega)) vv (by omega) (by omega) ?_
    unfold wY_finish_59
    rw [hk]
    refine br_f (by decide) (br_f (by decide) (br_f (by decide) (br_f (by decide) (br_t (by decide) (br_f (hs_ykNI ha) ?_)))))
    unfold wY_finish_459
    exact br_f (by decide) (ge _ ⟨⟨rfl, rfl, rfl, rfl, rfl, rfl, rfl, rfl, rfl, rfl, rfl, rfl, rfl, rfl, rfl, rfl, rfl, rfl, rfl, rfl, rfl, anu, rfl, rfl, rfl, rfl, rfl⟩, E, O, fun j hj => va j (by omega), l0, C, KK, qf⟩)
end
