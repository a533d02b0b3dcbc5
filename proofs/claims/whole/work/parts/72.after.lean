/-! behind a line; one step of an expression on the reference's side -/
section
variable {x_objectLimit x_stepLimit x_depthLimit x_pendingCount x_keptTokens x_keptLines x_lineCount x_codeCount x_cursor x_stop x_waitingCount x_openCount x_classCount x_callCount x_operandCount x_stepsTaken x_error x_raisedCode x_printCount x_lastPlace : Int32} {x_lastResult : Int64} {x_pending x_lineTable x_orders x_merging x_letterClass x_objectClass x_calls x_lastPrints : Nat → Int32} {x_code x_waiting x_globals x_entries x_attributes x_held x_operands : Nat → Int64}
variable {y_maxObjects y_maxSteps y_maxDepth y_kept y_end y_tokens y_pending y_lines y_classes y_prints y_place y_steps y_d y_valTop y_opTop y_opens y_pos y_tk y_tv y_stmt y_target y_err y_code y_outcome y_dry y_want y_starting y_ended y_bad y_hosted y_sawSuper : Int32} {y_result : Int64} {y_text y_numbers y_classOf y_alive y_orders y_lengths y_letters y_bases y_ops y_fLine y_fPos y_fStmt y_fTarget y_fMask y_fHome y_fOps y_fVals y_fNew y_out : Nat → Int32} {y_globals y_entries y_attrs y_vals y_locals y_fRecv : Nat → Int64}
variable {tx nu LT : Nat → Int32} {cd : Nat → Int64} {lc kp cc : Nat} {P ind h : Nat → Nat} {tk : Nat → List Nat} {ca cb us ue : Nat → Nat} {yk yen yto ype yli : Int32} {mo mS mD : Nat} {ho : Bool}
variable {s d vt cn : Nat} {ml : Nat → List Nat} {gl ex at1 HE op : Nat → Int64} {ox oc lt lp CL mg : Nat → Int32} {pc rc : Int32} {fl dl vb ob : Nat → Nat} {ts st : Nat → List Nat} {M : Nat}
theorem hs_XIob (I : hs_XI tx nu LT cd lc kp cc P ind h tk ca cb us ue mo mS mD s d vt cn ml gl ex at1 ox oc lt HE CL op fl dl vb ob ts st ho) : ∀ (n j : Nat), j + n = d → ob j ≤ ob d := by
  obtain ⟨T, B, W, MC, OV, H0, XCk, XLk, XSk, HO, v0, o0⟩ := I
  intro n
  induction n with
  | zero => intro j hj; rw [show j = d by omega]; exact Nat.le_refl _
  | succ n ih =>
    intro j hj
    have h1 := ih (j + 1) (by omega)
    by_cases hh : ho = true ∧ j = 0
    · rw [hh.2, o0]; exact Nat.zero_le _
    · have := (XSk j (by omega) hh).2.2
      omega
theorem hs_lcAf {m : Nat} (T : hs_T tx nu LT cd lc kp cc P ind h tk ca cb us ue) (lcd : hs_lc h ind ca cb lc cn ho (fl d) (dl d) d) (f1 : ca (fl d) ≤ m) (f2 : m < cb (fl d)) (f3 : hs_D h ind (ca (fl d)) m = hs_D h ind (ca (fl d)) (fl d)) (f4 : hs_in h ind (ca (fl d)) 1 9 m = true → hs_in h ind (ca (fl d)) 1 9 (fl d) = true) : hs_lc h ind ca cb lc cn ho m (dl d) d := by
  obtain ⟨l1, l2, l3⟩ := lcd
  obtain ⟨t1, t2, t3, t4, _⟩ := T.2.2.2 (fl d) l1
  obtain ⟨ra, rb⟩ := t4 m f1 f2
  refine ⟨by omega, fun z1 z2 => ?_, fun z => ?_⟩
  · obtain ⟨w1, w2, w3⟩ := l2 z1 z2
    rw [ra, rb]
    exact ⟨w1, by rw [f3]; exact w2, fun z => w3 (f4 z)⟩
  · rw [ra, f3]; exact l3 z
theorem hs_tAfter (A : hs_GA tx nu LT cd lc kp cc P ind h tk ca cb us ue yk yen yto ype yli mo mS mD ho x_pendingCount x_keptTokens x_keptLines x_codeCount x_cursor x_stop x_waitingCount x_openCount x_lastResult x_pending x_waiting M) (G : hs_GB tx nu LT cd lc kp cc P ind h tk ca cb us ue yk yen yto ype yli mo mS mD ho x_pendingCount x_keptTokens x_keptLines x_codeCount x_cursor x_stop x_waitingCount x_openCount x_lastResult x_pending x_waiting M) (I : hs_XI tx nu LT cd lc kp cc P ind h tk ca cb us ue mo mS mD s d vt cn ml gl ex at1 ox oc lt HE CL op fl dl vb ob ts st ho) (nh : ¬ (ho = true ∧ d = 0)) (lcd : hs_lc h ind ca cb lc cn ho (fl d) (dl d) d) (hv : vt = vb d) (hM : 250 * (mS - s) + hs_pot ts st d + 2 ≤ M) :
    hs_Gt (hs_F tx nu LT cd lc P h yk yen yto ype yli mo mS mD x_pendingCount x_keptTokens x_keptLines x_codeCount x_cursor x_stop x_waitingCount x_openCount x_lastResult x_pending x_waiting) M (fun c => wpX_goOn (fun u => match u with | (x_objectLimitq, x_stepLimitq, x_depthLimitq, x_pendingCountq, x_keptTokensq, x_keptLinesq, x_lineCountq, x_codeCountq, x_cursorq, x_stopq, x_waitingCountq, x_openCountq, x_classCountq, x_callCountq, x_operandCountq, x_stepsTakenq, x_errorq, x_raisedCodeq, x_printCountq, x_lastResultq, x_lastPlaceq, x_pendingq, x_lineTableq, x_codeq, x_waitingq, x_globalsq, x_entriesq, x_ordersq, x_mergingq, x_letterClassq, x_objectClassq, x_attributesq, x_callsq, x_heldq, x_operandsq, x_lastPrintsq) => c (x_objectLimitq, x_stepLimitq, x_depthLimitq, x_pendingCountq, x_keptTokensq, x_keptLinesq, x_lineCountq, x_codeCountq, x_cursorq, x_stopq, x_waitingCountq, x_openCountq, x_classCountq, x_callCountq, x_operandCountq, x_stepsTakenq, x_errorq, x_raisedCodeq, x_printCountq, x_lastResultq, x_lastPlaceq, x_pendingq, x_lineTableq, x_codeq, x_waitingq, x_globalsq, x_entriesq, x_ordersq, x_mergingq, x_letterClassq, x_objectClassq, x_attributesq, x_callsq, x_heldq, x_operandsq, x_lastPrintsq)) (nI mo, nI mS, nI mD, x_pendingCount, x_keptTokens, x_keptLines, nI lc, x_codeCount, x_cursor, x_stop, x_waitingCount, x_openCount, nI cn, nI (d + 1), nI vt, nI s, 0, rc, pc, x_lastResult, 0, x_pending, LT, cd, x_waiting, gl, ex, ox, mg, lt, oc, at1, CL, HE, op, lp) (nI (fl d))) (fun c => ∀ v, hs_VB tx nu LT P h lc yk yen yto ype yli mo mS mD gl ex at1 oc lt lp CL HE op ml cn d vt s pc rc fl dl vb ob ts st ho v → wpY_after (fun u => match u with | (y_maxObjectsq, y_maxStepsq, y_maxDepthq, y_keptq, y_endq, y_tokensq, y_pendingq, y_linesq, y_classesq, y_printsq, y_placeq, y_stepsq, y_dq, y_valTopq, y_opTopq, y_opensq, y_posq, y_tkq, y_tvq, y_stmtq, y_targetq, y_errq, y_codeq, y_outcomeq, y_resultq, y_dryq, y_wantq, y_startingq, y_endedq, y_badq, y_hostedq, y_sawSuperq, y_textq, y_numbersq, y_globalsq, y_entriesq, y_attrsq, y_classOfq, y_aliveq, y_ordersq, y_lengthsq, y_lettersq, y_basesq, y_valsq, y_opsq, y_localsq, y_fRecvq, y_fLineq, y_fPosq, y_fStmtq, y_fTargetq, y_fMaskq, y_fHomeq, y_fOpsq, y_fValsq, y_fNewq, y_outq) => c (y_maxObjectsq, y_maxStepsq, y_maxDepthq, y_keptq, y_endq, y_tokensq, y_pendingq, y_linesq, y_classesq, y_printsq, y_placeq, y_stepsq, y_dq, y_valTopq, y_opTopq, y_opensq, y_posq, y_tkq, y_tvq, y_stmtq, y_targetq, y_errq, y_codeq, y_outcomeq, y_resultq, y_dryq, y_wantq, y_startingq, y_endedq, y_badq, y_hostedq, y_sawSuperq, y_textq, y_numbersq, y_globalsq, y_entriesq, y_attrsq, y_classOfq, y_aliveq, y_ordersq, y_lengthsq, y_lettersq, y_basesq, y_valsq, y_opsq, y_localsq, y_fRecvq, y_fLineq, y_fPosq, y_fStmtq, y_fTargetq, y_fMaskq, y_fHomeq, y_fOpsq, y_fValsq, y_fNewq, y_outq)) v (nI (P (fl d)))) := by
  have I0 := I
  obtain ⟨d6, s200, m200, l405⟩ := hs_XId I
  obtain ⟨T, ⟨B1, B2, B3, B4, B5, B6⟩, W, MC, OV, H0, XCk, XLk, XSk, HO, v0, o0⟩ := I
  have K := hs_Tck T lcd.1
  obtain ⟨g1, g2, g3, g4, g5⟩ := hs_TE T lcd.1
  have hD : hs_D h ind (ca (fl d)) (fl d) = none → cb (fl d) = lc := by
    intro z
    rcases Nat.lt_or_ge 0 d with y | y
    · rw [lcd.2.2 y] at z; cases z
    · refine (lcd.2.1 (by omega) ?_).1
      cases ho with
      | false => rfl
      | true => exact absurd ⟨rfl, by omega⟩ nh
  cases q : hs_af h ind (ca (fl d)) (cb (fl d)) 18 (fl d) with
  | some m =>
    obtain ⟨f1, f2, f3, f4, f5, f6⟩ := hs_afF K 18 _ m g2 g3 q
    have tr := hs_tReach (mg := mg) (pc := pc) (rc := rc) (lp := lp) A I0 hv nh (hs_lcAf T lcd f1 f2 f3 f4) f5 f6 hM
    intro i k n hi hk hn post HP
    refine hs_xGoOn T lcd.1 hD (fun z => by rw [q] at z; cases z) (fun m' z => ?_)
    rw [q] at z
    have z' := Option.some.inj z
    subst z'
    refine tr i k n hi hk hn post (fun u' V' f gg => HP u' V' f (fun Q hQ m1 hm v hv => ?_))
    have ge := gg Q hQ m1 hm
    clear gg HP tr
    obtain ⟨y_maxObjects, y_maxSteps, y_maxDepth, y_kept, y_end, y_tokens, y_pending, y_lines, y_classes, y_prints, y_place, y_steps, y_d, y_valTop, y_opTop, y_opens, y_pos, y_tk, y_tv, y_stmt, y_target, y_err, y_code, y_outcome, y_result, y_dry, y_want, y_starting, y_ended, y_bad, y_hosted, y_sawSuper, y_text, y_numbers, y_globals, y_entries, y_attrs, y_classOf, y_alive, y_orders, y_lengths, y_letters, y_bases, y_vals, y_ops, y_locals, y_fRecv, y_fLine, y_fPos, y_fStmt, y_fTarget, y_fMask, y_fHome, y_fOps, y_fVals, y_fNew, y_out⟩ := v
    obtain ⟨⟨⟨a1, a2, a3, a4, a5, a6, a7, a8, a9, a10, a11, a12, a13, a14, a15, a16, a17, a18, a19, a20, a21, anu, a23, a24, a25, a26, a27⟩, E, O, va, l0, C, KK, qf⟩, w1, w2⟩ := hv
    (have a1 := a1.symm; have a2 := a2.symm; have a3 := a3.symm; have a4 := a4.symm; have a5 := a5.symm; have a6 := a6.symm; have a7 := a7.symm; have a8 := a8.symm; have a9 := a9.symm; have a10 := a10.symm; have a11 := a11.symm; have a12 := a12.symm; have a13 := a13.symm; have a14 := a14.symm; have a15 := a15.symm; have a16 := a16.symm; have a17 := a17.symm; have a18 := a18.symm; have a19 := a19.symm; have a20 := a20.symm; have a21 := a21.symm; have a23 := a23.symm; have a24 := a24.symm; have a25 := a25.symm; have a26 := a26.symm; have a27 := a27.symm; subst a1 a2 a3 a4 a5 a6 a7 a8 a9 a10 a11 a12 a13 a14 a15 a16 a17 a18 a19 a20 a21 a23 a24 a25 a26 a27)
    subst w1 w2
    refine hs_yAfter T lcd.1 d6 (fun m' z => ?_) (fun z => by rw [q] at z; cases z) (fun z => by rw [q] at z; cases z)
    rw [q] at z
    have z' := Option.some.inj z
    subst z'
    refine ge _ ⟨⟨rfl, rfl, rfl, rfl, rfl, rfl, rfl, rfl, rfl, rfl, rfl, rfl, rfl, rfl, rfl, rfl, rfl, rfl, rfl, rfl, rfl, rfl, anu, rfl, rfl, rfl, rfl, rfl⟩, E, O, va, l0, C, fun k hk nk => ?_, rfl, ?_, rfl⟩
    · rw [pk_un (by omega), hs_put1N (by omega)]; exact KK k hk nk
    · rw [pk_us, hs_put1S]
  | none =>
    by_cases d0 : d = 0
    · subst d0
      have vt0 : vt = 0 := by omega
      subst vt0
      have g := hs_tGo (fun v hv => hs_Verr hv) (hs_GoEnd (CL := upd CL 2 (-1)) (mg := mg) (pc := pc) (rc := rc) (lp := lp) (M := M) (fl := fl) (dl := dl) (ts := ts) (st := st) (ho := ho) (s := s) (op := op) (LT := LT) (tx := tx) (nu := nu) (cd := cd) (yk := yk) (yen := yen) (yto := yto) (ype := ype) (yli := yli) (mo := mo) (mS := mS) (mD := mD) (x_pendingCount := x_pendingCount) (x_keptTokens := x_keptTokens) (x_keptLines := x_keptLines) (x_codeCount := x_codeCount) (x_cursor := x_cursor) (x_stop := x_stop) (x_waitingCount := x_waitingCount) (x_openCount := x_openCount) (x_lastResult := x_lastResult) (x_pending := x_pending) (x_waiting := x_waiting) W MC H0 pk_us v0 o0 (by omega))
      intro i k n hi hk hn post HP
      refine hs_xGoOn T lcd.1 hD (fun _ => ?_) (fun m' z => by rw [q] at z; cases z)
      refine hs_xLeave0 ?_
      refine g i k n hi hk hn post (fun u' V' f gg => HP u' V' f (fun Q hQ m1 hm v hv => ?_))
      have ge := gg Q hQ m1 hm
      clear gg HP g
      obtain ⟨y_maxObjects, y_maxSteps, y_maxDepth, y_kept, y_end, y_tokens, y_pending, y_lines, y_classes, y_prints, y_place, y_steps, y_d, y_valTop, y_opTop, y_opens, y_pos, y_tk, y_tv, y_stmt, y_target, y_err, y_code, y_outcome, y_result, y_dry, y_want, y_starting, y_ended, y_bad, y_hosted, y_sawSuper, y_text, y_numbers, y_globals, y_entries, y_attrs, y_classOf, y_alive, y_orders, y_lengths, y_letters, y_bases, y_vals, y_ops, y_locals, y_fRecv, y_fLine, y_fPos, y_fStmt, y_fTarget, y_fMask, y_fHome, y_fOps, y_fVals, y_fNew, y_out⟩ := v
      obtain ⟨⟨⟨a1, a2, a3, a4, a5, a6, a7, a8, a9, a10, a11, a12, a13, a14, a15, a16, a17, a18, a19, a20, a21, anu, a23, a24, a25, a26, a27⟩, E, O, va, l0, C, KK, qf⟩, w1, w2⟩ := hv
      (have a1 := a1.symm; have a2 := a2.symm; have a3 := a3.symm; have a4 := a4.symm; have a5 := a5.symm; have a6 := a6.symm; have a7 := a7.symm; have a8 := a8.symm; have a9 := a9.symm; have a10 := a10.symm; have a11 := a11.symm; have a12 := a12.symm; have a13 := a13.symm; have a14 := a14.symm; have a15 := a15.symm; have a16 := a16.symm; have a17 := a17.symm; have a18 := a18.symm; have a19 := a19.symm; have a20 := a20.symm; have a21 := a21.symm; have a23 := a23.symm; have a24 := a24.symm; have a25 := a25.symm; have a26 := a26.symm; have a27 := a27.symm; subst a1 a2 a3 a4 a5 a6 a7 a8 a9 a10 a11 a12 a13 a14 a15 a16 a17 a18 a19 a20 a21 a23 a24 a25 a26 a27)
      subst w1 w2
      refine hs_yAfter T lcd.1 d6 (fun m' z => by rw [q] at z; cases z) (fun _ _ => ?_) (fun _ z => ?_)
      · refine ge _ ⟨⟨rfl, rfl, rfl, rfl, rfl, rfl, rfl, rfl, rfl, rfl, rfl, rfl, rfl, rfl, rfl, rfl, rfl, rfl, rfl, rfl, rfl, rfl, anu, rfl, rfl, rfl, rfl, rfl⟩, E, O, va, l0, fun k hk => hs_YCcl ⟨pk_un (by omega), pk_un (by omega)⟩ (C k hk), fun k hk nk => by omega, rfl, pk_us⟩
      · exfalso
        obtain ⟨dx, z⟩ := z
        have hf : ho = false := by
          cases ho with
          | false => rfl
          | true => exact absurd ⟨rfl, rfl⟩ nh
        rw [(lcd.2.1 rfl hf).2.1] at z; cases z
    · obtain ⟨d', rfl⟩ : ∃ d', d = d' + 1 := ⟨d - 1, by omega⟩
      subst hv
      have tl := hs_tLeave (x14 := nI (vb (d' + 1))) (mg := mg) (pc := pc) (rc := rc) (lp := lp) G I0 (Nat.le_refl _) hs_noneV (by omega) (by omega)
      intro i k n hi hk hn post HP
      refine hs_xGoOn T lcd.1 hD (fun _ => ?_) (fun m' z => by rw [q] at z; cases z)
      refine tl i k n hi hk hn post (fun u' V' f gg => HP u' V' f (fun Q hQ m1 hm v hv => ?_))
      have ge := gg Q hQ m1 hm
      clear gg HP tl
      have hv1 := hv.1
      obtain ⟨y_maxObjects, y_maxSteps, y_maxDepth, y_kept, y_end, y_tokens, y_pending, y_lines, y_classes, y_prints, y_place, y_steps, y_d, y_valTop, y_opTop, y_opens, y_pos, y_tk, y_tv, y_stmt, y_target, y_err, y_code, y_outcome, y_result, y_dry, y_want, y_starting, y_ended, y_bad, y_hosted, y_sawSuper, y_text, y_numbers, y_globals, y_entries, y_attrs, y_classOf, y_alive, y_orders, y_lengths, y_letters, y_bases, y_vals, y_ops, y_locals, y_fRecv, y_fLine, y_fPos, y_fStmt, y_fTarget, y_fMask, y_fHome, y_fOps, y_fVals, y_fNew, y_out⟩ := v
      obtain ⟨⟨⟨a1, a2, a3, a4, a5, a6, a7, a8, a9, a10, a11, a12, a13, a14, a15, a16, a17, a18, a19, a20, a21, anu, a23, a24, a25, a26, a27⟩, E, O, va, l0, C, KK, qf⟩, w1, w2⟩ := hv
      (have a1 := a1.symm; have a2 := a2.symm; have a3 := a3.symm; have a4 := a4.symm; have a5 := a5.symm; have a6 := a6.symm; have a7 := a7.symm; have a8 := a8.symm; have a9 := a9.symm; have a10 := a10.symm; have a11 := a11.symm; have a12 := a12.symm; have a13 := a13.symm; have a14 := a14.symm; have a15 := a15.symm; have a16 := a16.symm; have a17 := a17.symm; have a18 := a18.symm; have a19 := a19.symm; have a20 := a20.symm; have a21 := a21.symm; have a23 := a23.symm; have a24 := a24.symm; have a25 := a25.symm; have a26 := a26.symm; have a27 := a27.symm; subst a1 a2 a3 a4 a5 a6 a7 a8 a9 a10 a11 a12 a13 a14 a15 a16 a17 a18 a19 a20 a21 a23 a24 a25 a26 a27)
      subst w1 w2
      refine hs_yAfter T lcd.1 d6 (fun m' z => by rw [q] at z; cases z) (fun _ z => ?_) (fun _ _ c' hc' => ge c' hc' _ hv1)
      exfalso
      rw [lcd.2.2 (by omega)] at z; cases z
/-- the reference when an element of code is due -/
def hs_VE (tx nu LT : Nat → Int32) (P h : Nat → Nat) (lc : Nat) (yk yen yto ype yli : Int32) (mo mS mD : Nat) (gl ex at1 : Nat → Int64) (oc lt lp CL : Nat → Int32) (HE op : Nat → Int64) (ml : Nat → List Nat) (cn d vt s : Nat) (pc rc : Int32) (fl dl vb ob : Nat → Nat) (ts st : Nat → List Nat) (ho : Bool) (ts1 st1 : List Nat) (v : SY) : Prop := hs_VC tx nu LT P h lc yk yen yto ype yli mo mS mD gl ex at1 oc lt lp CL HE op ml cn d vt s pc rc fl dl vb ob ts st ho 0 v ∧ match v with
  | (y_maxObjects, y_maxSteps, y_maxDepth, y_kept, y_end, y_tokens, y_pending, y_lines, y_classes, y_prints, y_place, y_steps, y_d, y_valTop, y_opTop, y_opens, y_pos, y_tk, y_tv, y_stmt, y_target, y_err, y_code, y_outcome, y_result, y_dry, y_want, y_starting, y_ended, y_bad, y_hosted, y_sawSuper, y_text, y_numbers, y_globals, y_entries, y_attrs, y_classOf, y_alive, y_orders, y_lengths, y_letters, y_bases, y_vals, y_ops, y_locals, y_fRecv, y_fLine, y_fPos, y_fStmt, y_fTarget, y_fMask, y_fHome, y_fOps, y_fVals, y_fNew, y_out) => y_valTop = nI vt ∧ y_starting = 0 ∧ ∃ pp, y_pos = nI pp ∧ hs_TA tx pp ts1 ∧ y_stmt = hs_smk (LT (fl d * 14)) ∧ hs_tg LT (fl d) y_target ∧ y_opTop = nI (ob d + st1.length) ∧ hs_SA y_ops (ob d) (ob d + st1.length) st1
theorem hs_zkE {k : Int32} (h : hs_ek k) : hs_zk k = true ↔ hs_smk k = 50 := by
  rcases h with rfl | rfl | rfl | rfl | rfl | rfl | rfl | rfl | rfl <;> decide
/-- one step, silent or not -/
theorem hs_yTok {w w1 : Bool} {ts1 st1 : List Nat} {e1 : List (Nat × Nat)} {v : SY} (I : hs_XI tx nu LT cd lc kp cc P ind h tk ca cb us ue mo mS mD s d vt cn ml gl ex at1 ox oc lt HE CL op fl dl vb ob ts st ho) (hk : hs_ek (LT (fl d * 14))) (hv : vt = vb d + hs_nv (st d) w) (h40 : (st d).length + (ts d).length + (if w then 0 else 1) ≤ 40) (nf : ¬ hs_fin (ts d) w (st d)) (q : hs_step (hs_zk (LT (fl d * 14))) (ts d) w (st d) = some (ts1, w1, st1, e1)) {post : Int32 → SY → Prop} (V : hs_V tx nu LT P h lc yk yen yto ype yli mo mS mD gl ex at1 oc lt lp CL HE op ml cn d vt s pc rc fl dl vb ob ts st ho (some (some w)) v)
    (Hs : e1 = [] → ∀ v1, hs_V tx nu LT P h lc yk yen yto ype yli mo mS mD gl ex at1 oc lt lp CL HE op ml cn d vt s pc rc fl dl vb ob (hs_put1 ts d ts1) (hs_put1 st d st1) ho (some (some w1)) v1 → post 0 v1)
    (He : ∀ o qq, e1 = [(o, qq)] → w1 = false → ∀ v1, hs_VE tx nu LT P h lc yk yen yto ype yli mo mS mD gl ex at1 oc lt lp CL HE op ml cn d vt s pc rc fl dl vb ob ts st ho ts1 st1 v1 → hs_yop (fun u => match u with | (y_maxObjectsq, y_maxStepsq, y_maxDepthq, y_keptq, y_endq, y_tokensq, y_pendingq, y_linesq, y_classesq, y_printsq, y_placeq, y_stepsq, y_dq, y_valTopq, y_opTopq, y_opensq, y_posq, y_tkq, y_tvq, y_stmtq, y_targetq, y_errq, y_codeq, y_outcomeq, y_resultq, y_dryq, y_wantq, y_startingq, y_endedq, y_badq, y_hostedq, y_sawSuperq, y_textq, y_numbersq, y_globalsq, y_entriesq, y_attrsq, y_classOfq, y_aliveq, y_ordersq, y_lengthsq, y_lettersq, y_basesq, y_valsq, y_opsq, y_localsq, y_fRecvq, y_fLineq, y_fPosq, y_fStmtq, y_fTargetq, y_fMaskq, y_fHomeq, y_fOpsq, y_fValsq, y_fNewq, y_outq) => post 0 (y_maxObjectsq, y_maxStepsq, y_maxDepthq, y_keptq, y_endq, y_tokensq, y_pendingq, y_linesq, y_classesq, y_printsq, y_placeq, y_stepsq, y_dq, y_valTopq, y_opTopq, y_opensq, y_posq, y_tkq, y_tvq, y_stmtq, y_targetq, y_errq, y_codeq, y_outcomeq, y_resultq, y_dryq, y_wantq, y_startingq, y_endedq, y_badq, y_hostedq, y_sawSuperq, y_textq, y_numbersq, y_globalsq, y_entriesq, y_attrsq, y_classOfq, y_aliveq, y_ordersq, y_lengthsq, y_lettersq, y_basesq, y_valsq, y_opsq, y_localsq, y_fRecvq, y_fLineq, y_fPosq, y_fStmtq, y_fTargetq, y_fMaskq, y_fHomeq, y_fOpsq, y_fValsq, y_fNewq, y_outq)) o qq vt v1) : wpY_expressionToken post v := by
  have I0 := I
  have mono := hs_XIob I
  obtain ⟨d6, s200, m200, l405⟩ := hs_XId I
  obtain ⟨T, ⟨B1, B2, B3, B4, B5, B6⟩, W, MC, OV, H0, XCk, XLk, XSk, HO, v0, o0⟩ := I
  obtain ⟨x1, x2, x3, x4, x5⟩ := XCk d (Nat.le_refl _)
  have nl := hs_nstLe (st d)
  have hnv : hs_nv (st d) w ≤ (st d).length + 1 := by
    unfold hs_nv
    cases w with
    | true => rw [if_pos rfl]; omega
    | false => rw [if_neg (by decide)]; omega
  obtain ⟨y_maxObjects, y_maxSteps, y_maxDepth, y_kept, y_end, y_tokens, y_pending, y_lines, y_classes, y_prints, y_place, y_steps, y_d, y_valTop, y_opTop, y_opens, y_pos, y_tk, y_tv, y_stmt, y_target, y_err, y_code, y_outcome, y_result, y_dry, y_want, y_starting, y_ended, y_bad, y_hosted, y_sawSuper, y_text, y_numbers, y_globals, y_entries, y_attrs, y_classOf, y_alive, y_orders, y_lengths, y_letters, y_bases, y_vals, y_ops, y_locals, y_fRecv, y_fLine, y_fPos, y_fStmt, y_fTarget, y_fMask, y_fHome, y_fOps, y_fVals, y_fNew, y_out⟩ := v
  obtain ⟨⟨a1, a2, a3, a4, a5, a6, a7, a8, a9, a10, a11, a12, a13, a14, a15, a16, a17, a18, a19, a20, a21, a22, anu, a24, a25, a26, a27, a28⟩, E, O, va, l0, C, K, m1, m2, m3, pp, p1, p2, p3, p4, p5, p6⟩ := V
  (have a1 := a1.symm; have a2 := a2.symm; have a3 := a3.symm; have a4 := a4.symm; have a5 := a5.symm; have a6 := a6.symm; have a7 := a7.symm; have a8 := a8.symm; have a9 := a9.symm; have a10 := a10.symm; have a11 := a11.symm; have a12 := a12.symm; have a13 := a13.symm; have a14 := a14.symm; have a15 := a15.symm; have a16 := a16.symm; have a17 := a17.symm; have a18 := a18.symm; have a19 := a19.symm; have a20 := a20.symm; have a21 := a21.symm; have a22 := a22.symm; have a24 := a24.symm; have a25 := a25.symm; have a26 := a26.symm; have a27 := a27.symm; have a28 := a28.symm; subst a1 a2 a3 a4 a5 a6 a7 a8 a9 a10 a11 a12 a13 a14 a15 a16 a17 a18 a19 a20 a21 a22 a24 a25 a26 a27 a28)
  subst m1 m3 p1 p3 p5
  obtain ⟨c1, c2, c3, c4⟩ := C d (Nat.le_refl _)
  have lt320 : ob d + (st d).length < 320 := by
    have : (st d).length ≤ 40 := by omega
    omega
  have vt320 : vt < 320 := by
    have : (st d).length ≤ 40 := by omega
    omega
  have hs : e1 = [] → ∀ (p' : Nat) (q1 q2 q3 q4 : Int32) (ops : Nat → Int32), hs_TA tx p' ts1 → hs_SA ops (ob d) (ob d + st1.length) st1 → (∀ k, k < ob d → ops k = y_ops k) → post 0 (nI mo, nI mS, nI mD, yk, yen, yto, ype, yli, nI cn, pc, 0, nI s, nI d, nI vt, nI (ob d + st1.length), q4, nI p', q1, q2, hs_smk (LT (fl d * 14)), y_target, 0, rc, 0, 0, 0, hs_b w1, 0, 0, y_bad, hs_b ho, q3, tx, y_numbers, gl, y_entries, at1, oc, y_alive, y_orders, y_lengths, lt, y_bases, y_vals, ops, y_locals, y_fRecv, y_fLine, y_fPos, y_fStmt, y_fTarget, y_fMask, y_fHome, y_fOps, y_fVals, y_fNew, lp) := by
    intro e0 p' q1 q2 q3 q4 ops h1 h2 h3
    refine Hs e0 _ ⟨⟨rfl, rfl, rfl, rfl, rfl, rfl, rfl, rfl, rfl, rfl, rfl, rfl, rfl, rfl, rfl, rfl, rfl, rfl, rfl, rfl, rfl, rfl, anu, rfl, rfl, rfl, rfl, rfl⟩, E, O, va, l0, C, fun k hk nk => ?_, rfl, m2, rfl, p', rfl, ?_, rfl, p4, ?_, ?_⟩
    · obtain ⟨k1, pq, r1, r2, r3, r4, r5⟩ := K k hk nk
      rw [hs_put1N (show k ≠ d by omega), hs_put1N (show k ≠ d by omega)]
      refine ⟨k1, pq, r1, r2, r3, r4, hs_SAupd r5 (fun j j1 j2 => h3 j ?_)⟩
      have := mono (d - (k + 1)) (k + 1) (by omega)
      omega
    · rw [hs_put1S]; exact h1
    · rw [hs_put1S]
    · rw [hs_put1S]; exact h2
  cases w with
  | true =>
    refine hs_yStepW p2 (by omega) c2 p6 lt320 vt320 (by omega) q hs (fun o qq eo w0 p' q1 q2 q4 q5 h1 h2 => He o qq eo w0 _ ⟨⟨⟨rfl, rfl, rfl, rfl, rfl, rfl, rfl, rfl, rfl, rfl, rfl, rfl, rfl, rfl, rfl, rfl, rfl, rfl, rfl, rfl, rfl, anu, rfl, rfl, rfl, rfl, rfl⟩, E, O, va, l0, C, K, m2⟩, rfl, rfl, p', rfl, h1, rfl, p4, rfl, h2⟩)
  | false =>
    have v1 : 1 ≤ vt := by
      have e : hs_nv (st d) false = hs_nst (st d) + 1 := rfl
      omega
    refine hs_yStepN (hs_zkE hk) p2 (by omega) c2 p6 lt320 vt320 v1 q nf hs (fun o qq eo w0 p' q1 q2 q4 q5 h1 h2 => He o qq eo w0 _ ⟨⟨⟨rfl, rfl, rfl, rfl, rfl, rfl, rfl, rfl, rfl, rfl, rfl, rfl, rfl, rfl, rfl, rfl, rfl, rfl, rfl, rfl, rfl, anu, rfl, rfl, rfl, rfl, rfl⟩, E, O, va, l0, C, K, m2⟩, rfl, rfl, p', rfl, h1, rfl, p4, rfl, h2⟩)
end
