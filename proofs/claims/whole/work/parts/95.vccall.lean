/-! call -/
section
variable {x_objectLimit x_stepLimit x_depthLimit x_pendingCount x_keptTokens x_keptLines x_lineCount x_codeCount x_cursor x_stop x_waitingCount x_openCount x_classCount x_callCount x_operandCount x_stepsTaken x_error x_raisedCode x_printCount x_lastPlace : Int32} {x_lastResult : Int64} {x_pending x_lineTable x_orders x_merging x_letterClass x_objectClass x_calls x_lastPrints : Nat → Int32} {x_code x_waiting x_globals x_entries x_attributes x_held x_operands : Nat → Int64}
variable {y_maxObjects y_maxSteps y_maxDepth y_kept y_end y_tokens y_pending y_lines y_classes y_prints y_place y_steps y_d y_valTop y_opTop y_opens y_pos y_tk y_tv y_stmt y_target y_err y_code y_outcome y_dry y_want y_starting y_ended y_bad y_hosted y_sawSuper : Int32} {y_result : Int64} {y_text y_numbers y_classOf y_alive y_orders y_lengths y_letters y_bases y_ops y_fLine y_fPos y_fStmt y_fTarget y_fMask y_fHome y_fOps y_fVals y_fNew y_out : Nat → Int32} {y_globals y_entries y_attrs y_vals y_locals y_fRecv : Nat → Int64}
variable {tx nu LT : Nat → Int32} {cd : Nat → Int64} {lc kp cc : Nat} {P ind h : Nat → Nat} {tk : Nat → List Nat} {ca cb us ue : Nat → Nat} {yk yen yto ype yli : Int32} {mo mS mD : Nat} {ho : Bool}
variable {s d vt cn : Nat} {ml : Nat → List Nat} {gl ex at1 HE op : Nat → Int64} {ox oc lt lp CL mg : Nat → Int32} {pc rc : Int32} {fl dl vb ob : Nat → Nat} {ts st : Nat → List Nat} {M : Nat}
variable {pd : Nat → Int32} {pn kt kl k : Nat} {rv : Int64} {pl er : Int32}
theorem hs_errX {c2 : Int32} {lr : Int64} {post : Int32 → SX → Prop} (hC : CL 2 = -1) (e0 : er ≠ 0) (e8 : er ≠ 8) (e9 : er ≠ 9) (H : post er (x_objectLimit, x_stepLimit, x_depthLimit, x_pendingCount, x_keptTokens, x_keptLines, x_lineCount, x_codeCount, x_cursor, x_stop, x_waitingCount, x_openCount, x_classCount, 0, 0, x_stepsTaken, er, x_raisedCode, x_printCount, 0, 0, x_pending, x_lineTable, x_code, x_waiting, x_globals, x_entries, x_orders, x_merging, x_letterClass, x_objectClass, x_attributes, CL, x_held, x_operands, x_lastPrints)) : wX_call_61 post x_objectLimit x_stepLimit x_depthLimit x_pendingCount x_keptTokens x_keptLines x_lineCount x_codeCount x_cursor x_stop x_waitingCount x_openCount x_classCount 1 c2 x_stepsTaken er x_raisedCode x_printCount lr x_lastPlace x_pending x_lineTable x_code x_waiting x_globals x_entries x_orders x_merging x_letterClass x_objectClass x_attributes CL x_held x_operands x_lastPrints := by
  unfold wX_call_61
  refine ⟨1, br_f (by decide) (nm_r (show ((1 : Int32) - 1) * 6 = 0 by decide) (And.intro (pk_in 2 42 (by omega) (by decide)) (nm_r (show CL ((0 : Int32) + 2).toNatClampNeg = -1 from hC) (br_f e0 (br_f e9 ⟨2, ?_⟩)))))⟩
  refine br_f (by decide) (nm_r (show ((1 : Int32) - 1) * 6 = 0 by decide) (And.intro (pk_in 2 42 (by omega) (by decide)) ?_))
  rw [show CL ((0 : Int32) + 2).toNatClampNeg = -1 from hC]
  refine hs_xHandlerM (br_t (by decide) (nm_r (show (1 : Int32) + (-1) = 0 by decide) (br_t (by decide) (br_t rfl (br_t rfl ?_)))))
  unfold wpX_finish
  refine hs_xOpd0 (fun v _ _ => br_f e0 (br_f e8 ?_))
  unfold wX_finish_56
  exact H
theorem i_vc_call {k : Nat} {u : SX} {v : SY} (I : i_Rel k u v) (hk : k + 5 ≤ 2563) (v1 : Int32) (v2 : Int32) (v3 : Int32) : wpX_call (fun r u' => wpY_call (fun r' v' => r' = r ∧ i_Rel (k + 5) u' v') v v1 v2 v3) u v1 v2 v3 := by
  suffices hh : ∀ Q : Int32 → SX → Prop, (∀ r u', wpY_call (fun r' v' => r' = r ∧ i_Rel (k + 5) u' v') v v1 v2 v3 → Q r u') → wpX_call Q u v1 v2 v3 from hh _ (fun _ _ h => h)
  intro Q hQ
  have I0 := I
  obtain ⟨tx, nu, LT, pd, cd, lc, kp, cc, P, ind, h, tk, ca, cb, us, ue, cn, ml, gl, ex, at1, HE, ox, oc, lt, lp, mo, mS, mD, kt, kl, pn, pc, rc, pl, er, rv, ⟨T, W, MC, H0, PD, ⟨kp1, kp2⟩, rv0, ⟨m1, m2, m3, m4⟩, ⟨c1, c2, c3, c4, c5⟩⟩, hx, hy⟩ := I
  obtain ⟨x_objectLimit, x_stepLimit, x_depthLimit, x_pendingCount, x_keptTokens, x_keptLines, x_lineCount, x_codeCount, x_cursor, x_stop, x_waitingCount, x_openCount, x_classCount, x_callCount, x_operandCount, x_stepsTaken, x_error, x_raisedCode, x_printCount, x_lastResult, x_lastPlace, x_pending, x_lineTable, x_code, x_waiting, x_globals, x_entries, x_orders, x_merging, x_letterClass, x_objectClass, x_attributes, x_calls, x_held, x_operands, x_lastPrints⟩ := u
  obtain ⟨y_maxObjects, y_maxSteps, y_maxDepth, y_kept, y_end, y_tokens, y_pending, y_lines, y_classes, y_prints, y_place, y_steps, y_d, y_valTop, y_opTop, y_opens, y_pos, y_tk, y_tv, y_stmt, y_target, y_err, y_code, y_outcome, y_result, y_dry, y_want, y_starting, y_ended, y_bad, y_hosted, y_sawSuper, y_text, y_numbers, y_globals, y_entries, y_attrs, y_classOf, y_alive, y_orders, y_lengths, y_letters, y_bases, y_vals, y_ops, y_locals, y_fRecv, y_fLine, y_fPos, y_fStmt, y_fTarget, y_fMask, y_fHome, y_fOps, y_fVals, y_fNew, y_out⟩ := v
  have J := i_up I0
  clear I0
  obtain ⟨b1, b2, b3, b4, b5, b6, b7, b8, b9, b10, b11, b12, b13, b14, b15, b16, b17, b18, b19, b20, b21, b22, b23, b24, b25, b26⟩ := hx
  obtain ⟨⟨a1, a2, a3, a4, a5, a6, a7, a8, a9, a10, a11, a12, a13, a14, a15, a16, a17, a18, a19, anu, a21, a22, a23, a24, a25⟩, E, O, l0, f0, f1, f2⟩ := hy
  (have b1 := b1.symm; have b2 := b2.symm; have b3 := b3.symm; have b4 := b4.symm; have b5 := b5.symm; have b6 := b6.symm; have b7 := b7.symm; have b8 := b8.symm; have b9 := b9.symm; have b10 := b10.symm; have b11 := b11.symm; have b12 := b12.symm; have b13 := b13.symm; have b14 := b14.symm; have b15 := b15.symm; have b16 := b16.symm; have b17 := b17.symm; have b18 := b18.symm; have b19 := b19.symm; have b20 := b20.symm; have b21 := b21.symm; have b22 := b22.symm; have b23 := b23.symm; have b24 := b24.symm; have b25 := b25.symm; have b26 := b26.symm; subst b1 b2 b3 b4 b5 b6 b7 b8 b9 b10 b11 b12 b13 b14 b15 b16 b17 b18 b19 b20 b21 b22 b23 b24 b25 b26)
  (have a1 := a1.symm; have a2 := a2.symm; have a3 := a3.symm; have a4 := a4.symm; have a5 := a5.symm; have a6 := a6.symm; have a7 := a7.symm; have a8 := a8.symm; have a9 := a9.symm; have a10 := a10.symm; have a11 := a11.symm; have a12 := a12.symm; have a13 := a13.symm; have a14 := a14.symm; have a15 := a15.symm; have a16 := a16.symm; have a17 := a17.symm; have a18 := a18.symm; have a19 := a19.symm; have a21 := a21.symm; have a22 := a22.symm; have a23 := a23.symm; have a24 := a24.symm; have a25 := a25.symm; subst a1 a2 a3 a4 a5 a6 a7 a8 a9 a10 a11 a12 a13 a14 a15 a16 a17 a18 a19 a21 a22 a23 a24 a25)
  unfold wpX_call
  refine hs_xLet (fun a a26 ea => br_f (by decide) (hs_xLet (fun n n26 en => br_f (by decide) ?_) (fun hb => br_t rfl ?_))) (fun hb => br_t rfl ?_)
  · subst ea en
    have ya : ∀ (c : Int32 → SY → Prop), ((gl a = 0 → c 2 (nI mo, nI mS, nI mD, nI kp, nI (kp + pn), nI kt, nI pn, nI kl, nI cn, pc, 0, y_steps, 0, 0, 0, y_opens, y_pos, y_tk, y_tv, y_stmt, y_target, y_err, rc, er, 0, 0, y_want, y_starting, y_ended, y_bad, y_hosted, y_sawSuper, tx, y_numbers, gl, y_entries, at1, oc, y_alive, y_orders, y_lengths, lt, y_bases, y_vals, y_ops, y_locals, y_fRecv, y_fLine, y_fPos, y_fStmt, y_fTarget, y_fMask, y_fHome, y_fOps, y_fVals, y_fNew, lp)) ∧ (¬ gl a = 0 → wpY_method (fun w => match w with | (y_maxObjectsq, y_maxStepsq, y_maxDepthq, y_keptq, y_endq, y_tokensq, y_pendingq, y_linesq, y_classesq, y_printsq, y_placeq, y_stepsq, y_dq, y_valTopq, y_opTopq, y_opensq, y_posq, y_tkq, y_tvq, y_stmtq, y_targetq, y_errq, y_codeq, y_outcomeq, y_resultq, y_dryq, y_wantq, y_startingq, y_endedq, y_badq, y_hostedq, y_sawSuperq, y_textq, y_numbersq, y_globalsq, y_entriesq, y_attrsq, y_classOfq, y_aliveq, y_ordersq, y_lengthsq, y_lettersq, y_basesq, y_valsq, y_opsq, y_localsq, y_fRecvq, y_fLineq, y_fPosq, y_fStmtq, y_fTargetq, y_fMaskq, y_fHomeq, y_fOpsq, y_fValsq, y_fNewq, y_outq) => ((y_errq = 0 → wpY_go (fun u => match u with | (y_maxObjectsw, y_maxStepsw, y_maxDepthw, y_keptw, y_endw, y_tokensw, y_pendingw, y_linesw, y_classesw, y_printsw, y_placew, y_stepsw, y_dw, y_valTopw, y_opTopw, y_opensw, y_posw, y_tkw, y_tvw, y_stmtw, y_targetw, y_errw, y_codew, y_outcomew, y_resultw, y_dryw, y_wantw, y_startingw, y_endedw, y_badw, y_hostedw, y_sawSuperw, y_textw, y_numbersw, y_globalsw, y_entriesw, y_attrsw, y_classOfw, y_alivew, y_ordersw, y_lengthsw, y_lettersw, y_basesw, y_valsw, y_opsw, y_localsw, y_fRecvw, y_fLinew, y_fPosw, y_fStmtw, y_fTargetw, y_fMaskw, y_fHomew, y_fOpsw, y_fValsw, y_fNeww, y_outw) => c y_outcomew (y_maxObjectsw, y_maxStepsw, y_maxDepthw, y_keptw, y_endw, y_tokensw, y_pendingw, y_linesw, y_classesw, y_printsw, y_placew, y_stepsw, y_dw, y_valTopw, y_opTopw, y_opensw, y_posw, y_tkw, y_tvw, y_stmtw, y_targetw, y_errw, y_codew, y_outcomew, y_resultw, y_dryw, y_wantw, y_startingw, y_endedw, y_badw, y_hostedw, y_sawSuperw, y_textw, y_numbersw, y_globalsw, y_entriesw, y_attrsw, y_classOfw, y_alivew, y_ordersw, y_lengthsw, y_lettersw, y_basesw, y_valsw, y_opsw, y_localsw, y_fRecvw, y_fLinew, y_fPosw, y_fStmtw, y_fTargetw, y_fMaskw, y_fHomew, y_fOpsw, y_fValsw, y_fNeww, y_outw)) (y_maxObjectsq, y_maxStepsq, y_maxDepthq, y_keptq, y_endq, y_tokensq, y_pendingq, y_linesq, y_classesq, y_printsq, y_placeq, y_stepsq, y_dq, y_valTopq, y_opTopq, y_opensq, y_posq, y_tkq, y_tvq, y_stmtq, y_targetq, y_errq, y_codeq, y_outcomeq, y_resultq, y_dryq, y_wantq, y_startingq, y_endedq, y_badq, y_hostedq, y_sawSuperq, y_textq, y_numbersq, y_globalsq, y_entriesq, y_attrsq, y_classOfq, y_aliveq, y_ordersq, y_lengthsq, y_lettersq, y_basesq, y_valsq, y_opsq, y_localsq, y_fRecvq, y_fLineq, y_fPosq, y_fStmtq, y_fTargetq, y_fMaskq, y_fHomeq, y_fOpsq, y_fValsq, y_fNewq, y_outq)) ∧ (¬ y_errq = 0 → c y_errq (y_maxObjectsq, y_maxStepsq, y_maxDepthq, y_keptq, y_endq, y_tokensq, y_pendingq, y_linesq, y_classesq, y_printsq, y_placeq, y_stepsq, y_dq, 0, y_opTopq, y_opensq, y_posq, y_tkq, y_tvq, y_stmtq, y_targetq, y_errq, y_codeq, y_outcomeq, y_resultq, y_dryq, y_wantq, y_startingq, y_endedq, y_badq, y_hostedq, y_sawSuperq, y_textq, y_numbersq, y_globalsq, y_entriesq, y_attrsq, y_classOfq, y_aliveq, y_ordersq, y_lengthsq, y_lettersq, y_basesq, y_valsq, y_opsq, y_localsq, y_fRecvq, y_fLineq, y_fPosq, y_fStmtq, y_fTargetq, y_fMaskq, y_fHomeq, y_fOpsq, y_fValsq, y_fNewq, y_outq)))) (nI mo, nI mS, nI mD, nI kp, nI (kp + pn), nI kt, nI pn, nI kl, nI cn, pc, 0, y_steps, 0, 2, 0, y_opens, y_pos, y_tk, y_tv, y_stmt, y_target, 0, rc, er, 0, 0, y_want, 1, y_ended, y_bad, 1, y_sawSuper, tx, y_numbers, gl, y_entries, at1, oc, y_alive, y_orders, y_lengths, lt, y_bases, vp_updL (vp_updL y_vals 0 (gl a)) 1 (hs_int v3), y_ops, y_locals, y_fRecv, y_fLine, y_fPos, y_fStmt, y_fTarget, y_fMask, y_fHome, y_fOps, y_fVals, y_fNew, lp) (gl a) (nI n) (hs_int v3) 2)) → wpY_call c (nI mo, nI mS, nI mD, nI kp, nI (kp + pn), nI kt, nI pn, nI kl, nI cn, pc, pl, y_steps, 0, 0, 0, y_opens, y_pos, y_tk, y_tv, y_stmt, y_target, y_err, rc, er, rv, 0, y_want, y_starting, y_ended, y_bad, y_hosted, y_sawSuper, tx, y_numbers, gl, y_entries, at1, oc, y_alive, y_orders, y_lengths, lt, y_bases, y_vals, y_ops, y_locals, y_fRecv, y_fLine, y_fPos, y_fStmt, y_fTarget, y_fMask, y_fHome, y_fOps, y_fVals, y_fNew, lp) (nI a) (nI n) v3 := by
      intro c H
      refine br_f (nI_pos (by omega)) (br_f (fun z => by have := (nI_ltI (a := 25) (b := a) (by omega) (by omega)).mp z; omega) (br_f (nI_pos (by omega)) (br_t (nI_le (b := 25) (by omega) (by omega)) ?_)))
      rw [nI_clamp (show a < 2 ^ 31 by omega)]
      have e0 : ∀ x : Int64, vp_updL (vp_updL y_vals 0 (gl a)) 1 x 0 = gl a := fun x => by rw [pk_uLn (by decide), pk_uLs]
      have e1 : ∀ x : Int64, vp_updL (vp_updL y_vals 0 (gl a)) 1 x 1 = x := fun x => pk_uLs
      refine And.intro (vp_in_nI a26 (by decide)) (br_c H.1 (fun z => And.intro (vp_in_nI a26 (by decide)) (nm_e (nm_e ?_))))
      rw [e0, e1]
      exact H.2 z
    have relE : ∀ (xc xm : Nat → Int32) (xo xv : Nat → Int64) (s9 e9 o9 t9 u9 h9 : Int32), i_Rel (k + 5) (nI mo, nI mS, nI mD, nI pn, nI kt, nI kl, nI lc, nI cc, x_cursor, x_stop, x_waitingCount, x_openCount, nI cn, 0, 0, s9, e9, rc, pc, 0, 0, pd, LT, cd, x_waiting, gl, ex, ox, xm, lt, oc, at1, xc, HE, xo, lp) (nI mo, nI mS, nI mD, nI kp, nI (kp + pn), nI kt, nI pn, nI kl, nI cn, pc, 0, y_steps, 0, 0, 0, y_opens, y_pos, y_tk, y_tv, y_stmt, y_target, t9, rc, er, 0, 0, y_want, u9, y_ended, y_bad, h9, y_sawSuper, tx, y_numbers, gl, y_entries, at1, oc, y_alive, y_orders, y_lengths, lt, y_bases, xv, y_ops, y_locals, y_fRecv, y_fLine, y_fPos, y_fStmt, y_fTarget, y_fMask, y_fHome, y_fOps, y_fVals, y_fNew, lp) := by
      intro xc xm xo xv s9 e9 o9 t9 u9 h9
      exact ⟨tx, nu, LT, pd, cd, lc, kp, cc, P, ind, h, tk, ca, cb, us, ue, cn, ml, gl, ex, at1, HE, ox, oc, lt, lp, mo, mS, mD, kt, kl, pn, pc, rc, 0, er, 0, ⟨T, W, MC, H0, PD, ⟨kp1, kp2⟩, Or.inl rfl, ⟨m1, m2, m3, m4⟩, ⟨c1, by omega, c3, c4, c5⟩⟩, ⟨rfl, rfl, rfl, rfl, rfl, rfl, rfl, rfl, rfl, rfl, rfl, rfl, rfl, hs_sh0.symm, rfl, rfl, rfl, rfl, rfl, rfl, rfl, rfl, rfl, rfl, rfl, rfl⟩, ⟨⟨rfl, rfl, rfl, rfl, rfl, rfl, rfl, rfl, rfl, rfl, rfl, rfl, rfl, rfl, rfl, rfl, rfl, rfl, rfl, anu, rfl, rfl, rfl, rfl, rfl⟩, E, O, l0, f0, f1, f2⟩⟩
    refine nm_e (nm_e (nm_e (br_t rfl ?_)))
    rw [nI_clamp (show a < 2 ^ 31 by omega)]
    refine And.intro (vp_in_nI a26 (by decide)) (nm_e (br_c (fun z => ?_) (fun z => ?_)))
    · refine hs_errX (er := 2) pk_us (by decide) (by decide) (by decide) ?_
      exact hQ _ _ (ya _ ⟨fun _ => ⟨rfl, relE _ _ _ _ _ _ 0 _ _ _⟩, fun y => absurd z y⟩)
    · have tv : hs_vv (gl a) := (W.2.2.1 a a26).resolve_left z
      have ops : ∀ j, j < 2 → hs_vv (vp_updL (vp_updL x_operands 0 (gl a)) 1 (hs_int v3) j) := by
        intro j hj
        have : j = 0 ∨ j = 1 := by omega
        rcases this with rfl | rfl
        · rw [pk_uLn (by decide), pk_uLs]; exact tv
        · rw [pk_uLs]; exact hs_intV v3
      have op0 : vp_updL (vp_updL x_operands 0 (gl a)) 1 (hs_int v3) (2 - 1 - 1) = gl a := by
        show vp_updL (vp_updL x_operands 0 (gl a)) 1 (hs_int v3) 0 = gl a
        rw [pk_uLn (by decide), pk_uLs]
      have op1 : vp_updL (vp_updL x_operands 0 (gl a)) 1 (hs_int v3) (2 - 1) = hs_int v3 := pk_uLs
      have ha : hs_int v3 = 0 ↔ 1 = 0 := ⟨fun y => absurd y (hs_vvne (hs_intV v3)), fun y => absurd y (by decide)⟩
      refine hs_xPush (vt := 0) (by omega) ?_
      show wpX_pushInt _ _ _
      unfold wpX_pushInt
      refine hs_xPush (vt := 1) (by omega) ?_
      refine hs_xCallM (mk := 0) (q := 0) (P := P) (h := h) (lc := lc) (cn := cn) (ml := ml) (d := 0) (vt := 2) (n := n) (a := 1) (op := vp_updL (vp_updL x_operands 0 (gl a)) 1 (hs_int v3)) W ops (by omega) (by omega) n26 (fun he => ?_) (fun b c hb h0 hc hoc => ?_)
      · rw [op0] at he
        refine hs_errX (er := 3) pk_us (by decide) (by decide) (by decide) ?_
        exact hQ _ _ (ya _ ⟨fun y => absurd y z, fun _ => hs_yMethE n26 he (br_f (by decide) ⟨rfl, relE _ _ _ _ _ _ 0 _ _ _⟩)⟩)
      · rw [op0] at hb ⊢
        obtain ⟨w1, w2, w3, w4, w5, w6, w7, w8, w9⟩ := id W
        have hfo : ∀ m, hs_sea ex n (ml c) = some m → m < cn ∧ ex (m * 26 + n) ≠ 0 := by
          intro m hm
          obtain ⟨q1, q2⟩ := hs_seaM w2 hm
          have := (w9 c hc).2.2.2 m q1
          exact ⟨by omega, q2⟩
        refine hs_xStart (P := P) (h := h) (lc := lc) (tk := tk) (mD := mD) (d := 0) (vt := 2) (a := 1) (us := 1 + 1) (fo := hs_sea ex n (ml c)) (n := n) (op := vp_updL (vp_updL x_operands 0 (gl a)) 1 (hs_int v3)) w4 (fun m hm => ⟨by have := (hfo m hm).1; omega, (hfo m hm).2⟩) n26 (by omega) (fun _ => by omega) (by omega) (by omega) m4 (by omega) T.1 (fun l hl => by obtain ⟨sx, t, D, _⟩ := hs_hdf T l hl; exact ⟨sx, t, D⟩) (fun e S => br_t rfl ?_) (fun mm l sx t S D HE' q1 q2 q3 => br_f (by decide) ?_)
        · obtain ⟨e0, e9⟩ := hs_SEer S
          have e8 : e ≠ 8 := by
            rcases S with ⟨_, rfl⟩ | ⟨_, _, _, ⟨_, rfl⟩ | ⟨_, _, _, _, ⟨_, rfl⟩ | ⟨_, _, rfl⟩⟩⟩ <;> decide
          refine hs_errX (er := e) pk_us e0 e8 e9 ?_
          exact hQ _ _ (ya _ ⟨fun y => absurd y z, fun _ => hs_yMethM W E O n26 hb h0 hc hoc (hs_yInvE E n26 (by omega) ha m4 (by omega) (hs_hdf T) S (br_f e0 ⟨rfl, relE _ _ _ _ _ _ 0 _ _ _⟩))⟩)
        · have ec := hs_C40 (CL := upd (upd (upd x_calls 0 (-1)) 4 0) 2 (-1)) (d := 0) (l := l) (m := mm) (x := 2 - (1 + 1))
          have ei : (nI (0 + 2) - 1) * 6 + 0 = nI ((0 + 1) * 6) := by decide
          have el : nI l + 1 = nI (l + 1) := nI_1 l
          have dm := S.2.2.2.2.2.2
          have ldf := S.2.2.1
          have l405 := T.1
          have hop := hs_opNext (hs_Tck T ldf.1) (hs_TE T ldf.1).2.1 (hs_TE T ldf.1).2.2.1 (Or.inr (Or.inl ldf.2))
          have hcb := (hs_TE T ldf.1).2.2.2.1
          rw [ei, nI_clamp (show (0 + 1) * 6 < 2 ^ 31 by omega), ec.1, el]
          have Ih : hs_XI tx nu LT cd lc kp cc P ind h tk ca cb us ue mo mS mD 0 0 2 cn ml gl ex at1 ox oc lt HE (upd (upd (upd x_calls 0 (-1)) 4 0) 2 (-1)) (vp_updL (vp_updL x_operands 0 (gl a)) 1 (hs_int v3)) (fun _ => 0) (fun _ => 0) (fun _ => 0) (fun _ => 0) (fun _ => []) (fun _ => []) true := by
            refine ⟨T, ⟨m1, m2, m4, by omega, m3, by omega⟩, W, MC, ops, H0, fun k hk => ?_, fun k hk => by omega, fun k hk => by omega, fun _ y => by omega, rfl, rfl⟩
            have : k = 0 := by omega
            subst this
            refine ⟨?_, Nat.zero_le _, Nat.zero_le _, fun _ => ?_, fun y => by omega⟩
            · show upd (upd (upd x_calls 0 (-1)) 4 0) 2 (-1) 4 = nI 0
              rw [pk_un (by decide), pk_us]; rfl
            · rw [pk_un (by decide), pk_un (by decide), pk_us]
          have Lh : hs_XL h ind ca cb lc cn (upd (upd (upd x_calls 0 (-1)) 4 0) 2 (-1)) true 0 0 0 := ⟨fun _ => pk_us, fun y => absurd ⟨rfl, rfl⟩ y, fun _ y => (by cases y), fun y => by omega⟩
          have g := hs_callG (M := 250 * mS + 5) (mg := x_merging) (pc := pc) (rc := rc) (lp := lp) (on := 0) (vn := 2 - (1 + 1)) (l := l) (CL2 := hs_C4 (upd (upd (upd x_calls 0 (-1)) 4 0) 2 (-1)) 0 l mm (2 - (1 + 1))) (HE' := HE') (yk := nI kp) (yen := nI (kp + pn)) (yto := nI kt) (ype := nI pn) (yli := nI kl) (x_pendingCount := nI pn) (x_keptTokens := nI kt) (x_keptLines := nI kl) (x_codeCount := nI cc) (x_cursor := x_cursor) (x_stop := x_stop) (x_waitingCount := x_waitingCount) (x_openCount := x_openCount) (x_lastResult := hs_sh oc rv) (x_pending := pd) (x_waiting := x_waiting) (hs_Main (250 * mS + 5)).1 Ih Lh (fun y => absurd ⟨rfl, rfl⟩ y) (fun _ _ => ⟨rfl, rfl⟩) dm (by omega) W ldf (fun j hj => hs_C4n hj) ec.2.2.1 ec.1 ⟨mm, (hfo mm S.1).1, ec.2.1⟩ (Or.inl ec.2.2.2) q1 ⟨b, by rw [q2]; exact hb⟩ (fun j hj => by rw [q3 j hj]; exact hs_lv1v tv (fun _ _ => by rw [op1]; exact hs_intV v3) j) (by show 250 * (mS - 0) + (0 + (3 * (2 * 0 + 0) + 3)) + 2 ≤ 250 * mS + 5; omega)
          refine And.intro (vp_in_nI (by omega) (by decide)) (hs_xReach (d := 0 + 1) (s := 0) (by omega) (by omega) (by omega) m3 ?_)
          unfold wX_call_61
          refine hs_exec (k := k + 5) g (by omega) (by omega) T PD ⟨kp1, kp2⟩ ⟨m1, m2, m3, m4⟩ ⟨c1, by omega, c3, c4, c5⟩ (fun er' u1 hm => ?_)
          obtain ⟨m, hm⟩ := hm
          refine hQ _ _ (ya _ ⟨fun y => absurd y z, fun _ => hs_yMethM W E O n26 hb h0 hc hoc ?_⟩)
          obtain ⟨t1, t2, t3, t4, t5, t6, t7, t8, t9, t10, t11⟩ := T.2.2.2 l ldf.1
          have K := hs_Tck T ldf.1
          obtain ⟨n1, n2, n3, n4, n5⟩ := t8
          have hk2 : LT (l * 14) = 2 := by
            obtain ⟨e, c0, _, _, _, _, n9⟩ := n5
            have kd := hs_LFkd n9
            rw [← (t7 l t1 t2).2.2.2] at kd
            exact (hs_kdE kd (w := 2) (by decide)).mpr ldf.2
          have hlm := n4 hk2
          refine hs_yInvC (d := 0) (vt := 2) (us := 2) (ot := 0) (fr := 0) (a := 1) E n26 (by omega) ha m4 (by omega) (by omega) (by omega) t6 t7 (fun j j1 j2 => (K.1 j j1 j2).1.2.1) t1 hop.1 D S (fun lo' p1 p2 => br_t rfl (hs_goV (hm _ ⟨⟨rfl, rfl, rfl, rfl, rfl, rfl, rfl, rfl, rfl, rfl, rfl, rfl, rfl, rfl, rfl, rfl, rfl, rfl, rfl, rfl, rfl, rfl, anu, rfl, rfl, rfl, rfl, rfl⟩, E, O, fun j hj => by omega, fun j hj => by rw [p1 j (by omega)]; exact l0 j hj, fun k hk => ?_, fun k hk nk => ?_, rfl, ?_, rfl⟩)))
          · rcases Nat.lt_or_ge 0 k with y | y
            · have ek : k = 0 + 1 := by omega
              subst ek
              rw [hs_put1S, hs_put1S]
              refine ⟨pk_us, pk_us, fun y => by omega, fun _ => ⟨?_, ?_, ?_, ?_, fun i hi => ?_⟩⟩
              · rw [pk_us]; exact hlm.symm
              · rw [pk_us]; exact ec.2.1.symm
              · rw [pk_us]; exact ec.2.2.2.symm
              · rw [pk_uLs]; exact q2.symm
              · rw [p2 i hi, q3 i hi, op1]
            · have ek : k = 0 := by omega
              subst ek
              exact ⟨by rw [pk_un (by decide)]; exact f1, by rw [pk_un (by decide)]; exact f2, fun _ => by rw [pk_un (by decide)]; exact f0, fun y => by omega⟩
          · exact absurd ⟨rfl, by omega⟩ nk
          · rw [pk_us, hs_put1S]
  · subst ea
    refine hQ _ _ (br_f (nI_pos (by omega)) (br_f (fun z => by have := (nI_ltI (a := 25) (b := a) (by omega) (by omega)).mp z; omega) ?_))
    rcases hb with z | z
    · exact br_t z ⟨rfl, J⟩
    · exact br_f (hs_26 z).1 (br_f (hs_26 z).2.1 ⟨rfl, J⟩)
  · refine hQ _ _ ?_
    rcases hb with z | z
    · exact br_t z ⟨rfl, J⟩
    · exact br_f (hs_26 z).1 (br_t (hs_26 z).2.2 ⟨rfl, J⟩)
end
