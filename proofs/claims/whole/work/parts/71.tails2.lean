/-! a call is left; an error is held, or ends all -/
section
variable {x_objectLimit x_stepLimit x_depthLimit x_pendingCount x_keptTokens x_keptLines x_lineCount x_codeCount x_cursor x_stop x_waitingCount x_openCount x_classCount x_callCount x_operandCount x_stepsTaken x_error x_raisedCode x_printCount x_lastPlace : Int32} {x_lastResult : Int64} {x_pending x_lineTable x_orders x_merging x_letterClass x_objectClass x_calls x_lastPrints : Nat → Int32} {x_code x_waiting x_globals x_entries x_attributes x_held x_operands : Nat → Int64}
variable {y_maxObjects y_maxSteps y_maxDepth y_kept y_end y_tokens y_pending y_lines y_classes y_prints y_place y_steps y_d y_valTop y_opTop y_opens y_pos y_tk y_tv y_stmt y_target y_err y_code y_outcome y_dry y_want y_starting y_ended y_bad y_hosted y_sawSuper : Int32} {y_result : Int64} {y_text y_numbers y_classOf y_alive y_orders y_lengths y_letters y_bases y_ops y_fLine y_fPos y_fStmt y_fTarget y_fMask y_fHome y_fOps y_fVals y_fNew y_out : Nat → Int32} {y_globals y_entries y_attrs y_vals y_locals y_fRecv : Nat → Int64}
variable {tx nu LT : Nat → Int32} {cd : Nat → Int64} {lc kp cc : Nat} {P ind h : Nat → Nat} {tk : Nat → List Nat} {ca cb us ue : Nat → Nat} {yk yen yto ype yli : Int32} {mo mS mD : Nat} {ho : Bool}
variable {s d vt cn : Nat} {ml : Nat → List Nat} {gl ex at1 HE op : Nat → Int64} {ox oc lt lp CL mg : Nat → Int32} {pc rc : Int32} {fl dl vb ob : Nat → Nat} {ts st : Nat → List Nat} {M : Nat}
theorem hs_mk0 {q : Nat} : ((hs_mk1 LT dl 0) >>> (nI q &&& 31)) &&& 1 = 0 := by
  show ((0 : Int32) >>> (nI q &&& 31)) &&& 1 = 0
  have : (0 : Int32) >>> (nI q &&& 31) = 0 := by simp
  rw [this]; rfl
theorem hs_XIsn {q : Nat} {v : Int64} (I : hs_XI tx nu LT cd lc kp cc P ind h tk ca cb us ue mo mS mD s d vt cn ml gl ex at1 ox oc lt HE CL op fl dl vb ob ts st ho) (hq : q < 26) (hv : hs_vv v) : (∀ j, j < 27 → hs_sH (hs_mk1 LT dl d) HE q (d * 27 + q) v j = 0) ∧ ∀ k, 1 ≤ k → k ≤ d → hs_sH (hs_mk1 LT dl d) HE q (d * 27 + q) v (k * 27 + 26) = HE (k * 27 + 26) ∧ ∀ j, j < 26 → hs_v0 (hs_sH (hs_mk1 LT dl d) HE q (d * 27 + q) v (k * 27 + j)) := by
  obtain ⟨i1, i2⟩ := hs_XIh I
  unfold hs_sH
  split
  · exact ⟨i1, fun k k1 k2 => ⟨rfl, (i2 k k1 k2).2⟩⟩
  · rename_i z
    have hd : 1 ≤ d := by
      rcases Nat.lt_or_ge 0 d with y | y
      · exact y
      · have : d = 0 := by omega
        subst this
        exact absurd hs_mk0 z
    refine ⟨fun j hj => by rw [pk_uLn (by omega)]; exact i1 j hj, fun k k1 k2 => ⟨pk_uLn (by omega), fun j hj => ?_⟩⟩
    by_cases y : k * 27 + j = d * 27 + q
    · rw [y, pk_uLs]; exact Or.inr hv
    · rw [pk_uLn y]; exact (i2 k k1 k2).2 j hj
theorem hs_YCset {f j : Nat} {mk : Int32} {v : Int64} {fMa fHo fVa fOp fNe : Nat → Int32} {fRe loc : Nat → Int64} {dlk vbk obk k : Nat} (hf : f < 26) (C : hs_YC LT CL HE fMa fHo fVa fOp fNe fRe loc dlk vbk obk k) : hs_YC LT CL (hs_sH mk HE f (j * 27 + f) v) fMa fHo fVa fOp fNe fRe (hs_sH mk loc f (j * 26 + f) v) dlk vbk obk k := by
  obtain ⟨c1, c2, c3, c4⟩ := C
  refine ⟨c1, c2, c3, fun z => ?_⟩
  obtain ⟨e1, e2, e3, e4, e5⟩ := c4 z
  unfold hs_sH
  by_cases y : (mk >>> (nI f &&& 31)) &&& 1 = 0
  · rw [if_pos y, if_pos y]
    exact ⟨e1, e2, e3, e4, e5⟩
  · rw [if_neg y, if_neg y]
    refine ⟨e1, e2, e3, by rw [pk_uLn (by omega)]; exact e4, fun i hi => ?_⟩
    by_cases w : k * 26 + i = j * 26 + f
    · have w1 : k = j := by omega
      have w2 : i = f := by omega
      subst w1 w2
      rw [pk_uLs, pk_uLs]
    · rw [pk_uLn w, pk_uLn (by omega)]; exact e5 i hi
theorem hs_loc0 {f j : Nat} {v : Int64} {loc : Nat → Int64} (h0 : ∀ i, i < 26 → loc i = 0) : ∀ i, i < 26 → hs_sH (hs_mk1 LT dl j) loc f (j * 26 + f) v i = 0 := by
  intro i hi
  unfold hs_sH
  split
  · exact h0 i hi
  · rename_i z
    have hd : 1 ≤ j := by
      rcases Nat.lt_or_ge 0 j with y | y
      · exact y
      · have : j = 0 := by omega
        subst this
        exact absurd hs_mk0 z
    rw [pk_uLn (by omega)]; exact h0 i hi
theorem hs_tLeave {ans : Int64} {x14 : Int32} (G : hs_GB tx nu LT cd lc kp cc P ind h tk ca cb us ue yk yen yto ype yli mo mS mD ho x_pendingCount x_keptTokens x_keptLines x_codeCount x_cursor x_stop x_waitingCount x_openCount x_lastResult x_pending x_waiting M) (I : hs_XI tx nu LT cd lc kp cc P ind h tk ca cb us ue mo mS mD s (d + 1) vt cn ml gl ex at1 ox oc lt HE CL op fl dl vb ob ts st ho) (hvt : vb (d + 1) ≤ vt) (hans : hs_vv ans) (hM : 250 * (mS - s) + hs_pot ts st (d + 1) ≤ M) (hM2 : 1 ≤ M) :
    hs_Gt (hs_F tx nu LT cd lc P h yk yen yto ype yli mo mS mD x_pendingCount x_keptTokens x_keptLines x_codeCount x_cursor x_stop x_waitingCount x_openCount x_lastResult x_pending x_waiting) M (fun c => wpX_leaveCall (fun u => match u with | (x_objectLimitq, x_stepLimitq, x_depthLimitq, x_pendingCountq, x_keptTokensq, x_keptLinesq, x_lineCountq, x_codeCountq, x_cursorq, x_stopq, x_waitingCountq, x_openCountq, x_classCountq, x_callCountq, x_operandCountq, x_stepsTakenq, x_errorq, x_raisedCodeq, x_printCountq, x_lastResultq, x_lastPlaceq, x_pendingq, x_lineTableq, x_codeq, x_waitingq, x_globalsq, x_entriesq, x_ordersq, x_mergingq, x_letterClassq, x_objectClassq, x_attributesq, x_callsq, x_heldq, x_operandsq, x_lastPrintsq) => c (x_objectLimitq, x_stepLimitq, x_depthLimitq, x_pendingCountq, x_keptTokensq, x_keptLinesq, x_lineCountq, x_codeCountq, x_cursorq, x_stopq, x_waitingCountq, x_openCountq, x_classCountq, x_callCountq, x_operandCountq, x_stepsTakenq, x_errorq, x_raisedCodeq, x_printCountq, x_lastResultq, x_lastPlaceq, x_pendingq, x_lineTableq, x_codeq, x_waitingq, x_globalsq, x_entriesq, x_ordersq, x_mergingq, x_letterClassq, x_objectClassq, x_attributesq, x_callsq, x_heldq, x_operandsq, x_lastPrintsq)) (nI mo, nI mS, nI mD, x_pendingCount, x_keptTokens, x_keptLines, nI lc, x_codeCount, x_cursor, x_stop, x_waitingCount, x_openCount, nI cn, nI (d + 1 + 1), x14, nI s, 0, rc, pc, x_lastResult, 0, x_pending, LT, cd, x_waiting, gl, ex, ox, mg, lt, oc, at1, CL, HE, op, lp) ans) (fun c => ∀ c' : SY → Prop, (∀ u, c u → c' u) → ∀ v, hs_VC tx nu LT P h lc yk yen yto ype yli mo mS mD gl ex at1 oc lt lp CL HE op ml cn (d + 1) (vb (d + 1)) s pc rc fl dl vb ob ts st ho 0 v → wpY_giveBack (fun u => match u with | (y_maxObjectsq, y_maxStepsq, y_maxDepthq, y_keptq, y_endq, y_tokensq, y_pendingq, y_linesq, y_classesq, y_printsq, y_placeq, y_stepsq, y_dq, y_valTopq, y_opTopq, y_opensq, y_posq, y_tkq, y_tvq, y_stmtq, y_targetq, y_errq, y_codeq, y_outcomeq, y_resultq, y_dryq, y_wantq, y_startingq, y_endedq, y_badq, y_hostedq, y_sawSuperq, y_textq, y_numbersq, y_globalsq, y_entriesq, y_attrsq, y_classOfq, y_aliveq, y_ordersq, y_lengthsq, y_lettersq, y_basesq, y_valsq, y_opsq, y_localsq, y_fRecvq, y_fLineq, y_fPosq, y_fStmtq, y_fTargetq, y_fMaskq, y_fHomeq, y_fOpsq, y_fValsq, y_fNewq, y_outq) => c' (y_maxObjectsq, y_maxStepsq, y_maxDepthq, y_keptq, y_endq, y_tokensq, y_pendingq, y_linesq, y_classesq, y_printsq, y_placeq, y_stepsq, y_dq, y_valTopq, y_opTopq, y_opensq, y_posq, y_tkq, y_tvq, y_stmtq, y_targetq, y_errq, y_codeq, y_outcomeq, y_resultq, y_dryq, y_wantq, y_startingq, y_endedq, y_badq, y_hostedq, y_sawSuperq, y_textq, y_numbersq, y_globalsq, y_entriesq, y_attrsq, y_classOfq, y_aliveq, y_ordersq, y_lengthsq, y_lettersq, y_basesq, y_valsq, y_opsq, y_localsq, y_fRecvq, y_fLineq, y_fPosq, y_fStmtq, y_fTargetq, y_fMaskq, y_fHomeq, y_fOpsq, y_fValsq, y_fNewq, y_outq)) v ans) := by
  have I0 := I
  obtain ⟨T, ⟨B1, B2, B3, B4, B5, B6⟩, W, MC, OV, H0, XCk, XLk, XSk, HO, v0, o0⟩ := I
  obtain ⟨x1, x2, x3, x4, x5⟩ := XCk (d + 1) (Nat.le_refl _)
  obtain ⟨y1, y2, y3, ⟨o, y4, y5⟩, y6⟩ := x5 (by omega)
  have hr : hs_vv (if CL ((d + 1) * 6 + 5) = 1 then HE ((d + 1) * 27 + 26) else ans) := by
    split
    · rw [y5]; exact hs_objV y4
    · exact hans
  generalize hrr : (if CL ((d + 1) * 6 + 5) = 1 then HE ((d + 1) * 27 + 26) else ans) = r at hr
  have yr : ∀ (fNe : Nat → Int32) (fRe : Nat → Int64), fNe (d + 1) = CL ((d + 1) * 6 + 5) → fRe (d + 1) = HE ((d + 1) * 27 + 26) → r = if fNe (d + 1) = 0 then ans else fRe (d + 1) := by
    intro fNe fRe n1 n2
    rw [n1, n2, ← hrr]
    rcases y3 with z | z
    · rw [z, if_neg (by decide), if_pos rfl]
    · rw [z, if_pos rfl, if_neg (by decide)]
  by_cases hh : ho = true ∧ d = 0
  · obtain ⟨hh1, rfl⟩ := hh
    subst hh1
    obtain ⟨hb1, hb2⟩ := HO rfl (by omega)
    have c2 := (XLk 0 (by omega)).1 ⟨rfl, rfl⟩
    intro i k n hi hk hn post HP
    refine hs_xLeave (d := 0 + 1) (by omega) (by omega) x1 (by omega) y3 hrr.symm ?_
    refine hs_lXnI ?_
    obtain ⟨n', rfl⟩ : ∃ n', n = n' + 1 := ⟨n - 1, by omega⟩
    refine br_f (nI_ge (b := 1000000) (by omega) (by decide)) (nm_r (show ((nI (0 + 1)) - 1) * 6 = 0 by decide) (And.intro (pk_in 2 42 (by omega) (by decide)) (nm_r (show CL ((0 : Int32) + 2).toNatClampNeg = -1 from c2) (br_t rfl (br_t rfl ?_)))))
    refine HP _ (hs_VF tx nu P h lc yk yen yto ype yli mo mS mD gl ex at1 oc lt lp ml cn pc rc 0 0 r) ⟨cn, ml, gl, ex, at1, HE, _, ox, oc, lt, lp, CL, mg, _, _, _, pc, rc, 0, 0, r, W, MC, H0, ⟨fun _ => Or.inr ⟨?_, hr, ?_⟩, fun z => absurd z (by decide), fun z => absurd rfl z⟩, rfl, rfl⟩ (fun Q hQ m hm c' hc' v hv => ?_)
    · rw [hb1]; rfl
    · rw [hb1]; exact pk_uLs
    obtain ⟨m', rfl⟩ : ∃ m', m = m' + 1 := ⟨m - 1, by omega⟩
    obtain ⟨y_maxObjects, y_maxSteps, y_maxDepth, y_kept, y_end, y_tokens, y_pending, y_lines, y_classes, y_prints, y_place, y_steps, y_d, y_valTop, y_opTop, y_opens, y_pos, y_tk, y_tv, y_stmt, y_target, y_err, y_code, y_outcome, y_result, y_dry, y_want, y_starting, y_ended, y_bad, y_hosted, y_sawSuper, y_text, y_numbers, y_globals, y_entries, y_attrs, y_classOf, y_alive, y_orders, y_lengths, y_letters, y_bases, y_vals, y_ops, y_locals, y_fRecv, y_fLine, y_fPos, y_fStmt, y_fTarget, y_fMask, y_fHome, y_fOps, y_fVals, y_fNew, y_out⟩ := v
    obtain ⟨⟨a1, a2, a3, a4, a5, a6, a7, a8, a9, a10, a11, a12, a13, a14, a15, a16, a17, a18, a19, a20, a21, anu, a23, a24, a25, a26, a27⟩, E, O, va, l0, C, K, q⟩ := hv
    (have a1 := a1.symm; have a2 := a2.symm; have a3 := a3.symm; have a4 := a4.symm; have a5 := a5.symm; have a6 := a6.symm; have a7 := a7.symm; have a8 := a8.symm; have a9 := a9.symm; have a10 := a10.symm; have a11 := a11.symm; have a12 := a12.symm; have a13 := a13.symm; have a14 := a14.symm; have a15 := a15.symm; have a16 := a16.symm; have a17 := a17.symm; have a18 := a18.symm; have a19 := a19.symm; have a20 := a20.symm; have a21 := a21.symm; have a23 := a23.symm; have a24 := a24.symm; have a25 := a25.symm; have a26 := a26.symm; have a27 := a27.symm; subst a1 a2 a3 a4 a5 a6 a7 a8 a9 a10 a11 a12 a13 a14 a15 a16 a17 a18 a19 a20 a21 a23 a24 a25 a26 a27)
    obtain ⟨c1, c2, c3, c4⟩ := C (0 + 1) (Nat.le_refl _)
    obtain ⟨m1, m2, m3, m4, m5⟩ := c4 (by omega)
    obtain ⟨f1, f2, f3, f4⟩ := C 0 (by omega)
    rw [v0] at f1
    rw [o0] at f2
    refine hs_yGive (d := 0) (by omega) c1 (by omega) c2 (yr _ _ m3 m4) (fun _ _ => ?_) (fun z => absurd ⟨rfl, by decide⟩ z)
    exact hc' _ (br_t rfl (nm_e (br_c (fun _ => hQ _ ⟨⟨rfl, rfl, rfl, rfl, rfl, rfl, rfl, rfl, rfl, rfl, rfl, rfl, rfl, rfl, rfl, rfl, rfl, rfl, rfl, anu, rfl, rfl, rfl, rfl, rfl⟩, E, O, l0, f3 rfl, f1, f2⟩) (fun _ => br_f (by decide) (hQ _ ⟨⟨rfl, rfl, rfl, rfl, rfl, rfl, rfl, rfl, rfl, rfl, rfl, rfl, rfl, rfl, rfl, rfl, rfl, rfl, rfl, anu, rfl, rfl, rfl, rfl, rfl⟩, E, O, l0, f3 rfl, f1, f2⟩)))))
  · obtain ⟨s1, s2, s3⟩ := XSk d (by omega) hh
    have OV' : ∀ j, j < vb (d + 1) + 1 → hs_vv (vp_updL op (vb (d + 1)) r j) := by
      intro j hj
      by_cases z : j = vb (d + 1)
      · rw [z, pk_uLs]; exact hr
      · rw [pk_uLn z]; exact OV j (by omega)
    have I' : hs_XI tx nu LT cd lc kp cc P ind h tk ca cb us ue mo mS mD s d (vb (d + 1) + 1) cn ml gl ex at1 ox oc lt HE CL (vp_updL op (vb (d + 1)) r) fl dl vb ob ts st ho := hs_XIpop I0 (by omega) OV'
    have m' : hs_MB h ind ca cb lc cn CL ho LT cd fl dl vb ts st d (vb (d + 1) + 1) false := by
      refine ⟨XLk d (by omega), s1, ?_, hh⟩
      have e : hs_nv (st d) false = hs_nst (st d) + 1 := rfl
      omega
    have hp : hs_pot ts st (d + 1) = hs_pot ts st d + (3 * (2 * (ts d).length + (st d).length) + 3) := rfl
    have g := hs_tGo (fun v hv => hs_Verr hv) (G s d (vb (d + 1) + 1) cn ml gl ex at1 HE (vp_updL op (vb (d + 1)) r) ox oc lt lp CL mg pc rc fl dl vb ob ts st false I' m' (by omega))
    intro i k n hi hk hn post HP
    refine hs_xLeave (d := d + 1) (by omega) (by omega) x1 (by omega) y3 hrr.symm ?_
    refine g i k n hi hk hn post (fun u' V' f gg => HP u' V' f (fun Q hQ m hm c' hc' v hv => ?_))
    have ge := gg Q hQ m hm
    clear gg HP g G
    obtain ⟨y_maxObjects, y_maxSteps, y_maxDepth, y_kept, y_end, y_tokens, y_pending, y_lines, y_classes, y_prints, y_place, y_steps, y_d, y_valTop, y_opTop, y_opens, y_pos, y_tk, y_tv, y_stmt, y_target, y_err, y_code, y_outcome, y_result, y_dry, y_want, y_starting, y_ended, y_bad, y_hosted, y_sawSuper, y_text, y_numbers, y_globals, y_entries, y_attrs, y_classOf, y_alive, y_orders, y_lengths, y_letters, y_bases, y_vals, y_ops, y_locals, y_fRecv, y_fLine, y_fPos, y_fStmt, y_fTarget, y_fMask, y_fHome, y_fOps, y_fVals, y_fNew, y_out⟩ := v
    obtain ⟨⟨a1, a2, a3, a4, a5, a6, a7, a8, a9, a10, a11, a12, a13, a14, a15, a16, a17, a18, a19, a20, a21, anu, a23, a24, a25, a26, a27⟩, E, O, va, l0, C, K, q⟩ := hv
    (have a1 := a1.symm; have a2 := a2.symm; have a3 := a3.symm; have a4 := a4.symm; have a5 := a5.symm; have a6 := a6.symm; have a7 := a7.symm; have a8 := a8.symm; have a9 := a9.symm; have a10 := a10.symm; have a11 := a11.symm; have a12 := a12.symm; have a13 := a13.symm; have a14 := a14.symm; have a15 := a15.symm; have a16 := a16.symm; have a17 := a17.symm; have a18 := a18.symm; have a19 := a19.symm; have a20 := a20.symm; have a21 := a21.symm; have a23 := a23.symm; have a24 := a24.symm; have a25 := a25.symm; have a26 := a26.symm; have a27 := a27.symm; subst a1 a2 a3 a4 a5 a6 a7 a8 a9 a10 a11 a12 a13 a14 a15 a16 a17 a18 a19 a20 a21 a23 a24 a25 a26 a27)
    obtain ⟨c1, c2, c3, c4⟩ := C (d + 1) (Nat.le_refl _)
    obtain ⟨m1, m2, m3, m4, m5⟩ := c4 (by omega)
    obtain ⟨k1, pp, p1, p2, p3, p4, p5⟩ := K d (by omega) hh
    refine hs_yGive (d := d) (by omega) c1 (by omega) c2 (yr _ _ m3 m4) (fun z1 z2 => ?_) (fun _ => hc' _ (ge _ ⟨⟨rfl, rfl, rfl, rfl, rfl, rfl, rfl, rfl, rfl, rfl, rfl, rfl, rfl, rfl, rfl, rfl, rfl, rfl, rfl, rfl, rfl, rfl, anu, rfl, rfl, rfl, rfl, rfl⟩, E, O, fun j hj => ?_, l0, fun k hk => C k (by omega), fun k hk nh => K k (by omega) nh, rfl, k1, rfl, pp, p1, p2, p3, p4, congrArg nI s3, by rw [← s3]; exact p5⟩))
    · exfalso
      cases ho with
      | true => exact hh ⟨rfl, z1⟩
      | false => exact z2 rfl
    · by_cases z : j = vb (d + 1)
      · rw [z, pk_uLs, pk_uLs]
      · rw [pk_uLn z, pk_uLn z]; exact va j (by omega)
/-- the letter of the except line that holds an error -/
def hs_exl (LT : Nat → Int32) (e : Nat) : Nat := (LT (e * 14 + 5)).toNatClampNeg
theorem hs_hkF {j t : Nat} (T : hs_T tx nu LT cd lc kp cc P ind h tk ca cb us ue) (c2 : ¬ (ho = true ∧ j = 0) → fl j < lc) (hk : hs_hdl h ind ca ho fl j = some t) : ¬ (ho = true ∧ j = 0) ∧ hs_bk ind (cb (fl j)) t + 1 < cb (fl j) ∧ ca (fl j) ≤ hs_bk ind (cb (fl j)) t ∧ h (hs_bk ind (cb (fl j)) t) = 8 ∧ hs_D h ind (ca (fl j)) (hs_bk ind (cb (fl j)) t + 1) = hs_D h ind (ca (fl j)) (fl j) ∧ (hs_in h ind (ca (fl j)) 1 9 (hs_bk ind (cb (fl j)) t + 1) = true → hs_in h ind (ca (fl j)) 1 9 (fl j) = true) ∧ h (hs_bk ind (cb (fl j)) t + 1) ≠ 5 ∧ h (hs_bk ind (cb (fl j)) t + 1) ≠ 8 := by
  have nh : ¬ (ho = true ∧ j = 0) := by
    intro z
    unfold hs_hdl at hk
    rw [if_pos z] at hk; cases hk
  have hl := c2 nh
  have K := hs_Tck T hl
  obtain ⟨e1, e2, e3, e4, e5⟩ := hs_TE T hl
  unfold hs_hdl at hk
  rw [if_neg nh] at hk
  obtain ⟨t1, t2, t3, t4, t5⟩ := hs_trF K 9 (fl j) t e2 e3 hk
  obtain ⟨x1, x2, x3, x4, x5, x6⟩ := hs_exNext K t1 t2 t3
  have F := (hs_bkF (ind := ind) t2).1
  exact ⟨nh, x1, by omega, x2, by rw [x3]; exact t4, fun z => t5 (x4 z), x5, x6⟩
theorem hs_yUnw {er : Int32} {post : SY → Prop} {v : SY} (I : hs_XI tx nu LT cd lc kp cc P ind h tk ca cb us ue mo mS mD s d vt cn ml gl ex at1 ox oc lt HE CL op fl dl vb ob ts st ho) (nh : ¬ (ho = true ∧ d = 0)) (L : hs_XL h ind ca cb lc cn CL ho (fl d) (dl d) d) (V : hs_VC tx nu LT P h lc yk yen yto ype yli mo mS mD gl ex at1 oc lt lp CL HE op ml cn d (vb d) s pc rc fl dl vb ob ts st ho er v)
    (Hn : (∀ k, k ≤ d → hs_hdl h ind ca ho fl k = none) → ∀ v1, (match v1 with | (y_maxObjects, y_maxSteps, y_maxDepth, y_kept, y_end, y_tokens, y_pending, y_lines, y_classes, y_prints, y_place, y_steps, y_d, y_valTop, y_opTop, y_opens, y_pos, y_tk, y_tv, y_stmt, y_target, y_err, y_code, y_outcome, y_result, y_dry, y_want, y_starting, y_ended, y_bad, y_hosted, y_sawSuper, y_text, y_numbers, y_globals, y_entries, y_attrs, y_classOf, y_alive, y_orders, y_lengths, y_letters, y_bases, y_vals, y_ops, y_locals, y_fRecv, y_fLine, y_fPos, y_fStmt, y_fTarget, y_fMask, y_fHome, y_fOps, y_fVals, y_fNew, y_out) => y_ended = 1 ∧ y_err = er ∧ hs_VF tx nu P h lc yk yen yto ype yli mo mS mD gl ex at1 oc lt lp ml cn pc rc er (LT (fl d * 14 + 2)) (if er = 8 then hs_int rc else 0) (y_maxObjects, y_maxSteps, y_maxDepth, y_kept, y_end, y_tokens, y_pending, y_lines, y_classes, y_prints, y_place, y_steps, 0, 0, 0, y_opens, y_pos, y_tk, y_tv, y_stmt, y_target, y_err, y_code, y_outcome, y_result, y_dry, y_want, y_starting, y_ended, y_bad, y_hosted, y_sawSuper, y_text, y_numbers, y_globals, y_entries, y_attrs, y_classOf, y_alive, y_orders, y_lengths, y_letters, y_bases, y_vals, y_ops, y_locals, y_fRecv, y_fLine, y_fPos, y_fStmt, y_fTarget, y_fMask, y_fHome, y_fOps, y_fVals, y_fNew, y_out)) → post v1)
    (Hf : ∀ j t, j ≤ d → (∀ k, j < k → k ≤ d → hs_hdl h ind ca ho fl k = none) → hs_hdl h ind ca ho fl j = some t → ∀ v1, hs_V tx nu LT P h lc yk yen yto ype yli mo mS mD (hs_sg (hs_mk1 LT dl j) gl (hs_exl LT (hs_bk ind (cb (fl j)) t)) (hs_int (if er = 8 then rc else er))) ex at1 oc lt lp CL (hs_sH (hs_mk1 LT dl j) HE (hs_exl LT (hs_bk ind (cb (fl j)) t)) (j * 27 + hs_exl LT (hs_bk ind (cb (fl j)) t)) (hs_int (if er = 8 then rc else er))) op ml cn j (vb j) s pc rc (hs_put1 fl j (hs_bk ind (cb (fl j)) t + 1)) dl vb ob ts st ho (some none) v1 → post v1) : wpY_unwind post v := by
  have I0 := I
  have mono := hs_XIvb I
  obtain ⟨T, ⟨B1, B2, B3, B4, B5, B6⟩, W, MC, OV, H0, XCk, XLk, XSk, HO, v0, o0⟩ := I
  have hfl : ∀ k, k ≤ d → ¬ (ho = true ∧ k = 0) → fl k < lc := by
    intro k hk z
    rcases Nat.lt_or_ge k d with y | y
    · exact ((XLk k y).2.1 z).2
    · have : k = d := by omega
      subst this; exact (L.2.1 z).2
  have fd := hfl d (Nat.le_refl _) nh
  obtain ⟨t1, t2, t3, t4, t5, t6, t7, t8, t9, t10, t11⟩ := T.2.2.2 (fl d) fd
  have pl := (hs_yPlt t6 t1 t2).1
  obtain ⟨y_maxObjects, y_maxSteps, y_maxDepth, y_kept, y_end, y_tokens, y_pending, y_lines, y_classes, y_prints, y_place, y_steps, y_d, y_valTop, y_opTop, y_opens, y_pos, y_tk, y_tv, y_stmt, y_target, y_err, y_code, y_outcome, y_result, y_dry, y_want, y_starting, y_ended, y_bad, y_hosted, y_sawSuper, y_text, y_numbers, y_globals, y_entries, y_attrs, y_classOf, y_alive, y_orders, y_lengths, y_letters, y_bases, y_vals, y_ops, y_locals, y_fRecv, y_fLine, y_fPos, y_fStmt, y_fTarget, y_fMask, y_fHome, y_fOps, y_fVals, y_fNew, y_out⟩ := v
  obtain ⟨⟨a1, a2, a3, a4, a5, a6, a7, a8, a9, a10, a11, a12, a13, a14, a15, a16, a17, a18, a19, a20, a21, anu, a23, a24, a25, a26, a27⟩, E, O, va, l0, C, K, q⟩ := V
  (have a1 := a1.symm; have a2 := a2.symm; have a3 := a3.symm; have a4 := a4.symm; have a5 := a5.symm; have a6 := a6.symm; have a7 := a7.symm; have a8 := a8.symm; have a9 := a9.symm; have a10 := a10.symm; have a11 := a11.symm; have a12 := a12.symm; have a13 := a13.symm; have a14 := a14.symm; have a15 := a15.symm; have a16 := a16.symm; have a17 := a17.symm; have a18 := a18.symm; have a19 := a19.symm; have a20 := a20.symm; have a21 := a21.symm; have a23 := a23.symm; have a24 := a24.symm; have a25 := a25.symm; have a26 := a26.symm; have a27 := a27.symm; subst a1 a2 a3 a4 a5 a6 a7 a8 a9 a10 a11 a12 a13 a14 a15 a16 a17 a18 a19 a20 a21 a23 a24 a25 a26 a27)
  have hfy : ∀ k, k ≤ d → ¬ (ho = true ∧ k = 0) → y_fLine k = nI (P (fl k)) ∧ fl k < lc := by
    intro k hk z
    refine ⟨?_, hfl k hk z⟩
    rcases Nat.lt_or_ge k d with y | y
    · exact (K k y z).1
    · have : k = d := by omega
      subst this; exact q
  have w18 : wY_unwind_18 post (nI mo) (nI mS) (nI mD) yk yen yto ype yli (nI cn) pc 0 (nI s) (nI d) y_valTop y_opTop y_opens y_pos y_tk y_tv y_stmt y_target er rc 0 0 0 y_want y_starting 0 y_bad (hs_b ho) y_sawSuper tx y_numbers gl y_entries at1 oc y_alive y_orders y_lengths lt y_bases y_vals y_ops y_locals y_fRecv y_fLine y_fPos y_fStmt y_fTarget y_fMask y_fHome y_fOps y_fVals y_fNew lp := by
    unfold wY_unwind_18
    rw [nI_clamp (show d < 2 ^ 31 by omega), q, nI_clamp (show P (fl d) < 2 ^ 31 by omega)]
    refine And.intro (vp_in_nI (by omega) (by decide)) (And.intro (vp_in_nI pl (by decide)) (nm_r ((anu _ fd).trans t11) ⟨d + 3, hs_yU35 (z0 := if er = 8 then rc else er) T (by omega) hfy rfl (fun hno => Hn hno _ ⟨rfl, rfl, ?_⟩) (fun j t hj hno hk => ?_) (d + 3) d (Nat.le_refl _) (by omega) (fun k k1 k2 => by omega)⟩))
    · obtain ⟨f1, f2, f3, f4⟩ := C 0 (by omega)
      rw [v0] at f1
      rw [o0] at f2
      exact ⟨⟨rfl, rfl, rfl, rfl, rfl, rfl, rfl, rfl, rfl, rfl, rfl, rfl, rfl, rfl, rfl, rfl, rfl, rfl, rfl, anu, rfl, rfl, rfl, rfl, rfl⟩, E, O, l0, f3 rfl, f1, f2⟩
    · obtain ⟨nj, x1, x2, x3, x4, x5, x6, x7⟩ := hs_hkF T (hfl j hj) hk
      have fj := hfl j hj nj
      obtain ⟨u1, u2, u3, u4, u5, u6, u7, u8, u9, u10, u11⟩ := T.2.2.2 (fl j) fj
      obtain ⟨f, f26, f1, f2, f3⟩ := hs_exF T (l := hs_bk ind (cb (fl j)) t) (by omega) x3
      have ef : hs_exl LT (hs_bk ind (cb (fl j)) t) = f := by unfold hs_exl; rw [f1]; exact nI_clamp (by omega)
      have Hf' := Hf j t hj hno hk
      rw [ef] at Hf'
      obtain ⟨c1, c2, c3, c4⟩ := C j hj
      have emk : y_fMask j = hs_mk1 LT dl j := by
        unfold hs_mk1
        by_cases z : j = 0
        · subst z; rw [if_pos rfl]; exact c3 rfl
        · rw [if_neg z]; exact (c4 (by omega)).1
      unfold wY_unwind_237
      have e1 : nI (P (hs_bk ind (cb (fl j)) t)) + 1 = nI (P (hs_bk ind (cb (fl j)) t) + 1) := nI_1 _
      have e2 : nI (f + 100) - 100 = nI f := pk_sub (a := f + 100) (b := 100) (by omega)
      show vp_in _ _ ∧ _
      rw [e1, nI_clamp (show P (hs_bk ind (cb (fl j)) t) + 1 < 2 ^ 31 by omega), f2, e2]
      refine And.intro (vp_in_nI f3 (by decide)) (hs_ySetVar (by omega) emk f26 (hs_yEnter u6 x2 x1 (by omega) (Hf' _ ⟨⟨rfl, rfl, rfl, rfl, rfl, rfl, rfl, rfl, rfl, rfl, rfl, rfl, rfl, c1, rfl, rfl, rfl, rfl, rfl, rfl, rfl, rfl, anu, rfl, rfl, rfl, rfl, rfl⟩, E, O, fun i hi => va i ?_, hs_loc0 l0, fun k hk => hs_YCset f26 (C k (by omega)), fun k hk nk => ?_, rfl, ?_, ?_⟩)))
      · have := mono (d - j) j (by omega); omega
      · rw [pk_un (by omega), hs_put1N (by omega)]
        exact K k (by omega) nk
      · rw [pk_us, hs_put1S]
      · exact c2
  cases ho with
  | false => exact br_t rfl w18
  | true => exact br_f (by decide) (pk_eq d 0 (fun e => absurd ⟨rfl, e⟩ nh) (fun _ => w18))
theorem hs_tErr {er x14 : Int32} (A : hs_GA tx nu LT cd lc kp cc P ind h tk ca cb us ue yk yen yto ype yli mo mS mD ho x_pendingCount x_keptTokens x_keptLines x_codeCount x_cursor x_stop x_waitingCount x_openCount x_lastResult x_pending x_waiting M) (I : hs_XI tx nu LT cd lc kp cc P ind h tk ca cb us ue mo mS mD s d vt cn ml gl ex at1 ox oc lt HE CL op fl dl vb ob ts st ho) (nh : ¬ (ho = true ∧ d = 0)) (L : hs_XL h ind ca cb lc cn CL ho (fl d) (dl d) d) (hvb : vb d ≤ vt) (e0 : er ≠ 0) (e9 : er ≠ 9) (hM : 250 * (mS - s) + hs_pot ts st d + 2 ≤ M) :
    hs_Gt (hs_F tx nu LT cd lc P h yk yen yto ype yli mo mS mD x_pendingCount x_keptTokens x_keptLines x_codeCount x_cursor x_stop x_waitingCount x_openCount x_lastResult x_pending x_waiting) M (fun c => c (nI mo, nI mS, nI mD, x_pendingCount, x_keptTokens, x_keptLines, nI lc, x_codeCount, x_cursor, x_stop, x_waitingCount, x_openCount, nI cn, nI (d + 1), x14, nI s, er, rc, pc, x_lastResult, 0, x_pending, LT, cd, x_waiting, gl, ex, ox, mg, lt, oc, at1, CL, HE, op, lp)) (fun c => ∀ v, hs_VC tx nu LT P h lc yk yen yto ype yli mo mS mD gl ex at1 oc lt lp CL HE op ml cn d (vb d) s pc rc fl dl vb ob ts st ho er v → c v) := by
  have I0 := I
  have mono := hs_XIvb I
  obtain ⟨d6, s200, m200, l405⟩ := hs_XId I
  obtain ⟨T, ⟨B1, B2, B3, B4, B5, B6⟩, W, MC, OV, H0, XCk, XLk, XSk, HO, v0, o0⟩ := I
  obtain ⟨cL, fd⟩ := L.2.1 nh
  have hfl : ∀ k, k ≤ d → (ho = true ∧ k = 0 → CL 2 = -1) ∧ (¬ (ho = true ∧ k = 0) → CL (k * 6 + 2) = nI (fl k) ∧ fl k < lc) := by
    intro k hk
    rcases Nat.lt_or_ge k d with y | y
    · exact ⟨(XLk k y).1, (XLk k y).2.1⟩
    · have : k = d := by omega
      subst this; exact ⟨L.1, L.2.1⟩
  have hL : ∀ k, k ≤ d → hs_XL h ind ca cb lc cn CL ho (fl k) (dl k) k := by
    intro k hk
    rcases Nat.lt_or_ge k d with y | y
    · exact XLk k y
    · have : k = d := by omega
      subst this; exact L
  intro i k n hi hk hn post HP
  obtain ⟨n', rfl⟩ : ∃ n', n = n' + 1 := ⟨n - 1, by omega⟩
  have e6 : (nI (d + 1) - 1) * 6 = nI (d * 6) := by rw [nI_pred]; exact pk_mul d 6
  have e2 : nI (d * 6) + 2 = nI (d * 6 + 2) := nI_add _ 2
  have e14 : nI (fl d) * 14 + 2 = nI (fl d * 14 + 2) := hs_ixMul (fl d) 14 2
  refine hs_lXnI ?_
  refine br_f (nI_ge (b := 1000000) (by omega) (by decide)) (nm_r e6 ?_)
  rw [e2, nI_clamp (show d * 6 + 2 < 2 ^ 31 by omega)]
  refine And.intro (vp_in_nI (by omega) (by decide)) (nm_r cL (br_f e0 (br_f e9 ⟨d + 3, hs_xEC (z0 := if er = 8 then rc else er) (d := d) (ho := ho) (fl := fl) T d6 hfl rfl (fun hno => ?_) (fun j t hj hno hkj => ?_) (d + 3) (d + 1) (Nat.le_refl _) (by omega) (fun k k1 k2 => by omega)⟩)))
  · refine br_t rfl (br_f (hs_neM1 (by omega)) ?_)
    rw [e14, nI_clamp (show fl d * 14 + 2 < 2 ^ 31 by omega)]
    refine And.intro (vp_in_nI (by omega) (by decide)) (nm_e ?_)
    refine HP _ (hs_VF tx nu P h lc yk yen yto ype yli mo mS mD gl ex at1 oc lt lp ml cn pc rc er (LT (fl d * 14 + 2)) (if er = 8 then hs_int rc else 0)) ⟨cn, ml, gl, ex, at1, HE, op, ox, oc, lt, lp, CL, mg, _, _, _, pc, rc, er, _, _, W, MC, H0, ⟨fun z => absurd z e0, fun z => if_pos z, fun _ z => if_neg z⟩, rfl, rfl⟩ (fun Q hQ m hm v hv => ?_)
    have nw : wpY_unwind (fun u => match u with | (y_maxObjectsq, y_maxStepsq, y_maxDepthq, y_keptq, y_endq, y_tokensq, y_pendingq, y_linesq, y_classesq, y_printsq, y_placeq, y_stepsq, y_dq, y_valTopq, y_opTopq, y_opensq, y_posq, y_tkq, y_tvq, y_stmtq, y_targetq, y_errq, y_codeq, y_outcomeq, y_resultq, y_dryq, y_wantq, y_startingq, y_endedq, y_badq, y_hostedq, y_sawSuperq, y_textq, y_numbersq, y_globalsq, y_entriesq, y_attrsq, y_classOfq, y_aliveq, y_ordersq, y_lengthsq, y_lettersq, y_basesq, y_valsq, y_opsq, y_localsq, y_fRecvq, y_fLineq, y_fPosq, y_fStmtq, y_fTargetq, y_fMaskq, y_fHomeq, y_fOpsq, y_fValsq, y_fNewq, y_outq) => ∀ x : Int32, x = nI k + 1 → wY_go_32 Q m x y_maxObjectsq y_maxStepsq y_maxDepthq y_keptq y_endq y_tokensq y_pendingq y_linesq y_classesq y_printsq y_placeq y_stepsq y_dq y_valTopq y_opTopq y_opensq y_posq y_tkq y_tvq y_stmtq y_targetq y_errq y_codeq y_outcomeq y_resultq y_dryq y_wantq y_startingq y_endedq y_badq y_hostedq y_sawSuperq y_textq y_numbersq y_globalsq y_entriesq y_attrsq y_classOfq y_aliveq y_ordersq y_lengthsq y_lettersq y_basesq y_valsq y_opsq y_localsq y_fRecvq y_fLineq y_fPosq y_fStmtq y_fTargetq y_fMaskq y_fHomeq y_fOpsq y_fValsq y_fNewq y_outq) v := by
      refine hs_yUnw I0 nh L hv (fun _ v1 h1 => ?_) (fun j t hj hno' hkj => ?_)
      · obtain ⟨y_maxObjects, y_maxSteps, y_maxDepth, y_kept, y_end, y_tokens, y_pending, y_lines, y_classes, y_prints, y_place, y_steps, y_d, y_valTop, y_opTop, y_opens, y_pos, y_tk, y_tv, y_stmt, y_target, y_err, y_code, y_outcome, y_result, y_dry, y_want, y_starting, y_ended, y_bad, y_hosted, y_sawSuper, y_text, y_numbers, y_globals, y_entries, y_attrs, y_classOf, y_alive, y_orders, y_lengths, y_letters, y_bases, y_vals, y_ops, y_locals, y_fRecv, y_fLine, y_fPos, y_fStmt, y_fTarget, y_fMask, y_fHome, y_fOps, y_fVals, y_fNew, y_out⟩ := v1
        obtain ⟨h1, h2, h3⟩ := h1
        obtain ⟨m', rfl⟩ : ∃ m', m = m' + 1 := ⟨m - 1, by omega⟩
        exact nm_e (hs_lYend (v := (y_maxObjects, y_maxSteps, y_maxDepth, y_kept, y_end, y_tokens, y_pending, y_lines, y_classes, y_prints, y_place, y_steps, y_d, y_valTop, y_opTop, y_opens, y_pos, y_tk, y_tv, y_stmt, y_target, y_err, y_code, y_outcome, y_result, y_dry, y_want, y_starting, y_ended, y_bad, y_hosted, y_sawSuper, y_text, y_numbers, y_globals, y_entries, y_attrs, y_classOf, y_alive, y_orders, y_lengths, y_letters, y_bases, y_vals, y_ops, y_locals, y_fRecv, y_fLine, y_fPos, y_fStmt, y_fTarget, y_fMask, y_fHome, y_fOps, y_fVals, y_fNew, y_out)) h1 (hQ _ h3))
      · rw [hno j hj] at hkj; cases hkj
    obtain ⟨y_maxObjects, y_maxSteps, y_maxDepth, y_kept, y_end, y_tokens, y_pending, y_lines, y_classes, y_prints, y_place, y_steps, y_d, y_valTop, y_opTop, y_opens, y_pos, y_tk, y_tv, y_stmt, y_target, y_err, y_code, y_outcome, y_result, y_dry, y_want, y_starting, y_ended, y_bad, y_hosted, y_sawSuper, y_text, y_numbers, y_globals, y_entries, y_attrs, y_classOf, y_alive, y_orders, y_lengths, y_letters, y_bases, y_vals, y_ops, y_locals, y_fRecv, y_fLine, y_fPos, y_fStmt, y_fTarget, y_fMask, y_fHome, y_fOps, y_fVals, y_fNew, y_out⟩ := v
    obtain ⟨⟨a1, a2, a3, a4, a5, a6, a7, a8, a9, a10, a11, a12, a13, a14, a15, a16, a17, a18, a19, a20, a21, anu, a23, a24, a25, a26, a27⟩, E, O, va, l0, C, K, q⟩ := hv
    exact br_f (by rw [a14]; exact e0) nw
  · obtain ⟨nj, x1, x2, x3, x4, x5, x6, x7⟩ := hs_hkF T (fun z => ((hfl j hj).2 z).2) hkj
    have fj := ((hfl j hj).2 nj).2
    obtain ⟨g1, g2, g3, g4, g5⟩ := hs_TE T fj
    obtain ⟨f, f26, f1, f2, f3⟩ := hs_exF T (l := hs_bk ind (cb (fl j)) t) (by omega) x3
    have ef : hs_exl LT (hs_bk ind (cb (fl j)) t) = f := by unfold hs_exl; rw [f1]; exact nI_clamp (by omega)
    obtain ⟨c1, c2, c3, c4, c5⟩ := XCk j hj
    have Ij : hs_XI tx nu LT cd lc kp cc P ind h tk ca cb us ue mo mS mD s j (vb j) cn ml gl ex at1 ox oc lt HE CL op fl dl vb ob ts st ho := hs_XIpop I0 hj (fun i hi => OV i (by have := mono (d - j) j (by omega); omega))
    have vv : hs_vv (hs_int (if er = 8 then rc else er)) := hs_intV _
    have hdl : 1 ≤ j → dl j < 405 := by
      intro z
      have q := (hL j hj).2.2.2 z
      have := (hs_DIn (hs_Tck T fj) 9 (fl j) (dl j) (by have := ((hs_Tck T fj).1 (fl j) g2 g3).2; omega) g2 g3 q).2.2.1
      omega
    have I1 : hs_XI tx nu LT cd lc kp cc P ind h tk ca cb us ue mo mS mD s j (vb j) cn ml (hs_sg (hs_mk1 LT dl j) gl f (hs_int (if er = 8 then rc else er))) ex at1 ox oc lt (hs_sH (hs_mk1 LT dl j) HE f (j * 27 + f) (hs_int (if er = 8 then rc else er))) CL op fl dl vb ob ts st ho := by
      refine hs_XIin Ij (fun _ _ => rfl) (fun _ _ => rfl) (fun _ _ => rfl) (fun _ _ _ => rfl) B6 ?_ (Nat.le_refl _) MC (fun i hi => OV i (by have := mono (d - j) j (by omega); omega)) (hs_XIsn Ij f26 vv)
      unfold hs_sg
      split
      · exact hs_WXgl W vv
      · exact W
    have Lj := hL j hj
    have hl : hs_lc h ind ca cb lc cn ho (hs_bk ind (cb (fl j)) t + 1) (dl j) j := by
      have r := T.2.2.2 (fl j) fj
      obtain ⟨ra, rb⟩ := r.2.2.2.1 (hs_bk ind (cb (fl j)) t + 1) (by omega) x1
      refine ⟨by omega, fun z1 z2 => ?_, fun z => ?_⟩
      · obtain ⟨w1, w2, w3⟩ := Lj.2.2.1 z1 z2
        rw [ra, rb]
        exact ⟨w1, by rw [x4]; exact w2, fun z => w3 (x5 z)⟩
      · rw [ra, x4]
        exact Lj.2.2.2 z
    have gr := hs_goR (mg := mg) (pc := pc) (rc := rc) (lp := lp) A I1 rfl nj hl x6 x7 (by have := hs_potLe (ts := ts) (st := st) hj; omega)
    unfold wX_errorIsCaught_67
    have k4 : nI (j * 6) + 4 = nI (j * 6 + 4) := nI_add _ 4
    have k5 : nI (hs_bk ind (cb (fl j)) t) * 14 + 5 = nI (hs_bk ind (cb (fl j)) t * 14 + 5) := hs_ixMul _ 14 5
    have k1 : nI (hs_bk ind (cb (fl j)) t) + 1 = nI (hs_bk ind (cb (fl j)) t + 1) := nI_1 _
    refine nm_e ?_
    rw [k4, k5, k1, nI_clamp (show j * 6 + 4 < 2 ^ 31 by omega), nI_clamp (show hs_bk ind (cb (fl j)) t * 14 + 5 < 2 ^ 31 by omega), f1]
    refine And.intro (vp_in_nI (by omega) (by decide)) (nm_r c1 (And.intro (vp_in_nI (by omega) (by decide)) (hs_xSetName (d := j) (dl := dl) (by omega) f26 (fun z => by have := c4 z; rw [← this]) (fun z => ⟨(c5 z).1, hdl z⟩) ?_)))
    refine hs_xReach (by omega) (by omega) s200 m200 (br_f (by decide) (nm_r (nI_1 (i + 1)) (gr (i + 1 + 1) (k + 1) n' (by omega) (by omega) (by omega) post (fun u' V' ff gg => HP u' V' ff (fun Q hQ m hm v hv => ?_)))))
    have nw : wpY_unwind (fun u => match u with | (y_maxObjectsq, y_maxStepsq, y_maxDepthq, y_keptq, y_endq, y_tokensq, y_pendingq, y_linesq, y_classesq, y_printsq, y_placeq, y_stepsq, y_dq, y_valTopq, y_opTopq, y_opensq, y_posq, y_tkq, y_tvq, y_stmtq, y_targetq, y_errq, y_codeq, y_outcomeq, y_resultq, y_dryq, y_wantq, y_startingq, y_endedq, y_badq, y_hostedq, y_sawSuperq, y_textq, y_numbersq, y_globalsq, y_entriesq, y_attrsq, y_classOfq, y_aliveq, y_ordersq, y_lengthsq, y_lettersq, y_basesq, y_valsq, y_opsq, y_localsq, y_fRecvq, y_fLineq, y_fPosq, y_fStmtq, y_fTargetq, y_fMaskq, y_fHomeq, y_fOpsq, y_fValsq, y_fNewq, y_outq) => ∀ x : Int32, x = nI k + 1 → wY_go_32 Q m x y_maxObjectsq y_maxStepsq y_maxDepthq y_keptq y_endq y_tokensq y_pendingq y_linesq y_classesq y_printsq y_placeq y_stepsq y_dq y_valTopq y_opTopq y_opensq y_posq y_tkq y_tvq y_stmtq y_targetq y_errq y_codeq y_outcomeq y_resultq y_dryq y_wantq y_startingq y_endedq y_badq y_hostedq y_sawSuperq y_textq y_numbersq y_globalsq y_entriesq y_attrsq y_classOfq y_aliveq y_ordersq y_lengthsq y_lettersq y_basesq y_valsq y_opsq y_localsq y_fRecvq y_fLineq y_fPosq y_fStmtq y_fTargetq y_fMaskq y_fHomeq y_fOpsq y_fValsq y_fNewq y_outq) v := by
      refine hs_yUnw I0 nh L hv (fun hno' => ?_) (fun j' t' hj' hno' hkj' v1 h1 => ?_)
      · rw [hno' j hj] at hkj; cases hkj
      · have ej : j' = j := by
          rcases Nat.lt_trichotomy j' j with z | z | z
          · rw [hno' j z hj] at hkj; cases hkj
          · exact z
          · rw [hno j' z hj'] at hkj'; cases hkj'
        subst ej
        have et : t' = t := by rw [hkj] at hkj'; exact (Option.some.inj hkj').symm
        subst et
        rw [ef] at h1
        have r := gg Q hQ m hm v1 h1
        obtain ⟨y_maxObjects, y_maxSteps, y_maxDepth, y_kept, y_end, y_tokens, y_pending, y_lines, y_classes, y_prints, y_place, y_steps, y_d, y_valTop, y_opTop, y_opens, y_pos, y_tk, y_tv, y_stmt, y_target, y_err, y_code, y_outcome, y_result, y_dry, y_want, y_starting, y_ended, y_bad, y_hosted, y_sawSuper, y_text, y_numbers, y_globals, y_entries, y_attrs, y_classOf, y_alive, y_orders, y_lengths, y_letters, y_bases, y_vals, y_ops, y_locals, y_fRecv, y_fLine, y_fPos, y_fStmt, y_fTarget, y_fMask, y_fHome, y_fOps, y_fVals, y_fNew, y_out⟩ := v1
        exact nm_r (nI_1 k) r
    obtain ⟨y_maxObjects, y_maxSteps, y_maxDepth, y_kept, y_end, y_tokens, y_pending, y_lines, y_classes, y_prints, y_place, y_steps, y_d, y_valTop, y_opTop, y_opens, y_pos, y_tk, y_tv, y_stmt, y_target, y_err, y_code, y_outcome, y_result, y_dry, y_want, y_starting, y_ended, y_bad, y_hosted, y_sawSuper, y_text, y_numbers, y_globals, y_entries, y_attrs, y_classOf, y_alive, y_orders, y_lengths, y_letters, y_bases, y_vals, y_ops, y_locals, y_fRecv, y_fLine, y_fPos, y_fStmt, y_fTarget, y_fMask, y_fHome, y_fOps, y_fVals, y_fNew, y_out⟩ := v
    obtain ⟨⟨a1, a2, a3, a4, a5, a6, a7, a8, a9, a10, a11, a12, a13, a14, a15, a16, a17, a18, a19, a20, a21, anu, a23, a24, a25, a26, a27⟩, E, O, va, l0, C, K, q⟩ := hv
    exact br_f (by rw [a14]; exact e0) nw
end
