/-! lines without an expression: pass, try, def -/
section
variable {x_objectLimit x_stepLimit x_depthLimit x_pendingCount x_keptTokens x_keptLines x_lineCount x_codeCount x_cursor x_stop x_waitingCount x_openCount x_classCount x_callCount x_operandCount x_stepsTaken x_error x_raisedCode x_printCount x_lastPlace : Int32} {x_lastResult : Int64} {x_pending x_lineTable x_orders x_merging x_letterClass x_objectClass x_calls x_lastPrints : Nat → Int32} {x_code x_waiting x_globals x_entries x_attributes x_held x_operands : Nat → Int64}
variable {y_maxObjects y_maxSteps y_maxDepth y_kept y_end y_tokens y_pending y_lines y_classes y_prints y_place y_steps y_d y_valTop y_opTop y_opens y_pos y_tk y_tv y_stmt y_target y_err y_code y_outcome y_dry y_want y_starting y_ended y_bad y_hosted y_sawSuper : Int32} {y_result : Int64} {y_text y_numbers y_classOf y_alive y_orders y_lengths y_letters y_bases y_ops y_fLine y_fPos y_fStmt y_fTarget y_fMask y_fHome y_fOps y_fVals y_fNew y_out : Nat → Int32} {y_globals y_entries y_attrs y_vals y_locals y_fRecv : Nat → Int64}
variable {tx nu LT : Nat → Int32} {cd : Nat → Int64} {lc kp cc : Nat} {P ind h : Nat → Nat} {tk : Nat → List Nat} {ca cb us ue : Nat → Nat} {yk yen yto ype yli : Int32} {mo mS mD : Nat} {ho : Bool}
variable {s d vt cn : Nat} {ml : Nat → List Nat} {gl ex at1 HE op : Nat → Int64} {ox oc lt lp CL mg : Nat → Int32} {pc rc : Int32} {fl dl vb ob : Nat → Nat} {ts st : Nat → List Nat} {M : Nat}
theorem hs_wordF {l : Nat} (T : hs_T tx nu LT cd lc kp cc P ind h tk ca cb us ue) (hl : l < lc) (hx : h l = 1 ∨ h l = 2 ∨ h l = 7 ∨ h l = 10) : ∃ c r, LT (l * 14 + 9) = nI c ∧ LT (l * 14 + 10) = nI c ∧ c ≤ 443 ∧ tk l = h l :: r ∧ LT (l * 14) = nI (h l) ∧ hs_TA tx (P l) (h l :: r) ∧ (h l = 2 → hs_DH (LT (l * 14 + 5)) (LT (l * 14 + 6)) (LT (l * 14 + 7)) r) ∧ (h l = 1 → hs_CH (LT (l * 14 + 5)) (LT (l * 14 + 6)) (LT (l * 14 + 7)) r) := by
  obtain ⟨_, hcc, _, T⟩ := T
  obtain ⟨t1, t2, t3, t4, t5, t6, t7, t8, t9, t10, t11⟩ := T l hl
  obtain ⟨n1, n2, n3, n4, e, c0, n5, n6, n7, n8, n9⟩ := t8
  obtain ⟨g1, g2, g3, g4⟩ := t7 l t1 t2
  have kd := hs_LFkd n9
  rw [← g4] at kd
  have hk : LT (l * 14) = nI (h l) := (hs_kdE kd (w := h l) (by omega)).mpr rfl
  cases q : tk l with
  | nil => exact absurd q g2
  | cons x r =>
    rw [q] at n9 g4 g1
    have hxx : h l = x := g4
    rw [hxx] at hx hk ⊢
    have key : e = [] ∧ (x = 2 → hs_DH (LT (l * 14 + 5)) (LT (l * 14 + 6)) (LT (l * 14 + 7)) r) ∧ (x = 1 → hs_CH (LT (l * 14 + 5)) (LT (l * 14 + 6)) (LT (l * 14 + 7)) r) := by
      rw [hs_LF] at n9
      rcases hx with rfl | rfl | rfl | rfl
      · rw [if_neg (by decide), if_neg (by decide), if_neg (by decide), if_pos rfl] at n9
        exact ⟨n9.2.1, fun z => absurd z (by decide), fun _ => n9.2.2⟩
      · rw [if_neg (by decide), if_neg (by decide), if_neg (by decide), if_neg (by decide), if_pos rfl] at n9
        exact ⟨n9.2.1, fun _ => n9.2.2, fun z => absurd z (by decide)⟩
      · rw [if_neg (by decide), if_pos (Or.inr rfl)] at n9
        exact ⟨n9.2.2, fun z => absurd z (by decide), fun z => absurd z (by decide)⟩
      · rw [if_pos rfl] at n9
        exact ⟨n9.2.2, fun z => absurd z (by decide), fun z => absurd z (by decide)⟩
    obtain ⟨k1, k2, k3⟩ := key
    subst k1
    exact ⟨c0, r, n5, n6, by omega, rfl, hk, g1, k2, k3⟩
theorem hs_stepA10 (A : hs_GA tx nu LT cd lc kp cc P ind h tk ca cb us ue yk yen yto ype yli mo mS mD ho x_pendingCount x_keptTokens x_keptLines x_codeCount x_cursor x_stop x_waitingCount x_openCount x_lastResult x_pending x_waiting M) (G : hs_GB tx nu LT cd lc kp cc P ind h tk ca cb us ue yk yen yto ype yli mo mS mD ho x_pendingCount x_keptTokens x_keptLines x_codeCount x_cursor x_stop x_waitingCount x_openCount x_lastResult x_pending x_waiting M) (I : hs_XI tx nu LT cd lc kp cc P ind h tk ca cb us ue mo mS mD s d vt cn ml gl ex at1 ox oc lt HE CL op fl dl vb ob ts st ho) (m : hs_MA h ind ca cb lc cn CL ho LT fl dl vb d vt) (hs : s < mS) (hx : h (fl d) = 10) (hM : 250 * (mS - s) + hs_pot ts st d + 2 ≤ M + 1) : hs_Go (hs_F tx nu LT cd lc P h yk yen yto ype yli mo mS mD x_pendingCount x_keptTokens x_keptLines x_codeCount x_cursor x_stop x_waitingCount x_openCount x_lastResult x_pending x_waiting) (2 * (M + 1) + 2) (M + 1) (nI mo, nI mS, nI mD, x_pendingCount, x_keptTokens, x_keptLines, nI lc, x_codeCount, x_cursor, x_stop, x_waitingCount, x_openCount, nI cn, nI (d + 1), nI vt, hs_sx mS s, hs_e9 mS s, rc, pc, x_lastResult, 0, x_pending, LT, cd, x_waiting, gl, ex, ox, mg, lt, oc, at1, CL, HE, op, lp) (hs_V tx nu LT P h lc yk yen yto ype yli mo mS mD gl ex at1 oc lt lp CL HE op ml cn d vt s pc rc fl dl vb ob ts st ho (some none)) := by
  have I0 := I
  obtain ⟨d6, s200, m200, l405⟩ := hs_XId I
  obtain ⟨T, ⟨B1, B2, B3, B4, B5, B6⟩, W, MC, OV, H0, XCk, XLk, XSk, HO, v0, o0⟩ := I
  obtain ⟨L, hv, s1, nh⟩ := m
  obtain ⟨cL, fd⟩ := L.2.1 nh
  obtain ⟨c, r, w1, w2, w3, w4, w5, w6, _, _⟩ := hs_wordF T fd (by omega)
  rw [hx] at w5 w4
  have I1 : hs_XI tx nu LT cd lc kp cc P ind h tk ca cb us ue mo mS mD (s + 1) d vt cn ml gl ex at1 ox oc lt HE CL op fl dl vb ob ts st ho := hs_XIin I0 (fun _ _ => rfl) (fun _ _ => rfl) (fun _ _ => rfl) (fun _ _ _ => rfl) (by omega) W (Nat.le_refl _) MC OV (hs_XIh I0)
  have g := hs_tAfter (mg := mg) (pc := pc) (rc := rc) (lp := lp) A G I1 nh (hs_lcOf nh L) hv (by omega)
  refine hs_enterS d6 (by omega) cL (s1.trans w1) w2 w3 hs ?_
  intro i k n hi hk hn post HP
  refine nm_r (pk_mul (fl d) 14) ?_
  rw [Int32.add_zero, nI_clamp (show fl d * 14 < 2 ^ 31 by omega)]
  refine And.intro (vp_in_nI (by omega) (by decide)) (nm_r w5 (br_f (by decide) (br_f (by decide) (br_f (by decide) (br_f (by decide) (br_f (by decide) (br_f (by decide) (br_f (by decide) (br_f (by decide) (br_f (by decide) (br_f (by decide) (br_f (by decide) (br_t rfl ?_)))))))))))))
  unfold wX_finishLine_144
  refine br_t rfl (g i k n hi hk hn post (fun u' V' f gg => HP u' V' f (fun Q hQ m hm v hv' => hs_yWord I0 fd hs w4 (by omega) hv hv' (fun v1 h1 => ?_))))
  have ge := gg Q hQ m hm
  clear gg HP g
  obtain ⟨y_maxObjects, y_maxSteps, y_maxDepth, y_kept, y_end, y_tokens, y_pending, y_lines, y_classes, y_prints, y_place, y_steps, y_d, y_valTop, y_opTop, y_opens, y_pos, y_tk, y_tv, y_stmt, y_target, y_err, y_code, y_outcome, y_result, y_dry, y_want, y_starting, y_ended, y_bad, y_hosted, y_sawSuper, y_text, y_numbers, y_globals, y_entries, y_attrs, y_classOf, y_alive, y_orders, y_lengths, y_letters, y_bases, y_vals, y_ops, y_locals, y_fRecv, y_fLine, y_fPos, y_fStmt, y_fTarget, y_fMask, y_fHome, y_fOps, y_fVals, y_fNew, y_out⟩ := v1
  intro e
  have e' : y_stmt = 10 := e
  subst e'
  obtain ⟨⟨⟨a1, a2, a3, a4, a5, a6, a7, a8, a9, a10, a11, a12, a13, a14, a15, a16, a17, a18, a19, a20, a21, anu, a23, a24, a25, a26, a27⟩, E, O, va, l0, C, KK, qf⟩, z1, z2⟩ := h1
  exact br_f (by decide) (br_f (by decide) (br_f (by decide) (br_f (by decide) (br_f (by decide) (br_f (by decide) (br_f (by decide) (br_f (by decide) (br_f (by decide) (br_f (by decide) (br_f (by decide) (br_t rfl (ge _ ⟨⟨⟨a1, a2, a3, a4, a5, a6, a7, a8, a9, a10, a11, a12, a13, a14, a15, a16, a17, a18, a19, a20, a21, anu, a23, a24, a25, a26, a27⟩, E, O, va, l0, C, KK, qf⟩, z1, z2⟩))))))))))))
theorem hs_stepA7 (A : hs_GA tx nu LT cd lc kp cc P ind h tk ca cb us ue yk yen yto ype yli mo mS mD ho x_pendingCount x_keptTokens x_keptLines x_codeCount x_cursor x_stop x_waitingCount x_openCount x_lastResult x_pending x_waiting M) (I : hs_XI tx nu LT cd lc kp cc P ind h tk ca cb us ue mo mS mD s d vt cn ml gl ex at1 ox oc lt HE CL op fl dl vb ob ts st ho) (m : hs_MA h ind ca cb lc cn CL ho LT fl dl vb d vt) (hs : s < mS) (hx : h (fl d) = 7) (hM : 250 * (mS - s) + hs_pot ts st d + 2 ≤ M + 1) : hs_Go (hs_F tx nu LT cd lc P h yk yen yto ype yli mo mS mD x_pendingCount x_keptTokens x_keptLines x_codeCount x_cursor x_stop x_waitingCount x_openCount x_lastResult x_pending x_waiting) (2 * (M + 1) + 2) (M + 1) (nI mo, nI mS, nI mD, x_pendingCount, x_keptTokens, x_keptLines, nI lc, x_codeCount, x_cursor, x_stop, x_waitingCount, x_openCount, nI cn, nI (d + 1), nI vt, hs_sx mS s, hs_e9 mS s, rc, pc, x_lastResult, 0, x_pending, LT, cd, x_waiting, gl, ex, ox, mg, lt, oc, at1, CL, HE, op, lp) (hs_V tx nu LT P h lc yk yen yto ype yli mo mS mD gl ex at1 oc lt lp CL HE op ml cn d vt s pc rc fl dl vb ob ts st ho (some none)) := by
  have I0 := I
  obtain ⟨d6, s200, m200, l405⟩ := hs_XId I
  obtain ⟨T, ⟨B1, B2, B3, B4, B5, B6⟩, W, MC, OV, H0, XCk, XLk, XSk, HO, v0, o0⟩ := I
  obtain ⟨L, hv, s1, nh⟩ := m
  obtain ⟨cL, fd⟩ := L.2.1 nh
  obtain ⟨c, r, w1, w2, w3, w4, w5, w6, _, _⟩ := hs_wordF T fd (by omega)
  rw [hx] at w5 w4
  have K := hs_Tck T fd
  obtain ⟨t1, t2, t3, t4, t5, t6, t7, t8, t9, t10, t11⟩ := T.2.2.2 (fl d) fd
  obtain ⟨o1, o2, o3, o4, o5⟩ := hs_opNext K t1 t2 (Or.inr (Or.inr ⟨by omega, by omega⟩))
  have j8 := (K.1 (fl d + 1) (by omega) o1).2
  have hl : hs_lc h ind ca cb lc cn ho (fl d + 1) (dl d) d := by
    refine hs_lcAf T (hs_lcOf nh L) (by omega) o1 ?_ (fun z => ?_)
    · rw [hs_D1 j8 o3, if_neg (by omega)]
    · rw [hs_in1 j8 o3, decide_eq_false (by omega), Bool.false_or] at z; exact z
  have I1 : hs_XI tx nu LT cd lc kp cc P ind h tk ca cb us ue mo mS mD (s + 1) d vt cn ml gl ex at1 ox oc lt HE CL op fl dl vb ob ts st ho := hs_XIin I0 (fun _ _ => rfl) (fun _ _ => rfl) (fun _ _ => rfl) (fun _ _ _ => rfl) (by omega) W (Nat.le_refl _) MC OV (hs_XIh I0)
  have g := hs_tReach (mg := mg) (pc := pc) (rc := rc) (lp := lp) A I1 hv nh hl o4 o5 (by omega)
  refine hs_enterS d6 (by omega) cL (s1.trans w1) w2 w3 hs ?_
  intro i k n hi hk hn post HP
  refine nm_r (pk_mul (fl d) 14) ?_
  rw [Int32.add_zero, nI_clamp (show fl d * 14 < 2 ^ 31 by omega)]
  refine And.intro (vp_in_nI (by omega) (by decide)) (nm_r w5 (br_f (by decide) (br_f (by decide) (br_f (by decide) (br_f (by decide) (br_f (by decide) (br_f (by decide) (br_f (by decide) (br_f (by decide) (br_t rfl ?_))))))))))
  rw [nI_1]
  refine g i k n hi hk hn post (fun u' V' f gg => HP u' V' f (fun Q hQ m hm v hv' => hs_yWord I0 fd hs w4 (by omega) hv hv' (fun v1 h1 => ?_)))
  have ge := gg Q hQ m hm
  clear gg HP g
  obtain ⟨y_maxObjects, y_maxSteps, y_maxDepth, y_kept, y_end, y_tokens, y_pending, y_lines, y_classes, y_prints, y_place, y_steps, y_d, y_valTop, y_opTop, y_opens, y_pos, y_tk, y_tv, y_stmt, y_target, y_err, y_code, y_outcome, y_result, y_dry, y_want, y_starting, y_ended, y_bad, y_hosted, y_sawSuper, y_text, y_numbers, y_globals, y_entries, y_attrs, y_classOf, y_alive, y_orders, y_lengths, y_letters, y_bases, y_vals, y_ops, y_locals, y_fRecv, y_fLine, y_fPos, y_fStmt, y_fTarget, y_fMask, y_fHome, y_fOps, y_fVals, y_fNew, y_out⟩ := v1
  intro e
  have e' : y_stmt = 7 := e
  subst e'
  obtain ⟨⟨⟨a1, a2, a3, a4, a5, a6, a7, a8, a9, a10, a11, a12, a13, a14, a15, a16, a17, a18, a19, a20, a21, anu, a23, a24, a25, a26, a27⟩, E, O, va, l0, C, KK, qf⟩, z1, z2⟩ := h1
  (have a1 := a1.symm; have a2 := a2.symm; have a3 := a3.symm; have a4 := a4.symm; have a5 := a5.symm; have a6 := a6.symm; have a7 := a7.symm; have a8 := a8.symm; have a9 := a9.symm; have a10 := a10.symm; have a11 := a11.symm; have a12 := a12.symm; have a13 := a13.symm; have a14 := a14.symm; have a15 := a15.symm; have a16 := a16.symm; have a17 := a17.symm; have a18 := a18.symm; have a19 := a19.symm; have a20 := a20.symm; have a21 := a21.symm; have a23 := a23.symm; have a24 := a24.symm; have a25 := a25.symm; have a26 := a26.symm; have a27 := a27.symm; subst a1 a2 a3 a4 a5 a6 a7 a8 a9 a10 a11 a12 a13 a14 a15 a16 a17 a18 a19 a20 a21 a23 a24 a25 a26 a27)
  subst z1 z2
  refine br_f (by decide) (br_f (by decide) (br_f (by decide) (br_f (by decide) (br_f (by decide) (br_f (by decide) (br_f (by decide) (br_f (by decide) (br_t rfl (hs_yEnter t6 t1 o1 d6 (ge _ ⟨⟨rfl, rfl, rfl, rfl, rfl, rfl, rfl, rfl, rfl, rfl, rfl, rfl, rfl, rfl, rfl, rfl, rfl, rfl, rfl, rfl, rfl, rfl, anu, rfl, rfl, rfl, rfl, rfl⟩, E, O, va, l0, C, fun k hk nk => ?_, rfl, ?_, rfl⟩))))))))))
  · rw [pk_un (by omega), hs_put1N (by omega)]; exact KK k hk nk
  · rw [pk_us, hs_put1S]
theorem hs_stepA2 (A : hs_GA tx nu LT cd lc kp cc P ind h tk ca cb us ue yk yen yto ype yli mo mS mD ho x_pendingCount x_keptTokens x_keptLines x_codeCount x_cursor x_stop x_waitingCount x_openCount x_lastResult x_pending x_waiting M) (G : hs_GB tx nu LT cd lc kp cc P ind h tk ca cb us ue yk yen yto ype yli mo mS mD ho x_pendingCount x_keptTokens x_keptLines x_codeCount x_cursor x_stop x_waitingCount x_openCount x_lastResult x_pending x_waiting M) (I : hs_XI tx nu LT cd lc kp cc P ind h tk ca cb us ue mo mS mD s d vt cn ml gl ex at1 ox oc lt HE CL op fl dl vb ob ts st ho) (m : hs_MA h ind ca cb lc cn CL ho LT fl dl vb d vt) (hs : s < mS) (hx : h (fl d) = 2) (hM : 250 * (mS - s) + hs_pot ts st d + 2 ≤ M + 1) : hs_Go (hs_F tx nu LT cd lc P h yk yen yto ype yli mo mS mD x_pendingCount x_keptTokens x_keptLines x_codeCount x_cursor x_stop x_waitingCount x_openCount x_lastResult x_pending x_waiting) (2 * (M + 1) + 2) (M + 1) (nI mo, nI mS, nI mD, x_pendingCount, x_keptTokens, x_keptLines, nI lc, x_codeCount, x_cursor, x_stop, x_waitingCount, x_openCount, nI cn, nI (d + 1), nI vt, hs_sx mS s, hs_e9 mS s, rc, pc, x_lastResult, 0, x_pending, LT, cd, x_waiting, gl, ex, ox, mg, lt, oc, at1, CL, HE, op, lp) (hs_V tx nu LT P h lc yk yen yto ype yli mo mS mD gl ex at1 oc lt lp CL HE op ml cn d vt s pc rc fl dl vb ob ts st ho (some none)) := by
  have I0 := I
  obtain ⟨d6, s200, m200, l405⟩ := hs_XId I
  obtain ⟨T, ⟨B1, B2, B3, B4, B5, B6⟩, W, MC, OV, H0, XCk, XLk, XSk, HO, v0, o0⟩ := I
  obtain ⟨L, hv, s1, nh⟩ := m
  obtain ⟨cL, fd⟩ := L.2.1 nh
  obtain ⟨c, r, w1, w2, w3, w4, w5, w6, w7, _⟩ := hs_wordF T fd (by omega)
  obtain ⟨nn, an, hnn, han, hf, hsn, hr⟩ := w7 hx
  rw [hx] at w5 w4 w6
  have n26 : 100 ≤ nn ∧ nn < 126 := of_decide_eq_true hnn
  have K := hs_Tck T fd
  obtain ⟨t1, t2, t3, t4, t5, t6, t7, t8, t9, t10, t11⟩ := T.2.2.2 (fl d) fd
  have pl := (hs_yPlt t6 t1 t2).1
  obtain ⟨q1, q2, q3, q4, q5, q6⟩ := hs_TAc w6
  obtain ⟨r2, er⟩ : ∃ r2, r = nn :: r2 := by
    rcases hr with ⟨e, _⟩ | ⟨_, _, _, e, _⟩
    · exact ⟨_, e⟩
    · exact ⟨_, e⟩
  rw [er] at q6
  obtain ⟨u1, u2, u3, u4, u5, u6⟩ := hs_TAc q6
  have d0 : d = 0 := by
    rcases Nat.lt_or_ge 0 d with z | z
    · exact absurd hx (hs_noDir K t1 t2 (L.2.2.2 z)).2.2
    · omega
  have hof : ho = false := by
    cases ho with
    | false => rfl
    | true => exact absurd ⟨rfl, d0⟩ nh
  have cn2 : 2 ≤ cn := by
    refine (L.2.2.1 d0 hof).2.2 ?_
    by_cases dr : hs_dir h ind (ca (fl d)) (fl d)
    · obtain ⟨p, pa, hp1⟩ := dr
      rw [hs_in1 (K.1 (fl d) t1 t2).2 pa, decide_eq_true hp1, Bool.true_or]
    · exact absurd hx ((hs_ckW K t1 t2).2.2.2 dr)
  have cn10 := W.1.2
  have ec : (nI cn - 1) * 26 + nI (nn - 100) = nI ((cn - 1) * 26 + (nn - 100)) := by
    rw [show nI cn - 1 = nI (cn - 1) from pk_sub (b := 1) (by omega)]; exact hs_ixMul (cn - 1) 26 (nn - 100)
  have ey : (nI cn - 1) * 26 + nI nn - 100 = nI ((cn - 1) * 26 + (nn - 100)) := by
    rw [show nI cn - 1 = nI (cn - 1) from pk_sub (b := 1) (by omega), show nI (cn - 1) * 26 + nI nn = nI ((cn - 1) * 26 + nn) from hs_ixMul (cn - 1) 26 nn, show (100 : Int32) = nI 100 from rfl, pk_sub (by omega)]
    exact congrArg nI (by omega)
  have ev : (17179869184 : Int64) + ((nI cn - 1) * 4096 + nI (P (fl d))).toInt64 = lN (17179869184 + ((cn - 1) * 4096 + P (fl d))) := by
    rw [show nI cn - 1 = nI (cn - 1) from pk_sub (b := 1) (by omega), show nI (cn - 1) * 4096 + nI (P (fl d)) = nI ((cn - 1) * 4096 + P (fl d)) from hs_ixMul (cn - 1) 4096 _, nI_l (by omega)]
    exact (Int64.ofNat_add 17179869184 ((cn - 1) * 4096 + P (fl d))).symm
  have df : hs_df h lc (fl d) := ⟨fd, hx⟩
  have W' : hs_WX P h lc cn ml gl (vp_updL ex ((cn - 1) * 26 + (nn - 100)) (lN (17179869184 + fl d))) at1 ox oc lt := hs_WXent W (by omega) (by omega) (Or.inr ⟨fl d, df, by omega, pl, rfl⟩)
  have I1 : hs_XI tx nu LT cd lc kp cc P ind h tk ca cb us ue mo mS mD (s + 1) d vt cn ml gl (vp_updL ex ((cn - 1) * 26 + (nn - 100)) (lN (17179869184 + fl d))) at1 ox oc lt HE CL op fl dl vb ob ts st ho := hs_XIin I0 (fun _ _ => rfl) (fun _ _ => rfl) (fun _ _ => rfl) (fun _ _ _ => rfl) (by omega) W' (Nat.le_refl _) MC OV (hs_XIh I0)
  have g := hs_tAfter (mg := mg) (pc := pc) (rc := rc) (lp := lp) A G I1 nh (hs_lcOf nh L) hv (by omega)
  have e5 : nI (fl d * 14) + 5 = nI (fl d * 14 + 5) := nI_add _ 5
  refine hs_enterS d6 (by omega) cL (s1.trans w1) w2 w3 hs ?_
  intro i k n hi hk hn post HP
  refine nm_r (pk_mul (fl d) 14) ?_
  rw [Int32.add_zero, nI_clamp (show fl d * 14 < 2 ^ 31 by omega), e5, nI_clamp (show fl d * 14 + 5 < 2 ^ 31 by omega), hf, hs_metN (by omega)]
  refine And.intro (vp_in_nI (by omega) (by decide)) (nm_r w5 (br_f (by decide) (br_f (by decide) (br_f (by decide) (br_t rfl (And.intro (vp_in_nI (by omega) (by decide)) ?_))))))
  show (nI cn ≤ 0 → _) ∧ _
  refine br_f (nI_nle (by omega) (by omega)) ?_
  rw [ec, nI_clamp (show (cn - 1) * 26 + (nn - 100) < 2 ^ 31 by omega)]
  refine And.intro (vp_in_nI (by omega) (by decide)) (nm_e ?_)
  unfold wX_finishLine_144
  refine br_t rfl (g i k n hi hk hn post (fun u' V' f gg => HP u' V' f (fun Q hQ m hm v hv' => hs_yWord I0 fd hs w4 (by omega) hv hv' (fun v1 h1 => ?_))))
  have ge := gg Q hQ m hm
  clear gg HP g
  obtain ⟨y_maxObjects, y_maxSteps, y_maxDepth, y_kept, y_end, y_tokens, y_pending, y_lines, y_classes, y_prints, y_place, y_steps, y_d, y_valTop, y_opTop, y_opens, y_pos, y_tk, y_tv, y_stmt, y_target, y_err, y_code, y_outcome, y_result, y_dry, y_want, y_starting, y_ended, y_bad, y_hosted, y_sawSuper, y_text, y_numbers, y_globals, y_entries, y_attrs, y_classOf, y_alive, y_orders, y_lengths, y_letters, y_bases, y_vals, y_ops, y_locals, y_fRecv, y_fLine, y_fPos, y_fStmt, y_fTarget, y_fMask, y_fHome, y_fOps, y_fVals, y_fNew, y_out⟩ := v1
  intro e
  have e' : y_stmt = 2 := e
  subst e'
  obtain ⟨⟨⟨a1, a2, a3, a4, a5, a6, a7, a8, a9, a10, a11, a12, a13, a14, a15, a16, a17, a18, a19, a20, a21, anu, a23, a24, a25, a26, a27⟩, E, O, va, l0, C, KK, qf⟩, z1, z2⟩ := h1
  (have a1 := a1.symm; have a2 := a2.symm; have a3 := a3.symm; have a4 := a4.symm; have a5 := a5.symm; have a6 := a6.symm; have a7 := a7.symm; have a8 := a8.symm; have a9 := a9.symm; have a10 := a10.symm; have a11 := a11.symm; have a12 := a12.symm; have a13 := a13.symm; have a14 := a14.symm; have a15 := a15.symm; have a16 := a16.symm; have a17 := a17.symm; have a18 := a18.symm; have a19 := a19.symm; have a20 := a20.symm; have a21 := a21.symm; have a23 := a23.symm; have a24 := a24.symm; have a25 := a25.symm; have a26 := a26.symm; have a27 := a27.symm; subst a1 a2 a3 a4 a5 a6 a7 a8 a9 a10 a11 a12 a13 a14 a15 a16 a17 a18 a19 a20 a21 a23 a24 a25 a26 a27)
  subst z1 z2
  refine br_f (by decide) (br_f (by decide) (br_f (by decide) (br_t rfl ?_)))
  rw [nI_1, nI_clamp (show P (fl d) + 1 < 2 ^ 31 by omega), u1, ey, ev, nI_clamp (show (cn - 1) * 26 + (nn - 100) < 2 ^ 31 by omega)]
  refine And.intro (vp_in_nI (by omega) (by decide)) (And.intro (vp_in_nI (by omega) (by decide)) (nm_e (ge _ ⟨⟨⟨rfl, rfl, rfl, rfl, rfl, rfl, rfl, rfl, rfl, rfl, rfl, rfl, rfl, rfl, rfl, rfl, rfl, rfl, rfl, rfl, rfl, anu, rfl, rfl, rfl, rfl, rfl⟩, hs_EEupd E (by omega) (Or.inr ⟨fl d, df, by omega, pl, rfl, rfl⟩), O, va, l0, C, KK, qf⟩, rfl, rfl⟩)))
end
