/-! a sort line on both sides; all turns to the end -/
section
variable {x_objectLimit x_stepLimit x_depthLimit x_pendingCount x_keptTokens x_keptLines x_lineCount x_codeCount x_cursor x_stop x_waitingCount x_openCount x_classCount x_callCount x_operandCount x_stepsTaken x_error x_raisedCode x_printCount x_lastPlace : Int32} {x_lastResult : Int64} {x_pending x_lineTable x_orders x_merging x_letterClass x_objectClass x_calls x_lastPrints : Nat → Int32} {x_code x_waiting x_globals x_entries x_attributes x_held x_operands : Nat → Int64}
variable {y_maxObjects y_maxSteps y_maxDepth y_kept y_end y_tokens y_pending y_lines y_classes y_prints y_place y_steps y_d y_valTop y_opTop y_opens y_pos y_tk y_tv y_stmt y_target y_err y_code y_outcome y_dry y_want y_starting y_ended y_bad y_hosted y_sawSuper : Int32} {y_result : Int64} {y_text y_numbers y_classOf y_alive y_orders y_lengths y_letters y_bases y_ops y_fLine y_fPos y_fStmt y_fTarget y_fMask y_fHome y_fOps y_fVals y_fNew y_out : Nat → Int32} {y_globals y_entries y_attrs y_vals y_locals y_fRecv : Nat → Int64}
variable {tx nu LT : Nat → Int32} {cd : Nat → Int64} {lc kp cc : Nat} {P ind h : Nat → Nat} {tk : Nat → List Nat} {ca cb us ue : Nat → Nat} {yk yen yto ype yli : Int32} {mo mS mD : Nat} {ho : Bool}
variable {s d vt cn : Nat} {ml : Nat → List Nat} {gl ex at1 HE op : Nat → Int64} {ox oc lt lp CL mg : Nat → Int32} {pc rc : Int32} {fl dl vb ob : Nat → Nat} {ts st : Nat → List Nat} {M : Nat}
/-- a sort line's letters -/
theorem hs_clsF {f9 s9 t9 : Int32} {p : Nat} {r : List Nat} (hC : hs_CH f9 s9 t9 r) (hT : hs_TA tx p (1 :: r)) : ∃ f qs, f < 26 ∧ f9 = nI f ∧ qs.length ≤ 2 ∧ s9 = hs_oI qs[0]? ∧ t9 = hs_oI qs[1]? ∧ p + 2 < 1024 ∧ tx (p + 1) = nI (f + 130) ∧ ((qs = [] ∧ ¬ tx (p + 2) = 21) ∨ (p + 4 < 1024 ∧ tx (p + 2) = 21 ∧ (qs.length = 1 ∧ ¬ tx (p + 4) = 23 ∨ qs.length = 2 ∧ tx (p + 4) = 23))) ∧ (∀ i q, qs[i]? = some q → q < 26 ∧ p + 3 + 2 * i < 1024 ∧ tx (p + 3 + 2 * i) = nI (q + 130)) := by
  obtain ⟨c, hc, hf, hr⟩ := hC
  have c1 : 130 ≤ c ∧ c < 156 := of_decide_eq_true hc
  obtain ⟨a1, a2, a3, a4, a5, a6⟩ := hs_TAc hT
  rcases hr with ⟨rfl, e1, e2⟩ | ⟨a, ha, rfl, e1, e2⟩ | ⟨a, b, ha, hb, rfl, e1, e2⟩
  · obtain ⟨b1, b2, b3, b4, b5, b6⟩ := hs_TAc a6
    obtain ⟨d1, d2, d3, d4, d5, d6⟩ := hs_TAc b6
    refine ⟨c - 130, [], by omega, hf, by simp, e1, e2, d5, by rw [b1]; exact congrArg nI (by omega), Or.inl ⟨rfl, ?_⟩, fun i q h => by cases h⟩
    · show ¬ tx (p + 1 + 1) = 21
      rw [d1]; decide
  · have a9 : 130 ≤ a ∧ a < 156 := of_decide_eq_true ha
    obtain ⟨b1, b2, b3, b4, b5, b6⟩ := hs_TAc a6
    obtain ⟨d1, d2, d3, d4, d5, d6⟩ := hs_TAc b6
    obtain ⟨f1, f2, f3, f4, f5, f6⟩ := hs_TAc d6
    obtain ⟨g1, g2, g3, g4, g5, g6⟩ := hs_TAc f6
    refine ⟨c - 130, [a - 130], by omega, hf, by simp, e1, e2, d5, by rw [b1]; exact congrArg nI (by omega), Or.inr ⟨g5, d1, Or.inl ⟨rfl, ?_⟩⟩, fun i q h => ?_⟩
    · show ¬ tx (p + 1 + 1 + 1 + 1) = 23
      rw [g1]; decide
    · cases i with
      | zero =>
        have : q = a - 130 := (Option.some.inj h).symm
        subst this
        exact ⟨by omega, f5, by rw [show p + 3 + 2 * 0 = p + 1 + 1 + 1 by omega, f1]; exact congrArg nI (by omega)⟩
      | succ i => cases i <;> cases h
  · have a9 : 130 ≤ a ∧ a < 156 := of_decide_eq_true ha
    have b9 : 130 ≤ b ∧ b < 156 := of_decide_eq_true hb
    obtain ⟨b1, b2, b3, b4, b5, b6⟩ := hs_TAc a6
    obtain ⟨d1, d2, d3, d4, d5, d6⟩ := hs_TAc b6
    obtain ⟨f1, f2, f3, f4, f5, f6⟩ := hs_TAc d6
    obtain ⟨g1, g2, g3, g4, g5, g6⟩ := hs_TAc f6
    obtain ⟨k1, k2, k3, k4, k5, k6⟩ := hs_TAc g6
    refine ⟨c - 130, [a - 130, b - 130], by omega, hf, by simp, e1, e2, d5, by rw [b1]; exact congrArg nI (by omega), Or.inr ⟨g5, d1, Or.inr ⟨rfl, g1⟩⟩, fun i q h => ?_⟩
    cases i with
    | zero =>
      have : q = a - 130 := (Option.some.inj h).symm
      subst this
      exact ⟨by omega, f5, by rw [show p + 3 + 2 * 0 = p + 1 + 1 + 1 by omega, f1]; exact congrArg nI (by omega)⟩
    | succ i =>
      cases i with
      | zero =>
        have : q = b - 130 := (Option.some.inj h).symm
        subst this
        exact ⟨by omega, k5, by rw [show p + 3 + 2 * (0 + 1) = p + 1 + 1 + 1 + 1 + 1 by omega, k1]; exact congrArg nI (by omega)⟩
      | succ i => cases i <;> cases h
theorem hs_BsU {sL fo fo' : Option Nat} (hcn : cn ≤ 10) (h1 : hs_Bs lt cn sL fo) (h2 : hs_Bs lt cn sL fo') : fo = fo' := by
  rcases h1 with ⟨a1, a2⟩ | ⟨q, c, a1, a2, a3, a4, a5⟩
  · rcases h2 with ⟨b1, b2⟩ | ⟨q, c, b1, _⟩
    · rw [a2, b2]
    · rw [a1] at b1; cases b1
  · rcases h2 with ⟨b1, b2⟩ | ⟨q', c', b1, b2, b3, b4, b5⟩
    · rw [a1] at b1; cases b1
    · rw [a1] at b1
      have := Option.some.inj b1
      subst this
      have := (nI_eq (a := c) (b := c') (by omega) (by omega)).mp (a4.symm.trans b4)
      rw [a5, b5, this]
theorem hs_BsQ {qs bs : List Nat} (hQ : hs_Qb lt cn qs bs) (h26 : ∀ (i q : Nat), qs[i]? = some q → q < 26) (i : Nat) : hs_Bs lt cn qs[i]? bs[i]? := by
  cases e : qs[i]? with
  | none =>
    have : qs.length ≤ i := List.getElem?_eq_none_iff.mp e
    exact Or.inl ⟨rfl, List.getElem?_eq_none (by rw [hQ.1]; exact this)⟩
  | some q =>
    obtain ⟨b, b1, b2, b3⟩ := hQ.2 i q e
    exact Or.inr ⟨q, b, rfl, h26 i q e, b2, b3, b1⟩
theorem hs_stepA1 (A : hs_GA tx nu LT cd lc kp cc P ind h tk ca cb us ue yk yen yto ype yli mo mS mD ho x_pendingCount x_keptTokens x_keptLines x_codeCount x_cursor x_stop x_waitingCount x_openCount x_lastResult x_pending x_waiting M) (I : hs_XI tx nu LT cd lc kp cc P ind h tk ca cb us ue mo mS mD s d vt cn ml gl ex at1 ox oc lt HE CL op fl dl vb ob ts st ho) (m : hs_MA h ind ca cb lc cn CL ho LT fl dl vb d vt) (hs : s < mS) (hx : h (fl d) = 1) (hM : 250 * (mS - s) + hs_pot ts st d + 2 ≤ M + 1) : hs_Go (hs_F tx nu LT cd lc P h yk yen yto ype yli mo mS mD x_pendingCount x_keptTokens x_keptLines x_codeCount x_cursor x_stop x_waitingCount x_openCount x_lastResult x_pending x_waiting) (2 * (M + 1) + 2) (M + 1) (nI mo, nI mS, nI mD, x_pendingCount, x_keptTokens, x_keptLines, nI lc, x_codeCount, x_cursor, x_stop, x_waitingCount, x_openCount, nI cn, nI (d + 1), nI vt, hs_sx mS s, hs_e9 mS s, rc, pc, x_lastResult, 0, x_pending, LT, cd, x_waiting, gl, ex, ox, mg, lt, oc, at1, CL, HE, op, lp) (hs_V tx nu LT P h lc yk yen yto ype yli mo mS mD gl ex at1 oc lt lp CL HE op ml cn d vt s pc rc fl dl vb ob ts st ho (some none)) := by
  have I0 := I
  obtain ⟨d6, s200, m200, l405⟩ := hs_XId I
  obtain ⟨T, ⟨B1, B2, B3, B4, B5, B6⟩, W, MC, OV, H0, XCk, XLk, XSk, HO, v0, o0⟩ := I
  obtain ⟨L, hv, s1, nh⟩ := m
  obtain ⟨cL, fd⟩ := L.2.1 nh
  obtain ⟨c, r, w1, w2, w3, w4, w5, w6, _, w8⟩ := hs_wordF T fd (by omega)
  have hCH := w8 hx
  rw [hx] at w5 w4 w6
  obtain ⟨f, qs, f26, hf, q2, hs9, ht9, p4, tf, tn, tq⟩ := hs_clsF hCH w6
  have K := hs_Tck T fd
  obtain ⟨t1, t2, t3, t4, t5, t6, t7, t8, t9, t10, t11⟩ := T.2.2.2 (fl d) fd
  have pl := (hs_yPlt t6 t1 t2).1
  obtain ⟨o1, o2, o3, o4, o5⟩ := hs_opNext K t1 t2 (Or.inl hx)
  have j8 := (K.1 (fl d + 1) (by omega) o1).2
  have d0 : d = 0 := by
    rcases Nat.lt_or_ge 0 d with z | z
    · exact absurd hx (hs_noDir K t1 t2 (L.2.2.2 z)).2.1
    · omega
  have cn1 := W.1.1
  have cn10 := W.1.2
  have OX := W.2.2.2.2.2.2.2.2
  have hlt : ∀ q, q < 26 → lt q = -1 ∨ ∃ b, b < cn ∧ lt q = nI b := W.2.2.2.2.2.2.2.1
  have hml : ∀ c, c < cn → (ml c).length ≤ 10 ∧ ∀ x, x ∈ ml c → x < cn := fun c hc => ⟨(OX c hc).2.1, fun x hx => by have := (OX c hc).2.2.2 x hx; omega⟩
  have h26 : ∀ i q, qs[i]? = some q → q < 26 := fun i q hi => (tq i q hi).1
  have hB : ∀ i : Nat, hs_Bx lt qs[i]? ∨ ∃ fo, hs_Bs lt cn qs[i]? fo := by
    intro i
    cases e : qs[i]? with
    | none => exact Or.inr ⟨none, Or.inl ⟨rfl, rfl⟩⟩
    | some q =>
      rcases hlt q (h26 i q e) with z | ⟨b, b1, b2⟩
      · exact Or.inl ⟨q, rfl, h26 i q e, z⟩
      · exact Or.inr ⟨some b, Or.inr ⟨q, b, rfl, h26 i q e, b1, b2, rfl⟩⟩
  have hst : qs[0]? = none → qs[1]? = none := by
    intro e
    have := List.getElem?_eq_none_iff.mp e
    exact List.getElem?_eq_none (by omega)
  have bad : (hs_Bx lt qs[0]? ∨ hs_Bx lt qs[1]?) → ∃ q, q ∈ qs ∧ lt q = -1 := by
    rintro (⟨q, e1, _, e3⟩ | ⟨q, e1, _, e3⟩)
    · exact ⟨q, List.mem_of_getElem? e1, e3⟩
    · exact ⟨q, List.mem_of_getElem? e1, e3⟩
  have nbad : ∀ fo so, hs_Bs lt cn qs[0]? fo → hs_Bs lt cn qs[1]? so → ¬ ∃ q, q ∈ qs ∧ lt q = -1 := by
    rintro fo so b1 b2 ⟨q, hq, e⟩
    obtain ⟨i, hi⟩ := List.mem_iff_getElem?.mp hq
    have il : i < 2 := by
      rcases Nat.lt_or_ge i qs.length with z | z
      · omega
      · rw [List.getElem?_eq_none z] at hi; cases hi
    have key : ∀ (i : Nat) (fo : Option Nat), hs_Bs lt cn qs[i]? fo → qs[i]? = some q → False := by
      intro i fo b hi
      rcases b with ⟨a1, _⟩ | ⟨q', c, a1, a2, a3, a4, a5⟩
      · rw [a1] at hi; cases hi
      · rw [a1] at hi
        have := Option.some.inj hi
        subst this
        rw [e] at a4
        exact hs_neM1 (a := c) (by omega) a4.symm
    have : i = 0 ∨ i = 1 := by omega
    rcases this with rfl | rfl
    · exact key 0 fo b1 hi
    · exact key 1 so b2 hi
  have mgE : ∀ fo so bs, hs_Bs lt cn qs[0]? fo → hs_Bs lt cn qs[1]? so → hs_Qb lt cn qs bs → hs_mg (hs_L3 (hs_Lo ml fo so)) 11 0 = hs_mg (hs_YL ml bs) 11 0 := by
    intro fo so bs b1 b2 hQ
    rw [hs_BsU cn10 b1 (hs_BsQ hQ h26 0), hs_BsU cn10 b2 (hs_BsQ hQ h26 1)]
    exact hs_mgY (by rw [hQ.1]; exact q2) 11 0
  have OXr : ∀ ox' : Nat → Int32, (∀ j, (j < cn * 12 ∨ cn * 12 + 12 ≤ j) → ox' j = ox j) → hs_OX cn ml ox' := by
    intro ox' h1 c hc
    obtain ⟨a1, a2, a3, a4⟩ := OX c hc
    exact ⟨a1, a2, fun k hk => by rw [h1 _ (by omega)]; exact a3 k hk, a4⟩
  have WR : ∀ ox' : Nat → Int32, (∀ j, (j < cn * 12 ∨ cn * 12 + 12 ≤ j) → ox' j = ox j) → hs_WX P h lc cn ml gl ex at1 ox' oc lt := by
    intro ox' h1
    obtain ⟨a1, a2, a3, a4, a5, a6, a7, a8, a9⟩ := W
    exact ⟨a1, a2, a3, a4, a5, a6, a7, a8, OXr ox' h1⟩
  have IR : ∀ ox' : Nat → Int32, (∀ j, (j < cn * 12 ∨ cn * 12 + 12 ≤ j) → ox' j = ox j) → hs_XI tx nu LT cd lc kp cc P ind h tk ca cb us ue mo mS mD (s + 1) d vt cn ml gl ex at1 ox' oc lt HE CL op fl dl vb ob ts st ho := fun ox' h1 => hs_XIin I0 (fun _ _ => rfl) (fun _ _ => rfl) (fun _ _ => rfl) (fun _ _ _ => rfl) (by omega) (WR ox' h1) (Nat.le_refl _) MC OV (hs_XIh I0)
  have ycls : ∀ (x : SY → Prop) (v : SY), hs_V tx nu LT P h lc yk yen yto ype yli mo mS mD gl ex at1 oc lt lp CL HE op ml cn d vt s pc rc fl dl vb ob ts st ho (some none) v → ((∃ q, q ∈ qs ∧ lt q = -1) → ∀ v1, hs_VC tx nu LT P h lc yk yen yto ype yli mo mS mD gl ex at1 oc lt lp CL HE op ml cn d (vb d) (s + 1) pc rc fl dl vb ob ts st ho 2 v1 → x v1) → (∀ bs, hs_Qb lt cn qs bs → hs_mg (hs_YL ml bs) 11 0 = none → ∀ v1, hs_VC tx nu LT P h lc yk yen yto ype yli mo mS mD gl ex at1 oc lt lp CL HE op ml cn d (vb d) (s + 1) pc rc fl dl vb ob ts st ho 3 v1 → x v1) → (∀ bs l, hs_Qb lt cn qs bs → hs_mg (hs_YL ml bs) 11 0 = some l → cn = 10 → ∀ v1, hs_VC tx nu LT P h lc yk yen yto ype yli mo mS mD gl ex at1 oc lt lp CL HE op ml cn d (vb d) (s + 1) pc rc fl dl vb ob ts st ho 7 v1 → x v1) → (∀ bs l, hs_Qb lt cn qs bs → hs_mg (hs_YL ml bs) 11 0 = some l → cn < 10 → ∀ v1, hs_V tx nu LT P h lc yk yen yto ype yli mo mS mD gl ex at1 oc (upd lt f (nI cn)) lp CL HE op (hs_put1 ml cn (cn :: l)) (cn + 1) d vt (s + 1) pc rc (hs_put1 fl d (fl d + 1)) dl vb ob ts st ho (some none) v1 → x v1) → wpY_reach (fun u => match u with | (y_maxObjectsw, y_maxStepsw, y_maxDepthw, y_keptw, y_endw, y_tokensw, y_pendingw, y_linesw, y_classesw, y_printsw, y_placew, y_stepsw, y_dw, y_valTopw, y_opTopw, y_opensw, y_posw, y_tkw, y_tvw, y_stmtw, y_targetw, y_errw, y_codew, y_outcomew, y_resultw, y_dryw, y_wantw, y_startingw, y_endedw, y_badw, y_hostedw, y_sawSuperw, y_textw, y_numbersw, y_globalsw, y_entriesw, y_attrsw, y_classOfw, y_alivew, y_ordersw, y_lengthsw, y_lettersw, y_basesw, y_valsw, y_opsw, y_localsw, y_fRecvw, y_fLinew, y_fPosw, y_fStmtw, y_fTargetw, y_fMaskw, y_fHomew, y_fOpsw, y_fValsw, y_fNeww, y_outw) => x (y_maxObjectsw, y_maxStepsw, y_maxDepthw, y_keptw, y_endw, y_tokensw, y_pendingw, y_linesw, y_classesw, y_printsw, y_placew, y_stepsw, y_dw, y_valTopw, y_opTopw, y_opensw, y_posw, y_tkw, y_tvw, y_stmtw, y_targetw, y_errw, y_codew, y_outcomew, y_resultw, y_dryw, y_wantw, y_startingw, y_endedw, y_badw, y_hostedw, y_sawSuperw, y_textw, y_numbersw, y_globalsw, y_entriesw, y_attrsw, y_classOfw, y_alivew, y_ordersw, y_lengthsw, y_lettersw, y_basesw, y_valsw, y_opsw, y_localsw, y_fRecvw, y_fLinew, y_fPosw, y_fStmtw, y_fTargetw, y_fMaskw, y_fHomew, y_fOpsw, y_fValsw, y_fNeww, y_outw)) v := by
    intro x v hv' H2 H3 H7 Hok
    refine hs_yWord I0 fd hs w4 (by omega) hv hv' (fun v1 h1 => ?_)
    obtain ⟨y_maxObjects, y_maxSteps, y_maxDepth, y_kept, y_end, y_tokens, y_pending, y_lines, y_classes, y_prints, y_place, y_steps, y_d, y_valTop, y_opTop, y_opens, y_pos, y_tk, y_tv, y_stmt, y_target, y_err, y_code, y_outcome, y_result, y_dry, y_want, y_starting, y_ended, y_bad, y_hosted, y_sawSuper, y_text, y_numbers, y_globals, y_entries, y_attrs, y_classOf, y_alive, y_orders, y_lengths, y_letters, y_bases, y_vals, y_ops, y_locals, y_fRecv, y_fLine, y_fPos, y_fStmt, y_fTarget, y_fMask, y_fHome, y_fOps, y_fVals, y_fNew, y_out⟩ := v1
    intro e
    have e' : y_stmt = 1 := e
    subst e'
    obtain ⟨⟨⟨a1, a2, a3, a4, a5, a6, a7, a8, a9, a10, a11, a12, a13, a14, a15, a16, a17, a18, a19, a20, a21, anu, a23, a24, a25, a26, a27⟩, E, O, va, l0, C, KK, qf⟩, z1, z2⟩ := h1
    (have a1 := a1.symm; have a2 := a2.symm; have a3 := a3.symm; have a4 := a4.symm; have a5 := a5.symm; have a6 := a6.symm; have a7 := a7.symm; have a8 := a8.symm; have a9 := a9.symm; have a10 := a10.symm; have a11 := a11.symm; have a12 := a12.symm; have a13 := a13.symm; have a14 := a14.symm; have a15 := a15.symm; have a16 := a16.symm; have a17 := a17.symm; have a18 := a18.symm; have a19 := a19.symm; have a20 := a20.symm; have a21 := a21.symm; have a23 := a23.symm; have a24 := a24.symm; have a25 := a25.symm; have a26 := a26.symm; have a27 := a27.symm; subst a1 a2 a3 a4 a5 a6 a7 a8 a9 a10 a11 a12 a13 a14 a15 a16 a17 a18 a19 a20 a21 a23 a24 a25 a26 a27)
    subst z1 z2
    have OYr : ∀ oy' : Nat → Int32, (∀ j, (j < cn * 10 ∨ cn * 10 + 10 ≤ j) → oy' j = y_orders j) → hs_OY cn ml oy' y_lengths := by
      intro oy' h1 c hc
      have := (hml c hc).1
      exact ⟨(O c hc).1, fun k hk => by rw [h1 _ (by omega)]; exact (O c hc).2 k hk⟩
    refine br_f (by decide) (br_f (by decide) (br_t rfl (hs_yClsM q2 p4 tf f26 tn tq hlt cn10 O hml MC (fun b ba => ?_) (fun bs hQ q ba oy' ho => ?_) (fun bs l hQ q c10 ba oy' ho => ?_) (fun bs l hQ q c10 ba oy' ho hr => ?_))))
    · exact H2 b _ ⟨⟨rfl, rfl, rfl, rfl, rfl, rfl, rfl, rfl, rfl, rfl, rfl, rfl, rfl, rfl, rfl, rfl, rfl, rfl, rfl, rfl, rfl, anu, rfl, rfl, rfl, rfl, rfl⟩, E, O, fun j hj => va j (by omega), l0, C, KK, qf⟩
    · exact H3 bs hQ q _ ⟨⟨rfl, rfl, rfl, rfl, rfl, rfl, rfl, rfl, rfl, rfl, rfl, rfl, rfl, rfl, rfl, rfl, rfl, rfl, rfl, rfl, rfl, anu, rfl, rfl, rfl, rfl, rfl⟩, E, OYr oy' ho, fun j hj => va j (by omega), l0, C, KK, qf⟩
    · exact H7 bs l hQ q c10 _ ⟨⟨rfl, rfl, rfl, rfl, rfl, rfl, rfl, rfl, rfl, rfl, rfl, rfl, rfl, rfl, rfl, rfl, rfl, rfl, rfl, rfl, rfl, anu, rfl, rfl, rfl, rfl, rfl⟩, E, OYr oy' ho, fun j hj => va j (by omega), l0, C, KK, qf⟩
    · refine hs_yEnter t6 t1 o1 d6 (Hok bs l hQ q c10 _ ⟨⟨rfl, rfl, rfl, rfl, rfl, rfl, rfl, rfl, rfl, rfl, rfl, rfl, rfl, rfl, rfl, rfl, rfl, rfl, rfl, rfl, rfl, rfl, anu, rfl, rfl, rfl, rfl, rfl⟩, E, fun c hc => ?_, va, l0, C, fun k hk nk => ?_, rfl, ?_, rfl⟩)
      · by_cases z : c = cn
        · subst z
          rw [pk_us, hs_put1S]
          exact ⟨rfl, fun k hk => hr k (by rw [List.length_cons] at hk; omega)⟩
        · rw [pk_un z, hs_put1N z]
          have := (hml c (by omega)).1
          exact ⟨(O c (by omega)).1, fun k hk => by rw [ho _ (by omega)]; exact (O c (by omega)).2 k hk⟩
      · rw [pk_un (by omega), hs_put1N (by omega)]; exact KK k hk nk
      · rw [pk_us, hs_put1S]
  refine hs_enterS d6 (by omega) cL (s1.trans w1) w2 w3 hs ?_
  intro i k n hi hk hn post HP
  refine nm_r (pk_mul (fl d) 14) ?_
  rw [Int32.add_zero, nI_clamp (show fl d * 14 < 2 ^ 31 by omega)]
  refine And.intro (vp_in_nI (by omega) (by decide)) (nm_r w5 (br_f (by decide) (br_f (by decide) (br_t rfl ?_))))
  refine hs_xClass (ml := ml) (sL := qs[0]?) (tL := qs[1]?) (by omega) hf f26 hs9 ht9 hst (hB 0) (hB 1) OX cn10 (fun b => ?_) (fun fo so b1 b2 q ox' mg' hox => ?_) (fun fo so l' b1 b2 q c10 ox' mg' hox => ?_) (fun fo so l' b1 b2 q c10 ox' mg' hox hr => ?_)
  · have g := hs_tErr (er := 2) (x14 := nI vt) (mg := mg) (pc := pc) (rc := rc) (lp := lp) A (IR ox (fun _ _ => rfl)) nh L (by omega) (by decide) (by decide) (by omega)
    refine g i k n hi hk hn post (fun u' V' ff gg => HP u' V' ff (fun Q hQ m hm v hv' => ycls _ v hv' (fun _ => gg Q hQ m hm) (fun bs hQ' => ?_) (fun bs l hQ' => ?_) (fun bs l hQ' => ?_)))
    · exact absurd (bad b) (nbad _ _ (hs_BsQ hQ' h26 0) (hs_BsQ hQ' h26 1))
    · exact absurd (bad b) (nbad _ _ (hs_BsQ hQ' h26 0) (hs_BsQ hQ' h26 1))
    · exact absurd (bad b) (nbad _ _ (hs_BsQ hQ' h26 0) (hs_BsQ hQ' h26 1))
  · have g := hs_tErr (er := 3) (x14 := nI vt) (mg := mg') (pc := pc) (rc := rc) (lp := lp) A (IR ox' hox) nh L (by omega) (by decide) (by decide) (by omega)
    refine g i k n hi hk hn post (fun u' V' ff gg => HP u' V' ff (fun Q hQ m hm v hv' => ycls _ v hv' (fun b => absurd b (nbad fo so b1 b2)) (fun bs hQ' _ => gg Q hQ m hm) (fun bs l hQ' y => ?_) (fun bs l hQ' y => ?_)))
    · rw [mgE fo so bs b1 b2 hQ', y] at q; cases q
    · rw [mgE fo so bs b1 b2 hQ', y] at q; cases q
  · have g := hs_tErr (er := 7) (x14 := nI vt) (mg := mg') (pc := pc) (rc := rc) (lp := lp) A (IR ox' hox) nh L (by omega) (by decide) (by decide) (by omega)
    refine g i k n hi hk hn post (fun u' V' ff gg => HP u' V' ff (fun Q hQ m hm v hv' => ycls _ v hv' (fun b => absurd b (nbad fo so b1 b2)) (fun bs hQ' y => ?_) (fun bs l hQ' _ _ => gg Q hQ m hm) (fun bs l hQ' _ y => by omega)))
    rw [mgE fo so bs b1 b2 hQ', y] at q; cases q
  · obtain ⟨ml1, ml2⟩ := hs_mgM (L := hs_L3 (hs_Lo ml fo so)) (cn := cn) (fun l hl => by
      have hLo := hs_LoOK (ml := ml) (fo := fo) (so := so) OX (fun a ea => by
        rcases b1 with ⟨_, e⟩ | ⟨_, c, _, _, c1, _, e⟩
        · rw [e] at ea; cases ea
        · rw [e] at ea; have := Option.some.inj ea; omega) (fun a ea => by
        rcases b2 with ⟨_, e⟩ | ⟨_, c, _, _, c1, _, e⟩
        · rw [e] at ea; cases ea
        · rw [e] at ea; have := Option.some.inj ea; omega)
      unfold hs_L3 at hl
      simp only [List.mem_cons, List.not_mem_nil, or_false] at hl
      rcases hl with e | e | e
      · rw [e]; exact (hLo 0 (by omega)).2
      · rw [e]; exact (hLo 1 (by omega)).2
      · rw [e]; exact (hLo 2 (by omega)).2) 11 0 l' (by have := hs_unLe (cn := cn) (t := 0); omega) q
    have ul := hs_unLe (cn := cn) (t := 0)
    have W' : hs_WX P h lc (cn + 1) (hs_put1 ml cn (cn :: l')) gl ex at1 ox' oc (upd lt f (nI cn)) := by
      obtain ⟨a1, a2, a3, a4, a5, a6, a7, a8, a9⟩ := W
      refine ⟨⟨by omega, by omega⟩, a2, a3, a4, a5, a6, fun o ho' => ?_, fun q hq => ?_, fun c hc => ?_⟩
      · obtain ⟨c, c1, c2⟩ := a7 o ho'
        exact ⟨c, by omega, c2⟩
      · by_cases z : q = f
        · subst z; exact Or.inr ⟨cn, by omega, pk_us⟩
        · rw [pk_un z]
          rcases a8 q hq with y | ⟨c, c1, c2⟩
          · exact Or.inl y
          · exact Or.inr ⟨c, by omega, c2⟩
      · by_cases z : c = cn
        · subst z
          rw [hs_put1S]
          refine ⟨by rw [List.length_cons]; omega, by rw [List.length_cons]; omega, hr, fun x hx' => ?_⟩
          cases hx' with
          | head => exact Nat.le_refl _
          | tail _ hx' => have := ml2 x hx'; omega
        · rw [hs_put1N z]
          exact OXr ox' hox c (by omega)
    have MC' : ∀ c, c < cn + 1 → c ∈ hs_put1 ml cn (cn :: l') c := by
      intro c hc
      by_cases z : c = cn
      · subst z; rw [hs_put1S]; exact List.mem_cons_self ..
      · rw [hs_put1N z]; exact MC c (by omega)
    have I1 : hs_XI tx nu LT cd lc kp cc P ind h tk ca cb us ue mo mS mD (s + 1) d vt (cn + 1) (hs_put1 ml cn (cn :: l')) gl ex at1 ox' oc (upd lt f (nI cn)) HE CL op fl dl vb ob ts st ho := hs_XIin I0 (fun _ _ => rfl) (fun _ _ => rfl) (fun _ _ => rfl) (fun _ _ _ => rfl) (by omega) W' (by omega) MC' OV (hs_XIh I0)
    have hl : hs_lc h ind ca cb lc (cn + 1) ho (fl d + 1) (dl d) d := by
      obtain ⟨l1, l2, l3⟩ := hs_lcOf nh L
      obtain ⟨ra, rb⟩ := t4 (fl d + 1) (by omega) o1
      refine ⟨by omega, fun z1 z2 => ?_, fun z => by omega⟩
      obtain ⟨y1, y2, y3⟩ := l2 z1 z2
      rw [ra, rb]
      exact ⟨y1, by rw [hs_D1 j8 o3, if_neg (by omega)]; exact y2, fun _ => by omega⟩
    have g := hs_tReach (mg := mg') (pc := pc) (rc := rc) (lp := lp) A I1 hv nh hl o4 o5 (by omega)
    refine g i k n hi hk hn post (fun u' V' ff gg => HP u' V' ff (fun Q hQ m hm v hv' => ycls _ v hv' (fun b => absurd b (nbad fo so b1 b2)) (fun bs hQ' y => ?_) (fun bs l hQ' _ y => by omega) (fun bs l hQ' y _ v1 h1 => gg Q hQ m hm v1 ?_)))
    · rw [mgE fo so bs b1 b2 hQ', y] at q; cases q
    · rw [mgE fo so bs b1 b2 hQ', y] at q
      rw [← Option.some.inj q]
      exact h1
theorem hs_stepA (A : hs_GA tx nu LT cd lc kp cc P ind h tk ca cb us ue yk yen yto ype yli mo mS mD ho x_pendingCount x_keptTokens x_keptLines x_codeCount x_cursor x_stop x_waitingCount x_openCount x_lastResult x_pending x_waiting M) (G : hs_GB tx nu LT cd lc kp cc P ind h tk ca cb us ue yk yen yto ype yli mo mS mD ho x_pendingCount x_keptTokens x_keptLines x_codeCount x_cursor x_stop x_waitingCount x_openCount x_lastResult x_pending x_waiting M) : hs_GA tx nu LT cd lc kp cc P ind h tk ca cb us ue yk yen yto ype yli mo mS mD ho x_pendingCount x_keptTokens x_keptLines x_codeCount x_cursor x_stop x_waitingCount x_openCount x_lastResult x_pending x_waiting (M + 1) := by
  intro s d vt cn ml gl ex at1 HE op ox oc lt lp CL mg pc rc fl dl vb ob ts st I m h5 h8 hM
  by_cases hs : s < mS
  · by_cases h1 : h (fl d) = 1
    · exact hs_stepA1 A I m hs h1 hM
    · by_cases h2 : h (fl d) = 2
      · exact hs_stepA2 A G I m hs h2 hM
      · by_cases h7 : h (fl d) = 7
        · exact hs_stepA7 A I m hs h7 hM
        · by_cases h10 : h (fl d) = 10
          · exact hs_stepA10 A G I m hs h10 hM
          · exact hs_stepAe G I m hs ⟨h1, h2, h5, h7, h8, h10⟩ hM
  · exact hs_stepA9 I m hs
theorem hs_Main : ∀ M : Nat, (hs_GA tx nu LT cd lc kp cc P ind h tk ca cb us ue yk yen yto ype yli mo mS mD ho x_pendingCount x_keptTokens x_keptLines x_codeCount x_cursor x_stop x_waitingCount x_openCount x_lastResult x_pending x_waiting M) ∧ (hs_GB tx nu LT cd lc kp cc P ind h tk ca cb us ue yk yen yto ype yli mo mS mD ho x_pendingCount x_keptTokens x_keptLines x_codeCount x_cursor x_stop x_waitingCount x_openCount x_lastResult x_pending x_waiting M)
  | 0 => by
    refine ⟨?_, ?_⟩
    · intro s d vt cn ml gl ex at1 HE op ox oc lt lp CL mg pc rc fl dl vb ob ts st I m h5 h8 hM
      omega
    · intro s d vt cn ml gl ex at1 HE op ox oc lt lp CL mg pc rc fl dl vb ob ts st w I m hM
      omega
  | M + 1 => ⟨hs_stepA (hs_Main M).1 (hs_Main M).2, hs_stepBB (hs_Main M).1 (hs_Main M).2⟩
end
