/-! a call begins on both sides -/
section
variable {x_objectLimit x_stepLimit x_depthLimit x_pendingCount x_keptTokens x_keptLines x_lineCount x_codeCount x_cursor x_stop x_waitingCount x_openCount x_classCount x_callCount x_operandCount x_stepsTaken x_error x_raisedCode x_printCount x_lastPlace : Int32} {x_lastResult : Int64} {x_pending x_lineTable x_orders x_merging x_letterClass x_objectClass x_calls x_lastPrints : Nat → Int32} {x_code x_waiting x_globals x_entries x_attributes x_held x_operands : Nat → Int64}
variable {y_maxObjects y_maxSteps y_maxDepth y_kept y_end y_tokens y_pending y_lines y_classes y_prints y_place y_steps y_d y_valTop y_opTop y_opens y_pos y_tk y_tv y_stmt y_target y_err y_code y_outcome y_dry y_want y_starting y_ended y_bad y_hosted y_sawSuper : Int32} {y_result : Int64} {y_text y_numbers y_classOf y_alive y_orders y_lengths y_letters y_bases y_ops y_fLine y_fPos y_fStmt y_fTarget y_fMask y_fHome y_fOps y_fVals y_fNew y_out : Nat → Int32} {y_globals y_entries y_attrs y_vals y_locals y_fRecv : Nat → Int64}
variable {tx nu LT : Nat → Int32} {cd : Nat → Int64} {lc kp cc : Nat} {P ind h : Nat → Nat} {tk : Nat → List Nat} {ca cb us ue : Nat → Nat} {yk yen yto ype yli : Int32} {mo mS mD : Nat} {ho : Bool}
variable {s d vt cn : Nat} {ml : Nat → List Nat} {gl ex at1 HE op : Nat → Int64} {ox oc lt lp CL mg : Nat → Int32} {pc rc : Int32} {fl dl vb ob : Nat → Nat} {ts st : Nat → List Nat} {M : Nat}
variable {n a uz fr on m l : Nat} {fo : Option Nat} {rv arg : Int64}
def hs_VP (tx nu LT : Nat → Int32) (P h : Nat → Nat) (lc : Nat) (yk yen yto ype yli : Int32) (mo mS mD : Nat) (gl ex at1 : Nat → Int64) (oc lt lp CL : Nat → Int32) (HE op : Nat → Int64) (ml : Nat → List Nat) (cn d vt s : Nat) (pc rc : Int32) (fl dl vb ob : Nat → Nat) (ts st : Nat → List Nat) (ho : Bool) (on : Nat) (v : SY) : Prop := match v with
  | (y_maxObjects, y_maxSteps, y_maxDepth, y_kept, y_end, y_tokens, y_pending, y_lines, y_classes, y_prints, y_place, y_steps, y_d, y_valTop, y_opTop, y_opens, y_pos, y_tk, y_tv, y_stmt, y_target, y_err, y_code, y_outcome, y_result, y_dry, y_want, y_starting, y_ended, y_bad, y_hosted, y_sawSuper, y_text, y_numbers, y_globals, y_entries, y_attrs, y_classOf, y_alive, y_orders, y_lengths, y_letters, y_bases, y_vals, y_ops, y_locals, y_fRecv, y_fLine, y_fPos, y_fStmt, y_fTarget, y_fMask, y_fHome, y_fOps, y_fVals, y_fNew, y_out) => (y_maxObjects = nI mo ∧ y_maxSteps = nI mS ∧ y_maxDepth = nI mD ∧ y_kept = yk ∧ y_end = yen ∧ y_tokens = yto ∧ y_pending = ype ∧ y_lines = yli ∧ y_classes = nI cn ∧ y_prints = pc ∧ y_place = 0 ∧ y_steps = nI s ∧ y_d = nI d ∧ y_err = 0 ∧ y_code = rc ∧ y_outcome = 0 ∧ y_result = 0 ∧ y_dry = 0 ∧ y_ended = 0 ∧ y_hosted = hs_b ho ∧ y_text = tx ∧ (∀ j, j < lc → y_numbers (P j) = nu (P j)) ∧ y_globals = gl ∧ y_attrs = at1 ∧ y_classOf = oc ∧ y_letters = lt ∧ y_out = lp) ∧
    hs_EE P (hs_df h lc) ex y_entries ∧ hs_OY cn ml y_orders y_lengths ∧ (∀ j, j < vt → y_vals j = op j) ∧ (∀ j, j < 26 → y_locals j = 0) ∧
    (∀ k, k ≤ d → hs_YC LT CL HE y_fMask y_fHome y_fVals y_fOps y_fNew y_fRecv y_locals (dl k) (vb k) (ob k) k) ∧
    (∀ k, k < d → ¬ (ho = true ∧ k = 0) → y_fLine k = nI (P (fl k)) ∧ hs_YS tx LT y_fPos y_fStmt y_fTarget y_ops (fl k) (ts k) (st k) (ob k) (ob (k + 1)) k) ∧ y_valTop = nI vt ∧ y_opTop = nI on ∧
    (¬ (ho = true ∧ d = 0) → y_fLine d = nI (P (fl d)) ∧ ∃ pp, y_pos = nI pp ∧ hs_TA tx pp (ts d) ∧ y_stmt = hs_smk (LT (fl d * 14)) ∧ hs_tg LT (fl d) y_target ∧ hs_SA y_ops (ob d) on (st d))
theorem hs_callG {CL2 : Nat → Int32} {HE' at1' : Nat → Int64} {oc' : Nat → Int32} {vn : Nat} (A : hs_GA tx nu LT cd lc kp cc P ind h tk ca cb us ue yk yen yto ype yli mo mS mD ho x_pendingCount x_keptTokens x_keptLines x_codeCount x_cursor x_stop x_waitingCount x_openCount x_lastResult x_pending x_waiting M) (I : hs_XI tx nu LT cd lc kp cc P ind h tk ca cb us ue mo mS mD s d vt cn ml gl ex at1 ox oc lt HE CL op fl dl vb ob ts st ho) (L : hs_XL h ind ca cb lc cn CL ho (fl d) (dl d) d) (hS : ¬ (ho = true ∧ d = 0) → hs_XS LT cd CL (fl d) (ts d) (st d) false d ∧ vn = vb d + hs_nst (st d) ∧ on = ob d + (st d).length) (hS0 : ho = true → d = 0 → vn = 0 ∧ on = 0) (hd : d < mD) (hvn : vn ≤ vt) (W' : hs_WX P h lc cn ml gl ex at1' ox oc' lt) (dfl : hs_df h lc l)
    (hCL : ∀ j, j < (d + 1) * 6 → CL2 j = CL j) (k4 : CL2 ((d + 1) * 6 + 4) = nI vn) (k0 : CL2 ((d + 1) * 6) = nI l) (k1 : ∃ c, c < cn ∧ CL2 ((d + 1) * 6 + 1) = nI c) (k5 : CL2 ((d + 1) * 6 + 5) = 0 ∨ CL2 ((d + 1) * 6 + 5) = 1)
    (hHE : ∀ j, j < (d + 1) * 27 → HE' j = HE j) (hr : ∃ o, o < 8 ∧ HE' ((d + 1) * 27 + 26) = lN (12884901888 + o)) (hv : ∀ j, j < 26 → hs_v0 (HE' ((d + 1) * 27 + j))) (hM : 250 * (mS - s) + hs_pot ts st (d + 1) + 2 ≤ M) :
    hs_Go (hs_F tx nu LT cd lc P h yk yen yto ype yli mo mS mD x_pendingCount x_keptTokens x_keptLines x_codeCount x_cursor x_stop x_waitingCount x_openCount x_lastResult x_pending x_waiting) (2 * M + 2) M (nI mo, nI mS, nI mD, x_pendingCount, x_keptTokens, x_keptLines, nI lc, x_codeCount, x_cursor, x_stop, x_waitingCount, x_openCount, nI cn, nI (d + 1 + 1), nI vn, hs_sx mS s, hs_e9 mS s, rc, pc, x_lastResult, 0, x_pending, LT, cd, x_waiting, gl, ex, ox, mg, lt, oc', at1', hs_CR LT CL2 (d + 1) (l + 1), HE', op, lp)
      (hs_V tx nu LT P h lc yk yen yto ype yli mo mS mD gl ex at1' oc' lt lp CL2 HE' op ml cn (d + 1) vn s pc rc (hs_put1 fl (d + 1) (l + 1)) (hs_put1 dl (d + 1) l) (hs_put1 vb (d + 1) vn) (hs_put1 ob (d + 1) on) ts st ho (some none)) := by
  have I0 := I
  obtain ⟨T, ⟨B1, B2, B3, B4, B5, B6⟩, W, MC, OV, H0, XCk, XLk, XSk, HO, v0, o0⟩ := I
  obtain ⟨x1, x2, x3, x4, x5⟩ := XCk d (Nat.le_refl _)
  obtain ⟨l1, l2⟩ := dfl
  have b1 : vn ≤ 39 * (d + 1) ∧ on ≤ 39 * (d + 1) := by
    by_cases hh : ho = true ∧ d = 0
    · obtain ⟨q1, q2⟩ := hS0 hh.1 hh.2
      omega
    · obtain ⟨⟨c, e, rs, fs, _, _, _, _, _, _, h40, _⟩, q1, q2⟩ := hS hh
      have := hs_nstLe (st d)
      rw [if_neg (by decide)] at h40
      omega
  have I2 : hs_XI tx nu LT cd lc kp cc P ind h tk ca cb us ue mo mS mD s (d + 1) vn cn ml gl ex at1' ox oc' lt HE' CL2 op fl (hs_put1 dl (d + 1) l) (hs_put1 vb (d + 1) vn) (hs_put1 ob (d + 1) on) ts st ho := by
    refine hs_XIpush I0 L hS hS0 hd b1.1 b1.2 (fun j hj => OV j (by omega)) W' hCL k4 k0 k1 k5 hHE hr hv (fun k hk => rfl) (fun k hk => hs_put1N (by omega)) hs_put1S (fun k hk => hs_put1N (by omega)) hs_put1S (fun k hk => hs_put1N (by omega)) hs_put1S (fun k hk => rfl) (fun k hk => rfl)
  have K := hs_Tck T l1
  obtain ⟨g1, g2, g3, g4, g5⟩ := hs_TE T l1
  obtain ⟨o1, o2, o3, o4, o5⟩ := hs_opNext K g2 g3 (Or.inr (Or.inl l2))
  obtain ⟨ra, rb⟩ := (T.2.2.2 l l1).2.2.2.1 (l + 1) (by omega) o1
  have hl : hs_lc h ind ca cb lc cn ho (l + 1) (hs_put1 dl (d + 1) l (d + 1)) (d + 1) := by
    refine ⟨by omega, fun z => by omega, fun _ => ?_⟩
    rw [ra, hs_put1S, hs_D1 (K.1 (l + 1) (by omega) o1).2 o3, if_pos l2]
  exact hs_goR A I2 hs_put1S.symm (by intro z; omega) hl o4 o5 hM
theorem hs_yCallV {sx : Nat} {t : Option Nat} {CL2 : Nat → Int32} {HE' : Nat → Int64} {v : SY} (I : hs_XI tx nu LT cd lc kp cc P ind h tk ca cb us ue mo mS mD s d vt cn ml gl ex at1 ox oc lt HE CL op fl dl vb ob ts st ho) (hS : ¬ (ho = true ∧ d = 0) → on = ob d + (st d).length) (hn : n < 26) (ha : a ≤ 1) (harg : (a = 0 ∧ arg = 0) ∨ (a = 1 ∧ 1 ≤ vt ∧ arg = op (vt - 1))) (hus : uz ≤ vt) (hvt : vt < 280) (hfr : fr ≤ 1) (D : hs_dfl LT tk l sx t) (S : hs_SO LT ex h lc mD d fo n a m l)
    (hCL : ∀ j, j < (d + 1) * 6 → CL2 j = CL j) (k1 : CL2 ((d + 1) * 6 + 1) = nI m) (k5 : CL2 ((d + 1) * 6 + 5) = nI fr)
    (hHE : ∀ j, j < (d + 1) * 27 → HE' j = HE j) (hr : HE' ((d + 1) * 27 + 26) = rv) (hv : ∀ i, i < 26 → HE' ((d + 1) * 27 + i) = hs_lv1 sx t rv (op (vt - 1)) i) (V : hs_VP tx nu LT P h lc yk yen yto ype yli mo mS mD gl ex at1 oc lt lp CL HE op ml cn d vt s pc rc fl dl vb ob ts st ho on v) {post : SY → Prop}
    (H : ∀ v1, hs_V tx nu LT P h lc yk yen yto ype yli mo mS mD gl ex at1 oc lt lp CL2 HE' op ml cn (d + 1) (vt - uz) s pc rc (hs_put1 fl (d + 1) (l + 1)) (hs_put1 dl (d + 1) l) (hs_put1 vb (d + 1) (vt - uz)) (hs_put1 ob (d + 1) on) ts st ho (some none) v1 → post v1) :
    match v with | (y_maxObjects, y_maxSteps, y_maxDepth, y_kept, y_end, y_tokens, y_pending, y_lines, y_classes, y_prints, y_place, y_steps, y_d, y_valTop, y_opTop, y_opens, y_pos, y_tk, y_tv, y_stmt, y_target, y_err, y_code, y_outcome, y_result, y_dry, y_want, y_starting, y_ended, y_bad, y_hosted, y_sawSuper, y_text, y_numbers, y_globals, y_entries, y_attrs, y_classOf, y_alive, y_orders, y_lengths, y_letters, y_bases, y_vals, y_ops, y_locals, y_fRecv, y_fLine, y_fPos, y_fStmt, y_fTarget, y_fMask, y_fHome, y_fOps, y_fVals, y_fNew, y_out) => wpY_invoke post (y_maxObjects, y_maxSteps, y_maxDepth, y_kept, y_end, y_tokens, y_pending, y_lines, y_classes, y_prints, y_place, y_steps, y_d, y_valTop, y_opTop, y_opens, y_pos, y_tk, y_tv, y_stmt, y_target, y_err, y_code, y_outcome, y_result, y_dry, y_want, y_starting, y_ended, y_bad, y_hosted, y_sawSuper, y_text, y_numbers, y_globals, y_entries, y_attrs, y_classOf, y_alive, y_orders, y_lengths, y_letters, y_bases, y_vals, y_ops, y_locals, y_fRecv, y_fLine, y_fPos, y_fStmt, y_fTarget, y_fMask, y_fHome, y_fOps, y_fVals, y_fNew, y_out) (hs_oV y_entries n fo) rv arg (nI uz) (nI fr) := by
  obtain ⟨T, ⟨B1, B2, B3, B4, B5, B6⟩, W, MC, OV, H0, XCk, XLk, XSk, HO, v0, o0⟩ := I
  obtain ⟨l1, l2⟩ := S.2.2.1
  have K := hs_Tck T l1
  obtain ⟨t1, t2, t3, t4, t5, t6, t7, t8, t9, t10, t11⟩ := T.2.2.2 l l1
  obtain ⟨o1, o2, o3, o4, o5⟩ := hs_opNext K t1 t2 (Or.inr (Or.inl l2))
  obtain ⟨n1, n2, n3, n4, e, c0, n5, n6, n7, n8, n9⟩ := t8
  have hk2 : LT (l * 14) = 2 := by
    have kd := hs_LFkd n9
    rw [← (t7 l t1 t2).2.2.2] at kd
    exact (hs_kdE kd (w := 2) (by decide)).mpr l2
  have hlm := n4 hk2
  have dm := S.2.2.2.2.2.2
  have harg2 : arg = 0 ↔ a = 0 := by
    rcases harg with ⟨q1, q2⟩ | ⟨q1, q2, q3⟩
    · exact ⟨fun _ => q1, fun _ => q2⟩
    · refine ⟨fun z => ?_, fun z => by omega⟩
      exact absurd (q3.symm.trans z) (hs_vvne (OV (vt - 1) (by omega)))
  have lvE : ∀ i, hs_lv1 sx t rv arg i = hs_lv1 sx t rv (op (vt - 1)) i := by
    intro i
    rcases harg with ⟨q1, q2⟩ | ⟨q1, q2, q3⟩
    · have tn : t = none := by
        have hnp := S.2.2.2.2.2.1
        cases t with
        | none => rfl
        | some t' =>
          exfalso
          obtain ⟨d1, d2, nn, ⟨d3, _⟩ | ⟨t3, d3, d4, d5, d6, d7⟩⟩ := D
          · cases d3
          · rw [q1] at hnp
            unfold hs_np at hnp
            rw [d6, if_pos (nI_pos' (by omega))] at hnp
            omega
      subst tn
      rfl
    · rw [q3]
  obtain ⟨y_maxObjects, y_maxSteps, y_maxDepth, y_kept, y_end, y_tokens, y_pending, y_lines, y_classes, y_prints, y_place, y_steps, y_d, y_valTop, y_opTop, y_opens, y_pos, y_tk, y_tv, y_stmt, y_target, y_err, y_code, y_outcome, y_result, y_dry, y_want, y_starting, y_ended, y_bad, y_hosted, y_sawSuper, y_text, y_numbers, y_globals, y_entries, y_attrs, y_classOf, y_alive, y_orders, y_lengths, y_letters, y_bases, y_vals, y_ops, y_locals, y_fRecv, y_fLine, y_fPos, y_fStmt, y_fTarget, y_fMask, y_fHome, y_fOps, y_fVals, y_fNew, y_out⟩ := v
  obtain ⟨⟨a1, a2, a3, a4, a5, a6, a7, a8, a9, a10, a11, a12, a13, a14, a15, a16, a17, a18, a19, a20, a21, anu, a23, a24, a25, a26, a27⟩, E, O, va, l0, C, KK, w1, w2, w3⟩ := V
  (have a1 := a1.symm; have a2 := a2.symm; have a3 := a3.symm; have a4 := a4.symm; have a5 := a5.symm; have a6 := a6.symm; have a7 := a7.symm; have a8 := a8.symm; have a9 := a9.symm; have a10 := a10.symm; have a11 := a11.symm; have a12 := a12.symm; have a13 := a13.symm; have a14 := a14.symm; have a15 := a15.symm; have a16 := a16.symm; have a17 := a17.symm; have a18 := a18.symm; have a19 := a19.symm; have a20 := a20.symm; have a21 := a21.symm; have a23 := a23.symm; have a24 := a24.symm; have a25 := a25.symm; have a26 := a26.symm; have a27 := a27.symm; subst a1 a2 a3 a4 a5 a6 a7 a8 a9 a10 a11 a12 a13 a14 a15 a16 a17 a18 a19 a20 a21 a23 a24 a25 a26 a27)
  subst w1 w2
  show wpY_invoke post _ _ _ _ _ _
  refine hs_yInvC E hn ha harg2 B3 hus (by omega) hfr t6 t7 (fun j j1 j2 => (K.1 j j1 j2).1.2.1) t1 o1 D S (fun lo' q1 q2 => H _ ⟨⟨rfl, rfl, rfl, rfl, rfl, rfl, rfl, rfl, rfl, rfl, rfl, rfl, rfl, rfl, rfl, rfl, rfl, rfl, rfl, rfl, rfl, rfl, anu, rfl, rfl, rfl, rfl, rfl⟩, E, O, fun j hj => va j (by omega), fun j hj => by rw [q1 j (by omega)]; exact l0 j hj, fun k hk => ?_, fun k hk nk => ?_, rfl, ?_, ?_⟩)
  · rcases Nat.lt_or_ge d k with z | z
    · have ek : k = d + 1 := by omega
      subst ek
      rw [hs_put1S, hs_put1S, hs_put1S]
      refine ⟨pk_us, pk_us, fun y => by omega, fun _ => ⟨?_, ?_, ?_, ?_, fun i hi => ?_⟩⟩
      · rw [pk_us]; exact hlm.symm
      · rw [pk_us]; exact k1.symm
      · rw [pk_us]; exact k5.symm
      · rw [pk_uLs]; exact hr.symm
      · rw [q2 i hi, hv i hi]; exact lvE i
    · obtain ⟨c1, c2, c3, c4⟩ := C k z
      rw [hs_put1N (show k ≠ d + 1 by omega), hs_put1N (show k ≠ d + 1 by omega), hs_put1N (show k ≠ d + 1 by omega)]
      refine ⟨by rw [pk_un (by omega)]; exact c1, by rw [pk_un (by omega)]; exact c2, fun y => by rw [pk_un (by omega)]; exact c3 y, fun y => ?_⟩
      obtain ⟨e1, e2, e3, e4, e5⟩ := c4 y
      refine ⟨by rw [pk_un (by omega)]; exact e1, by rw [pk_un (by omega), hCL _ (by omega)]; exact e2, by rw [pk_un (by omega), hCL _ (by omega)]; exact e3, by rw [pk_uLn (by omega), hHE _ (by omega)]; exact e4, fun i hi => by rw [q1 _ (by omega), hHE _ (by omega)]; exact e5 i hi⟩
  · rw [pk_un (show k ≠ d + 1 by omega), hs_put1N (show k ≠ d + 1 by omega), hs_put1N (show k ≠ d + 1 by omega)]
    rcases Nat.lt_or_ge k d with z | z
    · obtain ⟨f1, pq, r1, r2, r3, r4, r5⟩ := KK k z nk
      rw [hs_put1N (show k + 1 ≠ d + 1 by omega)]
      exact ⟨f1, pq, by rw [pk_un (by omega)]; exact r1, r2, by rw [pk_un (by omega)]; exact r3, by rw [pk_un (by omega)]; exact r4, r5⟩
    · have ek : k = d := by omega
      subst ek
      obtain ⟨f1, pp, p1, p2, p3, p4, p5⟩ := w3 nk
      rw [hs_put1S]
      exact ⟨f1, pp, by rw [pk_us]; exact p1, p2, by rw [pk_us]; exact p3, by rw [pk_us]; exact p4, p5⟩
  · rw [pk_us, hs_put1S]
  · rw [hs_put1S]
end
