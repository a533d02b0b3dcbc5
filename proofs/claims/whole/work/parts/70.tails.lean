/-! both sides to the end of a turn -/
section
variable {x_objectLimit x_stepLimit x_depthLimit x_pendingCount x_keptTokens x_keptLines x_lineCount x_codeCount x_cursor x_stop x_waitingCount x_openCount x_classCount x_callCount x_operandCount x_stepsTaken x_error x_raisedCode x_printCount x_lastPlace : Int32} {x_lastResult : Int64} {x_pending x_lineTable x_orders x_merging x_letterClass x_objectClass x_calls x_lastPrints : Nat → Int32} {x_code x_waiting x_globals x_entries x_attributes x_held x_operands : Nat → Int64}
variable {y_maxObjects y_maxSteps y_maxDepth y_kept y_end y_tokens y_pending y_lines y_classes y_prints y_place y_steps y_d y_valTop y_opTop y_opens y_pos y_tk y_tv y_stmt y_target y_err y_code y_outcome y_dry y_want y_starting y_ended y_bad y_hosted y_sawSuper : Int32} {y_result : Int64} {y_text y_numbers y_classOf y_alive y_orders y_lengths y_letters y_bases y_ops y_fLine y_fPos y_fStmt y_fTarget y_fMask y_fHome y_fOps y_fVals y_fNew y_out : Nat → Int32} {y_globals y_entries y_attrs y_vals y_locals y_fRecv : Nat → Int64}
def hs_lXn (post : SX → Prop) (n i : Nat) (u : SX) : Prop := match u with
  | (x_objectLimit, x_stepLimit, x_depthLimit, x_pendingCount, x_keptTokens, x_keptLines, x_lineCount, x_codeCount, x_cursor, x_stop, x_waitingCount, x_openCount, x_classCount, x_callCount, x_operandCount, x_stepsTaken, x_error, x_raisedCode, x_printCount, x_lastResult, x_lastPlace, x_pending, x_lineTable, x_code, x_waiting, x_globals, x_entries, x_orders, x_merging, x_letterClass, x_objectClass, x_attributes, x_calls, x_held, x_operands, x_lastPrints) => ∀ x : Int32, x = nI i + 1 → wX_execute_2 post n x x_objectLimit x_stepLimit x_depthLimit x_pendingCount x_keptTokens x_keptLines x_lineCount x_codeCount x_cursor x_stop x_waitingCount x_openCount x_classCount x_callCount x_operandCount x_stepsTaken x_error x_raisedCode x_printCount x_lastResult x_lastPlace x_pending x_lineTable x_code x_waiting x_globals x_entries x_orders x_merging x_letterClass x_objectClass x_attributes x_calls x_held x_operands x_lastPrints
def hs_ykk (Q : SY → Prop) (m : Nat) (k : Int32) (v : SY) : Prop := match v with
  | (y_maxObjects, y_maxSteps, y_maxDepth, y_kept, y_end, y_tokens, y_pending, y_lines, y_classes, y_prints, y_place, y_steps, y_d, y_valTop, y_opTop, y_opens, y_pos, y_tk, y_tv, y_stmt, y_target, y_err, y_code, y_outcome, y_result, y_dry, y_want, y_starting, y_ended, y_bad, y_hosted, y_sawSuper, y_text, y_numbers, y_globals, y_entries, y_attrs, y_classOf, y_alive, y_orders, y_lengths, y_letters, y_bases, y_vals, y_ops, y_locals, y_fRecv, y_fLine, y_fPos, y_fStmt, y_fTarget, y_fMask, y_fHome, y_fOps, y_fVals, y_fNew, y_out) => wY_go_71 Q (wY_go_32 Q m) k y_maxObjects y_maxSteps y_maxDepth y_kept y_end y_tokens y_pending y_lines y_classes y_prints y_place y_steps y_d y_valTop y_opTop y_opens y_pos y_tk y_tv y_stmt y_target y_err y_code y_outcome y_result y_dry y_want y_starting y_ended y_bad y_hosted y_sawSuper y_text y_numbers y_globals y_entries y_attrs y_classOf y_alive y_orders y_lengths y_letters y_bases y_vals y_ops y_locals y_fRecv y_fLine y_fPos y_fStmt y_fTarget y_fMask y_fHome y_fOps y_fVals y_fNew y_out
def hs_err0 (v : SY) : Prop := match v with
  | (y_maxObjects, y_maxSteps, y_maxDepth, y_kept, y_end, y_tokens, y_pending, y_lines, y_classes, y_prints, y_place, y_steps, y_d, y_valTop, y_opTop, y_opens, y_pos, y_tk, y_tv, y_stmt, y_target, y_err, y_code, y_outcome, y_result, y_dry, y_want, y_starting, y_ended, y_bad, y_hosted, y_sawSuper, y_text, y_numbers, y_globals, y_entries, y_attrs, y_classOf, y_alive, y_orders, y_lengths, y_letters, y_bases, y_vals, y_ops, y_locals, y_fRecv, y_fLine, y_fPos, y_fStmt, y_fTarget, y_fMask, y_fHome, y_fOps, y_fVals, y_fNew, y_out) => y_err = 0
/-- the rest of a turn on both sides -/
def hs_Gt (F : SX → (SY → Prop) → Prop) (M : Nat) (A : (SX → Prop) → Prop) (B : (SY → Prop) → Prop) : Prop := ∀ i k n, i + 1 + (2 * M + 3) ≤ 999999 → k + 1 + M ≤ 99999 → 2 * M + 3 < n → ∀ post : SX → Prop,
  (∀ u' V', F u' V' → (∀ Q : SY → Prop, (∀ v', V' v' → Q v') → ∀ m, M < m → B (hs_ykk Q m (nI k))) → post u') → A (hs_lXn post n i)
theorem hs_lXnI {post : SX → Prop} {n i : Nat} {u : SX} (H : hs_lX post n (nI (i + 1)) u) : hs_lXn post n i u := by
  obtain ⟨x_objectLimit, x_stepLimit, x_depthLimit, x_pendingCount, x_keptTokens, x_keptLines, x_lineCount, x_codeCount, x_cursor, x_stop, x_waitingCount, x_openCount, x_classCount, x_callCount, x_operandCount, x_stepsTaken, x_error, x_raisedCode, x_printCount, x_lastResult, x_lastPlace, x_pending, x_lineTable, x_code, x_waiting, x_globals, x_entries, x_orders, x_merging, x_letterClass, x_objectClass, x_attributes, x_calls, x_held, x_operands, x_lastPrints⟩ := u
  exact nm_r (nI_1 i) H
theorem hs_ykkI {Q : SY → Prop} {m k : Nat} {v : SY} (e : hs_err0 v) (H : hs_lY Q m (nI (k + 1)) v) : hs_ykk Q m (nI k) v := by
  obtain ⟨y_maxObjects, y_maxSteps, y_maxDepth, y_kept, y_end, y_tokens, y_pending, y_lines, y_classes, y_prints, y_place, y_steps, y_d, y_valTop, y_opTop, y_opens, y_pos, y_tk, y_tv, y_stmt, y_target, y_err, y_code, y_outcome, y_result, y_dry, y_want, y_starting, y_ended, y_bad, y_hosted, y_sawSuper, y_text, y_numbers, y_globals, y_entries, y_attrs, y_classOf, y_alive, y_orders, y_lengths, y_letters, y_bases, y_vals, y_ops, y_locals, y_fRecv, y_fLine, y_fPos, y_fStmt, y_fTarget, y_fMask, y_fHome, y_fOps, y_fVals, y_fNew, y_out⟩ := v
  exact br_t e (nm_r (nI_1 k) H)
theorem hs_Enter {F : SX → (SY → Prop) → Prop} {M : Nat} {u : SX} {V : SY → Prop} {A : (SX → Prop) → Prop} {B : (SY → Prop) → Prop} (hX : ∀ (post : SX → Prop) (n i : Nat), i < 999999 → A (hs_lXn post n i) → hs_lX post (n + 1) (nI i) u) (hY : ∀ (Q : SY → Prop) (m k : Nat), k < 99999 → B (hs_ykk Q m (nI k)) → ∀ v, V v → hs_lY Q (m + 1) (nI k) v) (H : hs_Gt F M A B) : hs_Go F (2 * (M + 1) + 2) (M + 1) u V := by
  intro i k n hi hk hn post HP
  obtain ⟨n', rfl⟩ : ∃ n', n = n' + 1 := ⟨n - 1, by omega⟩
  refine hX post n' i (by omega) (H i k n' (by omega) (by omega) (by omega) post (fun u' V' f g => HP u' V' f (fun Q hQ m hm v hv => ?_)))
  obtain ⟨m', rfl⟩ : ∃ m', m = m' + 1 := ⟨m - 1, by omega⟩
  exact hY Q m' k (by omega) (g Q hQ m' (by omega)) v hv
theorem hs_tGo {F : SX → (SY → Prop) → Prop} {M : Nat} {u : SX} {V : SY → Prop} (he : ∀ v, V v → hs_err0 v) (H : hs_Go F (2 * M + 2) M u V) : hs_Gt F M (fun c => c u) (fun c => ∀ v, V v → c v) := by
  intro i k n hi hk hn post HP
  exact hs_lXnI (H (i + 1) (k + 1) n (by omega) (by omega) (by omega) post (fun u' V' f g => HP u' V' f (fun Q hQ m hm v hv => hs_ykkI (he v hv) (g Q hQ m hm v hv))))
end
section
variable {x_objectLimit x_stepLimit x_depthLimit x_pendingCount x_keptTokens x_keptLines x_lineCount x_codeCount x_cursor x_stop x_waitingCount x_openCount x_classCount x_callCount x_operandCount x_stepsTaken x_error x_raisedCode x_printCount x_lastPlace : Int32} {x_lastResult : Int64} {x_pending x_lineTable x_orders x_merging x_letterClass x_objectClass x_calls x_lastPrints : Nat → Int32} {x_code x_waiting x_globals x_entries x_attributes x_held x_operands : Nat → Int64}
variable {y_maxObjects y_maxSteps y_maxDepth y_kept y_end y_tokens y_pending y_lines y_classes y_prints y_place y_steps y_d y_valTop y_opTop y_opens y_pos y_tk y_tv y_stmt y_target y_err y_code y_outcome y_dry y_want y_starting y_ended y_bad y_hosted y_sawSuper : Int32} {y_result : Int64} {y_text y_numbers y_classOf y_alive y_orders y_lengths y_letters y_bases y_ops y_fLine y_fPos y_fStmt y_fTarget y_fMask y_fHome y_fOps y_fVals y_fNew y_out : Nat → Int32} {y_globals y_entries y_attrs y_vals y_locals y_fRecv : Nat → Int64}
variable {tx nu LT : Nat → Int32} {cd : Nat → Int64} {lc kp cc : Nat} {P ind h : Nat → Nat} {tk : Nat → List Nat} {ca cb us ue : Nat → Nat} {yk yen yto ype yli : Int32} {mo mS mD : Nat} {ho : Bool}
variable {s d vt cn : Nat} {ml : Nat → List Nat} {gl ex at1 HE op : Nat → Int64} {ox oc lt lp CL mg : Nat → Int32} {pc rc : Int32} {fl dl vb ob : Nat → Nat} {ts st : Nat → List Nat} {M : Nat}
theorem hs_Verr {md : Option (Option Bool)} {v : SY} (V : hs_V tx nu LT P h lc yk yen yto ype yli mo mS mD gl ex at1 oc lt lp CL HE op ml cn d vt s pc rc fl dl vb ob ts st ho md v) : hs_err0 v := by
  obtain ⟨y_maxObjects, y_maxSteps, y_maxDepth, y_kept, y_end, y_tokens, y_pending, y_lines, y_classes, y_prints, y_place, y_steps, y_d, y_valTop, y_opTop, y_opens, y_pos, y_tk, y_tv, y_stmt, y_target, y_err, y_code, y_outcome, y_result, y_dry, y_want, y_starting, y_ended, y_bad, y_hosted, y_sawSuper, y_text, y_numbers, y_globals, y_entries, y_attrs, y_classOf, y_alive, y_orders, y_lengths, y_letters, y_bases, y_vals, y_ops, y_locals, y_fRecv, y_fLine, y_fPos, y_fStmt, y_fTarget, y_fMask, y_fHome, y_fOps, y_fVals, y_fNew, y_out⟩ := v
  obtain ⟨⟨a1, a2, a3, a4, a5, a6, a7, a8, a9, a10, a11, a12, a13, a14, a15, a16, a17, a18, a19, a20, a21, a22, anu, a24, a25, a26, a27, a28⟩, E, O, va, l0, C, K, m⟩ := V
  exact a15
theorem hs_XId (I : hs_XI tx nu LT cd lc kp cc P ind h tk ca cb us ue mo mS mD s d vt cn ml gl ex at1 ox oc lt HE CL op fl dl vb ob ts st ho) : d ≤ 6 ∧ s ≤ 200 ∧ mS ≤ 200 ∧ lc ≤ 405 := by
  obtain ⟨T, ⟨B1, B2, B3, B4, B5, B6⟩, _⟩ := I
  exact ⟨by omega, by omega, B5, T.1⟩
theorem hs_XIvb (I : hs_XI tx nu LT cd lc kp cc P ind h tk ca cb us ue mo mS mD s d vt cn ml gl ex at1 ox oc lt HE CL op fl dl vb ob ts st ho) : ∀ (n j : Nat), j + n = d → vb j ≤ vb d := by
  obtain ⟨T, B, W, MC, OV, H0, XCk, XLk, XSk, HO, v0, o0⟩ := I
  intro n
  induction n with
  | zero => intro j hj; rw [show j = d by omega]; exact Nat.le_refl _
  | succ n ih =>
    intro j hj
    have h1 := ih (j + 1) (by omega)
    by_cases hh : ho = true ∧ j = 0
    · rw [hh.2, v0]; exact Nat.zero_le _
    · have := (XSk j (by omega) hh).2.1
      omega
/-- the line that a frame goes to -/
def hs_lc (h ind ca cb : Nat → Nat) (lc cn : Nat) (ho : Bool) (l dld d : Nat) : Prop := l < lc ∧ (d = 0 → ho = false → cb l = lc ∧ hs_D h ind (ca l) l = none ∧ (hs_in h ind (ca l) 1 9 l = true → 2 ≤ cn)) ∧ (1 ≤ d → hs_D h ind (ca l) l = some dld)
theorem hs_lcOf (nh : ¬ (ho = true ∧ d = 0)) (L : hs_XL h ind ca cb lc cn CL ho (fl d) (dl d) d) : hs_lc h ind ca cb lc cn ho (fl d) (dl d) d := ⟨(L.2.1 nh).2, L.2.2.1, L.2.2.2⟩
theorem hs_CRn {j l : Nat} (h2 : j ≠ d * 6 + 2) (h3 : j ≠ d * 6 + 3) : hs_CR LT CL d l j = CL j := by
  unfold hs_CR
  rw [pk_un h3, pk_un h2]
theorem hs_goR {l : Nat} (A : hs_GA tx nu LT cd lc kp cc P ind h tk ca cb us ue yk yen yto ype yli mo mS mD ho x_pendingCount x_keptTokens x_keptLines x_codeCount x_cursor x_stop x_waitingCount x_openCount x_lastResult x_pending x_waiting M) (I : hs_XI tx nu LT cd lc kp cc P ind h tk ca cb us ue mo mS mD s d vt cn ml gl ex at1 ox oc lt HE CL op fl dl vb ob ts st ho) (hv : vt = vb d) (nh : ¬ (ho = true ∧ d = 0)) (hl : hs_lc h ind ca cb lc cn ho l (dl d) d) (h5 : h l ≠ 5) (h8 : h l ≠ 8) (hM : 250 * (mS - s) + hs_pot ts st d + 2 ≤ M) :
    hs_Go (hs_F tx nu LT cd lc P h yk yen yto ype yli mo mS mD x_pendingCount x_keptTokens x_keptLines x_codeCount x_cursor x_stop x_waitingCount x_openCount x_lastResult x_pending x_waiting) (2 * M + 2) M (nI mo, nI mS, nI mD, x_pendingCount, x_keptTokens, x_keptLines, nI lc, x_codeCount, x_cursor, x_stop, x_waitingCount, x_openCount, nI cn, nI (d + 1), nI vt, hs_sx mS s, hs_e9 mS s, rc, pc, x_lastResult, 0, x_pending, LT, cd, x_waiting, gl, ex, ox, mg, lt, oc, at1, hs_CR LT CL d l, HE, op, lp) (hs_V tx nu LT P h lc yk yen yto ype yli mo mS mD gl ex at1 oc lt lp CL HE op ml cn d vt s pc rc (hs_put1 fl d l) dl vb ob ts st ho (some none)) := by
  have hCL : ∀ j, j ≠ d * 6 + 2 → j ≠ d * 6 + 3 → hs_CR LT CL d l j = CL j := fun j j2 j3 => hs_CRn j2 j3
  have I' : hs_XI tx nu LT cd lc kp cc P ind h tk ca cb us ue mo mS mD s d vt cn ml gl ex at1 ox oc lt HE (hs_CR LT CL d l) op (hs_put1 fl d l) dl vb ob ts st ho := by
    have I0 := I
    obtain ⟨T, ⟨B1, B2, B3, B4, B5, B6⟩, W, MC, OV, H0, XCk, XLk, XSk, HO, v0, o0⟩ := I
    exact hs_XIin I0 (fun k hk => hs_put1N (by omega)) (fun k hk => rfl) (fun k hk => rfl) hCL B6 W (Nat.le_refl _) MC OV (hs_XIh I0)
  have m' : hs_MA h ind ca cb lc cn (hs_CR LT CL d l) ho LT (hs_put1 fl d l) dl vb d vt := by
    refine ⟨⟨fun z => absurd z nh, fun _ => ⟨?_, ?_⟩, ?_, ?_⟩, hv, ?_, nh⟩
    · unfold hs_CR; rw [hs_put1S, pk_un (by omega), pk_us]
    · rw [hs_put1S]; exact hl.1
    · rw [hs_put1S]; exact hl.2.1
    · rw [hs_put1S]; exact hl.2.2
    · unfold hs_CR; rw [hs_put1S, pk_us]
  have g := A s d vt cn ml gl ex at1 HE op ox oc lt lp _ mg pc rc _ dl vb ob ts st I' m' (by rw [hs_put1S]; exact h5) (by rw [hs_put1S]; exact h8) hM
  intro i k n hi hk hn post HP
  exact g i k n hi hk hn post (fun u' V' f gg => HP u' V' f (fun Q hQ m hm v hv => gg Q hQ m hm v (hs_Vcl (fun k hk => ⟨hs_CRn (by omega) (by omega), hs_CRn (by omega) (by omega)⟩) hv)))
theorem hs_tReach {l : Nat} (A : hs_GA tx nu LT cd lc kp cc P ind h tk ca cb us ue yk yen yto ype yli mo mS mD ho x_pendingCount x_keptTokens x_keptLines x_codeCount x_cursor x_stop x_waitingCount x_openCount x_lastResult x_pending x_waiting M) (I : hs_XI tx nu LT cd lc kp cc P ind h tk ca cb us ue mo mS mD s d vt cn ml gl ex at1 ox oc lt HE CL op fl dl vb ob ts st ho) (hv : vt = vb d) (nh : ¬ (ho = true ∧ d = 0)) (hl : hs_lc h ind ca cb lc cn ho l (dl d) d) (h5 : h l ≠ 5) (h8 : h l ≠ 8) (hM : 250 * (mS - s) + hs_pot ts st d + 2 ≤ M) :
    hs_Gt (hs_F tx nu LT cd lc P h yk yen yto ype yli mo mS mD x_pendingCount x_keptTokens x_keptLines x_codeCount x_cursor x_stop x_waitingCount x_openCount x_lastResult x_pending x_waiting) M (fun c => wpX_reach (fun u => match u with | (x_objectLimitq, x_stepLimitq, x_depthLimitq, x_pendingCountq, x_keptTokensq, x_keptLinesq, x_lineCountq, x_codeCountq, x_cursorq, x_stopq, x_waitingCountq, x_openCountq, x_classCountq, x_callCountq, x_operandCountq, x_stepsTakenq, x_errorq, x_raisedCodeq, x_printCountq, x_lastResultq, x_lastPlaceq, x_pendingq, x_lineTableq, x_codeq, x_waitingq, x_globalsq, x_entriesq, x_ordersq, x_mergingq, x_letterClassq, x_objectClassq, x_attributesq, x_callsq, x_heldq, x_operandsq, x_lastPrintsq) => c (x_objectLimitq, x_stepLimitq, x_depthLimitq, x_pendingCountq, x_keptTokensq, x_keptLinesq, x_lineCountq, x_codeCountq, x_cursorq, x_stopq, x_waitingCountq, x_openCountq, x_classCountq, x_callCountq, x_operandCountq, x_stepsTakenq, x_errorq, x_raisedCodeq, x_printCountq, x_lastResultq, x_lastPlaceq, x_pendingq, x_lineTableq, x_codeq, x_waitingq, x_globalsq, x_entriesq, x_ordersq, x_mergingq, x_letterClassq, x_objectClassq, x_attributesq, x_callsq, x_heldq, x_operandsq, x_lastPrintsq)) (nI mo, nI mS, nI mD, x_pendingCount, x_keptTokens, x_keptLines, nI lc, x_codeCount, x_cursor, x_stop, x_waitingCount, x_openCount, nI cn, nI (d + 1), nI vt, nI s, 0, rc, pc, x_lastResult, 0, x_pending, LT, cd, x_waiting, gl, ex, ox, mg, lt, oc, at1, CL, HE, op, lp) (nI l)) (fun c => ∀ v, hs_V tx nu LT P h lc yk yen yto ype yli mo mS mD gl ex at1 oc lt lp CL HE op ml cn d vt s pc rc (hs_put1 fl d l) dl vb ob ts st ho (some none) v → c v) := by
  obtain ⟨d6, s200, m200, l405⟩ := hs_XId I
  have g := hs_tGo (fun v hv => hs_Verr hv) (hs_goR (mg := mg) (pc := pc) (rc := rc) (lp := lp) A I hv nh hl h5 h8 hM)
  intro i k n hi hk hn post HP
  refine hs_xReach d6 (by have := hl.1; omega) s200 m200 ?_
  exact g i k n hi hk hn post HP
/-- the end of a chunk -/
theorem hs_lXend {n i : Nat} {post : SX → Prop} (hi : i < 1000000) (hC : CL 2 = -1) (H : post (nI mo, nI mS, nI mD, x_pendingCount, x_keptTokens, x_keptLines, nI lc, x_codeCount, x_cursor, x_stop, x_waitingCount, x_openCount, nI cn, nI (0 + 1), nI vt, nI s, 0, rc, pc, x_lastResult, 0, x_pending, LT, cd, x_waiting, gl, ex, ox, mg, lt, oc, at1, CL, HE, op, lp)) : hs_lX post (n + 1) (nI i) (nI mo, nI mS, nI mD, x_pendingCount, x_keptTokens, x_keptLines, nI lc, x_codeCount, x_cursor, x_stop, x_waitingCount, x_openCount, nI cn, nI (0 + 1), nI vt, nI s, 0, rc, pc, x_lastResult, 0, x_pending, LT, cd, x_waiting, gl, ex, ox, mg, lt, oc, at1, CL, HE, op, lp) := by
  refine br_f (nI_ge (b := 1000000) (by omega) (by decide)) (nm_r (show (nI (0 + 1) - 1) * 6 = 0 by decide) (And.intro (by decide) (nm_r (show CL ((0 : Int32) + 2).toNatClampNeg = -1 from hC) (br_t rfl (br_t rfl H)))))
theorem hs_lYend {Q : SY → Prop} {m : Nat} {k : Int32} {v : SY} (he : match v with | (y_maxObjects, y_maxSteps, y_maxDepth, y_kept, y_end, y_tokens, y_pending, y_lines, y_classes, y_prints, y_place, y_steps, y_d, y_valTop, y_opTop, y_opens, y_pos, y_tk, y_tv, y_stmt, y_target, y_err, y_code, y_outcome, y_result, y_dry, y_want, y_starting, y_ended, y_bad, y_hosted, y_sawSuper, y_text, y_numbers, y_globals, y_entries, y_attrs, y_classOf, y_alive, y_orders, y_lengths, y_letters, y_bases, y_vals, y_ops, y_locals, y_fRecv, y_fLine, y_fPos, y_fStmt, y_fTarget, y_fMask, y_fHome, y_fOps, y_fVals, y_fNew, y_out) => y_ended = 1) (H : match v with | (y_maxObjects, y_maxSteps, y_maxDepth, y_kept, y_end, y_tokens, y_pending, y_lines, y_classes, y_prints, y_place, y_steps, y_d, y_valTop, y_opTop, y_opens, y_pos, y_tk, y_tv, y_stmt, y_target, y_err, y_code, y_outcome, y_result, y_dry, y_want, y_starting, y_ended, y_bad, y_hosted, y_sawSuper, y_text, y_numbers, y_globals, y_entries, y_attrs, y_classOf, y_alive, y_orders, y_lengths, y_letters, y_bases, y_vals, y_ops, y_locals, y_fRecv, y_fLine, y_fPos, y_fStmt, y_fTarget, y_fMask, y_fHome, y_fOps, y_fVals, y_fNew, y_out) => Q (y_maxObjects, y_maxSteps, y_maxDepth, y_kept, y_end, y_tokens, y_pending, y_lines, y_classes, y_prints, y_place, y_steps, 0, 0, 0, y_opens, y_pos, y_tk, y_tv, y_stmt, y_target, y_err, y_code, y_outcome, y_result, y_dry, y_want, y_starting, y_ended, y_bad, y_hosted, y_sawSuper, y_text, y_numbers, y_globals, y_entries, y_attrs, y_classOf, y_alive, y_orders, y_lengths, y_letters, y_bases, y_vals, y_ops, y_locals, y_fRecv, y_fLine, y_fPos, y_fStmt, y_fTarget, y_fMask, y_fHome, y_fOps, y_fVals, y_fNew, y_out)) : hs_lY Q (m + 1) k v := by
  obtain ⟨y_maxObjects, y_maxSteps, y_maxDepth, y_kept, y_end, y_tokens, y_pending, y_lines, y_classes, y_prints, y_place, y_steps, y_d, y_valTop, y_opTop, y_opens, y_pos, y_tk, y_tv, y_stmt, y_target, y_err, y_code, y_outcome, y_result, y_dry, y_want, y_starting, y_ended, y_bad, y_hosted, y_sawSuper, y_text, y_numbers, y_globals, y_entries, y_attrs, y_classOf, y_alive, y_orders, y_lengths, y_letters, y_bases, y_vals, y_ops, y_locals, y_fRecv, y_fLine, y_fPos, y_fStmt, y_fTarget, y_fMask, y_fHome, y_fOps, y_fVals, y_fNew, y_out⟩ := v
  have he' : y_ended = 1 := he
  subst he'
  refine br_c (fun _ => H) (fun _ => br_f (by decide) H)
theorem hs_GoEnd (W : hs_WX P h lc cn ml gl ex at1 ox oc lt) (MC : ∀ c, c < cn → c ∈ ml c) (H0 : ∀ j, j < 27 → HE j = 0) (hC : CL 2 = -1) (v0 : vb 0 = 0) (o0 : ob 0 = 0) (hM : 1 ≤ M) : hs_Go (hs_F tx nu LT cd lc P h yk yen yto ype yli mo mS mD x_pendingCount x_keptTokens x_keptLines x_codeCount x_cursor x_stop x_waitingCount x_openCount x_lastResult x_pending x_waiting) (2 * M + 2) M (nI mo, nI mS, nI mD, x_pendingCount, x_keptTokens, x_keptLines, nI lc, x_codeCount, x_cursor, x_stop, x_waitingCount, x_openCount, nI cn, nI (0 + 1), nI 0, nI s, 0, rc, pc, x_lastResult, 0, x_pending, LT, cd, x_waiting, gl, ex, ox, mg, lt, oc, at1, CL, HE, op, lp) (hs_V tx nu LT P h lc yk yen yto ype yli mo mS mD gl ex at1 oc lt lp CL HE op ml cn 0 0 s pc rc fl dl vb ob ts st ho none) := by
  intro i k n hi hk hn post HP
  obtain ⟨n', rfl⟩ : ∃ n', n = n' + 1 := ⟨n - 1, by omega⟩
  refine hs_lXend (vt := 0) (by omega) hC (HP _ (hs_VF tx nu P h lc yk yen yto ype yli mo mS mD gl ex at1 oc lt lp ml cn pc rc 0 0 0) ⟨cn, ml, gl, ex, at1, HE, op, ox, oc, lt, lp, CL, mg, _, _, _, pc, rc, 0, 0, 0, W, MC, H0, ⟨fun _ => Or.inl ⟨rfl, rfl⟩, fun z => absurd z (by decide), fun z => absurd rfl z⟩, rfl, rfl⟩ (fun Q hQ m hm v hv => ?_))
  obtain ⟨m', rfl⟩ : ∃ m', m = m' + 1 + 1 := ⟨m - 2, by omega⟩
  obtain ⟨y_maxObjects, y_maxSteps, y_maxDepth, y_kept, y_end, y_tokens, y_pending, y_lines, y_classes, y_prints, y_place, y_steps, y_d, y_valTop, y_opTop, y_opens, y_pos, y_tk, y_tv, y_stmt, y_target, y_err, y_code, y_outcome, y_result, y_dry, y_want, y_starting, y_ended, y_bad, y_hosted, y_sawSuper, y_text, y_numbers, y_globals, y_entries, y_attrs, y_classOf, y_alive, y_orders, y_lengths, y_letters, y_bases, y_vals, y_ops, y_locals, y_fRecv, y_fLine, y_fPos, y_fStmt, y_fTarget, y_fMask, y_fHome, y_fOps, y_fVals, y_fNew, y_out⟩ := v
  obtain ⟨⟨a1, a2, a3, a4, a5, a6, a7, a8, a9, a10, a11, a12, a13, a14, a15, a16, a17, a18, a19, a20, a21, a22, anu, a24, a25, a26, a27, a28⟩, E, O, va, l0, C, K, q1, q2⟩ := hv
  subst a1 a2 a3 a4 a5 a6 a7 a8 a9 a10 a11 a12 a13 a14 a15 a16 a17 a18 a19 a20 a21 a22 a24 a25 a26 a27 a28
  subst q1
  obtain ⟨c1, c2, c3, c4⟩ := C 0 (Nat.le_refl _)
  rw [v0] at c1
  rw [o0] at c2
  refine br_f (nI_ge (b := 100000) (by omega) (by decide)) (br_t rfl (br_f (by decide) (And.intro (by decide) (nm_r (show y_fLine (nI 0).toNatClampNeg = -1 from q2) (br_f (by decide) ?_)))))
  refine br_t rfl (nm_e (hs_lYend rfl (hQ _ ⟨⟨rfl, rfl, rfl, rfl, rfl, rfl, rfl, rfl, rfl, rfl, rfl, rfl, rfl, rfl, rfl, rfl, rfl, rfl, rfl, anu, rfl, rfl, rfl, rfl, rfl⟩, E, O, l0, c3 rfl, c1, c2⟩)))
end
