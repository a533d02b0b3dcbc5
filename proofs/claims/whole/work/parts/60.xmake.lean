/-! an object is made, on the component's side -/
section
variable {x_objectLimit x_stepLimit x_depthLimit x_pendingCount x_keptTokens x_keptLines x_lineCount x_codeCount x_cursor x_stop x_waitingCount x_openCount x_classCount x_callCount x_operandCount x_stepsTaken x_error x_raisedCode x_printCount x_lastPlace : Int32} {x_lastResult : Int64} {x_pending x_lineTable x_orders x_merging x_letterClass x_objectClass x_calls x_lastPrints : Nat → Int32} {x_code x_waiting x_globals x_entries x_attributes x_held x_operands : Nat → Int64}
variable {y_maxObjects y_maxSteps y_maxDepth y_kept y_end y_tokens y_pending y_lines y_classes y_prints y_place y_steps y_d y_valTop y_opTop y_opens y_pos y_tk y_tv y_stmt y_target y_err y_code y_outcome y_dry y_want y_starting y_ended y_bad y_hosted y_sawSuper : Int32} {y_result : Int64} {y_text y_numbers y_classOf y_alive y_orders y_lengths y_letters y_bases y_ops y_fLine y_fPos y_fStmt y_fTarget y_fMask y_fHome y_fOps y_fVals y_fNew y_out : Nat → Int32} {y_globals y_entries y_attrs y_vals y_locals y_fRecv : Nat → Int64}
variable {P h : Nat → Nat} {lc cn d vt mo q a : Nat} {ml : Nat → List Nat} {gl ex at1 op HE : Nat → Int64} {ox oc lt CL : Nat → Int32}
def hs_zr (at1 : Nat → Int64) (o : Nat) : Nat → Int64 := fun j => if o * 26 ≤ j ∧ j < o * 26 + 26 then 0 else at1 j
theorem hs_rdsLt {a : Nat → Int64} (hv : ∀ j, j < 208 → hs_rv (a j)) : ∀ (n m : Nat), m < 256 → hs_rds a n m < 256
  | 0, _, h => h
  | n + 1, m, h => hs_rdsLt hv n _ (hs_rdLt 208 0 m (fun j _ j2 => hv j (by omega)) h)
theorem hs_xmLt {he : Nat → Int64} {on cl : Nat} (hv : ∀ j, j < 208 → hs_rv (at1 j)) (ho : ∀ j, j < on → hs_rv (op j)) (hh : ∀ j, j < cl * 27 → hs_rv (he j)) (hx : ∀ j, j < 260 → hs_rv (ex j)) (hg : ∀ j, j < 26 → hs_rv (gl j)) (hcl : 1 ≤ cl) : hs_xm gl ex he op at1 cl on < 256 := by
  unfold hs_xm
  exact hs_rdsLt hv 8 _ (hs_mksLt _ _ _ (fun j _ j2 => ho j (by omega)) (hs_mksLt _ _ _ (fun j _ j2 => hh j (by omega)) (hs_mksLt _ _ _ (fun j _ j2 => hx j (by omega)) (hs_mksLt _ _ _ (fun j _ j2 => hg j (by omega)) (by decide)))))
theorem hs_cntFree (m : Nat) : ∀ n i, hs_cnt m n i < n → ∃ o, i ≤ o ∧ o < i + n ∧ m.testBit o = false ∧ ∀ j, i ≤ j → j < o → m.testBit j = true
  | 0, _, h => by omega
  | n + 1, i, h => by
    unfold hs_cnt at h
    by_cases t : m.testBit i
    · rw [if_pos t] at h
      obtain ⟨o, o1, o2, o3, o4⟩ := hs_cntFree m n (i + 1) (by omega)
      refine ⟨o, by omega, by omega, o3, fun j j1 j2 => ?_⟩
      by_cases z : j = i
      · rw [z]; exact t
      · exact o4 j (by omega) j2
    · exact ⟨i, Nat.le_refl _, by omega, by simpa using t, fun j j1 j2 => by omega⟩
def hs_NE (gl ex HE op at1 : Nat → Int64) (lt : Nat → Int32) (cn d vt mo q : Nat) (er : Int32) : Prop :=
  (lt q = -1 ∧ er = 2) ∨ ((∃ c, c < cn ∧ lt q = nI c) ∧ ¬ hs_cnt (hs_xm gl ex HE op at1 (d + 1) vt) 8 0 < mo ∧ er = 7)
def hs_NO (gl ex HE op at1 : Nat → Int64) (lt : Nat → Int32) (cn d vt mo q c o : Nat) : Prop :=
  c < cn ∧ lt q = nI c ∧ hs_cnt (hs_xm gl ex HE op at1 (d + 1) vt) 8 0 < mo ∧ o < 8 ∧ (hs_xm gl ex HE op at1 (d + 1) vt).testBit o = false ∧ ∀ j, j < o → (hs_xm gl ex HE op at1 (d + 1) vt).testBit j = true
theorem hs_xMake69 {c o : Nat} (W : hs_WX P h lc cn ml gl ex at1 ox oc lt) (hc : c < cn) (ho8 : o < 8) (ha : a ≤ 1) (hvt : vt < 280) {post : SX → Prop}
    (Hv : hs_sea ex 8 (ml c) = none → a = 0 → post (nI mo, x_stepLimit, x_depthLimit, x_pendingCount, x_keptTokens, x_keptLines, x_lineCount, x_codeCount, x_cursor, x_stop, x_waitingCount, x_openCount, x_classCount, nI (d + 1), nI (vt + 1), x_stepsTaken, x_error, x_raisedCode, x_printCount, x_lastResult, x_lastPlace, x_pending, x_lineTable, x_code, x_waiting, gl, ex, ox, x_merging, lt, upd oc o (nI c), hs_zr at1 o, CL, HE, vp_updL op vt (lN (12884901888 + o)), x_lastPrints))
    (He : hs_sea ex 8 (ml c) = none → a = 1 → post (nI mo, x_stepLimit, x_depthLimit, x_pendingCount, x_keptTokens, x_keptLines, x_lineCount, x_codeCount, x_cursor, x_stop, x_waitingCount, x_openCount, x_classCount, nI (d + 1), nI vt, x_stepsTaken, 3, x_raisedCode, x_printCount, x_lastResult, x_lastPlace, x_pending, x_lineTable, x_code, x_waiting, gl, ex, ox, x_merging, lt, upd oc o (nI c), hs_zr at1 o, CL, HE, op, x_lastPrints))
    (Hm : ∀ m, hs_sea ex 8 (ml c) = some m → wpX_startCall (fun r u => match u with | (x_objectLimitq, x_stepLimitq, x_depthLimitq, x_pendingCountq, x_keptTokensq, x_keptLinesq, x_lineCountq, x_codeCountq, x_cursorq, x_stopq, x_waitingCountq, x_openCountq, x_classCountq, x_callCountq, x_operandCountq, x_stepsTakenq, x_errorq, x_raisedCodeq, x_printCountq, x_lastResultq, x_lastPlaceq, x_pendingq, x_lineTableq, x_codeq, x_waitingq, x_globalsq, x_entriesq, x_ordersq, x_mergingq, x_letterClassq, x_objectClassq, x_attributesq, x_callsq, x_heldq, x_operandsq, x_lastPrintsq) => ((r = 0 → post (x_objectLimitq, x_stepLimitq, x_depthLimitq, x_pendingCountq, x_keptTokensq, x_keptLinesq, x_lineCountq, x_codeCountq, x_cursorq, x_stopq, x_waitingCountq, x_openCountq, x_classCountq, x_callCountq, x_operandCountq, x_stepsTakenq, x_errorq, x_raisedCodeq, x_printCountq, x_lastResultq, x_lastPlaceq, x_pendingq, x_lineTableq, x_codeq, x_waitingq, x_globalsq, x_entriesq, x_ordersq, x_mergingq, x_letterClassq, x_objectClassq, x_attributesq, x_callsq, x_heldq, x_operandsq, x_lastPrintsq)) ∧ (¬ r = 0 → (vp_in (((x_callCountq - 1) * 6) + 5) 42 ∧ ∀ c5 : Nat → Int32, c5 = upd x_callsq (((x_callCountq - 1) * 6) + 5).toNatClampNeg 1 → (vp_in (((x_callCountq - 1) * 6) + 0) 42 ∧ wpX_reach (fun u => match u with | (x_objectLimitw, x_stepLimitw, x_depthLimitw, x_pendingCountw, x_keptTokensw, x_keptLinesw, x_lineCountw, x_codeCountw, x_cursorw, x_stopw, x_waitingCountw, x_openCountw, x_classCountw, x_callCountw, x_operandCountw, x_stepsTakenw, x_errorw, x_raisedCodew, x_printCountw, x_lastResultw, x_lastPlacew, x_pendingw, x_lineTablew, x_codew, x_waitingw, x_globalsw, x_entriesw, x_ordersw, x_mergingw, x_letterClassw, x_objectClassw, x_attributesw, x_callsw, x_heldw, x_operandsw, x_lastPrintsw) => post (x_objectLimitw, x_stepLimitw, x_depthLimitw, x_pendingCountw, x_keptTokensw, x_keptLinesw, x_lineCountw, x_codeCountw, x_cursorw, x_stopw, x_waitingCountw, x_openCountw, x_classCountw, x_callCountw, x_operandCountw, x_stepsTakenw, x_errorw, x_raisedCodew, x_printCountw, x_lastResultw, x_lastPlacew, x_pendingw, x_lineTablew, x_codew, x_waitingw, x_globalsw, x_entriesw, x_ordersw, x_mergingw, x_letterClassw, x_objectClassw, x_attributesw, x_callsw, x_heldw, x_operandsw, x_lastPrintsw)) (x_objectLimitq, x_stepLimitq, x_depthLimitq, x_pendingCountq, x_keptTokensq, x_keptLinesq, x_lineCountq, x_codeCountq, x_cursorq, x_stopq, x_waitingCountq, x_openCountq, x_classCountq, x_callCountq, x_operandCountq, x_stepsTakenq, x_errorq, x_raisedCodeq, x_printCountq, x_lastResultq, x_lastPlaceq, x_pendingq, x_lineTableq, x_codeq, x_waitingq, x_globalsq, x_entriesq, x_ordersq, x_mergingq, x_letterClassq, x_objectClassq, x_attributesq, c5, x_heldq, x_operandsq, x_lastPrintsq) ((c5 (((x_callCountq - 1) * 6) + 0).toNatClampNeg) + 1)))))) (nI mo, x_stepLimit, x_depthLimit, x_pendingCount, x_keptTokens, x_keptLines, x_lineCount, x_codeCount, x_cursor, x_stop, x_waitingCount, x_openCount, x_classCount, nI (d + 1), nI vt, x_stepsTaken, x_error, x_raisedCode, x_printCount, x_lastResult, x_lastPlace, x_pending, x_lineTable, x_code, x_waiting, gl, ex, ox, x_merging, lt, upd oc o (nI c), hs_zr at1 o, CL, HE, op, x_lastPrints) (nI m) 8 (lN (12884901888 + o)) (nI a) (nI a)) :
    ∀ (k i : Nat) (A : Nat → Int64), i + k = 26 → (∀ j, A j = if o * 26 ≤ j ∧ j < o * 26 + i then 0 else at1 j) → wX_makeObject_69 post (nI a) (nI c) (nI o) (lN (12884901888 + o)) (nI mo) x_stepLimit x_depthLimit x_pendingCount x_keptTokens x_keptLines x_lineCount x_codeCount x_cursor x_stop x_waitingCount x_openCount x_classCount (nI (d + 1)) (nI vt) x_stepsTaken x_error x_raisedCode x_printCount x_lastResult x_lastPlace (k + 1) (nI i) x_pending x_lineTable x_code x_waiting gl ex ox x_merging lt (upd oc o (nI c)) A CL HE op x_lastPrints := by
  intro k
  induction k with
  | zero =>
    intro i A hi hA
    obtain ⟨⟨w1, w2⟩, w3, w4, w5, w6, w7, w8, w9, w10⟩ := W
    obtain ⟨o1, o2, o3, o4⟩ := w10 c hc
    have eA : A = hs_zr at1 o := by
      funext j
      rw [hA j, show i = 26 by omega]; rfl
    subst eA
    refine br_t (nI_le (a := 26) (by omega) (by omega)) (hs_xSea (k := 0) (l := ml c) (by omega) (by decide) o2 o3 (fun m hm => by have := o4 m hm; omega) (by decide) ?_)
    rw [List.drop_zero]
    cases es : hs_sea ex 8 (ml c) with
    | none =>
      refine br_t (by decide) (pk_le a 0 (fun z => hs_xPush hvt (Hv es (by omega))) (fun z => He es (by omega)))
    | some m =>
      have := o4 m (hs_seaM w3 es).1
      exact br_f (nI_pos (by omega)) (Hm m es)
  | succ k ih =>
    intro i A hi hA
    have ei : nI o * 26 + nI i = nI (o * 26 + i) := hs_ixMul o 26 i
    refine br_f (nI_ge (b := 26) (by omega) (by decide)) ?_
    rw [ei, nI_clamp (show o * 26 + i < 2 ^ 31 by omega)]
    refine And.intro (vp_in_nI (by omega) (by decide)) (nm_e (nm_r (nI_add i 1) (ih (i + 1) _ (by omega) (fun j => ?_))))
    by_cases z : j = o * 26 + i
    · subst z
      rw [pk_uLs, if_pos (by omega)]
    · rw [pk_uLn z, hA j]
      by_cases y : o * 26 ≤ j ∧ j < o * 26 + i
      · rw [if_pos y, if_pos (by omega)]
      · rw [if_neg y, if_neg (by omega)]
theorem hs_xMake (W : hs_WX P h lc cn ml gl ex at1 ox oc lt) (hq : q < 26) (ha : a ≤ 1) (hvt : vt < 280) (hd : d ≤ 6) (hmo : mo ≤ 8) (rv1 : ∀ j, j < 208 → hs_rv (at1 j)) (rv2 : ∀ j, j < vt → hs_rv (op j)) (rv3 : ∀ j, j < (d + 1) * 27 → hs_rv (HE j)) (rv4 : ∀ j, j < 260 → hs_rv (ex j)) (rv5 : ∀ j, j < 26 → hs_rv (gl j)) {post : SX → Prop}
    (Hn : ∀ er, hs_NE gl ex HE op at1 lt cn d vt mo q er → post (nI mo, x_stepLimit, x_depthLimit, x_pendingCount, x_keptTokens, x_keptLines, x_lineCount, x_codeCount, x_cursor, x_stop, x_waitingCount, x_openCount, x_classCount, nI (d + 1), nI vt, x_stepsTaken, er, x_raisedCode, x_printCount, x_lastResult, x_lastPlace, x_pending, x_lineTable, x_code, x_waiting, gl, ex, ox, x_merging, lt, oc, at1, CL, HE, op, x_lastPrints))
    (Hv : ∀ c o, hs_NO gl ex HE op at1 lt cn d vt mo q c o → hs_sea ex 8 (ml c) = none → a = 0 → post (nI mo, x_stepLimit, x_depthLimit, x_pendingCount, x_keptTokens, x_keptLines, x_lineCount, x_codeCount, x_cursor, x_stop, x_waitingCount, x_openCount, x_classCount, nI (d + 1), nI (vt + 1), x_stepsTaken, x_error, x_raisedCode, x_printCount, x_lastResult, x_lastPlace, x_pending, x_lineTable, x_code, x_waiting, gl, ex, ox, x_merging, lt, upd oc o (nI c), hs_zr at1 o, CL, HE, vp_updL op vt (lN (12884901888 + o)), x_lastPrints))
    (He : ∀ c o, hs_NO gl ex HE op at1 lt cn d vt mo q c o → hs_sea ex 8 (ml c) = none → a = 1 → post (nI mo, x_stepLimit, x_depthLimit, x_pendingCount, x_keptTokens, x_keptLines, x_lineCount, x_codeCount, x_cursor, x_stop, x_waitingCount, x_openCount, x_classCount, nI (d + 1), nI vt, x_stepsTaken, 3, x_raisedCode, x_printCount, x_lastResult, x_lastPlace, x_pending, x_lineTable, x_code, x_waiting, gl, ex, ox, x_merging, lt, upd oc o (nI c), hs_zr at1 o, CL, HE, op, x_lastPrints))
    (Hm : ∀ c o m, hs_NO gl ex HE op at1 lt cn d vt mo q c o → hs_sea ex 8 (ml c) = some m → wpX_startCall (fun r u => match u with | (x_objectLimitq, x_stepLimitq, x_depthLimitq, x_pendingCountq, x_keptTokensq, x_keptLinesq, x_lineCountq, x_codeCountq, x_cursorq, x_stopq, x_waitingCountq, x_openCountq, x_classCountq, x_callCountq, x_operandCountq, x_stepsTakenq, x_errorq, x_raisedCodeq, x_printCountq, x_lastResultq, x_lastPlaceq, x_pendingq, x_lineTableq, x_codeq, x_waitingq, x_globalsq, x_entriesq, x_ordersq, x_mergingq, x_letterClassq, x_objectClassq, x_attributesq, x_callsq, x_heldq, x_operandsq, x_lastPrintsq) => ((r = 0 → post (x_objectLimitq, x_stepLimitq, x_depthLimitq, x_pendingCountq, x_keptTokensq, x_keptLinesq, x_lineCountq, x_codeCountq, x_cursorq, x_stopq, x_waitingCountq, x_openCountq, x_classCountq, x_callCountq, x_operandCountq, x_stepsTakenq, x_errorq, x_raisedCodeq, x_printCountq, x_lastResultq, x_lastPlaceq, x_pendingq, x_lineTableq, x_codeq, x_waitingq, x_globalsq, x_entriesq, x_ordersq, x_mergingq, x_letterClassq, x_objectClassq, x_attributesq, x_callsq, x_heldq, x_operandsq, x_lastPrintsq)) ∧ (¬ r = 0 → (vp_in (((x_callCountq - 1) * 6) + 5) 42 ∧ ∀ c5 : Nat → Int32, c5 = upd x_callsq (((x_callCountq - 1) * 6) + 5).toNatClampNeg 1 → (vp_in (((x_callCountq - 1) * 6) + 0) 42 ∧ wpX_reach (fun u => match u with | (x_objectLimitw, x_stepLimitw, x_depthLimitw, x_pendingCountw, x_keptTokensw, x_keptLinesw, x_lineCountw, x_codeCountw, x_cursorw, x_stopw, x_waitingCountw, x_openCountw, x_classCountw, x_callCountw, x_operandCountw, x_stepsTakenw, x_errorw, x_raisedCodew, x_printCountw, x_lastResultw, x_lastPlacew, x_pendingw, x_lineTablew, x_codew, x_waitingw, x_globalsw, x_entriesw, x_ordersw, x_mergingw, x_letterClassw, x_objectClassw, x_attributesw, x_callsw, x_heldw, x_operandsw, x_lastPrintsw) => post (x_objectLimitw, x_stepLimitw, x_depthLimitw, x_pendingCountw, x_keptTokensw, x_keptLinesw, x_lineCountw, x_codeCountw, x_cursorw, x_stopw, x_waitingCountw, x_openCountw, x_classCountw, x_callCountw, x_operandCountw, x_stepsTakenw, x_errorw, x_raisedCodew, x_printCountw, x_lastResultw, x_lastPlacew, x_pendingw, x_lineTablew, x_codew, x_waitingw, x_globalsw, x_entriesw, x_ordersw, x_mergingw, x_letterClassw, x_objectClassw, x_attributesw, x_callsw, x_heldw, x_operandsw, x_lastPrintsw)) (x_objectLimitq, x_stepLimitq, x_depthLimitq, x_pendingCountq, x_keptTokensq, x_keptLinesq, x_lineCountq, x_codeCountq, x_cursorq, x_stopq, x_waitingCountq, x_openCountq, x_classCountq, x_callCountq, x_operandCountq, x_stepsTakenq, x_errorq, x_raisedCodeq, x_printCountq, x_lastResultq, x_lastPlaceq, x_pendingq, x_lineTableq, x_codeq, x_waitingq, x_globalsq, x_entriesq, x_ordersq, x_mergingq, x_letterClassq, x_objectClassq, x_attributesq, c5, x_heldq, x_operandsq, x_lastPrintsq) ((c5 (((x_callCountq - 1) * 6) + 0).toNatClampNeg) + 1)))))) (nI mo, x_stepLimit, x_depthLimit, x_pendingCount, x_keptTokens, x_keptLines, x_lineCount, x_codeCount, x_cursor, x_stop, x_waitingCount, x_openCount, x_classCount, nI (d + 1), nI vt, x_stepsTaken, x_error, x_raisedCode, x_printCount, x_lastResult, x_lastPlace, x_pending, x_lineTable, x_code, x_waiting, gl, ex, ox, x_merging, lt, upd oc o (nI c), hs_zr at1 o, CL, HE, op, x_lastPrints) (nI m) 8 (lN (12884901888 + o)) (nI a) (nI a)) :
    wpX_makeObject post (nI mo, x_stepLimit, x_depthLimit, x_pendingCount, x_keptTokens, x_keptLines, x_lineCount, x_codeCount, x_cursor, x_stop, x_waitingCount, x_openCount, x_classCount, nI (d + 1), nI vt, x_stepsTaken, x_error, x_raisedCode, x_printCount, x_lastResult, x_lastPlace, x_pending, x_lineTable, x_code, x_waiting, gl, ex, ox, x_merging, lt, oc, at1, CL, HE, op, x_lastPrints) (nI q) (nI a) := by
  have W' := W
  obtain ⟨⟨w1, w2⟩, w3, w4, w5, w6, w7, w8, w9, w10⟩ := W
  have m256 := hs_xmLt (cl := d + 1) (on := vt) (he := HE) (op := op) rv1 rv2 rv3 rv4 rv5 (by omega)
  refine And.intro (vp_in_nI hq (by decide)) ?_
  rw [nI_clamp (show q < 2 ^ 31 by omega)]
  rcases w9 q hq with y | ⟨c, c1, c2⟩
  · exact nm_r y (br_f (by decide) (Hn 2 (Or.inl ⟨y, rfl⟩)))
  · refine nm_r c2 (br_t (nI_pos' (by omega)) (hs_xLive (by omega) (by omega) rv1 rv2 rv3 rv4 rv5 (hs_xCountBits m256 (pk_lt _ mo (fun z => ?_) (fun z => Hn 7 (Or.inr ⟨⟨c, c1, c2⟩, by omega, rfl⟩)) rfl rfl (by have := hs_cntLe (hs_xm gl ex HE op at1 (d + 1) vt) 8 0; omega)))))
    obtain ⟨o, _, o2, o3, o4⟩ := hs_cntFree (hs_xm gl ex HE op at1 (d + 1) vt) 8 0 (by omega)
    have NO : hs_NO gl ex HE op at1 lt cn d vt mo q c o := ⟨c1, c2, z, by omega, o3, fun j hj => o4 j (by omega) hj⟩
    refine ⟨9, hs_xFree m256 8 0 rfl ⟨o, by omega, by omega, o3, o4, ?_⟩⟩
    refine nm_r (hs_objN (by omega)) (And.intro (vp_in_nI (by omega) (by decide)) ?_)
    rw [nI_clamp (show o < 2 ^ 31 by omega)]
    refine nm_e ⟨27, hs_xMake69 W' c1 (by omega) ha hvt (Hv c o NO) (He c o NO) (fun m hm => Hm c o m NO hm) 26 0 at1 rfl (fun j => ?_)⟩
    rw [if_neg (by omega)]
end
