/-! the component runs an element of code: all of them -/
section
variable {x_objectLimit x_stepLimit x_depthLimit x_pendingCount x_keptTokens x_keptLines x_lineCount x_codeCount x_cursor x_stop x_waitingCount x_openCount x_classCount x_callCount x_operandCount x_stepsTaken x_error x_raisedCode x_printCount x_lastPlace : Int32} {x_lastResult : Int64} {x_pending x_lineTable x_orders x_merging x_letterClass x_objectClass x_calls x_lastPrints : Nat → Int32} {x_code x_waiting x_globals x_entries x_attributes x_held x_operands : Nat → Int64}
variable {y_maxObjects y_maxSteps y_maxDepth y_kept y_end y_tokens y_pending y_lines y_classes y_prints y_place y_steps y_d y_valTop y_opTop y_opens y_pos y_tk y_tv y_stmt y_target y_err y_code y_outcome y_dry y_want y_starting y_ended y_bad y_hosted y_sawSuper : Int32} {y_result : Int64} {y_text y_numbers y_classOf y_alive y_orders y_lengths y_letters y_bases y_ops y_fLine y_fPos y_fStmt y_fTarget y_fMask y_fHome y_fOps y_fVals y_fNew y_out : Nat → Int32} {y_globals y_entries y_attrs y_vals y_locals y_fRecv : Nat → Int64}
theorem hs_xCallSu {P h : Nat → Nat} {dl : Nat → Nat} {lc cn d vt q hm : Nat} {ml : Nat → List Nat} {gl ex at1 op HE : Nat → Int64} {ox oc lt LT CL : Nat → Int32} {mk : Int32} {n a : Nat} (W : hs_WX P h lc cn ml gl ex at1 ox oc lt) (hd1 : 1 ≤ d) (hd : d ≤ 6) (hr : ∃ b, hs_io (HE (d * 27 + 26)) b) (hh : CL (d * 6 + 1) = nI hm ∧ hm < 10) (hn : n < 26) {post : SX → Prop}
    (Hm : ∀ b c, hs_io (HE (d * 27 + 26)) b → c < cn → oc b = nI c → wpX_startCall (fun r u => match u with | (x_objectLimitq, x_stepLimitq, x_depthLimitq, x_pendingCountq, x_keptTokensq, x_keptLinesq, x_lineCountq, x_codeCountq, x_cursorq, x_stopq, x_waitingCountq, x_openCountq, x_classCountq, x_callCountq, x_operandCountq, x_stepsTakenq, x_errorq, x_raisedCodeq, x_printCountq, x_lastResultq, x_lastPlaceq, x_pendingq, x_lineTableq, x_codeq, x_waitingq, x_globalsq, x_entriesq, x_ordersq, x_mergingq, x_letterClassq, x_objectClassq, x_attributesq, x_callsq, x_heldq, x_operandsq, x_lastPrintsq) => ((r = 0 → post (x_objectLimitq, x_stepLimitq, x_depthLimitq, x_pendingCountq, x_keptTokensq, x_keptLinesq, x_lineCountq, x_codeCountq, x_cursorq, x_stopq, x_waitingCountq, x_openCountq, x_classCountq, x_callCountq, x_operandCountq, x_stepsTakenq, x_errorq, x_raisedCodeq, x_printCountq, x_lastResultq, x_lastPlaceq, x_pendingq, x_lineTableq, x_codeq, x_waitingq, x_globalsq, x_entriesq, x_ordersq, x_mergingq, x_letterClassq, x_objectClassq, x_attributesq, x_callsq, x_heldq, x_operandsq, x_lastPrintsq)) ∧ (¬ r = 0 → (vp_in (((x_callCountq - 1) * 6) + 0) 42 ∧ wpX_reach (fun u => match u with | (x_objectLimitw, x_stepLimitw, x_depthLimitw, x_pendingCountw, x_keptTokensw, x_keptLinesw, x_lineCountw, x_codeCountw, x_cursorw, x_stopw, x_waitingCountw, x_openCountw, x_classCountw, x_callCountw, x_operandCountw, x_stepsTakenw, x_errorw, x_raisedCodew, x_printCountw, x_lastResultw, x_lastPlacew, x_pendingw, x_lineTablew, x_codew, x_waitingw, x_globalsw, x_entriesw, x_ordersw, x_mergingw, x_letterClassw, x_objectClassw, x_attributesw, x_callsw, x_heldw, x_operandsw, x_lastPrintsw) => post (x_objectLimitw, x_stepLimitw, x_depthLimitw, x_pendingCountw, x_keptTokensw, x_keptLinesw, x_lineCountw, x_codeCountw, x_cursorw, x_stopw, x_waitingCountw, x_openCountw, x_classCountw, x_callCountw, x_operandCountw, x_stepsTakenw, x_errorw, x_raisedCodew, x_printCountw, x_lastResultw, x_lastPlacew, x_pendingw, x_lineTablew, x_codew, x_waitingw, x_globalsw, x_entriesw, x_ordersw, x_mergingw, x_letterClassw, x_objectClassw, x_attributesw, x_callsw, x_heldw, x_operandsw, x_lastPrintsw)) (x_objectLimitq, x_stepLimitq, x_depthLimitq, x_pendingCountq, x_keptTokensq, x_keptLinesq, x_lineCountq, x_codeCountq, x_cursorq, x_stopq, x_waitingCountq, x_openCountq, x_classCountq, x_callCountq, x_operandCountq, x_stepsTakenq, x_errorq, x_raisedCodeq, x_printCountq, x_lastResultq, x_lastPlaceq, x_pendingq, x_lineTableq, x_codeq, x_waitingq, x_globalsq, x_entriesq, x_ordersq, x_mergingq, x_letterClassq, x_objectClassq, x_attributesq, x_callsq, x_heldq, x_operandsq, x_lastPrintsq) ((x_callsq (((x_callCountq - 1) * 6) + 0).toNatClampNeg) + 1))))) (x_objectLimit, x_stepLimit, x_depthLimit, x_pendingCount, x_keptTokens, x_keptLines, x_lineCount, x_codeCount, x_cursor, x_stop, x_waitingCount, x_openCount, x_classCount, nI (d + 1), nI vt, x_stepsTaken, x_error, x_raisedCode, x_printCount, x_lastResult, x_lastPlace, x_pending, LT, x_code, x_waiting, gl, ex, ox, x_merging, lt, oc, at1, CL, HE, op, x_lastPrints) (hs_oI (hs_sea ex n ((ml c).drop ((ml c).idxOf hm + 1)))) (nI n) (HE (d * 27 + 26)) (nI a) (nI a)) : wpX_callSuper post (x_objectLimit, x_stepLimit, x_depthLimit, x_pendingCount, x_keptTokens, x_keptLines, x_lineCount, x_codeCount, x_cursor, x_stop, x_waitingCount, x_openCount, x_classCount, nI (d + 1), nI vt, x_stepsTaken, x_error, x_raisedCode, x_printCount, x_lastResult, x_lastPlace, x_pending, LT, x_code, x_waiting, gl, ex, ox, x_merging, lt, oc, at1, CL, HE, op, x_lastPrints) (nI n) (nI a) := by
  obtain ⟨⟨w1, w2⟩, w3, w4, w5, w6, w7, w8, w9, w10⟩ := W
  obtain ⟨b, hb⟩ := hr
  obtain ⟨c, c1, c2⟩ := w8 b hb.1
  obtain ⟨o1, o2, o3, o4⟩ := w10 c c1
  have b8 := hb.1
  have e1 : nI (d + 1) - 1 = nI d := pk_sub (b := 1) (by omega)
  have e2 : nI d * 27 + 26 = nI (d * 27 + 26) := hs_ixMul d 27 26
  have e3 : nI d * 6 + 1 = nI (d * 6 + 1) := hs_ixMul d 6 1
  refine nm_r e1 ?_
  rw [e2, e3, nI_clamp (show d * 27 + 26 < 2 ^ 31 by omega), nI_clamp (show d * 6 + 1 < 2 ^ 31 by omega)]
  refine And.intro (vp_in_nI (by omega) (by decide)) (nm_e ?_)
  rw [hs_ioL hb, nI_clamp (show b < 2 ^ 31 by omega)]
  refine And.intro (vp_in_nI b8 (by decide)) (nm_r c2 (And.intro (vp_in_nI (by omega) (by decide)) ?_))
  rw [hh.1]
  refine ⟨13, hs_xPlace0 (by omega) o2 o3 (by omega) (fun m hm => by have := o4 m hm; omega) (fun k k1 k2 => ?_) 12 0 (by omega) (fun j hj => by omega)⟩
  have e4 : nI k + 1 = nI (k + 1) := nI_add k 1
  rw [e4]
  refine hs_xSea (l := ml c) (by omega) hn o2 o3 (fun m hm => by have := o4 m hm; omega) (by omega) ?_
  rw [k2]
  exact Hm b c hb c1 c2
theorem hs_xRun {P h : Nat → Nat} {dl : Nat → Nat} {lc cn d vt q hm : Nat} {ml : Nat → List Nat} {gl ex at1 op HE : Nat → Int64} {ox oc lt LT CL : Nat → Int32} {mk : Int32} {o : Nat} (W : hs_WX P h lc cn ml gl ex at1 ox oc lt) (hd : d ≤ 6) (h0 : d = 0 → CL 0 = -1) (h1 : 1 ≤ d → CL (d * 6) = nI (dl d) ∧ dl d < 405) (hr : 1 ≤ d → ∃ b, hs_io (HE (d * 27 + 26)) b) (hh : 1 ≤ d → CL (d * 6 + 1) = nI hm ∧ hm < 10) (hop : ∀ j, j < vt → hs_vv (op j)) (hvt : vt < 280) (har : hs_arr o ≤ vt) (hoq : hs_oq d o q) (hmk : mk = hs_mk1 LT dl d) {post : SX → Prop}
    (Hv : ∀ dr v, hs_RV ml gl ex at1 HE op oc lt mk cn d vt o q dr v → dr ≤ vt → post (x_objectLimit, x_stepLimit, x_depthLimit, x_pendingCount, x_keptTokens, x_keptLines, x_lineCount, x_codeCount, x_cursor, x_stop, x_waitingCount, x_openCount, x_classCount, nI (d + 1), nI (vt - dr + 1), x_stepsTaken, x_error, x_raisedCode, x_printCount, x_lastResult, x_lastPlace, x_pending, LT, x_code, x_waiting, gl, ex, ox, x_merging, lt, oc, at1, CL, HE, vp_updL op (vt - dr) v, x_lastPrints)) (He : ∀ er c, hs_RE ml gl ex at1 HE op oc lt mk cn d vt o q er → post (x_objectLimit, x_stepLimit, x_depthLimit, x_pendingCount, x_keptTokens, x_keptLines, x_lineCount, x_codeCount, x_cursor, x_stop, x_waitingCount, x_openCount, x_classCount, nI (d + 1), c, x_stepsTaken, er, x_raisedCode, x_printCount, x_lastResult, x_lastPlace, x_pending, LT, x_code, x_waiting, gl, ex, ox, x_merging, lt, oc, at1, CL, HE, op, x_lastPrints))
    (Hm : ∀ fo n rv a us, hs_RM ml ex at1 HE op oc hm cn d vt o q fo n rv a us → wpX_startCall (fun r u => match u with | (x_objectLimitq, x_stepLimitq, x_depthLimitq, x_pendingCountq, x_keptTokensq, x_keptLinesq, x_lineCountq, x_codeCountq, x_cursorq, x_stopq, x_waitingCountq, x_openCountq, x_classCountq, x_callCountq, x_operandCountq, x_stepsTakenq, x_errorq, x_raisedCodeq, x_printCountq, x_lastResultq, x_lastPlaceq, x_pendingq, x_lineTableq, x_codeq, x_waitingq, x_globalsq, x_entriesq, x_ordersq, x_mergingq, x_letterClassq, x_objectClassq, x_attributesq, x_callsq, x_heldq, x_operandsq, x_lastPrintsq) => ((r = 0 → post (x_objectLimitq, x_stepLimitq, x_depthLimitq, x_pendingCountq, x_keptTokensq, x_keptLinesq, x_lineCountq, x_codeCountq, x_cursorq, x_stopq, x_waitingCountq, x_openCountq, x_classCountq, x_callCountq, x_operandCountq, x_stepsTakenq, x_errorq, x_raisedCodeq, x_printCountq, x_lastResultq, x_lastPlaceq, x_pendingq, x_lineTableq, x_codeq, x_waitingq, x_globalsq, x_entriesq, x_ordersq, x_mergingq, x_letterClassq, x_objectClassq, x_attributesq, x_callsq, x_heldq, x_operandsq, x_lastPrintsq)) ∧ (¬ r = 0 → (vp_in (((x_callCountq - 1) * 6) + 0) 42 ∧ wpX_reach (fun u => match u with | (x_objectLimitw, x_stepLimitw, x_depthLimitw, x_pendingCountw, x_keptTokensw, x_keptLinesw, x_lineCountw, x_codeCountw, x_cursorw, x_stopw, x_waitingCountw, x_openCountw, x_classCountw, x_callCountw, x_operandCountw, x_stepsTakenw, x_errorw, x_raisedCodew, x_printCountw, x_lastResultw, x_lastPlacew, x_pendingw, x_lineTablew, x_codew, x_waitingw, x_globalsw, x_entriesw, x_ordersw, x_mergingw, x_letterClassw, x_objectClassw, x_attributesw, x_callsw, x_heldw, x_operandsw, x_lastPrintsw) => post (x_objectLimitw, x_stepLimitw, x_depthLimitw, x_pendingCountw, x_keptTokensw, x_keptLinesw, x_lineCountw, x_codeCountw, x_cursorw, x_stopw, x_waitingCountw, x_openCountw, x_classCountw, x_callCountw, x_operandCountw, x_stepsTakenw, x_errorw, x_raisedCodew, x_printCountw, x_lastResultw, x_lastPlacew, x_pendingw, x_lineTablew, x_codew, x_waitingw, x_globalsw, x_entriesw, x_ordersw, x_mergingw, x_letterClassw, x_objectClassw, x_attributesw, x_callsw, x_heldw, x_operandsw, x_lastPrintsw)) (x_objectLimitq, x_stepLimitq, x_depthLimitq, x_pendingCountq, x_keptTokensq, x_keptLinesq, x_lineCountq, x_codeCountq, x_cursorq, x_stopq, x_waitingCountq, x_openCountq, x_classCountq, x_callCountq, x_operandCountq, x_stepsTakenq, x_errorq, x_raisedCodeq, x_printCountq, x_lastResultq, x_lastPlaceq, x_pendingq, x_lineTableq, x_codeq, x_waitingq, x_globalsq, x_entriesq, x_ordersq, x_mergingq, x_letterClassq, x_objectClassq, x_attributesq, x_callsq, x_heldq, x_operandsq, x_lastPrintsq) ((x_callsq (((x_callCountq - 1) * 6) + 0).toNatClampNeg) + 1))))) (x_objectLimit, x_stepLimit, x_depthLimit, x_pendingCount, x_keptTokens, x_keptLines, x_lineCount, x_codeCount, x_cursor, x_stop, x_waitingCount, x_openCount, x_classCount, nI (d + 1), nI vt, x_stepsTaken, x_error, x_raisedCode, x_printCount, x_lastResult, x_lastPlace, x_pending, LT, x_code, x_waiting, gl, ex, ox, x_merging, lt, oc, at1, CL, HE, op, x_lastPrints) (hs_oI fo) (nI n) rv (nI a) (nI us))
    (Hn : o = 10 ∨ o = 11 → wpX_makeObject (fun u => match u with | (x_objectLimitq, x_stepLimitq, x_depthLimitq, x_pendingCountq, x_keptTokensq, x_keptLinesq, x_lineCountq, x_codeCountq, x_cursorq, x_stopq, x_waitingCountq, x_openCountq, x_classCountq, x_callCountq, x_operandCountq, x_stepsTakenq, x_errorq, x_raisedCodeq, x_printCountq, x_lastResultq, x_lastPlaceq, x_pendingq, x_lineTableq, x_codeq, x_waitingq, x_globalsq, x_entriesq, x_ordersq, x_mergingq, x_letterClassq, x_objectClassq, x_attributesq, x_callsq, x_heldq, x_operandsq, x_lastPrintsq) => post (x_objectLimitq, x_stepLimitq, x_depthLimitq, x_pendingCountq, x_keptTokensq, x_keptLinesq, x_lineCountq, x_codeCountq, x_cursorq, x_stopq, x_waitingCountq, x_openCountq, x_classCountq, x_callCountq, x_operandCountq, x_stepsTakenq, x_errorq, x_raisedCodeq, x_printCountq, x_lastResultq, x_lastPlaceq, x_pendingq, x_lineTableq, x_codeq, x_waitingq, x_globalsq, x_entriesq, x_ordersq, x_mergingq, x_letterClassq, x_objectClassq, x_attributesq, x_callsq, x_heldq, x_operandsq, x_lastPrintsq)) (x_objectLimit, x_stepLimit, x_depthLimit, x_pendingCount, x_keptTokens, x_keptLines, x_lineCount, x_codeCount, x_cursor, x_stop, x_waitingCount, x_openCount, x_classCount, nI (d + 1), nI vt, x_stepsTaken, x_error, x_raisedCode, x_printCount, x_lastResult, x_lastPlace, x_pending, LT, x_code, x_waiting, gl, ex, ox, x_merging, lt, oc, at1, CL, HE, op, x_lastPrints) (nI q) (nI (o - 10))) : wpX_runCode post (x_objectLimit, x_stepLimit, x_depthLimit, x_pendingCount, x_keptTokens, x_keptLines, x_lineCount, x_codeCount, x_cursor, x_stop, x_waitingCount, x_openCount, x_classCount, nI (d + 1), nI vt, x_stepsTaken, x_error, x_raisedCode, x_printCount, x_lastResult, x_lastPlace, x_pending, LT, x_code, x_waiting, gl, ex, ox, x_merging, lt, oc, at1, CL, HE, op, x_lastPrints) (hs_ce o q) := by
  have W' := W
  obtain ⟨⟨w1, w2⟩, w3, w4, w5, w6, w7, w8, w9, w10⟩ := W
  obtain ⟨p1, p2, p3, p4, p5, p6, p7⟩ := hoq
  refine nm_r (hs_ceOp32 p3 p4) (br_f (nI_nlt (b := 1) p1 (by omega)) ?_)
  rw [hs_cePart p4]
  refine pk_lt 11 o (fun z => ?_) (fun z => ?_)
  · have a2 : 2 ≤ vt := by
      have : hs_arr o = 2 := (if_neg (by omega)).trans (if_pos (by omega))
      omega
    refine hs_xOperand (b := 1) (by omega) (by omega) ?_
    rw [show vt - 1 - 1 = vt - 2 by omega]
    have cmp : ¬ (o = 29 ∧ ∃ b, hs_io (op (vt - 2)) b) → wX_runCode_199 post (nI o) x_objectLimit x_stepLimit x_depthLimit x_pendingCount x_keptTokens x_keptLines x_lineCount x_codeCount x_cursor x_stop x_waitingCount x_openCount x_classCount (nI (d + 1)) (nI vt) x_stepsTaken x_error x_raisedCode x_printCount x_lastResult x_lastPlace x_pending LT x_code x_waiting gl ex ox x_merging lt oc at1 CL HE op x_lastPrints := fun y => by
      unfold wX_runCode_199
      exact hs_xCompute (P := P) (h := h) (lc := lc) hop (by omega) a2 (by omega) p3 y Hv He
    refine pk_eq o 29 (fun y => ?_) (fun y => cmp (fun k => y k.1))
    subst y
    rcases hs_vvO (hop (vt - 2) (by omega)) with ⟨b, hb⟩ | hb
    · refine hs_xkO hb (br_f (by decide) (hs_xCallM (mk := mk) (q := q) (n := 0) (a := 1) W' hop (by omega) (by omega) (by decide) (fun k => ?_) (fun b' c k1 k2 k3 k4 => ?_)))
      · rw [show vt - 1 - 1 = vt - 2 by omega] at k
        rcases k with k | ⟨b', k1, k2⟩
        · exact absurd (hs_ykO hb) (hs_ykNO k)
        · exact He 3 _ (Or.inr (Or.inr (Or.inr (Or.inr (Or.inr (Or.inr (Or.inr (Or.inr (Or.inr ⟨rfl, b', k1, k2, rfl⟩)))))))))
      · rw [show vt - 1 - 1 = vt - 2 by omega] at k1 ⊢
        exact Hm _ 0 _ 1 2 (Or.inr (Or.inr ⟨rfl, rfl, rfl, rfl, rfl, b', c, k1, k2, k3, k4, rfl⟩))
    · refine hs_xkNO hb (br_t rfl (cmp ?_))
      rintro ⟨_, b, k⟩
      exact absurd (hs_ykO k) (hs_ykNO hb)
  · have cs : o = 1 ∨ o = 2 ∨ o = 3 ∨ o = 4 ∨ o = 5 ∨ o = 6 ∨ o = 7 ∨ o = 8 ∨ o = 9 ∨ o = 10 ∨ o = 11 := by omega
    have q26 : o ≠ 1 → o ≠ 5 → q < 26 := p5
    rcases cs with rfl | rfl | rfl | rfl | rfl | rfl | rfl | rfl | rfl | rfl | rfl
    · exact br_t rfl (hs_xPush hvt (Hv 0 _ (Or.inl ⟨rfl, rfl, rfl⟩) (Nat.zero_le _)))
    · refine br_f (by decide) (br_t rfl ?_)
      have q1 := q26 (by decide) (by decide)
      unfold wpX_pushName
      have fin : ∀ x, x = hs_gv mk gl HE d q → wX_pushName_33 (fun u => match u with | (x_objectLimitq, x_stepLimitq, x_depthLimitq, x_pendingCountq, x_keptTokensq, x_keptLinesq, x_lineCountq, x_codeCountq, x_cursorq, x_stopq, x_waitingCountq, x_openCountq, x_classCountq, x_callCountq, x_operandCountq, x_stepsTakenq, x_errorq, x_raisedCodeq, x_printCountq, x_lastResultq, x_lastPlaceq, x_pendingq, x_lineTableq, x_codeq, x_waitingq, x_globalsq, x_entriesq, x_ordersq, x_mergingq, x_letterClassq, x_objectClassq, x_attributesq, x_callsq, x_heldq, x_operandsq, x_lastPrintsq) => post (x_objectLimitq, x_stepLimitq, x_depthLimitq, x_pendingCountq, x_keptTokensq, x_keptLinesq, x_lineCountq, x_codeCountq, x_cursorq, x_stopq, x_waitingCountq, x_openCountq, x_classCountq, x_callCountq, x_operandCountq, x_stepsTakenq, x_errorq, x_raisedCodeq, x_printCountq, x_lastResultq, x_lastPlaceq, x_pendingq, x_lineTableq, x_codeq, x_waitingq, x_globalsq, x_entriesq, x_ordersq, x_mergingq, x_letterClassq, x_objectClassq, x_attributesq, x_callsq, x_heldq, x_operandsq, x_lastPrintsq)) x x_objectLimit x_stepLimit x_depthLimit x_pendingCount x_keptTokens x_keptLines x_lineCount x_codeCount x_cursor x_stop x_waitingCount x_openCount x_classCount (nI (d + 1)) (nI vt) x_stepsTaken x_error x_raisedCode x_printCount x_lastResult x_lastPlace x_pending LT x_code x_waiting gl ex ox x_merging lt oc at1 CL HE op x_lastPrints := by
        intro x hx
        unfold wX_pushName_33
        refine ⟨fun y => He 2 _ (Or.inl ⟨rfl, by rw [← hx]; exact y, rfl⟩), fun y => hs_xPush hvt (Hv 0 _ (Or.inr (Or.inr (Or.inl ⟨rfl, rfl, hx, y⟩))) (Nat.zero_le _))⟩
      refine hs_xIsLocal (dl := dl) hd h0 h1 (fun y y2 => br_f (by decide) ?_) (fun y => br_t rfl (And.intro (vp_in_nI q1 (by decide)) ?_))
      · have e : (nI (d + 1) - 1) * 27 + nI q = nI (d * 27 + q) := by
          rw [show nI (d + 1) - 1 = nI d from pk_sub (b := 1) (by omega)]; exact hs_ixMul d 27 q
        rw [e, nI_clamp (show d * 27 + q < 2 ^ 31 by omega)]
        refine And.intro (vp_in_nI (by omega) (by decide)) (fin _ ?_)
        unfold hs_gv
        rw [hmk, if_neg y]
      · rw [nI_clamp (show q < 2 ^ 31 by omega)]
        refine fin _ ?_
        unfold hs_gv
        rw [hmk, if_pos y]
    · exact br_f (by decide) (br_f (by decide) (br_t rfl (hs_xPush hvt (Hv 0 _ (Or.inr (Or.inl ⟨rfl, rfl, rfl⟩)) (Nat.zero_le _)))))
    · have a1 : 1 ≤ vt := har
      exact br_f (by decide) (br_f (by decide) (br_f (by decide) (br_t rfl (hs_xGetAttr W' hop (by omega) a1 (q26 (by decide) (by decide)) Hv He))))
    · refine br_f (by decide) (br_f (by decide) (br_f (by decide) (br_f (by decide) (br_t rfl ?_))))
      have q6 := p6 rfl
      have e1 : nI q / 26 = nI (q / 26) := pk_div (a := q) (d := 26) p4 (by decide) (by decide)
      have e2 : nI q - nI q / 26 * 26 = nI (q % 26) := pk_rem (a := q) (d := 26) p4 (by decide) (by decide)
      rw [e2, e1, nI_clamp (show q / 26 < 2 ^ 31 by omega)]
      refine And.intro (by decide) (And.intro (vp_in_nI (by omega) (by decide)) (And.intro (by decide) ?_))
      rcases w9 (q / 26) (by omega) with y | ⟨c, c1, c2⟩
      · rw [y]
        exact br_f (by decide) (He 2 _ (Or.inr (Or.inl ⟨rfl, y, rfl⟩)))
      · rw [c2]
        refine hs_xGetEntry (vt := vt) W' c1 (by omega) hvt (fun v hv => ?_) (fun er hr => ?_)
        · exact Hv 0 v (Or.inr (Or.inr (Or.inr (Or.inl ⟨rfl, rfl, c, c1, c2, hv⟩)))) (Nat.zero_le _)
        · exact He er _ (Or.inr (Or.inr (Or.inl ⟨rfl, c, c1, c2, hr⟩)))
    · have a1 : 1 ≤ vt := har
      refine br_f (by decide) (br_f (by decide) (br_f (by decide) (br_f (by decide) (br_f (by decide) (br_t rfl ?_)))))
      unfold wX_runCode_127
      refine hs_xCallM (mk := mk) (q := q) (n := q) (a := 0) W' hop (by omega) (by omega) (q26 (by decide) (by decide)) (fun k => ?_) (fun b' c k1 k2 k3 k4 => ?_)
      · rcases k with k | ⟨b', k1, k2⟩
        · exact He 3 _ (Or.inr (Or.inr (Or.inr (Or.inr (Or.inr (Or.inr (Or.inr (Or.inl ⟨Or.inl rfl, k, rfl⟩))))))))
        · exact He 3 _ (Or.inr (Or.inr (Or.inr (Or.inr (Or.inr (Or.inr (Or.inr (Or.inr (Or.inl ⟨Or.inl rfl, b', k1, k2, rfl⟩)))))))))
      · exact Hm _ q _ 0 1 (Or.inl ⟨Or.inl rfl, rfl, rfl, rfl, rfl, b', c, k1, k2, k3, k4, rfl⟩)
    · have a1 : 2 ≤ vt := har
      refine br_f (by decide) (br_f (by decide) (br_f (by decide) (br_f (by decide) (br_f (by decide) (br_f (by decide) (br_t rfl ?_))))))
      unfold wX_runCode_127
      refine hs_xCallM (mk := mk) (q := q) (n := q) (a := 1) W' hop (by omega) (by omega) (q26 (by decide) (by decide)) (fun k => ?_) (fun b' c k1 k2 k3 k4 => ?_)
      · rcases k with k | ⟨b', k1, k2⟩
        · exact He 3 _ (Or.inr (Or.inr (Or.inr (Or.inr (Or.inr (Or.inr (Or.inr (Or.inl ⟨Or.inr rfl, k, rfl⟩))))))))
        · exact He 3 _ (Or.inr (Or.inr (Or.inr (Or.inr (Or.inr (Or.inr (Or.inr (Or.inr (Or.inl ⟨Or.inr rfl, b', k1, k2, rfl⟩)))))))))
      · exact Hm _ q _ 1 2 (Or.inl ⟨Or.inr rfl, rfl, rfl, rfl, rfl, b', c, k1, k2, k3, k4, rfl⟩)
    · have d1 := p7 (Or.inl rfl)
      refine br_f (by decide) (br_f (by decide) (br_f (by decide) (br_f (by decide) (br_f (by decide) (br_f (by decide) (br_f (by decide) (br_t rfl ?_)))))))
      unfold wX_runCode_140
      exact hs_xCallSu (mk := mk) (dl := dl) (q := q) (a := 0) W' d1 hd (hr d1) (hh d1) (q26 (by decide) (by decide)) (fun b c k1 k2 k3 => Hm _ q _ 0 0 (Or.inr (Or.inl ⟨Or.inl rfl, rfl, rfl, rfl, d1, rfl, b, c, k1, k2, k3, rfl⟩)))
    · have d1 := p7 (Or.inr rfl)
      refine br_f (by decide) (br_f (by decide) (br_f (by decide) (br_f (by decide) (br_f (by decide) (br_f (by decide) (br_f (by decide) (br_f (by decide) (br_t rfl ?_))))))))
      unfold wX_runCode_140
      exact hs_xCallSu (mk := mk) (dl := dl) (q := q) (a := 1) W' d1 hd (hr d1) (hh d1) (q26 (by decide) (by decide)) (fun b c k1 k2 k3 => Hm _ q _ 1 1 (Or.inr (Or.inl ⟨Or.inr rfl, rfl, rfl, rfl, d1, rfl, b, c, k1, k2, k3, rfl⟩)))
    · refine br_f (by decide) (br_f (by decide) (br_f (by decide) (br_f (by decide) (br_f (by decide) (br_f (by decide) (br_f (by decide) (br_f (by decide) (br_f (by decide) (br_t rfl ?_)))))))))
      unfold wX_runCode_153
      exact Hn (Or.inl rfl)
    · refine br_f (by decide) (br_f (by decide) (br_f (by decide) (br_f (by decide) (br_f (by decide) (br_f (by decide) (br_f (by decide) (br_f (by decide) (br_f (by decide) (br_f (by decide) (br_t rfl ?_))))))))))
      unfold wX_runCode_153
      exact Hn (Or.inr rfl)
end
