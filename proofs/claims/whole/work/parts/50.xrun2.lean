/-! the component runs an element of code -/
section
variable {x_objectLimit x_stepLimit x_depthLimit x_pendingCount x_keptTokens x_keptLines x_lineCount x_codeCount x_cursor x_stop x_waitingCount x_openCount x_classCount x_callCount x_operandCount x_stepsTaken x_error x_raisedCode x_printCount x_lastPlace : Int32} {x_lastResult : Int64} {x_pending x_lineTable x_orders x_merging x_letterClass x_objectClass x_calls x_lastPrints : Nat → Int32} {x_code x_waiting x_globals x_entries x_attributes x_held x_operands : Nat → Int64}
variable {y_maxObjects y_maxSteps y_maxDepth y_kept y_end y_tokens y_pending y_lines y_classes y_prints y_place y_steps y_d y_valTop y_opTop y_opens y_pos y_tk y_tv y_stmt y_target y_err y_code y_outcome y_dry y_want y_starting y_ended y_bad y_hosted y_sawSuper : Int32} {y_result : Int64} {y_text y_numbers y_classOf y_alive y_orders y_lengths y_letters y_bases y_ops y_fLine y_fPos y_fStmt y_fTarget y_fMask y_fHome y_fOps y_fVals y_fNew y_out : Nat → Int32} {y_globals y_entries y_attrs y_vals y_locals y_fRecv : Nat → Int64}
theorem hs_xGetAttr {P h : Nat → Nat} {lc cn d vt q : Nat} {ml : Nat → List Nat} {gl ex at1 op HE : Nat → Int64} {ox oc lt LT CL : Nat → Int32} {mk : Int32} (W : hs_WX P h lc cn ml gl ex at1 ox oc lt) (hop : ∀ j, j < vt → hs_vv (op j)) (hvt : vt ≤ 280) (h1 : 1 ≤ vt) (hq : q < 26) {post : SX → Prop}
    (Hv : ∀ dr v, hs_RV ml gl ex at1 HE op oc lt mk cn d vt 4 q dr v → dr ≤ vt → post (x_objectLimit, x_stepLimit, x_depthLimit, x_pendingCount, x_keptTokens, x_keptLines, x_lineCount, x_codeCount, x_cursor, x_stop, x_waitingCount, x_openCount, x_classCount, nI (d + 1), nI (vt - dr + 1), x_stepsTaken, x_error, x_raisedCode, x_printCount, x_lastResult, x_lastPlace, x_pending, LT, x_code, x_waiting, gl, ex, ox, x_merging, lt, oc, at1, CL, HE, vp_updL op (vt - dr) v, x_lastPrints)) (He : ∀ er c, hs_RE ml gl ex at1 HE op oc lt mk cn d vt 4 q er → post (x_objectLimit, x_stepLimit, x_depthLimit, x_pendingCount, x_keptTokens, x_keptLines, x_lineCount, x_codeCount, x_cursor, x_stop, x_waitingCount, x_openCount, x_classCount, nI (d + 1), c, x_stepsTaken, er, x_raisedCode, x_printCount, x_lastResult, x_lastPlace, x_pending, LT, x_code, x_waiting, gl, ex, ox, x_merging, lt, oc, at1, CL, HE, op, x_lastPrints)) : wpX_getAttribute post (x_objectLimit, x_stepLimit, x_depthLimit, x_pendingCount, x_keptTokens, x_keptLines, x_lineCount, x_codeCount, x_cursor, x_stop, x_waitingCount, x_openCount, x_classCount, nI (d + 1), nI vt, x_stepsTaken, x_error, x_raisedCode, x_printCount, x_lastResult, x_lastPlace, x_pending, LT, x_code, x_waiting, gl, ex, ox, x_merging, lt, oc, at1, CL, HE, op, x_lastPrints) (nI q) := by
  have W' := W
  obtain ⟨⟨w1, w2⟩, w3, w4, w5, w6, w7, w8, w9, w10⟩ := W
  unfold wpX_getAttribute
  refine hs_xPop hvt h1 ?_
  rcases hs_vvO (hop (vt - 1) (by omega)) with ⟨b, hb⟩ | hb
  · refine hs_xkO hb (br_f (by decide) ?_)
    have b8 := hb.1
    have ei : nI b * 26 + nI q = nI (b * 26 + q) := hs_ixMul b 26 q
    rw [hs_ioL hb, ei, nI_clamp (show b * 26 + q < 2 ^ 31 by omega)]
    refine And.intro (vp_in_nI (by omega) (by decide)) (nm_e ?_)
    by_cases z : at1 (b * 26 + q) = 0
    · obtain ⟨c, c1, c2⟩ := w8 b b8
      refine br_t z (And.intro (vp_in_nI b8 (by decide)) ?_)
      rw [nI_clamp (show b < 2 ^ 31 by omega), c2]
      refine hs_xGetEntry (vt := vt - 1) W' c1 hq (by omega) (fun v hv => ?_) (fun er hr => ?_)
      · exact Hv 1 v (Or.inr (Or.inr (Or.inr (Or.inr (Or.inl ⟨rfl, rfl, b, hb, Or.inr ⟨z, c, c1, c2, hv⟩⟩))))) h1
      · exact He er _ (Or.inr (Or.inr (Or.inr (Or.inr (Or.inl ⟨rfl, b, hb, z, c, c1, c2, hr⟩)))))
    · refine br_f z (hs_xPush (by omega) ?_)
      exact Hv 1 _ (Or.inr (Or.inr (Or.inr (Or.inr (Or.inl ⟨rfl, rfl, b, hb, Or.inl ⟨z, rfl⟩⟩))))) h1
  · exact hs_xkNO hb (br_t rfl (He 3 _ (Or.inr (Or.inr (Or.inr (Or.inl ⟨rfl, hb, rfl⟩))))))
theorem hs_xCompute {P h : Nat → Nat} {lc cn d vt q : Nat} {ml : Nat → List Nat} {gl ex at1 op HE : Nat → Int64} {ox oc lt LT CL : Nat → Int32} {mk : Int32} {o : Nat} (hop : ∀ j, j < vt → hs_vv (op j)) (hvt : vt ≤ 280) (h2 : 2 ≤ vt) (ho : 27 ≤ o) (ho2 : o < 64) (hnc : ¬ (o = 29 ∧ ∃ b, hs_io (op (vt - 2)) b)) {post : SX → Prop}
    (Hv : ∀ dr v, hs_RV ml gl ex at1 HE op oc lt mk cn d vt o q dr v → dr ≤ vt → post (x_objectLimit, x_stepLimit, x_depthLimit, x_pendingCount, x_keptTokens, x_keptLines, x_lineCount, x_codeCount, x_cursor, x_stop, x_waitingCount, x_openCount, x_classCount, nI (d + 1), nI (vt - dr + 1), x_stepsTaken, x_error, x_raisedCode, x_printCount, x_lastResult, x_lastPlace, x_pending, LT, x_code, x_waiting, gl, ex, ox, x_merging, lt, oc, at1, CL, HE, vp_updL op (vt - dr) v, x_lastPrints)) (He : ∀ er c, hs_RE ml gl ex at1 HE op oc lt mk cn d vt o q er → post (x_objectLimit, x_stepLimit, x_depthLimit, x_pendingCount, x_keptTokens, x_keptLines, x_lineCount, x_codeCount, x_cursor, x_stop, x_waitingCount, x_openCount, x_classCount, nI (d + 1), c, x_stepsTaken, er, x_raisedCode, x_printCount, x_lastResult, x_lastPlace, x_pending, LT, x_code, x_waiting, gl, ex, ox, x_merging, lt, oc, at1, CL, HE, op, x_lastPrints)) : wpX_compute post (x_objectLimit, x_stepLimit, x_depthLimit, x_pendingCount, x_keptTokens, x_keptLines, x_lineCount, x_codeCount, x_cursor, x_stop, x_waitingCount, x_openCount, x_classCount, nI (d + 1), nI vt, x_stepsTaken, x_error, x_raisedCode, x_printCount, x_lastResult, x_lastPlace, x_pending, LT, x_code, x_waiting, gl, ex, ox, x_merging, lt, oc, at1, CL, HE, op, x_lastPrints) (nI o) := by
  unfold wpX_compute
  refine hs_xPop hvt (by omega) (hs_xPop (by omega) (by omega) ?_)
  rw [show vt - 1 - 1 = vt - 2 by omega]
  have V : ∀ v, hs_RV ml gl ex at1 HE op oc lt mk cn d vt o q 2 v → wpX_push (fun u => match u with | (x_objectLimitq, x_stepLimitq, x_depthLimitq, x_pendingCountq, x_keptTokensq, x_keptLinesq, x_lineCountq, x_codeCountq, x_cursorq, x_stopq, x_waitingCountq, x_openCountq, x_classCountq, x_callCountq, x_operandCountq, x_stepsTakenq, x_errorq, x_raisedCodeq, x_printCountq, x_lastResultq, x_lastPlaceq, x_pendingq, x_lineTableq, x_codeq, x_waitingq, x_globalsq, x_entriesq, x_ordersq, x_mergingq, x_letterClassq, x_objectClassq, x_attributesq, x_callsq, x_heldq, x_operandsq, x_lastPrintsq) => post (x_objectLimitq, x_stepLimitq, x_depthLimitq, x_pendingCountq, x_keptTokensq, x_keptLinesq, x_lineCountq, x_codeCountq, x_cursorq, x_stopq, x_waitingCountq, x_openCountq, x_classCountq, x_callCountq, x_operandCountq, x_stepsTakenq, x_errorq, x_raisedCodeq, x_printCountq, x_lastResultq, x_lastPlaceq, x_pendingq, x_lineTableq, x_codeq, x_waitingq, x_globalsq, x_entriesq, x_ordersq, x_mergingq, x_letterClassq, x_objectClassq, x_attributesq, x_callsq, x_heldq, x_operandsq, x_lastPrintsq)) (x_objectLimit, x_stepLimit, x_depthLimit, x_pendingCount, x_keptTokens, x_keptLines, x_lineCount, x_codeCount, x_cursor, x_stop, x_waitingCount, x_openCount, x_classCount, nI (d + 1), nI (vt - 2), x_stepsTaken, x_error, x_raisedCode, x_printCount, x_lastResult, x_lastPlace, x_pending, LT, x_code, x_waiting, gl, ex, ox, x_merging, lt, oc, at1, CL, HE, op, x_lastPrints) v := fun v hv => hs_xPush (by omega) (Hv 2 v hv h2)
  refine pk_eq o 27 (fun z => ?_) (fun z => ?_)
  · refine ⟨fun y => ?_, fun y => ?_⟩
    · exact V (hs_int 1) (Or.inr (Or.inr (Or.inr (Or.inr (Or.inr ⟨ho, rfl, Or.inl ⟨z, by rw [if_pos y]⟩⟩)))))
    · exact V (hs_int 0) (Or.inr (Or.inr (Or.inr (Or.inr (Or.inr ⟨ho, rfl, Or.inl ⟨z, by rw [if_neg y]⟩⟩)))))
  · rcases hs_vvI (hop (vt - 2) (by omega)) with ⟨a, ha⟩ | ha
    · rw [ha]
      refine hs_xkI (br_f (by decide) ?_)
      rcases hs_vvI (hop (vt - 1) (by omega)) with ⟨b, hb⟩ | hb
      · rw [hb]
        refine hs_xkI (br_f (by decide) ?_)
        rw [hs_intLow, hs_intLow]
        have go : ¬ (o = 32 ∧ b = 0) → wX_compute_87 (fun u => match u with | (x_objectLimitq, x_stepLimitq, x_depthLimitq, x_pendingCountq, x_keptTokensq, x_keptLinesq, x_lineCountq, x_codeCountq, x_cursorq, x_stopq, x_waitingCountq, x_openCountq, x_classCountq, x_callCountq, x_operandCountq, x_stepsTakenq, x_errorq, x_raisedCodeq, x_printCountq, x_lastResultq, x_lastPlaceq, x_pendingq, x_lineTableq, x_codeq, x_waitingq, x_globalsq, x_entriesq, x_ordersq, x_mergingq, x_letterClassq, x_objectClassq, x_attributesq, x_callsq, x_heldq, x_operandsq, x_lastPrintsq) => post (x_objectLimitq, x_stepLimitq, x_depthLimitq, x_pendingCountq, x_keptTokensq, x_keptLinesq, x_lineCountq, x_codeCountq, x_cursorq, x_stopq, x_waitingCountq, x_openCountq, x_classCountq, x_callCountq, x_operandCountq, x_stepsTakenq, x_errorq, x_raisedCodeq, x_printCountq, x_lastResultq, x_lastPlaceq, x_pendingq, x_lineTableq, x_codeq, x_waitingq, x_globalsq, x_entriesq, x_ordersq, x_mergingq, x_letterClassq, x_objectClassq, x_attributesq, x_callsq, x_heldq, x_operandsq, x_lastPrintsq)) (nI o) a b x_objectLimit x_stepLimit x_depthLimit x_pendingCount x_keptTokens x_keptLines x_lineCount x_codeCount x_cursor x_stop x_waitingCount x_openCount x_classCount (nI (d + 1)) (nI (vt - 2)) x_stepsTaken x_error x_raisedCode x_printCount x_lastResult x_lastPlace x_pending LT x_code x_waiting gl ex ox x_merging lt oc at1 CL HE op x_lastPrints := by
          intro y
          unfold wX_compute_87
          exact hs_xArith (by omega) ho2 (V (hs_int (hs_ar o a b)) (Or.inr (Or.inr (Or.inr (Or.inr (Or.inr ⟨ho, rfl, Or.inr ⟨z, a, b, ha, hb, y, rfl⟩⟩))))))
        refine pk_eq o 32 (fun y => ⟨fun y2 => He 5 _ ?_, fun y2 => go (fun k => y2 k.2)⟩) (fun y => go (fun k => y k.1))
        subst y2
        exact Or.inr (Or.inr (Or.inr (Or.inr (Or.inr (Or.inr (Or.inl ⟨y, a, ha, hb, rfl⟩))))))
      · exact hs_xkNI hb (br_t rfl (He 3 _ (Or.inr (Or.inr (Or.inr (Or.inr (Or.inr (Or.inl ⟨by omega, hnc, Or.inr ⟨⟨a, ha⟩, hb⟩, rfl⟩))))))))
    · exact hs_xkNI ha (br_t rfl (He 3 _ (Or.inr (Or.inr (Or.inr (Or.inr (Or.inr (Or.inl ⟨by omega, hnc, Or.inl ha, rfl⟩))))))))
/-- a method of an operand -/
theorem hs_xCallM {P h : Nat → Nat} {lc cn d vt q : Nat} {ml : Nat → List Nat} {gl ex at1 op HE : Nat → Int64} {ox oc lt LT CL : Nat → Int32} {mk : Int32} {n a : Nat} (W : hs_WX P h lc cn ml gl ex at1 ox oc lt) (hop : ∀ j, j < vt → hs_vv (op j)) (hvt : vt ≤ 280) (h1 : a < vt) (hn : n < 26) {post : SX → Prop}
    (He : (hs_no (op (vt - 1 - a)) ∨ ∃ b, hs_io (op (vt - 1 - a)) b ∧ at1 (b * 26 + n) ≠ 0) → post (x_objectLimit, x_stepLimit, x_depthLimit, x_pendingCount, x_keptTokens, x_keptLines, x_lineCount, x_codeCount, x_cursor, x_stop, x_waitingCount, x_openCount, x_classCount, nI (d + 1), nI vt, x_stepsTaken, 3, x_raisedCode, x_printCount, x_lastResult, x_lastPlace, x_pending, LT, x_code, x_waiting, gl, ex, ox, x_merging, lt, oc, at1, CL, HE, op, x_lastPrints))
    (Hm : ∀ b c, hs_io (op (vt - 1 - a)) b → at1 (b * 26 + n) = 0 → c < cn → oc b = nI c → wpX_startCall (fun r u => match u with | (x_objectLimitq, x_stepLimitq, x_depthLimitq, x_pendingCountq, x_keptTokensq, x_keptLinesq, x_lineCountq, x_codeCountq, x_cursorq, x_stopq, x_waitingCountq, x_openCountq, x_classCountq, x_callCountq, x_operandCountq, x_stepsTakenq, x_errorq, x_raisedCodeq, x_printCountq, x_lastResultq, x_lastPlaceq, x_pendingq, x_lineTableq, x_codeq, x_waitingq, x_globalsq, x_entriesq, x_ordersq, x_mergingq, x_letterClassq, x_objectClassq, x_attributesq, x_callsq, x_heldq, x_operandsq, x_lastPrintsq) => ((r = 0 → post (x_objectLimitq, x_stepLimitq, x_depthLimitq, x_pendingCountq, x_keptTokensq, x_keptLinesq, x_lineCountq, x_codeCountq, x_cursorq, x_stopq, x_waitingCountq, x_openCountq, x_classCountq, x_callCountq, x_operandCountq, x_stepsTakenq, x_errorq, x_raisedCodeq, x_printCountq, x_lastResultq, x_lastPlaceq, x_pendingq, x_lineTableq, x_codeq, x_waitingq, x_globalsq, x_entriesq, x_ordersq, x_mergingq, x_letterClassq, x_objectClassq, x_attributesq, x_callsq, x_heldq, x_operandsq, x_lastPrintsq)) ∧ (¬ r = 0 → (vp_in (((x_callCountq - 1) * 6) + 0) 42 ∧ wpX_reach (fun u => match u with | (x_objectLimitw, x_stepLimitw, x_depthLimitw, x_pendingCountw, x_keptTokensw, x_keptLinesw, x_lineCountw, x_codeCountw, x_cursorw, x_stopw, x_waitingCountw, x_openCountw, x_classCountw, x_callCountw, x_operandCountw, x_stepsTakenw, x_errorw, x_raisedCodew, x_printCountw, x_lastResultw, x_lastPlacew, x_pendingw, x_lineTablew, x_codew, x_waitingw, x_globalsw, x_entriesw, x_ordersw, x_mergingw, x_letterClassw, x_objectClassw, x_attributesw, x_callsw, x_heldw, x_operandsw, x_lastPrintsw) => post (x_objectLimitw, x_stepLimitw, x_depthLimitw, x_pendingCountw, x_keptTokensw, x_keptLinesw, x_lineCountw, x_codeCountw, x_cursorw, x_stopw, x_waitingCountw, x_openCountw, x_classCountw, x_callCountw, x_operandCountw, x_stepsTakenw, x_errorw, x_raisedCodew, x_printCountw, x_lastResultw, x_lastPlacew, x_pendingw, x_lineTablew, x_codew, x_waitingw, x_globalsw, x_entriesw, x_ordersw, x_mergingw, x_letterClassw, x_objectClassw, x_attributesw, x_callsw, x_heldw, x_operandsw, x_lastPrintsw)) (x_objectLimitq, x_stepLimitq, x_depthLimitq, x_pendingCountq, x_keptTokensq, x_keptLinesq, x_lineCountq, x_codeCountq, x_cursorq, x_stopq, x_waitingCountq, x_openCountq, x_classCountq, x_callCountq, x_operandCountq, x_stepsTakenq, x_errorq, x_raisedCodeq, x_printCountq, x_lastResultq, x_lastPlaceq, x_pendingq, x_lineTableq, x_codeq, x_waitingq, x_globalsq, x_entriesq, x_ordersq, x_mergingq, x_letterClassq, x_objectClassq, x_attributesq, x_callsq, x_heldq, x_operandsq, x_lastPrintsq) ((x_callsq (((x_callCountq - 1) * 6) + 0).toNatClampNeg) + 1))))) (x_objectLimit, x_stepLimit, x_depthLimit, x_pendingCount, x_keptTokens, x_keptLines, x_lineCount, x_codeCount, x_cursor, x_stop, x_waitingCount, x_openCount, x_classCount, nI (d + 1), nI vt, x_stepsTaken, x_error, x_raisedCode, x_printCount, x_lastResult, x_lastPlace, x_pending, LT, x_code, x_waiting, gl, ex, ox, x_merging, lt, oc, at1, CL, HE, op, x_lastPrints) (hs_oI (hs_sea ex n (ml c))) (nI n) (op (vt - 1 - a)) (nI a) (nI (a + 1))) : wpX_callMethod post (x_objectLimit, x_stepLimit, x_depthLimit, x_pendingCount, x_keptTokens, x_keptLines, x_lineCount, x_codeCount, x_cursor, x_stop, x_waitingCount, x_openCount, x_classCount, nI (d + 1), nI vt, x_stepsTaken, x_error, x_raisedCode, x_printCount, x_lastResult, x_lastPlace, x_pending, LT, x_code, x_waiting, gl, ex, ox, x_merging, lt, oc, at1, CL, HE, op, x_lastPrints) (nI n) (nI a) := by
  obtain ⟨⟨w1, w2⟩, w3, w4, w5, w6, w7, w8, w9, w10⟩ := W
  unfold wpX_callMethod
  refine hs_xOperand hvt h1 ?_
  rcases hs_vvO (hop (vt - 1 - a) (by omega)) with ⟨b, hb⟩ | hb
  · refine hs_xkO hb (br_f (by decide) ?_)
    have b8 := hb.1
    have ei : nI b * 26 + nI n = nI (b * 26 + n) := hs_ixMul b 26 n
    rw [hs_ioL hb, ei, nI_clamp (show b * 26 + n < 2 ^ 31 by omega)]
    refine And.intro (vp_in_nI (by omega) (by decide)) ?_
    by_cases z : at1 (b * 26 + n) = 0
    · obtain ⟨c, c1, c2⟩ := w8 b b8
      obtain ⟨o1, o2, o3, o4⟩ := w10 c c1
      refine br_t z (And.intro (vp_in_nI b8 (by decide)) ?_)
      rw [nI_clamp (show b < 2 ^ 31 by omega), c2]
      refine hs_xSea (k := 0) (l := ml c) (by omega) hn o2 o3 (fun m hm => by have := o4 m hm; omega) (by decide) ?_
      rw [List.drop_zero]
      have y := Hm b c hb z c1 c2
      rw [show nI (a + 1) = nI a + 1 from nI_succ a] at y
      exact y
    · exact br_f z (He (Or.inr ⟨b, hb, z⟩))
  · exact hs_xkNO hb (br_t rfl (He (Or.inl hb)))
theorem hs_xPlace0 {ox : Nat → Int32} {c hm : Nat} {l : List Nat} (hc : c < 11) (hl : l.length ≤ 10) (ho : ∀ k, k < 12 → ox (c * 12 + k) = hs_gi l k) (hm10 : hm < 100) (hl2 : ∀ m, m ∈ l → m < 100) {post : Int32 → Prop} (H1 : ∀ k, k ≤ 12 → l.drop (k + 1) = l.drop (l.idxOf hm + 1) → post (nI k)) :
    ∀ (n k : Nat), k + n = 12 → (∀ j, j < k → l[j]? ≠ some hm) → wX_placeInOrder_2 post (nI c) (nI hm) x_objectLimit x_stepLimit x_depthLimit x_pendingCount x_keptTokens x_keptLines x_lineCount x_codeCount x_cursor x_stop x_waitingCount x_openCount x_classCount x_callCount x_operandCount x_stepsTaken x_error x_raisedCode x_printCount x_lastResult x_lastPlace x_pending x_lineTable x_code x_waiting x_globals x_entries ox x_merging x_letterClass x_objectClass x_attributes x_calls x_held x_operands x_lastPrints (n + 1) (nI k) := by
  intro n
  induction n with
  | zero =>
    intro k hk hb
    refine pk_le 12 k (fun _ => H1 12 (Nat.le_refl _) ?_) (fun z => by omega)
    rw [List.drop_eq_nil_of_le (by omega)]
    have : hm ∉ l := fun hmem => by
      obtain ⟨j, j1, j2⟩ := List.getElem_of_mem hmem
      exact hb j (by omega) (by rw [List.getElem?_eq_getElem j1, j2])
    rw [List.idxOf_eq_length this, List.drop_eq_nil_of_le (by omega)]
  | succ n ih =>
    intro k hk hb
    refine pk_le 12 k (fun z => by omega) (fun z => ?_)
    have ei : nI c * 12 + nI k = nI (c * 12 + k) := hs_ixMul c 12 k
    rw [ei, nI_clamp (show c * 12 + k < 2 ^ 31 by omega), ho k z]
    refine And.intro (vp_in_nI (by omega) (by decide)) ?_
    by_cases e : l[k]? = some hm
    · have eg : hs_gi l k = nI hm := by unfold hs_gi; rw [e]
      refine br_t eg (H1 k (by omega) ?_)
      have kl : k < l.length := by
        rcases Nat.lt_or_ge k l.length with q | q
        · exact q
        · rw [List.getElem?_eq_none q] at e; cases e
      have ek : l.idxOf hm = k := by
        have e2 : l[k] = hm := by rw [List.getElem?_eq_getElem kl] at e; exact Option.some.inj e
        apply Nat.le_antisymm
        · rcases Nat.lt_or_ge k (l.idxOf hm) with q | q
          · have := List.not_of_lt_findIdx (p := fun x => x == hm) (xs := l) (i := k) q
            simp [e2] at this
          · exact q
        · rcases Nat.lt_or_ge (l.idxOf hm) k with q | q
          · exact absurd (by rw [List.getElem?_eq_getElem (show l.idxOf hm < l.length by omega), List.getElem_idxOf]) (hb _ q)
          · exact q
      rw [ek]
    · refine br_f ?_ (nm_r (nI_add k 1) (ih (k + 1) (by omega) (fun j hj => ?_)))
      · unfold hs_gi
        cases el : l[k]? with
        | none => exact fun y => hs_neM1 (by omega) y.symm
        | some m =>
          have := hl2 m (List.mem_of_getElem? el)
          exact hs_ne (fun y => e (by rw [el, y])) (by omega) (by omega)
      · by_cases q : j = k
        · rw [q]; exact e
        · exact hb j (by omega)
end
