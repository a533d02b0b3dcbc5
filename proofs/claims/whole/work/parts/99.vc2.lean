/-! the constructor: three steps on both sides -/
section
variable {x_objectLimit x_stepLimit x_depthLimit x_pendingCount x_keptTokens x_keptLines x_lineCount x_codeCount x_cursor x_stop x_waitingCount x_openCount x_classCount x_callCount x_operandCount x_stepsTaken x_error x_raisedCode x_printCount x_lastPlace : Int32} {x_lastResult : Int64} {x_pending x_lineTable x_orders x_merging x_letterClass x_objectClass x_calls x_lastPrints : Nat → Int32} {x_code x_waiting x_globals x_entries x_attributes x_held x_operands : Nat → Int64}
variable {y_maxObjects y_maxSteps y_maxDepth y_kept y_end y_tokens y_pending y_lines y_classes y_prints y_place y_steps y_d y_valTop y_opTop y_opens y_pos y_tk y_tv y_stmt y_target y_err y_code y_outcome y_dry y_want y_starting y_ended y_bad y_hosted y_sawSuper : Int32} {y_result : Int64} {y_text y_numbers y_classOf y_alive y_orders y_lengths y_letters y_bases y_ops y_fLine y_fPos y_fStmt y_fTarget y_fMask y_fHome y_fOps y_fVals y_fNew y_out : Nat → Int32} {y_globals y_entries y_attrs y_vals y_locals y_fRecv : Nat → Int64}
variable {tx nu LT : Nat → Int32} {cd : Nat → Int64} {lc kp cc : Nat} {P ind h : Nat → Nat} {tk : Nat → List Nat} {ca cb us ue : Nat → Nat} {yk yen yto ype yli : Int32} {mo mS mD : Nat} {ho : Bool}
variable {s d vt cn : Nat} {ml : Nat → List Nat} {gl ex at1 HE op : Nat → Int64} {ox oc lt lp CL mg : Nat → Int32} {pc rc : Int32} {fl dl vb ob : Nat → Nat} {ts st : Nat → List Nat} {M : Nat}
variable {l i9 n9 c9 : Nat}
/-- a line without code, at the top -/
theorem hs_xT0 {post : SX → Prop} (hi : i9 < 999999) (hl : l < 405) (h9 : LT (l * 14 + 9) = nI c9) (h10 : LT (l * 14 + 10) = nI c9) (hc : c9 ≤ 443) (H : wpX_finishLine (fun u => match u with | (x_objectLimitq, x_stepLimitq, x_depthLimitq, x_pendingCountq, x_keptTokensq, x_keptLinesq, x_lineCountq, x_codeCountq, x_cursorq, x_stopq, x_waitingCountq, x_openCountq, x_classCountq, x_callCountq, x_operandCountq, x_stepsTakenq, x_errorq, x_raisedCodeq, x_printCountq, x_lastResultq, x_lastPlaceq, x_pendingq, x_lineTableq, x_codeq, x_waitingq, x_globalsq, x_entriesq, x_ordersq, x_mergingq, x_letterClassq, x_objectClassq, x_attributesq, x_callsq, x_heldq, x_operandsq, x_lastPrintsq) => hs_lXn post n9 i9 (x_objectLimitq, x_stepLimitq, x_depthLimitq, x_pendingCountq, x_keptTokensq, x_keptLinesq, x_lineCountq, x_codeCountq, x_cursorq, x_stopq, x_waitingCountq, x_openCountq, x_classCountq, x_callCountq, x_operandCountq, x_stepsTakenq, x_errorq, x_raisedCodeq, x_printCountq, x_lastResultq, x_lastPlaceq, x_pendingq, x_lineTableq, x_codeq, x_waitingq, x_globalsq, x_entriesq, x_ordersq, x_mergingq, x_letterClassq, x_objectClassq, x_attributesq, x_callsq, x_heldq, x_operandsq, x_lastPrintsq)) (x_objectLimit, x_stepLimit, x_depthLimit, x_pendingCount, x_keptTokens, x_keptLines, x_lineCount, x_codeCount, x_cursor, x_stop, x_waitingCount, x_openCount, x_classCount, nI (0 + 1), x_operandCount, x_stepsTaken, 0, x_raisedCode, x_printCount, x_lastResult, x_lastPlace, x_pending, LT, x_code, x_waiting, x_globals, x_entries, x_orders, x_merging, x_letterClass, x_objectClass, x_attributes, hs_CR LT CL 0 l, x_held, x_operands, x_lastPrints) (nI l)) : hs_lX post (n9 + 1) (nI i9) (x_objectLimit, x_stepLimit, x_depthLimit, x_pendingCount, x_keptTokens, x_keptLines, x_lineCount, x_codeCount, x_cursor, x_stop, x_waitingCount, x_openCount, x_classCount, nI (0 + 1), x_operandCount, x_stepsTaken, 0, x_raisedCode, x_printCount, x_lastResult, x_lastPlace, x_pending, LT, x_code, x_waiting, x_globals, x_entries, x_orders, x_merging, x_letterClass, x_objectClass, x_attributes, hs_CR LT CL 0 l, x_held, x_operands, x_lastPrints) := by
  have k2 : hs_CR LT CL 0 l 2 = nI l := by
    unfold hs_CR
    rw [pk_un (by decide)]; exact pk_us
  have k3 : hs_CR LT CL 0 l 3 = nI c9 := by
    unfold hs_CR
    rw [← h9]; exact pk_us
  have e14 : nI l * 14 + 10 = nI (l * 14 + 10) := hs_ixMul l 14 10
  refine br_f (nI_ge (b := 1000000) (by omega) (by decide)) (nm_r (show (nI (0 + 1) - 1) * 6 = 0 by decide) (And.intro (pk_in 2 42 (by omega) (by decide)) (nm_r (show hs_CR LT CL 0 l ((0 : Int32) + 2).toNatClampNeg = nI l from k2) (br_t rfl (br_f (hs_neM1 (by omega)) (And.intro (pk_in 3 42 (by omega) (by decide)) (nm_r (show hs_CR LT CL 0 l ((0 : Int32) + 3).toNatClampNeg = nI c9 from k3) ?_)))))))
  rw [e14, nI_clamp (show l * 14 + 10 < 2 ^ 31 by omega), h10]
  exact And.intro (vp_in_nI (by omega) (by decide)) (br_t (nI_le (Nat.le_refl _) (by omega)) H)
/-- a def line, on the component's side -/
theorem hs_xDef0 {post : SX → Prop} {f : Nat} (hl : l < 405) (hk : LT (l * 14) = 2) (hf : LT (l * 14 + 5) = nI f) (f26 : f < 26) (H : wpX_goOn (fun u => match u with | (x_objectLimitq, x_stepLimitq, x_depthLimitq, x_pendingCountq, x_keptTokensq, x_keptLinesq, x_lineCountq, x_codeCountq, x_cursorq, x_stopq, x_waitingCountq, x_openCountq, x_classCountq, x_callCountq, x_operandCountq, x_stepsTakenq, x_errorq, x_raisedCodeq, x_printCountq, x_lastResultq, x_lastPlaceq, x_pendingq, x_lineTableq, x_codeq, x_waitingq, x_globalsq, x_entriesq, x_ordersq, x_mergingq, x_letterClassq, x_objectClassq, x_attributesq, x_callsq, x_heldq, x_operandsq, x_lastPrintsq) => post (x_objectLimitq, x_stepLimitq, x_depthLimitq, x_pendingCountq, x_keptTokensq, x_keptLinesq, x_lineCountq, x_codeCountq, x_cursorq, x_stopq, x_waitingCountq, x_openCountq, x_classCountq, x_callCountq, x_operandCountq, x_stepsTakenq, x_errorq, x_raisedCodeq, x_printCountq, x_lastResultq, x_lastPlaceq, x_pendingq, x_lineTableq, x_codeq, x_waitingq, x_globalsq, x_entriesq, x_ordersq, x_mergingq, x_letterClassq, x_objectClassq, x_attributesq, x_callsq, x_heldq, x_operandsq, x_lastPrintsq)) (x_objectLimit, x_stepLimit, x_depthLimit, x_pendingCount, x_keptTokens, x_keptLines, x_lineCount, x_codeCount, x_cursor, x_stop, x_waitingCount, x_openCount, nI (0 + 1), x_callCount, x_operandCount, x_stepsTaken, 0, x_raisedCode, x_printCount, x_lastResult, x_lastPlace, x_pending, LT, x_code, x_waiting, x_globals, vp_updL ex f (lN (17179869184 + l)), x_orders, x_merging, x_letterClass, x_objectClass, x_attributes, x_calls, x_held, x_operands, x_lastPrints) (nI l)) : wpX_finishLine (fun u => match u with | (x_objectLimitq, x_stepLimitq, x_depthLimitq, x_pendingCountq, x_keptTokensq, x_keptLinesq, x_lineCountq, x_codeCountq, x_cursorq, x_stopq, x_waitingCountq, x_openCountq, x_classCountq, x_callCountq, x_operandCountq, x_stepsTakenq, x_errorq, x_raisedCodeq, x_printCountq, x_lastResultq, x_lastPlaceq, x_pendingq, x_lineTableq, x_codeq, x_waitingq, x_globalsq, x_entriesq, x_ordersq, x_mergingq, x_letterClassq, x_objectClassq, x_attributesq, x_callsq, x_heldq, x_operandsq, x_lastPrintsq) => post (x_objectLimitq, x_stepLimitq, x_depthLimitq, x_pendingCountq, x_keptTokensq, x_keptLinesq, x_lineCountq, x_codeCountq, x_cursorq, x_stopq, x_waitingCountq, x_openCountq, x_classCountq, x_callCountq, x_operandCountq, x_stepsTakenq, x_errorq, x_raisedCodeq, x_printCountq, x_lastResultq, x_lastPlaceq, x_pendingq, x_lineTableq, x_codeq, x_waitingq, x_globalsq, x_entriesq, x_ordersq, x_mergingq, x_letterClassq, x_objectClassq, x_attributesq, x_callsq, x_heldq, x_operandsq, x_lastPrintsq)) (x_objectLimit, x_stepLimit, x_depthLimit, x_pendingCount, x_keptTokens, x_keptLines, x_lineCount, x_codeCount, x_cursor, x_stop, x_waitingCount, x_openCount, nI (0 + 1), x_callCount, x_operandCount, x_stepsTaken, 0, x_raisedCode, x_printCount, x_lastResult, x_lastPlace, x_pending, LT, x_code, x_waiting, x_globals, ex, x_orders, x_merging, x_letterClass, x_objectClass, x_attributes, x_calls, x_held, x_operands, x_lastPrints) (nI l) := by
  have e5 : nI (l * 14) + 5 = nI (l * 14 + 5) := nI_add _ 5
  have ec : (nI (0 + 1) - 1) * 26 + nI f = nI f := by
    rw [show (nI (0 + 1) - 1) * 26 = nI 0 by decide, nI_add, Nat.zero_add]
  refine nm_r (pk_mul l 14) ?_
  rw [Int32.add_zero, nI_clamp (show l * 14 < 2 ^ 31 by omega), e5, nI_clamp (show l * 14 + 5 < 2 ^ 31 by omega), hf, hs_metN (by omega)]
  refine And.intro (vp_in_nI (by omega) (by decide)) (nm_r hk (br_f (by decide) (br_f (by decide) (br_f (by decide) (br_t rfl (And.intro (vp_in_nI (by omega) (by decide)) ?_))))))
  show (nI (0 + 1) ≤ 0 → _) ∧ _
  refine br_f (by decide) ?_
  rw [ec, nI_clamp (show f < 2 ^ 31 by omega)]
  refine And.intro (vp_in_nI (by omega) (by decide)) (nm_e ?_)
  unfold wX_finishLine_144
  exact br_t rfl H
theorem hs_xForget {LT0 : Nat → Int32} {post : SX → Prop} (H : ∀ LT', (∀ j, j < 5 → LT' (j * 14 + 2) = 0) → (∀ k, (∀ j, j < 5 → k ≠ j * 14 + 2) → LT' k = LT0 k) → post (x_objectLimit, x_stepLimit, x_depthLimit, x_pendingCount, 0, 0, nI 5, x_codeCount, x_cursor, x_stop, x_waitingCount, x_openCount, x_classCount, x_callCount, x_operandCount, x_stepsTaken, x_error, x_raisedCode, x_printCount, x_lastResult, x_lastPlace, x_pending, LT', x_code, x_waiting, x_globals, x_entries, x_orders, x_merging, x_letterClass, x_objectClass, x_attributes, x_calls, x_held, x_operands, x_lastPrints)) :
    ∀ (n i : Nat) (LT : Nat → Int32), i + n = 5 → (∀ j, j < i → LT (j * 14 + 2) = 0) → (∀ k, (∀ j, j < 5 → k ≠ j * 14 + 2) → LT k = LT0 k) → wX_forgetHostText_12 post x_objectLimit x_stepLimit x_depthLimit x_pendingCount 0 0 (nI 5) x_codeCount x_cursor x_stop x_waitingCount x_openCount x_classCount x_callCount x_operandCount x_stepsTaken x_error x_raisedCode x_printCount x_lastResult x_lastPlace (n + 1) (nI i) x_pending LT x_code x_waiting x_globals x_entries x_orders x_merging x_letterClass x_objectClass x_attributes x_calls x_held x_operands x_lastPrints := by
  intro n
  induction n with
  | zero =>
    intro i LT hi h1 h2
    exact br_t (nI_le (by omega) (by omega)) (H LT (fun j hj => h1 j (by omega)) h2)
  | succ n ih =>
    intro i LT hi h1 h2
    have e2 : nI i * 14 + 2 = nI (i * 14 + 2) := hs_ixMul i 14 2
    refine br_f (nI_ge (by omega) (by omega)) ?_
    rw [e2, nI_clamp (show i * 14 + 2 < 2 ^ 31 by omega)]
    refine And.intro (vp_in_nI (by omega) (by decide)) (nm_e (nm_r (nI_1 i) (ih (i + 1) _ (by omega) (fun j hj => ?_) (fun k hk => ?_))))
    · by_cases z : j = i
      · subst z; exact pk_us
      · rw [pk_un (by omega)]; exact h1 j (by omega)
    · rw [pk_un (hk i (by omega))]; exact h2 k hk
/-- the numbers are no part of a line's row -/
theorem hs_LN2 {LT' : Nat → Int32} {a b mx j : Nat} (e : ∀ k, (∀ j, j < 5 → k ≠ j * 14 + 2) → LT' k = LT k) (hj : j < 5) (H : hs_LN LT cd ind tk a b mx j) : hs_LN LT' cd ind tk a b mx j := by
  have g : ∀ c, c < 14 → c ≠ 2 → LT' (j * 14 + c) = LT (j * 14 + c) := fun c c1 c2 => e _ (fun j' hj' => by omega)
  have g0 : LT' (j * 14) = LT (j * 14) := g 0 (by omega) (by omega)
  obtain ⟨n1, n2, n3, n4, e9, c0, n5, n6, n7, n8, n9⟩ := H
  refine ⟨by rw [g 1 (by omega) (by omega)]; exact n1, by rw [g 3 (by omega) (by omega)]; exact n2, by rw [g 4 (by omega) (by omega)]; exact n3, fun z => ?_, e9, c0, by rw [g 9 (by omega) (by omega)]; exact n5, by rw [g 10 (by omega) (by omega)]; exact n6, n7, n8, by rw [g0, g 5 (by omega) (by omega), g 6 (by omega) (by omega), g 7 (by omega) (by omega)]; exact n9⟩
  rw [g0] at z
  rw [g 8 (by omega) (by omega)]; exact n4 z
end
