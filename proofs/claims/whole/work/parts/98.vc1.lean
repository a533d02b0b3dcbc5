/-! the constructor: the host's text on both sides -/
section
variable {x_objectLimit x_stepLimit x_depthLimit x_pendingCount x_keptTokens x_keptLines x_lineCount x_codeCount x_cursor x_stop x_waitingCount x_openCount x_classCount x_callCount x_operandCount x_stepsTaken x_error x_raisedCode x_printCount x_lastPlace : Int32} {x_lastResult : Int64} {x_pending x_lineTable x_orders x_merging x_letterClass x_objectClass x_calls x_lastPrints : Nat → Int32} {x_code x_waiting x_globals x_entries x_attributes x_held x_operands : Nat → Int64}
variable {y_maxObjects y_maxSteps y_maxDepth y_kept y_end y_tokens y_pending y_lines y_classes y_prints y_place y_steps y_d y_valTop y_opTop y_opens y_pos y_tk y_tv y_stmt y_target y_err y_code y_outcome y_dry y_want y_starting y_ended y_bad y_hosted y_sawSuper : Int32} {y_result : Int64} {y_text y_numbers y_classOf y_alive y_orders y_lengths y_letters y_bases y_ops y_fLine y_fPos y_fStmt y_fTarget y_fMask y_fHome y_fOps y_fVals y_fNew y_out : Nat → Int32} {y_globals y_entries y_attrs y_vals y_locals y_fRecv : Nat → Int64}
variable {tx nu LT : Nat → Int32} {cd : Nat → Int64} {lc kp cc : Nat} {P ind h : Nat → Nat} {tk : Nat → List Nat} {ca cb us ue : Nat → Nat} {yk yen yto ype yli : Int32} {mo mS mD : Nat} {ho : Bool}
variable {s d vt cn : Nat} {ml : Nat → List Nat} {gl ex at1 HE op : Nat → Int64} {ox oc lt lp CL mg : Nat → Int32} {pc rc : Int32} {fl dl vb ob : Nat → Nat} {ts st : Nat → List Nat} {M : Nat}
theorem hs_xPut4 {pd : Nat → Int32} {pn : Nat} {a b c e : Int32} (hp : pn + 4 ≤ 400) (na : a ≠ 0) (nb : b ≠ 0) (nc : c ≠ 0) (ne : e ≠ 0) {post : Int32 → SX → Prop} (H : ∀ r, post r (x_objectLimit, x_stepLimit, x_depthLimit, nI (pn + 1 + 1 + 1 + 1), nI 0, x_keptLines, x_lineCount, x_codeCount, x_cursor, x_stop, x_waitingCount, x_openCount, x_classCount, x_callCount, x_operandCount, x_stepsTaken, x_error, x_raisedCode, x_printCount, x_lastResult, x_lastPlace, upd (upd (upd (upd pd pn a) (pn + 1) b) (pn + 1 + 1) c) (pn + 1 + 1 + 1) e, x_lineTable, x_code, x_waiting, x_globals, x_entries, x_orders, x_merging, x_letterClass, x_objectClass, x_attributes, x_calls, x_held, x_operands, x_lastPrints)) : wpX_put post (x_objectLimit, x_stepLimit, x_depthLimit, nI pn, nI 0, x_keptLines, x_lineCount, x_codeCount, x_cursor, x_stop, x_waitingCount, x_openCount, x_classCount, x_callCount, x_operandCount, x_stepsTaken, x_error, x_raisedCode, x_printCount, x_lastResult, x_lastPlace, pd, x_lineTable, x_code, x_waiting, x_globals, x_entries, x_orders, x_merging, x_letterClass, x_objectClass, x_attributes, x_calls, x_held, x_operands, x_lastPrints) a b c e := by
  have ea : hs_nz a = 1 := if_neg na
  have eb : hs_nz b = 1 := if_neg nb
  have ec : hs_nz c = 1 := if_neg nc
  have ed : hs_nz e = 1 := if_neg ne
  refine hs_xPut (by omega) (fun _ => ?_) (fun z => by omega)
  have h4 : hs_ap4 pd pn a b c e = upd (upd (upd (upd pd pn a) (pn + 1) b) (pn + 1 + 1) c) (pn + 1 + 1 + 1) e := by
    unfold hs_ap4 hs_apd
    rw [if_neg na, if_neg nb, if_neg nc, if_neg ne, ea, eb, ec]
  rw [h4, ea, eb, ec, ed]
  exact H _
theorem hs_xPut3 {pd : Nat → Int32} {pn : Nat} {a b c : Int32} (hp : pn + 3 ≤ 400) (na : a ≠ 0) (nb : b ≠ 0) (nc : c ≠ 0) {post : Int32 → SX → Prop} (H : ∀ r, post r (x_objectLimit, x_stepLimit, x_depthLimit, nI (pn + 1 + 1 + 1), nI 0, x_keptLines, x_lineCount, x_codeCount, x_cursor, x_stop, x_waitingCount, x_openCount, x_classCount, x_callCount, x_operandCount, x_stepsTaken, x_error, x_raisedCode, x_printCount, x_lastResult, x_lastPlace, upd (upd (upd pd pn a) (pn + 1) b) (pn + 1 + 1) c, x_lineTable, x_code, x_waiting, x_globals, x_entries, x_orders, x_merging, x_letterClass, x_objectClass, x_attributes, x_calls, x_held, x_operands, x_lastPrints)) : wpX_put post (x_objectLimit, x_stepLimit, x_depthLimit, nI pn, nI 0, x_keptLines, x_lineCount, x_codeCount, x_cursor, x_stop, x_waitingCount, x_openCount, x_classCount, x_callCount, x_operandCount, x_stepsTaken, x_error, x_raisedCode, x_printCount, x_lastResult, x_lastPlace, pd, x_lineTable, x_code, x_waiting, x_globals, x_entries, x_orders, x_merging, x_letterClass, x_objectClass, x_attributes, x_calls, x_held, x_operands, x_lastPrints) a b c 0 := by
  have ea : hs_nz a = 1 := if_neg na
  have eb : hs_nz b = 1 := if_neg nb
  have ec : hs_nz c = 1 := if_neg nc
  have ed : hs_nz 0 = 0 := if_pos rfl
  refine hs_xPut (by omega) (fun _ => ?_) (fun z => by omega)
  have h4 : hs_ap4 pd pn a b c 0 = upd (upd (upd pd pn a) (pn + 1) b) (pn + 1 + 1) c := by
    unfold hs_ap4 hs_apd
    rw [if_neg na, if_neg nb, if_neg nc, if_pos rfl, ea, eb]
  rw [h4, ea, eb, ec, ed]
  exact H _
/-- the pending tokens of the host's text -/
def hs_wr4 : (Nat → Int32) → Nat → List Nat → Nat → Int32
  | pd, _, [] => pd
  | pd, e, t :: r => hs_wr4 (upd pd e (nI t)) (e + 1) r
def hs_pdH : Nat → Int32 := hs_wr4 (fun _ => 0) 0 hs_hT
def hs_txH : Nat → Int32 := upd (hs_wr5 (hs_wr5 (hs_wr5 (hs_wr5 (hs_wr5 (hs_wr5 (hs_wr5 (hs_wr5 (hs_wr5 (fun _ => 0) 0 [1, 153, 25, 41, 2]) 5 [107, 21, 118, 23, 123]) 10 [22, 25, 42, 3, 123]) 15 [31, 1002, 41, 2, 119]) 20 [21, 118, 23, 123, 22]) 25 [25, 42, 3, 118, 24]) 30 [107, 21, 123, 22, 30]) 35 [118, 24, 107, 21, 123]) 40 [30, 1001, 22]) 43 (-1)
theorem hs_xHost {post : SX → Prop} (H : post (x_objectLimit, x_stepLimit, x_depthLimit, nI 43, nI 0, x_keptLines, x_lineCount, x_codeCount, x_cursor, x_stop, x_waitingCount, x_openCount, x_classCount, x_callCount, x_operandCount, x_stepsTaken, x_error, x_raisedCode, x_printCount, x_lastResult, x_lastPlace, hs_pdH, x_lineTable, x_code, x_waiting, x_globals, x_entries, x_orders, x_merging, x_letterClass, x_objectClass, x_attributes, x_calls, x_held, x_operands, x_lastPrints)) : wpX_putHostText post (x_objectLimit, x_stepLimit, x_depthLimit, 0, 0, x_keptLines, x_lineCount, x_codeCount, x_cursor, x_stop, x_waitingCount, x_openCount, x_classCount, x_callCount, x_operandCount, x_stepsTaken, x_error, x_raisedCode, x_printCount, x_lastResult, x_lastPlace, (fun _ ↦ 0), x_lineTable, x_code, x_waiting, x_globals, x_entries, x_orders, x_merging, x_letterClass, x_objectClass, x_attributes, x_calls, x_held, x_operands, x_lastPrints) :=
  hs_xPut4 (pn := 0) (by omega) (by decide) (by decide) (by decide) (by decide) (fun _ => hs_xPut4 (pn := 4) (by omega) (by decide) (by decide) (by decide) (by decide) (fun _ => hs_xPut4 (pn := 8) (by omega) (by decide) (by decide) (by decide) (by decide) (fun _ => hs_xPut4 (pn := 12) (by omega) (by decide) (by decide) (by decide) (by decide) (fun _ => hs_xPut4 (pn := 16) (by omega) (by decide) (by decide) (by decide) (by decide) (fun _ => hs_xPut4 (pn := 20) (by omega) (by decide) (by decide) (by decide) (by decide) (fun _ => hs_xPut4 (pn := 24) (by omega) (by decide) (by decide) (by decide) (by decide) (fun _ => hs_xPut4 (pn := 28) (by omega) (by decide) (by decide) (by decide) (by decide) (fun _ => hs_xPut4 (pn := 32) (by omega) (by decide) (by decide) (by decide) (by decide) (fun _ => hs_xPut4 (pn := 36) (by omega) (by decide) (by decide) (by decide) (by decide) (fun _ => hs_xPut3 (pn := 40) (by omega) (by decide) (by decide) (by decide) (fun _ => H)))))))))))
theorem hs_goodH : ∀ p, p < 43 → hs_pdH p ≠ 0 ∧ hs_txH (0 + p) = hs_pdH p ∧ ((1 ≤ hs_pdH p ∧ hs_pdH p ≤ 13) ∨ (21 ≤ hs_pdH p ∧ hs_pdH p ≤ 32) ∨ (40 ≤ hs_pdH p ∧ hs_pdH p ≤ 48) ∨ (100 ≤ hs_pdH p ∧ hs_pdH p ≤ 125) ∨ (130 ≤ hs_pdH p ∧ hs_pdH p ≤ 155) ∨ 1000 ≤ hs_pdH p) := by decide +kernel
theorem hs_PDH : hs_PD hs_txH hs_pdH 0 43 := fun p hp => ⟨(hs_goodH p hp).1, by rw [hs_normT (hs_goodH p hp).2.2]; exact (hs_goodH p hp).2.1⟩
theorem hs_hostS : ∀ p, p < 43 → ((¬ (hs_g hs_txH p = 0 ∨ (40 ≤ hs_g hs_txH p ∧ hs_g hs_txH p ≤ 48)) ∧ (p = 0 ∨ (hs_g hs_txH (p - 1) = 0 ∨ (40 ≤ hs_g hs_txH (p - 1) ∧ hs_g hs_txH (p - 1) ≤ 48)))) ↔ (p = 0 ∨ p = 4 ∨ p = 13 ∨ p = 18 ∨ p = 27)) := by decide +kernel
theorem hs_hostTA : ∀ i, i < 5 → hs_TAb hs_txH (hs_PH i) (hs_tkH i) = true := by decide +kernel
theorem hs_hostInd : ∀ i, i < 5 → hs_ind hs_txH 0 (hs_PH i) = hs_iH i := by decide +kernel
theorem hs_hostD : hs_dcB 565767872024577 [1, 153, 25, 41, 2] = true ∧ hs_dcB 34623004663173227 [107, 21, 118, 23, 123] = true ∧ hs_dcB 34621628998586390 [22, 25, 42, 3, 123] = true ∧ hs_dcB 33495660359491615 [31, 1002, 41, 2, 119] = true ∧ hs_dcB 6200902369632277 [21, 118, 23, 123, 22] = true ∧ hs_dcB 6763508389814297 [25, 42, 3, 118, 24] = true ∧ hs_dcB 8445763193491563 [107, 21, 123, 22, 30] = true ∧ hs_dcB 34622867039682678 [118, 24, 107, 21, 123] = true ∧ hs_dcB 373198878 [30, 1001, 22] = true := by decide +kernel
/-- the table of the host's lines, by concrete names -/
theorem hs_hostT {b cc9 : Nat} {P ind h : Nat → Nat} {tk : Nat → List Nat} {LT nu : Nat → Int32} {cd : Nat → Int64} (C : hs_Ch hs_txH 0 43 0 b P ind) (K : hs_TK hs_txH 0 b P h tk) (hcc : cc9 ≤ 43) (LN : ∀ j, 0 ≤ j → j < b → hs_LN LT cd ind tk 0 b cc9 j ∧ LT (j * 14 + 2) = nI (0 + (hs_nE hs_txH 0 (P j) + 1))) (hnu : ∀ j, j < 5 → nu (hs_PH j) = LT (j * 14 + 2)) :
    hs_T hs_txH nu LT cd 5 44 cc9 hs_PH hs_iH hs_hH hs_tkH (fun _ => 0) (fun _ => 5) (fun _ => 0) (fun _ => 43) := by
  obtain ⟨rfl, hP, S⟩ := hs_hostL hs_hostS hs_hostTA hs_hostInd C K
  have S' := hs_smS S
  refine ⟨by omega, by omega, by omega, fun j hj => ⟨Nat.zero_le _, hj, Nat.le_refl 5, fun _ _ _ => ⟨rfl, rfl⟩, (show 43 < 44 by omega), hs_ChC C (fun _ _ => rfl) (show 0 ≤ 43 + 1 by omega) (fun i i1 i2 => ⟨hP i i2, ((S i i1 i2).1).symm⟩), fun i i1 i2 => ?_, hs_LNC S' (Nat.zero_le _) hj (fun _ _ _ => rfl) (fun _ _ => rfl) (Nat.le_refl _) (LN j (Nat.zero_le _) hj).1, hs_hostLok j hj, hs_hostEok, hnu j hj⟩⟩
  obtain ⟨g1, g2, g3, g4⟩ := K i i1 i2
  rw [hP i i2] at g1
  have s3 := (S i i1 i2).2.2
  rw [← s3] at g1 g2 g3
  exact ⟨g1, g2, g3, rfl⟩
end
