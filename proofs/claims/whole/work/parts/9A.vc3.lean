/-! the constructor whole -/
section
variable {x_objectLimit x_stepLimit x_depthLimit x_pendingCount x_keptTokens x_keptLines x_lineCount x_codeCount x_cursor x_stop x_waitingCount x_openCount x_classCount x_callCount x_operandCount x_stepsTaken x_error x_raisedCode x_printCount x_lastPlace : Int32} {x_lastResult : Int64} {x_pending x_lineTable x_orders x_merging x_letterClass x_objectClass x_calls x_lastPrints : Nat → Int32} {x_code x_waiting x_globals x_entries x_attributes x_held x_operands : Nat → Int64}
variable {y_maxObjects y_maxSteps y_maxDepth y_kept y_end y_tokens y_pending y_lines y_classes y_prints y_place y_steps y_d y_valTop y_opTop y_opens y_pos y_tk y_tv y_stmt y_target y_err y_code y_outcome y_dry y_want y_starting y_ended y_bad y_hosted y_sawSuper : Int32} {y_result : Int64} {y_text y_numbers y_classOf y_alive y_orders y_lengths y_letters y_bases y_ops y_fLine y_fPos y_fStmt y_fTarget y_fMask y_fHome y_fOps y_fVals y_fNew y_out : Nat → Int32} {y_globals y_entries y_attrs y_vals y_locals y_fRecv : Nat → Int64}
variable {tx nu LT : Nat → Int32} {cd : Nat → Int64} {lc kp cc : Nat} {P ind h : Nat → Nat} {tk : Nat → List Nat} {ca cb us ue : Nat → Nat} {yk yen yto ype yli : Int32} {mo mS mD : Nat} {ho : Bool}
variable {s d vt cn : Nat} {ml : Nat → List Nat} {gl ex at1 HE op : Nat → Int64} {ox oc lt lp CL mg : Nat → Int32} {pc rc : Int32} {fl dl vb ob : Nat → Nat} {ts st : Nat → List Nat} {M : Nat}
variable {nu9 LT9 : Nat → Int32} {cd9 : Nat → Int64} {cc9 : Nat}
def hs_exH : Nat → Int64 := vp_updL (vp_updL (fun _ ↦ 0) (0 * 26 + 7) (lN (17179869184 + 1))) (0 * 26 + 19) (lN (17179869184 + 3))
def hs_ltH : Nat → Int32 := upd (hs_l26 26) 23 (nI 0)
theorem hs_EEH {df : Nat → Prop} (d1 : df 1) (d3 : df 3) : hs_EE hs_PH df hs_exH (vp_updL (vp_updL (fun _ ↦ 0) (0 * 26 + 7) (lN (17179869184 + (0 * 4096 + hs_PH 1)))) (0 * 26 + 19) (lN (17179869184 + (0 * 4096 + hs_PH 3)))) := by
  refine hs_EEupd (hs_EEupd (fun c n _ _ => Or.inl ⟨rfl, Or.inl rfl⟩) (by omega) (Or.inr ⟨1, d1, by omega, by decide, rfl, rfl⟩)) (by omega) (Or.inr ⟨3, d3, by omega, by decide, rfl, rfl⟩)
theorem hs_yGo0 {Q : SY → Prop} {fl0 : Nat → Int32} (m20 : 20 ≤ mS) (m200 : mS ≤ 200) (T : hs_T hs_txH nu9 LT9 cd9 5 44 cc9 hs_PH hs_iH hs_hH hs_tkH (fun _ => 0) (fun _ => 5) (fun _ => 0) (fun _ => 43)) (hf : fl0 0 = nI (hs_PH 0))
    (H : ∀ (oy le ba fLi : Nat → Int32) (q1 q2 q3 q4 q5 s9 : Int32), hs_OY 1 (fun _ => [0]) oy le → Q (y_maxObjects, nI mS, y_maxDepth, y_kept, y_end, y_tokens, y_pending, y_lines, nI (0 + 1), y_prints, 0, s9, 0, 0, 0, y_opens, q1, q2, q3, q4, y_target, 0, y_code, 0, 0, y_dry, q5, 1, 1, y_bad, y_hosted, y_sawSuper, hs_txH, y_numbers, y_globals, vp_updL (vp_updL (fun _ ↦ 0) (0 * 26 + 7) (lN (17179869184 + (0 * 4096 + hs_PH 1)))) (0 * 26 + 19) (lN (17179869184 + (0 * 4096 + hs_PH 3))), y_attrs, y_classOf, y_alive, oy, le, hs_ltH, ba, y_vals, y_ops, y_locals, y_fRecv, fLi, y_fPos, y_fStmt, y_fTarget, y_fMask, y_fHome, y_fOps, y_fVals, y_fNew, y_out)) :
    wY_go_32 Q 5 0 y_maxObjects (nI mS) y_maxDepth y_kept y_end y_tokens y_pending y_lines (nI 0) y_prints 0 (nI 0) (nI 0) y_valTop y_opTop y_opens y_pos y_tk y_tv y_stmt y_target 0 y_code 0 0 y_dry y_want 1 0 y_bad y_hosted y_sawSuper hs_txH y_numbers y_globals (fun _ ↦ 0) y_attrs y_classOf y_alive y_orders y_lengths (hs_l26 26) y_bases y_vals y_ops y_locals y_fRecv fl0 y_fPos y_fStmt y_fTarget y_fMask y_fHome y_fOps y_fVals y_fNew y_out := by
  obtain ⟨t1, t2, t3, t4, t5, C, K, _⟩ := T.2.2.2 0 (by omega)
  have TA0 : hs_TA hs_txH (hs_PH 0) (1 :: [153, 25]) := (K 0 (Nat.le_refl _) (show 0 < 5 by omega)).1
  have TA1 : hs_TA hs_txH (hs_PH 1) (2 :: [107, 21, 118, 23, 123, 22, 25]) := (K 1 (Nat.zero_le _) (show 1 < 5 by omega)).1
  have TA3 : hs_TA hs_txH (hs_PH 3) (2 :: [119, 21, 118, 23, 123, 22, 25]) := (K 3 (Nat.zero_le _) (show 3 < 5 by omega)).1
  refine br_f (by decide) (br_t rfl (br_f (by decide) (hs_yReach (d := 0) (s := 0) (P := hs_PH) (l := 0) (by omega) (by omega) m200 (by decide) hf (hs_yHeadW TA0 (by omega) (br_f (by decide) (br_f (by decide) (br_t rfl ?_)))))))
  refine hs_yClsM (qs := []) (p := hs_PH 0) (f := 23) (cn := 0) (ml := fun _ => []) (by simp) (by decide) (by decide) (by omega) (Or.inl ⟨rfl, by decide⟩) (fun i q h => by cases h) (fun q hq => Or.inl (if_pos hq)) (by omega) (fun c hc => by omega) (fun c hc => by omega) (fun c hc => by omega) (fun ⟨q, h, _⟩ => by cases h) (fun bs hQ q => ?_) (fun bs l hQ q c10 => by omega) (fun bs l hQ q c10 ba oy' ho hr => ?_)
  · have eb : bs = [] := List.length_eq_zero_iff.mp hQ.1
    subst eb
    cases q
  have eb : bs = [] := List.length_eq_zero_iff.mp hQ.1
  subst eb
  have el : [] = l := Option.some.inj q
  subst el
  have OY : hs_OY 1 (fun _ => [0]) oy' (upd y_lengths 0 (nI (([] : List Nat).length + 1))) := by
    intro c hc
    have : c = 0 := by omega
    subst this
    exact ⟨pk_us, fun k hk => hr k hk⟩
  refine hs_yEnter (d := 0) C (Nat.le_refl _) (show 0 + 1 < 5 by omega) (by omega) (br_t rfl (nm_r (show (0 : Int32) + 1 = nI 1 by decide) ?_))
  refine br_f (by decide) (br_t rfl (br_f (by decide) (hs_yReach (d := 0) (s := 1) (P := hs_PH) (l := 1) (by omega) (by omega) m200 (by decide) pk_us (hs_yHeadW TA1 (by omega) (br_f (by decide) (br_f (by decide) (br_f (by decide) (br_t rfl (And.intro (pk_in 5 1024 (by omega) (by decide)) (And.intro (pk_in 7 260 (by omega) (by decide)) ?_))))))))))
  rw [show ((nI (0 + 1) - 1) * 26 + hs_txH (nI (hs_PH 1) + 1).toNatClampNeg - 100).toNatClampNeg = 0 * 26 + 7 by decide, show (17179869184 : Int64) + ((nI (0 + 1) - 1) * 4096 + nI (hs_PH 1)).toInt64 = lN (17179869184 + (0 * 4096 + hs_PH 1)) by decide]
  refine nm_e (hs_yAfter (l := 1) T (by omega) (by omega) (fun m e => ?_) (fun e => by cases e) (fun e => by cases e))
  have em : 3 = m := Option.some.inj e
  subst em
  refine br_t rfl (nm_r (nI_1 1) ?_)
  refine br_f (by decide) (br_t rfl (br_f (by decide) (hs_yReach (d := 0) (s := 1 + 1) (P := hs_PH) (l := 3) (by omega) (by omega) m200 (by decide) pk_us (hs_yHeadW TA3 (by omega) (br_f (by decide) (br_f (by decide) (br_f (by decide) (br_t rfl (And.intro (pk_in 19 1024 (by omega) (by decide)) (And.intro (pk_in 19 260 (by omega) (by decide)) ?_))))))))))
  rw [show ((nI (0 + 1) - 1) * 26 + hs_txH (nI (hs_PH 3) + 1).toNatClampNeg - 100).toNatClampNeg = 0 * 26 + 19 by decide, show (17179869184 : Int64) + ((nI (0 + 1) - 1) * 4096 + nI (hs_PH 3)).toInt64 = lN (17179869184 + (0 * 4096 + hs_PH 3)) by decide]
  refine nm_e (hs_yAfter (l := 3) T (by omega) (by omega) (fun m e => by cases e) (fun _ _ => ?_) (fun _ z => by obtain ⟨dx, z⟩ := z; cases z))
  refine br_t rfl (nm_r (nI_1 (1 + 1)) ?_)
  refine br_f (by decide) (br_t rfl (br_f (by decide) (And.intro (vp_in_nI (by omega) (by decide)) (nm_r (show upd _ 0 (-1) (nI 0).toNatClampNeg = -1 from pk_us) (br_f (by decide) ?_)))))
  refine br_t rfl (nm_r (nI_1 (1 + 1 + 1)) (br_f (by decide) (br_f (by decide) ?_)))
  exact H _ _ _ _ _ _ _ _ _ _ OY
end
