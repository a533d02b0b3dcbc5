/-! the check of a chunk on Y's side -/
section
variable {x_objectLimit x_stepLimit x_depthLimit x_pendingCount x_keptTokens x_keptLines x_lineCount x_codeCount x_cursor x_stop x_waitingCount x_openCount x_classCount x_callCount x_operandCount x_stepsTaken x_error x_raisedCode x_printCount x_lastPlace : Int32} {x_lastResult : Int64} {x_pending x_lineTable x_orders x_merging x_letterClass x_objectClass x_calls x_lastPrints : Nat → Int32} {x_code x_waiting x_globals x_entries x_attributes x_held x_operands : Nat → Int64}
variable {y_maxObjects y_maxSteps y_maxDepth y_kept y_end y_tokens y_pending y_lines y_classes y_prints y_place y_steps y_d y_valTop y_opTop y_opens y_pos y_tk y_tv y_stmt y_target y_err y_code y_outcome y_dry y_want y_starting y_ended y_bad y_hosted y_sawSuper : Int32} {y_result : Int64} {y_text y_numbers y_classOf y_alive y_orders y_lengths y_letters y_bases y_ops y_fLine y_fPos y_fStmt y_fTarget y_fMask y_fHome y_fOps y_fVals y_fNew y_out : Nat → Int32} {y_globals y_entries y_attrs y_vals y_locals y_fRecv : Nat → Int64}
def hs_s15 : List Nat → Prop
  | [] => False
  | h :: r => hs_isN h = true ∧ hs_hd r = 26
theorem hs_LF15 {k f s t : Int32} {cd : List (Nat × Nat)} : ∀ {ts : List Nat}, hs_LF k f s t cd ts → (k = 15 ↔ hs_s15 ts)
  | [], h => h.elim
  | h :: r, hL => by
    by_cases hw : 1 ≤ h ∧ h ≤ 11
    · have n15 : ¬ hs_s15 (h :: r) := by
        rintro ⟨y, _⟩
        have := hs_tkN y
        omega
      refine ⟨fun e => ?_, fun y => absurd y n15⟩
      exfalso
      have : h = 1 ∨ h = 2 ∨ h = 3 ∨ h = 4 ∨ h = 5 ∨ h = 6 ∨ h = 7 ∨ h = 8 ∨ h = 9 ∨ h = 10 ∨ h = 11 := by omega
      rcases this with rfl | rfl | rfl | rfl | rfl | rfl | rfl | rfl | rfl | rfl | rfl
      · have hk : k = 1 := hL.1
        rw [hk] at e
        exact absurd e (by decide)
      · have hk : k = 2 := hL.1
        rw [hk] at e
        exact absurd e (by decide)
      · have hk : k = nI 3 := hL.1
        rw [hk] at e
        exact absurd e (by decide)
      · have hk : k = nI 4 := hL.1
        rw [hk] at e
        exact absurd e (by decide)
      · have hk : k = nI 5 := hL.1
        rw [hk] at e
        exact absurd e (by decide)
      · have hk : k = nI 6 := hL.1
        rw [hk] at e
        exact absurd e (by decide)
      · have hk : k = nI 7 := hL.1
        rw [hk] at e
        exact absurd e (by decide)
      · have hk : k = 8 := hL.1
        rw [hk] at e
        exact absurd e (by decide)
      · have hk : k = nI 9 := hL.1
        rw [hk] at e
        exact absurd e (by decide)
      · have hk : k = 10 := hL.1
        rw [hk] at e
        exact absurd e (by decide)
      · have hk : k = nI 11 := hL.1
        rw [hk] at e
        exact absurd e (by decide)
    · rw [hs_LFo hw] at hL
      by_cases c1 : hs_isN h = true ∧ hs_hd r = 26
      · rw [if_pos c1] at hL
        exact ⟨fun _ => c1, fun _ => hL.1⟩
      · rw [if_neg c1] at hL
        refine ⟨fun e => ?_, fun y => absurd y c1⟩
        exfalso
        split at hL
        · have hk := hL.1
          rw [hk] at e; exact absurd e (by decide)
        · rcases hL with ⟨hk, _⟩ | ⟨hk, _⟩
          · rw [hk] at e; exact absurd e (by decide)
          · rw [hk] at e; exact absurd e (by decide)
/-- a line of a chunk is right -/
def hs_lok (tk : Nat → List Nat) (h ind : Nat → Nat) (a i : Nat) : Prop := (tk i).length ≤ 40 ∧ (∃ k f s t cd, hs_LF k f s t cd (tk i)) ∧ hs_pl h ind a i (hs_s15 (tk i)) (13 ∈ tk i)
/-- the tokens of each line of a chunk -/
def hs_TK (tx : Nat → Int32) (a b : Nat) (P h : Nat → Nat) (tk : Nat → List Nat) : Prop := ∀ i, a ≤ i → i < b → hs_TA tx (P i) (tk i) ∧ tk i ≠ [] ∧ (∀ x, x ∈ tk i → hs_vt x) ∧ h i = hs_hd (tk i)
theorem hs_TKH {tx : Nat → Int32} {a b : Nat} {P h : Nat → Nat} {tk : Nat → List Nat} (H : hs_TK tx a b P h tk) : hs_H tx a b P h := by
  intro i hi hib
  obtain ⟨h1, h2, h3, h4⟩ := H i hi hib
  cases e : tk i with
  | nil => exact absurd e h2
  | cons t r =>
    rw [e] at h1 h4
    obtain ⟨k1, k2, k3, _⟩ := hs_TAc h1
    rw [h4]
    exact ⟨k1, k2, k3⟩
theorem hs_yLn {tx : Nat → Int32} {p : Nat} {post : Int32 → SY → Prop} : ∀ (ts : List Nat) (k : Nat), k + ts.length < 2000 → hs_TA tx (p + k) ts →
    (k + ts.length ≤ 40 → k + ts.length = 0 → post 1 (y_maxObjects, y_maxSteps, y_maxDepth, y_kept, y_end, y_tokens, y_pending, y_lines, y_classes, y_prints, y_place, y_steps, y_d, y_valTop, y_opTop, y_opens, y_pos, y_tk, y_tv, y_stmt, y_target, y_err, y_code, y_outcome, y_result, y_dry, y_want, y_starting, y_ended, y_bad, y_hosted, y_sawSuper, tx, y_numbers, y_globals, y_entries, y_attrs, y_classOf, y_alive, y_orders, y_lengths, y_letters, y_bases, y_vals, y_ops, y_locals, y_fRecv, y_fLine, y_fPos, y_fStmt, y_fTarget, y_fMask, y_fHome, y_fOps, y_fVals, y_fNew, y_out)) → (40 < k + ts.length → post 0 (y_maxObjects, y_maxSteps, y_maxDepth, y_kept, y_end, y_tokens, y_pending, y_lines, y_classes, y_prints, y_place, y_steps, y_d, y_valTop, y_opTop, y_opens, y_pos, y_tk, y_tv, y_stmt, y_target, y_err, y_code, y_outcome, y_result, y_dry, y_want, y_starting, y_ended, y_bad, y_hosted, y_sawSuper, tx, y_numbers, y_globals, y_entries, y_attrs, y_classOf, y_alive, y_orders, y_lengths, y_letters, y_bases, y_vals, y_ops, y_locals, y_fRecv, y_fLine, y_fPos, y_fStmt, y_fTarget, y_fMask, y_fHome, y_fOps, y_fVals, y_fNew, y_out)) →
    (k + ts.length ≤ 40 → k + ts.length ≠ 0 → wpY_formRight (fun r u => match u with | (y_maxObjectsq, y_maxStepsq, y_maxDepthq, y_keptq, y_endq, y_tokensq, y_pendingq, y_linesq, y_classesq, y_printsq, y_placeq, y_stepsq, y_dq, y_valTopq, y_opTopq, y_opensq, y_posq, y_tkq, y_tvq, y_stmtq, y_targetq, y_errq, y_codeq, y_outcomeq, y_resultq, y_dryq, y_wantq, y_startingq, y_endedq, y_badq, y_hostedq, y_sawSuperq, y_textq, y_numbersq, y_globalsq, y_entriesq, y_attrsq, y_classOfq, y_aliveq, y_ordersq, y_lengthsq, y_lettersq, y_basesq, y_valsq, y_opsq, y_localsq, y_fRecvq, y_fLineq, y_fPosq, y_fStmtq, y_fTargetq, y_fMaskq, y_fHomeq, y_fOpsq, y_fValsq, y_fNewq, y_outq) => ((r = 0 → post 0 (y_maxObjectsq, y_maxStepsq, y_maxDepthq, y_keptq, y_endq, y_tokensq, y_pendingq, y_linesq, y_classesq, y_printsq, y_placeq, y_stepsq, y_dq, y_valTopq, y_opTopq, y_opensq, y_posq, y_tkq, y_tvq, y_stmtq, y_targetq, y_errq, y_codeq, y_outcomeq, y_resultq, y_dryq, y_wantq, y_startingq, y_endedq, y_badq, y_hostedq, y_sawSuperq, y_textq, y_numbersq, y_globalsq, y_entriesq, y_attrsq, y_classOfq, y_aliveq, y_ordersq, y_lengthsq, y_lettersq, y_basesq, y_valsq, y_opsq, y_localsq, y_fRecvq, y_fLineq, y_fPosq, y_fStmtq, y_fTargetq, y_fMaskq, y_fHomeq, y_fOpsq, y_fValsq, y_fNewq, y_outq)) ∧ (¬ r = 0 → wpY_placeRight (fun r2 => ((r2 = 0 → post 0 (y_maxObjectsq, y_maxStepsq, y_maxDepthq, y_keptq, y_endq, y_tokensq, y_pendingq, y_linesq, y_classesq, y_printsq, y_placeq, y_stepsq, y_dq, y_valTopq, y_opTopq, y_opensq, y_posq, y_tkq, y_tvq, y_stmtq, y_targetq, y_errq, y_codeq, y_outcomeq, y_resultq, y_dryq, y_wantq, y_startingq, y_endedq, y_badq, y_hostedq, y_sawSuperq, y_textq, y_numbersq, y_globalsq, y_entriesq, y_attrsq, y_classOfq, y_aliveq, y_ordersq, y_lengthsq, y_lettersq, y_basesq, y_valsq, y_opsq, y_localsq, y_fRecvq, y_fLineq, y_fPosq, y_fStmtq, y_fTargetq, y_fMaskq, y_fHomeq, y_fOpsq, y_fValsq, y_fNewq, y_outq)) ∧ (¬ r2 = 0 → post 1 (y_maxObjectsq, y_maxStepsq, y_maxDepthq, y_keptq, y_endq, y_tokensq, y_pendingq, y_linesq, y_classesq, y_printsq, y_placeq, y_stepsq, y_dq, y_valTopq, y_opTopq, y_opensq, y_posq, y_tkq, y_tvq, y_stmtq, y_targetq, y_errq, y_codeq, y_outcomeq, y_resultq, y_dryq, y_wantq, y_startingq, y_endedq, y_badq, y_hostedq, y_sawSuperq, y_textq, y_numbersq, y_globalsq, y_entriesq, y_attrsq, y_classOfq, y_aliveq, y_ordersq, y_lengthsq, y_lettersq, y_basesq, y_valsq, y_opsq, y_localsq, y_fRecvq, y_fLineq, y_fPosq, y_fStmtq, y_fTargetq, y_fMaskq, y_fHomeq, y_fOpsq, y_fValsq, y_fNewq, y_outq)))) (y_maxObjectsq, y_maxStepsq, y_maxDepthq, y_keptq, y_endq, y_tokensq, y_pendingq, y_linesq, y_classesq, y_printsq, y_placeq, y_stepsq, y_dq, y_valTopq, y_opTopq, y_opensq, y_posq, y_tkq, y_tvq, y_stmtq, y_targetq, y_errq, y_codeq, y_outcomeq, y_resultq, y_dryq, y_wantq, y_startingq, y_endedq, y_badq, y_hostedq, y_sawSuperq, y_textq, y_numbersq, y_globalsq, y_entriesq, y_attrsq, y_classOfq, y_aliveq, y_ordersq, y_lengthsq, y_lettersq, y_basesq, y_valsq, y_opsq, y_localsq, y_fRecvq, y_fLineq, y_fPosq, y_fStmtq, y_fTargetq, y_fMaskq, y_fHomeq, y_fOpsq, y_fValsq, y_fNewq, y_outq) (nI p)))) (y_maxObjects, y_maxSteps, y_maxDepth, y_kept, y_end, y_tokens, y_pending, y_lines, y_classes, y_prints, y_place, y_steps, y_d, y_valTop, y_opTop, y_opens, y_pos, y_tk, y_tv, y_stmt, y_target, y_err, y_code, y_outcome, y_result, y_dry, y_want, y_starting, y_ended, y_bad, y_hosted, 0, tx, y_numbers, y_globals, y_entries, y_attrs, y_classOf, y_alive, y_orders, y_lengths, y_letters, y_bases, y_vals, y_ops, y_locals, y_fRecv, y_fLine, y_fPos, y_fStmt, y_fTarget, y_fMask, y_fHome, y_fOps, y_fVals, y_fNew, y_out) (nI p)) →
    wY_lineRight_2 post (nI p) y_maxObjects y_maxSteps y_maxDepth y_kept y_end y_tokens y_pending y_lines y_classes y_prints y_place y_steps y_d y_valTop y_opTop y_opens y_pos y_tk y_tv y_stmt y_target y_err y_code y_outcome y_result y_dry y_want y_starting y_ended y_bad y_hosted y_sawSuper tx y_numbers y_globals y_entries y_attrs y_classOf y_alive y_orders y_lengths y_letters y_bases y_vals y_ops y_locals y_fRecv y_fLine y_fPos y_fStmt y_fTarget y_fMask y_fHome y_fOps y_fVals y_fNew y_out (ts.length + 1) (nI k) := by
  intro ts
  induction ts with
  | nil =>
    intro k hk h H1 H0 HF
    have hp := hs_TAlt h
    simp only [List.length_nil, Nat.add_zero] at H1 H0 HF
    have e : nI p + nI k = nI (p + k) := nI_add p k
    rw [show ([] : List Nat).length + 1 = 0 + 1 from rfl]
    refine And.intro (by rw [e]; exact vp_in_nI hp (by decide)) ?_
    rw [e, nI_clamp (show p + k < 2 ^ 31 by omega)]
    exact hs_yends h.1 (fun _ => br_f (by decide) (pk_le k 40 (fun a => pk_eq k 0 (fun b => H1 a b) (fun b => HF a b)) (fun a => H0 a))) (fun y => absurd h.2.1 y)
  | cons t r ih =>
    intro k hk h H1 H0 HF
    have hp := hs_TAlt h
    obtain ⟨k1, k2, k3, k4, k5, k6⟩ := hs_TAc h
    simp only [List.length_cons] at H1 H0 HF hk
    have e : nI p + nI k = nI (p + k) := nI_add p k
    refine And.intro (by rw [e]; exact vp_in_nI hp (by decide)) ?_
    rw [e, nI_clamp (show p + k < 2 ^ 31 by omega), k1]
    have ek : k + (r.length + 1) = (k + 1) + r.length := by omega
    rw [ek] at H1 H0 HF
    refine hs_yends (Or.inr ⟨t, k2, k3, rfl⟩) (fun y => absurd y ?_) (fun _ => br_t rfl (nm_r (nI_1 k) (ih (k + 1) (by omega) k6 H1 H0 HF)))
    rw [nI_clamp k3]; exact k4
theorem hs_yLine0 {tx : Nat → Int32} {p : Nat} (h : hs_TA tx p []) {post : Int32 → SY → Prop} (H : post 1 (y_maxObjects, y_maxSteps, y_maxDepth, y_kept, y_end, y_tokens, y_pending, y_lines, y_classes, y_prints, y_place, y_steps, y_d, y_valTop, y_opTop, y_opens, y_pos, y_tk, y_tv, y_stmt, y_target, y_err, y_code, y_outcome, y_result, y_dry, y_want, y_starting, y_ended, y_bad, y_hosted, y_sawSuper, tx, y_numbers, y_globals, y_entries, y_attrs, y_classOf, y_alive, y_orders, y_lengths, y_letters, y_bases, y_vals, y_ops, y_locals, y_fRecv, y_fLine, y_fPos, y_fStmt, y_fTarget, y_fMask, y_fHome, y_fOps, y_fVals, y_fNew, y_out)) : wpY_lineRight post (y_maxObjects, y_maxSteps, y_maxDepth, y_kept, y_end, y_tokens, y_pending, y_lines, y_classes, y_prints, y_place, y_steps, y_d, y_valTop, y_opTop, y_opens, y_pos, y_tk, y_tv, y_stmt, y_target, y_err, y_code, y_outcome, y_result, y_dry, y_want, y_starting, y_ended, y_bad, y_hosted, y_sawSuper, tx, y_numbers, y_globals, y_entries, y_attrs, y_classOf, y_alive, y_orders, y_lengths, y_letters, y_bases, y_vals, y_ops, y_locals, y_fRecv, y_fLine, y_fPos, y_fStmt, y_fTarget, y_fMask, y_fHome, y_fOps, y_fVals, y_fNew, y_out) (nI p) :=
  ⟨1, hs_yLn [] 0 (by decide) h (fun _ _ => H) (fun y => absurd y (by decide)) (fun _ y => absurd rfl y)⟩
theorem hs_yLine {tx fo : Nat → Int32} {cs ce a b i : Nat} {P ind h : Nat → Nat} {tk : Nat → List Nat} (hfo : fo 0 = nI 0) (C : hs_Ch tx cs ce a b P ind) (K : hs_TK tx a b P h tk) (hi : a ≤ i) (hib : i < b) (hl : (tk i).length < 1500) {post : Int32 → SY → Prop}
    (H1 : hs_lok tk h ind a i → ∀ (q1 q2 q3 q4 sm q6 q7 q8 ss : Int32) (q9 : Nat → Int64) (q10 : Nat → Int32), post 1 (y_maxObjects, y_maxSteps, y_maxDepth, y_kept, y_end, y_tokens, y_pending, y_lines, y_classes, y_prints, y_place, y_steps, 0, 0, 0, q1, q2, q3, q4, sm, q6, y_err, y_code, y_outcome, y_result, 0, q7, y_starting, y_ended, q8, y_hosted, ss, tx, y_numbers, y_globals, y_entries, y_attrs, y_classOf, y_alive, y_orders, y_lengths, y_letters, y_bases, q9, q10, y_locals, y_fRecv, y_fLine, y_fPos, y_fStmt, y_fTarget, y_fMask, y_fHome, fo, y_fVals, y_fNew, y_out)) (H0 : ¬ hs_lok tk h ind a i → ∀ (q1 q2 q3 q4 sm q6 q7 q8 ss : Int32) (q9 : Nat → Int64) (q10 : Nat → Int32), post 0 (y_maxObjects, y_maxSteps, y_maxDepth, y_kept, y_end, y_tokens, y_pending, y_lines, y_classes, y_prints, y_place, y_steps, 0, 0, 0, q1, q2, q3, q4, sm, q6, y_err, y_code, y_outcome, y_result, 0, q7, y_starting, y_ended, q8, y_hosted, ss, tx, y_numbers, y_globals, y_entries, y_attrs, y_classOf, y_alive, y_orders, y_lengths, y_letters, y_bases, q9, q10, y_locals, y_fRecv, y_fLine, y_fPos, y_fStmt, y_fTarget, y_fMask, y_fHome, fo, y_fVals, y_fNew, y_out)) : wpY_lineRight post (y_maxObjects, y_maxSteps, y_maxDepth, y_kept, y_end, y_tokens, y_pending, y_lines, y_classes, y_prints, y_place, y_steps, 0, 0, 0, y_opens, y_pos, y_tk, y_tv, y_stmt, y_target, y_err, y_code, y_outcome, y_result, 0, y_want, y_starting, y_ended, y_bad, y_hosted, y_sawSuper, tx, y_numbers, y_globals, y_entries, y_attrs, y_classOf, y_alive, y_orders, y_lengths, y_letters, y_bases, y_vals, y_ops, y_locals, y_fRecv, y_fLine, y_fPos, y_fStmt, y_fTarget, y_fMask, y_fHome, fo, y_fVals, y_fNew, y_out) (nI (P i)) := by
  obtain ⟨hTA, hne, hv, hh⟩ := K i hi hib
  have hpos : 0 < (tk i).length := List.length_pos_iff.mpr hne
  refine ⟨(tk i).length + 1, hs_yLn (tk i) 0 (by omega) hTA (fun _ y => by omega) (fun y => H0 (fun z => by have := z.1; omega) _ _ _ _ _ _ _ _ _ _ _) (fun l40 _ => ?_)⟩
  have l40 : (tk i).length ≤ 40 := by omega
  refine hs_yForm hfo hTA hne hv l40 ?_ ?_
  · intro k f s t cd hL q1 q2 q3 q4 sm q6 q7 q8 ss q9 q10 hm hs hk
    have e1 : (sm = 51) = hs_s15 (tk i) := propext (hk.trans (hs_LF15 hL))
    have e2 : (ss = 1) = (13 ∈ tk i) := propext hm.symm
    refine br_f (by decide) (hs_yPlace C (hs_TKH K) hi hib hs (fun w => br_f (by decide) ?_) (fun w => br_t rfl ?_))
    · rw [e1, e2] at w
      exact H1 ⟨l40, ⟨k, f, s, t, cd, hL⟩, w⟩ _ _ _ _ _ _ _ _ _ _ _
    · rw [e1, e2] at w
      exact H0 (fun z => w z.2.2) _ _ _ _ _ _ _ _ _ _ _
  · intro hno q1 q2 q3 q4 sm q6 q7 q8 ss q9 q10
    refine br_t rfl (H0 (fun z => ?_) _ _ _ _ _ _ _ _ _ _ _)
    obtain ⟨k, f, s, t, cd, hL⟩ := z.2.1
    exact hno k f s t cd hL
end
