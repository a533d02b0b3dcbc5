/-! a line on Y's side, whole -/
section
variable {x_objectLimit x_stepLimit x_depthLimit x_pendingCount x_keptTokens x_keptLines x_lineCount x_codeCount x_cursor x_stop x_waitingCount x_openCount x_classCount x_callCount x_operandCount x_stepsTaken x_error x_raisedCode x_printCount x_lastPlace : Int32} {x_lastResult : Int64} {x_pending x_lineTable x_orders x_merging x_letterClass x_objectClass x_calls x_lastPrints : Nat → Int32} {x_code x_waiting x_globals x_entries x_attributes x_held x_operands : Nat → Int64}
variable {y_maxObjects y_maxSteps y_maxDepth y_kept y_end y_tokens y_pending y_lines y_classes y_prints y_place y_steps y_d y_valTop y_opTop y_opens y_pos y_tk y_tv y_stmt y_target y_err y_code y_outcome y_dry y_want y_starting y_ended y_bad y_hosted y_sawSuper : Int32} {y_result : Int64} {y_text y_numbers y_classOf y_alive y_orders y_lengths y_letters y_bases y_ops y_fLine y_fPos y_fStmt y_fTarget y_fMask y_fHome y_fOps y_fVals y_fNew y_out : Nat → Int32} {y_globals y_entries y_attrs y_vals y_locals y_fRecv : Nat → Int64}
theorem hs_runSuf {z : Bool} : ∀ {n : Nat} {ts : List Nat} {w : Bool} {st : List Nat} {cd : List (Nat × Nat)} {rs fs : List Nat}, hs_run n z ts w st cd rs fs → ∃ pre, ts = pre ++ rs := by
  intro n
  induction n with
  | zero => intro ts w st cd rs fs h; exact h.elim
  | succ n ih =>
    intro ts w st cd rs fs h
    rcases h with ⟨f, rfl, rfl, rfl⟩ | ⟨f, ts', w', st', e, cd', E, rfl, h⟩
    · exact ⟨[], rfl⟩
    · obtain ⟨pre, h1⟩ := ih h
      rcases hs_stepSuf E with ⟨q, h2, _⟩ | ⟨m, h2, _⟩
      · exact ⟨q ++ pre, by rw [h2, h1, List.append_assoc]⟩
      · exact ⟨24 :: m :: 26 :: pre, by rw [h2, h1]; rfl⟩
theorem hs_SU {z w : Bool} {ts st rs fs rs' fs' : List Nat} {cd cd' : List (Nat × Nat)} (h : hs_S z ts w st cd rs fs) (h' : hs_S z ts w st cd' rs' fs') : cd = cd' ∧ rs = rs' ∧ fs = fs' := by
  obtain ⟨n, h⟩ := h
  obtain ⟨m, h'⟩ := h'
  exact hs_runU h h'
/-- an expression up to the end of the line -/
theorem hs_yF158 {tx fo : Nat → Int32} {sm : Int32} {z : Bool} {p : Nat} {r : List Nat} (hfo : fo 0 = nI 0) (hz : z = true ↔ sm = 50) (hTA : hs_TA tx p r) (hv : ∀ x, x ∈ r → hs_vt x) (hl : r.length ≤ 50) {post : Int32 → SY → Prop}
    (H1 : ∀ cd fs, hs_S z r true [] cd [] fs → ∀ (q1 q2 q3 q4 q7 q8 ss : Int32) (q9 : Nat → Int64) (q10 : Nat → Int32), (13 ∈ r ↔ ss = 1) → (ss = 0 ∨ ss = 1) → post 1 (y_maxObjects, y_maxSteps, y_maxDepth, y_kept, y_end, y_tokens, y_pending, y_lines, y_classes, y_prints, y_place, y_steps, 0, 0, 0, q1, q2, q3, q4, sm, y_target, y_err, y_code, y_outcome, y_result, 0, q7, y_starting, y_ended, q8, y_hosted, ss, tx, y_numbers, y_globals, y_entries, y_attrs, y_classOf, y_alive, y_orders, y_lengths, y_letters, y_bases, q9, q10, y_locals, y_fRecv, y_fLine, y_fPos, y_fStmt, y_fTarget, y_fMask, y_fHome, fo, y_fVals, y_fNew, y_out))
    (H0 : (∀ cd fs, ¬ hs_S z r true [] cd [] fs) → ∀ (q1 q2 q3 q4 q7 q8 ss : Int32) (q9 : Nat → Int64) (q10 : Nat → Int32), post 0 (y_maxObjects, y_maxSteps, y_maxDepth, y_kept, y_end, y_tokens, y_pending, y_lines, y_classes, y_prints, y_place, y_steps, 0, 0, 0, q1, q2, q3, q4, sm, y_target, y_err, y_code, y_outcome, y_result, 0, q7, y_starting, y_ended, q8, y_hosted, ss, tx, y_numbers, y_globals, y_entries, y_attrs, y_classOf, y_alive, y_orders, y_lengths, y_letters, y_bases, q9, q10, y_locals, y_fRecv, y_fLine, y_fPos, y_fStmt, y_fTarget, y_fMask, y_fHome, fo, y_fVals, y_fNew, y_out)) : wY_formRight_158 post y_maxObjects y_maxSteps y_maxDepth y_kept y_end y_tokens y_pending y_lines y_classes y_prints y_place y_steps 0 0 0 y_opens (nI p) y_tk y_tv sm y_target y_err y_code y_outcome y_result 0 y_want y_starting y_ended y_bad y_hosted 0 tx y_numbers y_globals y_entries y_attrs y_classOf y_alive y_orders y_lengths y_letters y_bases y_vals y_ops y_locals y_fRecv y_fLine y_fPos y_fStmt y_fTarget y_fMask y_fHome fo y_fVals y_fNew y_out := by
  unfold wY_formRight_158
  refine hs_yDryRun hfo hz hTA hv hl (Or.inl rfl) (w := true) (st := []) rfl rfl ?_ ?_
  · intro cd rs fs hS p' k q1 q4 q5 ss' q9 q10 hr hm hs
    rcases hr with ⟨rfl, rfl, _⟩ | ⟨r', rfl, rfl, _⟩
    · refine br_t rfl (H1 cd fs hS _ _ _ _ _ _ ss' _ _ ?_ hs)
      constructor
      · intro y
        rcases hm.mp (Or.inl y) with q | q
        · cases q
        · exact q
      · intro y
        rcases hm.mpr (Or.inr y) with q | q
        · exact q
        · cases q
    · refine br_f (hs_ne (a := 25) (b := 0) (by decide) (by decide) (by decide)) (H0 (fun cd' fs' h' => ?_) _ _ _ _ _ _ _ _ _)
      have := (hs_SU hS h').2.1
      cases this
  · intro hno q1 q2 q3 q4 q5 q6 q9 q10
    exact br_f (by decide) (H0 (fun cd fs => hno cd [] fs) _ _ _ _ _ _ _ _ _)
/-- an expression up to the colon that ends the line -/
theorem hs_yF135 {tx fo : Nat → Int32} {sm : Int32} {p : Nat} {r : List Nat} (hfo : fo 0 = nI 0) (hz : sm ≠ 50) (hTA : hs_TA tx p r) (hv : ∀ x, x ∈ r → hs_vt x) (hl : r.length ≤ 50) {post : Int32 → SY → Prop}
    (H1 : ∀ cd r0, r = r0 ++ [25] → hs_S false r0 true [] cd [] [] → ∀ (q1 q2 q3 q4 q7 q8 ss : Int32) (q9 : Nat → Int64) (q10 : Nat → Int32), (13 ∈ r ↔ ss = 1) → (ss = 0 ∨ ss = 1) → post 1 (y_maxObjects, y_maxSteps, y_maxDepth, y_kept, y_end, y_tokens, y_pending, y_lines, y_classes, y_prints, y_place, y_steps, 0, 0, 0, q1, q2, q3, q4, sm, y_target, y_err, y_code, y_outcome, y_result, 0, q7, y_starting, y_ended, q8, y_hosted, ss, tx, y_numbers, y_globals, y_entries, y_attrs, y_classOf, y_alive, y_orders, y_lengths, y_letters, y_bases, q9, q10, y_locals, y_fRecv, y_fLine, y_fPos, y_fStmt, y_fTarget, y_fMask, y_fHome, fo, y_fVals, y_fNew, y_out))
    (H0 : (∀ cd r0, ¬ (r = r0 ++ [25] ∧ hs_S false r0 true [] cd [] [])) → ∀ (q1 q2 q3 q4 q7 q8 ss : Int32) (q9 : Nat → Int64) (q10 : Nat → Int32), post 0 (y_maxObjects, y_maxSteps, y_maxDepth, y_kept, y_end, y_tokens, y_pending, y_lines, y_classes, y_prints, y_place, y_steps, 0, 0, 0, q1, q2, q3, q4, sm, y_target, y_err, y_code, y_outcome, y_result, 0, q7, y_starting, y_ended, q8, y_hosted, ss, tx, y_numbers, y_globals, y_entries, y_attrs, y_classOf, y_alive, y_orders, y_lengths, y_letters, y_bases, q9, q10, y_locals, y_fRecv, y_fLine, y_fPos, y_fStmt, y_fTarget, y_fMask, y_fHome, fo, y_fVals, y_fNew, y_out)) : wY_formRight_135 post y_maxObjects y_maxSteps y_maxDepth y_kept y_end y_tokens y_pending y_lines y_classes y_prints y_place y_steps 0 0 0 y_opens (nI p) y_tk y_tv sm y_target y_err y_code y_outcome y_result 0 y_want y_starting y_ended y_bad y_hosted 0 tx y_numbers y_globals y_entries y_attrs y_classOf y_alive y_orders y_lengths y_letters y_bases y_vals y_ops y_locals y_fRecv y_fLine y_fPos y_fStmt y_fTarget y_fMask y_fHome fo y_fVals y_fNew y_out := by
  unfold wY_formRight_135
  refine hs_yDryRun (z := false) hfo ⟨fun y => absurd y (by decide), fun y => absurd y hz⟩ hTA hv hl (Or.inl rfl) (w := true) (st := []) rfl rfl ?_ ?_
  · intro cd rs fs hS p' k q1 q4 q5 ss' q9 q10 hr hm hs
    have hfs : fs = [] := by
      rcases (hs_gstS hS).2 with q | ⟨q, _⟩
      · exact q
      · cases q
    subst hfs
    rcases hr with ⟨rfl, rfl, _⟩ | ⟨r', rfl, rfl, hT'⟩
    · refine br_f (hs_ne (a := 0) (b := 25) (by decide) (by decide) (by decide)) (H0 (fun cd' r0 h' => ?_) _ _ _ _ _ _ _ _ _)
      have := (hs_SU hS (by rw [h'.1]; exact hs_S25i.mpr h'.2)).2.1
      cases this
    · refine br_t rfl (hs_yIs0 hT' (fun er => br_f (by decide) ?_) (fun er _ _ _ => br_t rfl (H0 (fun cd' r0 h' => ?_) _ _ _ _ _ _ _ _ _)))
      · subst er
        obtain ⟨n, hn⟩ := hS
        obtain ⟨pre, e⟩ := hs_runSuf hn
        subst e
        refine H1 cd pre rfl (hs_S25i.mp ⟨n, hn⟩) _ _ _ _ _ _ ss' _ _ ?_ hs
        constructor
        · intro y
          rcases hm.mp (Or.inl y) with q | q
          · simp at q
          · exact q
        · intro y
          rcases hm.mpr (Or.inr y) with q | q
          · exact q
          · cases q
      · have := (hs_SU hS (by rw [h'.1]; exact hs_S25i.mpr h'.2)).2.1
        cases this
        exact er rfl
  · intro hno q1 q2 q3 q4 q5 q6 q9 q10
    refine br_f (by decide) (H0 (fun cd r0 h => ?_) _ _ _ _ _ _ _ _ _)
    exact hno cd [25] [] (by rw [h.1]; exact hs_S25i.mpr h.2)
theorem hs_yF70 {tx : Nat → Int32} {p : Nat} {r : List Nat} (hTA : hs_TA tx p r) {post : Int32 → SY → Prop} (H1 : r = [25] → ∀ q1 q2 q3 : Int32, post 1 (y_maxObjects, y_maxSteps, y_maxDepth, y_kept, y_end, y_tokens, y_pending, y_lines, y_classes, y_prints, y_place, y_steps, y_d, y_valTop, y_opTop, y_opens, q1, q2, q3, y_stmt, y_target, y_err, y_code, y_outcome, y_result, y_dry, y_want, y_starting, y_ended, y_bad, y_hosted, y_sawSuper, tx, y_numbers, y_globals, y_entries, y_attrs, y_classOf, y_alive, y_orders, y_lengths, y_letters, y_bases, y_vals, y_ops, y_locals, y_fRecv, y_fLine, y_fPos, y_fStmt, y_fTarget, y_fMask, y_fHome, y_fOps, y_fVals, y_fNew, y_out)) (H0 : r ≠ [25] → ∀ q1 q2 q3 : Int32, post 0 (y_maxObjects, y_maxSteps, y_maxDepth, y_kept, y_end, y_tokens, y_pending, y_lines, y_classes, y_prints, y_place, y_steps, y_d, y_valTop, y_opTop, y_opens, q1, q2, q3, y_stmt, y_target, y_err, y_code, y_outcome, y_result, y_dry, y_want, y_starting, y_ended, y_bad, y_hosted, y_sawSuper, tx, y_numbers, y_globals, y_entries, y_attrs, y_classOf, y_alive, y_orders, y_lengths, y_letters, y_bases, y_vals, y_ops, y_locals, y_fRecv, y_fLine, y_fPos, y_fStmt, y_fTarget, y_fMask, y_fHome, y_fOps, y_fVals, y_fNew, y_out)) : wY_formRight_70 post y_maxObjects y_maxSteps y_maxDepth y_kept y_end y_tokens y_pending y_lines y_classes y_prints y_place y_steps y_d y_valTop y_opTop y_opens (nI p) y_tk y_tv y_stmt y_target y_err y_code y_outcome y_result y_dry y_want y_starting y_ended y_bad y_hosted y_sawSuper tx y_numbers y_globals y_entries y_attrs y_classOf y_alive y_orders y_lengths y_letters y_bases y_vals y_ops y_locals y_fRecv y_fLine y_fPos y_fStmt y_fTarget y_fMask y_fHome y_fOps y_fVals y_fNew y_out := by
  unfold wY_formRight_70
  refine hs_yIsK hTA 25 (by decide) (fun r' er => br_f (by decide) ?_) (fun hn _ _ _ => br_t rfl (H0 (fun y => hn (by rw [y]; rfl)) _ _ _))
  subst er
  refine hs_yIs0 (hs_TAc hTA).2.2.2.2.2 (fun er => br_f (by decide) (H1 (by rw [er]) _ _ _)) (fun er _ _ _ => br_t rfl (H0 (fun y => er ?_) _ _ _))
  cases y
  rfl
theorem hs_yFm1 {tx fo : Nat → Int32} {p : Nat} {r ts : List Nat} (ets : ts = 1 :: r) (hfo : fo 0 = nI 0) (hTA : hs_TA tx p ts) (hv : ∀ x, x ∈ ts → hs_vt x) (hl : ts.length ≤ 40) {post : Int32 → SY → Prop}
    (H1 : ∀ (k f s t : Int32) (cd : List (Nat × Nat)), hs_LF k f s t cd ts → ∀ (q1 q2 q3 q4 sm q6 q7 q8 ss : Int32) (q9 : Nat → Int64) (q10 : Nat → Int32), (13 ∈ ts ↔ ss = 1) → (ss = 0 ∨ ss = 1) → (sm = 51 ↔ k = 15) → post 1 (y_maxObjects, y_maxSteps, y_maxDepth, y_kept, y_end, y_tokens, y_pending, y_lines, y_classes, y_prints, y_place, y_steps, 0, 0, 0, q1, q2, q3, q4, sm, q6, y_err, y_code, y_outcome, y_result, 0, q7, y_starting, y_ended, q8, y_hosted, ss, tx, y_numbers, y_globals, y_entries, y_attrs, y_classOf, y_alive, y_orders, y_lengths, y_letters, y_bases, q9, q10, y_locals, y_fRecv, y_fLine, y_fPos, y_fStmt, y_fTarget, y_fMask, y_fHome, fo, y_fVals, y_fNew, y_out))
    (H0 : (∀ (k f s t : Int32) (cd : List (Nat × Nat)), ¬ hs_LF k f s t cd ts) → ∀ (q1 q2 q3 q4 sm q6 q7 q8 ss : Int32) (q9 : Nat → Int64) (q10 : Nat → Int32), post 0 (y_maxObjects, y_maxSteps, y_maxDepth, y_kept, y_end, y_tokens, y_pending, y_lines, y_classes, y_prints, y_place, y_steps, 0, 0, 0, q1, q2, q3, q4, sm, q6, y_err, y_code, y_outcome, y_result, 0, q7, y_starting, y_ended, q8, y_hosted, ss, tx, y_numbers, y_globals, y_entries, y_attrs, y_classOf, y_alive, y_orders, y_lengths, y_letters, y_bases, q9, q10, y_locals, y_fRecv, y_fLine, y_fPos, y_fStmt, y_fTarget, y_fMask, y_fHome, fo, y_fVals, y_fNew, y_out)) : wpY_formRight post (y_maxObjects, y_maxSteps, y_maxDepth, y_kept, y_end, y_tokens, y_pending, y_lines, y_classes, y_prints, y_place, y_steps, 0, 0, 0, y_opens, y_pos, y_tk, y_tv, y_stmt, y_target, y_err, y_code, y_outcome, y_result, 0, y_want, y_starting, y_ended, y_bad, y_hosted, 0, tx, y_numbers, y_globals, y_entries, y_attrs, y_classOf, y_alive, y_orders, y_lengths, y_letters, y_bases, y_vals, y_ops, y_locals, y_fRecv, y_fLine, y_fPos, y_fStmt, y_fTarget, y_fMask, y_fHome, fo, y_fVals, y_fNew, y_out) (nI p) := by
  subst ets
  have hT1 := (hs_TAc hTA).2.2.2.2.2
  have hv1 : ∀ x, x ∈ r → hs_vt x := fun x hx => hv x (List.mem_cons_of_mem _ hx)
  unfold wpY_formRight
  refine hs_yHeadW hTA (by decide) (br_f (nI_nlt (b := 1) (by decide) (by decide)) (br_f (nI_nlt (a := 10) (by decide) (by decide)) (br_t rfl (hs_yClass hT1 hv1 (fun f s t hC _ _ _ => ⟨hs_narB (Or.inr rfl), ?_⟩) (fun hC _ _ _ => ⟨hs_narB (Or.inl rfl), ?_⟩)))))
  · refine H1 1 f s t [] ⟨rfl, rfl, hC⟩ _ _ _ _ _ _ _ _ _ _ _ ⟨fun y => ?_, fun y => absurd y (by decide)⟩ (Or.inl rfl) ⟨fun y => absurd y (hs_ne (a := 1) (b := 51) (by decide) (by decide) (by decide)), fun y => absurd y (by decide)⟩
    exfalso
    obtain ⟨c, hc, _, hh⟩ := hC
    have tc := hs_tkC hc
    rcases hh with ⟨e, _⟩ | ⟨a, ha, e, _⟩ | ⟨a, b, ha, hb, e, _⟩
    · subst e; simp at y; omega
    · have ta := hs_tkC ha
      subst e; simp at y; omega
    · have ta := hs_tkC ha
      have tb := hs_tkC hb
      subst e; simp at y; omega
  · refine H0 (fun k f s t cd hL => ?_) _ _ _ _ _ _ _ _ _ _ _
    have hL : k = 1 ∧ cd = [] ∧ hs_CH f s t r := hL
    exact hC f s t hL.2.2
theorem hs_yFm2 {tx fo : Nat → Int32} {p : Nat} {r ts : List Nat} (ets : ts = 2 :: r) (hfo : fo 0 = nI 0) (hTA : hs_TA tx p ts) (hv : ∀ x, x ∈ ts → hs_vt x) (hl : ts.length ≤ 40) {post : Int32 → SY → Prop}
    (H1 : ∀ (k f s t : Int32) (cd : List (Nat × Nat)), hs_LF k f s t cd ts → ∀ (q1 q2 q3 q4 sm q6 q7 q8 ss : Int32) (q9 : Nat → Int64) (q10 : Nat → Int32), (13 ∈ ts ↔ ss = 1) → (ss = 0 ∨ ss = 1) → (sm = 51 ↔ k = 15) → post 1 (y_maxObjects, y_maxSteps, y_maxDepth, y_kept, y_end, y_tokens, y_pending, y_lines, y_classes, y_prints, y_place, y_steps, 0, 0, 0, q1, q2, q3, q4, sm, q6, y_err, y_code, y_outcome, y_result, 0, q7, y_starting, y_ended, q8, y_hosted, ss, tx, y_numbers, y_globals, y_entries, y_attrs, y_classOf, y_alive, y_orders, y_lengths, y_letters, y_bases, q9, q10, y_locals, y_fRecv, y_fLine, y_fPos, y_fStmt, y_fTarget, y_fMask, y_fHome, fo, y_fVals, y_fNew, y_out))
    (H0 : (∀ (k f s t : Int32) (cd : List (Nat × Nat)), ¬ hs_LF k f s t cd ts) → ∀ (q1 q2 q3 q4 sm q6 q7 q8 ss : Int32) (q9 : Nat → Int64) (q10 : Nat → Int32), post 0 (y_maxObjects, y_maxSteps, y_maxDepth, y_kept, y_end, y_tokens, y_pending, y_lines, y_classes, y_prints, y_place, y_steps, 0, 0, 0, q1, q2, q3, q4, sm, q6, y_err, y_code, y_outcome, y_result, 0, q7, y_starting, y_ended, q8, y_hosted, ss, tx, y_numbers, y_globals, y_entries, y_attrs, y_classOf, y_alive, y_orders, y_lengths, y_letters, y_bases, q9, q10, y_locals, y_fRecv, y_fLine, y_fPos, y_fStmt, y_fTarget, y_fMask, y_fHome, fo, y_fVals, y_fNew, y_out)) : wpY_formRight post (y_maxObjects, y_maxSteps, y_maxDepth, y_kept, y_end, y_tokens, y_pending, y_lines, y_classes, y_prints, y_place, y_steps, 0, 0, 0, y_opens, y_pos, y_tk, y_tv, y_stmt, y_target, y_err, y_code, y_outcome, y_result, 0, y_want, y_starting, y_ended, y_bad, y_hosted, 0, tx, y_numbers, y_globals, y_entries, y_attrs, y_classOf, y_alive, y_orders, y_lengths, y_letters, y_bases, y_vals, y_ops, y_locals, y_fRecv, y_fLine, y_fPos, y_fStmt, y_fTarget, y_fMask, y_fHome, fo, y_fVals, y_fNew, y_out) (nI p) := by
  subst ets
  have hT1 := (hs_TAc hTA).2.2.2.2.2
  have hv1 : ∀ x, x ∈ r → hs_vt x := fun x hx => hv x (List.mem_cons_of_mem _ hx)
  unfold wpY_formRight
  refine hs_yHeadW hTA (by decide) (br_f (nI_nlt (b := 1) (by decide) (by decide)) (br_f (nI_nlt (a := 10) (by decide) (by decide)) (br_f (hs_ne (a := 2) (b := 1) (by decide) (by decide) (by decide)) (br_t rfl (hs_yDef hT1 hv1 (fun f s t hC _ _ _ => ⟨hs_narB (Or.inr rfl), ?_⟩) (fun hC _ _ _ => ⟨hs_narB (Or.inl rfl), ?_⟩))))))
  · refine H1 2 f s t [] ⟨rfl, rfl, hC⟩ _ _ _ _ _ _ _ _ _ _ _ ⟨fun y => ?_, fun y => absurd y (by decide)⟩ (Or.inl rfl) ⟨fun y => absurd y (hs_ne (a := 2) (b := 51) (by decide) (by decide) (by decide)), fun y => absurd y (by decide)⟩
    exfalso
    obtain ⟨n, a, hn, ha, _, _, hh⟩ := hC
    have tn := hs_tkN hn
    have ta := hs_tkN ha
    rcases hh with ⟨e, _⟩ | ⟨b, hb, _, e, _⟩
    · subst e; simp at y; omega
    · have tb := hs_tkN hb
      subst e; simp at y; omega
  · refine H0 (fun k f s t cd hL => ?_) _ _ _ _ _ _ _ _ _ _ _
    have hL : k = 2 ∧ cd = [] ∧ hs_DH f s t r := hL
    exact hC f s t hL.2.2
theorem hs_yFm3 {tx fo : Nat → Int32} {p : Nat} {r ts : List Nat} (ets : ts = 3 :: r) (hfo : fo 0 = nI 0) (hTA : hs_TA tx p ts) (hv : ∀ x, x ∈ ts → hs_vt x) (hl : ts.length ≤ 40) {post : Int32 → SY → Prop}
    (H1 : ∀ (k f s t : Int32) (cd : List (Nat × Nat)), hs_LF k f s t cd ts → ∀ (q1 q2 q3 q4 sm q6 q7 q8 ss : Int32) (q9 : Nat → Int64) (q10 : Nat → Int32), (13 ∈ ts ↔ ss = 1) → (ss = 0 ∨ ss = 1) → (sm = 51 ↔ k = 15) → post 1 (y_maxObjects, y_maxSteps, y_maxDepth, y_kept, y_end, y_tokens, y_pending, y_lines, y_classes, y_prints, y_place, y_steps, 0, 0, 0, q1, q2, q3, q4, sm, q6, y_err, y_code, y_outcome, y_result, 0, q7, y_starting, y_ended, q8, y_hosted, ss, tx, y_numbers, y_globals, y_entries, y_attrs, y_classOf, y_alive, y_orders, y_lengths, y_letters, y_bases, q9, q10, y_locals, y_fRecv, y_fLine, y_fPos, y_fStmt, y_fTarget, y_fMask, y_fHome, fo, y_fVals, y_fNew, y_out))
    (H0 : (∀ (k f s t : Int32) (cd : List (Nat × Nat)), ¬ hs_LF k f s t cd ts) → ∀ (q1 q2 q3 q4 sm q6 q7 q8 ss : Int32) (q9 : Nat → Int64) (q10 : Nat → Int32), post 0 (y_maxObjects, y_maxSteps, y_maxDepth, y_kept, y_end, y_tokens, y_pending, y_lines, y_classes, y_prints, y_place, y_steps, 0, 0, 0, q1, q2, q3, q4, sm, q6, y_err, y_code, y_outcome, y_result, 0, q7, y_starting, y_ended, q8, y_hosted, ss, tx, y_numbers, y_globals, y_entries, y_attrs, y_classOf, y_alive, y_orders, y_lengths, y_letters, y_bases, q9, q10, y_locals, y_fRecv, y_fLine, y_fPos, y_fStmt, y_fTarget, y_fMask, y_fHome, fo, y_fVals, y_fNew, y_out)) : wpY_formRight post (y_maxObjects, y_maxSteps, y_maxDepth, y_kept, y_end, y_tokens, y_pending, y_lines, y_classes, y_prints, y_place, y_steps, 0, 0, 0, y_opens, y_pos, y_tk, y_tv, y_stmt, y_target, y_err, y_code, y_outcome, y_result, 0, y_want, y_starting, y_ended, y_bad, y_hosted, 0, tx, y_numbers, y_globals, y_entries, y_attrs, y_classOf, y_alive, y_orders, y_lengths, y_letters, y_bases, y_vals, y_ops, y_locals, y_fRecv, y_fLine, y_fPos, y_fStmt, y_fTarget, y_fMask, y_fHome, fo, y_fVals, y_fNew, y_out) (nI p) := by
  subst ets
  have hT1 := (hs_TAc hTA).2.2.2.2.2
  have hv1 : ∀ x, x ∈ r → hs_vt x := fun x hx => hv x (List.mem_cons_of_mem _ hx)
  unfold wpY_formRight
  have m13 : 13 ∈ 3 :: r ↔ 13 ∈ r := by
    constructor
    · intro y
      rcases List.mem_cons.mp y with q | q
      · cases q
      · exact q
    · exact List.mem_cons_of_mem _
  refine hs_yHeadW hTA (by decide) (br_f (nI_nlt (b := 1) (by decide) (by decide)) (br_f (nI_nlt (a := 10) (by decide) (by decide)) (br_f (hs_ne (a := 3) (b := 1) (by decide) (by decide) (by decide)) (br_f (hs_ne (a := 3) (b := 2) (by decide) (by decide) (by decide)) (br_t rfl (hs_yF158 (z := false) hfo ⟨fun y => absurd y (by decide), fun y => absurd y (hs_ne (a := 3) (b := 50) (by decide) (by decide) (by decide))⟩ hT1 hv1 (by simp only [List.length_cons] at hl; omega) (fun cd fs hS q1 q2 q3 q4 q7 q8 ss q9 q10 hm hs => ?_) (fun hno q1 q2 q3 q4 q7 q8 ss q9 q10 => ?_)))))))
  · have hfs : fs = [] := by
      rcases (hs_gstS hS).2 with q | ⟨q, _⟩
      · exact q
      · cases q
    subst hfs
    exact H1 (nI 3) 0 0 0 cd ⟨rfl, hS⟩ _ _ _ _ _ _ _ _ _ _ _ (m13.trans hm) hs ⟨fun y => absurd y (hs_ne (a := 3) (b := 51) (by decide) (by decide) (by decide)), fun y => absurd y (hs_ne (a := 3) (b := 15) (by decide) (by decide) (by decide))⟩
  · refine H0 (fun k f s t cd hL => ?_) _ _ _ _ _ _ _ _ _ _ _
    obtain ⟨_, hS⟩ : k = nI 3 ∧ hs_S false r true [] cd [] [] := hL
    exact hno cd [] hS
theorem hs_yFm4 {tx fo : Nat → Int32} {p : Nat} {r ts : List Nat} (ets : ts = 4 :: r) (hfo : fo 0 = nI 0) (hTA : hs_TA tx p ts) (hv : ∀ x, x ∈ ts → hs_vt x) (hl : ts.length ≤ 40) {post : Int32 → SY → Prop}
    (H1 : ∀ (k f s t : Int32) (cd : List (Nat × Nat)), hs_LF k f s t cd ts → ∀ (q1 q2 q3 q4 sm q6 q7 q8 ss : Int32) (q9 : Nat → Int64) (q10 : Nat → Int32), (13 ∈ ts ↔ ss = 1) → (ss = 0 ∨ ss = 1) → (sm = 51 ↔ k = 15) → post 1 (y_maxObjects, y_maxSteps, y_maxDepth, y_kept, y_end, y_tokens, y_pending, y_lines, y_classes, y_prints, y_place, y_steps, 0, 0, 0, q1, q2, q3, q4, sm, q6, y_err, y_code, y_outcome, y_result, 0, q7, y_starting, y_ended, q8, y_hosted, ss, tx, y_numbers, y_globals, y_entries, y_attrs, y_classOf, y_alive, y_orders, y_lengths, y_letters, y_bases, q9, q10, y_locals, y_fRecv, y_fLine, y_fPos, y_fStmt, y_fTarget, y_fMask, y_fHome, fo, y_fVals, y_fNew, y_out))
    (H0 : (∀ (k f s t : Int32) (cd : List (Nat × Nat)), ¬ hs_LF k f s t cd ts) → ∀ (q1 q2 q3 q4 sm q6 q7 q8 ss : Int32) (q9 : Nat → Int64) (q10 : Nat → Int32), post 0 (y_maxObjects, y_maxSteps, y_maxDepth, y_kept, y_end, y_tokens, y_pending, y_lines, y_classes, y_prints, y_place, y_steps, 0, 0, 0, q1, q2, q3, q4, sm, q6, y_err, y_code, y_outcome, y_result, 0, q7, y_starting, y_ended, q8, y_hosted, ss, tx, y_numbers, y_globals, y_entries, y_attrs, y_classOf, y_alive, y_orders, y_lengths, y_letters, y_bases, q9, q10, y_locals, y_fRecv, y_fLine, y_fPos, y_fStmt, y_fTarget, y_fMask, y_fHome, fo, y_fVals, y_fNew, y_out)) : wpY_formRight post (y_maxObjects, y_maxSteps, y_maxDepth, y_kept, y_end, y_tokens, y_pending, y_lines, y_classes, y_prints, y_place, y_steps, 0, 0, 0, y_opens, y_pos, y_tk, y_tv, y_stmt, y_target, y_err, y_code, y_outcome, y_result, 0, y_want, y_starting, y_ended, y_bad, y_hosted, 0, tx, y_numbers, y_globals, y_entries, y_attrs, y_classOf, y_alive, y_orders, y_lengths, y_letters, y_bases, y_vals, y_ops, y_locals, y_fRecv, y_fLine, y_fPos, y_fStmt, y_fTarget, y_fMask, y_fHome, fo, y_fVals, y_fNew, y_out) (nI p) := by
  subst ets
  have hT1 := (hs_TAc hTA).2.2.2.2.2
  have hv1 : ∀ x, x ∈ r → hs_vt x := fun x hx => hv x (List.mem_cons_of_mem _ hx)
  unfold wpY_formRight
  have m13 : 13 ∈ 4 :: r ↔ 13 ∈ r := by
    constructor
    · intro y
      rcases List.mem_cons.mp y with q | q
      · cases q
      · exact q
    · exact List.mem_cons_of_mem _
  refine hs_yHeadW hTA (by decide) (br_f (nI_nlt (b := 1) (by decide) (by decide)) (br_f (nI_nlt (a := 10) (by decide) (by decide)) (br_f (hs_ne (a := 4) (b := 1) (by decide) (by decide) (by decide)) (br_f (hs_ne (a := 4) (b := 2) (by decide) (by decide) (by decide)) (br_f (hs_ne (a := 4) (b := 3) (by decide) (by decide) (by decide)) (br_t rfl (hs_yF135 hfo (hs_ne (a := 4) (b := 50) (by decide) (by decide) (by decide)) hT1 hv1 (by simp only [List.length_cons] at hl; omega) (fun cd r0 er hS q1 q2 q3 q4 q7 q8 ss q9 q10 hm hs => ?_) (fun hno q1 q2 q3 q4 q7 q8 ss q9 q10 => ?_))))))))
  · exact H1 (nI 4) 0 0 0 cd ⟨rfl, r0, er, hS⟩ _ _ _ _ _ _ _ _ _ _ _ (m13.trans hm) hs ⟨fun y => absurd y (hs_ne (a := 4) (b := 51) (by decide) (by decide) (by decide)), fun y => absurd y (hs_ne (a := 4) (b := 15) (by decide) (by decide) (by decide))⟩
  · refine H0 (fun k f s t cd hL => ?_) _ _ _ _ _ _ _ _ _ _ _
    obtain ⟨_, r', e, hS⟩ : k = nI 4 ∧ ∃ r', r = r' ++ [25] ∧ hs_S false r' true [] cd [] [] := hL
    exact hno cd r' ⟨e, hS⟩
theorem hs_yFm5 {tx fo : Nat → Int32} {p : Nat} {r ts : List Nat} (ets : ts = 5 :: r) (hfo : fo 0 = nI 0) (hTA : hs_TA tx p ts) (hv : ∀ x, x ∈ ts → hs_vt x) (hl : ts.length ≤ 40) {post : Int32 → SY → Prop}
    (H1 : ∀ (k f s t : Int32) (cd : List (Nat × Nat)), hs_LF k f s t cd ts → ∀ (q1 q2 q3 q4 sm q6 q7 q8 ss : Int32) (q9 : Nat → Int64) (q10 : Nat → Int32), (13 ∈ ts ↔ ss = 1) → (ss = 0 ∨ ss = 1) → (sm = 51 ↔ k = 15) → post 1 (y_maxObjects, y_maxSteps, y_maxDepth, y_kept, y_end, y_tokens, y_pending, y_lines, y_classes, y_prints, y_place, y_steps, 0, 0, 0, q1, q2, q3, q4, sm, q6, y_err, y_code, y_outcome, y_result, 0, q7, y_starting, y_ended, q8, y_hosted, ss, tx, y_numbers, y_globals, y_entries, y_attrs, y_classOf, y_alive, y_orders, y_lengths, y_letters, y_bases, q9, q10, y_locals, y_fRecv, y_fLine, y_fPos, y_fStmt, y_fTarget, y_fMask, y_fHome, fo, y_fVals, y_fNew, y_out))
    (H0 : (∀ (k f s t : Int32) (cd : List (Nat × Nat)), ¬ hs_LF k f s t cd ts) → ∀ (q1 q2 q3 q4 sm q6 q7 q8 ss : Int32) (q9 : Nat → Int64) (q10 : Nat → Int32), post 0 (y_maxObjects, y_maxSteps, y_maxDepth, y_kept, y_end, y_tokens, y_pending, y_lines, y_classes, y_prints, y_place, y_steps, 0, 0, 0, q1, q2, q3, q4, sm, q6, y_err, y_code, y_outcome, y_result, 0, q7, y_starting, y_ended, q8, y_hosted, ss, tx, y_numbers, y_globals, y_entries, y_attrs, y_classOf, y_alive, y_orders, y_lengths, y_letters, y_bases, q9, q10, y_locals, y_fRecv, y_fLine, y_fPos, y_fStmt, y_fTarget, y_fMask, y_fHome, fo, y_fVals, y_fNew, y_out)) : wpY_formRight post (y_maxObjects, y_maxSteps, y_maxDepth, y_kept, y_end, y_tokens, y_pending, y_lines, y_classes, y_prints, y_place, y_steps, 0, 0, 0, y_opens, y_pos, y_tk, y_tv, y_stmt, y_target, y_err, y_code, y_outcome, y_result, 0, y_want, y_starting, y_ended, y_bad, y_hosted, 0, tx, y_numbers, y_globals, y_entries, y_attrs, y_classOf, y_alive, y_orders, y_lengths, y_letters, y_bases, y_vals, y_ops, y_locals, y_fRecv, y_fLine, y_fPos, y_fStmt, y_fTarget, y_fMask, y_fHome, fo, y_fVals, y_fNew, y_out) (nI p) := by
  subst ets
  have hT1 := (hs_TAc hTA).2.2.2.2.2
  have hv1 : ∀ x, x ∈ r → hs_vt x := fun x hx => hv x (List.mem_cons_of_mem _ hx)
  unfold wpY_formRight
  refine hs_yHeadW hTA (by decide) (br_f (nI_nlt (b := 1) (by decide) (by decide)) (br_f (nI_nlt (a := 10) (by decide) (by decide)) (br_f (hs_ne (a := 5) (b := 1) (by decide) (by decide) (by decide)) (br_f (hs_ne (a := 5) (b := 2) (by decide) (by decide) (by decide)) (br_f (hs_ne (a := 5) (b := 3) (by decide) (by decide) (by decide)) (br_f (hs_ne (a := 5) (b := 4) (by decide) (by decide) (by decide)) (br_t rfl (hs_yF70 hT1 (fun er _ _ _ => ?_) (fun er _ _ _ => ?_)))))))))
  · exact H1 (nI 5) 0 0 0 [] ⟨rfl, er, rfl⟩ _ _ _ _ _ _ _ _ _ _ _ (by subst er; decide) (Or.inl rfl) ⟨fun y => absurd y (hs_ne (a := 5) (b := 51) (by decide) (by decide) (by decide)), fun y => absurd y (hs_ne (a := 5) (b := 15) (by decide) (by decide) (by decide))⟩
  · refine H0 (fun k f s t cd hL => er ?_) _ _ _ _ _ _ _ _ _ _ _
    have hL : k = nI 5 ∧ r = [25] ∧ cd = [] := hL
    exact hL.2.1
theorem hs_yFm6 {tx fo : Nat → Int32} {p : Nat} {r ts : List Nat} (ets : ts = 6 :: r) (hfo : fo 0 = nI 0) (hTA : hs_TA tx p ts) (hv : ∀ x, x ∈ ts → hs_vt x) (hl : ts.length ≤ 40) {post : Int32 → SY → Prop}
    (H1 : ∀ (k f s t : Int32) (cd : List (Nat × Nat)), hs_LF k f s t cd ts → ∀ (q1 q2 q3 q4 sm q6 q7 q8 ss : Int32) (q9 : Nat → Int64) (q10 : Nat → Int32), (13 ∈ ts ↔ ss = 1) → (ss = 0 ∨ ss = 1) → (sm = 51 ↔ k = 15) → post 1 (y_maxObjects, y_maxSteps, y_maxDepth, y_kept, y_end, y_tokens, y_pending, y_lines, y_classes, y_prints, y_place, y_steps, 0, 0, 0, q1, q2, q3, q4, sm, q6, y_err, y_code, y_outcome, y_result, 0, q7, y_starting, y_ended, q8, y_hosted, ss, tx, y_numbers, y_globals, y_entries, y_attrs, y_classOf, y_alive, y_orders, y_lengths, y_letters, y_bases, q9, q10, y_locals, y_fRecv, y_fLine, y_fPos, y_fStmt, y_fTarget, y_fMask, y_fHome, fo, y_fVals, y_fNew, y_out))
    (H0 : (∀ (k f s t : Int32) (cd : List (Nat × Nat)), ¬ hs_LF k f s t cd ts) → ∀ (q1 q2 q3 q4 sm q6 q7 q8 ss : Int32) (q9 : Nat → Int64) (q10 : Nat → Int32), post 0 (y_maxObjects, y_maxSteps, y_maxDepth, y_kept, y_end, y_tokens, y_pending, y_lines, y_classes, y_prints, y_place, y_steps, 0, 0, 0, q1, q2, q3, q4, sm, q6, y_err, y_code, y_outcome, y_result, 0, q7, y_starting, y_ended, q8, y_hosted, ss, tx, y_numbers, y_globals, y_entries, y_attrs, y_classOf, y_alive, y_orders, y_lengths, y_letters, y_bases, q9, q10, y_locals, y_fRecv, y_fLine, y_fPos, y_fStmt, y_fTarget, y_fMask, y_fHome, fo, y_fVals, y_fNew, y_out)) : wpY_formRight post (y_maxObjects, y_maxSteps, y_maxDepth, y_kept, y_end, y_tokens, y_pending, y_lines, y_classes, y_prints, y_place, y_steps, 0, 0, 0, y_opens, y_pos, y_tk, y_tv, y_stmt, y_target, y_err, y_code, y_outcome, y_result, 0, y_want, y_starting, y_ended, y_bad, y_hosted, 0, tx, y_numbers, y_globals, y_entries, y_attrs, y_classOf, y_alive, y_orders, y_lengths, y_letters, y_bases, y_vals, y_ops, y_locals, y_fRecv, y_fLine, y_fPos, y_fStmt, y_fTarget, y_fMask, y_fHome, fo, y_fVals, y_fNew, y_out) (nI p) := by
  subst ets
  have hT1 := (hs_TAc hTA).2.2.2.2.2
  have hv1 : ∀ x, x ∈ r → hs_vt x := fun x hx => hv x (List.mem_cons_of_mem _ hx)
  unfold wpY_formRight
  have m13 : 13 ∈ 6 :: r ↔ 13 ∈ r := by
    constructor
    · intro y
      rcases List.mem_cons.mp y with q | q
      · cases q
      · exact q
    · exact List.mem_cons_of_mem _
  refine hs_yHeadW hTA (by decide) (br_f (nI_nlt (b := 1) (by decide) (by decide)) (br_f (nI_nlt (a := 10) (by decide) (by decide)) (br_f (hs_ne (a := 6) (b := 1) (by decide) (by decide) (by decide)) (br_f (hs_ne (a := 6) (b := 2) (by decide) (by decide) (by decide)) (br_f (hs_ne (a := 6) (b := 3) (by decide) (by decide) (by decide)) (br_f (hs_ne (a := 6) (b := 4) (by decide) (by decide) (by decide)) (br_f (hs_ne (a := 6) (b := 5) (by decide) (by decide) (by decide)) (br_t rfl (hs_yF135 hfo (hs_ne (a := 6) (b := 50) (by decide) (by decide) (by decide)) hT1 hv1 (by simp only [List.length_cons] at hl; omega) (fun cd r0 er hS q1 q2 q3 q4 q7 q8 ss q9 q10 hm hs => ?_) (fun hno q1 q2 q3 q4 q7 q8 ss q9 q10 => ?_))))))))))
  · exact H1 (nI 6) 0 0 0 cd ⟨rfl, r0, er, hS⟩ _ _ _ _ _ _ _ _ _ _ _ (m13.trans hm) hs ⟨fun y => absurd y (hs_ne (a := 6) (b := 51) (by decide) (by decide) (by decide)), fun y => absurd y (hs_ne (a := 6) (b := 15) (by decide) (by decide) (by decide))⟩
  · refine H0 (fun k f s t cd hL => ?_) _ _ _ _ _ _ _ _ _ _ _
    obtain ⟨_, r', e, hS⟩ : k = nI 6 ∧ ∃ r', r = r' ++ [25] ∧ hs_S false r' true [] cd [] [] := hL
    exact hno cd r' ⟨e, hS⟩
theorem hs_yFm7 {tx fo : Nat → Int32} {p : Nat} {r ts : List Nat} (ets : ts = 7 :: r) (hfo : fo 0 = nI 0) (hTA : hs_TA tx p ts) (hv : ∀ x, x ∈ ts → hs_vt x) (hl : ts.length ≤ 40) {post : Int32 → SY → Prop}
    (H1 : ∀ (k f s t : Int32) (cd : List (Nat × Nat)), hs_LF k f s t cd ts → ∀ (q1 q2 q3 q4 sm q6 q7 q8 ss : Int32) (q9 : Nat → Int64) (q10 : Nat → Int32), (13 ∈ ts ↔ ss = 1) → (ss = 0 ∨ ss = 1) → (sm = 51 ↔ k = 15) → post 1 (y_maxObjects, y_maxSteps, y_maxDepth, y_kept, y_end, y_tokens, y_pending, y_lines, y_classes, y_prints, y_place, y_steps, 0, 0, 0, q1, q2, q3, q4, sm, q6, y_err, y_code, y_outcome, y_result, 0, q7, y_starting, y_ended, q8, y_hosted, ss, tx, y_numbers, y_globals, y_entries, y_attrs, y_classOf, y_alive, y_orders, y_lengths, y_letters, y_bases, q9, q10, y_locals, y_fRecv, y_fLine, y_fPos, y_fStmt, y_fTarget, y_fMask, y_fHome, fo, y_fVals, y_fNew, y_out))
    (H0 : (∀ (k f s t : Int32) (cd : List (Nat × Nat)), ¬ hs_LF k f s t cd ts) → ∀ (q1 q2 q3 q4 sm q6 q7 q8 ss : Int32) (q9 : Nat → Int64) (q10 : Nat → Int32), post 0 (y_maxObjects, y_maxSteps, y_maxDepth, y_kept, y_end, y_tokens, y_pending, y_lines, y_classes, y_prints, y_place, y_steps, 0, 0, 0, q1, q2, q3, q4, sm, q6, y_err, y_code, y_outcome, y_result, 0, q7, y_starting, y_ended, q8, y_hosted, ss, tx, y_numbers, y_globals, y_entries, y_attrs, y_classOf, y_alive, y_orders, y_lengths, y_letters, y_bases, q9, q10, y_locals, y_fRecv, y_fLine, y_fPos, y_fStmt, y_fTarget, y_fMask, y_fHome, fo, y_fVals, y_fNew, y_out)) : wpY_formRight post (y_maxObjects, y_maxSteps, y_maxDepth, y_kept, y_end, y_tokens, y_pending, y_lines, y_classes, y_prints, y_place, y_steps, 0, 0, 0, y_opens, y_pos, y_tk, y_tv, y_stmt, y_target, y_err, y_code, y_outcome, y_result, 0, y_want, y_starting, y_ended, y_bad, y_hosted, 0, tx, y_numbers, y_globals, y_entries, y_attrs, y_classOf, y_alive, y_orders, y_lengths, y_letters, y_bases, y_vals, y_ops, y_locals, y_fRecv, y_fLine, y_fPos, y_fStmt, y_fTarget, y_fMask, y_fHome, fo, y_fVals, y_fNew, y_out) (nI p) := by
  subst ets
  have hT1 := (hs_TAc hTA).2.2.2.2.2
  have hv1 : ∀ x, x ∈ r → hs_vt x := fun x hx => hv x (List.mem_cons_of_mem _ hx)
  unfold wpY_formRight
  refine hs_yHeadW hTA (by decide) (br_f (nI_nlt (b := 1) (by decide) (by decide)) (br_f (nI_nlt (a := 10) (by decide) (by decide)) (br_f (hs_ne (a := 7) (b := 1) (by decide) (by decide) (by decide)) (br_f (hs_ne (a := 7) (b := 2) (by decide) (by decide) (by decide)) (br_f (hs_ne (a := 7) (b := 3) (by decide) (by decide) (by decide)) (br_f (hs_ne (a := 7) (b := 4) (by decide) (by decide) (by decide)) (br_f (hs_ne (a := 7) (b := 5) (by decide) (by decide) (by decide)) (br_f (hs_ne (a := 7) (b := 6) (by decide) (by decide) (by decide)) (br_t rfl (hs_yF70 hT1 (fun er _ _ _ => ?_) (fun er _ _ _ => ?_)))))))))))
  · exact H1 (nI 7) 0 0 0 [] ⟨rfl, er, rfl⟩ _ _ _ _ _ _ _ _ _ _ _ (by subst er; decide) (Or.inl rfl) ⟨fun y => absurd y (hs_ne (a := 7) (b := 51) (by decide) (by decide) (by decide)), fun y => absurd y (hs_ne (a := 7) (b := 15) (by decide) (by decide) (by decide))⟩
  · refine H0 (fun k f s t cd hL => er ?_) _ _ _ _ _ _ _ _ _ _ _
    have hL : k = nI 7 ∧ r = [25] ∧ cd = [] := hL
    exact hL.2.1
theorem hs_yFm8 {tx fo : Nat → Int32} {p : Nat} {r ts : List Nat} (ets : ts = 8 :: r) (hfo : fo 0 = nI 0) (hTA : hs_TA tx p ts) (hv : ∀ x, x ∈ ts → hs_vt x) (hl : ts.length ≤ 40) {post : Int32 → SY → Prop}
    (H1 : ∀ (k f s t : Int32) (cd : List (Nat × Nat)), hs_LF k f s t cd ts → ∀ (q1 q2 q3 q4 sm q6 q7 q8 ss : Int32) (q9 : Nat → Int64) (q10 : Nat → Int32), (13 ∈ ts ↔ ss = 1) → (ss = 0 ∨ ss = 1) → (sm = 51 ↔ k = 15) → post 1 (y_maxObjects, y_maxSteps, y_maxDepth, y_kept, y_end, y_tokens, y_pending, y_lines, y_classes, y_prints, y_place, y_steps, 0, 0, 0, q1, q2, q3, q4, sm, q6, y_err, y_code, y_outcome, y_result, 0, q7, y_starting, y_ended, q8, y_hosted, ss, tx, y_numbers, y_globals, y_entries, y_attrs, y_classOf, y_alive, y_orders, y_lengths, y_letters, y_bases, q9, q10, y_locals, y_fRecv, y_fLine, y_fPos, y_fStmt, y_fTarget, y_fMask, y_fHome, fo, y_fVals, y_fNew, y_out))
    (H0 : (∀ (k f s t : Int32) (cd : List (Nat × Nat)), ¬ hs_LF k f s t cd ts) → ∀ (q1 q2 q3 q4 sm q6 q7 q8 ss : Int32) (q9 : Nat → Int64) (q10 : Nat → Int32), post 0 (y_maxObjects, y_maxSteps, y_maxDepth, y_kept, y_end, y_tokens, y_pending, y_lines, y_classes, y_prints, y_place, y_steps, 0, 0, 0, q1, q2, q3, q4, sm, q6, y_err, y_code, y_outcome, y_result, 0, q7, y_starting, y_ended, q8, y_hosted, ss, tx, y_numbers, y_globals, y_entries, y_attrs, y_classOf, y_alive, y_orders, y_lengths, y_letters, y_bases, q9, q10, y_locals, y_fRecv, y_fLine, y_fPos, y_fStmt, y_fTarget, y_fMask, y_fHome, fo, y_fVals, y_fNew, y_out)) : wpY_formRight post (y_maxObjects, y_maxSteps, y_maxDepth, y_kept, y_end, y_tokens, y_pending, y_lines, y_classes, y_prints, y_place, y_steps, 0, 0, 0, y_opens, y_pos, y_tk, y_tv, y_stmt, y_target, y_err, y_code, y_outcome, y_result, 0, y_want, y_starting, y_ended, y_bad, y_hosted, 0, tx, y_numbers, y_globals, y_entries, y_attrs, y_classOf, y_alive, y_orders, y_lengths, y_letters, y_bases, y_vals, y_ops, y_locals, y_fRecv, y_fLine, y_fPos, y_fStmt, y_fTarget, y_fMask, y_fHome, fo, y_fVals, y_fNew, y_out) (nI p) := by
  subst ets
  have hT1 := (hs_TAc hTA).2.2.2.2.2
  have hv1 : ∀ x, x ∈ r → hs_vt x := fun x hx => hv x (List.mem_cons_of_mem _ hx)
  unfold wpY_formRight
  refine hs_yHeadW hTA (by decide) (br_f (nI_nlt (b := 1) (by decide) (by decide)) (br_f (nI_nlt (a := 10) (by decide) (by decide)) (br_f (hs_ne (a := 8) (b := 1) (by decide) (by decide) (by decide)) (br_f (hs_ne (a := 8) (b := 2) (by decide) (by decide) (by decide)) (br_f (hs_ne (a := 8) (b := 3) (by decide) (by decide) (by decide)) (br_f (hs_ne (a := 8) (b := 4) (by decide) (by decide) (by decide)) (br_f (hs_ne (a := 8) (b := 5) (by decide) (by decide) (by decide)) (br_f (hs_ne (a := 8) (b := 6) (by decide) (by decide) (by decide)) (br_f (hs_ne (a := 8) (b := 7) (by decide) (by decide) (by decide)) (br_t rfl (hs_yIsN hT1 hv1 (fun n r1 er hn => br_f (by decide) ?_) (fun hn _ _ _ => br_t rfl ?_))))))))))))
  · subst er
    have hT2 := (hs_TAc hT1).2.2.2.2.2
    have hn' := hs_tkN hn
    refine hs_yIsK hT2 25 (by decide) (fun r2 er => br_f (by decide) ?_) (fun h25 _ _ _ => br_t rfl ?_)
    · subst er
      refine hs_yIs0 (hs_TAc hT2).2.2.2.2.2 (fun er => br_f (by decide) ?_) (fun er _ _ _ => br_t rfl ?_)
      · subst er
        exact H1 8 (nI (n - 100)) 0 0 [] ⟨rfl, rfl, n, rfl, hn, rfl⟩ _ _ _ _ _ _ _ _ _ _ _ ⟨fun y => by simp at y; omega, fun y => absurd y (by decide)⟩ (Or.inl rfl) ⟨fun y => absurd y (hs_ne (a := 8) (b := 51) (by decide) (by decide) (by decide)), fun y => absurd y (by decide)⟩
      · refine H0 (fun k f s t cd hL => er ?_) _ _ _ _ _ _ _ _ _ _ _
        obtain ⟨_, _, n', e, _⟩ : k = 8 ∧ cd = [] ∧ ∃ n', n :: 25 :: r2 = [n', 25] ∧ hs_isN n' = true ∧ f = nI (n' - 100) := hL
        cases e; rfl
    · refine H0 (fun k f s t cd hL => h25 ?_) _ _ _ _ _ _ _ _ _ _ _
      obtain ⟨_, _, n', e, _⟩ : k = 8 ∧ cd = [] ∧ ∃ n', n :: r1 = [n', 25] ∧ hs_isN n' = true ∧ f = nI (n' - 100) := hL
      cases e; rfl
  · refine H0 (fun k f s t cd hL => ?_) _ _ _ _ _ _ _ _ _ _ _
    obtain ⟨_, _, n', e, hn', _⟩ : k = 8 ∧ cd = [] ∧ ∃ n', r = [n', 25] ∧ hs_isN n' = true ∧ f = nI (n' - 100) := hL
    subst e
    have hn : hs_isN n' = false := hn
    rw [hn'] at hn; cases hn
theorem hs_yFm9 {tx fo : Nat → Int32} {p : Nat} {r ts : List Nat} (ets : ts = 9 :: r) (hfo : fo 0 = nI 0) (hTA : hs_TA tx p ts) (hv : ∀ x, x ∈ ts → hs_vt x) (hl : ts.length ≤ 40) {post : Int32 → SY → Prop}
    (H1 : ∀ (k f s t : Int32) (cd : List (Nat × Nat)), hs_LF k f s t cd ts → ∀ (q1 q2 q3 q4 sm q6 q7 q8 ss : Int32) (q9 : Nat → Int64) (q10 : Nat → Int32), (13 ∈ ts ↔ ss = 1) → (ss = 0 ∨ ss = 1) → (sm = 51 ↔ k = 15) → post 1 (y_maxObjects, y_maxSteps, y_maxDepth, y_kept, y_end, y_tokens, y_pending, y_lines, y_classes, y_prints, y_place, y_steps, 0, 0, 0, q1, q2, q3, q4, sm, q6, y_err, y_code, y_outcome, y_result, 0, q7, y_starting, y_ended, q8, y_hosted, ss, tx, y_numbers, y_globals, y_entries, y_attrs, y_classOf, y_alive, y_orders, y_lengths, y_letters, y_bases, q9, q10, y_locals, y_fRecv, y_fLine, y_fPos, y_fStmt, y_fTarget, y_fMask, y_fHome, fo, y_fVals, y_fNew, y_out))
    (H0 : (∀ (k f s t : Int32) (cd : List (Nat × Nat)), ¬ hs_LF k f s t cd ts) → ∀ (q1 q2 q3 q4 sm q6 q7 q8 ss : Int32) (q9 : Nat → Int64) (q10 : Nat → Int32), post 0 (y_maxObjects, y_maxSteps, y_maxDepth, y_kept, y_end, y_tokens, y_pending, y_lines, y_classes, y_prints, y_place, y_steps, 0, 0, 0, q1, q2, q3, q4, sm, q6, y_err, y_code, y_outcome, y_result, 0, q7, y_starting, y_ended, q8, y_hosted, ss, tx, y_numbers, y_globals, y_entries, y_attrs, y_classOf, y_alive, y_orders, y_lengths, y_letters, y_bases, q9, q10, y_locals, y_fRecv, y_fLine, y_fPos, y_fStmt, y_fTarget, y_fMask, y_fHome, fo, y_fVals, y_fNew, y_out)) : wpY_formRight post (y_maxObjects, y_maxSteps, y_maxDepth, y_kept, y_end, y_tokens, y_pending, y_lines, y_classes, y_prints, y_place, y_steps, 0, 0, 0, y_opens, y_pos, y_tk, y_tv, y_stmt, y_target, y_err, y_code, y_outcome, y_result, 0, y_want, y_starting, y_ended, y_bad, y_hosted, 0, tx, y_numbers, y_globals, y_entries, y_attrs, y_classOf, y_alive, y_orders, y_lengths, y_letters, y_bases, y_vals, y_ops, y_locals, y_fRecv, y_fLine, y_fPos, y_fStmt, y_fTarget, y_fMask, y_fHome, fo, y_fVals, y_fNew, y_out) (nI p) := by
  subst ets
  have hT1 := (hs_TAc hTA).2.2.2.2.2
  have hv1 : ∀ x, x ∈ r → hs_vt x := fun x hx => hv x (List.mem_cons_of_mem _ hx)
  unfold wpY_formRight
  have m13 : 13 ∈ 9 :: r ↔ 13 ∈ r := by
    constructor
    · intro y
      rcases List.mem_cons.mp y with q | q
      · cases q
      · exact q
    · exact List.mem_cons_of_mem _
  refine hs_yHeadW hTA (by decide) (br_f (nI_nlt (b := 1) (by decide) (by decide)) (br_f (nI_nlt (a := 10) (by decide) (by decide)) (br_f (hs_ne (a := 9) (b := 1) (by decide) (by decide) (by decide)) (br_f (hs_ne (a := 9) (b := 2) (by decide) (by decide) (by decide)) (br_f (hs_ne (a := 9) (b := 3) (by decide) (by decide) (by decide)) (br_f (hs_ne (a := 9) (b := 4) (by decide) (by decide) (by decide)) (br_f (hs_ne (a := 9) (b := 5) (by decide) (by decide) (by decide)) (br_f (hs_ne (a := 9) (b := 6) (by decide) (by decide) (by decide)) (br_f (hs_ne (a := 9) (b := 7) (by decide) (by decide) (by decide)) (br_f (hs_ne (a := 9) (b := 8) (by decide) (by decide) (by decide)) (br_t rfl (hs_yF158 (z := false) hfo ⟨fun y => absurd y (by decide), fun y => absurd y (hs_ne (a := 9) (b := 50) (by decide) (by decide) (by decide))⟩ hT1 hv1 (by simp only [List.length_cons] at hl; omega) (fun cd fs hS q1 q2 q3 q4 q7 q8 ss q9 q10 hm hs => ?_) (fun hno q1 q2 q3 q4 q7 q8 ss q9 q10 => ?_)))))))))))))
  · have hfs : fs = [] := by
      rcases (hs_gstS hS).2 with q | ⟨q, _⟩
      · exact q
      · cases q
    subst hfs
    exact H1 (nI 9) 0 0 0 cd ⟨rfl, hS⟩ _ _ _ _ _ _ _ _ _ _ _ (m13.trans hm) hs ⟨fun y => absurd y (hs_ne (a := 9) (b := 51) (by decide) (by decide) (by decide)), fun y => absurd y (hs_ne (a := 9) (b := 15) (by decide) (by decide) (by decide))⟩
  · refine H0 (fun k f s t cd hL => ?_) _ _ _ _ _ _ _ _ _ _ _
    obtain ⟨_, hS⟩ : k = nI 9 ∧ hs_S false r true [] cd [] [] := hL
    exact hno cd [] hS
theorem hs_yFm10 {tx fo : Nat → Int32} {p : Nat} {r ts : List Nat} (ets : ts = 10 :: r) (hfo : fo 0 = nI 0) (hTA : hs_TA tx p ts) (hv : ∀ x, x ∈ ts → hs_vt x) (hl : ts.length ≤ 40) {post : Int32 → SY → Prop}
    (H1 : ∀ (k f s t : Int32) (cd : List (Nat × Nat)), hs_LF k f s t cd ts → ∀ (q1 q2 q3 q4 sm q6 q7 q8 ss : Int32) (q9 : Nat → Int64) (q10 : Nat → Int32), (13 ∈ ts ↔ ss = 1) → (ss = 0 ∨ ss = 1) → (sm = 51 ↔ k = 15) → post 1 (y_maxObjects, y_maxSteps, y_maxDepth, y_kept, y_end, y_tokens, y_pending, y_lines, y_classes, y_prints, y_place, y_steps, 0, 0, 0, q1, q2, q3, q4, sm, q6, y_err, y_code, y_outcome, y_result, 0, q7, y_starting, y_ended, q8, y_hosted, ss, tx, y_numbers, y_globals, y_entries, y_attrs, y_classOf, y_alive, y_orders, y_lengths, y_letters, y_bases, q9, q10, y_locals, y_fRecv, y_fLine, y_fPos, y_fStmt, y_fTarget, y_fMask, y_fHome, fo, y_fVals, y_fNew, y_out))
    (H0 : (∀ (k f s t : Int32) (cd : List (Nat × Nat)), ¬ hs_LF k f s t cd ts) → ∀ (q1 q2 q3 q4 sm q6 q7 q8 ss : Int32) (q9 : Nat → Int64) (q10 : Nat → Int32), post 0 (y_maxObjects, y_maxSteps, y_maxDepth, y_kept, y_end, y_tokens, y_pending, y_lines, y_classes, y_prints, y_place, y_steps, 0, 0, 0, q1, q2, q3, q4, sm, q6, y_err, y_code, y_outcome, y_result, 0, q7, y_starting, y_ended, q8, y_hosted, ss, tx, y_numbers, y_globals, y_entries, y_attrs, y_classOf, y_alive, y_orders, y_lengths, y_letters, y_bases, q9, q10, y_locals, y_fRecv, y_fLine, y_fPos, y_fStmt, y_fTarget, y_fMask, y_fHome, fo, y_fVals, y_fNew, y_out)) : wpY_formRight post (y_maxObjects, y_maxSteps, y_maxDepth, y_kept, y_end, y_tokens, y_pending, y_lines, y_classes, y_prints, y_place, y_steps, 0, 0, 0, y_opens, y_pos, y_tk, y_tv, y_stmt, y_target, y_err, y_code, y_outcome, y_result, 0, y_want, y_starting, y_ended, y_bad, y_hosted, 0, tx, y_numbers, y_globals, y_entries, y_attrs, y_classOf, y_alive, y_orders, y_lengths, y_letters, y_bases, y_vals, y_ops, y_locals, y_fRecv, y_fLine, y_fPos, y_fStmt, y_fTarget, y_fMask, y_fHome, fo, y_fVals, y_fNew, y_out) (nI p) := by
  subst ets
  have hT1 := (hs_TAc hTA).2.2.2.2.2
  have hv1 : ∀ x, x ∈ r → hs_vt x := fun x hx => hv x (List.mem_cons_of_mem _ hx)
  unfold wpY_formRight
  refine hs_yHeadW hTA (by decide) (br_f (nI_nlt (b := 1) (by decide) (by decide)) (br_f (nI_nlt (a := 10) (by decide) (by decide)) (br_f (hs_ne (a := 10) (b := 1) (by decide) (by decide) (by decide)) (br_f (hs_ne (a := 10) (b := 2) (by decide) (by decide) (by decide)) (br_f (hs_ne (a := 10) (b := 3) (by decide) (by decide) (by decide)) (br_f (hs_ne (a := 10) (b := 4) (by decide) (by decide) (by decide)) (br_f (hs_ne (a := 10) (b := 5) (by decide) (by decide) (by decide)) (br_f (hs_ne (a := 10) (b := 6) (by decide) (by decide) (by decide)) (br_f (hs_ne (a := 10) (b := 7) (by decide) (by decide) (by decide)) (br_f (hs_ne (a := 10) (b := 8) (by decide) (by decide) (by decide)) (br_f (hs_ne (a := 10) (b := 9) (by decide) (by decide) (by decide)) (br_t rfl (hs_yIs0 hT1 (fun er => ⟨hs_narB (Or.inr rfl), ?_⟩) (fun er _ _ _ => ⟨hs_narB (Or.inl rfl), ?_⟩))))))))))))))
  · exact H1 10 0 0 0 [] ⟨rfl, er, rfl⟩ _ _ _ _ _ _ _ _ _ _ _ (by subst er; decide) (Or.inl rfl) ⟨fun y => absurd y (hs_ne (a := 10) (b := 51) (by decide) (by decide) (by decide)), fun y => absurd y (by decide)⟩
  · refine H0 (fun k f s t cd hL => er ?_) _ _ _ _ _ _ _ _ _ _ _
    have hL : k = 10 ∧ r = [] ∧ cd = [] := hL
    exact hL.2.1
theorem hs_yFm11 {tx fo : Nat → Int32} {p : Nat} {r ts : List Nat} (ets : ts = 11 :: r) (hfo : fo 0 = nI 0) (hTA : hs_TA tx p ts) (hv : ∀ x, x ∈ ts → hs_vt x) (hl : ts.length ≤ 40) {post : Int32 → SY → Prop}
    (H1 : ∀ (k f s t : Int32) (cd : List (Nat × Nat)), hs_LF k f s t cd ts → ∀ (q1 q2 q3 q4 sm q6 q7 q8 ss : Int32) (q9 : Nat → Int64) (q10 : Nat → Int32), (13 ∈ ts ↔ ss = 1) → (ss = 0 ∨ ss = 1) → (sm = 51 ↔ k = 15) → post 1 (y_maxObjects, y_maxSteps, y_maxDepth, y_kept, y_end, y_tokens, y_pending, y_lines, y_classes, y_prints, y_place, y_steps, 0, 0, 0, q1, q2, q3, q4, sm, q6, y_err, y_code, y_outcome, y_result, 0, q7, y_starting, y_ended, q8, y_hosted, ss, tx, y_numbers, y_globals, y_entries, y_attrs, y_classOf, y_alive, y_orders, y_lengths, y_letters, y_bases, q9, q10, y_locals, y_fRecv, y_fLine, y_fPos, y_fStmt, y_fTarget, y_fMask, y_fHome, fo, y_fVals, y_fNew, y_out))
    (H0 : (∀ (k f s t : Int32) (cd : List (Nat × Nat)), ¬ hs_LF k f s t cd ts) → ∀ (q1 q2 q3 q4 sm q6 q7 q8 ss : Int32) (q9 : Nat → Int64) (q10 : Nat → Int32), post 0 (y_maxObjects, y_maxSteps, y_maxDepth, y_kept, y_end, y_tokens, y_pending, y_lines, y_classes, y_prints, y_place, y_steps, 0, 0, 0, q1, q2, q3, q4, sm, q6, y_err, y_code, y_outcome, y_result, 0, q7, y_starting, y_ended, q8, y_hosted, ss, tx, y_numbers, y_globals, y_entries, y_attrs, y_classOf, y_alive, y_orders, y_lengths, y_letters, y_bases, q9, q10, y_locals, y_fRecv, y_fLine, y_fPos, y_fStmt, y_fTarget, y_fMask, y_fHome, fo, y_fVals, y_fNew, y_out)) : wpY_formRight post (y_maxObjects, y_maxSteps, y_maxDepth, y_kept, y_end, y_tokens, y_pending, y_lines, y_classes, y_prints, y_place, y_steps, 0, 0, 0, y_opens, y_pos, y_tk, y_tv, y_stmt, y_target, y_err, y_code, y_outcome, y_result, 0, y_want, y_starting, y_ended, y_bad, y_hosted, 0, tx, y_numbers, y_globals, y_entries, y_attrs, y_classOf, y_alive, y_orders, y_lengths, y_letters, y_bases, y_vals, y_ops, y_locals, y_fRecv, y_fLine, y_fPos, y_fStmt, y_fTarget, y_fMask, y_fHome, fo, y_fVals, y_fNew, y_out) (nI p) := by
  subst ets
  have hT1 := (hs_TAc hTA).2.2.2.2.2
  have hv1 : ∀ x, x ∈ r → hs_vt x := fun x hx => hv x (List.mem_cons_of_mem _ hx)
  unfold wpY_formRight
  have m13 : 13 ∈ 11 :: r ↔ 13 ∈ r := by
    constructor
    · intro y
      rcases List.mem_cons.mp y with q | q
      · cases q
      · exact q
    · exact List.mem_cons_of_mem _
  refine hs_yHeadW hTA (by decide) (br_f (nI_nlt (b := 1) (by decide) (by decide)) (br_t (nI_lt (a := 10) (by decide) (by decide)) (hs_yF158 (z := false) hfo ⟨fun y => absurd y (by decide), fun y => absurd y (hs_ne (a := 11) (b := 50) (by decide) (by decide) (by decide))⟩ hT1 hv1 (by simp only [List.length_cons] at hl; omega) (fun cd fs hS q1 q2 q3 q4 q7 q8 ss q9 q10 hm hs => ?_) (fun hno q1 q2 q3 q4 q7 q8 ss q9 q10 => ?_))))
  · have hfs : fs = [] := by
      rcases (hs_gstS hS).2 with q | ⟨q, _⟩
      · exact q
      · cases q
    subst hfs
    exact H1 (nI 11) 0 0 0 cd ⟨rfl, hS⟩ _ _ _ _ _ _ _ _ _ _ _ (m13.trans hm) hs ⟨fun y => absurd y (hs_ne (a := 11) (b := 51) (by decide) (by decide) (by decide)), fun y => absurd y (hs_ne (a := 11) (b := 15) (by decide) (by decide) (by decide))⟩
  · refine H0 (fun k f s t cd hL => ?_) _ _ _ _ _ _ _ _ _ _ _
    obtain ⟨_, hS⟩ : k = nI 11 ∧ hs_S false r true [] cd [] [] := hL
    exact hno cd [] hS
end
