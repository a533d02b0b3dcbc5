/-! the form of a line on Y's side -/
section
variable {x_objectLimit x_stepLimit x_depthLimit x_pendingCount x_keptTokens x_keptLines x_lineCount x_codeCount x_cursor x_stop x_waitingCount x_openCount x_classCount x_callCount x_operandCount x_stepsTaken x_error x_raisedCode x_printCount x_lastPlace : Int32} {x_lastResult : Int64} {x_pending x_lineTable x_orders x_merging x_letterClass x_objectClass x_calls x_lastPrints : Nat → Int32} {x_code x_waiting x_globals x_entries x_attributes x_held x_operands : Nat → Int64}
variable {y_maxObjects y_maxSteps y_maxDepth y_kept y_end y_tokens y_pending y_lines y_classes y_prints y_place y_steps y_d y_valTop y_opTop y_opens y_pos y_tk y_tv y_stmt y_target y_err y_code y_outcome y_dry y_want y_starting y_ended y_bad y_hosted y_sawSuper : Int32} {y_result : Int64} {y_text y_numbers y_classOf y_alive y_orders y_lengths y_letters y_bases y_ops y_fLine y_fPos y_fStmt y_fTarget y_fMask y_fHome y_fOps y_fVals y_fNew y_out : Nat → Int32} {y_globals y_entries y_attrs y_vals y_locals y_fRecv : Nat → Int64}
theorem hs_yD70 {tx : Nat → Int32} {p t : Nat} {r : List Nat} (h : hs_TA tx p r) {post : Int32 → SY → Prop} (H1 : t = 22 → r = [25] → ∀ q1 q2 q3 : Int32, post 1 (y_maxObjects, y_maxSteps, y_maxDepth, y_kept, y_end, y_tokens, y_pending, y_lines, y_classes, y_prints, y_place, y_steps, y_d, y_valTop, y_opTop, y_opens, q1, q2, q3, y_stmt, y_target, y_err, y_code, y_outcome, y_result, y_dry, y_want, y_starting, y_ended, y_bad, y_hosted, y_sawSuper, tx, y_numbers, y_globals, y_entries, y_attrs, y_classOf, y_alive, y_orders, y_lengths, y_letters, y_bases, y_vals, y_ops, y_locals, y_fRecv, y_fLine, y_fPos, y_fStmt, y_fTarget, y_fMask, y_fHome, y_fOps, y_fVals, y_fNew, y_out)) (H0 : ¬ (t = 22 ∧ r = [25]) → ∀ q1 q2 q3 : Int32, post 0 (y_maxObjects, y_maxSteps, y_maxDepth, y_kept, y_end, y_tokens, y_pending, y_lines, y_classes, y_prints, y_place, y_steps, y_d, y_valTop, y_opTop, y_opens, q1, q2, q3, y_stmt, y_target, y_err, y_code, y_outcome, y_result, y_dry, y_want, y_starting, y_ended, y_bad, y_hosted, y_sawSuper, tx, y_numbers, y_globals, y_entries, y_attrs, y_classOf, y_alive, y_orders, y_lengths, y_letters, y_bases, y_vals, y_ops, y_locals, y_fRecv, y_fLine, y_fPos, y_fStmt, y_fTarget, y_fMask, y_fHome, y_fOps, y_fVals, y_fNew, y_out)) : wY_defRight_70 post y_maxObjects y_maxSteps y_maxDepth y_kept y_end y_tokens y_pending y_lines y_classes y_prints y_place y_steps y_d y_valTop y_opTop y_opens (nI p) (nI (hs_tk t)) y_tv y_stmt y_target y_err y_code y_outcome y_result y_dry y_want y_starting y_ended y_bad y_hosted y_sawSuper tx y_numbers y_globals y_entries y_attrs y_classOf y_alive y_orders y_lengths y_letters y_bases y_vals y_ops y_locals y_fRecv y_fLine y_fPos y_fStmt y_fTarget y_fMask y_fHome y_fOps y_fVals y_fNew y_out := by
  unfold wY_defRight_70
  have tl := hs_tkLe t
  by_cases e : t = 22
  · subst e
    refine br_t rfl (hs_yIsK h 25 (by decide) (fun r' er => br_f (by decide) ?_) (fun hn _ _ _ => br_t rfl (H0 (fun y => hn (by rw [y.2]; rfl)) _ _ _)))
    subst er
    refine hs_yIs0 (hs_TAc h).2.2.2.2.2 (fun er => br_f (by decide) (H1 rfl (by rw [er]) _ _ _)) (fun er _ _ _ => br_t rfl (H0 (fun y => er ?_) _ _ _))
    have := y.2
    cases this
    rfl
  · exact br_f (hs_ne (b := 22) (hs_tkK e (by decide)) (by omega) (by decide)) (H0 (fun y => e y.1) _ _ _)
theorem hs_yDef {tx : Nat → Int32} {p : Nat} {r : List Nat} (h : hs_TA tx p r) (hv : ∀ x, x ∈ r → hs_vt x) {post : Int32 → SY → Prop} (H1 : ∀ f s t, hs_DH f s t r → ∀ q1 q2 q3 : Int32, post 1 (y_maxObjects, y_maxSteps, y_maxDepth, y_kept, y_end, y_tokens, y_pending, y_lines, y_classes, y_prints, y_place, y_steps, y_d, y_valTop, y_opTop, y_opens, q1, q2, q3, y_stmt, y_target, y_err, y_code, y_outcome, y_result, y_dry, y_want, y_starting, y_ended, y_bad, y_hosted, y_sawSuper, tx, y_numbers, y_globals, y_entries, y_attrs, y_classOf, y_alive, y_orders, y_lengths, y_letters, y_bases, y_vals, y_ops, y_locals, y_fRecv, y_fLine, y_fPos, y_fStmt, y_fTarget, y_fMask, y_fHome, y_fOps, y_fVals, y_fNew, y_out)) (H0 : (∀ f s t, ¬ hs_DH f s t r) → ∀ q1 q2 q3 : Int32, post 0 (y_maxObjects, y_maxSteps, y_maxDepth, y_kept, y_end, y_tokens, y_pending, y_lines, y_classes, y_prints, y_place, y_steps, y_d, y_valTop, y_opTop, y_opens, q1, q2, q3, y_stmt, y_target, y_err, y_code, y_outcome, y_result, y_dry, y_want, y_starting, y_ended, y_bad, y_hosted, y_sawSuper, tx, y_numbers, y_globals, y_entries, y_attrs, y_classOf, y_alive, y_orders, y_lengths, y_letters, y_bases, y_vals, y_ops, y_locals, y_fRecv, y_fLine, y_fPos, y_fStmt, y_fTarget, y_fMask, y_fHome, y_fOps, y_fVals, y_fNew, y_out)) : wpY_defRight post (y_maxObjects, y_maxSteps, y_maxDepth, y_kept, y_end, y_tokens, y_pending, y_lines, y_classes, y_prints, y_place, y_steps, y_d, y_valTop, y_opTop, y_opens, nI p, y_tk, y_tv, y_stmt, y_target, y_err, y_code, y_outcome, y_result, y_dry, y_want, y_starting, y_ended, y_bad, y_hosted, y_sawSuper, tx, y_numbers, y_globals, y_entries, y_attrs, y_classOf, y_alive, y_orders, y_lengths, y_letters, y_bases, y_vals, y_ops, y_locals, y_fRecv, y_fLine, y_fPos, y_fStmt, y_fTarget, y_fMask, y_fHome, y_fOps, y_fVals, y_fNew, y_out) := by
  unfold wpY_defRight
  refine hs_yIsN h hv (fun n r1 e hn => br_f (by decide) ?_) (fun hn q1 q2 q3 => br_t rfl (H0 (fun f s t hh => ?_) _ _ _))
  rotate_left
  · obtain ⟨n', a', hn', _, _, _, hh⟩ := hh
    have : hs_hd r = n' := by
      rcases hh with ⟨e, _⟩ | ⟨_, _, _, e, _⟩ <;> rw [e] <;> rfl
    rw [this, hn'] at hn
    cases hn
  subst e
  have h1 := (hs_TAc h).2.2.2.2.2
  have hv1 : ∀ x, x ∈ r1 → hs_vt x := fun x hx => hv x (List.mem_cons_of_mem _ hx)
  refine hs_yIsK h1 21 (by decide) (fun r2 e => br_f (by decide) ?_) (fun hn2 q1 q2 q3 => br_t rfl (H0 (fun f s t hh => hn2 ?_) _ _ _))
  rotate_left
  · obtain ⟨n', a', _, _, _, _, hh⟩ := hh
    rcases hh with ⟨e, _⟩ | ⟨_, _, _, e, _⟩ <;> cases e <;> rfl
  subst e
  have h2 := (hs_TAc h1).2.2.2.2.2
  have hv2 : ∀ x, x ∈ r2 → hs_vt x := fun x hx => hv1 x (List.mem_cons_of_mem _ hx)
  refine hs_yIsN h2 hv2 (fun a r3 e ha => br_f (by decide) ?_) (fun hn3 q1 q2 q3 => br_t rfl (H0 (fun f s t hh => ?_) _ _ _))
  rotate_left
  · obtain ⟨n', a', _, ha', _, _, hh⟩ := hh
    have : hs_hd r2 = a' := by
      rcases hh with ⟨e, _⟩ | ⟨_, _, _, e, _⟩ <;> cases e <;> rfl
    rw [this, ha'] at hn3
    cases hn3
  subst e
  have h3 := (hs_TAc h2).2.2.2.2.2
  have hv3 : ∀ x, x ∈ r3 → hs_vt x := fun x hx => hv2 x (List.mem_cons_of_mem _ hx)
  have na := hs_tkN ha
  have no3 : (∀ t r4, r3 = t :: r4 → ¬ (t = 22 ∧ r4 = [25])) → (∀ b r4, r3 = 23 :: b :: r4 → ¬ (hs_isN b = true ∧ b ≠ a ∧ r4 = [22, 25])) → ∀ f s t, ¬ hs_DH f s t (n :: 21 :: a :: r3) := by
    intro n1 n2 f s t hh
    obtain ⟨n', a', _, _, _, _, hh⟩ := hh
    rcases hh with ⟨e, _⟩ | ⟨b', hb', hne, e, _⟩
    · cases e
      exact n1 22 [25] rfl ⟨rfl, rfl⟩
    · cases e
      exact n2 b' [22, 25] rfl ⟨hb', hne, rfl⟩
  refine hs_yTok2 h3 (fun q => ?_) (fun d r4 q h4 d0 => ?_)
  · refine br_f (hs_ne (a := 0) (b := 23) (by decide) (by decide) (by decide)) (hs_yD70 (t := 0) (by rw [q] at h3; exact h3) (fun y => absurd y (by decide)) (fun _ => H0 (no3 (fun t r4 e => ?_) (fun t r4 e => ?_))))
    · rw [q] at e; cases e
    · rw [q] at e; cases e
  · have dl := hs_tkLe d
    by_cases d23 : d = 23
    · subst d23
      subst q
      have hv4 : ∀ x, x ∈ r4 → hs_vt x := fun x hx => hv3 x (List.mem_cons_of_mem _ hx)
      refine br_t rfl (hs_yIsN h4 hv4 (fun b r5 e hb => br_f (by decide) ?_) (fun hb q1 q2 q3 => br_t rfl (H0 (no3 (fun t r4' e y => ?_) (fun t r4' e y => ?_)) _ _ _)))
      · subst e
        have h5 := (hs_TAc h4).2.2.2.2.2
        have nb := hs_tkN hb
        refine pk_eq (b - 100) (a - 100) (fun eq => H0 (no3 (fun t r4' e y => ?_) (fun t r4' e y => ?_)) _ _ _) (fun ne => ?_)
        · cases e; cases y.1
        · cases e
          exact y.2.1 (by omega)
        · have no5 : (∀ t r6, r5 = t :: r6 → ¬ (t = 22 ∧ r6 = [25])) → ∀ f s t, ¬ hs_DH f s t (n :: 21 :: a :: 23 :: b :: r5) := by
            intro n1
            refine no3 (fun t r4' e y => ?_) (fun t r4' e y => ?_)
            · cases e; cases y.1
            · cases e
              exact n1 22 [25] y.2.2 ⟨rfl, rfl⟩
          refine hs_yTok2 h5 (fun q => ?_) (fun g r6 q h6 g0 => ?_)
          · refine hs_yD70 (t := 0) (by rw [q] at h5; exact h5) (fun y => absurd y (by decide)) (fun _ => H0 (no5 (fun t r6 e => ?_)))
            rw [q] at e; cases e
          · refine hs_yD70 h6 (fun g22 r25 => ?_) (fun hno => H0 (no5 (fun t r7 e y => hno ?_)))
            · subst g22 r25 q
              exact H1 _ _ _ ⟨n, a, hn, ha, rfl, rfl, Or.inr ⟨b, hb, by omega, rfl, rfl⟩⟩
            · rw [q] at e
              cases e
              exact y
      · cases e; cases y.1
      · cases e
        have hb : hs_isN t = false := hb
        rw [y.1] at hb; cases hb
    · refine br_f (hs_ne (b := 23) (hs_tkK d23 (by decide)) (by omega) (by decide)) (hs_yD70 h4 (fun d22 r25 => ?_) (fun hno => H0 (no3 (fun t r5 e y => hno ?_) (fun t r5 e y => ?_))))
      · subst d22 r25 q
        exact H1 _ _ _ ⟨n, a, hn, ha, rfl, rfl, Or.inl ⟨rfl, rfl⟩⟩
      · rw [q] at e; cases e; exact y
      · rw [q] at e; cases e; exact d23 rfl
/-- what stands in a stack that the automaton builds -/
def hs_gst (z : Bool) : List Nat → Prop
  | [] => True
  | s :: r => (hs_ws s ∧ hs_gst z r) ∨ (z = true ∧ r = [] ∧ ∃ m, hs_isN m = true ∧ s = 5 + 64 * (m - 100))
theorem hs_gstT {z : Bool} {s : Nat} {r : List Nat} (h : hs_gst z (s :: r)) : hs_gst z r := by
  rcases h with h | ⟨_, rfl, _⟩
  · exact h.2
  · trivial
theorem hs_gstStep {z w w' : Bool} {ts st ts' st' : List Nat} {e : List (Nat × Nat)} (hg : hs_gst z st) (h : hs_step z ts w st = some (ts', w', st', e)) : hs_gst z st' := by
  cases w with
  | true =>
    cases ts with
    | nil => cases h
    | cons t r =>
      have E : hs_opd t r st = some (ts', w', st', e) := h
      unfold hs_opd hs_cls hs_sup hs_cl0 at E
      split at E
      · cases E; exact hg
      split at E
      · cases E; exact hg
      split at E
      · cases E; exact hg
      split at E
      · obtain ⟨_, e'⟩ := hs_pshE E; cases e'; exact Or.inl ⟨Or.inl rfl, hg⟩
      split at E
      · rename_i hc
        have tc := hs_tkC hc
        split at E
        · split at E
          · obtain ⟨_, e'⟩ := hs_pshE E; cases e'; exact Or.inl ⟨(hs_wsC (ty := 4) (by decide) (by omega)).1, hg⟩
          split at E
          · split at E
            · split at E
              · cases E; exact hg
              · cases E
            · cases E
          · cases E
        · cases E
      split at E
      · split at E
        · split at E
          · rename_i hh
            have tn := hs_tkN hh.2.1
            obtain ⟨_, e'⟩ := hs_pshE E; cases e'; exact Or.inl ⟨(hs_wsC (ty := 3) (by decide) (by omega)).1, hg⟩
          · cases E
        · cases E
      split at E
      · split at E
        · split at E
          · cases E; exact hs_gstT hg
          · cases E
        · cases E
      · cases E
  | false =>
    have E : hs_opr z ts st = some (ts', w', st', e) := h
    unfold hs_opr at E
    split at E
    · cases E
      cases st with
      | nil => trivial
      | cons s r => exact hs_gstT hg
    cases ts with
    | nil => cases E
    | cons t r =>
      simp only at E
      unfold hs_opr1 hs_dot hs_cl1 at E
      split at E
      · rename_i hr
        have := hs_rank27 hr
        split at E
        · cases E
        · cases E; exact Or.inl ⟨Or.inr (Or.inr this), hg⟩
      split at E
      · split at E
        · split at E
          · rename_i hn
            have tn := hs_tkN hn
            split at E
            · obtain ⟨_, e'⟩ := hs_pshE E; cases e'; exact Or.inl ⟨(hs_wsC (ty := 2) (by decide) (by omega)).1, hg⟩
            split at E
            · rename_i hs
              cases E
              exact Or.inr ⟨hs.2.1, rfl, _, hn, rfl⟩
            · cases E; exact hg
          · cases E
        · cases E
      split at E
      · split at E
        · split at E
          · cases E; exact hs_gstT hg
          split at E
          · cases E; exact hs_gstT hg
          · cases E
        · cases E
      · cases E
theorem hs_gstRun {z : Bool} : ∀ {n : Nat} {ts : List Nat} {w : Bool} {st : List Nat} {cd : List (Nat × Nat)} {rs fs : List Nat}, hs_gst z st → hs_run n z ts w st cd rs fs → (rs = [] ∨ hs_hd rs = 25) ∧ (fs = [] ∨ (z = true ∧ ∃ m, hs_isN m = true ∧ fs = [5 + 64 * (m - 100)])) := by
  intro n
  induction n with
  | zero => intro ts w st cd rs fs _ h; exact h.elim
  | succ n ih =>
    intro ts w st cd rs fs hg h
    rcases h with ⟨f, rfl, rfl, rfl⟩ | ⟨f, ts', w', st', e, cd', E, rfl, h⟩
    · refine ⟨f.2.1, ?_⟩
      cases fs with
      | nil => exact Or.inl rfl
      | cons s r =>
        have f1 : ¬ 27 ≤ s % 64 := f.2.2.1
        have f2 : ¬ (1 ≤ s % 64 ∧ s % 64 ≤ 4) := f.2.2.2
        rcases hg with ⟨h, _⟩ | ⟨hz, rfl, m, hm, rfl⟩
        · exfalso
          rcases h with rfl | q | q
          · exact f2 (by decide)
          · exact f2 ⟨by omega, q.2.1⟩
          · omega
        · exact Or.inr ⟨hz, m, hm, rfl⟩
    · exact ih (hs_gstStep hg E) h
theorem hs_gstS {z : Bool} {ts rs fs : List Nat} {cd : List (Nat × Nat)} (h : hs_S z ts true [] cd rs fs) : (rs = [] ∨ hs_hd rs = 25) ∧ (fs = [] ∨ (z = true ∧ ∃ m, hs_isN m = true ∧ fs = [5 + 64 * (m - 100)])) := by
  obtain ⟨n, h⟩ := h
  exact hs_gstRun (z := z) (st := []) trivial h
end
