/-! Y's live objects -/
section
variable {x_objectLimit x_stepLimit x_depthLimit x_pendingCount x_keptTokens x_keptLines x_lineCount x_codeCount x_cursor x_stop x_waitingCount x_openCount x_classCount x_callCount x_operandCount x_stepsTaken x_error x_raisedCode x_printCount x_lastPlace : Int32} {x_lastResult : Int64} {x_pending x_lineTable x_orders x_merging x_letterClass x_objectClass x_calls x_lastPrints : Nat → Int32} {x_code x_waiting x_globals x_entries x_attributes x_held x_operands : Nat → Int64}
variable {y_maxObjects y_maxSteps y_maxDepth y_kept y_end y_tokens y_pending y_lines y_classes y_prints y_place y_steps y_d y_valTop y_opTop y_opens y_pos y_tk y_tv y_stmt y_target y_err y_code y_outcome y_dry y_want y_starting y_ended y_bad y_hosted y_sawSuper : Int32} {y_result : Int64} {y_text y_numbers y_classOf y_alive y_orders y_lengths y_letters y_bases y_ops y_fLine y_fPos y_fStmt y_fTarget y_fMask y_fHome y_fOps y_fVals y_fNew y_out : Nat → Int32} {y_globals y_entries y_attrs y_vals y_locals y_fRecv : Nat → Int64}
def hs_AL (al : Nat → Int32) (m : Nat) : Prop := ∀ k, k < 8 → al k = (if m.testBit k then 1 else 0)
theorem hs_nar1 : vp_nar .boolean 1 = 1 := by decide
theorem hs_nar0 : vp_nar .boolean 0 = 0 := by decide
theorem hs_ALset {al : Nat → Int32} {m o : Nat} (h : hs_AL al m) (ho : o < 8) : hs_AL (upd al o 1) (m ||| 2 ^ o) := by
  intro k hk
  rw [Nat.testBit_or, Nat.testBit_two_pow]
  by_cases e : k = o
  · subst e
    rw [pk_us]; simp
  · rw [pk_un e, h k hk]
    simp [Ne.symm e]
theorem hs_yMark {al : Nat → Int32} {m : Nat} {v : Int64} (hv : hs_rv v) (hA : hs_AL al m) {post : SY → Prop} (H : ∀ al', hs_AL al' (hs_mk m v) → post (y_maxObjects, y_maxSteps, y_maxDepth, y_kept, y_end, y_tokens, y_pending, y_lines, y_classes, y_prints, y_place, y_steps, y_d, y_valTop, y_opTop, y_opens, y_pos, y_tk, y_tv, y_stmt, y_target, y_err, y_code, y_outcome, y_result, y_dry, y_want, y_starting, y_ended, y_bad, y_hosted, y_sawSuper, y_text, y_numbers, y_globals, y_entries, y_attrs, y_classOf, al', y_orders, y_lengths, y_letters, y_bases, y_vals, y_ops, y_locals, y_fRecv, y_fLine, y_fPos, y_fStmt, y_fTarget, y_fMask, y_fHome, y_fOps, y_fVals, y_fNew, y_out)) : wpY_mark post (y_maxObjects, y_maxSteps, y_maxDepth, y_kept, y_end, y_tokens, y_pending, y_lines, y_classes, y_prints, y_place, y_steps, y_d, y_valTop, y_opTop, y_opens, y_pos, y_tk, y_tv, y_stmt, y_target, y_err, y_code, y_outcome, y_result, y_dry, y_want, y_starting, y_ended, y_bad, y_hosted, y_sawSuper, y_text, y_numbers, y_globals, y_entries, y_attrs, y_classOf, al, y_orders, y_lengths, y_letters, y_bases, y_vals, y_ops, y_locals, y_fRecv, y_fLine, y_fPos, y_fStmt, y_fTarget, y_fMask, y_fHome, y_fOps, y_fVals, y_fNew, y_out) v := by
  unfold hs_mk at H
  cases e : hs_ob v with
  | none =>
    rw [e] at H
    exact br_f (hs_obN hv e).1 (H al hA)
  | some o =>
    rw [e] at H
    obtain ⟨a, b, c, d⟩ := hs_obLt hv e
    refine br_t c ?_
    rw [b, nI_clamp (show o < 2 ^ 31 by omega), hs_nar1]
    exact And.intro (vp_in_nI a (by decide)) (nm_e (H _ (hs_ALset hA a)))
theorem hs_yL209 {al : Nat → Int32} {m : Nat} (hA : hs_AL al m) {post : Int32 → SY → Prop} : ∀ (n i c : Nat), i + n = 8 → post (nI (c + hs_cnt m n i)) (y_maxObjects, y_maxSteps, y_maxDepth, y_kept, y_end, y_tokens, y_pending, y_lines, y_classes, y_prints, y_place, y_steps, y_d, y_valTop, y_opTop, y_opens, y_pos, y_tk, y_tv, y_stmt, y_target, y_err, y_code, y_outcome, y_result, y_dry, y_want, y_starting, y_ended, y_bad, y_hosted, y_sawSuper, y_text, y_numbers, y_globals, y_entries, y_attrs, y_classOf, al, y_orders, y_lengths, y_letters, y_bases, y_vals, y_ops, y_locals, y_fRecv, y_fLine, y_fPos, y_fStmt, y_fTarget, y_fMask, y_fHome, y_fOps, y_fVals, y_fNew, y_out) → wY_markLive_209 post y_maxObjects y_maxSteps y_maxDepth y_kept y_end y_tokens y_pending y_lines y_classes y_prints y_place y_steps y_d y_valTop y_opTop y_opens y_pos y_tk y_tv y_stmt y_target y_err y_code y_outcome y_result y_dry y_want y_starting y_ended y_bad y_hosted y_sawSuper y_text y_numbers y_globals y_entries y_attrs y_classOf al y_orders y_lengths y_letters y_bases y_vals y_ops y_locals y_fRecv y_fLine y_fPos y_fStmt y_fTarget y_fMask y_fHome y_fOps y_fVals y_fNew y_out (n + 1) (nI c) (nI i) := by
  intro n
  induction n with
  | zero =>
    intro i c hi H
    exact br_t (nI_le (a := 8) (by omega) (by omega)) H
  | succ n ih =>
    intro i c hi H
    refine br_f (nI_ge (b := 8) (by omega) (by decide)) (And.intro (vp_in_nI (by omega) (by decide)) ?_)
    rw [nI_clamp (show i < 2 ^ 31 by omega), hA i (by omega)]
    unfold hs_cnt at H
    by_cases t : m.testBit i
    · rw [if_pos t] at H ⊢
      refine br_f (by decide) (nm_r (nI_1 c) (nm_r (nI_1 i) (ih (i + 1) (c + 1) (by omega) ?_)))
      rw [Nat.add_assoc]; exact H
    · rw [if_neg t] at H ⊢
      refine br_t rfl (nm_r (nI_1 i) (ih (i + 1) c (by omega) ?_))
      rw [Nat.zero_add] at H; exact H
theorem hs_yL164 {at1 : Nat → Int64} (hv : ∀ j, j < 208 → hs_rv (at1 j)) {post : Int32 → SY → Prop} {J : Int32 → Int32 → Int32 → Int32 → Int32 → Int32 → Int32 → Int32 → Int32 → Int32 → Int32 → Int32 → Int32 → Int32 → Int32 → Int32 → Int32 → Int32 → Int32 → Int32 → Int32 → Int32 → Int32 → Int32 → Int32 → Int64 → Int32 → Int32 → Int32 → Int32 → Int32 → Int32 → Int32 → (Nat → Int32) → (Nat → Int32) → (Nat → Int64) → (Nat → Int64) → (Nat → Int64) → (Nat → Int32) → (Nat → Int32) → (Nat → Int32) → (Nat → Int32) → (Nat → Int32) → (Nat → Int32) → (Nat → Int64) → (Nat → Int32) → (Nat → Int64) → (Nat → Int64) → (Nat → Int32) → (Nat → Int32) → (Nat → Int32) → (Nat → Int32) → (Nat → Int32) → (Nat → Int32) → (Nat → Int32) → (Nat → Int32) → (Nat → Int32) → (Nat → Int32) → Prop} {x1 : Int32} : ∀ (n i m : Nat) (al : Nat → Int32), i + n = 208 → hs_AL al m → (∀ al', hs_AL al' (hs_rd at1 n i m) → J (x1 + 1) y_maxObjects y_maxSteps y_maxDepth y_kept y_end y_tokens y_pending y_lines y_classes y_prints y_place y_steps y_d y_valTop y_opTop y_opens y_pos y_tk y_tv y_stmt y_target y_err y_code y_outcome y_result y_dry y_want y_starting y_ended y_bad y_hosted y_sawSuper y_text y_numbers y_globals y_entries at1 y_classOf al' y_orders y_lengths y_letters y_bases y_vals y_ops y_locals y_fRecv y_fLine y_fPos y_fStmt y_fTarget y_fMask y_fHome y_fOps y_fVals y_fNew y_out) → wY_markLive_164 post J x1 (n + 1) (nI i) y_maxObjects y_maxSteps y_maxDepth y_kept y_end y_tokens y_pending y_lines y_classes y_prints y_place y_steps y_d y_valTop y_opTop y_opens y_pos y_tk y_tv y_stmt y_target y_err y_code y_outcome y_result y_dry y_want y_starting y_ended y_bad y_hosted y_sawSuper y_text y_numbers y_globals y_entries at1 y_classOf al y_orders y_lengths y_letters y_bases y_vals y_ops y_locals y_fRecv y_fLine y_fPos y_fStmt y_fTarget y_fMask y_fHome y_fOps y_fVals y_fNew y_out := by
  intro n
  induction n with
  | zero =>
    intro i m al hi hA H
    exact br_t (nI_le (a := 208) (by omega) (by omega)) (nm_e (H al hA))
  | succ n ih =>
    intro i m al hi hA H
    have ed : nI i / 26 = nI (i / 26) := pk_div (d := 26) (by omega) (by decide) (by decide)
    refine br_f (nI_ge (b := 208) (by omega) (by decide)) (And.intro (by decide) ?_)
    rw [ed, nI_clamp (show i / 26 < 2 ^ 31 by omega), hA (i / 26) (by omega)]
    refine And.intro (vp_in_nI (by omega) (by decide)) ?_
    unfold hs_rd at H
    by_cases c : m.testBit (i / 26)
    · rw [if_pos c] at H ⊢
      refine br_f (by decide) (And.intro (vp_in_nI (by omega) (by decide)) ?_)
      rw [nI_clamp (show i < 2 ^ 31 by omega)]
      exact hs_yMark (hv i (by omega)) hA (fun al' hA' => nm_r (nI_1 i) (ih (i + 1) _ al' (by omega) hA' H))
    · rw [if_neg c] at H ⊢
      exact br_t rfl (nm_r (nI_1 i) (ih (i + 1) m al (by omega) hA H))
theorem hs_yL156 {at1 : Nat → Int64} (hv : ∀ j, j < 208 → hs_rv (at1 j)) {post : Int32 → SY → Prop} : ∀ (n i m : Nat) (al : Nat → Int32), i + n = 8 → hs_AL al m → (∀ al', hs_AL al' (hs_rds at1 n m) → post (nI (hs_cnt (hs_rds at1 n m) 8 0)) (y_maxObjects, y_maxSteps, y_maxDepth, y_kept, y_end, y_tokens, y_pending, y_lines, y_classes, y_prints, y_place, y_steps, y_d, y_valTop, y_opTop, y_opens, y_pos, y_tk, y_tv, y_stmt, y_target, y_err, y_code, y_outcome, y_result, y_dry, y_want, y_starting, y_ended, y_bad, y_hosted, y_sawSuper, y_text, y_numbers, y_globals, y_entries, at1, y_classOf, al', y_orders, y_lengths, y_letters, y_bases, y_vals, y_ops, y_locals, y_fRecv, y_fLine, y_fPos, y_fStmt, y_fTarget, y_fMask, y_fHome, y_fOps, y_fVals, y_fNew, y_out)) → wY_markLive_156 post (n + 1) (nI i) y_maxObjects y_maxSteps y_maxDepth y_kept y_end y_tokens y_pending y_lines y_classes y_prints y_place y_steps y_d y_valTop y_opTop y_opens y_pos y_tk y_tv y_stmt y_target y_err y_code y_outcome y_result y_dry y_want y_starting y_ended y_bad y_hosted y_sawSuper y_text y_numbers y_globals y_entries at1 y_classOf al y_orders y_lengths y_letters y_bases y_vals y_ops y_locals y_fRecv y_fLine y_fPos y_fStmt y_fTarget y_fMask y_fHome y_fOps y_fVals y_fNew y_out := by
  intro n
  induction n with
  | zero =>
    intro i m al hi hA H
    refine br_t (nI_le (a := 8) (by omega) (by omega)) ⟨9, hs_yL209 hA 8 0 0 rfl ?_⟩
    rw [Nat.zero_add]; exact H al hA
  | succ n ih =>
    intro i m al hi hA H
    refine br_f (nI_ge (b := 8) (by omega) (by decide)) ⟨209, hs_yL164 hv 208 0 m al rfl hA (fun al' hA' => ?_)⟩
    rw [nI_1]
    exact ih (i + 1) _ al' (by omega) hA' H
theorem hs_yL130 {at1 fr : Nat → Int64} {dd : Nat} (hd : dd ≤ 6) (hv : ∀ j, j < 208 → hs_rv (at1 j)) (hr : ∀ j, 1 ≤ j → j ≤ dd → hs_rv (fr j)) {post : Int32 → SY → Prop} : ∀ (n i m : Nat) (al : Nat → Int32), i + n = dd + 1 → 1 ≤ i → hs_AL al m → (∀ al', hs_AL al' (hs_rds at1 8 (hs_mks fr n i m)) → post (nI (hs_cnt (hs_rds at1 8 (hs_mks fr n i m)) 8 0)) (y_maxObjects, y_maxSteps, y_maxDepth, y_kept, y_end, y_tokens, y_pending, y_lines, y_classes, y_prints, y_place, y_steps, nI dd, y_valTop, y_opTop, y_opens, y_pos, y_tk, y_tv, y_stmt, y_target, y_err, y_code, y_outcome, y_result, y_dry, y_want, y_starting, y_ended, y_bad, y_hosted, y_sawSuper, y_text, y_numbers, y_globals, y_entries, at1, y_classOf, al', y_orders, y_lengths, y_letters, y_bases, y_vals, y_ops, y_locals, fr, y_fLine, y_fPos, y_fStmt, y_fTarget, y_fMask, y_fHome, y_fOps, y_fVals, y_fNew, y_out)) → wY_markLive_130 post (n + 1) (nI i) y_maxObjects y_maxSteps y_maxDepth y_kept y_end y_tokens y_pending y_lines y_classes y_prints y_place y_steps (nI dd) y_valTop y_opTop y_opens y_pos y_tk y_tv y_stmt y_target y_err y_code y_outcome y_result y_dry y_want y_starting y_ended y_bad y_hosted y_sawSuper y_text y_numbers y_globals y_entries at1 y_classOf al y_orders y_lengths y_letters y_bases y_vals y_ops y_locals fr y_fLine y_fPos y_fStmt y_fTarget y_fMask y_fHome y_fOps y_fVals y_fNew y_out := by
  intro n
  induction n with
  | zero =>
    intro i m al hi h1 hA H
    exact br_t (nI_lt (by omega) (by omega)) ⟨9, hs_yL156 hv 8 0 m al rfl hA H⟩
  | succ n ih =>
    intro i m al hi h1 hA H
    refine br_f (nI_nlt (by omega) (by omega)) (And.intro (vp_in_nI (by omega) (by decide)) ?_)
    rw [nI_clamp (show i < 2 ^ 31 by omega)]
    exact hs_yMark (hr i h1 (by omega)) hA (fun al' hA' => nm_r (nI_1 i) (ih (i + 1) _ al' (by omega) (by omega) hA' H))
theorem hs_yL99 {at1 fr lo : Nat → Int64} {dd : Nat} (hd : dd ≤ 6) (hv : ∀ j, j < 208 → hs_rv (at1 j)) (hr : ∀ j, 1 ≤ j → j ≤ dd → hs_rv (fr j)) (hl : ∀ j, j < (dd + 1) * 26 → hs_rv (lo j)) {post : Int32 → SY → Prop} : ∀ (n i m : Nat) (al : Nat → Int32), i + n = (dd + 1) * 26 → hs_AL al m → (∀ al', hs_AL al' (hs_rds at1 8 (hs_mks fr dd 1 (hs_mks lo n i m))) → post (nI (hs_cnt (hs_rds at1 8 (hs_mks fr dd 1 (hs_mks lo n i m))) 8 0)) (y_maxObjects, y_maxSteps, y_maxDepth, y_kept, y_end, y_tokens, y_pending, y_lines, y_classes, y_prints, y_place, y_steps, nI dd, y_valTop, y_opTop, y_opens, y_pos, y_tk, y_tv, y_stmt, y_target, y_err, y_code, y_outcome, y_result, y_dry, y_want, y_starting, y_ended, y_bad, y_hosted, y_sawSuper, y_text, y_numbers, y_globals, y_entries, at1, y_classOf, al', y_orders, y_lengths, y_letters, y_bases, y_vals, y_ops, lo, fr, y_fLine, y_fPos, y_fStmt, y_fTarget, y_fMask, y_fHome, y_fOps, y_fVals, y_fNew, y_out)) → wY_markLive_99 post (n + 1) (nI i) y_maxObjects y_maxSteps y_maxDepth y_kept y_end y_tokens y_pending y_lines y_classes y_prints y_place y_steps (nI dd) y_valTop y_opTop y_opens y_pos y_tk y_tv y_stmt y_target y_err y_code y_outcome y_result y_dry y_want y_starting y_ended y_bad y_hosted y_sawSuper y_text y_numbers y_globals y_entries at1 y_classOf al y_orders y_lengths y_letters y_bases y_vals y_ops lo fr y_fLine y_fPos y_fStmt y_fTarget y_fMask y_fHome y_fOps y_fVals y_fNew y_out := by
  have ec : (nI dd + 1) * 26 = nI ((dd + 1) * 26) := by rw [nI_1]; exact pk_mul (dd + 1) 26
  intro n
  induction n with
  | zero =>
    intro i m al hi hA H
    refine br_t ?_ ⟨dd + 1, hs_yL130 hd hv hr dd 1 m al (by omega) (by omega) hA H⟩
    rw [ec]; exact nI_le (by omega) (by omega)
  | succ n ih =>
    intro i m al hi hA H
    refine br_f ?_ (And.intro (vp_in_nI (by omega) (by decide)) ?_)
    · rw [ec]; exact nI_ge (by omega) (by omega)
    rw [nI_clamp (show i < 2 ^ 31 by omega)]
    exact hs_yMark (hl i (by omega)) hA (fun al' hA' => nm_r (nI_1 i) (ih (i + 1) _ al' (by omega) hA' H))
theorem hs_yL72 {at1 fr lo va : Nat → Int64} {dd vn : Nat} (hd : dd ≤ 6) (hvn : vn ≤ 320) (hv : ∀ j, j < 208 → hs_rv (at1 j)) (hr : ∀ j, 1 ≤ j → j ≤ dd → hs_rv (fr j)) (hl : ∀ j, j < (dd + 1) * 26 → hs_rv (lo j)) (ha : ∀ j, j < vn → hs_rv (va j)) {post : Int32 → SY → Prop} : ∀ (n i m : Nat) (al : Nat → Int32), i + n = vn → hs_AL al m → (∀ al', hs_AL al' (hs_rds at1 8 (hs_mks fr dd 1 (hs_mks lo (dd * 26) 26 (hs_mks va n i m)))) → post (nI (hs_cnt (hs_rds at1 8 (hs_mks fr dd 1 (hs_mks lo (dd * 26) 26 (hs_mks va n i m)))) 8 0)) (y_maxObjects, y_maxSteps, y_maxDepth, y_kept, y_end, y_tokens, y_pending, y_lines, y_classes, y_prints, y_place, y_steps, nI dd, nI vn, y_opTop, y_opens, y_pos, y_tk, y_tv, y_stmt, y_target, y_err, y_code, y_outcome, y_result, y_dry, y_want, y_starting, y_ended, y_bad, y_hosted, y_sawSuper, y_text, y_numbers, y_globals, y_entries, at1, y_classOf, al', y_orders, y_lengths, y_letters, y_bases, va, y_ops, lo, fr, y_fLine, y_fPos, y_fStmt, y_fTarget, y_fMask, y_fHome, y_fOps, y_fVals, y_fNew, y_out)) → wY_markLive_72 post (n + 1) (nI i) y_maxObjects y_maxSteps y_maxDepth y_kept y_end y_tokens y_pending y_lines y_classes y_prints y_place y_steps (nI dd) (nI vn) y_opTop y_opens y_pos y_tk y_tv y_stmt y_target y_err y_code y_outcome y_result y_dry y_want y_starting y_ended y_bad y_hosted y_sawSuper y_text y_numbers y_globals y_entries at1 y_classOf al y_orders y_lengths y_letters y_bases va y_ops lo fr y_fLine y_fPos y_fStmt y_fTarget y_fMask y_fHome y_fOps y_fVals y_fNew y_out := by
  intro n
  induction n with
  | zero =>
    intro i m al hi hA H
    exact br_t (nI_le (by omega) (by omega)) ⟨dd * 26 + 1, hs_yL99 hd hv hr hl (dd * 26) 26 m al (by omega) hA H⟩
  | succ n ih =>
    intro i m al hi hA H
    refine br_f (nI_ge (by omega) (by omega)) (And.intro (vp_in_nI (by omega) (by decide)) ?_)
    rw [nI_clamp (show i < 2 ^ 31 by omega)]
    exact hs_yMark (ha i (by omega)) hA (fun al' hA' => nm_r (nI_1 i) (ih (i + 1) _ al' (by omega) hA' H))
theorem hs_yL47 {at1 fr lo va ey : Nat → Int64} {dd vn : Nat} (hd : dd ≤ 6) (hvn : vn ≤ 320) (hv : ∀ j, j < 208 → hs_rv (at1 j)) (hr : ∀ j, 1 ≤ j → j ≤ dd → hs_rv (fr j)) (hl : ∀ j, j < (dd + 1) * 26 → hs_rv (lo j)) (ha : ∀ j, j < vn → hs_rv (va j)) (hx : ∀ j, j < 260 → hs_rv (ey j)) {post : Int32 → SY → Prop} : ∀ (n i m : Nat) (al : Nat → Int32), i + n = 260 → hs_AL al m → (∀ al', hs_AL al' (hs_rds at1 8 (hs_mks fr dd 1 (hs_mks lo (dd * 26) 26 (hs_mks va vn 0 (hs_mks ey n i m))))) → post (nI (hs_cnt (hs_rds at1 8 (hs_mks fr dd 1 (hs_mks lo (dd * 26) 26 (hs_mks va vn 0 (hs_mks ey n i m))))) 8 0)) (y_maxObjects, y_maxSteps, y_maxDepth, y_kept, y_end, y_tokens, y_pending, y_lines, y_classes, y_prints, y_place, y_steps, nI dd, nI vn, y_opTop, y_opens, y_pos, y_tk, y_tv, y_stmt, y_target, y_err, y_code, y_outcome, y_result, y_dry, y_want, y_starting, y_ended, y_bad, y_hosted, y_sawSuper, y_text, y_numbers, y_globals, ey, at1, y_classOf, al', y_orders, y_lengths, y_letters, y_bases, va, y_ops, lo, fr, y_fLine, y_fPos, y_fStmt, y_fTarget, y_fMask, y_fHome, y_fOps, y_fVals, y_fNew, y_out)) → wY_markLive_47 post (n + 1) (nI i) y_maxObjects y_maxSteps y_maxDepth y_kept y_end y_tokens y_pending y_lines y_classes y_prints y_place y_steps (nI dd) (nI vn) y_opTop y_opens y_pos y_tk y_tv y_stmt y_target y_err y_code y_outcome y_result y_dry y_want y_starting y_ended y_bad y_hosted y_sawSuper y_text y_numbers y_globals ey at1 y_classOf al y_orders y_lengths y_letters y_bases va y_ops lo fr y_fLine y_fPos y_fStmt y_fTarget y_fMask y_fHome y_fOps y_fVals y_fNew y_out := by
  intro n
  induction n with
  | zero =>
    intro i m al hi hA H
    exact br_t (nI_le (a := 260) (by omega) (by omega)) ⟨vn + 1, hs_yL72 hd hvn hv hr hl ha vn 0 m al (by omega) hA H⟩
  | succ n ih =>
    intro i m al hi hA H
    refine br_f (nI_ge (b := 260) (by omega) (by decide)) (And.intro (vp_in_nI (by omega) (by decide)) ?_)
    rw [nI_clamp (show i < 2 ^ 31 by omega)]
    exact hs_yMark (hx i (by omega)) hA (fun al' hA' => nm_r (nI_1 i) (ih (i + 1) _ al' (by omega) hA' H))
def hs_ym (gl ey va lo fr at1 : Nat → Int64) (dd vn : Nat) : Nat := hs_rds at1 8 (hs_mks fr dd 1 (hs_mks lo (dd * 26) 26 (hs_mks va vn 0 (hs_mks ey 260 0 (hs_mks gl 26 0 0)))))
theorem hs_yL23 {at1 fr lo va ey gl : Nat → Int64} {dd vn : Nat} (hd : dd ≤ 6) (hvn : vn ≤ 320) (hv : ∀ j, j < 208 → hs_rv (at1 j)) (hr : ∀ j, 1 ≤ j → j ≤ dd → hs_rv (fr j)) (hl : ∀ j, j < (dd + 1) * 26 → hs_rv (lo j)) (ha : ∀ j, j < vn → hs_rv (va j)) (hx : ∀ j, j < 260 → hs_rv (ey j)) (hg : ∀ j, j < 26 → hs_rv (gl j)) {post : Int32 → SY → Prop} : ∀ (n i m : Nat) (al : Nat → Int32), i + n = 26 → hs_AL al m → (∀ al', hs_AL al' (hs_rds at1 8 (hs_mks fr dd 1 (hs_mks lo (dd * 26) 26 (hs_mks va vn 0 (hs_mks ey 260 0 (hs_mks gl n i m)))))) → post (nI (hs_cnt (hs_rds at1 8 (hs_mks fr dd 1 (hs_mks lo (dd * 26) 26 (hs_mks va vn 0 (hs_mks ey 260 0 (hs_mks gl n i m)))))) 8 0)) (y_maxObjects, y_maxSteps, y_maxDepth, y_kept, y_end, y_tokens, y_pending, y_lines, y_classes, y_prints, y_place, y_steps, nI dd, nI vn, y_opTop, y_opens, y_pos, y_tk, y_tv, y_stmt, y_target, y_err, y_code, y_outcome, y_result, y_dry, y_want, y_starting, y_ended, y_bad, y_hosted, y_sawSuper, y_text, y_numbers, gl, ey, at1, y_classOf, al', y_orders, y_lengths, y_letters, y_bases, va, y_ops, lo, fr, y_fLine, y_fPos, y_fStmt, y_fTarget, y_fMask, y_fHome, y_fOps, y_fVals, y_fNew, y_out)) → wY_markLive_23 post (n + 1) (nI i) y_maxObjects y_maxSteps y_maxDepth y_kept y_end y_tokens y_pending y_lines y_classes y_prints y_place y_steps (nI dd) (nI vn) y_opTop y_opens y_pos y_tk y_tv y_stmt y_target y_err y_code y_outcome y_result y_dry y_want y_starting y_ended y_bad y_hosted y_sawSuper y_text y_numbers gl ey at1 y_classOf al y_orders y_lengths y_letters y_bases va y_ops lo fr y_fLine y_fPos y_fStmt y_fTarget y_fMask y_fHome y_fOps y_fVals y_fNew y_out := by
  intro n
  induction n with
  | zero =>
    intro i m al hi hA H
    exact br_t (nI_le (a := 26) (by omega) (by omega)) ⟨261, hs_yL47 hd hvn hv hr hl ha hx 260 0 m al (by omega) hA H⟩
  | succ n ih =>
    intro i m al hi hA H
    refine br_f (nI_ge (b := 26) (by omega) (by decide)) (And.intro (vp_in_nI (by omega) (by decide)) ?_)
    rw [nI_clamp (show i < 2 ^ 31 by omega)]
    exact hs_yMark (hg i (by omega)) hA (fun al' hA' => nm_r (nI_1 i) (ih (i + 1) _ al' (by omega) hA' H))
theorem hs_yL2 {at1 fr lo va ey gl : Nat → Int64} {dd vn : Nat} (hd : dd ≤ 6) (hvn : vn ≤ 320) (hv : ∀ j, j < 208 → hs_rv (at1 j)) (hr : ∀ j, 1 ≤ j → j ≤ dd → hs_rv (fr j)) (hl : ∀ j, j < (dd + 1) * 26 → hs_rv (lo j)) (ha : ∀ j, j < vn → hs_rv (va j)) (hx : ∀ j, j < 260 → hs_rv (ey j)) (hg : ∀ j, j < 26 → hs_rv (gl j)) {post : Int32 → SY → Prop} (H : ∀ al', hs_AL al' (hs_ym gl ey va lo fr at1 dd vn) → post (nI (hs_cnt (hs_ym gl ey va lo fr at1 dd vn) 8 0)) (y_maxObjects, y_maxSteps, y_maxDepth, y_kept, y_end, y_tokens, y_pending, y_lines, y_classes, y_prints, y_place, y_steps, nI dd, nI vn, y_opTop, y_opens, y_pos, y_tk, y_tv, y_stmt, y_target, y_err, y_code, y_outcome, y_result, y_dry, y_want, y_starting, y_ended, y_bad, y_hosted, y_sawSuper, y_text, y_numbers, gl, ey, at1, y_classOf, al', y_orders, y_lengths, y_letters, y_bases, va, y_ops, lo, fr, y_fLine, y_fPos, y_fStmt, y_fTarget, y_fMask, y_fHome, y_fOps, y_fVals, y_fNew, y_out)) : ∀ (n i : Nat) (al : Nat → Int32), i + n = 8 → (∀ k, k < i → al k = 0) → wY_markLive_2 post y_maxObjects y_maxSteps y_maxDepth y_kept y_end y_tokens y_pending y_lines y_classes y_prints y_place y_steps (nI dd) (nI vn) y_opTop y_opens y_pos y_tk y_tv y_stmt y_target y_err y_code y_outcome y_result y_dry y_want y_starting y_ended y_bad y_hosted y_sawSuper (n + 1) (nI i) y_text y_numbers gl ey at1 y_classOf al y_orders y_lengths y_letters y_bases va y_ops lo fr y_fLine y_fPos y_fStmt y_fTarget y_fMask y_fHome y_fOps y_fVals y_fNew y_out := by
  intro n
  induction n with
  | zero =>
    intro i al hi h0
    refine br_t (nI_le (a := 8) (by omega) (by omega)) ⟨27, hs_yL23 hd hvn hv hr hl ha hx hg 26 0 0 al rfl (fun k hk => ?_) H⟩
    rw [h0 k (by omega)]; simp
  | succ n ih =>
    intro i al hi h0
    refine br_f (nI_ge (b := 8) (by omega) (by decide)) (And.intro (vp_in_nI (by omega) (by decide)) ?_)
    rw [nI_clamp (show i < 2 ^ 31 by omega), hs_nar0]
    refine nm_e (nm_r (nI_1 i) (ih (i + 1) _ (by omega) (fun k hk => ?_)))
    by_cases e : k = i
    · subst e; exact pk_us
    · rw [pk_un e]; exact h0 k (by omega)
theorem hs_yMarkLive {at1 fr lo va ey gl : Nat → Int64} {dd vn : Nat} (hd : dd ≤ 6) (hvn : vn ≤ 320) (hv : ∀ j, j < 208 → hs_rv (at1 j)) (hr : ∀ j, 1 ≤ j → j ≤ dd → hs_rv (fr j)) (hl : ∀ j, j < (dd + 1) * 26 → hs_rv (lo j)) (ha : ∀ j, j < vn → hs_rv (va j)) (hx : ∀ j, j < 260 → hs_rv (ey j)) (hg : ∀ j, j < 26 → hs_rv (gl j)) {post : Int32 → SY → Prop} (H : ∀ al', hs_AL al' (hs_ym gl ey va lo fr at1 dd vn) → post (nI (hs_cnt (hs_ym gl ey va lo fr at1 dd vn) 8 0)) (y_maxObjects, y_maxSteps, y_maxDepth, y_kept, y_end, y_tokens, y_pending, y_lines, y_classes, y_prints, y_place, y_steps, nI dd, nI vn, y_opTop, y_opens, y_pos, y_tk, y_tv, y_stmt, y_target, y_err, y_code, y_outcome, y_result, y_dry, y_want, y_starting, y_ended, y_bad, y_hosted, y_sawSuper, y_text, y_numbers, gl, ey, at1, y_classOf, al', y_orders, y_lengths, y_letters, y_bases, va, y_ops, lo, fr, y_fLine, y_fPos, y_fStmt, y_fTarget, y_fMask, y_fHome, y_fOps, y_fVals, y_fNew, y_out)) : wpY_markLive post (y_maxObjects, y_maxSteps, y_maxDepth, y_kept, y_end, y_tokens, y_pending, y_lines, y_classes, y_prints, y_place, y_steps, nI dd, nI vn, y_opTop, y_opens, y_pos, y_tk, y_tv, y_stmt, y_target, y_err, y_code, y_outcome, y_result, y_dry, y_want, y_starting, y_ended, y_bad, y_hosted, y_sawSuper, y_text, y_numbers, gl, ey, at1, y_classOf, y_alive, y_orders, y_lengths, y_letters, y_bases, va, y_ops, lo, fr, y_fLine, y_fPos, y_fStmt, y_fTarget, y_fMask, y_fHome, y_fOps, y_fVals, y_fNew, y_out) :=
  ⟨9, hs_yL2 hd hvn hv hr hl ha hx hg H 8 0 y_alive rfl (fun k hk => by omega)⟩
/-- the two masks -/
theorem hs_mkBit {m k : Nat} {v : Int64} : (hs_mk m v).testBit k = true ↔ (m.testBit k = true ∨ hs_ob v = some k) := by
  unfold hs_mk
  cases e : hs_ob v with
  | none => simp
  | some o =>
    rw [Nat.testBit_or, Nat.testBit_two_pow]
    simp
theorem hs_mksBit {a : Nat → Int64} {k : Nat} : ∀ (n i m : Nat), (hs_mks a n i m).testBit k = true ↔ (m.testBit k = true ∨ ∃ j, i ≤ j ∧ j < i + n ∧ hs_ob (a j) = some k)
  | 0, i, m => by
    constructor
    · exact Or.inl
    · rintro (h | ⟨j, a, b, _⟩)
      · exact h
      · omega
  | n + 1, i, m => by
    have ih := hs_mksBit (a := a) (k := k) n (i + 1) (hs_mk m (a i))
    show (hs_mks a n (i + 1) (hs_mk m (a i))).testBit k = true ↔ _
    rw [ih, hs_mkBit]
    constructor
    · rintro ((h | h) | ⟨j, j1, j2, j3⟩)
      · exact Or.inl h
      · exact Or.inr ⟨i, by omega, by omega, h⟩
      · exact Or.inr ⟨j, by omega, by omega, j3⟩
    · rintro (h | ⟨j, j1, j2, j3⟩)
      · exact Or.inl (Or.inl h)
      · by_cases e : j = i
        · subst e; exact Or.inl (Or.inr j3)
        · exact Or.inr ⟨j, by omega, by omega, j3⟩
theorem hs_xym {gl ex ey he op va lo fr at1 : Nat → Int64} {dd n : Nat} (hE : ∀ j k, j < 260 → (hs_ob (ex j) = some k ↔ hs_ob (ey j) = some k)) (hO : ∀ j, j < n → op j = va j) (hH : ∀ j c, 1 ≤ j → j ≤ dd → c < 26 → he (j * 27 + c) = lo (j * 26 + c)) (hF : ∀ j, 1 ≤ j → j ≤ dd → he (j * 27 + 26) = fr j) : hs_xm gl ex he op at1 (dd + 1) n = hs_ym gl ey va lo fr at1 dd n := by
  unfold hs_xm hs_ym
  refine congrArg (hs_rds at1 8) ?_
  apply Nat.eq_of_testBit_eq
  intro k
  rw [Bool.eq_iff_iff]
  generalize hs_mks gl 26 0 0 = g0
  rw [hs_mksBit, hs_mksBit, hs_mksBit, hs_mksBit, hs_mksBit, hs_mksBit, hs_mksBit]
  have eE : (∃ j, 0 ≤ j ∧ j < 0 + 260 ∧ hs_ob (ex j) = some k) ↔ (∃ j, 0 ≤ j ∧ j < 0 + 260 ∧ hs_ob (ey j) = some k) :=
    ⟨fun ⟨j, a, b, c⟩ => ⟨j, a, b, (hE j k (by omega)).mp c⟩, fun ⟨j, a, b, c⟩ => ⟨j, a, b, (hE j k (by omega)).mpr c⟩⟩
  have eO : (∃ j, 0 ≤ j ∧ j < 0 + n ∧ hs_ob (op j) = some k) ↔ (∃ j, 0 ≤ j ∧ j < 0 + n ∧ hs_ob (va j) = some k) :=
    ⟨fun ⟨j, a, b, c⟩ => ⟨j, a, b, by rw [← hO j (by omega)]; exact c⟩, fun ⟨j, a, b, c⟩ => ⟨j, a, b, by rw [hO j (by omega)]; exact c⟩⟩
  have eH : (∃ j, 27 ≤ j ∧ j < 27 + ((dd + 1) * 27 - 27) ∧ hs_ob (he j) = some k) ↔ ((∃ j, 26 ≤ j ∧ j < 26 + dd * 26 ∧ hs_ob (lo j) = some k) ∨ (∃ j, 1 ≤ j ∧ j < 1 + dd ∧ hs_ob (fr j) = some k)) := by
    constructor
    · rintro ⟨j, a, b, c⟩
      have e := Nat.div_add_mod j 27
      have m := Nat.mod_lt j (show 27 > 0 by decide)
      by_cases q : j % 27 = 26
      · right
        refine ⟨j / 27, by omega, by omega, ?_⟩
        rw [← hF (j / 27) (by omega) (by omega), show j / 27 * 27 + 26 = j by omega]
        exact c
      · left
        refine ⟨j / 27 * 26 + j % 27, by omega, by omega, ?_⟩
        rw [← hH (j / 27) (j % 27) (by omega) (by omega) (by omega), show j / 27 * 27 + j % 27 = j by omega]
        exact c
    · rintro (⟨j, a, b, c⟩ | ⟨j, a, b, c⟩)
      · have e := Nat.div_add_mod j 26
        have m := Nat.mod_lt j (show 26 > 0 by decide)
        refine ⟨j / 26 * 27 + j % 26, by omega, by omega, ?_⟩
        rw [hH (j / 26) (j % 26) (by omega) (by omega) (by omega), show j / 26 * 26 + j % 26 = j by omega]
        exact c
      · refine ⟨j * 27 + 26, by omega, by omega, ?_⟩
        rw [hF j a (by omega)]
        exact c
  rw [eE, eO, eH]
  constructor
  · rintro (((h | h) | (h | h)) | h)
    · exact Or.inl (Or.inl (Or.inl (Or.inl h)))
    · exact Or.inl (Or.inl (Or.inl (Or.inr h)))
    · exact Or.inl (Or.inr h)
    · exact Or.inr h
    · exact Or.inl (Or.inl (Or.inr h))
  · rintro ((((h | h) | h) | h) | h)
    · exact Or.inl (Or.inl (Or.inl h))
    · exact Or.inl (Or.inl (Or.inr h))
    · exact Or.inr h
    · exact Or.inl (Or.inr (Or.inl h))
    · exact Or.inl (Or.inr (Or.inr h))
end
