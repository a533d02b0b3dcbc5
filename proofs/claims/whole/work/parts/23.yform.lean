/-! the form of a line -/
section
variable {x_objectLimit x_stepLimit x_depthLimit x_pendingCount x_keptTokens x_keptLines x_lineCount x_codeCount x_cursor x_stop x_waitingCount x_openCount x_classCount x_callCount x_operandCount x_stepsTaken x_error x_raisedCode x_printCount x_lastPlace : Int32} {x_lastResult : Int64} {x_pending x_lineTable x_orders x_merging x_letterClass x_objectClass x_calls x_lastPrints : Nat → Int32} {x_code x_waiting x_globals x_entries x_attributes x_held x_operands : Nat → Int64}
variable {y_maxObjects y_maxSteps y_maxDepth y_kept y_end y_tokens y_pending y_lines y_classes y_prints y_place y_steps y_d y_valTop y_opTop y_opens y_pos y_tk y_tv y_stmt y_target y_err y_code y_outcome y_dry y_want y_starting y_ended y_bad y_hosted y_sawSuper : Int32} {y_result : Int64} {y_text y_numbers y_classOf y_alive y_orders y_lengths y_letters y_bases y_ops y_fLine y_fPos y_fStmt y_fTarget y_fMask y_fHome y_fOps y_fVals y_fNew y_out : Nat → Int32} {y_globals y_entries y_attrs y_vals y_locals y_fRecv : Nat → Int64}
/-- what follows the word sort -/
def hs_CH (f s t : Int32) (r : List Nat) : Prop := ∃ c, hs_isC c = true ∧ f = nI (c - 130) ∧ ((r = [c, 25] ∧ s = -1 ∧ t = -1) ∨ (∃ a, hs_isC a = true ∧ r = [c, 21, a, 22, 25] ∧ s = nI (a - 130) ∧ t = -1) ∨ ∃ a b, hs_isC a = true ∧ hs_isC b = true ∧ r = [c, 21, a, 23, b, 22, 25] ∧ s = nI (a - 130) ∧ t = nI (b - 130))
/-- what follows the word def -/
def hs_DH (f s t : Int32) (r : List Nat) : Prop := ∃ n a, hs_isN n = true ∧ hs_isN a = true ∧ f = nI (n - 100) ∧ s = nI (a - 100) ∧ ((r = [n, 21, a, 22, 25] ∧ t = -1) ∨ ∃ b, hs_isN b = true ∧ b ≠ a ∧ r = [n, 21, a, 23, b, 22, 25] ∧ t = nI (b - 100))
def hs_LF (k f s t : Int32) (cd : List (Nat × Nat)) : List Nat → Prop
  | [] => False
  | h :: r =>
    if h = 10 then k = 10 ∧ r = [] ∧ cd = []
    else if h = 5 ∨ h = 7 then k = nI h ∧ r = [25] ∧ cd = []
    else if h = 8 then k = 8 ∧ cd = [] ∧ ∃ n, r = [n, 25] ∧ hs_isN n = true ∧ f = nI (n - 100)
    else if h = 1 then k = 1 ∧ cd = [] ∧ hs_CH f s t r
    else if h = 2 then k = 2 ∧ cd = [] ∧ hs_DH f s t r
    else if h = 4 ∨ h = 6 then k = nI h ∧ ∃ r', r = r' ++ [25] ∧ hs_S false r' true [] cd [] []
    else if h = 3 ∨ h = 9 ∨ h = 11 then k = nI h ∧ hs_S false r true [] cd [] []
    else if hs_isN h = true ∧ hs_hd r = 26 then k = 15 ∧ f = nI (h - 100) ∧ hs_S false r.tail true [] cd [] []
    else if hs_isC h = true ∧ hs_hd r = 24 ∧ hs_isN (hs_hd r.tail) = true ∧ hs_hd r.tail.tail = 26 then k = 17 ∧ f = nI (hs_hd r.tail - 100) ∧ s = nI (h - 130) ∧ hs_S false r.tail.tail.tail true [] cd [] []
    else (k = 14 ∧ hs_S true (h :: r) true [] cd [] []) ∨ (k = 16 ∧ ∃ n, hs_isN n = true ∧ f = nI (n - 100) ∧ hs_S true (h :: r) true [] cd [] [5 + 64 * (n - 100)])
theorem hs_yIs0 {tx : Nat → Int32} {p : Nat} {r : List Nat} (h : hs_TA tx p r) {post : Int32 → SY → Prop} (h1 : r = [] → post 1 (y_maxObjects, y_maxSteps, y_maxDepth, y_kept, y_end, y_tokens, y_pending, y_lines, y_classes, y_prints, y_place, y_steps, y_d, y_valTop, y_opTop, y_opens, nI p, 0, y_tv, y_stmt, y_target, y_err, y_code, y_outcome, y_result, y_dry, y_want, y_starting, y_ended, y_bad, y_hosted, y_sawSuper, tx, y_numbers, y_globals, y_entries, y_attrs, y_classOf, y_alive, y_orders, y_lengths, y_letters, y_bases, y_vals, y_ops, y_locals, y_fRecv, y_fLine, y_fPos, y_fStmt, y_fTarget, y_fMask, y_fHome, y_fOps, y_fVals, y_fNew, y_out)) (h0 : r ≠ [] → ∀ q1 q2 q3 : Int32, post 0 (y_maxObjects, y_maxSteps, y_maxDepth, y_kept, y_end, y_tokens, y_pending, y_lines, y_classes, y_prints, y_place, y_steps, y_d, y_valTop, y_opTop, y_opens, q1, q2, q3, y_stmt, y_target, y_err, y_code, y_outcome, y_result, y_dry, y_want, y_starting, y_ended, y_bad, y_hosted, y_sawSuper, tx, y_numbers, y_globals, y_entries, y_attrs, y_classOf, y_alive, y_orders, y_lengths, y_letters, y_bases, y_vals, y_ops, y_locals, y_fRecv, y_fLine, y_fPos, y_fStmt, y_fTarget, y_fMask, y_fHome, y_fOps, y_fVals, y_fNew, y_out)) : wpY_is post (y_maxObjects, y_maxSteps, y_maxDepth, y_kept, y_end, y_tokens, y_pending, y_lines, y_classes, y_prints, y_place, y_steps, y_d, y_valTop, y_opTop, y_opens, nI p, y_tk, y_tv, y_stmt, y_target, y_err, y_code, y_outcome, y_result, y_dry, y_want, y_starting, y_ended, y_bad, y_hosted, y_sawSuper, tx, y_numbers, y_globals, y_entries, y_attrs, y_classOf, y_alive, y_orders, y_lengths, y_letters, y_bases, y_vals, y_ops, y_locals, y_fRecv, y_fLine, y_fPos, y_fStmt, y_fTarget, y_fMask, y_fHome, y_fOps, y_fVals, y_fNew, y_out) 0 := by
  cases r with
  | nil => exact hs_yIsE (k := 0) h (by decide) (fun _ => h1 rfl) (fun q => absurd rfl q)
  | cons t r =>
    have t0 := (hs_TAc h).2.1
    exact hs_yIsC (k := 0) h (by decide) (fun q => absurd q (hs_tkK (by omega) (by decide))) (fun _ => h0 (by simp) _ _ _)
/-- is a token of this word (below 100) -/
theorem hs_yIsK {tx : Nat → Int32} {p : Nat} {r : List Nat} (h : hs_TA tx p r) (k : Nat) (hk : 0 < k ∧ k < 100) {post : Int32 → SY → Prop} (h1 : ∀ r', r = k :: r' → post 1 (y_maxObjects, y_maxSteps, y_maxDepth, y_kept, y_end, y_tokens, y_pending, y_lines, y_classes, y_prints, y_place, y_steps, y_d, y_valTop, y_opTop, y_opens, nI (p + 1), nI k, nI (k - k), y_stmt, y_target, y_err, y_code, y_outcome, y_result, y_dry, y_want, y_starting, y_ended, y_bad, y_hosted, y_sawSuper, tx, y_numbers, y_globals, y_entries, y_attrs, y_classOf, y_alive, y_orders, y_lengths, y_letters, y_bases, y_vals, y_ops, y_locals, y_fRecv, y_fLine, y_fPos, y_fStmt, y_fTarget, y_fMask, y_fHome, y_fOps, y_fVals, y_fNew, y_out)) (h0 : hs_hd r ≠ k → ∀ q1 q2 q3 : Int32, post 0 (y_maxObjects, y_maxSteps, y_maxDepth, y_kept, y_end, y_tokens, y_pending, y_lines, y_classes, y_prints, y_place, y_steps, y_d, y_valTop, y_opTop, y_opens, q1, q2, q3, y_stmt, y_target, y_err, y_code, y_outcome, y_result, y_dry, y_want, y_starting, y_ended, y_bad, y_hosted, y_sawSuper, tx, y_numbers, y_globals, y_entries, y_attrs, y_classOf, y_alive, y_orders, y_lengths, y_letters, y_bases, y_vals, y_ops, y_locals, y_fRecv, y_fLine, y_fPos, y_fStmt, y_fTarget, y_fMask, y_fHome, y_fOps, y_fVals, y_fNew, y_out)) : wpY_is post (y_maxObjects, y_maxSteps, y_maxDepth, y_kept, y_end, y_tokens, y_pending, y_lines, y_classes, y_prints, y_place, y_steps, y_d, y_valTop, y_opTop, y_opens, nI p, y_tk, y_tv, y_stmt, y_target, y_err, y_code, y_outcome, y_result, y_dry, y_want, y_starting, y_ended, y_bad, y_hosted, y_sawSuper, tx, y_numbers, y_globals, y_entries, y_attrs, y_classOf, y_alive, y_orders, y_lengths, y_letters, y_bases, y_vals, y_ops, y_locals, y_fRecv, y_fLine, y_fPos, y_fStmt, y_fTarget, y_fMask, y_fHome, y_fOps, y_fVals, y_fNew, y_out) (nI k) := by
  cases r with
  | nil => exact hs_yIsE h (by omega) (fun q => by omega) (fun _ => h0 (by show 0 ≠ k; omega) _ _ _)
  | cons t r =>
    by_cases e : t = k
    · subst e
      have e2 : hs_tk t = t := hs_tkS hk.2
      refine hs_yIsC (k := t) h (by omega) (fun _ => ?_) (fun q => absurd e2 q)
      rw [e2]; exact h1 r rfl
    · refine hs_yIsC h (by omega) (fun q => absurd q (hs_tkK e hk.2)) (fun _ => h0 e _ _ _)
theorem hs_yIsN {tx : Nat → Int32} {p : Nat} {r : List Nat} (h : hs_TA tx p r) (hv : ∀ x, x ∈ r → hs_vt x) {post : Int32 → SY → Prop} (h1 : ∀ n r', r = n :: r' → hs_isN n = true → post 1 (y_maxObjects, y_maxSteps, y_maxDepth, y_kept, y_end, y_tokens, y_pending, y_lines, y_classes, y_prints, y_place, y_steps, y_d, y_valTop, y_opTop, y_opens, nI (p + 1), nI 100, nI (n - 100), y_stmt, y_target, y_err, y_code, y_outcome, y_result, y_dry, y_want, y_starting, y_ended, y_bad, y_hosted, y_sawSuper, tx, y_numbers, y_globals, y_entries, y_attrs, y_classOf, y_alive, y_orders, y_lengths, y_letters, y_bases, y_vals, y_ops, y_locals, y_fRecv, y_fLine, y_fPos, y_fStmt, y_fTarget, y_fMask, y_fHome, y_fOps, y_fVals, y_fNew, y_out)) (h0 : hs_isN (hs_hd r) = false → ∀ q1 q2 q3 : Int32, post 0 (y_maxObjects, y_maxSteps, y_maxDepth, y_kept, y_end, y_tokens, y_pending, y_lines, y_classes, y_prints, y_place, y_steps, y_d, y_valTop, y_opTop, y_opens, q1, q2, q3, y_stmt, y_target, y_err, y_code, y_outcome, y_result, y_dry, y_want, y_starting, y_ended, y_bad, y_hosted, y_sawSuper, tx, y_numbers, y_globals, y_entries, y_attrs, y_classOf, y_alive, y_orders, y_lengths, y_letters, y_bases, y_vals, y_ops, y_locals, y_fRecv, y_fLine, y_fPos, y_fStmt, y_fTarget, y_fMask, y_fHome, y_fOps, y_fVals, y_fNew, y_out)) : wpY_is post (y_maxObjects, y_maxSteps, y_maxDepth, y_kept, y_end, y_tokens, y_pending, y_lines, y_classes, y_prints, y_place, y_steps, y_d, y_valTop, y_opTop, y_opens, nI p, y_tk, y_tv, y_stmt, y_target, y_err, y_code, y_outcome, y_result, y_dry, y_want, y_starting, y_ended, y_bad, y_hosted, y_sawSuper, tx, y_numbers, y_globals, y_entries, y_attrs, y_classOf, y_alive, y_orders, y_lengths, y_letters, y_bases, y_vals, y_ops, y_locals, y_fRecv, y_fLine, y_fPos, y_fStmt, y_fTarget, y_fMask, y_fHome, y_fOps, y_fVals, y_fNew, y_out) 100 := by
  cases r with
  | nil => exact hs_yIsE (k := 100) h (by omega) (fun q => by omega) (fun _ => h0 (by decide) _ _ _)
  | cons t r =>
    cases e : hs_isN t with
    | true =>
      have e2 := (hs_tkN e).1
      refine hs_yIsC (k := 100) h (by omega) (fun _ => ?_) (fun q => absurd e2 q)
      rw [e2]; exact h1 t r rfl e
    | false => exact hs_yIsC (k := 100) h (by omega) (fun q => absurd q (hs_isNf (hv t (by simp)) e)) (fun _ => h0 e _ _ _)
theorem hs_isCf {t : Nat} (hv : hs_vt t) (h : hs_isC t = false) : hs_tk t ≠ 130 := by
  rcases hv with h2 | h2 | h2 | h2 | h2
  · rw [hs_tkS (by omega)]; omega
  · rw [hs_tkS (by omega)]; omega
  · have := hs_tkN h2; omega
  · rw [h] at h2; cases h2
  · rw [hs_tkB h2]; omega
theorem hs_yIsC1 {tx : Nat → Int32} {p : Nat} {r : List Nat} (h : hs_TA tx p r) (hv : ∀ x, x ∈ r → hs_vt x) {post : Int32 → SY → Prop} (h1 : ∀ n r', r = n :: r' → hs_isC n = true → post 1 (y_maxObjects, y_maxSteps, y_maxDepth, y_kept, y_end, y_tokens, y_pending, y_lines, y_classes, y_prints, y_place, y_steps, y_d, y_valTop, y_opTop, y_opens, nI (p + 1), nI 130, nI (n - 130), y_stmt, y_target, y_err, y_code, y_outcome, y_result, y_dry, y_want, y_starting, y_ended, y_bad, y_hosted, y_sawSuper, tx, y_numbers, y_globals, y_entries, y_attrs, y_classOf, y_alive, y_orders, y_lengths, y_letters, y_bases, y_vals, y_ops, y_locals, y_fRecv, y_fLine, y_fPos, y_fStmt, y_fTarget, y_fMask, y_fHome, y_fOps, y_fVals, y_fNew, y_out)) (h0 : hs_isC (hs_hd r) = false → ∀ q1 q2 q3 : Int32, post 0 (y_maxObjects, y_maxSteps, y_maxDepth, y_kept, y_end, y_tokens, y_pending, y_lines, y_classes, y_prints, y_place, y_steps, y_d, y_valTop, y_opTop, y_opens, q1, q2, q3, y_stmt, y_target, y_err, y_code, y_outcome, y_result, y_dry, y_want, y_starting, y_ended, y_bad, y_hosted, y_sawSuper, tx, y_numbers, y_globals, y_entries, y_attrs, y_classOf, y_alive, y_orders, y_lengths, y_letters, y_bases, y_vals, y_ops, y_locals, y_fRecv, y_fLine, y_fPos, y_fStmt, y_fTarget, y_fMask, y_fHome, y_fOps, y_fVals, y_fNew, y_out)) : wpY_is post (y_maxObjects, y_maxSteps, y_maxDepth, y_kept, y_end, y_tokens, y_pending, y_lines, y_classes, y_prints, y_place, y_steps, y_d, y_valTop, y_opTop, y_opens, nI p, y_tk, y_tv, y_stmt, y_target, y_err, y_code, y_outcome, y_result, y_dry, y_want, y_starting, y_ended, y_bad, y_hosted, y_sawSuper, tx, y_numbers, y_globals, y_entries, y_attrs, y_classOf, y_alive, y_orders, y_lengths, y_letters, y_bases, y_vals, y_ops, y_locals, y_fRecv, y_fLine, y_fPos, y_fStmt, y_fTarget, y_fMask, y_fHome, y_fOps, y_fVals, y_fNew, y_out) 130 := by
  cases r with
  | nil => exact hs_yIsE (k := 130) h (by omega) (fun q => by omega) (fun _ => h0 (by decide) _ _ _)
  | cons t r =>
    cases e : hs_isC t with
    | true =>
      have e2 := (hs_tkC e).1
      refine hs_yIsC (k := 130) h (by omega) (fun _ => ?_) (fun q => absurd e2 q)
      rw [e2]; exact h1 t r rfl e
    | false => exact hs_yIsC (k := 130) h (by omega) (fun q => absurd q (hs_isCf (hv t (by simp)) e)) (fun _ => h0 e _ _ _)
theorem hs_yTok2 {tx : Nat → Int32} {p : Nat} {r : List Nat} (h : hs_TA tx p r) {post : SY → Prop} (H0 : r = [] → post (y_maxObjects, y_maxSteps, y_maxDepth, y_kept, y_end, y_tokens, y_pending, y_lines, y_classes, y_prints, y_place, y_steps, y_d, y_valTop, y_opTop, y_opens, nI p, nI 0, y_tv, y_stmt, y_target, y_err, y_code, y_outcome, y_result, y_dry, y_want, y_starting, y_ended, y_bad, y_hosted, y_sawSuper, tx, y_numbers, y_globals, y_entries, y_attrs, y_classOf, y_alive, y_orders, y_lengths, y_letters, y_bases, y_vals, y_ops, y_locals, y_fRecv, y_fLine, y_fPos, y_fStmt, y_fTarget, y_fMask, y_fHome, y_fOps, y_fVals, y_fNew, y_out)) (H1 : ∀ t r', r = t :: r' → hs_TA tx (p + 1) r' → 0 < t → post (y_maxObjects, y_maxSteps, y_maxDepth, y_kept, y_end, y_tokens, y_pending, y_lines, y_classes, y_prints, y_place, y_steps, y_d, y_valTop, y_opTop, y_opens, nI (p + 1), nI (hs_tk t), nI (t - hs_tk t), y_stmt, y_target, y_err, y_code, y_outcome, y_result, y_dry, y_want, y_starting, y_ended, y_bad, y_hosted, y_sawSuper, tx, y_numbers, y_globals, y_entries, y_attrs, y_classOf, y_alive, y_orders, y_lengths, y_letters, y_bases, y_vals, y_ops, y_locals, y_fRecv, y_fLine, y_fPos, y_fStmt, y_fTarget, y_fMask, y_fHome, y_fOps, y_fVals, y_fNew, y_out)) : wpY_tok post (y_maxObjects, y_maxSteps, y_maxDepth, y_kept, y_end, y_tokens, y_pending, y_lines, y_classes, y_prints, y_place, y_steps, y_d, y_valTop, y_opTop, y_opens, nI p, y_tk, y_tv, y_stmt, y_target, y_err, y_code, y_outcome, y_result, y_dry, y_want, y_starting, y_ended, y_bad, y_hosted, y_sawSuper, tx, y_numbers, y_globals, y_entries, y_attrs, y_classOf, y_alive, y_orders, y_lengths, y_letters, y_bases, y_vals, y_ops, y_locals, y_fRecv, y_fLine, y_fPos, y_fStmt, y_fTarget, y_fMask, y_fHome, y_fOps, y_fVals, y_fNew, y_out) := by
  cases r with
  | nil => exact hs_yTokE h (H0 rfl)
  | cons t r => exact hs_yTokC h (H1 t r rfl (hs_TAc h).2.2.2.2.2 (hs_TAc h).2.1)
theorem hs_yC81 {tx : Nat → Int32} {p t : Nat} {r : List Nat} (h : hs_TA tx p r) {post : Int32 → SY → Prop} (H1 : t = 25 → r = [] → ∀ q1 q2 q3 : Int32, post 1 (y_maxObjects, y_maxSteps, y_maxDepth, y_kept, y_end, y_tokens, y_pending, y_lines, y_classes, y_prints, y_place, y_steps, y_d, y_valTop, y_opTop, y_opens, q1, q2, q3, y_stmt, y_target, y_err, y_code, y_outcome, y_result, y_dry, y_want, y_starting, y_ended, y_bad, y_hosted, y_sawSuper, tx, y_numbers, y_globals, y_entries, y_attrs, y_classOf, y_alive, y_orders, y_lengths, y_letters, y_bases, y_vals, y_ops, y_locals, y_fRecv, y_fLine, y_fPos, y_fStmt, y_fTarget, y_fMask, y_fHome, y_fOps, y_fVals, y_fNew, y_out)) (H0 : ¬ (t = 25 ∧ r = []) → ∀ q1 q2 q3 : Int32, post 0 (y_maxObjects, y_maxSteps, y_maxDepth, y_kept, y_end, y_tokens, y_pending, y_lines, y_classes, y_prints, y_place, y_steps, y_d, y_valTop, y_opTop, y_opens, q1, q2, q3, y_stmt, y_target, y_err, y_code, y_outcome, y_result, y_dry, y_want, y_starting, y_ended, y_bad, y_hosted, y_sawSuper, tx, y_numbers, y_globals, y_entries, y_attrs, y_classOf, y_alive, y_orders, y_lengths, y_letters, y_bases, y_vals, y_ops, y_locals, y_fRecv, y_fLine, y_fPos, y_fStmt, y_fTarget, y_fMask, y_fHome, y_fOps, y_fVals, y_fNew, y_out)) : wY_classRight_81 post y_maxObjects y_maxSteps y_maxDepth y_kept y_end y_tokens y_pending y_lines y_classes y_prints y_place y_steps y_d y_valTop y_opTop y_opens (nI p) (nI (hs_tk t)) y_tv y_stmt y_target y_err y_code y_outcome y_result y_dry y_want y_starting y_ended y_bad y_hosted y_sawSuper tx y_numbers y_globals y_entries y_attrs y_classOf y_alive y_orders y_lengths y_letters y_bases y_vals y_ops y_locals y_fRecv y_fLine y_fPos y_fStmt y_fTarget y_fMask y_fHome y_fOps y_fVals y_fNew y_out := by
  unfold wY_classRight_81
  have tl := hs_tkLe t
  by_cases e : t = 25
  · subst e
    refine br_t rfl (hs_yIs0 h (fun q => br_f (by decide) (H1 rfl q _ _ _)) (fun q _ _ _ => br_t rfl (H0 (fun y => q y.2) _ _ _)))
  · exact br_f (hs_ne (b := 25) (hs_tkK e (by decide)) (by omega) (by decide)) (H0 (fun y => e y.1) _ _ _)
theorem hs_yC66 {tx : Nat → Int32} {p t : Nat} {r : List Nat} (h : hs_TA tx p r) {post : Int32 → SY → Prop} (H1 : t = 22 → r = [25] → ∀ q1 q2 q3 : Int32, post 1 (y_maxObjects, y_maxSteps, y_maxDepth, y_kept, y_end, y_tokens, y_pending, y_lines, y_classes, y_prints, y_place, y_steps, y_d, y_valTop, y_opTop, y_opens, q1, q2, q3, y_stmt, y_target, y_err, y_code, y_outcome, y_result, y_dry, y_want, y_starting, y_ended, y_bad, y_hosted, y_sawSuper, tx, y_numbers, y_globals, y_entries, y_attrs, y_classOf, y_alive, y_orders, y_lengths, y_letters, y_bases, y_vals, y_ops, y_locals, y_fRecv, y_fLine, y_fPos, y_fStmt, y_fTarget, y_fMask, y_fHome, y_fOps, y_fVals, y_fNew, y_out)) (H0 : ¬ (t = 22 ∧ r = [25]) → ∀ q1 q2 q3 : Int32, post 0 (y_maxObjects, y_maxSteps, y_maxDepth, y_kept, y_end, y_tokens, y_pending, y_lines, y_classes, y_prints, y_place, y_steps, y_d, y_valTop, y_opTop, y_opens, q1, q2, q3, y_stmt, y_target, y_err, y_code, y_outcome, y_result, y_dry, y_want, y_starting, y_ended, y_bad, y_hosted, y_sawSuper, tx, y_numbers, y_globals, y_entries, y_attrs, y_classOf, y_alive, y_orders, y_lengths, y_letters, y_bases, y_vals, y_ops, y_locals, y_fRecv, y_fLine, y_fPos, y_fStmt, y_fTarget, y_fMask, y_fHome, y_fOps, y_fVals, y_fNew, y_out)) : wY_classRight_66 post y_maxObjects y_maxSteps y_maxDepth y_kept y_end y_tokens y_pending y_lines y_classes y_prints y_place y_steps y_d y_valTop y_opTop y_opens (nI p) (nI (hs_tk t)) y_tv y_stmt y_target y_err y_code y_outcome y_result y_dry y_want y_starting y_ended y_bad y_hosted y_sawSuper tx y_numbers y_globals y_entries y_attrs y_classOf y_alive y_orders y_lengths y_letters y_bases y_vals y_ops y_locals y_fRecv y_fLine y_fPos y_fStmt y_fTarget y_fMask y_fHome y_fOps y_fVals y_fNew y_out := by
  unfold wY_classRight_66
  have tl := hs_tkLe t
  by_cases e : t = 22
  · subst e
    refine br_t rfl (hs_yTok2 h (fun q => ?_) (fun a r' q h' _ => hs_yC81 h' (fun a25 rn q1 q2 q3 => ?_) (fun hno q1 q2 q3 => ?_)))
    · exact hs_yC81 (t := 0) (by rw [q] at h; exact h) (fun y => absurd y (by decide)) (fun _ => H0 (by rw [q]; simp))
    · exact H1 rfl (by rw [q, a25, rn]) _ _ _
    · refine H0 (fun y => hno ?_) _ _ _
      rw [q] at y
      have := y.2
      cases this
      exact ⟨rfl, rfl⟩
  · exact br_f (hs_ne (b := 22) (hs_tkK e (by decide)) (by omega) (by decide)) (H0 (fun y => e y.1) _ _ _)
theorem hs_yClass {tx : Nat → Int32} {p : Nat} {r : List Nat} (h : hs_TA tx p r) (hv : ∀ x, x ∈ r → hs_vt x) {post : Int32 → SY → Prop} (H1 : ∀ f s t, hs_CH f s t r → ∀ q1 q2 q3 : Int32, post 1 (y_maxObjects, y_maxSteps, y_maxDepth, y_kept, y_end, y_tokens, y_pending, y_lines, y_classes, y_prints, y_place, y_steps, y_d, y_valTop, y_opTop, y_opens, q1, q2, q3, y_stmt, y_target, y_err, y_code, y_outcome, y_result, y_dry, y_want, y_starting, y_ended, y_bad, y_hosted, y_sawSuper, tx, y_numbers, y_globals, y_entries, y_attrs, y_classOf, y_alive, y_orders, y_lengths, y_letters, y_bases, y_vals, y_ops, y_locals, y_fRecv, y_fLine, y_fPos, y_fStmt, y_fTarget, y_fMask, y_fHome, y_fOps, y_fVals, y_fNew, y_out)) (H0 : (∀ f s t, ¬ hs_CH f s t r) → ∀ q1 q2 q3 : Int32, post 0 (y_maxObjects, y_maxSteps, y_maxDepth, y_kept, y_end, y_tokens, y_pending, y_lines, y_classes, y_prints, y_place, y_steps, y_d, y_valTop, y_opTop, y_opens, q1, q2, q3, y_stmt, y_target, y_err, y_code, y_outcome, y_result, y_dry, y_want, y_starting, y_ended, y_bad, y_hosted, y_sawSuper, tx, y_numbers, y_globals, y_entries, y_attrs, y_classOf, y_alive, y_orders, y_lengths, y_letters, y_bases, y_vals, y_ops, y_locals, y_fRecv, y_fLine, y_fPos, y_fStmt, y_fTarget, y_fMask, y_fHome, y_fOps, y_fVals, y_fNew, y_out)) : wpY_classRight post (y_maxObjects, y_maxSteps, y_maxDepth, y_kept, y_end, y_tokens, y_pending, y_lines, y_classes, y_prints, y_place, y_steps, y_d, y_valTop, y_opTop, y_opens, nI p, y_tk, y_tv, y_stmt, y_target, y_err, y_code, y_outcome, y_result, y_dry, y_want, y_starting, y_ended, y_bad, y_hosted, y_sawSuper, tx, y_numbers, y_globals, y_entries, y_attrs, y_classOf, y_alive, y_orders, y_lengths, y_letters, y_bases, y_vals, y_ops, y_locals, y_fRecv, y_fLine, y_fPos, y_fStmt, y_fTarget, y_fMask, y_fHome, y_fOps, y_fVals, y_fNew, y_out) := by
  unfold wpY_classRight
  refine hs_yIsC1 h hv (fun c r1 e hc => br_f (by decide) ?_) (fun hc q1 q2 q3 => br_t rfl (H0 (fun f s t hh => ?_) _ _ _))
  · subst e
    have h1 := (hs_TAc h).2.2.2.2.2
    have hv1 : ∀ x, x ∈ r1 → hs_vt x := fun x hx => hv x (List.mem_cons_of_mem _ hx)
    have t21 : hs_tk 21 = 21 := rfl
    refine hs_yTok2 h1 (fun q => ?_) (fun a r2 q h2 a0 => ?_)
    · refine br_f (hs_ne (a := 0) (b := 21) (by decide) (by decide) (by decide)) (hs_yC81 (t := 0) (by rw [q] at h1; exact h1) (fun y => absurd y (by decide)) (fun _ => H0 (fun f s t hh => ?_)))
      obtain ⟨c', _, _, hh⟩ := hh
      rw [q] at hh
      rcases hh with ⟨e, _⟩ | ⟨_, _, e, _⟩ | ⟨_, _, _, _, e, _⟩ <;> cases e
    · have al := hs_tkLe a
      by_cases a21 : a = 21
      · subst a21
        subst q
        have hv2 : ∀ x, x ∈ r2 → hs_vt x := fun x hx => hv1 x (List.mem_cons_of_mem _ hx)
        refine br_t rfl (hs_yIsC1 h2 hv2 (fun b r3 e hb => br_f (by decide) ?_) (fun hb q1 q2 q3 => br_t rfl (H0 (fun f s t hh => ?_) _ _ _)))
        · subst e
          have h3 := (hs_TAc h2).2.2.2.2.2
          have hv3 : ∀ x, x ∈ r3 → hs_vt x := fun x hx => hv2 x (List.mem_cons_of_mem _ hx)
          have no3 : (∀ t r4, r3 = t :: r4 → ¬ (t = 22 ∧ r4 = [25])) → (∀ b2 r4, r3 = 23 :: b2 :: r4 → ¬ (hs_isC b2 = true ∧ r4 = [22, 25])) → ∀ f s t, ¬ hs_CH f s t (c :: 21 :: b :: r3) := by
            intro n1 n2 f s t hh
            obtain ⟨c', _, _, hh⟩ := hh
            rcases hh with ⟨e, _⟩ | ⟨a', _, e, _⟩ | ⟨a', b', _, hb', e, _⟩
            · cases e
            · cases e
              exact n1 22 [25] rfl ⟨rfl, rfl⟩
            · cases e
              exact n2 b' [22, 25] rfl ⟨hb', rfl⟩
          refine hs_yTok2 h3 (fun q => ?_) (fun d r4 q h4 d0 => ?_)
          · refine br_f (hs_ne (a := 0) (b := 23) (by decide) (by decide) (by decide)) (hs_yC66 (t := 0) (by rw [q] at h3; exact h3) (fun y => absurd y (by decide)) (fun _ => H0 (no3 (fun t r4 e => ?_) (fun t r4 e => ?_))))
            · rw [q] at e; cases e
            · rw [q] at e; cases e
          · have dl := hs_tkLe d
            by_cases d23 : d = 23
            · subst d23
              subst q
              have hv4 : ∀ x, x ∈ r4 → hs_vt x := fun x hx => hv3 x (List.mem_cons_of_mem _ hx)
              refine br_t rfl (hs_yIsC1 h4 hv4 (fun b2 r5 e hb2 => br_f (by decide) ?_) (fun hb2 q1 q2 q3 => br_t rfl (H0 (no3 (fun t r4' e y => ?_) (fun t r4' e y => ?_)) _ _ _)))
              · subst e
                have h5 := (hs_TAc h4).2.2.2.2.2
                have no5 : (∀ t r6, r5 = t :: r6 → ¬ (t = 22 ∧ r6 = [25])) → ∀ f s t, ¬ hs_CH f s t (c :: 21 :: b :: 23 :: b2 :: r5) := by
                  intro n1
                  refine no3 (fun t r4' e y => ?_) (fun t r4' e y => ?_)
                  · cases e; cases y.1
                  · cases e
                    exact n1 22 [25] y.2 ⟨rfl, rfl⟩
                refine hs_yTok2 h5 (fun q => ?_) (fun g r6 q h6 g0 => ?_)
                · refine hs_yC66 (t := 0) (by rw [q] at h5; exact h5) (fun y => absurd y (by decide)) (fun _ => H0 (no5 (fun t r6 e => ?_)))
                  rw [q] at e; cases e
                · refine hs_yC66 h6 (fun g22 r25 => ?_) (fun hno => H0 (no5 (fun t r7 e y => hno ?_)))
                  · subst g22 r25 q
                    exact H1 _ _ _ ⟨c, hc, rfl, Or.inr (Or.inr ⟨b, b2, hb, hb2, rfl, rfl, rfl⟩)⟩
                  · rw [q] at e
                    cases e
                    exact y
              · cases e; cases y.1
              · cases e
                have hb2 : hs_isC t = false := hb2
                rw [y.1] at hb2; cases hb2
            · refine br_f (hs_ne (b := 23) (hs_tkK d23 (by decide)) (by omega) (by decide)) (hs_yC66 h4 (fun d22 r25 => ?_) (fun hno => H0 (no3 (fun t r5 e y => hno ?_) (fun t r5 e y => ?_))))
              · subst d22 r25 q
                exact H1 _ _ _ ⟨c, hc, rfl, Or.inr (Or.inl ⟨b, hb, rfl, rfl, rfl⟩)⟩
              · rw [q] at e; cases e; exact y
              · rw [q] at e; cases e; exact d23 rfl
        · obtain ⟨c', _, _, hh⟩ := hh
          rcases hh with ⟨e, _⟩ | ⟨a', ha', e, _⟩ | ⟨a', b', ha', hb', e, _⟩
          · cases e
          · cases e
            have hb : hs_isC a' = false := hb
            rw [ha'] at hb; cases hb
          · cases e
            have hb : hs_isC a' = false := hb
            rw [ha'] at hb; cases hb
      · refine br_f (hs_ne (b := 21) (hs_tkK a21 (by decide)) (by omega) (by decide)) (hs_yC81 h2 (fun a25 rn => ?_) (fun hno => H0 (fun f s t hh => ?_)))
        · subst a25 rn q
          exact H1 _ _ _ ⟨c, hc, rfl, Or.inl ⟨rfl, rfl, rfl⟩⟩
        · obtain ⟨c', _, _, hh⟩ := hh
          rw [q] at hh
          rcases hh with ⟨e, _⟩ | ⟨_, _, e, _⟩ | ⟨_, _, _, _, e, _⟩
          · cases e; exact hno ⟨rfl, rfl⟩
          · cases e; exact a21 rfl
          · cases e; exact a21 rfl
  · obtain ⟨c', hc', _, hh⟩ := hh
    have : hs_hd r = c' := by
      rcases hh with ⟨e, _⟩ | ⟨_, _, e, _⟩ | ⟨_, _, _, _, e, _⟩ <;> rw [e] <;> rfl
    rw [this, hc'] at hc
    cases hc
end
