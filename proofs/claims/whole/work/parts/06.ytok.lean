/-! Y's tokens and small methods -/
section
variable {x_objectLimit x_stepLimit x_depthLimit x_pendingCount x_keptTokens x_keptLines x_lineCount x_codeCount x_cursor x_stop x_waitingCount x_openCount x_classCount x_callCount x_operandCount x_stepsTaken x_error x_raisedCode x_printCount x_lastPlace : Int32} {x_lastResult : Int64} {x_pending x_lineTable x_orders x_merging x_letterClass x_objectClass x_calls x_lastPrints : Nat → Int32} {x_code x_waiting x_globals x_entries x_attributes x_held x_operands : Nat → Int64}
variable {y_maxObjects y_maxSteps y_maxDepth y_kept y_end y_tokens y_pending y_lines y_classes y_prints y_place y_steps y_d y_valTop y_opTop y_opens y_pos y_tk y_tv y_stmt y_target y_err y_code y_outcome y_dry y_want y_starting y_ended y_bad y_hosted y_sawSuper : Int32} {y_result : Int64} {y_text y_numbers y_classOf y_alive y_orders y_lengths y_letters y_bases y_ops y_fLine y_fPos y_fStmt y_fTarget y_fMask y_fHome y_fOps y_fVals y_fNew y_out : Nat → Int32} {y_globals y_entries y_attrs y_vals y_locals y_fRecv : Nat → Int64}
def hs_TA (tx : Nat → Int32) : Nat → List Nat → Prop
  | p, [] => hs_okc (tx p) ∧ hs_en (hs_g tx p) ∧ p < 1024
  | p, t :: r => hs_g tx p = t ∧ hs_okc (tx p) ∧ ¬ hs_en t ∧ p < 1024 ∧ hs_TA tx (p + 1) r
def hs_tk (t : Nat) : Nat := if 1000 ≤ t then 1000 else if 130 ≤ t then 130 else if 100 ≤ t then 100 else t
theorem hs_tkLe (t : Nat) : hs_tk t ≤ 1000 ∧ hs_tk t ≤ t := by
  unfold hs_tk
  split
  · omega
  · split
    · omega
    · split <;> omega
theorem hs_TAc {tx : Nat → Int32} {p t : Nat} {r : List Nat} (h : hs_TA tx p (t :: r)) : tx p = nI t ∧ 0 < t ∧ t < 2 ^ 31 ∧ ¬ hs_en t ∧ p < 1024 ∧ hs_TA tx (p + 1) r := by
  obtain ⟨h1, h2, h3, h4, h5⟩ := h
  rcases hs_okcE h2 with ⟨z, _⟩ | ⟨z1, z2, z3⟩
  · exact absurd (Or.inl (h1.symm.trans z)) h3
  · have e : (tx p).toNatClampNeg = t := h1
    rw [e] at z1 z2 z3
    exact ⟨z3, z1, z2, h3, h4, h5⟩
theorem hs_TAlt {tx : Nat → Int32} : ∀ {ts : List Nat} {p : Nat}, hs_TA tx p ts → p < 1024
  | [], _, h => h.2.2
  | _ :: _, _, h => h.2.2.2.1
theorem hs_yTokE {tx : Nat → Int32} {p : Nat} (h : hs_TA tx p []) {post : SY → Prop} (hp : post (y_maxObjects, y_maxSteps, y_maxDepth, y_kept, y_end, y_tokens, y_pending, y_lines, y_classes, y_prints, y_place, y_steps, y_d, y_valTop, y_opTop, y_opens, nI p, 0, y_tv, y_stmt, y_target, y_err, y_code, y_outcome, y_result, y_dry, y_want, y_starting, y_ended, y_bad, y_hosted, y_sawSuper, tx, y_numbers, y_globals, y_entries, y_attrs, y_classOf, y_alive, y_orders, y_lengths, y_letters, y_bases, y_vals, y_ops, y_locals, y_fRecv, y_fLine, y_fPos, y_fStmt, y_fTarget, y_fMask, y_fHome, y_fOps, y_fVals, y_fNew, y_out)) : wpY_tok post (y_maxObjects, y_maxSteps, y_maxDepth, y_kept, y_end, y_tokens, y_pending, y_lines, y_classes, y_prints, y_place, y_steps, y_d, y_valTop, y_opTop, y_opens, nI p, y_tk, y_tv, y_stmt, y_target, y_err, y_code, y_outcome, y_result, y_dry, y_want, y_starting, y_ended, y_bad, y_hosted, y_sawSuper, tx, y_numbers, y_globals, y_entries, y_attrs, y_classOf, y_alive, y_orders, y_lengths, y_letters, y_bases, y_vals, y_ops, y_locals, y_fRecv, y_fLine, y_fPos, y_fStmt, y_fTarget, y_fMask, y_fHome, y_fOps, y_fVals, y_fNew, y_out) := by
  obtain ⟨h1, h2, h3⟩ := h
  refine And.intro (vp_in_nI h3 (by decide)) ?_
  rw [nI_clamp (show p < 2 ^ 31 by omega)]
  exact nm_e (hs_yends h1 (fun _ => br_f (by decide) hp) (fun z => absurd h2 z))
theorem hs_yTokC {tx : Nat → Int32} {p t : Nat} {r : List Nat} (h : hs_TA tx p (t :: r)) {post : SY → Prop} (hp : post (y_maxObjects, y_maxSteps, y_maxDepth, y_kept, y_end, y_tokens, y_pending, y_lines, y_classes, y_prints, y_place, y_steps, y_d, y_valTop, y_opTop, y_opens, nI (p + 1), nI (hs_tk t), nI (t - hs_tk t), y_stmt, y_target, y_err, y_code, y_outcome, y_result, y_dry, y_want, y_starting, y_ended, y_bad, y_hosted, y_sawSuper, tx, y_numbers, y_globals, y_entries, y_attrs, y_classOf, y_alive, y_orders, y_lengths, y_letters, y_bases, y_vals, y_ops, y_locals, y_fRecv, y_fLine, y_fPos, y_fStmt, y_fTarget, y_fMask, y_fHome, y_fOps, y_fVals, y_fNew, y_out)) : wpY_tok post (y_maxObjects, y_maxSteps, y_maxDepth, y_kept, y_end, y_tokens, y_pending, y_lines, y_classes, y_prints, y_place, y_steps, y_d, y_valTop, y_opTop, y_opens, nI p, y_tk, y_tv, y_stmt, y_target, y_err, y_code, y_outcome, y_result, y_dry, y_want, y_starting, y_ended, y_bad, y_hosted, y_sawSuper, tx, y_numbers, y_globals, y_entries, y_attrs, y_classOf, y_alive, y_orders, y_lengths, y_letters, y_bases, y_vals, y_ops, y_locals, y_fRecv, y_fLine, y_fPos, y_fStmt, y_fTarget, y_fMask, y_fHome, y_fOps, y_fVals, y_fNew, y_out) := by
  have h0 := h
  obtain ⟨h1, h2, h3, h4, h5, _⟩ := hs_TAc h
  refine And.intro (vp_in_nI h5 (by decide)) ?_
  rw [nI_clamp (show p < 2 ^ 31 by omega)]
  refine nm_r h1 (hs_yends ?_ (fun z => absurd ?_ h4) (fun _ => br_t rfl (nm_r (nI_1 p) ?_)))
  · exact Or.inr ⟨t, h2, h3, rfl⟩
  · rw [nI_clamp h3] at z; exact z
  · unfold hs_tk at hp
    refine pk_lt t 1000 (fun a => pk_lt t 130 (fun b => pk_lt t 100 (fun c => ?_) (fun c => ?_)) (fun b => ?_)) (fun a => ?_)
    · rw [if_neg (by omega), if_neg (by omega), if_neg (by omega)] at hp
      exact nm_r (pk_sub (Nat.le_refl t)) hp
    · rw [if_neg (by omega), if_neg (by omega), if_pos (by omega)] at hp
      exact nm_r (pk_sub (b := 100) c) hp
    · rw [if_neg (by omega), if_pos (by omega)] at hp
      exact nm_r (pk_sub (b := 130) b) hp
    · rw [if_pos (by omega)] at hp
      exact nm_r (pk_sub (b := 1000) a) hp
theorem hs_yIsE {tx : Nat → Int32} {p k : Nat} (h : hs_TA tx p []) (hk : k < 2 ^ 31) {post : Int32 → SY → Prop} (h1 : k = 0 → post 1 (y_maxObjects, y_maxSteps, y_maxDepth, y_kept, y_end, y_tokens, y_pending, y_lines, y_classes, y_prints, y_place, y_steps, y_d, y_valTop, y_opTop, y_opens, nI p, 0, y_tv, y_stmt, y_target, y_err, y_code, y_outcome, y_result, y_dry, y_want, y_starting, y_ended, y_bad, y_hosted, y_sawSuper, tx, y_numbers, y_globals, y_entries, y_attrs, y_classOf, y_alive, y_orders, y_lengths, y_letters, y_bases, y_vals, y_ops, y_locals, y_fRecv, y_fLine, y_fPos, y_fStmt, y_fTarget, y_fMask, y_fHome, y_fOps, y_fVals, y_fNew, y_out)) (h0 : k ≠ 0 → post 0 (y_maxObjects, y_maxSteps, y_maxDepth, y_kept, y_end, y_tokens, y_pending, y_lines, y_classes, y_prints, y_place, y_steps, y_d, y_valTop, y_opTop, y_opens, nI p, 0, y_tv, y_stmt, y_target, y_err, y_code, y_outcome, y_result, y_dry, y_want, y_starting, y_ended, y_bad, y_hosted, y_sawSuper, tx, y_numbers, y_globals, y_entries, y_attrs, y_classOf, y_alive, y_orders, y_lengths, y_letters, y_bases, y_vals, y_ops, y_locals, y_fRecv, y_fLine, y_fPos, y_fStmt, y_fTarget, y_fMask, y_fHome, y_fOps, y_fVals, y_fNew, y_out)) : wpY_is post (y_maxObjects, y_maxSteps, y_maxDepth, y_kept, y_end, y_tokens, y_pending, y_lines, y_classes, y_prints, y_place, y_steps, y_d, y_valTop, y_opTop, y_opens, nI p, y_tk, y_tv, y_stmt, y_target, y_err, y_code, y_outcome, y_result, y_dry, y_want, y_starting, y_ended, y_bad, y_hosted, y_sawSuper, tx, y_numbers, y_globals, y_entries, y_attrs, y_classOf, y_alive, y_orders, y_lengths, y_letters, y_bases, y_vals, y_ops, y_locals, y_fRecv, y_fLine, y_fPos, y_fStmt, y_fTarget, y_fMask, y_fHome, y_fOps, y_fVals, y_fNew, y_out) (nI k) := by
  unfold wpY_is
  refine hs_yTokE h ?_
  exact pk_eq 0 k (fun z => h1 z.symm) (fun z => h0 (Ne.symm z))
theorem hs_yIsC {tx : Nat → Int32} {p t k : Nat} {r : List Nat} (h : hs_TA tx p (t :: r)) (hk : k < 2 ^ 31) {post : Int32 → SY → Prop} (h1 : hs_tk t = k → post 1 (y_maxObjects, y_maxSteps, y_maxDepth, y_kept, y_end, y_tokens, y_pending, y_lines, y_classes, y_prints, y_place, y_steps, y_d, y_valTop, y_opTop, y_opens, nI (p + 1), nI (hs_tk t), nI (t - hs_tk t), y_stmt, y_target, y_err, y_code, y_outcome, y_result, y_dry, y_want, y_starting, y_ended, y_bad, y_hosted, y_sawSuper, tx, y_numbers, y_globals, y_entries, y_attrs, y_classOf, y_alive, y_orders, y_lengths, y_letters, y_bases, y_vals, y_ops, y_locals, y_fRecv, y_fLine, y_fPos, y_fStmt, y_fTarget, y_fMask, y_fHome, y_fOps, y_fVals, y_fNew, y_out)) (h0 : hs_tk t ≠ k → post 0 (y_maxObjects, y_maxSteps, y_maxDepth, y_kept, y_end, y_tokens, y_pending, y_lines, y_classes, y_prints, y_place, y_steps, y_d, y_valTop, y_opTop, y_opens, nI (p + 1), nI (hs_tk t), nI (t - hs_tk t), y_stmt, y_target, y_err, y_code, y_outcome, y_result, y_dry, y_want, y_starting, y_ended, y_bad, y_hosted, y_sawSuper, tx, y_numbers, y_globals, y_entries, y_attrs, y_classOf, y_alive, y_orders, y_lengths, y_letters, y_bases, y_vals, y_ops, y_locals, y_fRecv, y_fLine, y_fPos, y_fStmt, y_fTarget, y_fMask, y_fHome, y_fOps, y_fVals, y_fNew, y_out)) : wpY_is post (y_maxObjects, y_maxSteps, y_maxDepth, y_kept, y_end, y_tokens, y_pending, y_lines, y_classes, y_prints, y_place, y_steps, y_d, y_valTop, y_opTop, y_opens, nI p, y_tk, y_tv, y_stmt, y_target, y_err, y_code, y_outcome, y_result, y_dry, y_want, y_starting, y_ended, y_bad, y_hosted, y_sawSuper, tx, y_numbers, y_globals, y_entries, y_attrs, y_classOf, y_alive, y_orders, y_lengths, y_letters, y_bases, y_vals, y_ops, y_locals, y_fRecv, y_fLine, y_fPos, y_fStmt, y_fTarget, y_fMask, y_fHome, y_fOps, y_fVals, y_fNew, y_out) (nI k) := by
  unfold wpY_is
  refine hs_yTokC h ?_
  have := hs_tkLe t
  exact pk_eq (hs_tk t) k h1 h0
theorem hs_yRank {post : Int32 → Prop} {t : Nat} (ht : t < 2 ^ 31) (h : post (nI (hs_rank t))) : wpY_rankOf post (y_maxObjects, y_maxSteps, y_maxDepth, y_kept, y_end, y_tokens, y_pending, y_lines, y_classes, y_prints, y_place, y_steps, y_d, y_valTop, y_opTop, y_opens, y_pos, y_tk, y_tv, y_stmt, y_target, y_err, y_code, y_outcome, y_result, y_dry, y_want, y_starting, y_ended, y_bad, y_hosted, y_sawSuper, y_text, y_numbers, y_globals, y_entries, y_attrs, y_classOf, y_alive, y_orders, y_lengths, y_letters, y_bases, y_vals, y_ops, y_locals, y_fRecv, y_fLine, y_fPos, y_fStmt, y_fTarget, y_fMask, y_fHome, y_fOps, y_fVals, y_fNew, y_out) (nI t) := by
  unfold hs_rank at h
  refine pk_eq t 27 (fun e => ?_) (fun a => pk_eq t 28 (fun e => ?_) (fun b => pk_eq t 29 (fun e => ?_) (fun c => pk_eq t 30 (fun e => ?_) (fun d => pk_eq t 31 (fun e => ?_) (fun f => pk_eq t 32 (fun e => ?_) (fun g => ?_))))))
  · rw [if_pos (by omega)] at h; exact h
  · rw [if_pos (by omega)] at h; exact h
  · rw [if_neg (by omega), if_pos (by omega)] at h; exact h
  · rw [if_neg (by omega), if_pos (by omega)] at h; exact h
  · rw [if_neg (by omega), if_neg (by omega), if_pos (by omega)] at h; exact h
  · rw [if_neg (by omega), if_neg (by omega), if_pos (by omega)] at h; exact h
  · rw [if_neg (by omega), if_neg (by omega), if_neg (by omega)] at h; exact h
theorem hs_yValue {post : SY → Prop} {vt : Nat} (hv : vt < 320) {x : Int64} (h : post (y_maxObjects, y_maxSteps, y_maxDepth, y_kept, y_end, y_tokens, y_pending, y_lines, y_classes, y_prints, y_place, y_steps, y_d, nI (vt + 1), y_opTop, y_opens, y_pos, y_tk, y_tv, y_stmt, y_target, y_err, y_code, y_outcome, y_result, y_dry, 0, y_starting, y_ended, y_bad, y_hosted, y_sawSuper, y_text, y_numbers, y_globals, y_entries, y_attrs, y_classOf, y_alive, y_orders, y_lengths, y_letters, y_bases, vp_updL y_vals vt x, y_ops, y_locals, y_fRecv, y_fLine, y_fPos, y_fStmt, y_fTarget, y_fMask, y_fHome, y_fOps, y_fVals, y_fNew, y_out)) : wpY_value post (y_maxObjects, y_maxSteps, y_maxDepth, y_kept, y_end, y_tokens, y_pending, y_lines, y_classes, y_prints, y_place, y_steps, y_d, nI vt, y_opTop, y_opens, y_pos, y_tk, y_tv, y_stmt, y_target, y_err, y_code, y_outcome, y_result, y_dry, y_want, y_starting, y_ended, y_bad, y_hosted, y_sawSuper, y_text, y_numbers, y_globals, y_entries, y_attrs, y_classOf, y_alive, y_orders, y_lengths, y_letters, y_bases, y_vals, y_ops, y_locals, y_fRecv, y_fLine, y_fPos, y_fStmt, y_fTarget, y_fMask, y_fHome, y_fOps, y_fVals, y_fNew, y_out) x := by
  refine nm_r (nI_1 vt) (And.intro (vp_in_nI hv (by decide)) ?_)
  rw [nI_clamp (show vt < 2 ^ 31 by omega)]
  exact nm_e h
theorem hs_yValueInt {post : SY → Prop} {vt : Nat} (hv : vt < 320) {x : Int32} (h : post (y_maxObjects, y_maxSteps, y_maxDepth, y_kept, y_end, y_tokens, y_pending, y_lines, y_classes, y_prints, y_place, y_steps, y_d, nI (vt + 1), y_opTop, y_opens, y_pos, y_tk, y_tv, y_stmt, y_target, y_err, y_code, y_outcome, y_result, y_dry, 0, y_starting, y_ended, y_bad, y_hosted, y_sawSuper, y_text, y_numbers, y_globals, y_entries, y_attrs, y_classOf, y_alive, y_orders, y_lengths, y_letters, y_bases, vp_updL y_vals vt (hs_int x), y_ops, y_locals, y_fRecv, y_fLine, y_fPos, y_fStmt, y_fTarget, y_fMask, y_fHome, y_fOps, y_fVals, y_fNew, y_out)) : wpY_valueInt post (y_maxObjects, y_maxSteps, y_maxDepth, y_kept, y_end, y_tokens, y_pending, y_lines, y_classes, y_prints, y_place, y_steps, y_d, nI vt, y_opTop, y_opens, y_pos, y_tk, y_tv, y_stmt, y_target, y_err, y_code, y_outcome, y_result, y_dry, y_want, y_starting, y_ended, y_bad, y_hosted, y_sawSuper, y_text, y_numbers, y_globals, y_entries, y_attrs, y_classOf, y_alive, y_orders, y_lengths, y_letters, y_bases, y_vals, y_ops, y_locals, y_fRecv, y_fLine, y_fPos, y_fStmt, y_fTarget, y_fMask, y_fHome, y_fOps, y_fVals, y_fNew, y_out) x := by
  unfold wpY_valueInt wpY_int1
  exact hs_yValue hv h
theorem hs_yParenR {post : SY → Prop} {ot : Nat} (ho : ot < 320) {s : Int32} (h : post (y_maxObjects, y_maxSteps, y_maxDepth, y_kept, y_end, y_tokens, y_pending, y_lines, y_classes, y_prints, y_place, y_steps, y_d, y_valTop, nI (ot + 1), y_opens + 1, y_pos, y_tk, y_tv, y_stmt, y_target, y_err, y_code, y_outcome, y_result, 0, 1, y_starting, y_ended, y_bad, y_hosted, y_sawSuper, y_text, y_numbers, y_globals, y_entries, y_attrs, y_classOf, y_alive, y_orders, y_lengths, y_letters, y_bases, y_vals, upd y_ops ot s, y_locals, y_fRecv, y_fLine, y_fPos, y_fStmt, y_fTarget, y_fMask, y_fHome, y_fOps, y_fVals, y_fNew, y_out)) : wpY_paren post (y_maxObjects, y_maxSteps, y_maxDepth, y_kept, y_end, y_tokens, y_pending, y_lines, y_classes, y_prints, y_place, y_steps, y_d, y_valTop, nI ot, y_opens, y_pos, y_tk, y_tv, y_stmt, y_target, y_err, y_code, y_outcome, y_result, 0, y_want, y_starting, y_ended, y_bad, y_hosted, y_sawSuper, y_text, y_numbers, y_globals, y_entries, y_attrs, y_classOf, y_alive, y_orders, y_lengths, y_letters, y_bases, y_vals, y_ops, y_locals, y_fRecv, y_fLine, y_fPos, y_fStmt, y_fTarget, y_fMask, y_fHome, y_fOps, y_fVals, y_fNew, y_out) s := by
  refine nm_e (br_t rfl (nm_r (nI_1 ot) (And.intro (vp_in_nI ho (by decide)) ?_)))
  rw [nI_clamp (show ot < 2 ^ 31 by omega)]
  exact nm_e h
theorem hs_yParenD {post : SY → Prop} {ot on : Nat} (ho : ot < 320) (hn : on < 1000) {s : Int32} (h : on < 4 → post (y_maxObjects, y_maxSteps, y_maxDepth, y_kept, y_end, y_tokens, y_pending, y_lines, y_classes, y_prints, y_place, y_steps, y_d, y_valTop, nI (ot + 1), nI (on + 1), y_pos, y_tk, y_tv, y_stmt, y_target, y_err, y_code, y_outcome, y_result, 1, 1, y_starting, y_ended, y_bad, y_hosted, y_sawSuper, y_text, y_numbers, y_globals, y_entries, y_attrs, y_classOf, y_alive, y_orders, y_lengths, y_letters, y_bases, y_vals, upd y_ops ot s, y_locals, y_fRecv, y_fLine, y_fPos, y_fStmt, y_fTarget, y_fMask, y_fHome, y_fOps, y_fVals, y_fNew, y_out)) (hb : 4 ≤ on → post (y_maxObjects, y_maxSteps, y_maxDepth, y_kept, y_end, y_tokens, y_pending, y_lines, y_classes, y_prints, y_place, y_steps, y_d, y_valTop, nI (ot + 1), nI (on + 1), y_pos, y_tk, y_tv, y_stmt, y_target, y_err, y_code, y_outcome, y_result, 1, 1, y_starting, y_ended, 1, y_hosted, y_sawSuper, y_text, y_numbers, y_globals, y_entries, y_attrs, y_classOf, y_alive, y_orders, y_lengths, y_letters, y_bases, y_vals, upd y_ops ot s, y_locals, y_fRecv, y_fLine, y_fPos, y_fStmt, y_fTarget, y_fMask, y_fHome, y_fOps, y_fVals, y_fNew, y_out)) : wpY_paren post (y_maxObjects, y_maxSteps, y_maxDepth, y_kept, y_end, y_tokens, y_pending, y_lines, y_classes, y_prints, y_place, y_steps, y_d, y_valTop, nI ot, nI on, y_pos, y_tk, y_tv, y_stmt, y_target, y_err, y_code, y_outcome, y_result, 1, y_want, y_starting, y_ended, y_bad, y_hosted, y_sawSuper, y_text, y_numbers, y_globals, y_entries, y_attrs, y_classOf, y_alive, y_orders, y_lengths, y_letters, y_bases, y_vals, y_ops, y_locals, y_fRecv, y_fLine, y_fPos, y_fStmt, y_fTarget, y_fMask, y_fHome, y_fOps, y_fVals, y_fNew, y_out) s := by
  refine nm_r (nI_1 on) (br_f (by decide) (pk_le (on + 1) 4 (fun z => ?_) (fun z => ?_)))
  · refine nm_r (nI_1 ot) (And.intro (vp_in_nI ho (by decide)) ?_)
    rw [nI_clamp (show ot < 2 ^ 31 by omega)]
    exact nm_e (h (by omega))
  · refine nm_r (nI_1 ot) (And.intro (vp_in_nI ho (by decide)) ?_)
    rw [nI_clamp (show ot < 2 ^ 31 by omega)]
    exact nm_e (hb (by omega))
/-- the operators that wait, in Y's stack from base on -/
def hs_SA (ops : Nat → Int32) (base : Nat) : Nat → List Nat → Prop
  | top, [] => top = base
  | top, s :: r => ∃ t, top = t + 1 ∧ base ≤ t ∧ ops t = nI s ∧ s < 1048576 ∧ hs_SA ops base t r
theorem hs_SAlen {ops : Nat → Int32} {base : Nat} : ∀ {st : List Nat} {top : Nat}, hs_SA ops base top st → top = base + st.length
  | [], _, h => h
  | _ :: r, _, ⟨t, e, _, _, _, h⟩ => by have := hs_SAlen h; simp only [List.length_cons]; omega
theorem hs_SAupd {ops ops' : Nat → Int32} {base : Nat} : ∀ {st : List Nat} {top : Nat}, hs_SA ops base top st → (∀ k, base ≤ k → k < top → ops' k = ops k) → hs_SA ops' base top st
  | [], _, h, _ => h
  | _ :: r, _, ⟨t, e, e1, e2, e3, h⟩, hk => ⟨t, e, e1, (hk t e1 (by omega)).trans e2, e3, hs_SAupd h (fun k k1 k2 => hk k k1 (by omega))⟩
theorem hs_SApush {ops : Nat → Int32} {base top s : Nat} {st : List Nat} (h : hs_SA ops base top st) (hs : s < 1048576) : hs_SA (upd ops top (nI s)) base (top + 1) (s :: st) :=
  ⟨top, rfl, by have := hs_SAlen h; omega, pk_us, hs, hs_SAupd h (fun k _ k2 => pk_un (by omega))⟩
end
