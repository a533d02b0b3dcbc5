/-! the head of a line on Y's side -/
section
variable {x_objectLimit x_stepLimit x_depthLimit x_pendingCount x_keptTokens x_keptLines x_lineCount x_codeCount x_cursor x_stop x_waitingCount x_openCount x_classCount x_callCount x_operandCount x_stepsTaken x_error x_raisedCode x_printCount x_lastPlace : Int32} {x_lastResult : Int64} {x_pending x_lineTable x_orders x_merging x_letterClass x_objectClass x_calls x_lastPrints : Nat → Int32} {x_code x_waiting x_globals x_entries x_attributes x_held x_operands : Nat → Int64}
variable {y_maxObjects y_maxSteps y_maxDepth y_kept y_end y_tokens y_pending y_lines y_classes y_prints y_place y_steps y_d y_valTop y_opTop y_opens y_pos y_tk y_tv y_stmt y_target y_err y_code y_outcome y_dry y_want y_starting y_ended y_bad y_hosted y_sawSuper : Int32} {y_result : Int64} {y_text y_numbers y_classOf y_alive y_orders y_lengths y_letters y_bases y_ops y_fLine y_fPos y_fStmt y_fTarget y_fMask y_fHome y_fOps y_fVals y_fNew y_out : Nat → Int32} {y_globals y_entries y_attrs y_vals y_locals y_fRecv : Nat → Int64}
def hs_plain (t : Nat) (r : List Nat) : Prop := ¬ (1 ≤ t ∧ t ≤ 11) ∧ ¬ (hs_isN t = true ∧ hs_hd r = 26) ∧ ¬ (hs_isC t = true ∧ ∃ n r1, r = 24 :: n :: 26 :: r1 ∧ hs_isN n = true)
theorem hs_yHeadW {tx : Nat → Int32} {p t : Nat} {r : List Nat} (h : hs_TA tx p (t :: r)) (ht : 1 ≤ t ∧ t ≤ 11) {post : SY → Prop} (H : post (y_maxObjects, y_maxSteps, y_maxDepth, y_kept, y_end, y_tokens, y_pending, y_lines, y_classes, y_prints, y_place, y_steps, y_d, y_valTop, y_opTop, y_opens, nI (p + 1), nI t, nI (t - t), nI t, y_target, y_err, y_code, y_outcome, y_result, y_dry, y_want, y_starting, y_ended, y_bad, y_hosted, y_sawSuper, tx, y_numbers, y_globals, y_entries, y_attrs, y_classOf, y_alive, y_orders, y_lengths, y_letters, y_bases, y_vals, y_ops, y_locals, y_fRecv, y_fLine, y_fPos, y_fStmt, y_fTarget, y_fMask, y_fHome, y_fOps, y_fVals, y_fNew, y_out)) : wpY_head post (y_maxObjects, y_maxSteps, y_maxDepth, y_kept, y_end, y_tokens, y_pending, y_lines, y_classes, y_prints, y_place, y_steps, y_d, y_valTop, y_opTop, y_opens, y_pos, y_tk, y_tv, y_stmt, y_target, y_err, y_code, y_outcome, y_result, y_dry, y_want, y_starting, y_ended, y_bad, y_hosted, y_sawSuper, tx, y_numbers, y_globals, y_entries, y_attrs, y_classOf, y_alive, y_orders, y_lengths, y_letters, y_bases, y_vals, y_ops, y_locals, y_fRecv, y_fLine, y_fPos, y_fStmt, y_fTarget, y_fMask, y_fHome, y_fOps, y_fVals, y_fNew, y_out) (nI p) := by
  unfold wpY_head
  refine hs_yTokK h t (hs_tkS (by omega)) (br_f (nI_nle (by omega) (by omega)) (br_f (nI_nlt (a := 11) (by omega) (by decide)) H))
theorem hs_yHeadN {tx : Nat → Int32} {p t : Nat} {r : List Nat} (h : hs_TA tx p (t :: 26 :: r)) (ht : hs_isN t = true) {post : SY → Prop} (H : post (y_maxObjects, y_maxSteps, y_maxDepth, y_kept, y_end, y_tokens, y_pending, y_lines, y_classes, y_prints, y_place, y_steps, y_d, y_valTop, y_opTop, y_opens, nI (p + 1 + 1), nI 100, nI (t - 100), 51, nI (t - 100), y_err, y_code, y_outcome, y_result, y_dry, y_want, y_starting, y_ended, y_bad, y_hosted, y_sawSuper, tx, y_numbers, y_globals, y_entries, y_attrs, y_classOf, y_alive, y_orders, y_lengths, y_letters, y_bases, y_vals, y_ops, y_locals, y_fRecv, y_fLine, y_fPos, y_fStmt, y_fTarget, y_fMask, y_fHome, y_fOps, y_fVals, y_fNew, y_out)) : wpY_head post (y_maxObjects, y_maxSteps, y_maxDepth, y_kept, y_end, y_tokens, y_pending, y_lines, y_classes, y_prints, y_place, y_steps, y_d, y_valTop, y_opTop, y_opens, y_pos, y_tk, y_tv, y_stmt, y_target, y_err, y_code, y_outcome, y_result, y_dry, y_want, y_starting, y_ended, y_bad, y_hosted, y_sawSuper, tx, y_numbers, y_globals, y_entries, y_attrs, y_classOf, y_alive, y_orders, y_lengths, y_letters, y_bases, y_vals, y_ops, y_locals, y_fRecv, y_fLine, y_fPos, y_fStmt, y_fTarget, y_fMask, y_fHome, y_fOps, y_fVals, y_fNew, y_out) (nI p) := by
  have h2 := (hs_TAc h).2.2.2.2.2
  unfold wpY_head
  refine hs_yTokK h 100 (hs_tkN ht).1 (br_f (nI_nle (by decide) (by decide)) (br_t (nI_lt (a := 11) (by decide) (by decide)) ?_))
  unfold wY_head_34
  refine br_t rfl (And.intro (vp_in_nI (hs_TAlt h2) (by decide)) ?_)
  rw [nI_clamp (show p + 1 < 2 ^ 31 by have := hs_TAlt h2; omega)]
  refine br_t (hs_TAc h2).1 (nm_r (nI_1 _) ?_)
  unfold wY_head_202
  exact br_f (hs_ne (a := 51) (b := 50) (by decide) (by decide) (by decide)) H
theorem hs_yHeadC {tx : Nat → Int32} {p t n : Nat} {r : List Nat} (h : hs_TA tx p (t :: 24 :: n :: 26 :: r)) (ht : hs_isC t = true) (hn : hs_isN n = true) {post : SY → Prop} (H : post (y_maxObjects, y_maxSteps, y_maxDepth, y_kept, y_end, y_tokens, y_pending, y_lines, y_classes, y_prints, y_place, y_steps, y_d, y_valTop, y_opTop, y_opens, nI (p + 1 + 1 + 1 + 1), nI 100, nI (n - 100), 52, nI ((t - 130) * 26 + (n - 100)), y_err, y_code, y_outcome, y_result, y_dry, y_want, y_starting, y_ended, y_bad, y_hosted, y_sawSuper, tx, y_numbers, y_globals, y_entries, y_attrs, y_classOf, y_alive, y_orders, y_lengths, y_letters, y_bases, y_vals, y_ops, y_locals, y_fRecv, y_fLine, y_fPos, y_fStmt, y_fTarget, y_fMask, y_fHome, y_fOps, y_fVals, y_fNew, y_out)) : wpY_head post (y_maxObjects, y_maxSteps, y_maxDepth, y_kept, y_end, y_tokens, y_pending, y_lines, y_classes, y_prints, y_place, y_steps, y_d, y_valTop, y_opTop, y_opens, y_pos, y_tk, y_tv, y_stmt, y_target, y_err, y_code, y_outcome, y_result, y_dry, y_want, y_starting, y_ended, y_bad, y_hosted, y_sawSuper, tx, y_numbers, y_globals, y_entries, y_attrs, y_classOf, y_alive, y_orders, y_lengths, y_letters, y_bases, y_vals, y_ops, y_locals, y_fRecv, y_fLine, y_fPos, y_fStmt, y_fTarget, y_fMask, y_fHome, y_fOps, y_fVals, y_fNew, y_out) (nI p) := by
  have h2 := (hs_TAc h).2.2.2.2.2
  have h3 := (hs_TAc h2).2.2.2.2.2
  have h4 := (hs_TAc h3).2.2.2.2.2
  have l2 := hs_TAlt h2
  have l3 := hs_TAlt h3
  have l4 := hs_TAlt h4
  have k3 := hs_TAc h3
  unfold wpY_head
  refine hs_yTokK h 130 (hs_tkC ht).1 (br_f (nI_nle (by decide) (by decide)) (br_t (nI_lt (a := 11) (by decide) (by decide)) ?_))
  unfold wY_head_34
  refine br_f (hs_ne (a := 130) (b := 100) (by decide) (by decide) (by decide)) ?_
  unfold wY_head_92
  have e1 : nI (p + 1) + 1 = nI (p + 1 + 1) := nI_1 _
  have e2 : nI (p + 1) + 2 = nI (p + 1 + 1 + 1) := nI_add (p + 1) 2
  rw [e1, e2, nI_clamp (show p + 1 < 2 ^ 31 by omega), nI_clamp (show p + 1 + 1 < 2 ^ 31 by omega), nI_clamp (show p + 1 + 1 + 1 < 2 ^ 31 by omega)]
  refine br_t rfl (And.intro (vp_in_nI l2 (by decide)) (br_t (hs_TAc h2).1 (And.intro (vp_in_nI l3 (by decide)) ?_)))
  refine hs_yends (h3.2.1) (fun y => absurd y ?_) (fun _ => br_t rfl (And.intro (vp_in_nI l4 (by decide)) (br_t (hs_TAc h4).1 (nm_e ?_))))
  · rw [k3.1, nI_clamp k3.2.2.1]; exact k3.2.2.2.1
  · refine hs_yTokK h3 100 (hs_tkN hn).1 (nm_r (nI_1 _) (nm_r (show nI (t - 130) * 26 + nI (n - 100) = nI ((t - 130) * 26 + (n - 100)) from hs_ixMul (t - 130) 26 (n - 100)) (br_t rfl ?_)))
    unfold wY_head_202
    exact br_f (hs_ne (a := 52) (b := 50) (by decide) (by decide) (by decide)) H
theorem hs_yHead202 {x1 : Int32} {post : SY → Prop} (H : post (y_maxObjects, y_maxSteps, y_maxDepth, y_kept, y_end, y_tokens, y_pending, y_lines, y_classes, y_prints, y_place, y_steps, y_d, y_valTop, y_opTop, y_opens, x1, y_tk, y_tv, 50, y_target, y_err, y_code, y_outcome, y_result, y_dry, y_want, y_starting, y_ended, y_bad, y_hosted, y_sawSuper, y_text, y_numbers, y_globals, y_entries, y_attrs, y_classOf, y_alive, y_orders, y_lengths, y_letters, y_bases, y_vals, y_ops, y_locals, y_fRecv, y_fLine, y_fPos, y_fStmt, y_fTarget, y_fMask, y_fHome, y_fOps, y_fVals, y_fNew, y_out)) : wY_head_202 post x1 y_maxObjects y_maxSteps y_maxDepth y_kept y_end y_tokens y_pending y_lines y_classes y_prints y_place y_steps y_d y_valTop y_opTop y_opens y_pos y_tk y_tv 50 y_target y_err y_code y_outcome y_result y_dry y_want y_starting y_ended y_bad y_hosted y_sawSuper y_text y_numbers y_globals y_entries y_attrs y_classOf y_alive y_orders y_lengths y_letters y_bases y_vals y_ops y_locals y_fRecv y_fLine y_fPos y_fStmt y_fTarget y_fMask y_fHome y_fOps y_fVals y_fNew y_out := br_t rfl H
theorem hs_yHeadP {tx : Nat → Int32} {p t : Nat} {r : List Nat} (h : hs_TA tx p (t :: r)) (hv : ∀ x, x ∈ t :: r → hs_vt x) (hp : hs_plain t r) {post : SY → Prop} (H : ∀ (k tv tg : Int32), post (y_maxObjects, y_maxSteps, y_maxDepth, y_kept, y_end, y_tokens, y_pending, y_lines, y_classes, y_prints, y_place, y_steps, y_d, y_valTop, y_opTop, y_opens, nI p, k, tv, 50, tg, y_err, y_code, y_outcome, y_result, y_dry, y_want, y_starting, y_ended, y_bad, y_hosted, y_sawSuper, tx, y_numbers, y_globals, y_entries, y_attrs, y_classOf, y_alive, y_orders, y_lengths, y_letters, y_bases, y_vals, y_ops, y_locals, y_fRecv, y_fLine, y_fPos, y_fStmt, y_fTarget, y_fMask, y_fHome, y_fOps, y_fVals, y_fNew, y_out)) : wpY_head post (y_maxObjects, y_maxSteps, y_maxDepth, y_kept, y_end, y_tokens, y_pending, y_lines, y_classes, y_prints, y_place, y_steps, y_d, y_valTop, y_opTop, y_opens, y_pos, y_tk, y_tv, y_stmt, y_target, y_err, y_code, y_outcome, y_result, y_dry, y_want, y_starting, y_ended, y_bad, y_hosted, y_sawSuper, tx, y_numbers, y_globals, y_entries, y_attrs, y_classOf, y_alive, y_orders, y_lengths, y_letters, y_bases, y_vals, y_ops, y_locals, y_fRecv, y_fLine, y_fPos, y_fStmt, y_fTarget, y_fMask, y_fHome, y_fOps, y_fVals, y_fNew, y_out) (nI p) := by
  obtain ⟨p1, p2, p3⟩ := hp
  have h2 := (hs_TAc h).2.2.2.2.2
  have l2 := hs_TAlt h2
  have tl := hs_tkLe t
  have hvt := hv t (by simp)
  have t0 := hs_enD hvt
  have k11 : 11 < hs_tk t := by
    rcases hvt with q | q | q | q | q
    · rw [hs_tkS (by omega)]; omega
    · rw [hs_tkS (by omega)]; omega
    · have := hs_tkN q; omega
    · have := hs_tkC q; omega
    · rw [hs_tkB q]; omega
  unfold wpY_head
  refine hs_yTokC h (br_f (nI_nle (by omega) (by omega)) (br_t (nI_lt (a := 11) k11 (by omega)) ?_))
  unfold wY_head_34
  have b92 : wY_head_92 post (nI p) (nI (t - hs_tk t)) y_maxObjects y_maxSteps y_maxDepth y_kept y_end y_tokens y_pending y_lines y_classes y_prints y_place y_steps y_d y_valTop y_opTop y_opens (nI (p + 1)) (nI (hs_tk t)) (nI (t - hs_tk t)) 50 y_target y_err y_code y_outcome y_result y_dry y_want y_starting y_ended y_bad y_hosted y_sawSuper tx y_numbers y_globals y_entries y_attrs y_classOf y_alive y_orders y_lengths y_letters y_bases y_vals y_ops y_locals y_fRecv y_fLine y_fPos y_fStmt y_fTarget y_fMask y_fHome y_fOps y_fVals y_fNew y_out := by
    unfold wY_head_92
    have e1 : nI (p + 1) + 1 = nI (p + 1 + 1) := nI_1 _
    have e2 : nI (p + 1) + 2 = nI (p + 1 + 1 + 1) := nI_add (p + 1) 2
    rw [e1, e2, nI_clamp (show p + 1 < 2 ^ 31 by omega), nI_clamp (show p + 1 + 1 < 2 ^ 31 by omega), nI_clamp (show p + 1 + 1 + 1 < 2 ^ 31 by omega)]
    refine br_c (fun q1 => And.intro (vp_in_nI l2 (by decide)) (br_c (fun q2 => ?_) (fun _ => hs_yHead202 (H _ _ _)))) (fun _ => hs_yHead202 (H _ _ _))
    have hc : hs_isC t = true := by
      have := (nI_eq (a := hs_tk t) (b := 130) (by omega) (by decide)).mp q1
      rcases hvt with q | q | q | q | q
      · rw [hs_tkS (by omega)] at this; omega
      · rw [hs_tkS (by omega)] at this; omega
      · have := hs_tkN q; omega
      · exact q
      · rw [hs_tkB q] at this; omega
    have r24 := (hs_TAh h2 (k := 24) (hs_notEn (by decide) (by decide)) (by decide)).mp q2
    cases r with
    | nil => simp [hs_hd] at r24
    | cons a r1 =>
      have r24 : a = 24 := r24
      subst r24
      have h3 := (hs_TAc h2).2.2.2.2.2
      have l3 := hs_TAlt h3
      refine And.intro (vp_in_nI l3 (by decide)) ?_
      cases r1 with
      | nil => exact hs_yends h3.1 (fun _ => br_f (by decide) (hs_yHead202 (H _ _ _))) (fun y => absurd h3.2.1 y)
      | cons n r2 =>
        have h4 := (hs_TAc h3).2.2.2.2.2
        have l4 := hs_TAlt h4
        have k3 := hs_TAc h3
        refine hs_yends (h3.2.1) (fun y => absurd y ?_) (fun _ => br_t rfl (And.intro (vp_in_nI l4 (by decide)) (br_c (fun q3 => nm_e ?_) (fun _ => hs_yHead202 (H _ _ _)))))
        · rw [k3.1, nI_clamp k3.2.2.1]; exact k3.2.2.2.1
        · have r26 := (hs_TAh h4 (k := 26) (hs_notEn (by decide) (by decide)) (by decide)).mp q3
          have nn : hs_isN n = false := by
            cases hh : hs_isN n with
            | false => rfl
            | true =>
              cases r2 with
              | nil => simp [hs_hd] at r26
              | cons b r3 =>
                have r26 : b = 26 := r26
                subst r26
                exact absurd ⟨hc, n, r3, rfl, hh⟩ p3
          have tn := hs_tkLe n
          refine hs_yTokC h3 (nm_e (nm_e (br_f (hs_ne (b := 100) (hs_isNf (hv n (by simp)) nn) (by omega) (by decide)) (hs_yHead202 (H _ _ _)))))
  refine br_c (fun q1 => And.intro (vp_in_nI l2 (by decide)) ?_) (fun _ => b92)
  rw [nI_clamp (show p + 1 < 2 ^ 31 by omega)]
  refine br_c (fun q2 => ?_) (fun _ => b92)
  exfalso
  have r26 := (hs_TAh h2 (k := 26) (hs_notEn (by decide) (by decide)) (by decide)).mp q2
  have hn : hs_isN t = true := by
    cases hh : hs_isN t with
    | true => rfl
    | false => exact absurd ((nI_eq (a := hs_tk t) (b := 100) (by omega) (by decide)).mp q1) (hs_isNf hvt hh)
  exact p2 ⟨hn, r26⟩
end
