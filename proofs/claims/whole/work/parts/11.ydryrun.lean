/-! Y's dry run, whole -/
section
variable {x_objectLimit x_stepLimit x_depthLimit x_pendingCount x_keptTokens x_keptLines x_lineCount x_codeCount x_cursor x_stop x_waitingCount x_openCount x_classCount x_callCount x_operandCount x_stepsTaken x_error x_raisedCode x_printCount x_lastPlace : Int32} {x_lastResult : Int64} {x_pending x_lineTable x_orders x_merging x_letterClass x_objectClass x_calls x_lastPrints : Nat → Int32} {x_code x_waiting x_globals x_entries x_attributes x_held x_operands : Nat → Int64}
variable {y_maxObjects y_maxSteps y_maxDepth y_kept y_end y_tokens y_pending y_lines y_classes y_prints y_place y_steps y_d y_valTop y_opTop y_opens y_pos y_tk y_tv y_stmt y_target y_err y_code y_outcome y_dry y_want y_starting y_ended y_bad y_hosted y_sawSuper : Int32} {y_result : Int64} {y_text y_numbers y_classOf y_alive y_orders y_lengths y_letters y_bases y_ops y_fLine y_fPos y_fStmt y_fTarget y_fMask y_fHome y_fOps y_fVals y_fNew y_out : Nat → Int32} {y_globals y_entries y_attrs y_vals y_locals y_fRecv : Nat → Int64}
theorem hs_yDryB {post : Int32 → SY → Prop} {n : Nat} {r : Int32} (H : post (-1) (y_maxObjects, y_maxSteps, y_maxDepth, y_kept, y_end, y_tokens, y_pending, y_lines, y_classes, y_prints, y_place, y_steps, y_d, 0, 0, y_opens, y_pos, y_tk, y_tv, y_stmt, y_target, y_err, y_code, y_outcome, y_result, 0, y_want, y_starting, y_ended, 1, y_hosted, y_sawSuper, y_text, y_numbers, y_globals, y_entries, y_attrs, y_classOf, y_alive, y_orders, y_lengths, y_letters, y_bases, y_vals, y_ops, y_locals, y_fRecv, y_fLine, y_fPos, y_fStmt, y_fTarget, y_fMask, y_fHome, y_fOps, y_fVals, y_fNew, y_out)) : wY_dryRun_37 post (n + 1) r y_maxObjects y_maxSteps y_maxDepth y_kept y_end y_tokens y_pending y_lines y_classes y_prints y_place y_steps y_d y_valTop y_opTop y_opens y_pos y_tk y_tv y_stmt y_target y_err y_code y_outcome y_result y_dry y_want y_starting y_ended 1 y_hosted y_sawSuper y_text y_numbers y_globals y_entries y_attrs y_classOf y_alive y_orders y_lengths y_letters y_bases y_vals y_ops y_locals y_fRecv y_fLine y_fPos y_fStmt y_fTarget y_fMask y_fHome y_fOps y_fVals y_fNew y_out := by
  by_cases e : r = 0
  · exact br_t e (br_f (by decide) (br_f (by decide) H))
  · exact br_f e (br_f (by decide) H)
theorem hs_yDryF {post : Int32 → SY → Prop} {n : Nat} (H : post y_tk (y_maxObjects, y_maxSteps, y_maxDepth, y_kept, y_end, y_tokens, y_pending, y_lines, y_classes, y_prints, y_place, y_steps, y_d, 0, 0, y_opens, y_pos, y_tk, y_tv, y_stmt, y_target, y_err, y_code, y_outcome, y_result, 0, y_want, y_starting, y_ended, 0, y_hosted, y_sawSuper, y_text, y_numbers, y_globals, y_entries, y_attrs, y_classOf, y_alive, y_orders, y_lengths, y_letters, y_bases, y_vals, y_ops, y_locals, y_fRecv, y_fLine, y_fPos, y_fStmt, y_fTarget, y_fMask, y_fHome, y_fOps, y_fVals, y_fNew, y_out)) : wY_dryRun_37 post (n + 1) 1 y_maxObjects y_maxSteps y_maxDepth y_kept y_end y_tokens y_pending y_lines y_classes y_prints y_place y_steps y_d y_valTop y_opTop y_opens y_pos y_tk y_tv y_stmt y_target y_err y_code y_outcome y_result y_dry y_want y_starting y_ended 0 y_hosted y_sawSuper y_text y_numbers y_globals y_entries y_attrs y_classOf y_alive y_orders y_lengths y_letters y_bases y_vals y_ops y_locals y_fRecv y_fLine y_fPos y_fStmt y_fTarget y_fMask y_fHome y_fOps y_fVals y_fNew y_out := by
  exact br_f (by decide) (br_t rfl H)
theorem hs_yDryL {tx : Nat → Int32} {fo : Nat → Int32} {sm : Int32} {z : Bool} (hfo : fo 0 = nI 0) (hz : z = true ↔ sm = 50) {post : Int32 → SY → Prop} : ∀ (n : Nat) (ts : List Nat) (w : Bool) (st : List Nat) (p : Nat) (tk tv ss : Int32) (ops : Nat → Int32) (vals : Nat → Int64),
    2 * ts.length + st.length + 2 ≤ n → hs_TA tx p ts → (∀ x, x ∈ ts → hs_vt x) → hs_SA ops 0 st.length st → st.length + ts.length + (if w then 0 else 1) ≤ 50 → (ss = 0 ∨ ss = 1) → (∀ (cd : List (Nat × Nat)) (rs fs : List Nat), hs_S z ts w st cd rs fs → ∀ (p' k : Nat) (q1 q4 q5 ss' : Int32) (q9 : Nat → Int64) (q10 : Nat → Int32), (rs = [] ∧ k = 0 ∧ hs_TA tx p' [] ∨ ∃ r, rs = 25 :: r ∧ k = 25 ∧ hs_TA tx p' r) → ((13 ∈ ts ∨ ss = 1) ↔ (13 ∈ rs ∨ ss' = 1)) → (ss' = 0 ∨ ss' = 1) → post (nI k) (y_maxObjects, y_maxSteps, y_maxDepth, y_kept, y_end, y_tokens, y_pending, y_lines, y_classes, y_prints, y_place, y_steps, nI 0, 0, 0, q1, nI p', nI k, q4, sm, y_target, y_err, y_code, y_outcome, y_result, 0, q5, y_starting, y_ended, 0, y_hosted, ss', tx, y_numbers, y_globals, y_entries, y_attrs, y_classOf, y_alive, y_orders, y_lengths, y_letters, y_bases, q9, q10, y_locals, y_fRecv, y_fLine, y_fPos, y_fStmt, y_fTarget, y_fMask, y_fHome, fo, y_fVals, y_fNew, y_out)) → ((∀ (cd : List (Nat × Nat)) (rs fs : List Nat), ¬ hs_S z ts w st cd rs fs) → ∀ (q1 q2 q3 q4 q5 q6 : Int32) (q9 : Nat → Int64) (q10 : Nat → Int32), post (-1) (y_maxObjects, y_maxSteps, y_maxDepth, y_kept, y_end, y_tokens, y_pending, y_lines, y_classes, y_prints, y_place, y_steps, nI 0, 0, 0, q1, q2, q3, q4, sm, y_target, y_err, y_code, y_outcome, y_result, 0, q5, y_starting, y_ended, 1, y_hosted, q6, tx, y_numbers, y_globals, y_entries, y_attrs, y_classOf, y_alive, y_orders, y_lengths, y_letters, y_bases, q9, q10, y_locals, y_fRecv, y_fLine, y_fPos, y_fStmt, y_fTarget, y_fMask, y_fHome, fo, y_fVals, y_fNew, y_out)) → wY_dryRun_37 post n 0 y_maxObjects y_maxSteps y_maxDepth y_kept y_end y_tokens y_pending y_lines y_classes y_prints y_place y_steps (nI 0) (nI (hs_nv (st) (w))) (nI (List.length (st))) (nI (hs_opn (st))) (nI (p)) tk tv sm y_target y_err y_code y_outcome y_result 1 (hs_b (w)) y_starting y_ended 0 y_hosted ss tx y_numbers y_globals y_entries y_attrs y_classOf y_alive y_orders y_lengths y_letters y_bases vals ops y_locals y_fRecv y_fLine y_fPos y_fStmt y_fTarget y_fMask y_fHome fo y_fVals y_fNew y_out := by
  intro n
  induction n with
  | zero => intro ts w st p tk tv ss ops vals h; omega
  | succ n ih =>
    intro ts w st p tk tv ss ops vals hn hTA hv hSA hlen hss HS HB
    obtain ⟨n, rfl⟩ : ∃ m, n = m + 1 := ⟨n - 1, by omega⟩
    refine br_t rfl (br_t rfl ?_)
    have step : ∀ (ts' : List Nat) (w' : Bool) (st' : List Nat) (e : List (Nat × Nat)) (p' : Nat) (tk tv ss' : Int32) (ops : Nat → Int32) (vals : Nat → Int64), hs_step z ts w st = some (ts', w', st', e) → ¬ hs_fin ts w st → hs_TA tx p' ts' → (∀ x, x ∈ ts' → hs_vt x) → hs_SA ops 0 st'.length st' → ((13 ∈ ts ∨ ss = 1) ↔ (13 ∈ ts' ∨ ss' = 1)) → (ss = 0 ∨ ss = 1 → ss' = 0 ∨ ss' = 1) → wY_dryRun_37 post (n + 1) 0 y_maxObjects y_maxSteps y_maxDepth y_kept y_end y_tokens y_pending y_lines y_classes y_prints y_place y_steps (nI 0) (nI (hs_nv (st') (w'))) (nI (List.length (st'))) (nI (hs_opn (st'))) (nI (p')) tk tv sm y_target y_err y_code y_outcome y_result 1 (hs_b (w')) y_starting y_ended 0 y_hosted ss' tx y_numbers y_globals y_entries y_attrs y_classOf y_alive y_orders y_lengths y_letters y_bases vals ops y_locals y_fRecv y_fLine y_fPos y_fStmt y_fTarget y_fMask y_fHome fo y_fVals y_fNew y_out := by
      intro ts' w' st' e p' tk tv ss' ops vals E nf hTA' hv' hSA' hm hss'
      obtain ⟨m1, m2⟩ := hs_stepM E
      refine ih ts' w' st' p' tk tv ss' ops vals (by omega) hTA' hv' hSA' (by omega) (hss' hss) ?_ ?_
      · intro cd rs fs hS p2 k q1 q4 q5 ss2 q9 q10 hr hm2 hs2
        exact HS (e ++ cd) rs fs ((hs_Sstep nf E).mpr ⟨cd, rfl, hS⟩) p2 k q1 q4 q5 ss2 q9 q10 hr (hm.trans hm2) hs2
      · intro hno
        refine HB (fun cd rs fs hS => ?_)
        obtain ⟨cd', _, h2⟩ := (hs_Sstep nf E).mp hS
        exact hno _ _ _ h2
    cases w with
    | true =>
      cases ts with
      | nil =>
        refine hs_yOpdEnd hTA ?_
        refine hs_yDryB (HB (fun cd rs fs => hs_Sbad (fun y => absurd y.1 (by decide)) rfl) _ _ _ _ _ _ _ _)
      | cons t r =>
        have nf : ¬ hs_fin (t :: r) true st := fun y => absurd y.1 (by decide)
        refine hs_yDryW (z := z) rfl rfl hTA (by simp at hlen; omega) hfo hz hv hSA (fun ts' w' st' e p' tk tv ss' ops vals E h1 h2 h3 h4 h5 => step ts' w' st' e p' tk tv ss' ops vals E nf h1 h2 h3 h4 h5) (fun E q1 q2 q3 q4 q5 q6 q7 q8 q9 q10 => ?_)
        exact hs_yDryB (HB (fun cd rs fs => hs_Sbad nf E) _ _ _ _ _ _ _ _)
    | false =>
      have nfs : ∀ x, hs_step z ts false st = some x → ¬ hs_fin ts false st := by
        intro x E hf
        obtain ⟨_, h1, h2, h3⟩ := hf
        have E : hs_opr z ts st = some x := E
        unfold hs_opr at E
        rw [if_neg (fun y => h2 y.1)] at E
        cases ts with
        | nil => cases E
        | cons t r =>
          have e25 : t = 25 := by
            rcases h1 with h1 | h1
            · cases h1
            · exact h1
          subst e25
          have E : hs_opr1 z 25 r st = some x := E
          unfold hs_opr1 at E
          rw [if_neg (by decide), if_neg (by decide), if_neg (by decide)] at E
          cases E
      have nfn : hs_step z ts false st = none → ∀ (q : ¬ hs_fin ts false st) (cd : List (Nat × Nat)) (rs fs : List Nat), ¬ hs_S z ts false st cd rs fs := fun E q cd rs fs => hs_Sbad q E
      refine hs_yDryN (z := z) rfl hTA (by simp at hlen; omega) hfo hz hv hSA (fun ts' w' st' e p' tk tv ss' ops vals E h1 h2 h3 h4 h5 => step ts' w' st' e p' tk tv ss' ops vals E (nfs _ E) h1 h2 h3 h4 h5) (fun E nf q1 q2 q3 q4 q5 q6 q7 q8 q9 q10 => ?_) (fun hf p' k tv hk => ?_) (fun E nf q1 q2 q3 q4 q5 q6 q7 q8 q9 q10 => ?_)
      · exact hs_yDryB (HB (nfn E nf) _ _ _ _ _ _ _ _)
      · refine hs_yDryF (HS [] ts st ((hs_Sfin hf).mpr ⟨rfl, rfl, rfl⟩) p' k _ _ _ ss _ _ ?_ Iff.rfl hss)
        rcases hk with ⟨rfl, rfl, rfl⟩ | ⟨r, rfl, rfl, rfl, h⟩
        · exact Or.inl ⟨rfl, rfl, hTA⟩
        · exact Or.inr ⟨r, rfl, rfl, h⟩
      · exact hs_yDryB (HB (nfn E nf) _ _ _ _ _ _ _ _)
theorem hs_yDryRun {tx : Nat → Int32} {fo : Nat → Int32} {sm : Int32} {z : Bool} (hfo : fo 0 = nI 0) (hz : z = true ↔ sm = 50) {post : Int32 → SY → Prop} {ts : List Nat} {p : Nat} {ss : Int32} (hTA : hs_TA tx p ts) (hv : ∀ x, x ∈ ts → hs_vt x) (hlen : ts.length ≤ 50) (hss : ss = 0 ∨ ss = 1) {w : Bool} {st : List Nat} (ew : w = true) (es : st = []) (HS : (∀ (cd : List (Nat × Nat)) (rs fs : List Nat), hs_S z ts w st cd rs fs → ∀ (p' k : Nat) (q1 q4 q5 ss' : Int32) (q9 : Nat → Int64) (q10 : Nat → Int32), (rs = [] ∧ k = 0 ∧ hs_TA tx p' [] ∨ ∃ r, rs = 25 :: r ∧ k = 25 ∧ hs_TA tx p' r) → ((13 ∈ ts ∨ ss = 1) ↔ (13 ∈ rs ∨ ss' = 1)) → (ss' = 0 ∨ ss' = 1) → post (nI k) (y_maxObjects, y_maxSteps, y_maxDepth, y_kept, y_end, y_tokens, y_pending, y_lines, y_classes, y_prints, y_place, y_steps, nI 0, 0, 0, q1, nI p', nI k, q4, sm, y_target, y_err, y_code, y_outcome, y_result, 0, q5, y_starting, y_ended, 0, y_hosted, ss', tx, y_numbers, y_globals, y_entries, y_attrs, y_classOf, y_alive, y_orders, y_lengths, y_letters, y_bases, q9, q10, y_locals, y_fRecv, y_fLine, y_fPos, y_fStmt, y_fTarget, y_fMask, y_fHome, fo, y_fVals, y_fNew, y_out))) (HB : ((∀ (cd : List (Nat × Nat)) (rs fs : List Nat), ¬ hs_S z ts w st cd rs fs) → ∀ (q1 q2 q3 q4 q5 q6 : Int32) (q9 : Nat → Int64) (q10 : Nat → Int32), post (-1) (y_maxObjects, y_maxSteps, y_maxDepth, y_kept, y_end, y_tokens, y_pending, y_lines, y_classes, y_prints, y_place, y_steps, nI 0, 0, 0, q1, q2, q3, q4, sm, y_target, y_err, y_code, y_outcome, y_result, 0, q5, y_starting, y_ended, 1, y_hosted, q6, tx, y_numbers, y_globals, y_entries, y_attrs, y_classOf, y_alive, y_orders, y_lengths, y_letters, y_bases, q9, q10, y_locals, y_fRecv, y_fLine, y_fPos, y_fStmt, y_fTarget, y_fMask, y_fHome, fo, y_fVals, y_fNew, y_out))) : wpY_dryRun post (y_maxObjects, y_maxSteps, y_maxDepth, y_kept, y_end, y_tokens, y_pending, y_lines, y_classes, y_prints, y_place, y_steps, y_d, y_valTop, y_opTop, y_opens, nI p, y_tk, y_tv, sm, y_target, y_err, y_code, y_outcome, y_result, y_dry, y_want, y_starting, y_ended, y_bad, y_hosted, ss, tx, y_numbers, y_globals, y_entries, y_attrs, y_classOf, y_alive, y_orders, y_lengths, y_letters, y_bases, y_vals, y_ops, y_locals, y_fRecv, y_fLine, y_fPos, y_fStmt, y_fTarget, y_fMask, y_fHome, fo, y_fVals, y_fNew, y_out) := by
  subst ew es
  exact ⟨2 * ts.length + 2, hs_yDryL hfo hz _ ts true [] p y_tk y_tv ss y_ops y_vals (by simp) hTA hv rfl (by simpa using hlen) hss HS HB⟩
end
