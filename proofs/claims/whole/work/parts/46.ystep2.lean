/-! one step of an expression behind an operand, for real -/
section
variable {x_objectLimit x_stepLimit x_depthLimit x_pendingCount x_keptTokens x_keptLines x_lineCount x_codeCount x_cursor x_stop x_waitingCount x_openCount x_classCount x_callCount x_operandCount x_stepsTaken x_error x_raisedCode x_printCount x_lastPlace : Int32} {x_lastResult : Int64} {x_pending x_lineTable x_orders x_merging x_letterClass x_objectClass x_calls x_lastPrints : Nat → Int32} {x_code x_waiting x_globals x_entries x_attributes x_held x_operands : Nat → Int64}
variable {y_maxObjects y_maxSteps y_maxDepth y_kept y_end y_tokens y_pending y_lines y_classes y_prints y_place y_steps y_d y_valTop y_opTop y_opens y_pos y_tk y_tv y_stmt y_target y_err y_code y_outcome y_dry y_want y_starting y_ended y_bad y_hosted y_sawSuper : Int32} {y_result : Int64} {y_text y_numbers y_classOf y_alive y_orders y_lengths y_letters y_bases y_ops y_fLine y_fPos y_fStmt y_fTarget y_fMask y_fHome y_fOps y_fVals y_fNew y_out : Nat → Int32} {y_globals y_entries y_attrs y_vals y_locals y_fRecv : Nat → Int64}
theorem hs_yStepN {tx : Nat → Int32} {fo : Nat → Int32} {p dd base vt : Nat} {ts st : List Nat} {z : Bool} {sm : Int32} (hz : z = true ↔ sm = 50) (h : hs_TA tx p ts) (hd : dd < 7) (hf : fo dd = nI base) (hS : hs_SA y_ops base (base + st.length) st) (ho : base + st.length < 320) (hv : vt < 320) (hv1 : 1 ≤ vt)
    {post : Int32 → SY → Prop} {ts' st' : List Nat} {w' : Bool} {e : List (Nat × Nat)} (hst0 : hs_step z ts false st = some (ts', w', st', e)) (hnf : ¬ hs_fin ts false st)
    (Hs : e = [] → ∀ (p' : Nat) (q1 q2 q3 q4 : Int32) (ops : Nat → Int32), hs_TA tx p' ts' → hs_SA ops base (base + st'.length) st' → (∀ k, k < base → ops k = y_ops k) → post 0 (y_maxObjects, y_maxSteps, y_maxDepth, y_kept, y_end, y_tokens, y_pending, y_lines, y_classes, y_prints, y_place, y_steps, nI dd, nI vt, nI (base + st'.length), q4, nI p', q1, q2, sm, y_target, y_err, y_code, y_outcome, y_result, 0, hs_b w', y_starting, y_ended, y_bad, y_hosted, q3, tx, y_numbers, y_globals, y_entries, y_attrs, y_classOf, y_alive, y_orders, y_lengths, y_letters, y_bases, y_vals, ops, y_locals, y_fRecv, y_fLine, y_fPos, y_fStmt, y_fTarget, y_fMask, y_fHome, fo, y_fVals, y_fNew, y_out))
    (He : ∀ o q, e = [(o, q)] → w' = false → ∀ (p' : Nat) (q1 q2 q4 q5 : Int32), hs_TA tx p' ts' → hs_SA y_ops base (base + st'.length) st' → hs_yop (fun u => match u with | (y_maxObjectsq, y_maxStepsq, y_maxDepthq, y_keptq, y_endq, y_tokensq, y_pendingq, y_linesq, y_classesq, y_printsq, y_placeq, y_stepsq, y_dq, y_valTopq, y_opTopq, y_opensq, y_posq, y_tkq, y_tvq, y_stmtq, y_targetq, y_errq, y_codeq, y_outcomeq, y_resultq, y_dryq, y_wantq, y_startingq, y_endedq, y_badq, y_hostedq, y_sawSuperq, y_textq, y_numbersq, y_globalsq, y_entriesq, y_attrsq, y_classOfq, y_aliveq, y_ordersq, y_lengthsq, y_lettersq, y_basesq, y_valsq, y_opsq, y_localsq, y_fRecvq, y_fLineq, y_fPosq, y_fStmtq, y_fTargetq, y_fMaskq, y_fHomeq, y_fOpsq, y_fValsq, y_fNewq, y_outq) => post 0 (y_maxObjectsq, y_maxStepsq, y_maxDepthq, y_keptq, y_endq, y_tokensq, y_pendingq, y_linesq, y_classesq, y_printsq, y_placeq, y_stepsq, y_dq, y_valTopq, y_opTopq, y_opensq, y_posq, y_tkq, y_tvq, y_stmtq, y_targetq, y_errq, y_codeq, y_outcomeq, y_resultq, y_dryq, y_wantq, y_startingq, y_endedq, y_badq, y_hostedq, y_sawSuperq, y_textq, y_numbersq, y_globalsq, y_entriesq, y_attrsq, y_classOfq, y_aliveq, y_ordersq, y_lengthsq, y_lettersq, y_basesq, y_valsq, y_opsq, y_localsq, y_fRecvq, y_fLineq, y_fPosq, y_fStmtq, y_fTargetq, y_fMaskq, y_fHomeq, y_fOpsq, y_fValsq, y_fNewq, y_outq)) o q vt (y_maxObjects, y_maxSteps, y_maxDepth, y_kept, y_end, y_tokens, y_pending, y_lines, y_classes, y_prints, y_place, y_steps, nI dd, nI vt, nI (base + st'.length), q4, nI p', q1, q2, sm, y_target, y_err, y_code, y_outcome, y_result, 0, q5, y_starting, y_ended, y_bad, y_hosted, y_sawSuper, tx, y_numbers, y_globals, y_entries, y_attrs, y_classOf, y_alive, y_orders, y_lengths, y_letters, y_bases, y_vals, y_ops, y_locals, y_fRecv, y_fLine, y_fPos, y_fStmt, y_fTarget, y_fMask, y_fHome, fo, y_fVals, y_fNew, y_out)) :
    wpY_expressionToken post (y_maxObjects, y_maxSteps, y_maxDepth, y_kept, y_end, y_tokens, y_pending, y_lines, y_classes, y_prints, y_place, y_steps, nI dd, nI vt, nI (base + st.length), y_opens, nI p, y_tk, y_tv, sm, y_target, y_err, y_code, y_outcome, y_result, 0, 0, y_starting, y_ended, y_bad, y_hosted, y_sawSuper, tx, y_numbers, y_globals, y_entries, y_attrs, y_classOf, y_alive, y_orders, y_lengths, y_letters, y_bases, y_vals, y_ops, y_locals, y_fRecv, y_fLine, y_fPos, y_fStmt, y_fTarget, y_fMask, y_fHome, fo, y_fVals, y_fNew, y_out) := by
  have hT := hs_hdLt st
  have hst : hs_opr z ts st = some (ts', w', st', e) := hst0
  clear hst0
  unfold hs_opr at hst
  by_cases cc : 27 ≤ hs_hd st % 64 ∧ hs_hd ts ≠ 24 ∧ hs_rank (hs_hd ts) ≤ hs_rank (hs_hd st % 64) ∧ ¬ (hs_rank (hs_hd ts) = 1 ∧ hs_rank (hs_hd st % 64) = 1)
  · rw [if_pos cc] at hst
    cases hst
    cases st with
    | nil => simp [hs_hd] at cc
    | cons s st1 =>
      have hS' := hS
      obtain ⟨ot, e1, e2, e3, e4, e5⟩ := hS
      have el := hs_SAlen e5
      have cmb : ∀ (tk tv : Int32), wpY_combine (fun u => match u with | (y_maxObjectsq, y_maxStepsq, y_maxDepthq, y_keptq, y_endq, y_tokensq, y_pendingq, y_linesq, y_classesq, y_printsq, y_placeq, y_stepsq, y_dq, y_valTopq, y_opTopq, y_opensq, y_posq, y_tkq, y_tvq, y_stmtq, y_targetq, y_errq, y_codeq, y_outcomeq, y_resultq, y_dryq, y_wantq, y_startingq, y_endedq, y_badq, y_hostedq, y_sawSuperq, y_textq, y_numbersq, y_globalsq, y_entriesq, y_attrsq, y_classOfq, y_aliveq, y_ordersq, y_lengthsq, y_lettersq, y_basesq, y_valsq, y_opsq, y_localsq, y_fRecvq, y_fLineq, y_fPosq, y_fStmtq, y_fTargetq, y_fMaskq, y_fHomeq, y_fOpsq, y_fValsq, y_fNewq, y_outq) => post 0 (y_maxObjectsq, y_maxStepsq, y_maxDepthq, y_keptq, y_endq, y_tokensq, y_pendingq, y_linesq, y_classesq, y_printsq, y_placeq, y_stepsq, y_dq, y_valTopq, y_opTopq, y_opensq, y_posq, y_tkq, y_tvq, y_stmtq, y_targetq, y_errq, y_codeq, y_outcomeq, y_resultq, y_dryq, y_wantq, y_startingq, y_endedq, y_badq, y_hostedq, y_sawSuperq, y_textq, y_numbersq, y_globalsq, y_entriesq, y_attrsq, y_classOfq, y_aliveq, y_ordersq, y_lengthsq, y_lettersq, y_basesq, y_valsq, y_opsq, y_localsq, y_fRecvq, y_fLineq, y_fPosq, y_fStmtq, y_fTargetq, y_fMaskq, y_fHomeq, y_fOpsq, y_fValsq, y_fNewq, y_outq)) (y_maxObjects, y_maxSteps, y_maxDepth, y_kept, y_end, y_tokens, y_pending, y_lines, y_classes, y_prints, y_place, y_steps, nI dd, nI vt, nI (base + (s :: st1).length), y_opens, nI p, tk, tv, sm, y_target, y_err, y_code, y_outcome, y_result, 0, 0, y_starting, y_ended, y_bad, y_hosted, y_sawSuper, tx, y_numbers, y_globals, y_entries, y_attrs, y_classOf, y_alive, y_orders, y_lengths, y_letters, y_bases, y_vals, y_ops, y_locals, y_fRecv, y_fLine, y_fPos, y_fStmt, y_fTarget, y_fMask, y_fHome, fo, y_fVals, y_fNew, y_out) (nI (s % 64)) := by
        intro tk tv
        have y := (He (s % 64) 0 rfl rfl p tk tv y_opens 0 h (by show hs_SA y_ops base (base + st1.length) st1; rw [← el]; exact e5)).2.2.2.2.2.2 cc.1
        have ea : nI (base + st1.length) + 1 = nI (base + (s :: st1).length) := nI_add (base + st1.length) 1
        have et : base + (s :: st1).tail.length = base + st1.length := rfl
        rw [et, ea] at y
        exact y
      cases ts with
      | nil =>
        refine hs_yN0E h hd hf hS' ho ?_
        exact hs_y56c (k := 0) hT (by decide) cc.1 (by decide) cc.2.2.1 cc.2.2.2 (cmb _ _)
      | cons t r =>
        refine hs_yN0C (k := hs_tk t) h rfl hd hf hS' ho ?_
        have e1 := hs_rankTk t
        have c2 : t ≠ 24 := cc.2.1
        have c3 : hs_rank t ≤ hs_rank (s % 64) := cc.2.2.1
        have c4 : ¬ (hs_rank t = 1 ∧ hs_rank (s % 64) = 1) := cc.2.2.2
        exact hs_y56c (k := hs_tk t) hT (hs_tkLe t).1 cc.1 (hs_tkK c2 (by decide)) (by rw [e1]; exact c3) (by rw [e1]; exact c4) (cmb _ _)
  · rw [if_neg cc] at hst
    cases ts with
    | nil => cases hst
    | cons t r =>
      have cc' : ¬ (27 ≤ hs_hd st % 64 ∧ t ≠ 24 ∧ hs_rank t ≤ hs_rank (hs_hd st % 64) ∧ ¬ (hs_rank t = 1 ∧ hs_rank (hs_hd st % 64) = 1)) := cc
      have h1 := (hs_TAc h).2.2.2.2.2
      have e1 := hs_rankTk t
      have hcc : ¬ (27 ≤ hs_hd st % 64 ∧ hs_tk t ≠ 24 ∧ hs_rank (hs_tk t) ≤ hs_rank (hs_hd st % 64) ∧ ¬ (hs_rank (hs_tk t) = 1 ∧ hs_rank (hs_hd st % 64) = 1)) := by
        rw [e1]
        rintro ⟨a, b, c, d⟩
        refine cc' ⟨a, fun y => b ?_, c, d⟩
        rw [y]; rfl
      refine hs_yN0C (k := hs_tk t) h rfl hd hf hS ho (hs_y56n (k := hs_tk t) hT (hs_tkLe t).1 hcc ?_)
      have hst2 : hs_opr1 z t r st = some (ts', w', st', e) := hst
      clear hst
      have hst := hst2
      clear hst2
      unfold hs_opr1 at hst
      split at hst
      · rename_i r0
        split at hst
        · cases hst
        · rename_i q
          have ht32 : 27 ≤ t ∧ t ≤ 32 := by
            unfold hs_rank at r0
            split at r0
            · omega
            · split at r0
              · omega
              · split at r0 <;> omega
          cases hst
          have etk : hs_tk t = t := hs_tkS (by omega)
          rw [etk]
          exact hs_y116p hT (by omega) ho r0 (fun _ => Hs rfl _ _ _ _ _ _ h1 (hs_SApush hS (by omega)) (fun k hk => pk_un (by omega))) (fun z => absurd z q)
      split at hst
      · rename_i _ t24
        subst t24
        refine hs_y116d ?_
        unfold hs_dot at hst
        split at hst
        · rename_i n r1
          split at hst
          · rename_i hn
            have hn' := hs_tkN hn
            have h2 := (hs_TAc h1).2.2.2.2.2
            split at hst
            · rename_i r21
              obtain ⟨o4, e4⟩ := hs_pshE hst
              cases r1 with
              | nil => simp [hs_hd] at r21
              | cons q r2 =>
                have r21 : q = 21 := r21
                subst r21
                cases e4
                exact hs_yDotCall h1 hn (hs_yParenR ho (Hs rfl _ _ _ _ _ _ (hs_TAc h2).2.2.2.2.2 (hs_SApush hS (by omega)) (fun k hk => pk_un (by omega))))
            · rename_i r21
              split at hst
              · rename_i r26
                obtain ⟨a26, az, rfl⟩ := r26
                cases r1 with
                | nil => simp [hs_hd] at a26
                | cons q r2 =>
                  have a26 : q = 26 := a26
                  subst a26
                  cases hst
                  have e50 : sm = 50 := hz.mp az
                  subst e50
                  exact hs_yDotSet h1 hn hd hf ho (Hs rfl _ _ _ _ _ _ (hs_TAc h2).2.2.2.2.2 (hs_SApush hS (by omega)) (fun k hk => pk_un (by show k ≠ base + 0; omega)))
              · rename_i r26
                cases hst
                refine hs_yDotGet (base := base) (ot := base + st.length) h1 hn r21 ?_ hd hf (by omega) ho ((He 4 (n - 100) rfl rfl _ _ _ _ _ h2 hS).2.2.2.2.1 rfl)
                by_cases q : hs_hd ts' = 26
                · by_cases q2 : sm = 50
                  · refine Or.inr (Or.inr (fun q3 => r26 ⟨q, hz.mpr q2, ?_⟩))
                    exact List.eq_nil_of_length_eq_zero (by omega)
                  · exact Or.inr (Or.inl q2)
                · exact Or.inl q
          · cases hst
        · cases hst
      split at hst
      · rename_i _ _ t22
        subst t22
        refine hs_y116c ?_
        unfold hs_cl1 at hst
        split at hst
        · rename_i s st1
          obtain ⟨ot, e1, e2, e3, e4, e5⟩ := hS
          have el := hs_SAlen e5
          rw [e1] at ho
          rw [e1]
          split at hst
          · rename_i c2
            cases hst
            refine hs_yClose0 hd hf e2 (by omega) e3 (hs_yCloseG e4 c2 ?_)
            have y := Hs rfl (p + 1) (nI 22) (nI (22 - 22)) y_sawSuper (y_opens - 1) y_ops h1 (by rw [← el]; exact e5) (fun _ _ => rfl)
            rw [← el] at y
            exact y
          · split at hst
            · rename_i c2
              cases hst
              refine hs_yClose0 hd hf e2 (by omega) e3 (hs_yCloseR (vt := vt) (arg := y_vals (vt - 1)) e4 c2 (Or.inr ⟨rfl, hv1, rfl⟩) hv ?_)
              have y := (He (2 * (s % 64) + 3) (s / 64) rfl rfl _ (nI 22) (nI (22 - 22)) (y_opens - 1) 0 h1 (by rw [← el]; exact e5)).2.2.2.2.2.1 (by omega) (by omega)
              rw [show (2 * (s % 64) + 3) % 2 = 1 by omega, show (2 * (s % 64) + 3) / 2 - 1 = s % 64 by omega, show s % 64 + 64 * (s / 64) = s by omega, ← el, if_pos rfl] at y
              exact y
            · cases hst
        · cases hst
      · cases hst
theorem hs_yFin {tx : Nat → Int32} {fo : Nat → Int32} {p dd base : Nat} {ts st : List Nat} (h : hs_TA tx p ts) (hd : dd < 7) (hf : fo dd = nI base) (hS : hs_SA y_ops base (base + st.length) st) (ho : base + st.length < 320) (hfin : hs_fin ts false st)
    {post : Int32 → SY → Prop} (Hf : ∀ q1 q2 q3 : Int32, post 1 (y_maxObjects, y_maxSteps, y_maxDepth, y_kept, y_end, y_tokens, y_pending, y_lines, y_classes, y_prints, y_place, y_steps, nI dd, y_valTop, nI (base + st.length), y_opens, q1, q2, q3, y_stmt, y_target, y_err, y_code, y_outcome, y_result, y_dry, 0, y_starting, y_ended, y_bad, y_hosted, y_sawSuper, tx, y_numbers, y_globals, y_entries, y_attrs, y_classOf, y_alive, y_orders, y_lengths, y_letters, y_bases, y_vals, y_ops, y_locals, y_fRecv, y_fLine, y_fPos, y_fStmt, y_fTarget, y_fMask, y_fHome, fo, y_fVals, y_fNew, y_out)) : wpY_expressionToken post (y_maxObjects, y_maxSteps, y_maxDepth, y_kept, y_end, y_tokens, y_pending, y_lines, y_classes, y_prints, y_place, y_steps, nI dd, y_valTop, nI (base + st.length), y_opens, nI p, y_tk, y_tv, y_stmt, y_target, y_err, y_code, y_outcome, y_result, y_dry, 0, y_starting, y_ended, y_bad, y_hosted, y_sawSuper, tx, y_numbers, y_globals, y_entries, y_attrs, y_classOf, y_alive, y_orders, y_lengths, y_letters, y_bases, y_vals, y_ops, y_locals, y_fRecv, y_fLine, y_fPos, y_fStmt, y_fTarget, y_fMask, y_fHome, fo, y_fVals, y_fNew, y_out) := by
  obtain ⟨_, f1, f2, f3⟩ := hfin
  have hT := hs_hdLt st
  cases ts with
  | nil => exact hs_yN0E h hd hf hS ho (hs_y56n (k := 0) hT (by decide) (fun y => f2 y.1) (hs_y116o hT (Or.inl rfl) (fun q => Hf _ _ _) (fun q => absurd q f3)))
  | cons t r =>
    have t25 : t = 25 := by
      rcases f1 with q | q
      · cases q
      · exact q
    subst t25
    refine hs_yN0C (k := 25) h (hs_tkS (by decide)) hd hf hS ho (hs_y56n (k := 25) hT (by decide) (fun y => f2 y.1) (hs_y116o hT (Or.inr rfl) (fun q => Hf _ _ _) (fun q => absurd q f3)))
end
