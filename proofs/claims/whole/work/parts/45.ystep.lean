/-! one step of an expression on the reference's side, for real -/
section
variable {x_objectLimit x_stepLimit x_depthLimit x_pendingCount x_keptTokens x_keptLines x_lineCount x_codeCount x_cursor x_stop x_waitingCount x_openCount x_classCount x_callCount x_operandCount x_stepsTaken x_error x_raisedCode x_printCount x_lastPlace : Int32} {x_lastResult : Int64} {x_pending x_lineTable x_orders x_merging x_letterClass x_objectClass x_calls x_lastPrints : Nat → Int32} {x_code x_waiting x_globals x_entries x_attributes x_held x_operands : Nat → Int64}
variable {y_maxObjects y_maxSteps y_maxDepth y_kept y_end y_tokens y_pending y_lines y_classes y_prints y_place y_steps y_d y_valTop y_opTop y_opens y_pos y_tk y_tv y_stmt y_target y_err y_code y_outcome y_dry y_want y_starting y_ended y_bad y_hosted y_sawSuper : Int32} {y_result : Int64} {y_text y_numbers y_classOf y_alive y_orders y_lengths y_letters y_bases y_ops y_fLine y_fPos y_fStmt y_fTarget y_fMask y_fHome y_fOps y_fVals y_fNew y_out : Nat → Int32} {y_globals y_entries y_attrs y_vals y_locals y_fRecv : Nat → Int64}
/-- what an element of code does there -/
def hs_yop (post : SY → Prop) (o q vt : Nat) (v : SY) : Prop := match v with
  | (y_maxObjects, y_maxSteps, y_maxDepth, y_kept, y_end, y_tokens, y_pending, y_lines, y_classes, y_prints, y_place, y_steps, y_d, y_valTop, y_opTop, y_opens, y_pos, y_tk, y_tv, y_stmt, y_target, y_err, y_code, y_outcome, y_result, y_dry, y_want, y_starting, y_ended, y_bad, y_hosted, y_sawSuper, y_text, y_numbers, y_globals, y_entries, y_attrs, y_classOf, y_alive, y_orders, y_lengths, y_letters, y_bases, y_vals, y_ops, y_locals, y_fRecv, y_fLine, y_fPos, y_fStmt, y_fTarget, y_fMask, y_fHome, y_fOps, y_fVals, y_fNew, y_out) => (o = 1 → post (y_maxObjects, y_maxSteps, y_maxDepth, y_kept, y_end, y_tokens, y_pending, y_lines, y_classes, y_prints, y_place, y_steps, y_d, nI (vt + 1), y_opTop, y_opens, y_pos, y_tk, y_tv, y_stmt, y_target, y_err, y_code, y_outcome, y_result, y_dry, 0, y_starting, y_ended, y_bad, y_hosted, y_sawSuper, y_text, y_numbers, y_globals, y_entries, y_attrs, y_classOf, y_alive, y_orders, y_lengths, y_letters, y_bases, vp_updL y_vals vt (hs_int (nI q)), y_ops, y_locals, y_fRecv, y_fLine, y_fPos, y_fStmt, y_fTarget, y_fMask, y_fHome, y_fOps, y_fVals, y_fNew, y_out)) ∧ (o = 3 → post (y_maxObjects, y_maxSteps, y_maxDepth, y_kept, y_end, y_tokens, y_pending, y_lines, y_classes, y_prints, y_place, y_steps, y_d, nI (vt + 1), y_opTop, y_opens, y_pos, y_tk, y_tv, y_stmt, y_target, y_err, y_code, y_outcome, y_result, y_dry, 0, y_starting, y_ended, y_bad, y_hosted, y_sawSuper, y_text, y_numbers, y_globals, y_entries, y_attrs, y_classOf, y_alive, y_orders, y_lengths, y_letters, y_bases, vp_updL y_vals vt 4294967296, y_ops, y_locals, y_fRecv, y_fLine, y_fPos, y_fStmt, y_fTarget, y_fMask, y_fHome, y_fOps, y_fVals, y_fNew, y_out)) ∧
    (o = 2 → wpY_variableNow (fun x => wY_operand_63 post x y_maxObjects y_maxSteps y_maxDepth y_kept y_end y_tokens y_pending y_lines y_classes y_prints y_place y_steps y_d y_valTop y_opTop y_opens y_pos y_tk y_tv y_stmt y_target y_err y_code y_outcome y_result y_dry y_want y_starting y_ended y_bad y_hosted y_sawSuper y_text y_numbers y_globals y_entries y_attrs y_classOf y_alive y_orders y_lengths y_letters y_bases y_vals y_ops y_locals y_fRecv y_fLine y_fPos y_fStmt y_fTarget y_fMask y_fHome y_fOps y_fVals y_fNew y_out) (y_maxObjects, y_maxSteps, y_maxDepth, y_kept, y_end, y_tokens, y_pending, y_lines, y_classes, y_prints, y_place, y_steps, y_d, y_valTop, y_opTop, y_opens, y_pos, y_tk, y_tv, y_stmt, y_target, y_err, y_code, y_outcome, y_result, y_dry, y_want, y_starting, y_ended, y_bad, y_hosted, y_sawSuper, y_text, y_numbers, y_globals, y_entries, y_attrs, y_classOf, y_alive, y_orders, y_lengths, y_letters, y_bases, y_vals, y_ops, y_locals, y_fRecv, y_fLine, y_fPos, y_fStmt, y_fTarget, y_fMask, y_fHome, y_fOps, y_fVals, y_fNew, y_out) (nI q)) ∧
    (o = 5 → (¬ 0 ≤ y_letters (q / 26) → post (y_maxObjects, y_maxSteps, y_maxDepth, y_kept, y_end, y_tokens, y_pending, y_lines, y_classes, y_prints, y_place, y_steps, y_d, y_valTop, y_opTop, y_opens, y_pos, y_tk, y_tv, y_stmt, y_target, 2, y_code, y_outcome, y_result, y_dry, y_want, y_starting, y_ended, y_bad, y_hosted, y_sawSuper, y_text, y_numbers, y_globals, y_entries, y_attrs, y_classOf, y_alive, y_orders, y_lengths, y_letters, y_bases, y_vals, y_ops, y_locals, y_fRecv, y_fLine, y_fPos, y_fStmt, y_fTarget, y_fMask, y_fHome, y_fOps, y_fVals, y_fNew, y_out)) ∧ (0 ≤ y_letters (q / 26) → wpY_search (fun e => wpY_read post (y_maxObjects, y_maxSteps, y_maxDepth, y_kept, y_end, y_tokens, y_pending, y_lines, y_classes, y_prints, y_place, y_steps, y_d, y_valTop, y_opTop, y_opens, y_pos, y_tk, y_tv, y_stmt, y_target, y_err, y_code, y_outcome, y_result, y_dry, y_want, y_starting, y_ended, y_bad, y_hosted, y_sawSuper, y_text, y_numbers, y_globals, y_entries, y_attrs, y_classOf, y_alive, y_orders, y_lengths, y_letters, y_bases, y_vals, y_ops, y_locals, y_fRecv, y_fLine, y_fPos, y_fStmt, y_fTarget, y_fMask, y_fHome, y_fOps, y_fVals, y_fNew, y_out) e) (y_maxObjects, y_maxSteps, y_maxDepth, y_kept, y_end, y_tokens, y_pending, y_lines, y_classes, y_prints, y_place, y_steps, y_d, y_valTop, y_opTop, y_opens, y_pos, y_tk, y_tv, y_stmt, y_target, y_err, y_code, y_outcome, y_result, y_dry, y_want, y_starting, y_ended, y_bad, y_hosted, y_sawSuper, y_text, y_numbers, y_globals, y_entries, y_attrs, y_classOf, y_alive, y_orders, y_lengths, y_letters, y_bases, y_vals, y_ops, y_locals, y_fRecv, y_fLine, y_fPos, y_fStmt, y_fTarget, y_fMask, y_fHome, y_fOps, y_fVals, y_fNew, y_out) (y_letters (q / 26)) 0 (nI (q % 26)))) ∧
    (o = 4 → wY_dot_136 post (nI q) y_maxObjects y_maxSteps y_maxDepth y_kept y_end y_tokens y_pending y_lines y_classes y_prints y_place y_steps y_d y_valTop y_opTop y_opens y_pos y_tk y_tv y_stmt y_target y_err y_code y_outcome y_result y_dry y_want y_starting y_ended y_bad y_hosted y_sawSuper y_text y_numbers y_globals y_entries y_attrs y_classOf y_alive y_orders y_lengths y_letters y_bases y_vals y_ops y_locals y_fRecv y_fLine y_fPos y_fStmt y_fTarget y_fMask y_fHome y_fOps y_fVals y_fNew y_out) ∧
    (6 ≤ o → o ≤ 11 → wY_close_149 post (nI (o % 2)) (nI (o / 2 - 1 + 64 * q)) (nI (o / 2 - 1)) (if o % 2 = 1 then y_vals (vt - 1) else 0) y_maxObjects y_maxSteps y_maxDepth y_kept y_end y_tokens y_pending y_lines y_classes y_prints y_place y_steps y_d y_valTop y_opTop y_opens y_pos y_tk y_tv y_stmt y_target y_err y_code y_outcome y_result y_dry y_want y_starting y_ended y_bad y_hosted y_sawSuper y_text y_numbers y_globals y_entries y_attrs y_classOf y_alive y_orders y_lengths y_letters y_bases y_vals y_ops y_locals y_fRecv y_fLine y_fPos y_fStmt y_fTarget y_fMask y_fHome y_fOps y_fVals y_fNew y_out) ∧
    (27 ≤ o → wpY_combine post (y_maxObjects, y_maxSteps, y_maxDepth, y_kept, y_end, y_tokens, y_pending, y_lines, y_classes, y_prints, y_place, y_steps, y_d, y_valTop, y_opTop + 1, y_opens, y_pos, y_tk, y_tv, y_stmt, y_target, y_err, y_code, y_outcome, y_result, y_dry, y_want, y_starting, y_ended, y_bad, y_hosted, y_sawSuper, y_text, y_numbers, y_globals, y_entries, y_attrs, y_classOf, y_alive, y_orders, y_lengths, y_letters, y_bases, y_vals, y_ops, y_locals, y_fRecv, y_fLine, y_fPos, y_fStmt, y_fTarget, y_fMask, y_fHome, y_fOps, y_fVals, y_fNew, y_out) (nI o))
theorem hs_yStepW {tx : Nat → Int32} {fo : Nat → Int32} {p dd base vt : Nat} {ts st : List Nat} {z : Bool} (h : hs_TA tx p ts) (hd : dd < 7) (hf : fo dd = nI base) (hS : hs_SA y_ops base (base + st.length) st) (ho : base + st.length < 320) (hv : vt < 320) (hv1 : hs_nv st true ≤ vt)
    {post : Int32 → SY → Prop} {ts' st' : List Nat} {w' : Bool} {e : List (Nat × Nat)} (hst0 : hs_step z ts true st = some (ts', w', st', e))
    (Hs : e = [] → ∀ (p' : Nat) (q1 q2 q3 q4 : Int32) (ops : Nat → Int32), hs_TA tx p' ts' → hs_SA ops base (base + st'.length) st' → (∀ k, k < base → ops k = y_ops k) → post 0 (y_maxObjects, y_maxSteps, y_maxDepth, y_kept, y_end, y_tokens, y_pending, y_lines, y_classes, y_prints, y_place, y_steps, nI dd, nI vt, nI (base + st'.length), q4, nI p', q1, q2, y_stmt, y_target, y_err, y_code, y_outcome, y_result, 0, hs_b w', y_starting, y_ended, y_bad, y_hosted, q3, tx, y_numbers, y_globals, y_entries, y_attrs, y_classOf, y_alive, y_orders, y_lengths, y_letters, y_bases, y_vals, ops, y_locals, y_fRecv, y_fLine, y_fPos, y_fStmt, y_fTarget, y_fMask, y_fHome, fo, y_fVals, y_fNew, y_out))
    (He : ∀ o q, e = [(o, q)] → w' = false → ∀ (p' : Nat) (q1 q2 q4 q5 : Int32), hs_TA tx p' ts' → hs_SA y_ops base (base + st'.length) st' → hs_yop (fun u => match u with | (y_maxObjectsq, y_maxStepsq, y_maxDepthq, y_keptq, y_endq, y_tokensq, y_pendingq, y_linesq, y_classesq, y_printsq, y_placeq, y_stepsq, y_dq, y_valTopq, y_opTopq, y_opensq, y_posq, y_tkq, y_tvq, y_stmtq, y_targetq, y_errq, y_codeq, y_outcomeq, y_resultq, y_dryq, y_wantq, y_startingq, y_endedq, y_badq, y_hostedq, y_sawSuperq, y_textq, y_numbersq, y_globalsq, y_entriesq, y_attrsq, y_classOfq, y_aliveq, y_ordersq, y_lengthsq, y_lettersq, y_basesq, y_valsq, y_opsq, y_localsq, y_fRecvq, y_fLineq, y_fPosq, y_fStmtq, y_fTargetq, y_fMaskq, y_fHomeq, y_fOpsq, y_fValsq, y_fNewq, y_outq) => post 0 (y_maxObjectsq, y_maxStepsq, y_maxDepthq, y_keptq, y_endq, y_tokensq, y_pendingq, y_linesq, y_classesq, y_printsq, y_placeq, y_stepsq, y_dq, y_valTopq, y_opTopq, y_opensq, y_posq, y_tkq, y_tvq, y_stmtq, y_targetq, y_errq, y_codeq, y_outcomeq, y_resultq, y_dryq, y_wantq, y_startingq, y_endedq, y_badq, y_hostedq, y_sawSuperq, y_textq, y_numbersq, y_globalsq, y_entriesq, y_attrsq, y_classOfq, y_aliveq, y_ordersq, y_lengthsq, y_lettersq, y_basesq, y_valsq, y_opsq, y_localsq, y_fRecvq, y_fLineq, y_fPosq, y_fStmtq, y_fTargetq, y_fMaskq, y_fHomeq, y_fOpsq, y_fValsq, y_fNewq, y_outq)) o q vt (y_maxObjects, y_maxSteps, y_maxDepth, y_kept, y_end, y_tokens, y_pending, y_lines, y_classes, y_prints, y_place, y_steps, nI dd, nI vt, nI (base + st'.length), q4, nI p', q1, q2, y_stmt, y_target, y_err, y_code, y_outcome, y_result, 0, q5, y_starting, y_ended, y_bad, y_hosted, y_sawSuper, tx, y_numbers, y_globals, y_entries, y_attrs, y_classOf, y_alive, y_orders, y_lengths, y_letters, y_bases, y_vals, y_ops, y_locals, y_fRecv, y_fLine, y_fPos, y_fStmt, y_fTarget, y_fMask, y_fHome, fo, y_fVals, y_fNew, y_out)) :
    wpY_expressionToken post (y_maxObjects, y_maxSteps, y_maxDepth, y_kept, y_end, y_tokens, y_pending, y_lines, y_classes, y_prints, y_place, y_steps, nI dd, nI vt, nI (base + st.length), y_opens, nI p, y_tk, y_tv, y_stmt, y_target, y_err, y_code, y_outcome, y_result, 0, 1, y_starting, y_ended, y_bad, y_hosted, y_sawSuper, tx, y_numbers, y_globals, y_entries, y_attrs, y_classOf, y_alive, y_orders, y_lengths, y_letters, y_bases, y_vals, y_ops, y_locals, y_fRecv, y_fLine, y_fPos, y_fStmt, y_fTarget, y_fMask, y_fHome, fo, y_fVals, y_fNew, y_out) := by
  cases ts with
  | nil => cases hst0
  | cons t r =>
    have hst : hs_opd t r st = some (ts', w', st', e) := hst0
    clear hst0
    have h1 := (hs_TAc h).2.2.2.2.2
    unfold hs_opd at hst
    split at hst
    · rename_i c
      cases hst
      exact hs_yNum h c hv ((He 1 (t - 1000) rfl rfl _ _ _ _ 1 h1 hS).1 rfl)
    split at hst
    · rename_i _ c
      subst c
      cases hst
      exact hs_yNone h hv ((He 3 0 rfl rfl _ _ _ _ 1 h1 hS).2.1 rfl)
    split at hst
    · rename_i _ _ c
      cases hst
      exact hs_yNameR h c ((He 2 (t - 100) rfl rfl _ _ _ _ _ h1 hS).2.2.1 rfl)
    split at hst
    · rename_i _ _ _ c
      subst c
      obtain ⟨o4, e4⟩ := hs_pshE hst
      cases e4
      exact hs_yOpenR h ho (Hs rfl _ _ _ _ _ _ h1 (hs_SApush (s := 1) hS (by decide)) (fun k hk => pk_un (by omega)))
    split at hst
    · rename_i _ _ _ _ c
      unfold hs_cls at hst
      split at hst
      · rename_i k r1
        split at hst
        · rename_i c2
          subst c2
          obtain ⟨o4, e4⟩ := hs_pshE hst
          cases e4
          have cc := hs_tkC c
          exact hs_yNewR h c ho (Hs rfl _ _ _ _ _ _ (hs_TAc h1).2.2.2.2.2 (hs_SApush hS (by omega)) (fun k hk => pk_un (by omega)))
        · split at hst
          · rename_i _ c2
            subst c2
            split at hst
            · rename_i n r2
              split at hst
              · rename_i c3
                cases hst
                have cc := hs_tkC c
                have cn := hs_tkN c3.1
                have y := (He 5 ((t - 130) * 26 + (n - 100)) rfl rfl _ (nI 100) (nI (n - 100)) y_opens 1 (hs_TAc (hs_TAc h1).2.2.2.2.2).2.2.2.2.2 hS).2.2.2.1 rfl
                rw [show ((t - 130) * 26 + (n - 100)) / 26 = t - 130 by omega, show ((t - 130) * 26 + (n - 100)) % 26 = n - 100 by omega] at y
                exact hs_yGetR h c c3.1 c3.2 y.1 y.2
              · cases hst
            · cases hst
          · cases hst
      · cases hst
    split at hst
    · rename_i _ _ _ _ _ c
      subst c
      unfold hs_sup at hst
      split at hst
      · rename_i k n p1 r1
        split at hst
        · rename_i c2
          obtain ⟨rfl, c3, rfl⟩ := c2
          obtain ⟨o4, e4⟩ := hs_pshE hst
          cases e4
          have cn := hs_tkN c3
          exact hs_ySupR h c3 ho (Hs rfl _ _ _ _ _ _ (hs_TAc (hs_TAc (hs_TAc h1).2.2.2.2.2).2.2.2.2.2).2.2.2.2.2 (hs_SApush hS (by omega)) (fun k hk => pk_un (by omega)))
        · cases hst
      · cases hst
    split at hst
    · rename_i _ _ _ _ _ _ c
      subst c
      unfold hs_cl0 at hst
      split at hst
      · rename_i s st1
        split at hst
        · rename_i c2
          cases hst
          obtain ⟨ot, e1, e2, e3, e4, e5⟩ := hS
          have el := hs_SAlen e5
          rw [← el] at He
          rw [e1]
          rw [e1] at ho
          refine hs_yC0 h hd hf e2 (by omega) e3 e4 c2 (hs_yClose0 hd hf e2 (by omega) e3 (hs_yCloseR (vt := vt) (arg := 0) e4 c2 (Or.inl ⟨rfl, rfl⟩) hv ?_))
          have y := (He (2 * (s % 64) + 2) (s / 64) rfl rfl _ (nI 22) (nI (22 - 22)) (y_opens - 1) 0 h1 e5).2.2.2.2.2.1 (by omega) (by omega)
          rw [show (2 * (s % 64) + 2) % 2 = 0 by omega, show (2 * (s % 64) + 2) / 2 - 1 = s % 64 by omega, show s % 64 + 64 * (s / 64) = s by omega] at y
          exact y
        · cases hst
      · cases hst
    · cases hst
end
