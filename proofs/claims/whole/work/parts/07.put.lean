/-! put -/
section
variable {x_objectLimit x_stepLimit x_depthLimit x_pendingCount x_keptTokens x_keptLines x_lineCount x_codeCount x_cursor x_stop x_waitingCount x_openCount x_classCount x_callCount x_operandCount x_stepsTaken x_error x_raisedCode x_printCount x_lastPlace : Int32} {x_lastResult : Int64} {x_pending x_lineTable x_orders x_merging x_letterClass x_objectClass x_calls x_lastPrints : Nat → Int32} {x_code x_waiting x_globals x_entries x_attributes x_held x_operands : Nat → Int64}
variable {y_maxObjects y_maxSteps y_maxDepth y_kept y_end y_tokens y_pending y_lines y_classes y_prints y_place y_steps y_d y_valTop y_opTop y_opens y_pos y_tk y_tv y_stmt y_target y_err y_code y_outcome y_dry y_want y_starting y_ended y_bad y_hosted y_sawSuper : Int32} {y_result : Int64} {y_text y_numbers y_classOf y_alive y_orders y_lengths y_letters y_bases y_ops y_fLine y_fPos y_fStmt y_fTarget y_fMask y_fHome y_fOps y_fVals y_fNew y_out : Nat → Int32} {y_globals y_entries y_attrs y_vals y_locals y_fRecv : Nat → Int64}
def hs_nz (x : Int32) : Nat := if x = 0 then 0 else 1
def hs_good (x : Int32) : Prop := (1 ≤ x ∧ x ≤ 13) ∨ (21 ≤ x ∧ x ≤ 32) ∨ (40 ≤ x ∧ x ≤ 48) ∨ (100 ≤ x ∧ x ≤ 125) ∨ (130 ≤ x ∧ x ≤ 155) ∨ 1000 ≤ x
noncomputable def hs_norm (x : Int32) : Int32 := @ite Int32 (hs_good x) (Classical.propDecidable _) x 33
theorem hs_normT {x : Int32} (h : hs_good x) : hs_norm x = x := by unfold hs_norm; rw [if_pos h]
theorem hs_normF {x : Int32} (h : ¬ hs_good x) : hs_norm x = 33 := by unfold hs_norm; rw [if_neg h]
def hs_apd (pd : Nat → Int32) (pn : Nat) (x : Int32) : Nat → Int32 := if x = 0 then pd else upd pd pn x
noncomputable def hs_atx (tx : Nat → Int32) (e : Nat) (x : Int32) : Nat → Int32 := if x = 0 then tx else upd tx e (hs_norm x)
theorem hs_nzLe (x : Int32) : hs_nz x ≤ 1 := by unfold hs_nz; split <;> omega
theorem hs_xAdd {pd : Nat → Int32} {pn : Nat} {x : Int32} (hp : pn + hs_nz x ≤ 400) {post : SX → Prop} (h : post (x_objectLimit, x_stepLimit, x_depthLimit, nI (pn + hs_nz x), x_keptTokens, x_keptLines, x_lineCount, x_codeCount, x_cursor, x_stop, x_waitingCount, x_openCount, x_classCount, x_callCount, x_operandCount, x_stepsTaken, x_error, x_raisedCode, x_printCount, x_lastResult, x_lastPlace, hs_apd pd pn x, x_lineTable, x_code, x_waiting, x_globals, x_entries, x_orders, x_merging, x_letterClass, x_objectClass, x_attributes, x_calls, x_held, x_operands, x_lastPrints)) : wpX_addToken post (x_objectLimit, x_stepLimit, x_depthLimit, nI pn, x_keptTokens, x_keptLines, x_lineCount, x_codeCount, x_cursor, x_stop, x_waitingCount, x_openCount, x_classCount, x_callCount, x_operandCount, x_stepsTaken, x_error, x_raisedCode, x_printCount, x_lastResult, x_lastPlace, pd, x_lineTable, x_code, x_waiting, x_globals, x_entries, x_orders, x_merging, x_letterClass, x_objectClass, x_attributes, x_calls, x_held, x_operands, x_lastPrints) x := by
  unfold hs_apd at h
  unfold hs_nz at h hp
  by_cases e : x = 0
  · rw [if_pos e, if_pos e] at h; exact br_t e h
  · rw [if_neg e, if_neg e] at h
    rw [if_neg e] at hp
    refine br_f e (br_f (nI_ge (b := 400) (by omega) (by decide)) (And.intro (vp_in_nI (by omega) (by decide)) ?_))
    rw [nI_clamp (show pn < 2 ^ 31 by omega)]
    exact nm_e (nm_r (nI_1 pn) h)
theorem hs_yAdd78 {tx : Nat → Int32} {e : Nat} {x : Int32} (he : e < 1024) {post : SY → Prop} (b : Int32) (y : Int32) (hy : y = if b = 0 then 33 else x) (h : post (y_maxObjects, y_maxSteps, y_maxDepth, y_kept, nI (e + 1), y_tokens, y_pending, y_lines, y_classes, y_prints, y_place, y_steps, y_d, y_valTop, y_opTop, y_opens, y_pos, y_tk, y_tv, y_stmt, y_target, y_err, y_code, y_outcome, y_result, y_dry, y_want, y_starting, y_ended, y_bad, y_hosted, y_sawSuper, upd tx e y, y_numbers, y_globals, y_entries, y_attrs, y_classOf, y_alive, y_orders, y_lengths, y_letters, y_bases, y_vals, y_ops, y_locals, y_fRecv, y_fLine, y_fPos, y_fStmt, y_fTarget, y_fMask, y_fHome, y_fOps, y_fVals, y_fNew, y_out)) : wY_add_78 post x b y_maxObjects y_maxSteps y_maxDepth y_kept (nI e) y_tokens y_pending y_lines y_classes y_prints y_place y_steps y_d y_valTop y_opTop y_opens y_pos y_tk y_tv y_stmt y_target y_err y_code y_outcome y_result y_dry y_want y_starting y_ended y_bad y_hosted y_sawSuper tx y_numbers y_globals y_entries y_attrs y_classOf y_alive y_orders y_lengths y_letters y_bases y_vals y_ops y_locals y_fRecv y_fLine y_fPos y_fStmt y_fTarget y_fMask y_fHome y_fOps y_fVals y_fNew y_out := by
  refine nm_r (nI_1 e) ?_
  by_cases z : b = 0
  · rw [if_pos z] at hy
    subst hy
    refine br_t z (And.intro (vp_in_nI he (by decide)) ?_)
    rw [nI_clamp (show e < 2 ^ 31 by omega)]
    exact nm_e h
  · rw [if_neg z] at hy
    subst hy
    refine br_f z (And.intro (vp_in_nI he (by decide)) ?_)
    rw [nI_clamp (show e < 2 ^ 31 by omega)]
    exact nm_e h
theorem hs_yAdd {tx : Nat → Int32} {e : Nat} {x : Int32} (he : e < 1024) {post : SY → Prop} (h : post (y_maxObjects, y_maxSteps, y_maxDepth, y_kept, nI (e + hs_nz x), y_tokens, y_pending, y_lines, y_classes, y_prints, y_place, y_steps, y_d, y_valTop, y_opTop, y_opens, y_pos, y_tk, y_tv, y_stmt, y_target, y_err, y_code, y_outcome, y_result, y_dry, y_want, y_starting, y_ended, y_bad, y_hosted, y_sawSuper, hs_atx tx e x, y_numbers, y_globals, y_entries, y_attrs, y_classOf, y_alive, y_orders, y_lengths, y_letters, y_bases, y_vals, y_ops, y_locals, y_fRecv, y_fLine, y_fPos, y_fStmt, y_fTarget, y_fMask, y_fHome, y_fOps, y_fVals, y_fNew, y_out)) : wpY_add post (y_maxObjects, y_maxSteps, y_maxDepth, y_kept, nI e, y_tokens, y_pending, y_lines, y_classes, y_prints, y_place, y_steps, y_d, y_valTop, y_opTop, y_opens, y_pos, y_tk, y_tv, y_stmt, y_target, y_err, y_code, y_outcome, y_result, y_dry, y_want, y_starting, y_ended, y_bad, y_hosted, y_sawSuper, tx, y_numbers, y_globals, y_entries, y_attrs, y_classOf, y_alive, y_orders, y_lengths, y_letters, y_bases, y_vals, y_ops, y_locals, y_fRecv, y_fLine, y_fPos, y_fStmt, y_fTarget, y_fMask, y_fHome, y_fOps, y_fVals, y_fNew, y_out) x := by
  unfold hs_atx at h
  unfold hs_nz at h
  by_cases z : x = 0
  · rw [if_pos z, if_pos z] at h; exact br_t z h
  · rw [if_neg z, if_neg z] at h
    refine br_f z ?_
    by_cases g : hs_good x
    · rw [hs_normT g] at h
      have fin : wY_add_78 post x 1 y_maxObjects y_maxSteps y_maxDepth y_kept (nI e) y_tokens y_pending y_lines y_classes y_prints y_place y_steps y_d y_valTop y_opTop y_opens y_pos y_tk y_tv y_stmt y_target y_err y_code y_outcome y_result y_dry y_want y_starting y_ended y_bad y_hosted y_sawSuper tx y_numbers y_globals y_entries y_attrs y_classOf y_alive y_orders y_lengths y_letters y_bases y_vals y_ops y_locals y_fRecv y_fLine y_fPos y_fStmt y_fTarget y_fMask y_fHome y_fOps y_fVals y_fNew y_out := hs_yAdd78 he 1 x (by rw [if_neg (by decide)]) h
      by_cases g1 : x < 1
      · exfalso
        have h0 : (0 : Int32).toInt = 0 := by decide
        have h1 : (1 : Int32).toInt = 1 := by decide
        have h2 : (21 : Int32).toInt = 21 := by decide
        have h3 : (40 : Int32).toInt = 40 := by decide
        have h4 : (100 : Int32).toInt = 100 := by decide
        have h5 : (130 : Int32).toInt = 130 := by decide
        have h6 : (1000 : Int32).toInt = 1000 := by decide
        unfold hs_good at g
        simp only [Int32.le_iff_toInt_le, Int32.lt_iff_toInt_lt, h1, h2, h3, h4, h5, h6] at g g1
        omega
      · refine br_f g1 ?_
        have nl : ∀ {a b : Int32}, ¬ a < b → b ≤ a := fun h => Int32.not_lt.mp h
        have nt : ∀ {a b : Int32}, b ≤ a → ¬ a < b := fun h => Int32.not_lt.mpr h
        by_cases a1 : x ≤ 13
        · exact br_t a1 fin
        refine br_f a1 ?_
        have r66 : (x < 1000 → False) → wY_add_66 post x y_maxObjects y_maxSteps y_maxDepth y_kept (nI e) y_tokens y_pending y_lines y_classes y_prints y_place y_steps y_d y_valTop y_opTop y_opens y_pos y_tk y_tv y_stmt y_target y_err y_code y_outcome y_result y_dry y_want y_starting y_ended y_bad y_hosted y_sawSuper tx y_numbers y_globals y_entries y_attrs y_classOf y_alive y_orders y_lengths y_letters y_bases y_vals y_ops y_locals y_fRecv y_fLine y_fPos y_fStmt y_fTarget y_fMask y_fHome y_fOps y_fVals y_fNew y_out := fun k => br_f k fin
        have r52 : ((130 ≤ x ∧ x ≤ 155) ∨ 1000 ≤ x) → wY_add_52 post x y_maxObjects y_maxSteps y_maxDepth y_kept (nI e) y_tokens y_pending y_lines y_classes y_prints y_place y_steps y_d y_valTop y_opTop y_opens y_pos y_tk y_tv y_stmt y_target y_err y_code y_outcome y_result y_dry y_want y_starting y_ended y_bad y_hosted y_sawSuper tx y_numbers y_globals y_entries y_attrs y_classOf y_alive y_orders y_lengths y_letters y_bases y_vals y_ops y_locals y_fRecv y_fLine y_fPos y_fStmt y_fTarget y_fMask y_fHome y_fOps y_fVals y_fNew y_out := by
          intro k
          by_cases b1 : x < 130
          · refine br_t b1 (r66 ?_)
            rcases k with ⟨k, _⟩ | k
            · exact absurd b1 (nt k)
            · exact nt k
          · refine br_f b1 ?_
            by_cases b2 : x ≤ 155
            · exact br_t b2 fin
            · refine br_f b2 (r66 ?_)
              rcases k with ⟨_, k⟩ | k
              · exact absurd k b2
              · exact nt k
        have r40 : ((100 ≤ x ∧ x ≤ 125) ∨ (130 ≤ x ∧ x ≤ 155) ∨ 1000 ≤ x) → wY_add_40 post x y_maxObjects y_maxSteps y_maxDepth y_kept (nI e) y_tokens y_pending y_lines y_classes y_prints y_place y_steps y_d y_valTop y_opTop y_opens y_pos y_tk y_tv y_stmt y_target y_err y_code y_outcome y_result y_dry y_want y_starting y_ended y_bad y_hosted y_sawSuper tx y_numbers y_globals y_entries y_attrs y_classOf y_alive y_orders y_lengths y_letters y_bases y_vals y_ops y_locals y_fRecv y_fLine y_fPos y_fStmt y_fTarget y_fMask y_fHome y_fOps y_fVals y_fNew y_out := by
          intro k
          by_cases b1 : x < 100
          · exact br_t b1 (r52 (k.resolve_left fun q => nt q.1 b1))
          · refine br_f b1 ?_
            by_cases b2 : x ≤ 125
            · exact br_t b2 fin
            · exact br_f b2 (r52 (k.resolve_left fun q => b2 q.2))
        have r28 : ((40 ≤ x ∧ x ≤ 48) ∨ (100 ≤ x ∧ x ≤ 125) ∨ (130 ≤ x ∧ x ≤ 155) ∨ 1000 ≤ x) → wY_add_28 post x y_maxObjects y_maxSteps y_maxDepth y_kept (nI e) y_tokens y_pending y_lines y_classes y_prints y_place y_steps y_d y_valTop y_opTop y_opens y_pos y_tk y_tv y_stmt y_target y_err y_code y_outcome y_result y_dry y_want y_starting y_ended y_bad y_hosted y_sawSuper tx y_numbers y_globals y_entries y_attrs y_classOf y_alive y_orders y_lengths y_letters y_bases y_vals y_ops y_locals y_fRecv y_fLine y_fPos y_fStmt y_fTarget y_fMask y_fHome y_fOps y_fVals y_fNew y_out := by
          intro k
          by_cases b1 : x < 40
          · exact br_t b1 (r40 (k.resolve_left fun q => nt q.1 b1))
          · refine br_f b1 ?_
            by_cases b2 : x ≤ 48
            · exact br_t b2 fin
            · exact br_f b2 (r40 (k.resolve_left fun q => b2 q.2))
        have k := g.resolve_left (fun q => a1 q.2)
        by_cases b1 : x < 21
        · exact br_t b1 (r28 (k.resolve_left fun q => nt q.1 b1))
        · refine br_f b1 ?_
          by_cases b2 : x ≤ 32
          · exact br_t b2 fin
          · exact br_f b2 (r28 (k.resolve_left fun q => b2 q.2))
    · rw [hs_normF g] at h
      have fin : wY_add_78 post x 0 y_maxObjects y_maxSteps y_maxDepth y_kept (nI e) y_tokens y_pending y_lines y_classes y_prints y_place y_steps y_d y_valTop y_opTop y_opens y_pos y_tk y_tv y_stmt y_target y_err y_code y_outcome y_result y_dry y_want y_starting y_ended y_bad y_hosted y_sawSuper tx y_numbers y_globals y_entries y_attrs y_classOf y_alive y_orders y_lengths y_letters y_bases y_vals y_ops y_locals y_fRecv y_fLine y_fPos y_fStmt y_fTarget y_fMask y_fHome y_fOps y_fVals y_fNew y_out := hs_yAdd78 he 0 33 (by rw [if_pos rfl]) h
      unfold hs_good at g
      have nl : ∀ {a b : Int32}, ¬ a < b → b ≤ a := fun h => Int32.not_lt.mp h
      have r66 : wY_add_66 post x y_maxObjects y_maxSteps y_maxDepth y_kept (nI e) y_tokens y_pending y_lines y_classes y_prints y_place y_steps y_d y_valTop y_opTop y_opens y_pos y_tk y_tv y_stmt y_target y_err y_code y_outcome y_result y_dry y_want y_starting y_ended y_bad y_hosted y_sawSuper tx y_numbers y_globals y_entries y_attrs y_classOf y_alive y_orders y_lengths y_letters y_bases y_vals y_ops y_locals y_fRecv y_fLine y_fPos y_fStmt y_fTarget y_fMask y_fHome y_fOps y_fVals y_fNew y_out := by
        by_cases b1 : x < 1000
        · exact br_t b1 fin
        · exact absurd (Or.inr (Or.inr (Or.inr (Or.inr (Or.inr (nl b1)))))) g
      have r52 : wY_add_52 post x y_maxObjects y_maxSteps y_maxDepth y_kept (nI e) y_tokens y_pending y_lines y_classes y_prints y_place y_steps y_d y_valTop y_opTop y_opens y_pos y_tk y_tv y_stmt y_target y_err y_code y_outcome y_result y_dry y_want y_starting y_ended y_bad y_hosted y_sawSuper tx y_numbers y_globals y_entries y_attrs y_classOf y_alive y_orders y_lengths y_letters y_bases y_vals y_ops y_locals y_fRecv y_fLine y_fPos y_fStmt y_fTarget y_fMask y_fHome y_fOps y_fVals y_fNew y_out := by
        by_cases b1 : x < 130
        · exact br_t b1 r66
        · by_cases b2 : x ≤ 155
          · exact absurd (Or.inr (Or.inr (Or.inr (Or.inr (Or.inl ⟨nl b1, b2⟩))))) g
          · exact br_f b1 (br_f b2 r66)
      have r40 : wY_add_40 post x y_maxObjects y_maxSteps y_maxDepth y_kept (nI e) y_tokens y_pending y_lines y_classes y_prints y_place y_steps y_d y_valTop y_opTop y_opens y_pos y_tk y_tv y_stmt y_target y_err y_code y_outcome y_result y_dry y_want y_starting y_ended y_bad y_hosted y_sawSuper tx y_numbers y_globals y_entries y_attrs y_classOf y_alive y_orders y_lengths y_letters y_bases y_vals y_ops y_locals y_fRecv y_fLine y_fPos y_fStmt y_fTarget y_fMask y_fHome y_fOps y_fVals y_fNew y_out := by
        by_cases b1 : x < 100
        · exact br_t b1 r52
        · by_cases b2 : x ≤ 125
          · exact absurd (Or.inr (Or.inr (Or.inr (Or.inl ⟨nl b1, b2⟩)))) g
          · exact br_f b1 (br_f b2 r52)
      have r28 : wY_add_28 post x y_maxObjects y_maxSteps y_maxDepth y_kept (nI e) y_tokens y_pending y_lines y_classes y_prints y_place y_steps y_d y_valTop y_opTop y_opens y_pos y_tk y_tv y_stmt y_target y_err y_code y_outcome y_result y_dry y_want y_starting y_ended y_bad y_hosted y_sawSuper tx y_numbers y_globals y_entries y_attrs y_classOf y_alive y_orders y_lengths y_letters y_bases y_vals y_ops y_locals y_fRecv y_fLine y_fPos y_fStmt y_fTarget y_fMask y_fHome y_fOps y_fVals y_fNew y_out := by
        by_cases b1 : x < 40
        · exact br_t b1 r40
        · by_cases b2 : x ≤ 48
          · exact absurd (Or.inr (Or.inr (Or.inl ⟨nl b1, b2⟩))) g
          · exact br_f b1 (br_f b2 r40)
      have r16 : wY_add_16 post x y_maxObjects y_maxSteps y_maxDepth y_kept (nI e) y_tokens y_pending y_lines y_classes y_prints y_place y_steps y_d y_valTop y_opTop y_opens y_pos y_tk y_tv y_stmt y_target y_err y_code y_outcome y_result y_dry y_want y_starting y_ended y_bad y_hosted y_sawSuper tx y_numbers y_globals y_entries y_attrs y_classOf y_alive y_orders y_lengths y_letters y_bases y_vals y_ops y_locals y_fRecv y_fLine y_fPos y_fStmt y_fTarget y_fMask y_fHome y_fOps y_fVals y_fNew y_out := by
        by_cases b1 : x < 21
        · exact br_t b1 r28
        · by_cases b2 : x ≤ 32
          · exact absurd (Or.inr (Or.inl ⟨nl b1, b2⟩)) g
          · exact br_f b1 (br_f b2 r28)
      by_cases b1 : x < 1
      · exact br_t b1 r16
      · by_cases b2 : x ≤ 13
        · exact absurd (Or.inl ⟨nl b1, b2⟩) g
        · exact br_f b1 (br_f b2 r16)
def hs_ap4 (pd : Nat → Int32) (pn : Nat) (a b c d : Int32) : Nat → Int32 := hs_apd (hs_apd (hs_apd (hs_apd pd pn a) (pn + hs_nz a) b) (pn + hs_nz a + hs_nz b) c) (pn + hs_nz a + hs_nz b + hs_nz c) d
noncomputable def hs_at4 (pd : Nat → Int32) (pn : Nat) (a b c d : Int32) : Nat → Int32 := hs_atx (hs_atx (hs_atx (hs_atx pd pn a) (pn + hs_nz a) b) (pn + hs_nz a + hs_nz b) c) (pn + hs_nz a + hs_nz b + hs_nz c) d
theorem hs_nzB {x : Int32} {A B : Prop} (h0 : hs_nz x = 0 → A) (h1 : hs_nz x = 1 → B) : (x = 0 → A) ∧ (¬ x = 0 → B) := by
  unfold hs_nz at *
  by_cases e : x = 0
  · rw [if_pos e] at h0; exact br_t e (h0 rfl)
  · rw [if_neg e] at h1; exact br_f e (h1 rfl)
theorem hs_xPut39 {pd : Nat → Int32} {pn kt q z : Nat} {a b c d : Int32} (hq : q + z = hs_nz a + hs_nz b + hs_nz c + hs_nz d) (hp : kt + pn ≤ 400) {post : Int32 → SX → Prop}
    (h1 : kt + pn + hs_nz a + hs_nz b + hs_nz c + hs_nz d ≤ 400 → post (nI (kt + (pn + hs_nz a + hs_nz b + hs_nz c + hs_nz d))) (x_objectLimit, x_stepLimit, x_depthLimit, nI (pn + hs_nz a + hs_nz b + hs_nz c + hs_nz d), nI kt, x_keptLines, x_lineCount, x_codeCount, x_cursor, x_stop, x_waitingCount, x_openCount, x_classCount, x_callCount, x_operandCount, x_stepsTaken, x_error, x_raisedCode, x_printCount, x_lastResult, x_lastPlace, hs_ap4 pd pn a b c d, x_lineTable, x_code, x_waiting, x_globals, x_entries, x_orders, x_merging, x_letterClass, x_objectClass, x_attributes, x_calls, x_held, x_operands, x_lastPrints))
    (h0 : 400 < kt + pn + hs_nz a + hs_nz b + hs_nz c + hs_nz d → post (-1) (x_objectLimit, x_stepLimit, x_depthLimit, nI pn, nI kt, x_keptLines, x_lineCount, x_codeCount, x_cursor, x_stop, x_waitingCount, x_openCount, x_classCount, x_callCount, x_operandCount, x_stepsTaken, x_error, x_raisedCode, x_printCount, x_lastResult, x_lastPlace, pd, x_lineTable, x_code, x_waiting, x_globals, x_entries, x_orders, x_merging, x_letterClass, x_objectClass, x_attributes, x_calls, x_held, x_operands, x_lastPrints)) : wX_put_39 post a b c d (nI z) (nI q) x_objectLimit x_stepLimit x_depthLimit (nI pn) (nI kt) x_keptLines x_lineCount x_codeCount x_cursor x_stop x_waitingCount x_openCount x_classCount x_callCount x_operandCount x_stepsTaken x_error x_raisedCode x_printCount x_lastResult x_lastPlace pd x_lineTable x_code x_waiting x_globals x_entries x_orders x_merging x_letterClass x_objectClass x_attributes x_calls x_held x_operands x_lastPrints := by
  refine nm_r (nI_add q z) ?_
  rw [nI_add, nI_add]
  have := hs_nzLe a
  have := hs_nzLe b
  have := hs_nzLe c
  have := hs_nzLe d
  refine pk_le (kt + pn + (q + z)) 400 (fun le => ?_) (fun gt => h0 (by omega))
  refine hs_xAdd (by omega) (hs_xAdd (by omega) (hs_xAdd (by omega) (hs_xAdd (by omega) ?_)))
  show post (nI kt + nI _) _
  rw [nI_add]
  exact h1 (by omega)
theorem hs_xPut {pd : Nat → Int32} {pn kt : Nat} {a b c d : Int32} (hp : kt + pn ≤ 400) {post : Int32 → SX → Prop}
    (h1 : kt + pn + hs_nz a + hs_nz b + hs_nz c + hs_nz d ≤ 400 → post (nI (kt + (pn + hs_nz a + hs_nz b + hs_nz c + hs_nz d))) (x_objectLimit, x_stepLimit, x_depthLimit, nI (pn + hs_nz a + hs_nz b + hs_nz c + hs_nz d), nI kt, x_keptLines, x_lineCount, x_codeCount, x_cursor, x_stop, x_waitingCount, x_openCount, x_classCount, x_callCount, x_operandCount, x_stepsTaken, x_error, x_raisedCode, x_printCount, x_lastResult, x_lastPlace, hs_ap4 pd pn a b c d, x_lineTable, x_code, x_waiting, x_globals, x_entries, x_orders, x_merging, x_letterClass, x_objectClass, x_attributes, x_calls, x_held, x_operands, x_lastPrints))
    (h0 : 400 < kt + pn + hs_nz a + hs_nz b + hs_nz c + hs_nz d → post (-1) (x_objectLimit, x_stepLimit, x_depthLimit, nI pn, nI kt, x_keptLines, x_lineCount, x_codeCount, x_cursor, x_stop, x_waitingCount, x_openCount, x_classCount, x_callCount, x_operandCount, x_stepsTaken, x_error, x_raisedCode, x_printCount, x_lastResult, x_lastPlace, pd, x_lineTable, x_code, x_waiting, x_globals, x_entries, x_orders, x_merging, x_letterClass, x_objectClass, x_attributes, x_calls, x_held, x_operands, x_lastPrints)) : wpX_put post (x_objectLimit, x_stepLimit, x_depthLimit, nI pn, nI kt, x_keptLines, x_lineCount, x_codeCount, x_cursor, x_stop, x_waitingCount, x_openCount, x_classCount, x_callCount, x_operandCount, x_stepsTaken, x_error, x_raisedCode, x_printCount, x_lastResult, x_lastPlace, pd, x_lineTable, x_code, x_waiting, x_globals, x_entries, x_orders, x_merging, x_letterClass, x_objectClass, x_attributes, x_calls, x_held, x_operands, x_lastPrints) a b c d := by
  have L : ∀ q z : Nat, q + z = hs_nz a + hs_nz b + hs_nz c + hs_nz d → wX_put_39 post a b c d (nI z) (nI q) x_objectLimit x_stepLimit x_depthLimit (nI pn) (nI kt) x_keptLines x_lineCount x_codeCount x_cursor x_stop x_waitingCount x_openCount x_classCount x_callCount x_operandCount x_stepsTaken x_error x_raisedCode x_printCount x_lastResult x_lastPlace pd x_lineTable x_code x_waiting x_globals x_entries x_orders x_merging x_letterClass x_objectClass x_attributes x_calls x_held x_operands x_lastPrints := fun q z hq => hs_xPut39 hq hp h1 h0
  have L28 : ∀ q z : Nat, q + z = hs_nz a + hs_nz b + hs_nz c → wX_put_28 post a b c d (nI z) (nI q) x_objectLimit x_stepLimit x_depthLimit (nI pn) (nI kt) x_keptLines x_lineCount x_codeCount x_cursor x_stop x_waitingCount x_openCount x_classCount x_callCount x_operandCount x_stepsTaken x_error x_raisedCode x_printCount x_lastResult x_lastPlace pd x_lineTable x_code x_waiting x_globals x_entries x_orders x_merging x_letterClass x_objectClass x_attributes x_calls x_held x_operands x_lastPrints := fun q z hq => by
    unfold wX_put_28
    rw [nI_add]
    exact hs_nzB (fun e => L (q + z) 0 (by omega)) (fun e => L (q + z) 1 (by omega))
  have L18 : ∀ q z : Nat, q + z = hs_nz a + hs_nz b → wX_put_18 post a b c d (nI z) (nI q) x_objectLimit x_stepLimit x_depthLimit (nI pn) (nI kt) x_keptLines x_lineCount x_codeCount x_cursor x_stop x_waitingCount x_openCount x_classCount x_callCount x_operandCount x_stepsTaken x_error x_raisedCode x_printCount x_lastResult x_lastPlace pd x_lineTable x_code x_waiting x_globals x_entries x_orders x_merging x_letterClass x_objectClass x_attributes x_calls x_held x_operands x_lastPrints := fun q z hq => by
    unfold wX_put_18
    rw [nI_add]
    exact hs_nzB (fun e => L28 (q + z) 0 (by omega)) (fun e => L28 (q + z) 1 (by omega))
  have L9 : ∀ q : Nat, q = hs_nz a → wX_put_9 post a b c d (nI q) x_objectLimit x_stepLimit x_depthLimit (nI pn) (nI kt) x_keptLines x_lineCount x_codeCount x_cursor x_stop x_waitingCount x_openCount x_classCount x_callCount x_operandCount x_stepsTaken x_error x_raisedCode x_printCount x_lastResult x_lastPlace pd x_lineTable x_code x_waiting x_globals x_entries x_orders x_merging x_letterClass x_objectClass x_attributes x_calls x_held x_operands x_lastPrints := fun q hq => by
    exact hs_nzB (fun e => L18 q 0 (by omega)) (fun e => L18 q 1 (by omega))
  exact hs_nzB (fun e => L9 0 (by omega)) (fun e => L9 1 (by omega))
theorem hs_yPut39 {tx : Nat → Int32} {pn kt q z e : Nat} {a b c d : Int32} (hq : q + z = hs_nz a + hs_nz b + hs_nz c + hs_nz d) (hp : kt + pn ≤ 400) (he : e < 1000) {post : Int32 → SY → Prop}
    (h1 : kt + pn + hs_nz a + hs_nz b + hs_nz c + hs_nz d ≤ 400 → post (nI (kt + (pn + hs_nz a + hs_nz b + hs_nz c + hs_nz d))) (y_maxObjects, y_maxSteps, y_maxDepth, y_kept, nI (e + hs_nz a + hs_nz b + hs_nz c + hs_nz d), nI kt, nI (pn + hs_nz a + hs_nz b + hs_nz c + hs_nz d), y_lines, y_classes, y_prints, y_place, y_steps, y_d, y_valTop, y_opTop, y_opens, y_pos, y_tk, y_tv, y_stmt, y_target, y_err, y_code, y_outcome, y_result, y_dry, y_want, y_starting, y_ended, y_bad, y_hosted, y_sawSuper, hs_at4 tx e a b c d, y_numbers, y_globals, y_entries, y_attrs, y_classOf, y_alive, y_orders, y_lengths, y_letters, y_bases, y_vals, y_ops, y_locals, y_fRecv, y_fLine, y_fPos, y_fStmt, y_fTarget, y_fMask, y_fHome, y_fOps, y_fVals, y_fNew, y_out))
    (h0 : 400 < kt + pn + hs_nz a + hs_nz b + hs_nz c + hs_nz d → post (-1) (y_maxObjects, y_maxSteps, y_maxDepth, y_kept, nI e, nI kt, nI pn, y_lines, y_classes, y_prints, y_place, y_steps, y_d, y_valTop, y_opTop, y_opens, y_pos, y_tk, y_tv, y_stmt, y_target, y_err, y_code, y_outcome, y_result, y_dry, y_want, y_starting, y_ended, y_bad, y_hosted, y_sawSuper, tx, y_numbers, y_globals, y_entries, y_attrs, y_classOf, y_alive, y_orders, y_lengths, y_letters, y_bases, y_vals, y_ops, y_locals, y_fRecv, y_fLine, y_fPos, y_fStmt, y_fTarget, y_fMask, y_fHome, y_fOps, y_fVals, y_fNew, y_out)) : wY_put_39 post a b c d (nI z) (nI q) y_maxObjects y_maxSteps y_maxDepth y_kept (nI e) (nI kt) (nI pn) y_lines y_classes y_prints y_place y_steps y_d y_valTop y_opTop y_opens y_pos y_tk y_tv y_stmt y_target y_err y_code y_outcome y_result y_dry y_want y_starting y_ended y_bad y_hosted y_sawSuper tx y_numbers y_globals y_entries y_attrs y_classOf y_alive y_orders y_lengths y_letters y_bases y_vals y_ops y_locals y_fRecv y_fLine y_fPos y_fStmt y_fTarget y_fMask y_fHome y_fOps y_fVals y_fNew y_out := by
  refine nm_r (nI_add q z) ?_
  rw [nI_add, nI_add]
  have := hs_nzLe a
  have := hs_nzLe b
  have := hs_nzLe c
  have := hs_nzLe d
  refine pk_le (kt + pn + (q + z)) 400 (fun le => ?_) (fun gt => h0 (by omega))
  refine hs_yAdd (by omega) (hs_yAdd (by omega) (hs_yAdd (by omega) (hs_yAdd (by omega) ?_)))
  have e3 : pn + (q + z) = pn + hs_nz a + hs_nz b + hs_nz c + hs_nz d := by omega
  refine nm_r (nI_add pn (q + z)) ?_
  rw [nI_add, e3]
  exact h1 (by omega)
theorem hs_yPut {tx : Nat → Int32} {pn kt e : Nat} {a b c d : Int32} (hp : kt + pn ≤ 400) (he : e < 1000) {post : Int32 → SY → Prop}
    (h1 : kt + pn + hs_nz a + hs_nz b + hs_nz c + hs_nz d ≤ 400 → post (nI (kt + (pn + hs_nz a + hs_nz b + hs_nz c + hs_nz d))) (y_maxObjects, y_maxSteps, y_maxDepth, y_kept, nI (e + hs_nz a + hs_nz b + hs_nz c + hs_nz d), nI kt, nI (pn + hs_nz a + hs_nz b + hs_nz c + hs_nz d), y_lines, y_classes, y_prints, y_place, y_steps, y_d, y_valTop, y_opTop, y_opens, y_pos, y_tk, y_tv, y_stmt, y_target, y_err, y_code, y_outcome, y_result, y_dry, y_want, y_starting, y_ended, y_bad, y_hosted, y_sawSuper, hs_at4 tx e a b c d, y_numbers, y_globals, y_entries, y_attrs, y_classOf, y_alive, y_orders, y_lengths, y_letters, y_bases, y_vals, y_ops, y_locals, y_fRecv, y_fLine, y_fPos, y_fStmt, y_fTarget, y_fMask, y_fHome, y_fOps, y_fVals, y_fNew, y_out))
    (h0 : 400 < kt + pn + hs_nz a + hs_nz b + hs_nz c + hs_nz d → post (-1) (y_maxObjects, y_maxSteps, y_maxDepth, y_kept, nI e, nI kt, nI pn, y_lines, y_classes, y_prints, y_place, y_steps, y_d, y_valTop, y_opTop, y_opens, y_pos, y_tk, y_tv, y_stmt, y_target, y_err, y_code, y_outcome, y_result, y_dry, y_want, y_starting, y_ended, y_bad, y_hosted, y_sawSuper, tx, y_numbers, y_globals, y_entries, y_attrs, y_classOf, y_alive, y_orders, y_lengths, y_letters, y_bases, y_vals, y_ops, y_locals, y_fRecv, y_fLine, y_fPos, y_fStmt, y_fTarget, y_fMask, y_fHome, y_fOps, y_fVals, y_fNew, y_out)) : wpY_put post (y_maxObjects, y_maxSteps, y_maxDepth, y_kept, nI e, nI kt, nI pn, y_lines, y_classes, y_prints, y_place, y_steps, y_d, y_valTop, y_opTop, y_opens, y_pos, y_tk, y_tv, y_stmt, y_target, y_err, y_code, y_outcome, y_result, y_dry, y_want, y_starting, y_ended, y_bad, y_hosted, y_sawSuper, tx, y_numbers, y_globals, y_entries, y_attrs, y_classOf, y_alive, y_orders, y_lengths, y_letters, y_bases, y_vals, y_ops, y_locals, y_fRecv, y_fLine, y_fPos, y_fStmt, y_fTarget, y_fMask, y_fHome, y_fOps, y_fVals, y_fNew, y_out) a b c d := by
  have L : ∀ q z : Nat, q + z = hs_nz a + hs_nz b + hs_nz c + hs_nz d → wY_put_39 post a b c d (nI z) (nI q) y_maxObjects y_maxSteps y_maxDepth y_kept (nI e) (nI kt) (nI pn) y_lines y_classes y_prints y_place y_steps y_d y_valTop y_opTop y_opens y_pos y_tk y_tv y_stmt y_target y_err y_code y_outcome y_result y_dry y_want y_starting y_ended y_bad y_hosted y_sawSuper tx y_numbers y_globals y_entries y_attrs y_classOf y_alive y_orders y_lengths y_letters y_bases y_vals y_ops y_locals y_fRecv y_fLine y_fPos y_fStmt y_fTarget y_fMask y_fHome y_fOps y_fVals y_fNew y_out := fun q z hq => hs_yPut39 hq hp he h1 h0
  have L28 : ∀ q z : Nat, q + z = hs_nz a + hs_nz b + hs_nz c → wY_put_28 post a b c d (nI z) (nI q) y_maxObjects y_maxSteps y_maxDepth y_kept (nI e) (nI kt) (nI pn) y_lines y_classes y_prints y_place y_steps y_d y_valTop y_opTop y_opens y_pos y_tk y_tv y_stmt y_target y_err y_code y_outcome y_result y_dry y_want y_starting y_ended y_bad y_hosted y_sawSuper tx y_numbers y_globals y_entries y_attrs y_classOf y_alive y_orders y_lengths y_letters y_bases y_vals y_ops y_locals y_fRecv y_fLine y_fPos y_fStmt y_fTarget y_fMask y_fHome y_fOps y_fVals y_fNew y_out := fun q z hq => by
    unfold wY_put_28
    rw [nI_add]
    exact hs_nzB (fun e => L (q + z) 0 (by omega)) (fun e => L (q + z) 1 (by omega))
  have L18 : ∀ q z : Nat, q + z = hs_nz a + hs_nz b → wY_put_18 post a b c d (nI z) (nI q) y_maxObjects y_maxSteps y_maxDepth y_kept (nI e) (nI kt) (nI pn) y_lines y_classes y_prints y_place y_steps y_d y_valTop y_opTop y_opens y_pos y_tk y_tv y_stmt y_target y_err y_code y_outcome y_result y_dry y_want y_starting y_ended y_bad y_hosted y_sawSuper tx y_numbers y_globals y_entries y_attrs y_classOf y_alive y_orders y_lengths y_letters y_bases y_vals y_ops y_locals y_fRecv y_fLine y_fPos y_fStmt y_fTarget y_fMask y_fHome y_fOps y_fVals y_fNew y_out := fun q z hq => by
    unfold wY_put_18
    rw [nI_add]
    exact hs_nzB (fun e => L28 (q + z) 0 (by omega)) (fun e => L28 (q + z) 1 (by omega))
  have L9 : ∀ q : Nat, q = hs_nz a → wY_put_9 post a b c d (nI q) y_maxObjects y_maxSteps y_maxDepth y_kept (nI e) (nI kt) (nI pn) y_lines y_classes y_prints y_place y_steps y_d y_valTop y_opTop y_opens y_pos y_tk y_tv y_stmt y_target y_err y_code y_outcome y_result y_dry y_want y_starting y_ended y_bad y_hosted y_sawSuper tx y_numbers y_globals y_entries y_attrs y_classOf y_alive y_orders y_lengths y_letters y_bases y_vals y_ops y_locals y_fRecv y_fLine y_fPos y_fStmt y_fTarget y_fMask y_fHome y_fOps y_fVals y_fNew y_out := fun q hq => by
    exact hs_nzB (fun e => L18 q 0 (by omega)) (fun e => L18 q 1 (by omega))
  exact hs_nzB (fun e => L9 0 (by omega)) (fun e => L9 1 (by omega))
end
