/-! the readers, over the parts of the relation that they touch -/
section
variable {x_objectLimit x_stepLimit x_depthLimit x_pendingCount x_keptTokens x_keptLines x_lineCount x_codeCount x_cursor x_stop x_waitingCount x_openCount x_classCount x_callCount x_operandCount x_stepsTaken x_error x_raisedCode x_printCount x_lastPlace : Int32} {x_lastResult : Int64} {x_pending x_lineTable x_orders x_merging x_letterClass x_objectClass x_calls x_lastPrints : Nat → Int32} {x_code x_waiting x_globals x_entries x_attributes x_held x_operands : Nat → Int64}
variable {y_maxObjects y_maxSteps y_maxDepth y_kept y_end y_tokens y_pending y_lines y_classes y_prints y_place y_steps y_d y_valTop y_opTop y_opens y_pos y_tk y_tv y_stmt y_target y_err y_code y_outcome y_dry y_want y_starting y_ended y_bad y_hosted y_sawSuper : Int32} {y_result : Int64} {y_text y_numbers y_classOf y_alive y_orders y_lengths y_letters y_bases y_ops y_fLine y_fPos y_fStmt y_fTarget y_fMask y_fHome y_fOps y_fVals y_fNew y_out : Nat → Int32} {y_globals y_entries y_attrs y_vals y_locals y_fRecv : Nat → Int64}
def hs_sh (oc : Nat → Int32) (v : Int64) : Int64 := if v >>> ((32 : Int32).toInt64 &&& 63) = 3 then 12884901888 ||| (oc v.toInt32.toNatClampNeg).toInt64 else if v >>> ((32 : Int32).toInt64 &&& 63) = 4 then 17179869184 else v
def hs_rv (v : Int64) : Prop := ∃ m : Nat, m < 2 ^ 62 ∧ v = lN m ∧ (m / 4294967296 = 3 → m - 12884901888 < 8 ∧ nI m = nI (m - 12884901888))
theorem hs_xShown {oc : Nat → Int32} {v : Int64} (hv : hs_rv v) {post : Int64 → Prop} (h : post (hs_sh oc v)) : wpX_shown post (x_objectLimit, x_stepLimit, x_depthLimit, x_pendingCount, x_keptTokens, x_keptLines, x_lineCount, x_codeCount, x_cursor, x_stop, x_waitingCount, x_openCount, x_classCount, x_callCount, x_operandCount, x_stepsTaken, x_error, x_raisedCode, x_printCount, x_lastResult, x_lastPlace, x_pending, x_lineTable, x_code, x_waiting, x_globals, x_entries, x_orders, x_merging, x_letterClass, oc, x_attributes, x_calls, x_held, x_operands, x_lastPrints) v := by
  obtain ⟨m, hm, rfl, h3⟩ := hv
  unfold hs_sh at h
  unfold wpX_shown
  refine hs_hk3 hm (fun k3 => br_f (by decide) ?_) (fun k3 => br_t rfl (hs_hk4 hm (fun k4 => br_f (by decide) ?_) (fun k4 => br_t rfl ?_)))
  · obtain ⟨a, e⟩ := h3 k3
    rw [if_pos ((hs_yk3 hm).mpr k3)] at h
    refine And.intro ?_ h
    rw [lN_i, e]
    exact vp_in_nI a (by decide)
  · rw [if_neg (fun y => k3 ((hs_yk3 hm).mp y)), if_pos ((hs_yk4 hm).mpr k4)] at h; exact h
  · rw [if_neg (fun y => k3 ((hs_yk3 hm).mp y)), if_neg (fun y => k4 ((hs_yk4 hm).mp y))] at h; exact h
theorem hs_yShown {oc : Nat → Int32} {v : Int64} (hv : hs_rv v) {post : Int64 → Prop} (h : post (hs_sh oc v)) : wpY_shown post (y_maxObjects, y_maxSteps, y_maxDepth, y_kept, y_end, y_tokens, y_pending, y_lines, y_classes, y_prints, y_place, y_steps, y_d, y_valTop, y_opTop, y_opens, y_pos, y_tk, y_tv, y_stmt, y_target, y_err, y_code, y_outcome, y_result, y_dry, y_want, y_starting, y_ended, y_bad, y_hosted, y_sawSuper, y_text, y_numbers, y_globals, y_entries, y_attrs, oc, y_alive, y_orders, y_lengths, y_letters, y_bases, y_vals, y_ops, y_locals, y_fRecv, y_fLine, y_fPos, y_fStmt, y_fTarget, y_fMask, y_fHome, y_fOps, y_fVals, y_fNew, y_out) v := by
  obtain ⟨m, hm, rfl, h3⟩ := hv
  unfold hs_sh at h
  by_cases k3 : lN m >>> ((32 : Int32).toInt64 &&& 63) = 3
  · rw [if_pos k3] at h
    refine br_t k3 (And.intro ?_ h)
    obtain ⟨a, e⟩ := h3 ((hs_yk3 hm).mp k3)
    rw [lN_i, e]
    exact vp_in_nI a (by decide)
  · rw [if_neg k3] at h
    by_cases k4 : lN m >>> ((32 : Int32).toInt64 &&& 63) = 4
    · rw [if_pos k4] at h; exact br_f k3 (br_t k4 h)
    · rw [if_neg k4] at h; exact br_f k3 (br_f k4 h)
theorem hs_xLet {post : Int32 → Prop} {n : Int32} (h1 : ∀ j : Nat, j < 26 → n = nI j → post 1) (h0 : (n < 0 ∨ 26 ≤ n) → post 0) : wpX_isLetter post n := by
  rcases pk_ix n (n := 26) (by decide) with h | h | ⟨j, hj, e⟩
  · exact br_t h (h0 (Or.inl h))
  · exact br_f (fun z => by subst_vars; exact absurd (Int32.lt_of_lt_of_le z (by decide : (0:Int32) ≤ nI 26)) (Int32.not_lt.mpr h)) (br_t h (h0 (Or.inr h)))
  · have := h1 j hj e
    subst e
    exact br_f (nI_pos (by omega)) (br_f (nI_ge (b := 26) hj (by decide)) this)
theorem hs_26 {n : Int32} (h : (26 : Int32) ≤ n) : ¬ n < 0 ∧ ¬ n ≤ 25 ∧ 25 < n := by
  have h1 : (26 : Int32).toInt = 26 := by decide
  have h2 : (25 : Int32).toInt = 25 := by decide
  have h3 : (0 : Int32).toInt = 0 := by decide
  simp only [Int32.le_iff_toInt_le, Int32.lt_iff_toInt_lt, h1, h2, h3] at *
  omega
theorem hs_rVariable {gl : Nat → Int64} {oc : Nat → Int32} (hg : ∀ j, j < 26 → hs_rv (gl j)) {Q : Prop} (hQ : Q) (v1 : Int32) : wpX_variable (fun r => wpY_variable (fun r' => r' = r ∧ Q) (y_maxObjects, y_maxSteps, y_maxDepth, y_kept, y_end, y_tokens, y_pending, y_lines, y_classes, y_prints, y_place, y_steps, y_d, y_valTop, y_opTop, y_opens, y_pos, y_tk, y_tv, y_stmt, y_target, y_err, y_code, y_outcome, y_result, y_dry, y_want, y_starting, y_ended, y_bad, y_hosted, y_sawSuper, y_text, y_numbers, gl, y_entries, y_attrs, oc, y_alive, y_orders, y_lengths, y_letters, y_bases, y_vals, y_ops, y_locals, y_fRecv, y_fLine, y_fPos, y_fStmt, y_fTarget, y_fMask, y_fHome, y_fOps, y_fVals, y_fNew, y_out) v1) (x_objectLimit, x_stepLimit, x_depthLimit, x_pendingCount, x_keptTokens, x_keptLines, x_lineCount, x_codeCount, x_cursor, x_stop, x_waitingCount, x_openCount, x_classCount, x_callCount, x_operandCount, x_stepsTaken, x_error, x_raisedCode, x_printCount, x_lastResult, x_lastPlace, x_pending, x_lineTable, x_code, x_waiting, gl, x_entries, x_orders, x_merging, x_letterClass, oc, x_attributes, x_calls, x_held, x_operands, x_lastPrints) v1 := by
  unfold wpX_variable
  refine hs_xLet (fun j hj e => br_f (by decide) ?_) (fun h => br_t rfl ?_)
  · subst e
    refine And.intro (vp_in_nI hj (by decide)) ?_
    rw [nI_clamp (show j < 2 ^ 31 by omega)]
    refine hs_xShown (hg j hj) ?_
    refine br_f (nI_pos (by omega)) (br_t (nI_le (b := 25) (by omega) (by decide)) (And.intro (vp_in_nI hj (by decide)) ?_))
    rw [nI_clamp (show j < 2 ^ 31 by omega)]
    exact hs_yShown (hg j hj) ⟨rfl, hQ⟩
  · rcases h with h | h
    · exact br_t h ⟨rfl, hQ⟩
    · obtain ⟨a, b, c⟩ := hs_26 h
      exact br_f a (br_f b ⟨rfl, hQ⟩)
theorem hs_rNamed {le : Nat → Int32} {Q : Prop} (hQ : Q) (v1 : Int32) : wpX_named (fun r => wpY_named (fun r' => r' = r ∧ Q) (y_maxObjects, y_maxSteps, y_maxDepth, y_kept, y_end, y_tokens, y_pending, y_lines, y_classes, y_prints, y_place, y_steps, y_d, y_valTop, y_opTop, y_opens, y_pos, y_tk, y_tv, y_stmt, y_target, y_err, y_code, y_outcome, y_result, y_dry, y_want, y_starting, y_ended, y_bad, y_hosted, y_sawSuper, y_text, y_numbers, y_globals, y_entries, y_attrs, y_classOf, y_alive, y_orders, y_lengths, le, y_bases, y_vals, y_ops, y_locals, y_fRecv, y_fLine, y_fPos, y_fStmt, y_fTarget, y_fMask, y_fHome, y_fOps, y_fVals, y_fNew, y_out) v1) (x_objectLimit, x_stepLimit, x_depthLimit, x_pendingCount, x_keptTokens, x_keptLines, x_lineCount, x_codeCount, x_cursor, x_stop, x_waitingCount, x_openCount, x_classCount, x_callCount, x_operandCount, x_stepsTaken, x_error, x_raisedCode, x_printCount, x_lastResult, x_lastPlace, x_pending, x_lineTable, x_code, x_waiting, x_globals, x_entries, x_orders, x_merging, le, x_objectClass, x_attributes, x_calls, x_held, x_operands, x_lastPrints) v1 := by
  unfold wpX_named
  refine hs_xLet (fun j hj e => br_f (by decide) ?_) (fun h => br_t rfl ?_)
  · subst e
    refine And.intro (vp_in_nI hj (by decide)) ?_
    exact br_f (nI_pos (by omega)) (br_t (nI_le (b := 25) (by omega) (by decide)) (And.intro (vp_in_nI hj (by decide)) ⟨rfl, hQ⟩))
  · rcases h with h | h
    · exact br_t h ⟨rfl, hQ⟩
    · obtain ⟨a, b, c⟩ := hs_26 h
      exact br_f a (br_f b ⟨rfl, hQ⟩)
theorem hs_rAttribute {gl aa_ : Nat → Int64} {oc : Nat → Int32} (hg : ∀ j, j < 26 → hs_rv (gl j)) (ha : ∀ j, j < 208 → hs_rv (aa_ j)) {Q : Prop} (hQ : Q) (v1 v2 : Int32) : wpX_attribute (fun r => wpY_attribute (fun r' => r' = r ∧ Q) (y_maxObjects, y_maxSteps, y_maxDepth, y_kept, y_end, y_tokens, y_pending, y_lines, y_classes, y_prints, y_place, y_steps, y_d, y_valTop, y_opTop, y_opens, y_pos, y_tk, y_tv, y_stmt, y_target, y_err, y_code, y_outcome, y_result, y_dry, y_want, y_starting, y_ended, y_bad, y_hosted, y_sawSuper, y_text, y_numbers, gl, y_entries, aa_, oc, y_alive, y_orders, y_lengths, y_letters, y_bases, y_vals, y_ops, y_locals, y_fRecv, y_fLine, y_fPos, y_fStmt, y_fTarget, y_fMask, y_fHome, y_fOps, y_fVals, y_fNew, y_out) v1 v2) (x_objectLimit, x_stepLimit, x_depthLimit, x_pendingCount, x_keptTokens, x_keptLines, x_lineCount, x_codeCount, x_cursor, x_stop, x_waitingCount, x_openCount, x_classCount, x_callCount, x_operandCount, x_stepsTaken, x_error, x_raisedCode, x_printCount, x_lastResult, x_lastPlace, x_pending, x_lineTable, x_code, x_waiting, gl, x_entries, x_orders, x_merging, x_letterClass, oc, aa_, x_calls, x_held, x_operands, x_lastPrints) v1 v2 := by
  unfold wpX_attribute
  refine hs_xLet (fun j hj e => br_f (by decide) ?_) (fun h => br_t rfl ?_)
  · subst e
    have a1 := nI_pos (n := j) (by omega)
    have a2 : ¬ 25 < nI j := nI_nlt (b := j) (a := 25) (by omega) (by decide)
    refine hs_xLet (fun j2 hj2 e => br_f (by decide) ?_) (fun h => br_t rfl ?_)
    · subst e
      have b1 := nI_pos (n := j2) (by omega)
      have b2 : ¬ 25 < nI j2 := nI_nlt (b := j2) (a := 25) (by omega) (by decide)
      have vin := vp_in_nI (n := j) (N := 26) hj (by decide)
      refine And.intro vin ?_
      rw [nI_clamp (show j < 2 ^ 31 by omega)]
      obtain ⟨m, hm, em, h3⟩ := hg j hj
      refine nm_r em (hs_hk3 hm (fun k3 => br_f (by decide) ?_) (fun k3 => br_t rfl ?_))
      · obtain ⟨o1, o2⟩ := h3 k3
        have ix : ((lN m).toInt32 * 26) + nI j2 = nI ((m - 12884901888) * 26 + j2) := by
          rw [lN_i, o2]
          show nI _ * nI 26 + _ = _
          rw [pk_mul, nI_add]
        have hx : (m - 12884901888) * 26 + j2 < 208 := by omega
        rw [ix, nI_clamp (show (m - 12884901888) * 26 + j2 < 2 ^ 31 by omega)]
        refine And.intro (vp_in_nI hx (by decide)) (hs_xShown (ha _ hx) ?_)
        refine br_f a1 (br_f a2 (br_f b1 (br_f b2 (And.intro vin ?_))))
        rw [nI_clamp (show j < 2 ^ 31 by omega), em]
        refine br_t ((hs_yk3 hm).mpr k3) (And.intro vin ?_)
        rw [ix, nI_clamp (show (m - 12884901888) * 26 + j2 < 2 ^ 31 by omega)]
        exact And.intro (vp_in_nI hx (by decide)) (hs_yShown (ha _ hx) ⟨rfl, hQ⟩)
      · refine br_f a1 (br_f a2 (br_f b1 (br_f b2 (And.intro vin ?_))))
        rw [nI_clamp (show j < 2 ^ 31 by omega), em]
        exact br_f (fun z => k3 ((hs_yk3 hm).mp z)) ⟨rfl, hQ⟩
    · rcases h with h | h
      · exact br_f a1 (br_f a2 (br_t h ⟨rfl, hQ⟩))
      · obtain ⟨a, b, c⟩ := hs_26 h
        exact br_f a1 (br_f a2 (br_f a (br_t c ⟨rfl, hQ⟩)))
  · rcases h with h | h
    · exact br_t h ⟨rfl, hQ⟩
    · obtain ⟨a, b, c⟩ := hs_26 h
      exact br_f a (br_t c ⟨rfl, hQ⟩)
/-- an entry of sort c on both sides: the same value, or a method -/
def hs_ee (P : Nat → Nat) (df : Nat → Prop) (c : Nat) (e e' : Int64) : Prop := (e = e' ∧ hs_v0 e) ∨ ∃ l, df l ∧ l < 1024 ∧ P l < 1024 ∧ e = lN (17179869184 + l) ∧ e' = lN (17179869184 + (c * 4096 + P l))
theorem hs_rvV {v : Int64} (h : hs_v0 v) : hs_rv v := hs_v0sm h
theorem hs_rvM {m : Nat} (h : m < 2 ^ 20) : hs_rv (lN (17179869184 + m)) := ⟨_, by omega, rfl, fun z => by omega⟩
theorem hs_shM {oc : Nat → Int32} {m : Nat} (h : m < 2 ^ 20) : hs_sh oc (lN (17179869184 + m)) = 17179869184 := by
  unfold hs_sh
  rw [if_neg (fun y => by have := (hs_yk3 (by omega)).mp y; omega), if_pos ((hs_yk4 (by omega)).mpr (by omega))]
theorem hs_eeR {P : Nat → Nat} {df : Nat → Prop} {c : Nat} {e e' : Int64} {oc : Nat → Int32} (hc : c < 10) (h : hs_ee P df c e e') : hs_rv e ∧ hs_rv e' ∧ hs_sh oc e = hs_sh oc e' := by
  rcases h with ⟨rfl, h⟩ | ⟨l, _, h1, h2, rfl, rfl⟩
  · exact ⟨hs_rvV h, hs_rvV h, rfl⟩
  · exact ⟨hs_rvM (by omega), hs_rvM (by omega), by rw [hs_shM (by omega), hs_shM (by omega)]⟩
def hs_EE (P : Nat → Nat) (df : Nat → Prop) (ex ey : Nat → Int64) : Prop := ∀ c n, c < 10 → n < 26 → hs_ee P df c (ex (c * 26 + n)) (ey (c * 26 + n))
theorem hs_xCls {cn : Nat} (hc : cn ≤ 10) {post : Int32 → Prop} {n : Int32} (h1 : ∀ j : Nat, j < cn → n = nI j → post 1) (h0 : (n < 0 ∨ (¬ n < 0 ∧ nI cn ≤ n)) → post 0) : wpX_isClass post (x_objectLimit, x_stepLimit, x_depthLimit, x_pendingCount, x_keptTokens, x_keptLines, x_lineCount, x_codeCount, x_cursor, x_stop, x_waitingCount, x_openCount, nI cn, x_callCount, x_operandCount, x_stepsTaken, x_error, x_raisedCode, x_printCount, x_lastResult, x_lastPlace, x_pending, x_lineTable, x_code, x_waiting, x_globals, x_entries, x_orders, x_merging, x_letterClass, x_objectClass, x_attributes, x_calls, x_held, x_operands, x_lastPrints) n := by
  rcases pk_ix n (n := cn) (by omega) with h | h | ⟨j, hj, e⟩
  · exact br_t h (h0 (Or.inl h))
  · have h' : ¬ n < 0 := fun z => absurd (Int32.lt_of_lt_of_le z (nI_pos' (show cn < 2 ^ 31 by omega))) (Int32.not_lt.mpr h)
    exact br_f h' (br_t h (h0 (Or.inr ⟨h', h⟩)))
  · have := h1 j hj e
    subst e
    exact br_f (nI_pos (by omega)) (br_f (nI_ge hj (by omega)) this)
theorem hs_rEntry {P : Nat → Nat} {df : Nat → Prop} {ex ey : Nat → Int64} {oc : Nat → Int32} {cn : Nat} (hc : cn ≤ 10) (hE : hs_EE P df ex ey) {Q : Prop} (hQ : Q) (v1 v2 : Int32) : wpX_entry (fun r => wpY_entry (fun r' => r' = r ∧ Q) (y_maxObjects, y_maxSteps, y_maxDepth, y_kept, y_end, y_tokens, y_pending, y_lines, nI cn, y_prints, y_place, y_steps, y_d, y_valTop, y_opTop, y_opens, y_pos, y_tk, y_tv, y_stmt, y_target, y_err, y_code, y_outcome, y_result, y_dry, y_want, y_starting, y_ended, y_bad, y_hosted, y_sawSuper, y_text, y_numbers, y_globals, ey, y_attrs, oc, y_alive, y_orders, y_lengths, y_letters, y_bases, y_vals, y_ops, y_locals, y_fRecv, y_fLine, y_fPos, y_fStmt, y_fTarget, y_fMask, y_fHome, y_fOps, y_fVals, y_fNew, y_out) v1 v2) (x_objectLimit, x_stepLimit, x_depthLimit, x_pendingCount, x_keptTokens, x_keptLines, x_lineCount, x_codeCount, x_cursor, x_stop, x_waitingCount, x_openCount, nI cn, x_callCount, x_operandCount, x_stepsTaken, x_error, x_raisedCode, x_printCount, x_lastResult, x_lastPlace, x_pending, x_lineTable, x_code, x_waiting, x_globals, ex, x_orders, x_merging, x_letterClass, oc, x_attributes, x_calls, x_held, x_operands, x_lastPrints) v1 v2 := by
  unfold wpX_entry
  refine hs_xCls hc (fun j hj e => br_f (by decide) ?_) (fun h => br_t rfl ?_)
  · subst e
    have a1 := nI_pos (n := j) (by omega)
    have a2 : ¬ nI cn ≤ nI j := nI_ge hj (by omega)
    refine hs_xLet (fun j2 hj2 e => br_f (by decide) ?_) (fun h => br_t rfl ?_)
    · subst e
      have b1 := nI_pos (n := j2) (by omega)
      have ix : (nI j * 26) + nI j2 = nI (j * 26 + j2) := by
        show nI _ * nI 26 + _ = _
        rw [pk_mul, nI_add]
      have hx : j * 26 + j2 < 260 := by omega
      obtain ⟨r1, r2, r3⟩ := hs_eeR (oc := oc) (by omega) (hE j j2 (by omega) hj2)
      rw [ix, nI_clamp (show j * 26 + j2 < 2 ^ 31 by omega)]
      refine And.intro (vp_in_nI hx (by decide)) (hs_xShown r1 ?_)
      refine br_f a1 (br_f a2 (br_f b1 (br_t (nI_le (b := 25) (by omega) (by decide)) ?_)))
      rw [ix, nI_clamp (show j * 26 + j2 < 2 ^ 31 by omega)]
      exact And.intro (vp_in_nI hx (by decide)) (hs_yShown r2 ⟨r3.symm, hQ⟩)
    · rcases h with h | h
      · exact br_f a1 (br_f a2 (br_t h ⟨rfl, hQ⟩))
      · obtain ⟨a, b, c⟩ := hs_26 h
        exact br_f a1 (br_f a2 (br_f a (br_f b ⟨rfl, hQ⟩)))
  · rcases h with h | ⟨h', h⟩
    · exact br_t h ⟨rfl, hQ⟩
    · exact br_f h' (br_t h ⟨rfl, hQ⟩)
/-- the orders on both sides: rows of 12 ended by -1, rows of 10 with lengths -/
def hs_gi (l : List Nat) (k : Nat) : Int32 := match l[k]? with
  | some m => nI m
  | none => -1
def hs_OO (cn : Nat) (ox oy le : Nat → Int32) : Prop := ∀ c, c < cn → ∃ l : List Nat, le c = nI l.length ∧ 1 ≤ l.length ∧ l.length ≤ 10 ∧ (∀ k, k < 12 → ox (c * 12 + k) = hs_gi l k) ∧ (∀ k, k < l.length → oy (c * 10 + k) = hs_gi l k) ∧ ∀ m, m ∈ l → m ≤ c
theorem hs_giN {l : List Nat} {k : Nat} (h : l.length ≤ k) : hs_gi l k = -1 := by
  unfold hs_gi
  rw [List.getElem?_eq_none h]
theorem hs_rOrder {ox oy le : Nat → Int32} {cn : Nat} (hc : cn ≤ 10) (hO : hs_OO cn ox oy le) {Q : Prop} (hQ : Q) (v1 v2 : Int32) : wpX_order (fun r => wpY_order (fun r' => r' = r ∧ Q) (y_maxObjects, y_maxSteps, y_maxDepth, y_kept, y_end, y_tokens, y_pending, y_lines, nI cn, y_prints, y_place, y_steps, y_d, y_valTop, y_opTop, y_opens, y_pos, y_tk, y_tv, y_stmt, y_target, y_err, y_code, y_outcome, y_result, y_dry, y_want, y_starting, y_ended, y_bad, y_hosted, y_sawSuper, y_text, y_numbers, y_globals, y_entries, y_attrs, y_classOf, y_alive, oy, le, y_letters, y_bases, y_vals, y_ops, y_locals, y_fRecv, y_fLine, y_fPos, y_fStmt, y_fTarget, y_fMask, y_fHome, y_fOps, y_fVals, y_fNew, y_out) v1 v2) (x_objectLimit, x_stepLimit, x_depthLimit, x_pendingCount, x_keptTokens, x_keptLines, x_lineCount, x_codeCount, x_cursor, x_stop, x_waitingCount, x_openCount, nI cn, x_callCount, x_operandCount, x_stepsTaken, x_error, x_raisedCode, x_printCount, x_lastResult, x_lastPlace, x_pending, x_lineTable, x_code, x_waiting, x_globals, x_entries, ox, x_merging, x_letterClass, x_objectClass, x_attributes, x_calls, x_held, x_operands, x_lastPrints) v1 v2 := by
  unfold wpX_order
  refine hs_xCls hc (fun j hj e => br_f (by decide) ?_) (fun h => br_t rfl ?_)
  · subst e
    have a1 := nI_pos (n := j) (by omega)
    have a2 : ¬ nI cn ≤ nI j := nI_ge hj (by omega)
    obtain ⟨l', e1, l1, l2, h3, h4, _⟩ := hO j hj
    generalize hl : l'.length = l at *
    have yy : ∀ (r : Int32), ¬ v2 < 0 → ¬ v2 < nI l → r = -1 → wpY_order (fun r' => r' = r ∧ Q) (y_maxObjects, y_maxSteps, y_maxDepth, y_kept, y_end, y_tokens, y_pending, y_lines, nI cn, y_prints, y_place, y_steps, y_d, y_valTop, y_opTop, y_opens, y_pos, y_tk, y_tv, y_stmt, y_target, y_err, y_code, y_outcome, y_result, y_dry, y_want, y_starting, y_ended, y_bad, y_hosted, y_sawSuper, y_text, y_numbers, y_globals, y_entries, y_attrs, y_classOf, y_alive, oy, le, y_letters, y_bases, y_vals, y_ops, y_locals, y_fRecv, y_fLine, y_fPos, y_fStmt, y_fTarget, y_fMask, y_fHome, y_fOps, y_fVals, y_fNew, y_out) (nI j) v2 := by
      intro r z1 z2 er
      refine br_f a1 (br_f a2 (br_f z1 (And.intro (vp_in_nI (by omega) (by decide)) ?_)))
      rw [nI_clamp (show j < 2 ^ 31 by omega), e1]
      exact br_f z2 ⟨er.symm, hQ⟩
    rcases pk_ix v2 (n := 12) (by decide) with h | h | ⟨k, hk, e⟩
    · exact br_t h (br_f a1 (br_f a2 (br_t h ⟨rfl, hQ⟩)))
    · have h' : ¬ v2 < 0 := fun z => absurd (Int32.lt_of_lt_of_le z (by decide : (0 : Int32) ≤ nI 12)) (Int32.not_lt.mpr h)
      refine br_f h' (br_f (Int32.not_lt.mpr h) (yy _ h' (Int32.not_lt.mpr (Int32.le_trans (nI_le (show l ≤ 12 by omega) (by decide)) h)) rfl))
    · subst e
      have b1 := nI_pos (n := k) (by omega)
      refine br_f b1 (br_t (nI_lt (b := 12) hk (by decide)) ?_)
      have ix : (nI j * 12) + nI k = nI (j * 12 + k) := by
        show nI _ * nI 12 + _ = _
        rw [pk_mul, nI_add]
      rw [ix, nI_clamp (show j * 12 + k < 2 ^ 31 by omega)]
      refine And.intro (vp_in_nI (by omega) (by decide)) ?_
      rw [h3 k hk]
      by_cases z : k < l
      · rw [← h4 k z]
        refine br_f a1 (br_f a2 (br_f b1 (And.intro (vp_in_nI (by omega) (by decide)) ?_)))
        rw [nI_clamp (show j < 2 ^ 31 by omega), e1]
        refine br_t (nI_lt z (by omega)) ?_
        have iy : (nI j * 10) + nI k = nI (j * 10 + k) := by
          show nI _ * nI 10 + _ = _
          rw [pk_mul, nI_add]
        rw [iy, nI_clamp (show j * 10 + k < 2 ^ 31 by omega)]
        exact And.intro (vp_in_nI (by omega) (by decide)) ⟨rfl, hQ⟩
      · rw [hs_giN (by omega)]
        exact yy _ b1 (nI_nlt (by omega) (by omega)) rfl
  · rcases h with h | ⟨h', h⟩
    · exact br_t h ⟨rfl, hQ⟩
    · exact br_f h' (br_t h ⟨rfl, hQ⟩)
theorem hs_rPrinted {ou : Nat → Int32} {pc : Int32} {Q : Prop} (hQ : Q) (v1 : Int32) : wpX_printed (fun r => wpY_printed (fun r' => r' = r ∧ Q) (y_maxObjects, y_maxSteps, y_maxDepth, y_kept, y_end, y_tokens, y_pending, y_lines, y_classes, pc, y_place, y_steps, y_d, y_valTop, y_opTop, y_opens, y_pos, y_tk, y_tv, y_stmt, y_target, y_err, y_code, y_outcome, y_result, y_dry, y_want, y_starting, y_ended, y_bad, y_hosted, y_sawSuper, y_text, y_numbers, y_globals, y_entries, y_attrs, y_classOf, y_alive, y_orders, y_lengths, y_letters, y_bases, y_vals, y_ops, y_locals, y_fRecv, y_fLine, y_fPos, y_fStmt, y_fTarget, y_fMask, y_fHome, y_fOps, y_fVals, y_fNew, ou) v1) (x_objectLimit, x_stepLimit, x_depthLimit, x_pendingCount, x_keptTokens, x_keptLines, x_lineCount, x_codeCount, x_cursor, x_stop, x_waitingCount, x_openCount, x_classCount, x_callCount, x_operandCount, x_stepsTaken, x_error, x_raisedCode, pc, x_lastResult, x_lastPlace, x_pending, x_lineTable, x_code, x_waiting, x_globals, x_entries, x_orders, x_merging, x_letterClass, x_objectClass, x_attributes, x_calls, x_held, x_operands, ou) v1 := by
  rcases pk_ix v1 (n := 16) (by decide) with h | h | ⟨k, hk, e⟩
  · exact br_t h (br_t h ⟨rfl, hQ⟩)
  · have h1 : (16 : Int32).toInt = 16 := by decide
    have h2 : (15 : Int32).toInt = 15 := by decide
    have h0 : (0 : Int32).toInt = 0 := by decide
    have h' : ¬ v1 < 0 ∧ 15 < v1 := by
      have h : (16 : Int32) ≤ v1 := h
      simp only [Int32.le_iff_toInt_le, Int32.lt_iff_toInt_lt, h1, h2, h0] at *
      omega
    exact br_f h'.1 (br_t h (br_f h'.1 (br_t h'.2 ⟨rfl, hQ⟩)))
  · subst e
    have b1 := nI_pos (n := k) (by omega)
    refine br_f b1 (br_f (nI_ge (b := 16) hk (by decide)) ?_)
    have b2 : ¬ 15 < nI k := nI_nlt (b := k) (a := 15) (by omega) (by decide)
    by_cases z : nI k < pc
    · have vi := pk_andIn ((pc - 1) - nI k) (m := 15) 4 (by decide) (by decide)
      exact br_t z (And.intro vi (br_f b1 (br_f b2 (br_t z (And.intro vi ⟨rfl, hQ⟩)))))
    · exact br_f z (br_f b1 (br_f b2 (br_f z ⟨rfl, hQ⟩)))
end
