/-! what an element of code does: the values and the errors, on the component's side -/
section
variable {x_objectLimit x_stepLimit x_depthLimit x_pendingCount x_keptTokens x_keptLines x_lineCount x_codeCount x_cursor x_stop x_waitingCount x_openCount x_classCount x_callCount x_operandCount x_stepsTaken x_error x_raisedCode x_printCount x_lastPlace : Int32} {x_lastResult : Int64} {x_pending x_lineTable x_orders x_merging x_letterClass x_objectClass x_calls x_lastPrints : Nat → Int32} {x_code x_waiting x_globals x_entries x_attributes x_held x_operands : Nat → Int64}
variable {y_maxObjects y_maxSteps y_maxDepth y_kept y_end y_tokens y_pending y_lines y_classes y_prints y_place y_steps y_d y_valTop y_opTop y_opens y_pos y_tk y_tv y_stmt y_target y_err y_code y_outcome y_dry y_want y_starting y_ended y_bad y_hosted y_sawSuper : Int32} {y_result : Int64} {y_text y_numbers y_classOf y_alive y_orders y_lengths y_letters y_bases y_ops y_fLine y_fPos y_fStmt y_fTarget y_fMask y_fHome y_fOps y_fVals y_fNew y_out : Nat → Int32} {y_globals y_entries y_attrs y_vals y_locals y_fRecv : Nat → Int64}
def hs_io (v : Int64) (o : Nat) : Prop := o < 8 ∧ v = lN (12884901888 + o)
def hs_no (v : Int64) : Prop := ∃ m : Nat, v = lN m ∧ m < 2 ^ 62 ∧ m / 4294967296 ≠ 3
def hs_ni (v : Int64) : Prop := ∃ m : Nat, v = lN m ∧ m < 2 ^ 62 ∧ m / 4294967296 ≠ 2
theorem hs_neM1 {a : Nat} (h : a < 2 ^ 31) : ¬ nI a = -1 := by
  intro e
  have := congrArg Int32.toInt e
  rw [nI_toInt h, show (-1 : Int32).toInt = -1 by decide] at this
  omega
theorem hs_vvO {v : Int64} (h : hs_vv v) : (∃ o, hs_io v o) ∨ hs_no v := by
  obtain ⟨m, e, h⟩ := h
  rcases h with h | h | h
  · exact Or.inr ⟨m, e, by omega, by omega⟩
  · exact Or.inr ⟨m, e, by omega, by omega⟩
  · exact Or.inl ⟨m - 12884901888, by omega, by rw [e]; exact congrArg lN (by omega)⟩
theorem hs_vvI {v : Int64} (h : hs_vv v) : (∃ a, v = hs_int a) ∨ hs_ni v := by
  obtain ⟨m, e, h⟩ := h
  rcases h with h | h | h
  · exact Or.inr ⟨m, e, by omega, by omega⟩
  · exact Or.inl ⟨nI m, by rw [hs_intOf h.1 h.2]; exact e⟩
  · exact Or.inr ⟨m, e, by omega, by omega⟩
theorem hs_ioI {a : Int32} {o : Nat} : ¬ hs_io (hs_int a) o := by
  rintro ⟨h, e⟩
  rw [hs_intN, pk_lEQ (by have := a.toBitVec.isLt; omega) (by omega)] at e
  have := a.toBitVec.isLt
  omega
theorem hs_xkO {v : Int64} {o : Nat} (h : hs_io v o) {post : Int32 → Prop} (H : post 1) : wpX_hasKind post v 12884901888 := by
  rw [h.2]
  exact hs_hk3 (by have := h.1; omega) (fun _ => H) (fun z => by have := h.1; omega)
theorem hs_xkNO {v : Int64} (h : hs_no v) {post : Int32 → Prop} (H : post 0) : wpX_hasKind post v 12884901888 := by
  obtain ⟨m, rfl, h1, h2⟩ := h
  exact hs_hk3 h1 (fun z => absurd z h2) (fun _ => H)
theorem hs_xkI {a : Int32} {post : Int32 → Prop} (H : post 1) : wpX_hasKind post (hs_int a) 8589934592 := by
  have := a.toBitVec.isLt
  rw [hs_intN]
  exact hs_hk2 (by omega) (fun _ => H) (fun z => by omega)
theorem hs_xkNI {v : Int64} (h : hs_ni v) {post : Int32 → Prop} (H : post 0) : wpX_hasKind post v 8589934592 := by
  obtain ⟨m, rfl, h1, h2⟩ := h
  exact hs_hk2 h1 (fun z => absurd z h2) (fun _ => H)
theorem hs_ykO {v : Int64} {o : Nat} (h : hs_io v o) : v >>> ((32 : Int32).toInt64 &&& 63) = 3 := by
  rw [h.2, hs_yk3 (by have := h.1; omega)]; have := h.1; omega
theorem hs_ykNO {v : Int64} (h : hs_no v) : ¬ v >>> ((32 : Int32).toInt64 &&& 63) = 3 := by
  obtain ⟨m, rfl, h1, h2⟩ := h
  rw [hs_yk3 h1]; exact h2
theorem hs_ykI {a : Int32} : (hs_int a) >>> ((32 : Int32).toInt64 &&& 63) = 2 := by
  have := a.toBitVec.isLt
  rw [hs_intN, hs_yk2 (by omega)]; omega
theorem hs_ykNI {v : Int64} (h : hs_ni v) : ¬ v >>> ((32 : Int32).toInt64 &&& 63) = 2 := by
  obtain ⟨m, rfl, h1, h2⟩ := h
  rw [hs_yk2 h1]; exact h2
theorem hs_ioL {v : Int64} {o : Nat} (h : hs_io v o) : v.toInt32 = nI o := by rw [h.2]; exact hs_objLow h.1
theorem hs_xPush {vt : Nat} {op : Nat → Int64} (hv : vt < 280) {v : Int64} {post : SX → Prop} (H : post (x_objectLimit, x_stepLimit, x_depthLimit, x_pendingCount, x_keptTokens, x_keptLines, x_lineCount, x_codeCount, x_cursor, x_stop, x_waitingCount, x_openCount, x_classCount, x_callCount, nI (vt + 1), x_stepsTaken, x_error, x_raisedCode, x_printCount, x_lastResult, x_lastPlace, x_pending, x_lineTable, x_code, x_waiting, x_globals, x_entries, x_orders, x_merging, x_letterClass, x_objectClass, x_attributes, x_calls, x_held, vp_updL op vt v, x_lastPrints)) : wpX_push post (x_objectLimit, x_stepLimit, x_depthLimit, x_pendingCount, x_keptTokens, x_keptLines, x_lineCount, x_codeCount, x_cursor, x_stop, x_waitingCount, x_openCount, x_classCount, x_callCount, nI vt, x_stepsTaken, x_error, x_raisedCode, x_printCount, x_lastResult, x_lastPlace, x_pending, x_lineTable, x_code, x_waiting, x_globals, x_entries, x_orders, x_merging, x_letterClass, x_objectClass, x_attributes, x_calls, x_held, op, x_lastPrints) v := by
  refine pk_le 280 vt (fun z => by omega) (fun _ => And.intro (vp_in_nI hv (by decide)) ?_)
  rw [nI_clamp (show vt < 2 ^ 31 by omega)]
  exact nm_e (nm_r (nI_add vt 1) H)
theorem hs_xOperand {vt b : Nat} {op : Nat → Int64} (hv : vt ≤ 280) (hb : b < vt) {post : Int64 → Prop} (H : post (op (vt - 1 - b))) : wpX_operand post (x_objectLimit, x_stepLimit, x_depthLimit, x_pendingCount, x_keptTokens, x_keptLines, x_lineCount, x_codeCount, x_cursor, x_stop, x_waitingCount, x_openCount, x_classCount, x_callCount, nI vt, x_stepsTaken, x_error, x_raisedCode, x_printCount, x_lastResult, x_lastPlace, x_pending, x_lineTable, x_code, x_waiting, x_globals, x_entries, x_orders, x_merging, x_letterClass, x_objectClass, x_attributes, x_calls, x_held, op, x_lastPrints) (nI b) := by
  have e : nI vt - 1 - nI b = nI (vt - 1 - b) := by
    rw [show (1 : Int32) = nI 1 from rfl, pk_sub (by omega), pk_sub (by omega)]
  refine nm_r e (br_f (nI_pos (by omega)) (pk_le 280 (vt - 1 - b) (fun z => by omega) (fun _ => And.intro (vp_in_nI (by omega) (by decide)) ?_)))
  rw [nI_clamp (show vt - 1 - b < 2 ^ 31 by omega)]
  exact H
theorem hs_xPop {vt : Nat} {op : Nat → Int64} (hv : vt ≤ 280) (h1 : 1 ≤ vt) {post : Int64 → SX → Prop} (H : post (op (vt - 1)) (x_objectLimit, x_stepLimit, x_depthLimit, x_pendingCount, x_keptTokens, x_keptLines, x_lineCount, x_codeCount, x_cursor, x_stop, x_waitingCount, x_openCount, x_classCount, x_callCount, nI (vt - 1), x_stepsTaken, x_error, x_raisedCode, x_printCount, x_lastResult, x_lastPlace, x_pending, x_lineTable, x_code, x_waiting, x_globals, x_entries, x_orders, x_merging, x_letterClass, x_objectClass, x_attributes, x_calls, x_held, op, x_lastPrints)) : wpX_pop post (x_objectLimit, x_stepLimit, x_depthLimit, x_pendingCount, x_keptTokens, x_keptLines, x_lineCount, x_codeCount, x_cursor, x_stop, x_waitingCount, x_openCount, x_classCount, x_callCount, nI vt, x_stepsTaken, x_error, x_raisedCode, x_printCount, x_lastResult, x_lastPlace, x_pending, x_lineTable, x_code, x_waiting, x_globals, x_entries, x_orders, x_merging, x_letterClass, x_objectClass, x_attributes, x_calls, x_held, op, x_lastPrints) := by
  unfold wpX_pop
  refine hs_xOperand (b := 0) hv (by omega) ?_
  refine pk_le vt 0 (fun z => by omega) (fun _ => ?_)
  exact nm_r (show nI vt - 1 = nI (vt - 1) from pk_sub (b := 1) h1) H
/-- what is got of a sort -/
def hs_gE (ex : Nat → Int64) (ml : Nat → List Nat) (c n : Nat) (v : Int64) : Prop := ∃ m, hs_sea ex n (ml c) = some m ∧ m < 10 ∧ v = ex (m * 26 + n) ∧ hs_vv v
def hs_gX (ex : Nat → Int64) (ml : Nat → List Nat) (c n : Nat) (er : Int32) : Prop := (hs_sea ex n (ml c) = none ∧ er = 4) ∨ ∃ m l, hs_sea ex n (ml c) = some m ∧ m < 10 ∧ ex (m * 26 + n) = lN (17179869184 + l) ∧ l < 1024 ∧ er = 3
theorem hs_seaM {ex : Nat → Int64} {n m : Nat} {ms : List Nat} (h19 : ex 19 ≠ 0) (h : hs_sea ex n ms = some m) : m ∈ ms ∧ ex (m * 26 + n) ≠ 0 := by
  unfold hs_sea at h
  split at h
  · rename_i c
    cases h
    exact ⟨c.2, by rw [c.1]; exact h19⟩
  · have h1 := List.find?_some h
    have h2 := List.mem_of_find?_eq_some h
    exact ⟨h2, by simpa using h1⟩
theorem hs_xGetEntry {P h : Nat → Nat} {lc cn c n vt : Nat} {ml : Nat → List Nat} {gl ex at1 op : Nat → Int64} {ox oc lt : Nat → Int32} (W : hs_WX P h lc cn ml gl ex at1 ox oc lt) (hc : c < cn) (hn : n < 26) (hv : vt < 280) {post : SX → Prop} (Hv : ∀ v, hs_gE ex ml c n v → post (x_objectLimit, x_stepLimit, x_depthLimit, x_pendingCount, x_keptTokens, x_keptLines, x_lineCount, x_codeCount, x_cursor, x_stop, x_waitingCount, x_openCount, x_classCount, x_callCount, nI (vt + 1), x_stepsTaken, x_error, x_raisedCode, x_printCount, x_lastResult, x_lastPlace, x_pending, x_lineTable, x_code, x_waiting, x_globals, ex, ox, x_merging, x_letterClass, x_objectClass, x_attributes, x_calls, x_held, vp_updL op vt v, x_lastPrints)) (He : ∀ er, hs_gX ex ml c n er → post (x_objectLimit, x_stepLimit, x_depthLimit, x_pendingCount, x_keptTokens, x_keptLines, x_lineCount, x_codeCount, x_cursor, x_stop, x_waitingCount, x_openCount, x_classCount, x_callCount, nI vt, x_stepsTaken, er, x_raisedCode, x_printCount, x_lastResult, x_lastPlace, x_pending, x_lineTable, x_code, x_waiting, x_globals, ex, ox, x_merging, x_letterClass, x_objectClass, x_attributes, x_calls, x_held, op, x_lastPrints)) : wpX_getEntry post (x_objectLimit, x_stepLimit, x_depthLimit, x_pendingCount, x_keptTokens, x_keptLines, x_lineCount, x_codeCount, x_cursor, x_stop, x_waitingCount, x_openCount, x_classCount, x_callCount, nI vt, x_stepsTaken, x_error, x_raisedCode, x_printCount, x_lastResult, x_lastPlace, x_pending, x_lineTable, x_code, x_waiting, x_globals, ex, ox, x_merging, x_letterClass, x_objectClass, x_attributes, x_calls, x_held, op, x_lastPrints) (nI c) (nI n) := by
  obtain ⟨⟨w1, w2⟩, w3, w4, w5, w6, w7, w8, w9, w10⟩ := W
  obtain ⟨o1, o2, o3, o4⟩ := w10 c hc
  have hm : ∀ m, m ∈ ml c → m < 10 := fun m hm => by have := o4 m hm; omega
  refine br_t (nI_le (a := 0) (Nat.zero_le _) (by omega)) (hs_xSea (k := 0) (l := ml c) (by omega) hn o2 o3 hm (by decide) ?_)
  rw [List.drop_zero]
  cases es : hs_sea ex n (ml c) with
  | none => exact br_f (by decide) (He 4 (Or.inl ⟨es, rfl⟩))
  | some m =>
    obtain ⟨s1, s2⟩ := hs_seaM w3 es
    have m10 := hm m s1
    have ei : nI m * 26 + nI n = nI (m * 26 + n) := hs_ixMul m 26 n
    refine br_t (nI_le (a := 0) (Nat.zero_le _) (by omega)) ?_
    rw [show hs_oI (some m) = nI m from rfl, ei, nI_clamp (show m * 26 + n < 2 ^ 31 by omega)]
    refine And.intro (vp_in_nI (by omega) (by decide)) (nm_e ?_)
    rcases w5 m n m10 hn with q | ⟨l, q1, q2, q3, q4⟩
    · rcases q with q | q
      · exact absurd q s2
      · obtain ⟨k, k1, k2⟩ := q
        have := Hv (ex (m * 26 + n)) ⟨m, es, m10, rfl, ⟨k, k1, k2⟩⟩
        rw [k1] at this ⊢
        exact hs_hk4 (by omega) (fun z => by omega) (fun _ => br_t rfl (hs_xPush hv this))
    · rw [q4]
      exact hs_hk4 (by omega) (fun _ => br_f (by decide) (He 3 (Or.inr ⟨m, l, es, m10, q4, q2, rfl⟩))) (fun z => by omega)
/-- the value of a name -/
def hs_gv (mk : Int32) (gl HE : Nat → Int64) (d q : Nat) : Int64 := if (mk >>> (nI q &&& 31)) &&& 1 = 0 then gl q else HE (d * 27 + q)
def hs_mk1 (LT : Nat → Int32) (dl : Nat → Nat) (d : Nat) : Int32 := if d = 0 then 0 else LT (dl d * 14 + 8)
theorem hs_and1 (x : Int32) : x &&& 1 = 0 ∨ x &&& 1 = 1 := by
  obtain ⟨j, h1, h2⟩ := pk_andE x (m := 1) 1 (by decide)
  have : j = 0 ∨ j = 1 := by omega
  rcases this with rfl | rfl
  · exact Or.inl h2
  · exact Or.inr h2
theorem hs_xIsLocal {LT CL : Nat → Int32} {dl : Nat → Nat} {d q : Nat} (hd : d ≤ 6) (h0 : d = 0 → CL 0 = -1) (h1 : 1 ≤ d → CL (d * 6) = nI (dl d) ∧ dl d < 405) {post : Int32 → Prop} (H1 : ¬ (hs_mk1 LT dl d >>> (nI q &&& 31)) &&& 1 = 0 → 1 ≤ d → post 1) (H0 : (hs_mk1 LT dl d >>> (nI q &&& 31)) &&& 1 = 0 → post 0) : wpX_isLocal post (x_objectLimit, x_stepLimit, x_depthLimit, x_pendingCount, x_keptTokens, x_keptLines, x_lineCount, x_codeCount, x_cursor, x_stop, x_waitingCount, x_openCount, x_classCount, nI (d + 1), x_operandCount, x_stepsTaken, x_error, x_raisedCode, x_printCount, x_lastResult, x_lastPlace, x_pending, LT, x_code, x_waiting, x_globals, x_entries, x_orders, x_merging, x_letterClass, x_objectClass, x_attributes, CL, x_held, x_operands, x_lastPrints) (nI q) := by
  have e : (nI (d + 1) - 1) * 6 + 0 = nI (d * 6) := by
    rw [Int32.add_zero, show (1 : Int32) = nI 1 from rfl, pk_sub (by omega), Nat.add_sub_cancel]; exact pk_mul d 6
  refine And.intro (by rw [e]; exact vp_in_nI (by omega) (by decide)) ?_
  rw [e, nI_clamp (show d * 6 < 2 ^ 31 by omega)]
  refine nm_e ?_
  by_cases z : d = 0
  · subst z
    refine br_t (h0 rfl) (H0 ?_)
    show ((0 : Int32) >>> (nI q &&& 31)) &&& 1 = 0
    have : (0 : Int32) >>> (nI q &&& 31) = 0 := by simp
    rw [this]; rfl
  · obtain ⟨a1, a2⟩ := h1 (by omega)
    have em : hs_mk1 LT dl d = LT (dl d * 14 + 8) := if_neg z
    rw [em] at H1 H0
    rw [a1]
    refine br_f (hs_neM1 (by omega)) ?_
    have e2 : nI (dl d) * 14 + 8 = nI (dl d * 14 + 8) := hs_ixMul (dl d) 14 8
    rw [e2, nI_clamp (show dl d * 14 + 8 < 2 ^ 31 by omega)]
    refine And.intro (vp_in_nI (by omega) (by decide)) ?_
    rcases hs_and1 (LT (dl d * 14 + 8) >>> (nI q &&& 31)) with k | k
    · exact br_f (by rw [k]; decide) (H0 k)
    · exact br_t k (H1 (by rw [k]; decide) (by omega))
end
