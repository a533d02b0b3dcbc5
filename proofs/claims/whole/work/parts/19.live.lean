/-! the live objects: a mask on X's side, an array on Y's -/
section
variable {x_objectLimit x_stepLimit x_depthLimit x_pendingCount x_keptTokens x_keptLines x_lineCount x_codeCount x_cursor x_stop x_waitingCount x_openCount x_classCount x_callCount x_operandCount x_stepsTaken x_error x_raisedCode x_printCount x_lastPlace : Int32} {x_lastResult : Int64} {x_pending x_lineTable x_orders x_merging x_letterClass x_objectClass x_calls x_lastPrints : Nat → Int32} {x_code x_waiting x_globals x_entries x_attributes x_held x_operands : Nat → Int64}
variable {y_maxObjects y_maxSteps y_maxDepth y_kept y_end y_tokens y_pending y_lines y_classes y_prints y_place y_steps y_d y_valTop y_opTop y_opens y_pos y_tk y_tv y_stmt y_target y_err y_code y_outcome y_dry y_want y_starting y_ended y_bad y_hosted y_sawSuper : Int32} {y_result : Int64} {y_text y_numbers y_classOf y_alive y_orders y_lengths y_letters y_bases y_ops y_fLine y_fPos y_fStmt y_fTarget y_fMask y_fHome y_fOps y_fVals y_fNew y_out : Nat → Int32} {y_globals y_entries y_attrs y_vals y_locals y_fRecv : Nat → Int64}
/-- the object that a value is -/
def hs_ob (v : Int64) : Option Nat := if v >>> ((32 : Int32).toInt64 &&& 63) = 3 then some v.toInt32.toNatClampNeg else none
def hs_mk (m : Nat) (v : Int64) : Nat := match hs_ob v with
  | some o => m ||| 2 ^ o
  | none => m
theorem hs_obLt {v : Int64} (hv : hs_rv v) {o : Nat} (h : hs_ob v = some o) : o < 8 ∧ v.toInt32 = nI o ∧ v >>> ((32 : Int32).toInt64 &&& 63) = 3 ∧ ((v.toUInt64 >>> ((32 : Int32).toInt64.toUInt64 &&& Int64.toUInt64 63)).toInt64) = 3 := by
  obtain ⟨m, hm, rfl, h3⟩ := hv
  unfold hs_ob at h
  split at h
  · rename_i k
    cases h
    have k3 := (hs_yk3 hm).mp k
    obtain ⟨a, b⟩ := h3 k3
    rw [lN_i, b, nI_clamp (by omega)]
    refine ⟨a, rfl, k, ?_⟩
    rw [hs_xk hm, k3]; rfl
  · cases h
theorem hs_obN {v : Int64} (hv : hs_rv v) (h : hs_ob v = none) : ¬ v >>> ((32 : Int32).toInt64 &&& 63) = 3 ∧ ¬ ((v.toUInt64 >>> ((32 : Int32).toInt64.toUInt64 &&& Int64.toUInt64 63)).toInt64) = 3 := by
  obtain ⟨m, hm, rfl, h3⟩ := hv
  unfold hs_ob at h
  split at h
  · cases h
  · rename_i k
    refine ⟨k, fun e => k ?_⟩
    rw [hs_xk hm] at e
    rw [hs_yk hm]; exact e
theorem hs_nor (a b : Nat) : nI a ||| nI b = nI (a ||| b) := by
  apply Int32.toBitVec_inj.1
  show BitVec.ofNat 32 a ||| BitVec.ofNat 32 b = BitVec.ofNat 32 (a ||| b)
  apply BitVec.eq_of_getLsbD_eq
  intro i hi
  simp [BitVec.getLsbD_or, BitVec.getLsbD_ofNat, Nat.testBit_or, hi]
theorem hs_shl1 : ∀ o : Nat, o < 8 → (1 : Int32) <<< (nI o &&& 31) = nI (2 ^ o) := by
  intro o ho
  have := pk_shlN (n := 1) (nI o &&& 31) o (s_l o (by omega)) (by rw [Nat.one_mul]; exact Nat.pow_lt_pow_right (by decide) (by omega))
  rw [Nat.one_mul] at this
  exact this
theorem hs_mkLt {m : Nat} {v : Int64} (hv : hs_rv v) (h : m < 256) : hs_mk m v < 256 := by
  unfold hs_mk
  cases e : hs_ob v with
  | none => exact h
  | some o =>
    have := (hs_obLt hv e).1
    exact Nat.or_lt_two_pow (n := 8) h (Nat.pow_lt_pow_right (by decide) this)
theorem hs_xBit {v : Int64} (hv : hs_rv v) {m : Nat} {post : Int32 → Prop} (H : ∀ r, nI m ||| r = nI (hs_mk m v) → post r) : wpX_bitOf post v := by
  cases e : hs_ob v with
  | none =>
    refine br_f (hs_obN hv e).2 (H 0 ?_)
    unfold hs_mk
    rw [e]
    have := hs_nor m 0
    rw [Nat.or_zero] at this
    exact this
  | some o =>
    obtain ⟨a, b, c, d⟩ := hs_obLt hv e
    refine br_t d (H _ ?_)
    rw [b, hs_shl1 o a, hs_nor]
    unfold hs_mk
    rw [e]
def hs_mks (a : Nat → Int64) : Nat → Nat → Nat → Nat
  | 0, _, m => m
  | n + 1, i, m => hs_mks a n (i + 1) (hs_mk m (a i))
theorem hs_mksLt {a : Nat → Int64} : ∀ (n i m : Nat), (∀ j, i ≤ j → j < i + n → hs_rv (a j)) → m < 256 → hs_mks a n i m < 256
  | 0, _, _, _, h => h
  | n + 1, i, m, hv, h => hs_mksLt n (i + 1) _ (fun j j1 j2 => hv j (by omega) (by omega)) (hs_mkLt (hv i (by omega) (by omega)) h)
def hs_rd (a : Nat → Int64) : Nat → Nat → Nat → Nat
  | 0, _, m => m
  | n + 1, i, m => hs_rd a n (i + 1) (if m.testBit (i / 26) then hs_mk m (a i) else m)
def hs_rds (a : Nat → Int64) : Nat → Nat → Nat
  | 0, m => m
  | n + 1, m => hs_rds a n (hs_rd a 208 0 m)
theorem hs_rdLt {a : Nat → Int64} : ∀ (n i m : Nat), (∀ j, i ≤ j → j < i + n → hs_rv (a j)) → m < 256 → hs_rd a n i m < 256
  | 0, _, _, _, h => h
  | n + 1, i, m, hv, h => by
    refine hs_rdLt n (i + 1) _ (fun j j1 j2 => hv j (by omega) (by omega)) ?_
    split
    · exact hs_mkLt (hv i (by omega) (by omega)) h
    · exact h
theorem hs_bit {m k : Nat} (hm : m < 256) (hk : k < 8) : ((nI m >>> (nI k &&& 31)) &&& 1) = (if m.testBit k then 1 else 0) := by
  rw [pk_shrN (n := m) (by omega) _ k (s_l k (by omega)), pk_andN (n := m / 2 ^ k) (by have := Nat.div_le_self m (2 ^ k); omega) 1 (by decide)]
  rw [Nat.testBit_eq_decide_div_mod_eq]
  have := Nat.mod_two_eq_zero_or_one (m / 2 ^ k)
  rcases this with h | h
  · rw [h]; rfl
  · rw [h]; rfl
-- X
theorem hs_xL125 {at1 : Nat → Int64} (hv : ∀ j, j < 208 → hs_rv (at1 j)) {post : Int32 → Prop} {J : Int32 → Int32 → Prop} {x2 : Int32} : ∀ (n i m : Nat), i + n = 208 → m < 256 → J (nI (hs_rd at1 n i m)) (x2 + 1) → wX_liveObjects_125 post J x2 x_objectLimit x_stepLimit x_depthLimit x_pendingCount x_keptTokens x_keptLines x_lineCount x_codeCount x_cursor x_stop x_waitingCount x_openCount x_classCount x_callCount x_operandCount x_stepsTaken x_error x_raisedCode x_printCount x_lastResult x_lastPlace x_pending x_lineTable x_code x_waiting x_globals x_entries x_orders x_merging x_letterClass x_objectClass at1 x_calls x_held x_operands x_lastPrints (n + 1) (nI m) (nI i) := by
  intro n
  induction n with
  | zero =>
    intro i m hi hm H
    exact br_t (nI_le (a := 208) (by omega) (by omega)) (nm_e H)
  | succ n ih =>
    intro i m hi hm H
    refine br_f (nI_ge (b := 208) (by omega) (by decide)) (And.intro (by decide) ?_)
    have ed : nI i / 26 = nI (i / 26) := pk_div (d := 26) (by omega) (by decide) (by decide)
    rw [ed, hs_bit hm (by omega)]
    unfold hs_rd at H
    by_cases c : m.testBit (i / 26)
    · rw [if_pos c] at H
      rw [if_pos c]
      refine br_t rfl (And.intro (vp_in_nI (by omega) (by decide)) ?_)
      rw [nI_clamp (show i < 2 ^ 31 by omega)]
      exact hs_xBit (hv i (by omega)) (fun r hr => nm_r hr (nm_r (nI_1 i) (ih (i + 1) _ (by omega) (hs_mkLt (hv i (by omega)) hm) H)))
    · rw [if_neg c] at H
      rw [if_neg c]
      exact br_f (by decide) (nm_r (nI_1 i) (ih (i + 1) m (by omega) hm H))
theorem hs_xL117 {at1 : Nat → Int64} (hv : ∀ j, j < 208 → hs_rv (at1 j)) {post : Int32 → Prop} : ∀ (n i m : Nat), i + n = 8 → m < 256 → post (nI (hs_rds at1 n m)) → wX_liveObjects_117 post x_objectLimit x_stepLimit x_depthLimit x_pendingCount x_keptTokens x_keptLines x_lineCount x_codeCount x_cursor x_stop x_waitingCount x_openCount x_classCount x_callCount x_operandCount x_stepsTaken x_error x_raisedCode x_printCount x_lastResult x_lastPlace x_pending x_lineTable x_code x_waiting x_globals x_entries x_orders x_merging x_letterClass x_objectClass at1 x_calls x_held x_operands x_lastPrints (n + 1) (nI m) (nI i) := by
  intro n
  induction n with
  | zero =>
    intro i m hi hm H
    exact br_t (nI_le (a := 8) (by omega) (by omega)) H
  | succ n ih =>
    intro i m hi hm H
    refine br_f (nI_ge (b := 8) (by omega) (by decide)) ⟨209, hs_xL125 hv 208 0 m rfl hm ?_⟩
    rw [nI_1]
    exact ih (i + 1) _ (by omega) (hs_rdLt 208 0 m (fun j _ j2 => hv j (by omega)) hm) H
theorem hs_xL89 {at1 op : Nat → Int64} {on : Nat} (hon : on ≤ 280) (hv : ∀ j, j < 208 → hs_rv (at1 j)) (ho : ∀ j, j < on → hs_rv (op j)) {post : Int32 → Prop} : ∀ (n i m : Nat), i + n = on → m < 256 → post (nI (hs_rds at1 8 (hs_mks op n i m))) → wX_liveObjects_89 post x_objectLimit x_stepLimit x_depthLimit x_pendingCount x_keptTokens x_keptLines x_lineCount x_codeCount x_cursor x_stop x_waitingCount x_openCount x_classCount x_callCount (nI on) x_stepsTaken x_error x_raisedCode x_printCount x_lastResult x_lastPlace x_pending x_lineTable x_code x_waiting x_globals x_entries x_orders x_merging x_letterClass x_objectClass at1 x_calls x_held op x_lastPrints (n + 1) (nI m) (nI i) := by
  intro n
  induction n with
  | zero =>
    intro i m hi hm H
    exact br_t (nI_le (by omega) (by omega)) ⟨9, hs_xL117 hv 8 0 m rfl hm H⟩
  | succ n ih =>
    intro i m hi hm H
    refine br_f (nI_ge (by omega) (by omega)) (And.intro (vp_in_nI (by omega) (by decide)) ?_)
    rw [nI_clamp (show i < 2 ^ 31 by omega)]
    exact hs_xBit (ho i (by omega)) (fun r hr => nm_r hr (nm_r (nI_1 i) (ih (i + 1) _ (by omega) (hs_mkLt (ho i (by omega)) hm) H)))
theorem hs_xL58 {at1 op he : Nat → Int64} {on cl : Nat} (hcl : cl ≤ 7) (hon : on ≤ 280) (hv : ∀ j, j < 208 → hs_rv (at1 j)) (ho : ∀ j, j < on → hs_rv (op j)) (hh : ∀ j, j < cl * 27 → hs_rv (he j)) {post : Int32 → Prop} : ∀ (n i m : Nat), (i + n = cl * 27 ∨ (n = 0 ∧ cl * 27 ≤ i ∧ i < 1000)) → m < 256 → post (nI (hs_rds at1 8 (hs_mks op on 0 (hs_mks he n i m)))) → wX_liveObjects_58 post x_objectLimit x_stepLimit x_depthLimit x_pendingCount x_keptTokens x_keptLines x_lineCount x_codeCount x_cursor x_stop x_waitingCount x_openCount x_classCount (nI cl) (nI on) x_stepsTaken x_error x_raisedCode x_printCount x_lastResult x_lastPlace x_pending x_lineTable x_code x_waiting x_globals x_entries x_orders x_merging x_letterClass x_objectClass at1 x_calls he op x_lastPrints (n + 1) (nI m) (nI i) := by
  have ec : nI cl * 27 = nI (cl * 27) := pk_mul cl 27
  intro n
  induction n with
  | zero =>
    intro i m hi hm H
    refine br_t ?_ ⟨on + 1, hs_xL89 hon hv ho on 0 m (by omega) hm H⟩
    rw [ec]; exact nI_le (by omega) (by omega)
  | succ n ih =>
    intro i m hi hm H
    refine br_f ?_ (And.intro (vp_in_nI (by omega) (by decide)) ?_)
    · rw [ec]; exact nI_ge (by omega) (by omega)
    rw [nI_clamp (show i < 2 ^ 31 by omega)]
    exact hs_xBit (hh i (by omega)) (fun r hr => nm_r hr (nm_r (nI_1 i) (ih (i + 1) _ (by omega) (hs_mkLt (hh i (by omega)) hm) H)))
theorem hs_xL30 {at1 op he ex : Nat → Int64} {on cl : Nat} (hcl : cl ≤ 7) (hon : on ≤ 280) (hv : ∀ j, j < 208 → hs_rv (at1 j)) (ho : ∀ j, j < on → hs_rv (op j)) (hh : ∀ j, j < cl * 27 → hs_rv (he j)) (hx : ∀ j, j < 260 → hs_rv (ex j)) {post : Int32 → Prop} : ∀ (n i m : Nat), i + n = 260 → m < 256 → post (nI (hs_rds at1 8 (hs_mks op on 0 (hs_mks he (cl * 27 - 27) 27 (hs_mks ex n i m))))) → wX_liveObjects_30 post x_objectLimit x_stepLimit x_depthLimit x_pendingCount x_keptTokens x_keptLines x_lineCount x_codeCount x_cursor x_stop x_waitingCount x_openCount x_classCount (nI cl) (nI on) x_stepsTaken x_error x_raisedCode x_printCount x_lastResult x_lastPlace x_pending x_lineTable x_code x_waiting x_globals ex x_orders x_merging x_letterClass x_objectClass at1 x_calls he op x_lastPrints (n + 1) (nI m) (nI i) := by
  intro n
  induction n with
  | zero =>
    intro i m hi hm H
    refine br_t (nI_le (a := 260) (by omega) (by omega)) ⟨cl * 27 - 27 + 1, hs_xL58 hcl hon hv ho hh _ 27 m (by omega) hm H⟩
  | succ n ih =>
    intro i m hi hm H
    refine br_f (nI_ge (b := 260) (by omega) (by decide)) (And.intro (vp_in_nI (by omega) (by decide)) ?_)
    rw [nI_clamp (show i < 2 ^ 31 by omega)]
    exact hs_xBit (hx i (by omega)) (fun r hr => nm_r hr (nm_r (nI_1 i) (ih (i + 1) _ (by omega) (hs_mkLt (hx i (by omega)) hm) H)))
theorem hs_xL4 {at1 op he ex gl : Nat → Int64} {on cl : Nat} (hcl : cl ≤ 7) (hon : on ≤ 280) (hv : ∀ j, j < 208 → hs_rv (at1 j)) (ho : ∀ j, j < on → hs_rv (op j)) (hh : ∀ j, j < cl * 27 → hs_rv (he j)) (hx : ∀ j, j < 260 → hs_rv (ex j)) (hg : ∀ j, j < 26 → hs_rv (gl j)) {post : Int32 → Prop} : ∀ (n i m : Nat), i + n = 26 → m < 256 → post (nI (hs_rds at1 8 (hs_mks op on 0 (hs_mks he (cl * 27 - 27) 27 (hs_mks ex 260 0 (hs_mks gl n i m)))))) → wX_liveObjects_4 post x_objectLimit x_stepLimit x_depthLimit x_pendingCount x_keptTokens x_keptLines x_lineCount x_codeCount x_cursor x_stop x_waitingCount x_openCount x_classCount (nI cl) (nI on) x_stepsTaken x_error x_raisedCode x_printCount x_lastResult x_lastPlace x_pending x_lineTable x_code x_waiting gl ex x_orders x_merging x_letterClass x_objectClass at1 x_calls he op x_lastPrints (n + 1) (nI m) (nI i) := by
  intro n
  induction n with
  | zero =>
    intro i m hi hm H
    refine br_t (nI_le (a := 26) (by omega) (by omega)) ⟨261, hs_xL30 hcl hon hv ho hh hx 260 0 m rfl hm H⟩
  | succ n ih =>
    intro i m hi hm H
    refine br_f (nI_ge (b := 26) (by omega) (by decide)) (And.intro (vp_in_nI (by omega) (by decide)) ?_)
    rw [nI_clamp (show i < 2 ^ 31 by omega)]
    exact hs_xBit (hg i (by omega)) (fun r hr => nm_r hr (nm_r (nI_1 i) (ih (i + 1) _ (by omega) (hs_mkLt (hg i (by omega)) hm) H)))
/-- X's mask of the live objects -/
def hs_xm (gl ex he op at1 : Nat → Int64) (cl on : Nat) : Nat := hs_rds at1 8 (hs_mks op on 0 (hs_mks he (cl * 27 - 27) 27 (hs_mks ex 260 0 (hs_mks gl 26 0 0))))
theorem hs_xLive {at1 op he ex gl : Nat → Int64} {on cl : Nat} (hcl : cl ≤ 7) (hon : on ≤ 280) (hv : ∀ j, j < 208 → hs_rv (at1 j)) (ho : ∀ j, j < on → hs_rv (op j)) (hh : ∀ j, j < cl * 27 → hs_rv (he j)) (hx : ∀ j, j < 260 → hs_rv (ex j)) (hg : ∀ j, j < 26 → hs_rv (gl j)) {post : Int32 → Prop} (H : post (nI (hs_xm gl ex he op at1 cl on))) : wpX_liveObjects post (x_objectLimit, x_stepLimit, x_depthLimit, x_pendingCount, x_keptTokens, x_keptLines, x_lineCount, x_codeCount, x_cursor, x_stop, x_waitingCount, x_openCount, x_classCount, nI cl, nI on, x_stepsTaken, x_error, x_raisedCode, x_printCount, x_lastResult, x_lastPlace, x_pending, x_lineTable, x_code, x_waiting, gl, ex, x_orders, x_merging, x_letterClass, x_objectClass, at1, x_calls, he, op, x_lastPrints) :=
  ⟨27, hs_xL4 hcl hon hv ho hh hx hg 26 0 0 rfl (by decide) H⟩
def hs_cnt (m : Nat) : Nat → Nat → Nat
  | 0, _ => 0
  | n + 1, i => (if m.testBit i then 1 else 0) + hs_cnt m n (i + 1)
theorem hs_cntLe (m : Nat) : ∀ n i, hs_cnt m n i ≤ n
  | 0, _ => Nat.le_refl _
  | n + 1, i => by
    have := hs_cntLe m n (i + 1)
    unfold hs_cnt
    split <;> omega
theorem hs_xCount {m : Nat} (hm : m < 256) {post : Int32 → Prop} : ∀ (n i c : Nat), i + n = 8 → post (nI (c + hs_cnt m n i)) → wX_countBits_4 post (nI m) (n + 1) (nI c) (nI i) := by
  intro n
  induction n with
  | zero =>
    intro i c hi H
    exact br_t (nI_le (a := 8) (by omega) (by omega)) H
  | succ n ih =>
    intro i c hi H
    refine br_f (nI_ge (b := 8) (by omega) (by decide)) ?_
    rw [hs_bit hm (by omega)]
    unfold hs_cnt at H
    by_cases t : m.testBit i
    · rw [if_pos t] at H ⊢
      refine nm_r (nI_1 c) (nm_r (nI_1 i) (ih (i + 1) (c + 1) (by omega) ?_))
      rw [Nat.add_assoc]; exact H
    · rw [if_neg t] at H ⊢
      refine nm_r (Int32.add_zero _) (nm_r (nI_1 i) (ih (i + 1) c (by omega) ?_))
      rw [Nat.zero_add] at H; exact H
theorem hs_xCountBits {m : Nat} (hm : m < 256) {post : Int32 → Prop} (H : post (nI (hs_cnt m 8 0))) : wpX_countBits post (nI m) := by
  refine ⟨9, hs_xCount hm 8 0 0 rfl ?_⟩
  rw [Nat.zero_add]; exact H
theorem hs_xFree {m : Nat} (hm : m < 256) {post : Int32 → Prop} : ∀ (n i : Nat), i + n = 8 → (∃ o, i ≤ o ∧ o < 8 ∧ m.testBit o = false ∧ (∀ j, i ≤ j → j < o → m.testBit j = true) ∧ post (nI o)) → wX_freeObject_2 post (nI m) (n + 1) (nI i) := by
  intro n
  induction n with
  | zero => intro i hi ⟨o, a, b, _⟩; omega
  | succ n ih =>
    intro i hi ⟨o, a, b, c, d, H⟩
    refine br_f (nI_ge (b := 8) (by omega) (by decide)) ?_
    rw [hs_bit hm (by omega)]
    by_cases e : i = o
    · subst e
      rw [c]
      exact br_t rfl H
    · rw [d i (Nat.le_refl _) (by omega)]
      exact br_f (by decide) (nm_r (nI_1 i) (ih (i + 1) (by omega) ⟨o, by omega, b, c, fun j j1 j2 => d j (by omega) j2, H⟩))
end
