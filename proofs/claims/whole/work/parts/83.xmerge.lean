/-! the order of a sort, on the component's side -/
section
variable {x_objectLimit x_stepLimit x_depthLimit x_pendingCount x_keptTokens x_keptLines x_lineCount x_codeCount x_cursor x_stop x_waitingCount x_openCount x_classCount x_callCount x_operandCount x_stepsTaken x_error x_raisedCode x_printCount x_lastPlace : Int32} {x_lastResult : Int64} {x_pending x_lineTable x_orders x_merging x_letterClass x_objectClass x_calls x_lastPrints : Nat → Int32} {x_code x_waiting x_globals x_entries x_attributes x_held x_operands : Nat → Int64}
def hs_MR (mg : Nat → Int32) (L : Nat → List Nat) : Prop := ∀ i, i < 3 → (L i).length ≤ 10 ∧ (∀ x, x ∈ L i → x < 10) ∧ ∀ k, k < 12 → mg (i * 12 + k) = hs_gi (L i) k
def hs_L3 (L : Nat → List Nat) : List (List Nat) := [L 0, L 1, L 2]
def hs_bf (mg : Nat → Int32) (x : Int32) : Nat → Nat → Bool
  | 0, _ => false
  | n + 1, at_ => decide (at_ % 12 ≠ 0 ∧ mg at_ = x) || hs_bf mg x n (at_ + 1)
theorem hs_bfT {mg : Nat → Int32} {x : Int32} : ∀ (n at_ : Nat), hs_bf mg x n at_ = true ↔ ∃ j, at_ ≤ j ∧ j < at_ + n ∧ j % 12 ≠ 0 ∧ mg j = x
  | 0, at_ => ⟨fun z => (by cases z), fun ⟨j, h1, h2, _⟩ => by omega⟩
  | n + 1, at_ => by
    show (decide (at_ % 12 ≠ 0 ∧ mg at_ = x) || hs_bf mg x n (at_ + 1)) = true ↔ _
    rw [Bool.or_eq_true, decide_eq_true_eq, hs_bfT n (at_ + 1)]
    constructor
    · rintro (z | ⟨j, h1, h2, h3, h4⟩)
      · exact ⟨at_, Nat.le_refl _, by omega, z.1, z.2⟩
      · exact ⟨j, by omega, by omega, h3, h4⟩
    · rintro ⟨j, h1, h2, h3, h4⟩
      by_cases e : j = at_
      · subst e; exact Or.inl ⟨h3, h4⟩
      · exact Or.inr ⟨j, by omega, by omega, h3, h4⟩
theorem hs_giE {l : List Nat} {k c : Nat} (hl : ∀ x, x ∈ l → x < 10) (hc : c < 10) : hs_gi l k = nI c ↔ l[k]? = some c := by
  unfold hs_gi
  cases e : l[k]? with
  | none =>
    constructor
    · intro z
      exact absurd z.symm (hs_neM1 (by omega))
    · intro z; cases z
  | some m =>
    have hm : m < 10 := hl m (List.mem_of_getElem? e)
    show nI m = nI c ↔ _
    rw [nI_eq (by omega) (by omega)]
    exact ⟨fun z => by rw [z], fun z => Option.some.inj z⟩
theorem hs_tailM {l : List Nat} {c : Nat} : c ∈ l.tail ↔ ∃ k, 1 ≤ k ∧ l[k]? = some c := by
  cases l with
  | nil => exact ⟨fun z => (by cases z), fun ⟨k, _, z⟩ => by cases z⟩
  | cons x r =>
    show c ∈ r ↔ _
    rw [List.mem_iff_getElem?]
    constructor
    · rintro ⟨k, e⟩
      exact ⟨k + 1, by omega, e⟩
    · rintro ⟨k, h1, e⟩
      obtain ⟨k', rfl⟩ : ∃ k', k = k' + 1 := ⟨k - 1, by omega⟩
      exact ⟨k', e⟩
theorem hs_bfB {mg : Nat → Int32} {L : Nat → List Nat} {c : Nat} (R : hs_MR mg L) (hc : c < 10) : hs_bf mg (nI c) 36 0 = hs_beh (hs_L3 L) c := by
  rw [Bool.eq_iff_iff, hs_bfT]
  unfold hs_beh hs_L3
  rw [List.any_eq_true]
  constructor
  · rintro ⟨j, h1, h2, h3, h4⟩
    obtain ⟨i, k, hk, e⟩ : ∃ i k, k < 12 ∧ j = i * 12 + k := ⟨j / 12, j % 12, Nat.mod_lt _ (by decide), by omega⟩
    subst e
    have hi : i < 3 := by omega
    obtain ⟨r1, r2, r3⟩ := R i hi
    rw [r3 k hk] at h4
    have h5 := (hs_giE r2 hc).mp h4
    have h6 : c ∈ (L i).tail := hs_tailM.mpr ⟨k, by omega, h5⟩
    refine ⟨L i, ?_, by simpa using h6⟩
    have : i = 0 ∨ i = 1 ∨ i = 2 := by omega
    rcases this with rfl | rfl | rfl <;> simp
  · rintro ⟨l, hl, h6⟩
    have h6' : c ∈ l.tail := by simpa using h6
    obtain ⟨i, hi, e⟩ : ∃ i, i < 3 ∧ l = L i := by
      simp only [List.mem_cons, List.not_mem_nil, or_false] at hl
      rcases hl with e | e | e
      · exact ⟨0, by omega, e⟩
      · exact ⟨1, by omega, e⟩
      · exact ⟨2, by omega, e⟩
    subst e
    obtain ⟨r1, r2, r3⟩ := R i hi
    obtain ⟨k, k1, k2⟩ := hs_tailM.mp h6'
    have hk : k < (L i).length := by
      rcases Nat.lt_or_ge k (L i).length with z | z
      · exact z
      · rw [List.getElem?_eq_none z] at k2; cases k2
    exact ⟨i * 12 + k, by omega, by omega, by omega, by rw [r3 k (by omega)]; exact (hs_giE r2 hc).mpr k2⟩
theorem hs_bOr (c : Bool) : hs_b c ||| 0 = hs_b (c || false) ∧ hs_b c ||| 1 = hs_b (c || true) := by cases c <;> decide
theorem hs_xNM25 {mg : Nat → Int32} {x1 x2 x3 : Int32} {J : Int32 → Int32 → Prop} {post : Int32 → Prop} : ∀ (n at_ : Nat) (acc : Bool), at_ + n = 36 → ((x3 < 0 → wX_nextMerged_78 post J x1 x2 x3 x_objectLimit x_stepLimit x_depthLimit x_pendingCount x_keptTokens x_keptLines x_lineCount x_codeCount x_cursor x_stop x_waitingCount x_openCount x_classCount x_callCount x_operandCount x_stepsTaken x_error x_raisedCode x_printCount x_lastResult x_lastPlace x_pending x_lineTable x_code x_waiting x_globals x_entries x_orders mg x_letterClass x_objectClass x_attributes x_calls x_held x_operands x_lastPrints) ∧ (¬ x3 < 0 → ((hs_b (acc || hs_bf mg x3 n at_) = 0 → post x3) ∧ (¬ hs_b (acc || hs_bf mg x3 n at_) = 0 → wX_nextMerged_78 post J x1 x2 x3 x_objectLimit x_stepLimit x_depthLimit x_pendingCount x_keptTokens x_keptLines x_lineCount x_codeCount x_cursor x_stop x_waitingCount x_openCount x_classCount x_callCount x_operandCount x_stepsTaken x_error x_raisedCode x_printCount x_lastResult x_lastPlace x_pending x_lineTable x_code x_waiting x_globals x_entries x_orders mg x_letterClass x_objectClass x_attributes x_calls x_held x_operands x_lastPrints)))) → wX_nextMerged_25 post J x1 x2 x3 x_objectLimit x_stepLimit x_depthLimit x_pendingCount x_keptTokens x_keptLines x_lineCount x_codeCount x_cursor x_stop x_waitingCount x_openCount x_classCount x_callCount x_operandCount x_stepsTaken x_error x_raisedCode x_printCount x_lastResult x_lastPlace x_pending x_lineTable x_code x_waiting x_globals x_entries x_orders mg x_letterClass x_objectClass x_attributes x_calls x_held x_operands x_lastPrints (n + 1) (hs_b acc) (nI at_) := by
  intro n
  induction n with
  | zero =>
    intro at_ acc h1 H
    have e : hs_bf mg x3 0 at_ = false := rfl
    rw [e, Bool.or_false] at H
    exact br_t (nI_le (a := 36) (by omega) (by omega)) H
  | succ n ih =>
    intro at_ acc h1 H
    have e : hs_bf mg x3 (n + 1) at_ = (decide (at_ % 12 ≠ 0 ∧ mg at_ = x3) || hs_bf mg x3 n (at_ + 1)) := rfl
    rw [e, ← Bool.or_assoc] at H
    have em : nI at_ - nI at_ / 12 * 12 = nI (at_ % 12) := pk_rem (d := 12) (by omega) (by omega) (by omega)
    refine br_f (nI_ge (b := 36) (by omega) (by decide)) (And.intro (by decide) ?_)
    rw [em, nI_clamp (show at_ < 2 ^ 31 by omega)]
    refine pk_eq (at_ % 12) 0 (fun z => ?_) (fun z => And.intro (vp_in_nI (by omega) (by decide)) (br_c (fun y => ?_) (fun y => ?_)))
    · rw [decide_eq_false (fun w => w.1 z)] at H
      exact nm_r (hs_bOr acc).1 (nm_r (nI_1 at_) (ih (at_ + 1) _ (by omega) H))
    · rw [decide_eq_true ⟨z, y⟩] at H
      exact nm_r (hs_bOr acc).2 (nm_r (nI_1 at_) (ih (at_ + 1) _ (by omega) H))
    · rw [decide_eq_false (fun w => y w.2)] at H
      exact nm_r (hs_bOr acc).1 (nm_r (nI_1 at_) (ih (at_ + 1) _ (by omega) H))
def hs_nm (B : Nat → Bool) (L : Nat → List Nat) : Nat → Nat → Int32 → Int32
  | 0, _, x => x
  | n + 1, i, x => match L i with
    | [] => hs_nm B L n (i + 1) x
    | c :: _ => if B c = true then hs_nm B L n (i + 1) (-2) else nI c
theorem hs_xNM4 {mg : Nat → Int32} {L : Nat → List Nat} (R : hs_MR mg L) {post : Int32 → Prop} : ∀ (n i : Nat) (x : Int32), i + n = 3 → post (hs_nm (hs_beh (hs_L3 L)) L n i x) → wX_nextMerged_4 post x_objectLimit x_stepLimit x_depthLimit x_pendingCount x_keptTokens x_keptLines x_lineCount x_codeCount x_cursor x_stop x_waitingCount x_openCount x_classCount x_callCount x_operandCount x_stepsTaken x_error x_raisedCode x_printCount x_lastResult x_lastPlace x_pending x_lineTable x_code x_waiting x_globals x_entries x_orders mg x_letterClass x_objectClass x_attributes x_calls x_held x_operands x_lastPrints (n + 1) x (nI i) := by
  intro n
  induction n with
  | zero => intro i x h1 H; exact br_t (nI_le (a := 3) (by omega) (by omega)) H
  | succ n ih =>
    intro i x h1 H
    obtain ⟨r1, r2, r3⟩ := R i (by omega)
    have e12 : nI i * 12 = nI (i * 12) := pk_mul i 12
    refine br_f (nI_ge (b := 3) (by omega) (by decide)) ?_
    rw [e12, nI_clamp (show i * 12 < 2 ^ 31 by omega)]
    refine And.intro (vp_in_nI (by omega) (by decide)) (nm_r (r3 0 (by omega)) ⟨37, hs_xNM25 36 0 false (by omega) ?_⟩)
    unfold hs_nm at H
    cases e : L i with
    | nil =>
      rw [e] at H
      refine br_t (show hs_gi [] 0 < 0 from by decide) ?_
      unfold wX_nextMerged_78
      exact br_t (show hs_gi [] 0 < 0 from by decide) (nm_r (nI_1 i) (ih (i + 1) x (by omega) H))
    | cons c r =>
      rw [e] at H r2
      have c10 : c < 10 := r2 c (List.mem_cons_self ..)
      have eg : hs_gi (c :: r) 0 = nI c := rfl
      have H' : post (if hs_beh (hs_L3 L) c = true then hs_nm (hs_beh (hs_L3 L)) L n (i + 1) (-2) else nI c) := H
      rw [eg, Bool.false_or, hs_bfB R c10]
      refine br_f (nI_pos (by omega)) ?_
      cases q : hs_beh (hs_L3 L) c with
      | false =>
        rw [q, if_neg (by decide)] at H'
        exact br_t (by decide) H'
      | true =>
        rw [q, if_pos rfl] at H'
        refine br_f (by decide) ?_
        unfold wX_nextMerged_78
        exact br_f (nI_pos (by omega)) (nm_r (nI_1 i) (ih (i + 1) (-2) (by omega) H'))
theorem hs_nmP {B : Nat → Bool} {L : Nat → List Nat} : hs_nm B L 3 0 (-1) = match hs_pick B (hs_L3 L) with | some c => nI c | none => if (hs_L3 L).all (fun l => l.isEmpty) = true then -1 else -2 := by
  unfold hs_L3
  have s : ∀ (n i : Nat) (x : Int32), hs_nm B L (n + 1) i x = match L i with | [] => hs_nm B L n (i + 1) x | c :: _ => if B c = true then hs_nm B L n (i + 1) (-2) else nI c := fun _ _ _ => rfl
  have z : ∀ (i : Nat) (x : Int32), hs_nm B L 0 i x = x := fun _ _ => rfl
  rw [s, s, s]
  cases e0 : L 0 with
  | nil =>
    cases e1 : L 1 with
    | nil =>
      cases e2 : L 2 with
      | nil => rfl
      | cons c2 r2 =>
        show (if B c2 = true then hs_nm B L 0 _ (-2) else nI c2) = match (if B c2 = true then none else some c2) with | some c => nI c | none => _
        split
        · rw [z]; rfl
        · rfl
    | cons c1 r1 =>
      show (if B c1 = true then (match L 2 with | [] => hs_nm B L 0 _ (-2) | c :: _ => if B c = true then hs_nm B L 0 _ (-2) else nI c) else nI c1) = match (if B c1 = true then hs_pick B [L 2] else some c1) with | some c => nI c | none => _
      split
      · cases e2 : L 2 with
        | nil => rw [z]; rfl
        | cons c2 r2 =>
          show (if B c2 = true then hs_nm B L 0 _ (-2) else nI c2) = match (if B c2 = true then none else some c2) with | some c => nI c | none => _
          split
          · rw [z]; rfl
          · rfl
      · rfl
  | cons c0 r0 =>
    show (if B c0 = true then (match L 1 with | [] => (match L 2 with | [] => hs_nm B L 0 _ (-2) | c :: _ => if B c = true then hs_nm B L 0 _ (-2) else nI c) | c1 :: _ => if B c1 = true then (match L 2 with | [] => hs_nm B L 0 _ (-2) | c :: _ => if B c = true then hs_nm B L 0 _ (-2) else nI c) else nI c1) else nI c0) = match (if B c0 = true then hs_pick B [L 1, L 2] else some c0) with | some c => nI c | none => _
    split
    · cases e1 : L 1 with
      | nil =>
        cases e2 : L 2 with
        | nil => show hs_nm B L 0 _ (-2) = _; rw [z]; rfl
        | cons c2 r2 =>
          show (if B c2 = true then hs_nm B L 0 _ (-2) else nI c2) = match (if B c2 = true then none else some c2) with | some c => nI c | none => _
          split
          · rw [z]; rfl
          · rfl
      | cons c1 r1 =>
        show (if B c1 = true then (match L 2 with | [] => hs_nm B L 0 _ (-2) | c :: _ => if B c = true then hs_nm B L 0 _ (-2) else nI c) else nI c1) = match (if B c1 = true then hs_pick B [L 2] else some c1) with | some c => nI c | none => _
        split
        · cases e2 : L 2 with
          | nil => show hs_nm B L 0 _ (-2) = _; rw [z]; rfl
          | cons c2 r2 =>
            show (if B c2 = true then hs_nm B L 0 _ (-2) else nI c2) = match (if B c2 = true then none else some c2) with | some c => nI c | none => _
            split
            · rw [z]; rfl
            · rfl
        · rfl
    · rfl
/-- a row moved up by one -/
def hs_up1 (mg : Nat → Int32) (R : Nat) : Nat → Int32 := fun j => if R ≤ j ∧ j < R + 11 then mg (j + 1) else if j = R + 11 then -1 else mg j
theorem hs_xSt25 {mg : Nat → Int32} {x1 : Int32} {i : Nat} (hi : i < 3) {post : SX → Prop} {J : Int32 → (Nat → Int32) → (Nat → Int32) → (Nat → Int64) → (Nat → Int64) → (Nat → Int64) → (Nat → Int64) → (Nat → Int32) → (Nat → Int32) → (Nat → Int32) → (Nat → Int32) → (Nat → Int64) → (Nat → Int32) → (Nat → Int64) → (Nat → Int64) → (Nat → Int32) → Prop} (H : ∀ m', (∀ j, m' j = hs_up1 mg (i * 12) j) → J (nI (i + 1)) x_pending x_lineTable x_code x_waiting x_globals x_entries x_orders m' x_letterClass x_objectClass x_attributes x_calls x_held x_operands x_lastPrints) :
    ∀ (n k : Nat) (m' : Nat → Int32), k + n = 11 → (∀ j, m' j = if i * 12 ≤ j ∧ j < i * 12 + k then mg (j + 1) else mg j) → wX_strike_25 post J x1 (nI i) (nI (i * 12)) x_objectLimit x_stepLimit x_depthLimit x_pendingCount x_keptTokens x_keptLines x_lineCount x_codeCount x_cursor x_stop x_waitingCount x_openCount x_classCount x_callCount x_operandCount x_stepsTaken x_error x_raisedCode x_printCount x_lastResult x_lastPlace (n + 1) (nI k) x_pending x_lineTable x_code x_waiting x_globals x_entries x_orders m' x_letterClass x_objectClass x_attributes x_calls x_held x_operands x_lastPrints := by
  intro n
  induction n with
  | zero =>
    intro k m' hk hm
    have ea : nI (i * 12) + 12 - 1 = nI (i * 12 + 11) := by
      rw [show nI (i * 12) + 12 = nI (i * 12 + 11 + 1) from nI_add _ 12]; exact nI_pred _
    refine br_t (nI_le (a := 11) (by omega) (by omega)) ?_
    rw [ea, nI_clamp (show i * 12 + 11 < 2 ^ 31 by omega)]
    refine And.intro (vp_in_nI (by omega) (by decide)) (nm_e (nm_r (nI_1 i) (H _ (fun j => ?_))))
    unfold hs_up1
    by_cases z : j = i * 12 + 11
    · rw [z, pk_us, if_neg (by omega), if_pos rfl]
    · rw [pk_un z, hm j]
      by_cases y : i * 12 ≤ j ∧ j < i * 12 + 11
      · rw [if_pos (by omega), if_pos y]
      · rw [if_neg (by omega), if_neg y, if_neg z]
  | succ n ih =>
    intro k m' hk hm
    have e1 : nI (i * 12) + nI k = nI (i * 12 + k) := nI_add _ _
    refine br_f (nI_ge (b := 11) (by omega) (by decide)) ?_
    rw [e1, nI_1, nI_clamp (show i * 12 + k < 2 ^ 31 by omega), nI_clamp (show i * 12 + k + 1 < 2 ^ 31 by omega)]
    refine And.intro (vp_in_nI (by omega) (by decide)) (And.intro (vp_in_nI (by omega) (by decide)) (nm_e (nm_r (nI_1 k) (ih (k + 1) _ (by omega) (fun j => ?_)))))
    by_cases z : j = i * 12 + k
    · rw [z, pk_us, hm (i * 12 + k + 1), if_neg (by omega), if_pos (by omega)]
    · rw [pk_un z, hm j]
      by_cases y : i * 12 ≤ j ∧ j < i * 12 + k
      · rw [if_pos y, if_pos (by omega)]
      · rw [if_neg y, if_neg (by omega)]
theorem hs_giT {l : List Nat} {k : Nat} : hs_gi l.tail k = hs_gi l (k + 1) := by
  cases l with
  | nil => rfl
  | cons x r => rfl
/-- the lists without a front -/
def hs_sk (x : Int32) (l : List Nat) : List Nat := if hs_gi l 0 = x then l.tail else l
theorem hs_xStr {mg : Nat → Int32} {L : Nat → List Nat} {x1 : Int32} (R : hs_MR mg L) {post : SX → Prop} (H : ∀ m', hs_MR m' (fun i => hs_sk x1 (L i)) → post (x_objectLimit, x_stepLimit, x_depthLimit, x_pendingCount, x_keptTokens, x_keptLines, x_lineCount, x_codeCount, x_cursor, x_stop, x_waitingCount, x_openCount, x_classCount, x_callCount, x_operandCount, x_stepsTaken, x_error, x_raisedCode, x_printCount, x_lastResult, x_lastPlace, x_pending, x_lineTable, x_code, x_waiting, x_globals, x_entries, x_orders, m', x_letterClass, x_objectClass, x_attributes, x_calls, x_held, x_operands, x_lastPrints)) :
    ∀ (n i : Nat) (m' : Nat → Int32), i + n = 3 → hs_MR m' (fun j => if j < i then hs_sk x1 (L j) else L j) → wX_strike_2 post x1 x_objectLimit x_stepLimit x_depthLimit x_pendingCount x_keptTokens x_keptLines x_lineCount x_codeCount x_cursor x_stop x_waitingCount x_openCount x_classCount x_callCount x_operandCount x_stepsTaken x_error x_raisedCode x_printCount x_lastResult x_lastPlace (n + 1) (nI i) x_pending x_lineTable x_code x_waiting x_globals x_entries x_orders m' x_letterClass x_objectClass x_attributes x_calls x_held x_operands x_lastPrints := by
  intro n
  induction n with
  | zero =>
    intro i m' hi hm
    refine br_t (nI_le (a := 3) (by omega) (by omega)) (H m' (fun j hj => ?_))
    have r := hm j hj
    dsimp only at r
    rw [if_pos (by omega)] at r
    exact r
  | succ n ih =>
    intro i m' hi hm
    have e12 : nI i * 12 = nI (i * 12) := pk_mul i 12
    have ri := hm i (by omega)
    dsimp only at ri
    rw [if_neg (by omega)] at ri
    obtain ⟨r1, r2, r3⟩ := ri
    have r0 : m' (i * 12) = hs_gi (L i) 0 := r3 0 (by omega)
    have oth : ∀ m2 : Nat → Int32, (∀ j, (j < i * 12 ∨ i * 12 + 12 ≤ j) → m2 j = m' j) → (hs_sk x1 (L i)).length ≤ 10 ∧ (∀ x, x ∈ hs_sk x1 (L i) → x < 10) ∧ (∀ k, k < 12 → m2 (i * 12 + k) = hs_gi (hs_sk x1 (L i)) k) → hs_MR m2 (fun j => if j < i + 1 then hs_sk x1 (L j) else L j) := by
      intro m2 h1 h2 j hj
      by_cases z : j = i
      · subst z
        dsimp only
        rw [if_pos (by omega)]
        exact h2
      · have r := hm j hj
        dsimp only at r
        dsimp only
        have er : (if j < i + 1 then hs_sk x1 (L j) else L j) = (if j < i then hs_sk x1 (L j) else L j) := by
          by_cases y : j < i
          · rw [if_pos y, if_pos (by omega)]
          · rw [if_neg y, if_neg (by omega)]
        rw [er]
        refine ⟨r.1, r.2.1, fun k hk => ?_⟩
        rw [h1 _ (by omega)]
        exact r.2.2 k hk
    refine br_f (nI_ge (b := 3) (by omega) (by decide)) (nm_r e12 ?_)
    rw [nI_clamp (show i * 12 < 2 ^ 31 by omega), r0]
    refine And.intro (vp_in_nI (by omega) (by decide)) (br_c (fun y => ⟨12, hs_xSt25 (mg := m') (by omega) (fun m2 h2 => ?_) 11 0 m' (by omega) (fun j => by rw [if_neg (by omega)])⟩) (fun y => ?_))
    · refine ih (i + 1) m2 (by omega) (oth m2 (fun j hj => ?_) ?_)
      · rw [h2 j]; unfold hs_up1
        rw [if_neg (by omega), if_neg (by omega)]
      · unfold hs_sk
        rw [if_pos y]
        refine ⟨by rw [List.length_tail]; omega, fun x hx => r2 x (List.mem_of_mem_tail hx), fun k hk => ?_⟩
        rw [h2 (i * 12 + k), hs_giT]
        unfold hs_up1
        by_cases z : k < 11
        · rw [if_pos (by omega), show i * 12 + k + 1 = i * 12 + (k + 1) by omega]
          exact r3 (k + 1) (by omega)
        · rw [if_neg (by omega), if_pos (by omega), hs_giN (by omega)]
    · refine nm_r (nI_1 i) (ih (i + 1) m' (by omega) (oth m' (fun _ _ => rfl) ?_))
      unfold hs_sk
      rw [if_neg y]
      exact ⟨r1, r2, r3⟩
theorem hs_xStrike {mg : Nat → Int32} {L : Nat → List Nat} {x1 : Int32} (R : hs_MR mg L) {post : SX → Prop} (H : ∀ m', hs_MR m' (fun i => hs_sk x1 (L i)) → post (x_objectLimit, x_stepLimit, x_depthLimit, x_pendingCount, x_keptTokens, x_keptLines, x_lineCount, x_codeCount, x_cursor, x_stop, x_waitingCount, x_openCount, x_classCount, x_callCount, x_operandCount, x_stepsTaken, x_error, x_raisedCode, x_printCount, x_lastResult, x_lastPlace, x_pending, x_lineTable, x_code, x_waiting, x_globals, x_entries, x_orders, m', x_letterClass, x_objectClass, x_attributes, x_calls, x_held, x_operands, x_lastPrints)) : wpX_strike post (x_objectLimit, x_stepLimit, x_depthLimit, x_pendingCount, x_keptTokens, x_keptLines, x_lineCount, x_codeCount, x_cursor, x_stop, x_waitingCount, x_openCount, x_classCount, x_callCount, x_operandCount, x_stepsTaken, x_error, x_raisedCode, x_printCount, x_lastResult, x_lastPlace, x_pending, x_lineTable, x_code, x_waiting, x_globals, x_entries, x_orders, mg, x_letterClass, x_objectClass, x_attributes, x_calls, x_held, x_operands, x_lastPrints) x1 :=
  ⟨4, hs_xStr R H 3 0 mg (by omega) (fun j hj => by dsimp only; rw [if_neg (by omega)]; exact R j hj)⟩
end
