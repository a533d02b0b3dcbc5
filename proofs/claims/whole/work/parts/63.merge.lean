/-! the order of a sort: the merge of three lists -/
section
def hs_fl (t : Nat) (l : List Nat) : List Nat := l.filter (fun x => !t.testBit x)
def hs_beh (L : List (List Nat)) (c : Nat) : Bool := L.any (fun l => l.tail.contains c)
def hs_pick (B : Nat → Bool) : List (List Nat) → Option Nat
  | [] => none
  | [] :: A => hs_pick B A
  | (c :: _) :: A => if B c = true then hs_pick B A else some c
def hs_strk (c : Nat) : List Nat → List Nat
  | [] => []
  | x :: r => if x = c then r else x :: r
def hs_mg (L : List (List Nat)) : Nat → Nat → Option (List Nat)
  | 0, _ => some []
  | n + 1, t => match hs_pick (hs_beh (L.map (hs_fl t))) (L.map (hs_fl t)) with
    | some c => (hs_mg L n (t ||| 2 ^ c)).map (fun l => c :: l)
    | none => if (L.map (hs_fl t)).all (fun l => l.isEmpty) = true then some [] else none
def hs_un (cn t : Nat) : Nat := ((List.range cn).filter (fun x => !t.testBit x)).length
theorem hs_tbOr {t c x : Nat} : (t ||| 2 ^ c).testBit x = (t.testBit x || decide (c = x)) := by
  rw [Nat.testBit_or, Nat.testBit_two_pow]
theorem hs_filLt {p q : Nat → Bool} {c : Nat} (hpq : ∀ x, q x = true → p x = true) (hp : p c = true) (hq : q c = false) : ∀ {l : List Nat}, c ∈ l → (l.filter q).length < (l.filter p).length
  | [], h => by cases h
  | x :: r, h => by
    have le : (r.filter q).length ≤ (r.filter p).length := by
      clear h
      induction r with
      | nil => exact Nat.le_refl _
      | cons y r ih =>
        rw [List.filter_cons, List.filter_cons]
        cases e : q y with
        | true => rw [if_pos rfl, if_pos (hpq y e)]; exact Nat.succ_le_succ ih
        | false =>
          rw [if_neg (by decide)]
          split
          · exact Nat.le_succ_of_le ih
          · exact ih
    rw [List.filter_cons, List.filter_cons]
    by_cases e : x = c
    · subst e
      rw [hq, if_neg (by decide), if_pos hp]
      exact Nat.lt_succ_of_le le
    · have hr : c ∈ r := by
        cases h with
        | head => exact absurd rfl e
        | tail _ h => exact h
      have ih := hs_filLt hpq hp hq hr
      cases e2 : q x with
      | true => rw [if_pos rfl, if_pos (hpq x e2)]; exact Nat.succ_lt_succ ih
      | false =>
        rw [if_neg (by decide)]
        split
        · exact Nat.lt_succ_of_lt ih
        · exact ih
theorem hs_unLt {cn t c : Nat} (hc : c < cn) (ht : t.testBit c = false) : hs_un cn (t ||| 2 ^ c) < hs_un cn t := by
  refine hs_filLt (c := c) (fun x hx => ?_) ?_ ?_ (List.mem_range.mpr hc)
  · show (!t.testBit x) = true
    have hx' : (!(t ||| 2 ^ c).testBit x) = true := hx
    rw [hs_tbOr] at hx'
    cases e : t.testBit x with
    | true => rw [e, Bool.true_or] at hx'; cases hx'
    | false => rfl
  · show (!t.testBit c) = true
    rw [ht]; rfl
  · show (!(t ||| 2 ^ c).testBit c) = false
    rw [hs_tbOr, decide_eq_true rfl, Bool.or_true]; rfl
theorem hs_unLe {cn t : Nat} : hs_un cn t ≤ cn := by
  unfold hs_un
  have := List.length_filter_le (fun x => !t.testBit x) (List.range cn)
  rw [List.length_range] at this
  exact this
theorem hs_pickM {B : Nat → Bool} {c : Nat} : ∀ {A : List (List Nat)}, hs_pick B A = some c → B c = false ∧ ∃ l r, l ∈ A ∧ l = c :: r
  | [], e => by cases e
  | [] :: A, e => by
    obtain ⟨h1, l, r, h2, h3⟩ := hs_pickM (A := A) e
    exact ⟨h1, l, r, List.mem_cons_of_mem _ h2, h3⟩
  | (x :: r) :: A, e => by
    unfold hs_pick at e
    split at e
    · obtain ⟨h1, l, r, h2, h3⟩ := hs_pickM (A := A) e
      exact ⟨h1, l, r, List.mem_cons_of_mem _ h2, h3⟩
    · rename_i q
      cases e
      exact ⟨by simpa using q, _, r, List.mem_cons_self .., rfl⟩
theorem hs_flM {t x : Nat} {l : List Nat} : x ∈ hs_fl t l ↔ x ∈ l ∧ t.testBit x = false := by
  unfold hs_fl
  rw [List.mem_filter]
  cases t.testBit x <;> simp
theorem hs_pickT {L : List (List Nat)} {t c cn : Nat} (hL : ∀ l, l ∈ L → ∀ x, x ∈ l → x < cn) (e : hs_pick (hs_beh (L.map (hs_fl t))) (L.map (hs_fl t)) = some c) : c < cn ∧ t.testBit c = false ∧ ∃ l, l ∈ L ∧ c ∈ l := by
  obtain ⟨_, l, r, h2, h3⟩ := hs_pickM e
  obtain ⟨l0, h4, h5⟩ := List.mem_map.mp h2
  have h6 : c ∈ hs_fl t l0 := by rw [h5, h3]; exact List.mem_cons_self ..
  have h7 := hs_flM.mp h6
  exact ⟨hL l0 h4 c h7.1, h7.2, l0, h4, h7.1⟩
theorem hs_mgF {L : List (List Nat)} {cn : Nat} (hL : ∀ l, l ∈ L → ∀ x, x ∈ l → x < cn) : ∀ (n m t : Nat), hs_un cn t < n → hs_un cn t < m → hs_mg L n t = hs_mg L m t
  | 0, _, _, h, _ => by omega
  | _ + 1, 0, _, _, h => by omega
  | n + 1, m + 1, t, h1, h2 => by
    unfold hs_mg
    cases e : hs_pick (hs_beh (L.map (hs_fl t))) (L.map (hs_fl t)) with
    | none => rfl
    | some c =>
      obtain ⟨a1, a2, _⟩ := hs_pickT hL e
      have := hs_unLt a1 a2
      show Option.map _ (hs_mg L n (t ||| 2 ^ c)) = Option.map _ (hs_mg L m (t ||| 2 ^ c))
      rw [hs_mgF hL n m _ (by omega) (by omega)]
theorem hs_mgM {L : List (List Nat)} {cn : Nat} (hL : ∀ l, l ∈ L → ∀ x, x ∈ l → x < cn) : ∀ (n t : Nat) (l : List Nat), hs_un cn t < n → hs_mg L n t = some l → l.length ≤ hs_un cn t ∧ ∀ x, x ∈ l → x < cn
  | 0, _, _, h, _ => by omega
  | n + 1, t, l, h1, e => by
    unfold hs_mg at e
    cases q : hs_pick (hs_beh (L.map (hs_fl t))) (L.map (hs_fl t)) with
    | none =>
      rw [q] at e
      have e' : (if (L.map (hs_fl t)).all (fun l => l.isEmpty) = true then some [] else none) = some l := e
      split at e'
      · cases e'
        exact ⟨Nat.zero_le _, fun x hx => by cases hx⟩
      · cases e'
    | some c =>
      rw [q] at e
      have e' : Option.map (fun l => c :: l) (hs_mg L n (t ||| 2 ^ c)) = some l := e
      obtain ⟨a1, a2, _⟩ := hs_pickT hL q
      have lt := hs_unLt a1 a2
      cases r : hs_mg L n (t ||| 2 ^ c) with
      | none => rw [r] at e'; cases e'
      | some l' =>
        rw [r] at e'
        cases e'
        obtain ⟨g1, g2⟩ := hs_mgM hL n _ l' (by omega) r
        refine ⟨by rw [List.length_cons]; omega, fun x hx => ?_⟩
        cases hx with
        | head => exact a1
        | tail _ h => exact g2 x h
theorem hs_strkF {t c : Nat} {l : List Nat} (h : c ∉ (hs_fl t l).tail) : hs_strk c (hs_fl t l) = hs_fl (t ||| 2 ^ c) l := by
  have e : hs_fl (t ||| 2 ^ c) l = (hs_fl t l).filter (fun x => !decide (c = x)) := by
    unfold hs_fl
    rw [List.filter_filter]
    congr 1
    funext x
    rw [hs_tbOr]
    cases t.testBit x <;> cases decide (c = x) <;> rfl
  rw [e]
  generalize hs_fl t l = m at h
  cases m with
  | nil => rfl
  | cons x r =>
    have hr : r.filter (fun x => !decide (c = x)) = r := by
      rw [List.filter_eq_self]
      intro y hy
      have : c ≠ y := fun z => h (by rw [z]; exact hy)
      rw [decide_eq_false this]; rfl
    rw [List.filter_cons, hr]
    show (if x = c then r else x :: r) = _
    by_cases z : x = c
    · subst z
      rw [if_pos rfl, decide_eq_true rfl]; rfl
    · rw [if_neg z, decide_eq_false (fun y => z y.symm)]; rfl
theorem hs_behF {L : List (List Nat)} {c : Nat} (h : hs_beh L c = false) {l : List Nat} (hl : l ∈ L) : c ∉ l.tail := by
  intro z
  have : hs_beh L c = true := by
    unfold hs_beh
    rw [List.any_eq_true]
    exact ⟨l, hl, by simpa using z⟩
  rw [h] at this
  cases this
theorem hs_behT {L : List (List Nat)} {c : Nat} (h : ∀ l, l ∈ L → c ∉ l.tail) : hs_beh L c = false := by
  unfold hs_beh
  rw [List.any_eq_false]
  intro l hl
  have := h l hl
  simpa using this
end
