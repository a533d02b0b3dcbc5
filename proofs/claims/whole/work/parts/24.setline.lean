/-! lines with a sign =  -/
theorem hs_ncons {a : Nat} {l : List Nat} (h1 : a ≠ 26) (h2 : 26 ∉ l) : 26 ∉ a :: l := by
  intro h
  rcases List.mem_cons.mp h with h | h
  · exact h1 h.symm
  · exact h2 h
theorem hs_nnil : (26 : Nat) ∉ ([] : List Nat) := fun h => by cases h
theorem hs_stepSuf {z w w' : Bool} {ts st ts' st' : List Nat} {e : List (Nat × Nat)} (h : hs_step z ts w st = some (ts', w', st', e)) : (∃ pre, ts = pre ++ ts' ∧ 26 ∉ pre) ∨ (∃ n, ts = 24 :: n :: 26 :: ts' ∧ hs_isN n = true ∧ z = true ∧ st = [] ∧ w = false) := by
  cases w with
  | true =>
    left
    cases ts with
    | nil => cases h
    | cons t r =>
      have E : hs_opd t r st = some (ts', w', st', e) := h
      unfold hs_opd hs_cls hs_sup hs_cl0 at E
      split at E
      · cases E; exact ⟨[t], rfl, hs_ncons (by omega) hs_nnil⟩
      split at E
      · cases E; exact ⟨[t], rfl, hs_ncons (by omega) hs_nnil⟩
      split at E
      · rename_i hn; cases E; exact ⟨[t], rfl, hs_ncons (by have := hs_tkN hn; omega) hs_nnil⟩
      split at E
      · obtain ⟨_, e'⟩ := hs_pshE E; cases e'; exact ⟨[t], rfl, hs_ncons (by omega) hs_nnil⟩
      split at E
      · rename_i hc
        have tc := hs_tkC hc
        cases r with
        | nil => cases E
        | cons k r1 =>
          simp only at E
          split at E
          · obtain ⟨_, e'⟩ := hs_pshE E; cases e'; exact ⟨[t, k], rfl, hs_ncons (by omega) (hs_ncons (by omega) hs_nnil)⟩
          split at E
          · cases r1 with
            | nil => cases E
            | cons n r2 =>
              simp only at E
              split at E
              · rename_i hn; cases E; exact ⟨[t, k, n], rfl, hs_ncons (by omega) (hs_ncons (by omega) (hs_ncons (by have := hs_tkN hn.1; omega) hs_nnil))⟩
              · cases E
          · cases E
      split at E
      · split at E
        · split at E
          · rename_i k n p r1 hh
            obtain ⟨_, e'⟩ := hs_pshE E; cases e'
            exact ⟨[t, k, n, p], rfl, hs_ncons (by omega) (hs_ncons (by omega) (hs_ncons (by have := hs_tkN hh.2.1; omega) (hs_ncons (by omega) hs_nnil)))⟩
          · cases E
        · cases E
      split at E
      · split at E
        · split at E
          · cases E; exact ⟨[t], rfl, hs_ncons (by omega) hs_nnil⟩
          · cases E
        · cases E
      · cases E
  | false =>
    have E : hs_opr z ts st = some (ts', w', st', e) := h
    unfold hs_opr at E
    split at E
    · cases E; exact Or.inl ⟨[], rfl, hs_nnil⟩
    cases ts with
    | nil => cases E
    | cons t r =>
      simp only at E
      unfold hs_opr1 hs_dot hs_cl1 at E
      split at E
      · rename_i hr
        have := hs_rank27 hr
        split at E
        · cases E
        · cases E; exact Or.inl ⟨[t], rfl, hs_ncons (by omega) hs_nnil⟩
      split at E
      · rename_i t24
        cases r with
        | nil => cases E
        | cons n r1 =>
          simp only at E
          split at E
          · rename_i hn
            have nn := hs_tkN hn
            split at E
            · rename_i h21
              obtain ⟨_, e'⟩ := hs_pshE E; cases e'
              cases r1 with
              | nil => simp [hs_hd] at h21
              | cons a r2 => exact Or.inl ⟨[t, n, a], rfl, hs_ncons (by omega) (hs_ncons (by omega) (hs_ncons (by have : a = 21 := h21; omega) hs_nnil))⟩
            split at E
            · rename_i hs
              cases E
              cases r1 with
              | nil => simp [hs_hd] at hs
              | cons a r2 =>
                have ha : a = 26 := hs.1
                subst ha t24
                exact Or.inr ⟨n, rfl, hn, hs.2.1, hs.2.2, rfl⟩
            · cases E; exact Or.inl ⟨[t, n], rfl, hs_ncons (by omega) (hs_ncons (by omega) hs_nnil)⟩
          · cases E
      split at E
      · split at E
        · split at E
          · cases E; exact Or.inl ⟨[t], rfl, hs_ncons (by omega) hs_nnil⟩
          split at E
          · cases E; exact Or.inl ⟨[t], rfl, hs_ncons (by omega) hs_nnil⟩
          · cases E
        · cases E
      · cases E
/-- the first sign = of a line that is read whole stands behind a dot and a name -/
theorem hs_runSet {z : Bool} : ∀ {n : Nat} {B E : List Nat} {w : Bool} {st : List Nat} {cd : List (Nat × Nat)} {fs : List Nat}, hs_run n z (B ++ 26 :: E) w st cd [] fs → 26 ∉ B → ∃ A m, B = A ++ [24, m] ∧ hs_isN m = true := by
  intro n
  induction n with
  | zero => intro B E w st cd fs h; exact h.elim
  | succ n ih =>
    intro B E w st cd fs h hB
    rcases h with ⟨_, _, e, _⟩ | ⟨_, ts', w', st', e, cd', E1, _, h⟩
    · have := congrArg List.length e
      simp at this
    · rcases hs_stepSuf E1 with ⟨pre, e1, hp⟩ | ⟨m, e1, hm, _⟩
      · -- the front lies in B
        have key : ∀ (pre B ts' : List Nat), B ++ 26 :: E = pre ++ ts' → 26 ∉ pre → ∃ B', B = pre ++ B' ∧ ts' = B' ++ 26 :: E := by
          intro pre
          induction pre with
          | nil => intro B ts' e _; exact ⟨B, rfl, e.symm⟩
          | cons a pre ih2 =>
            intro B ts' e hp
            cases B with
            | nil =>
              have : 26 = a := (List.cons.inj e).1
              exact absurd (by rw [this]; simp) hp
            | cons b B =>
              have e' := List.cons.inj e
              obtain ⟨B', h1, h2⟩ := ih2 B ts' e'.2 (fun y => hp (List.mem_cons_of_mem _ y))
              exact ⟨B', by rw [e'.1, h1]; rfl, h2⟩
        obtain ⟨B', h1, h2⟩ := key pre B ts' e1 hp
        subst h1 h2
        obtain ⟨A, m, h3, h4⟩ := ih h (fun y => hB (List.mem_append.mpr (Or.inr y)))
        exact ⟨pre ++ A, m, by rw [h3, List.append_assoc], h4⟩
      · have e2 : B ++ 26 :: E = [24, m] ++ 26 :: ts' := e1
        have hm26 : 26 ∉ [24, m] := hs_ncons (by decide) (hs_ncons (by have := hs_tkN hm; omega) hs_nnil)
        have key : ∀ (B C : List Nat), B ++ 26 :: E = C ++ 26 :: ts' → 26 ∉ B → 26 ∉ C → B = C := by
          intro B
          induction B with
          | nil =>
            intro C e _ hC
            cases C with
            | nil => rfl
            | cons c C =>
              have : 26 = c := (List.cons.inj e).1
              exact absurd (by rw [this]; simp) hC
          | cons b B ih2 =>
            intro C e hB hC
            cases C with
            | nil =>
              have : b = 26 := (List.cons.inj e).1
              exact absurd (by rw [this]; simp) hB
            | cons c C =>
              have e' := List.cons.inj e
              rw [e'.1, ih2 C e'.2 (fun y => hB (List.mem_cons_of_mem _ y)) (fun y => hC (List.mem_cons_of_mem _ y))]
        exact ⟨[], m, key B [24, m] e2 hB hm26, hm⟩
/-- a 5 at the bottom of the stack changes nothing but the sign = -/
theorem hs_hdB {st : List Nat} {b : Nat} (hb : b % 64 = 5) : (27 ≤ hs_hd (st ++ [b]) % 64 ↔ 27 ≤ hs_hd st % 64) ∧ hs_rank (hs_hd (st ++ [b]) % 64) = hs_rank (hs_hd st % 64) := by
  cases st with
  | nil =>
    constructor
    · show 27 ≤ b % 64 ↔ 27 ≤ 0 % 64
      omega
    · show hs_rank (b % 64) = hs_rank (0 % 64)
      rw [hb]; rfl
  | cons s r => exact ⟨Iff.rfl, rfl⟩
theorem hs_opnB {b : Nat} (hb : b % 64 = 5) : ∀ st : List Nat, hs_opn (st ++ [b]) = hs_opn st
  | [] => by show hs_opn (b :: []) = _; rw [hs_opn0 (by omega)]
  | s :: r => by
    show (if 1 ≤ s % 64 ∧ s % 64 ≤ 4 then 1 else 0) + hs_opn (r ++ [b]) = (if 1 ≤ s % 64 ∧ s % 64 ≤ 4 then 1 else 0) + hs_opn r
    rw [hs_opnB hb r]
def hs_apB (b : Nat) : hs_R → hs_R
  | none => none
  | some (r, w, st, e) => some (r, w, st ++ [b], e)
theorem hs_pshB {b s : Nat} (hb : b % 64 = 5) {r st : List Nat} : hs_psh s r (st ++ [b]) = hs_apB b (hs_psh s r st) := by
  unfold hs_psh
  rw [hs_opnB hb]
  split <;> rfl
theorem hs_stepB {b : Nat} (hb : b % 64 = 5) {z w : Bool} {ts st : List Nat} : hs_step z ts w (st ++ [b]) = hs_apB b (hs_step false ts w st) := by
  cases w with
  | true =>
    cases ts with
    | nil => rfl
    | cons t r =>
      show hs_opd t r (st ++ [b]) = hs_apB b (hs_opd t r st)
      unfold hs_opd
      split
      · rfl
      split
      · rfl
      split
      · rfl
      split
      · exact hs_pshB hb
      split
      · cases r with
        | nil => rfl
        | cons k r1 =>
          show (if k = 21 then hs_psh _ r1 (st ++ [b]) else if k = 24 then _ else none) = hs_apB b (if k = 21 then hs_psh _ r1 st else if k = 24 then _ else none)
          split
          · exact hs_pshB hb
          split
          · cases r1 with
            | nil => rfl
            | cons n r2 =>
              show (if hs_isN n = true ∧ hs_hd r2 ≠ 21 then _ else none) = hs_apB b (if hs_isN n = true ∧ hs_hd r2 ≠ 21 then _ else none)
              split <;> rfl
          · rfl
      split
      · unfold hs_sup
        split
        · split
          · exact hs_pshB hb
          · rfl
        · rfl
      split
      · cases st with
        | nil =>
          show (if 2 ≤ b % 64 ∧ b % 64 ≤ 4 then _ else none) = none
          rw [if_neg (by omega)]
        | cons s st1 =>
          show (if 2 ≤ s % 64 ∧ s % 64 ≤ 4 then some (r, false, st1 ++ [b], _) else none) = hs_apB b (if 2 ≤ s % 64 ∧ s % 64 ≤ 4 then _ else none)
          split <;> rfl
      · rfl
  | false =>
    show hs_opr z ts (st ++ [b]) = hs_apB b (hs_opr false ts st)
    obtain ⟨e1, e2⟩ := hs_hdB (st := st) hb
    unfold hs_opr
    rw [e2]
    by_cases c : 27 ≤ hs_hd st % 64 ∧ hs_hd ts ≠ 24 ∧ hs_rank (hs_hd ts) ≤ hs_rank (hs_hd st % 64) ∧ ¬ (hs_rank (hs_hd ts) = 1 ∧ hs_rank (hs_hd st % 64) = 1)
    · rw [if_pos c, if_pos ⟨e1.mpr c.1, c.2⟩]
      cases st with
      | nil => exact absurd c.1 (by decide)
      | cons s st1 => rfl
    · rw [if_neg c, if_neg (fun y => c ⟨e1.mp y.1, y.2⟩)]
      cases ts with
      | nil => rfl
      | cons t r =>
        show (if 0 < hs_rank t then _ else if t = 24 then _ else if t = 22 then _ else none) = hs_apB b (if 0 < hs_rank t then _ else if t = 24 then _ else if t = 22 then _ else none)
        split
        · rw [e2]
          split <;> rfl
        split
        · cases r with
          | nil => rfl
          | cons n r1 =>
            show (if hs_isN n = true then _ else none) = hs_apB b (if hs_isN n = true then _ else none)
            split
            · split
              · exact hs_pshB hb
              · rw [if_neg (fun y => by have := y.2.2; simp at this), if_neg (fun y => by cases y.2.1)]
                rfl
            · rfl
        split
        · cases st with
          | nil =>
            show (if b % 64 = 1 then _ else if 2 ≤ b % 64 ∧ b % 64 ≤ 4 then _ else none) = none
            rw [if_neg (by omega), if_neg (by omega)]
          | cons s st1 =>
            show (if s % 64 = 1 then some (r, false, st1 ++ [b], []) else if 2 ≤ s % 64 ∧ s % 64 ≤ 4 then _ else none) = hs_apB b (if s % 64 = 1 then _ else if 2 ≤ s % 64 ∧ s % 64 ≤ 4 then _ else none)
            split
            · rfl
            split <;> rfl
        · rfl
theorem hs_finB {b : Nat} (hb : b % 64 = 5) {ts st : List Nat} {w : Bool} : hs_fin ts w (st ++ [b]) ↔ hs_fin ts w st := by
  unfold hs_fin
  cases st with
  | nil =>
    constructor
    · rintro ⟨h1, h2, _, _⟩; exact ⟨h1, h2, by decide, by decide⟩
    · rintro ⟨h1, h2, _, _⟩
      refine ⟨h1, h2, ?_, ?_⟩
      · show ¬ 27 ≤ b % 64; omega
      · show ¬ (1 ≤ b % 64 ∧ b % 64 ≤ 4); omega
  | cons s r => exact Iff.rfl
theorem hs_runB {b : Nat} (hb : b % 64 = 5) {z : Bool} : ∀ {n : Nat} {ts : List Nat} {w : Bool} {st : List Nat} {cd : List (Nat × Nat)} {rs fs : List Nat}, hs_run n z ts w (st ++ [b]) cd rs fs ↔ ∃ fs', fs = fs' ++ [b] ∧ hs_run n false ts w st cd rs fs' := by
  intro n
  induction n with
  | zero => intro ts w st cd rs fs; exact ⟨fun h => h.elim, fun ⟨_, _, h⟩ => h.elim⟩
  | succ n ih =>
    intro ts w st cd rs fs
    constructor
    · rintro (⟨f, rfl, rfl, rfl⟩ | ⟨f, ts', w', st', e, cd', E, rfl, h⟩)
      · exact ⟨st, rfl, Or.inl ⟨(hs_finB hb).mp f, rfl, rfl, rfl⟩⟩
      · rw [hs_stepB hb] at E
        cases hs : hs_step false ts w st with
        | none => rw [hs] at E; cases E
        | some x =>
          obtain ⟨ts1, w1, st1, e1⟩ := x
          rw [hs] at E
          cases E
          obtain ⟨fs', e2, h2⟩ := ih.mp h
          exact ⟨fs', e2, Or.inr ⟨fun y => f ((hs_finB hb).mpr y), _, _, _, _, cd', hs, rfl, h2⟩⟩
    · rintro ⟨fs', rfl, h⟩
      rcases h with ⟨f, rfl, rfl, rfl⟩ | ⟨f, ts', w', st', e, cd', E, rfl, h⟩
      · exact Or.inl ⟨(hs_finB hb).mpr f, rfl, rfl, rfl⟩
      · refine Or.inr ⟨fun y => f ((hs_finB hb).mp y), ts', w', st' ++ [b], e, cd', ?_, rfl, ih.mpr ⟨fs', rfl, h⟩⟩
        rw [hs_stepB hb, E]; rfl
