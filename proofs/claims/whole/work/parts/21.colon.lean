/-! an expression before its colon -/
theorem hs_hd25 {r : List Nat} {k : Nat} (hk : k ≠ 0) (hk2 : k ≠ 25) : hs_hd (r ++ [25]) = k ↔ hs_hd r = k := by
  cases r with
  | nil => exact ⟨fun h => absurd h.symm hk2, fun h => absurd h.symm hk⟩
  | cons a r => exact Iff.rfl
theorem hs_rk25 {r : List Nat} : hs_rank (hs_hd (r ++ [25])) = hs_rank (hs_hd r) := by
  cases r with
  | nil => rfl
  | cons a r => rfl
def hs_ap25 : hs_R → hs_R
  | none => none
  | some (r, w, st, e) => some (r ++ [25], w, st, e)
theorem hs_psh25 {s : Nat} {r st : List Nat} : hs_psh s (r ++ [25]) st = hs_ap25 (hs_psh s r st) := by
  unfold hs_psh
  split <;> rfl
theorem hs_isN25 : hs_isN 25 = false := by decide
theorem hs_step25a {z w : Bool} {ts st : List Nat} (h : ts ≠ [] ∨ w = true ∨ 27 ≤ hs_hd st % 64) : hs_step z (ts ++ [25]) w st = hs_ap25 (hs_step z ts w st) := by
  cases w with
  | true =>
    cases ts with
    | nil => rfl
    | cons t r =>
      show hs_opd t (r ++ [25]) st = hs_ap25 (hs_opd t r st)
      unfold hs_opd
      split
      · rfl
      split
      · rfl
      split
      · rfl
      split
      · exact hs_psh25
      split
      · cases r with
        | nil => rfl
        | cons k r1 =>
          show (if k = 21 then hs_psh _ (r1 ++ [25]) st else if k = 24 then _ else none) = hs_ap25 (if k = 21 then hs_psh _ r1 st else if k = 24 then _ else none)
          split
          · exact hs_psh25
          split
          · cases r1 with
            | nil => rfl
            | cons n r2 =>
              show (if hs_isN n = true ∧ hs_hd (r2 ++ [25]) ≠ 21 then _ else none) = hs_ap25 (if hs_isN n = true ∧ hs_hd r2 ≠ 21 then _ else none)
              by_cases c : hs_isN n = true ∧ hs_hd r2 ≠ 21
              · rw [if_pos c, if_pos ⟨c.1, fun y => c.2 ((hs_hd25 (by decide) (by decide)).mp y)⟩]; rfl
              · rw [if_neg c, if_neg (fun y => c ⟨y.1, fun x => y.2 ((hs_hd25 (by decide) (by decide)).mpr x)⟩)]; rfl
          · rfl
      split
      · cases r with
        | nil => rfl
        | cons k r1 =>
          cases r1 with
          | nil => rfl
          | cons n r2 =>
            cases r2 with
            | nil =>
              show (if k = 24 ∧ hs_isN n = true ∧ 25 = 21 then _ else none) = _
              rw [if_neg (fun y => absurd y.2.2 (by decide))]; rfl
            | cons p r3 =>
              show (if k = 24 ∧ hs_isN n = true ∧ p = 21 then hs_psh _ (r3 ++ [25]) st else none) = hs_ap25 (if k = 24 ∧ hs_isN n = true ∧ p = 21 then hs_psh _ r3 st else none)
              split
              · exact hs_psh25
              · rfl
      split
      · cases st with
        | nil => rfl
        | cons s st1 =>
          show (if 2 ≤ s % 64 ∧ s % 64 ≤ 4 then _ else none) = hs_ap25 (if 2 ≤ s % 64 ∧ s % 64 ≤ 4 then _ else none)
          split <;> rfl
      · rfl
  | false =>
    show hs_opr z (ts ++ [25]) st = hs_ap25 (hs_opr z ts st)
    unfold hs_opr
    have ec : (27 ≤ hs_hd st % 64 ∧ hs_hd (ts ++ [25]) ≠ 24 ∧ hs_rank (hs_hd (ts ++ [25])) ≤ hs_rank (hs_hd st % 64) ∧ ¬ (hs_rank (hs_hd (ts ++ [25])) = 1 ∧ hs_rank (hs_hd st % 64) = 1)) ↔ (27 ≤ hs_hd st % 64 ∧ hs_hd ts ≠ 24 ∧ hs_rank (hs_hd ts) ≤ hs_rank (hs_hd st % 64) ∧ ¬ (hs_rank (hs_hd ts) = 1 ∧ hs_rank (hs_hd st % 64) = 1)) := by
      rw [hs_rk25]
      constructor
      · rintro ⟨a, b, c, d⟩; exact ⟨a, fun y => b ((hs_hd25 (by decide) (by decide)).mpr y), c, d⟩
      · rintro ⟨a, b, c, d⟩; exact ⟨a, fun y => b ((hs_hd25 (by decide) (by decide)).mp y), c, d⟩
    by_cases c : 27 ≤ hs_hd st % 64 ∧ hs_hd ts ≠ 24 ∧ hs_rank (hs_hd ts) ≤ hs_rank (hs_hd st % 64) ∧ ¬ (hs_rank (hs_hd ts) = 1 ∧ hs_rank (hs_hd st % 64) = 1)
    · rw [if_pos c, if_pos (ec.mpr c)]; rfl
    · rw [if_neg c, if_neg (fun y => c (ec.mp y))]
      cases ts with
      | nil =>
        exfalso
        rcases h with h | h | h
        · exact h rfl
        · cases h
        · exact c ⟨h, by decide, Nat.zero_le _, fun y => absurd y.1 (by decide)⟩
      | cons t r =>
        show (if 0 < hs_rank t then _ else if t = 24 then _ else if t = 22 then _ else none) = hs_ap25 (if 0 < hs_rank t then _ else if t = 24 then _ else if t = 22 then _ else none)
        split
        · split <;> rfl
        split
        · cases r with
          | nil => rfl
          | cons n r1 =>
            show (if hs_isN n = true then _ else none) = hs_ap25 (if hs_isN n = true then _ else none)
            split
            · have e21 : hs_hd (r1 ++ [25]) = 21 ↔ hs_hd r1 = 21 := hs_hd25 (by decide) (by decide)
              have e26 : hs_hd (r1 ++ [25]) = 26 ↔ hs_hd r1 = 26 := hs_hd25 (by decide) (by decide)
              simp only [List.append_eq]
              by_cases c1 : hs_hd r1 = 21
              · rw [if_pos c1, if_pos (e21.mpr c1)]
                cases r1 with
                | nil => simp [hs_hd] at c1
                | cons a r2 => exact hs_psh25
              · rw [if_neg c1, if_neg (fun y => c1 (e21.mp y))]
                by_cases c2 : hs_hd r1 = 26 ∧ z = true ∧ st = []
                · rw [if_pos c2, if_pos ⟨e26.mpr c2.1, c2.2⟩]
                  cases r1 with
                  | nil => simp [hs_hd] at c2
                  | cons a r2 => rfl
                · rw [if_neg c2, if_neg (fun y => c2 ⟨e26.mp y.1, y.2⟩)]; rfl
            · rfl
        split
        · cases st with
          | nil => rfl
          | cons s st1 =>
            show (if s % 64 = 1 then _ else if 2 ≤ s % 64 ∧ s % 64 ≤ 4 then _ else none) = hs_ap25 (if s % 64 = 1 then _ else if 2 ≤ s % 64 ∧ s % 64 ≤ 4 then _ else none)
            split
            · rfl
            split <;> rfl
        · rfl
theorem hs_run25 {z : Bool} : ∀ {n : Nat} {ts : List Nat} {w : Bool} {st : List Nat} {cd : List (Nat × Nat)} {fs : List Nat}, hs_run n z ts w st cd [] fs → hs_run n z (ts ++ [25]) w st cd [25] fs := by
  intro n
  induction n with
  | zero => intro ts w st cd fs h; exact h
  | succ n ih =>
    intro ts w st cd fs h
    rcases h with ⟨f, rfl, e, rfl⟩ | ⟨f, ts', w', st', e, cd', E, rfl, h⟩
    · subst e
      exact Or.inl ⟨⟨f.1, Or.inr rfl, f.2.2⟩, rfl, rfl, rfl⟩
    · have hne : ts ≠ [] ∨ w = true ∨ 27 ≤ hs_hd st % 64 := by
        cases w with
        | true => exact Or.inr (Or.inl rfl)
        | false =>
          cases ts with
          | cons a r => exact Or.inl (by simp)
          | nil =>
            right; right
            exact Classical.byContradiction fun q => by
              have E : hs_opr z [] st = some (ts', w', st', e) := E
              unfold hs_opr at E
              rw [if_neg (fun y => q y.1)] at E
              cases E
      refine Or.inr ⟨fun y => f ⟨y.1, ?_, y.2.2⟩, ts' ++ [25], w', st', e, cd', ?_, rfl, ih h⟩
      · rcases y.2.1 with q | q
        · simp at q
        · cases ts with
          | nil => exact Or.inl rfl
          | cons a r => exact Or.inr q
      · rw [hs_step25a hne, E]; rfl
theorem hs_run25b {z : Bool} : ∀ {n : Nat} {ts : List Nat} {w : Bool} {st : List Nat} {cd : List (Nat × Nat)} {fs : List Nat}, hs_run n z (ts ++ [25]) w st cd [25] fs → hs_run n z ts w st cd [] fs := by
  intro n
  induction n with
  | zero => intro ts w st cd fs h; exact h
  | succ n ih =>
    intro ts w st cd fs h
    rcases h with ⟨f, rfl, e, rfl⟩ | ⟨f, ts', w', st', e, cd', E, rfl, h⟩
    · have e0 : ts = [] := by
        have := congrArg List.length e
        simp at this
        exact this
      subst e0
      exact Or.inl ⟨⟨f.1, Or.inl rfl, f.2.2⟩, rfl, rfl, rfl⟩
    · by_cases hne : ts ≠ [] ∨ w = true ∨ 27 ≤ hs_hd st % 64
      · rw [hs_step25a hne] at E
        cases hs : hs_step z ts w st with
        | none => rw [hs] at E; cases E
        | some x =>
          obtain ⟨ts1, w1, st1, e1⟩ := x
          rw [hs] at E
          cases E
          refine Or.inr ⟨fun y => f ⟨y.1, ?_, y.2.2⟩, ts1, w', st', e, cd', hs, rfl, ih h⟩
          rcases y.2.1 with q | q
          · subst q; exact Or.inr rfl
          · cases ts with
            | nil => exact Or.inr rfl
            | cons a r => exact Or.inr q
      · exfalso
        have h1 : ts = [] := Classical.byContradiction fun q => hne (Or.inl q)
        have h2 : w = false := by
          cases w with
          | false => rfl
          | true => exact absurd (Or.inr (Or.inl rfl)) hne
        subst h1 h2
        have E : hs_opr z [25] st = some (ts', w', st', e) := E
        unfold hs_opr at E
        rw [if_neg (fun y => hne (Or.inr (Or.inr y.1)))] at E
        cases E
theorem hs_S25i {z w : Bool} {ts st fs : List Nat} {cd : List (Nat × Nat)} : hs_S z (ts ++ [25]) w st cd [25] fs ↔ hs_S z ts w st cd [] fs :=
  ⟨fun ⟨n, h⟩ => ⟨n, hs_run25b h⟩, fun ⟨n, h⟩ => ⟨n, hs_run25 h⟩⟩
