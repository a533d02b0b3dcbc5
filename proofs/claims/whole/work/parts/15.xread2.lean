/-! X's reader where an operator is looked for; the whole expression -/
theorem hs_noSet {z : Bool} : ∀ (m : Nat) (ts : List Nat) (w : Bool) (st : List Nat), 26 ∈ ts → ((∃ s0 pre, st = pre ++ [s0] ∧ 27 ≤ s0 % 64) ∨ (w = false ∧ st = [] ∧ hs_hd ts ≠ 24)) → ∀ (cd : List (Nat × Nat)) (fs : List Nat), ¬ hs_run m z ts w st cd [] fs := by
  intro m
  induction m with
  | zero => intro ts w st _ _ cd fs h; exact h
  | succ m ih =>
    intro ts w st h26 J cd fs h
    rcases h with ⟨_, _, e, _⟩ | ⟨nf, ts', w', st', e, cd', E, _, h⟩
    · rw [← e] at h26; cases h26
    refine ih ts' w' st' ?_ ?_ cd' fs h
    all_goals clear ih h
    · cases w with
      | true =>
        cases ts with
        | nil => cases E
        | cons t r =>
          have E : hs_opd t r st = some (ts', w', st', e) := E
          have key : ∀ a l, 26 ∈ a :: l → a ≠ 26 → 26 ∈ l := by
            intro a l q1 q2
            rcases List.mem_cons.mp q1 with q | q
            · exact absurd q.symm q2
            · exact q
          unfold hs_opd hs_cls hs_sup hs_cl0 at E
          split at E
          · cases E; exact key _ _ h26 (by omega)
          split at E
          · cases E; exact key _ _ h26 (by omega)
          split at E
          · rename_i hn; cases E; exact key _ _ h26 (by have := hs_tkN hn; omega)
          split at E
          · obtain ⟨_, e'⟩ := hs_pshE E; cases e'; exact key _ _ h26 (by omega)
          split at E
          · rename_i hc
            have h1 := key _ _ h26 (by have := hs_tkC hc; omega)
            cases r with
            | nil => cases E
            | cons k r1 =>
              simp only at E
              split at E
              · obtain ⟨_, e'⟩ := hs_pshE E; cases e'; exact key _ _ h1 (by omega)
              split at E
              · cases r1 with
                | nil => cases E
                | cons n r2 =>
                  simp only at E
                  split at E
                  · rename_i hn; cases E; exact key _ _ (key _ _ h1 (by omega)) (by have := hs_tkN hn.1; omega)
                  · cases E
              · cases E
          split at E
          · have h1 := key _ _ h26 (by omega)
            split at E
            · split at E
              · rename_i hh
                obtain ⟨_, e'⟩ := hs_pshE E; cases e'; exact key _ _ (key _ _ (key _ _ h1 (by omega)) (by have := hs_tkN hh.2.1; omega)) (by omega)
              · cases E
            · cases E
          split at E
          · have h1 := key _ _ h26 (by omega)
            split at E
            · split at E
              · cases E; exact h1
              · cases E
            · cases E
          · cases E
      | false =>
        have E : hs_opr z ts st = some (ts', w', st', e) := E
        have key : ∀ a l, 26 ∈ a :: l → a ≠ 26 → 26 ∈ l := by
          intro a l q1 q2
          rcases List.mem_cons.mp q1 with q | q
          · exact absurd q.symm q2
          · exact q
        unfold hs_opr at E
        split at E
        · cases E; exact h26
        cases ts with
        | nil => cases E
        | cons t r =>
          simp only at E
          unfold hs_opr1 hs_dot hs_cl1 at E
          split at E
          · rename_i hr
            have := hs_rank27 hr
            split at E
            · cases E
            · cases E; exact key _ _ h26 (by omega)
          split at E
          · rename_i t24
            have h1 := key _ _ h26 (by omega)
            cases r with
            | nil => cases E
            | cons n r1 =>
              simp only at E
              split at E
              · rename_i hn
                have h2 := key _ _ h1 (by have := hs_tkN hn; omega)
                split at E
                · rename_i h21
                  obtain ⟨_, e'⟩ := hs_pshE E; cases e'
                  cases r1 with
                  | nil => cases h2
                  | cons a r2 => exact key _ _ h2 (by have : a = 21 := h21; omega)
                split at E
                · rename_i hs
                  exfalso
                  rcases J with ⟨s0, pre, e1, _⟩ | ⟨_, _, q⟩
                  · rw [hs.2.2] at e1
                    cases pre <;> cases e1
                  · exact q t24
                · cases E; exact h2
              · cases E
          split at E
          · have h1 := key _ _ h26 (by omega)
            split at E
            · split at E
              · cases E; exact h1
              split at E
              · cases E; exact h1
              · cases E
            · cases E
          · cases E
    · have bot : ∀ s : Nat, (∃ s0 pre, st = pre ++ [s0] ∧ 27 ≤ s0 % 64) → ∃ s0 pre, s :: st = pre ++ [s0] ∧ 27 ≤ s0 % 64 := by
        rintro s ⟨s0, pre, rfl, h⟩
        exact ⟨s0, s :: pre, rfl, h⟩
      have pop : ∀ s st1, st = s :: st1 → (∃ s0 pre, st = pre ++ [s0] ∧ 27 ≤ s0 % 64) → s % 64 < 27 → ∃ s0 pre, st1 = pre ++ [s0] ∧ 27 ≤ s0 % 64 := by
        rintro s st1 rfl ⟨s0, pre, e1, h⟩ hs
        cases pre with
        | nil =>
          cases e1
          omega
        | cons a pre =>
          cases e1
          exact ⟨s0, pre, rfl, h⟩
      cases w with
      | true =>
        have J1 : ∃ s0 pre, st = pre ++ [s0] ∧ 27 ≤ s0 % 64 := by
          rcases J with J | J
          · exact J
          · exact absurd J.1 (by decide)
        left
        cases ts with
        | nil => cases E
        | cons t r =>
          have E : hs_opd t r st = some (ts', w', st', e) := E
          unfold hs_opd hs_cls hs_sup hs_cl0 at E
          split at E
          · cases E; exact J1
          split at E
          · cases E; exact J1
          split at E
          · cases E; exact J1
          split at E
          · obtain ⟨_, e'⟩ := hs_pshE E; cases e'; exact bot _ J1
          split at E
          · cases r with
            | nil => cases E
            | cons k r1 =>
              simp only at E
              split at E
              · obtain ⟨_, e'⟩ := hs_pshE E; cases e'; exact bot _ J1
              split at E
              · cases r1 with
                | nil => cases E
                | cons n r2 =>
                  simp only at E
                  split at E
                  · cases E; exact J1
                  · cases E
              · cases E
          split at E
          · split at E
            · split at E
              · obtain ⟨_, e'⟩ := hs_pshE E; cases e'; exact bot _ J1
              · cases E
            · cases E
          split at E
          · split at E
            · split at E
              · cases E; exact pop _ _ rfl J1 (by omega)
              · cases E
            · cases E
          · cases E
      | false =>
        have E : hs_opr z ts st = some (ts', w', st', e) := E
        unfold hs_opr at E
        split at E
        · rename_i hc
          cases E
          cases st with
          | nil => simp [hs_hd] at hc
          | cons s st1 =>
            rcases J with ⟨s0, pre, e1, h⟩ | ⟨_, q, _⟩
            · cases pre with
              | nil =>
                cases e1
                exact Or.inr ⟨rfl, rfl, hc.2.1⟩
              | cons a pre =>
                cases e1
                exact Or.inl ⟨s0, pre, rfl, h⟩
            · cases q
        cases ts with
        | nil => cases E
        | cons t r =>
          simp only at E
          unfold hs_opr1 hs_dot hs_cl1 at E
          split at E
          · rename_i hr
            have h27 := hs_rank27 hr
            split at E
            · cases E
            · cases E
              rcases J with J | ⟨_, q, _⟩
              · exact Or.inl (bot _ J)
              · subst q
                exact Or.inl ⟨t, [], rfl, by omega⟩
          split at E
          · rename_i t24
            have J1 : ∃ s0 pre, st = pre ++ [s0] ∧ 27 ≤ s0 % 64 := by
              rcases J with J | ⟨_, _, q⟩
              · exact J
              · exact absurd t24 q
            left
            cases r with
            | nil => cases E
            | cons n r1 =>
              simp only at E
              split at E
              · split at E
                · obtain ⟨_, e'⟩ := hs_pshE E; cases e'; exact bot _ J1
                split at E
                · rename_i hs
                  obtain ⟨s0, pre, e1, _⟩ := J1
                  rw [hs.2.2] at e1
                  cases pre <;> cases e1
                · cases E; exact J1
              · cases E
          split at E
          · cases st with
            | nil => cases E
            | cons s st1 =>
              simp only at E
              have J1 : ∃ s0 pre, s :: st1 = pre ++ [s0] ∧ 27 ≤ s0 % 64 := by
                rcases J with J | ⟨_, q, _⟩
                · exact J
                · cases q
              split at E
              · cases E; exact Or.inl (pop _ _ rfl J1 (by omega))
              split at E
              · cases E; exact Or.inl (pop _ _ rfl J1 (by omega))
              · cases E
          · cases E
