/-! the automaton: how many values an element takes, and which letters it may speak of -/
theorem hs_qsC {k t : Nat} {r st : List Nat} (h : hs_qs k (t :: r) st) : hs_qs k r st := ⟨fun x hx => h.1 x (List.mem_cons_of_mem _ hx), fun hx => h.2.1 (List.mem_cons_of_mem _ hx), h.2.2⟩
theorem hs_qsP {k s : Nat} {r st : List Nat} (h : hs_qs k r st) (h1 : s / 64 < 26) (h2 : s % 64 = 3 → 1 ≤ k) : hs_qs k r (s :: st) := by
  refine ⟨h.1, h.2.1, fun x hx => ?_⟩
  rcases List.mem_cons.mp hx with q | q
  · rw [q]; exact ⟨h1, h2⟩
  · exact h.2.2 x q
theorem hs_qsT {k s : Nat} {r st : List Nat} (h : hs_qs k r (s :: st)) : hs_qs k r st := ⟨h.1, h.2.1, fun x hx => h.2.2 x (List.mem_cons_of_mem _ hx)⟩
theorem hs_stepV {z w w' : Bool} {ts st ts' st' : List Nat} {e : List (Nat × Nat)} {k : Nat} (hst : hs_step z ts w st = some (ts', w', st', e)) (hq : hs_qs k ts st) :
    hs_qs k ts' st' ∧ ((e = [] ∧ hs_nv st w = hs_nv st' w') ∨ ∃ o q, e = [(o, q)] ∧ w' = false ∧ hs_nv st w = hs_nst st' + hs_arr o ∧ hs_oq k o q) := by
  cases w with
  | true =>
    cases ts with
    | nil => cases hst
    | cons t r =>
      have h : hs_opd t r st = some (ts', w', st', e) := hst
      clear hst
      have q1 := hs_qsC hq
      have t31 : t < 2 ^ 31 := hq.1 t List.mem_cons_self
      unfold hs_opd at h
      split at h
      · cases h
        exact ⟨q1, Or.inr ⟨1, t - 1000, rfl, rfl, rfl, by unfold hs_oq; omega⟩⟩
      split at h
      · cases h
        exact ⟨q1, Or.inr ⟨3, 0, rfl, rfl, rfl, by unfold hs_oq; omega⟩⟩
      split at h
      · rename_i c
        have := hs_tkN c
        cases h
        exact ⟨q1, Or.inr ⟨2, t - 100, rfl, rfl, rfl, by unfold hs_oq; omega⟩⟩
      split at h
      · obtain ⟨_, e4⟩ := hs_pshE h
        cases e4
        exact ⟨hs_qsP q1 (by decide) (by omega), Or.inl ⟨rfl, by unfold hs_nv; rw [hs_nst0 (by omega)]⟩⟩
      split at h
      · rename_i c
        have cc := hs_tkC c
        unfold hs_cls at h
        split at h
        · rename_i k1 r1
          split at h
          · obtain ⟨_, e4⟩ := hs_pshE h
            cases e4
            exact ⟨hs_qsP (hs_qsC q1) (by omega) (by omega), Or.inl ⟨rfl, by unfold hs_nv; rw [hs_nst0 (by omega)]⟩⟩
          · split at h
            · split at h
              · rename_i n r2
                split at h
                · rename_i c3
                  have := hs_tkN c3.1
                  cases h
                  exact ⟨hs_qsC (hs_qsC q1), Or.inr ⟨5, _, rfl, rfl, rfl, by unfold hs_oq; omega⟩⟩
                · cases h
              · cases h
            · cases h
        · cases h
      split at h
      · rename_i c
        subst c
        have d1 : 1 ≤ k := hq.2.1 List.mem_cons_self
        unfold hs_sup at h
        split at h
        · rename_i k1 n p1 r1
          split at h
          · rename_i c2
            have := hs_tkN c2.2.1
            obtain ⟨_, e4⟩ := hs_pshE h
            cases e4
            exact ⟨hs_qsP (hs_qsC (hs_qsC (hs_qsC q1))) (by omega) (fun _ => d1), Or.inl ⟨rfl, by unfold hs_nv; rw [hs_nst0 (by omega)]⟩⟩
          · cases h
        · cases h
      split at h
      · unfold hs_cl0 at h
        split at h
        · rename_i s st1
          split at h
          · rename_i c2
            cases h
            obtain ⟨s1, s2⟩ := hq.2.2 s List.mem_cons_self
            refine ⟨hs_qsT q1, Or.inr ⟨_, _, rfl, rfl, ?_, by unfold hs_oq; omega⟩⟩
            show hs_nst (s :: st') + 0 = _
            by_cases c3 : s % 64 = 2
            · have ha : hs_arr (2 * (s % 64) + 2) = 1 := if_pos (by omega)
              rw [hs_nst1 (by omega), ha]
            · have ha : hs_arr (2 * (s % 64) + 2) = 0 := (if_neg (by omega)).trans (if_neg (by omega))
              rw [hs_nst0 (by omega), ha]
          · cases h
        · cases h
      · cases h
  | false =>
    have h : hs_opr z ts st = some (ts', w', st', e) := hst
    clear hst
    unfold hs_opr at h
    split at h
    · rename_i cc
      cases h
      cases st with
      | nil => simp [hs_hd] at cc
      | cons s st1 =>
        have c27 : 27 ≤ s % 64 := cc.1
        have := hs_hdLt (s :: st1)
        refine ⟨hs_qsT hq, Or.inr ⟨_, _, rfl, rfl, ?_, by unfold hs_oq; show 1 ≤ s % 64 ∧ _; simp [hs_hd] at *; omega⟩⟩
        unfold hs_nv hs_arr
        show hs_nst (s :: st1) + 1 = hs_nst st1 + _
        have : hs_hd (s :: st1) % 64 = s % 64 := rfl
        rw [this, hs_nst1 (by omega), if_neg (by omega), if_pos (by omega)]
    · rename_i ncc
      clear ncc
      cases ts with
      | nil => cases h
      | cons t r =>
        have h1 : hs_opr1 z t r st = some (ts', w', st', e) := h
        clear h
        have q1 := hs_qsC hq
        unfold hs_opr1 at h1
        split at h1
        · rename_i r0
          have ht32 : 27 ≤ t ∧ t ≤ 32 := by
            unfold hs_rank at r0
            split at r0
            · omega
            · split at r0
              · omega
              · split at r0 <;> omega
          split at h1
          · cases h1
          · cases h1
            exact ⟨hs_qsP q1 (by omega) (by omega), Or.inl ⟨rfl, by unfold hs_nv; rw [hs_nst1 (by omega)]; simp⟩⟩
        split at h1
        · unfold hs_dot at h1
          split at h1
          · rename_i n r1
            split at h1
            · rename_i hn
              have := hs_tkN hn
              split at h1
              · obtain ⟨_, e4⟩ := hs_pshE h1
                cases e4
                have q3 : hs_qs k r1.tail st := by
                  cases r1 with
                  | nil => exact hs_qsC q1
                  | cons a b => exact hs_qsC (hs_qsC q1)
                exact ⟨hs_qsP q3 (by omega) (by omega), Or.inl ⟨rfl, by unfold hs_nv; rw [hs_nst1 (by omega)]; simp⟩⟩
              · split at h1
                · rename_i c26
                  have q3 : hs_qs k r1.tail st := by
                    cases r1 with
                    | nil => exact hs_qsC q1
                    | cons a b => exact hs_qsC (hs_qsC q1)
                  obtain ⟨_, _, rfl⟩ := c26
                  cases h1
                  exact ⟨hs_qsP q3 (by omega) (by omega), Or.inl ⟨rfl, by unfold hs_nv; rw [hs_nst1 (by omega)]; simp⟩⟩
                · cases h1
                  exact ⟨hs_qsC q1, Or.inr ⟨4, _, rfl, rfl, by unfold hs_nv hs_arr; simp, by unfold hs_oq; omega⟩⟩
            · cases h1
          · cases h1
        split at h1
        · unfold hs_cl1 at h1
          split at h1
          · rename_i s st1
            obtain ⟨s1, s2⟩ := hq.2.2 s List.mem_cons_self
            split at h1
            · rename_i c2
              cases h1
              exact ⟨hs_qsT q1, Or.inl ⟨rfl, by unfold hs_nv; rw [hs_nst0 (by omega)]⟩⟩
            · split at h1
              · rename_i c2
                cases h1
                refine ⟨hs_qsT q1, Or.inr ⟨_, _, rfl, rfl, ?_, by unfold hs_oq; omega⟩⟩
                show hs_nst (s :: st') + 1 = _
                by_cases c3 : s % 64 = 2
                · have ha : hs_arr (2 * (s % 64) + 3) = 2 := (if_neg (by omega)).trans (if_pos (by omega))
                  rw [hs_nst1 (by omega), ha]
                · have ha : hs_arr (2 * (s % 64) + 3) = 1 := if_pos (by omega)
                  rw [hs_nst0 (by omega), ha]
              · cases h1
          · cases h1
        · cases h1
