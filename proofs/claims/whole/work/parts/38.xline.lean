/-! a line on X's side, whole -/
theorem hs_PAapp {pd : Nat → Int32} {e : Nat} : ∀ {A B : List Nat} {c : Nat}, hs_PA pd e c (A ++ B) → hs_PA pd (c + A.length) c A ∧ hs_PA pd e (c + A.length) B
  | [], B, c, h => ⟨by show c = c + 0; omega, h⟩
  | t :: r, B, c, h => by
    obtain ⟨h1, h2⟩ := hs_PAapp (A := r) h.2.2
    refine ⟨⟨h.1, h.2.1, ?_⟩, ?_⟩
    · rw [show c + (t :: r).length = c + 1 + r.length by simp only [List.length_cons]; omega]; exact h1
    · rw [show c + (t :: r).length = c + 1 + r.length by simp only [List.length_cons]; omega]; exact h2
/-- without a sign = the statement's kind does not matter -/
theorem hs_stepZ {w : Bool} {ts st : List Nat} (h : 26 ∉ ts) : hs_step true ts w st = hs_step false ts w st := by
  cases w with
  | true => rfl
  | false =>
    show hs_opr true ts st = hs_opr false ts st
    unfold hs_opr
    split
    · rfl
    · cases ts with
      | nil => rfl
      | cons t r =>
        show hs_opr1 true t r st = hs_opr1 false t r st
        unfold hs_opr1
        split
        · rfl
        split
        · cases r with
          | nil => rfl
          | cons n r1 =>
            show (if hs_isN n = true then _ else none) = (if hs_isN n = true then _ else none)
            split
            · split
              · rfl
              · have n26 : hs_hd r1 ≠ 26 := by
                  cases r1 with
                  | nil => decide
                  | cons a r2 =>
                    intro y
                    have y : a = 26 := y
                    exact h (by rw [y]; simp)
                rw [if_neg (fun y => n26 y.1), if_neg (fun y => n26 y.1)]
            · rfl
        · rfl
theorem hs_stepMem {z w w' : Bool} {ts st ts' st' : List Nat} {e : List (Nat × Nat)} (h : hs_step z ts w st = some (ts', w', st', e)) (hm : 26 ∉ ts) : 26 ∉ ts' := by
  rcases hs_stepSuf h with ⟨p, e1, _⟩ | ⟨n, e1, _⟩
  · exact fun y => hm (by rw [e1]; exact List.mem_append.mpr (Or.inr y))
  · exact fun y => hm (by rw [e1]; simp [y])
theorem hs_runZ : ∀ {n : Nat} {ts : List Nat} {w : Bool} {st : List Nat} {cd : List (Nat × Nat)} {rs fs : List Nat}, 26 ∉ ts → (hs_run n true ts w st cd rs fs ↔ hs_run n false ts w st cd rs fs) := by
  intro n
  induction n with
  | zero => intro ts w st cd rs fs _; exact Iff.rfl
  | succ n ih =>
    intro ts w st cd rs fs hm
    constructor
    · rintro (h | ⟨f, ts', w', st', e, cd', E, r, h⟩)
      · exact Or.inl h
      · exact Or.inr ⟨f, ts', w', st', e, cd', by rw [← hs_stepZ hm]; exact E, r, (ih (hs_stepMem E hm)).mp h⟩
    · rintro (h | ⟨f, ts', w', st', e, cd', E, r, h⟩)
      · exact Or.inl h
      · exact Or.inr ⟨f, ts', w', st', e, cd', by rw [hs_stepZ hm]; exact E, r, (ih (hs_stepMem E hm)).mpr h⟩
theorem hs_Sz {ts st rs fs : List Nat} {w : Bool} {cd : List (Nat × Nat)} (h : 26 ∉ ts) : hs_S true ts w st cd rs fs ↔ hs_S false ts w st cd rs fs := ⟨fun ⟨n, q⟩ => ⟨n, (hs_runZ h).mp q⟩, fun ⟨n, q⟩ => ⟨n, (hs_runZ h).mpr q⟩⟩
theorem hs_S5 {n : Nat} (hn : hs_isN n = true) {E fs : List Nat} {cd : List (Nat × Nat)} : hs_S true (24 :: n :: 26 :: E) false [] cd [] fs ↔ (fs = [5 + 64 * (n - 100)] ∧ hs_S false E true [] cd [] []) := by
  have st : hs_step true (24 :: n :: 26 :: E) false [] = some (E, true, [5 + 64 * (n - 100)], []) := by
    rw [hs_dotE]
    show (if hs_isN n = true then _ else none) = _
    rw [if_pos hn]
    rfl
  have nf : ¬ hs_fin (24 :: n :: 26 :: E) false [] := hs_step25 (z := true) (by decide)
  have hb : (5 + 64 * (n - 100)) % 64 = 5 := by omega
  rw [hs_Sstep nf st]
  constructor
  · rintro ⟨cd', e0, m, h⟩
    have e0 : cd = cd' := e0
    subst e0
    obtain ⟨fs', e1, h2⟩ := (hs_runB (st := []) hb).mp h
    have hS : hs_S false E true [] cd [] fs' := ⟨m, h2⟩
    have : fs' = [] := by
      rcases (hs_gstS hS).2 with q | ⟨q, _⟩
      · exact q
      · cases q
    subst this
    exact ⟨e1, hS⟩
  · rintro ⟨rfl, m, h⟩
    exact ⟨cd, rfl, m, (hs_runB (st := []) hb).mpr ⟨[], rfl, h⟩⟩
theorem hs_LFkd {k f s t : Int32} {cd : List (Nat × Nat)} : ∀ {ts : List Nat}, hs_LF k f s t cd ts → hs_kd k (hs_hd ts)
  | [], h => h.elim
  | h :: r, hL => by
    show hs_kd k h
    by_cases hw : 1 ≤ h ∧ h ≤ 11
    · have : h = 1 ∨ h = 2 ∨ h = 3 ∨ h = 4 ∨ h = 5 ∨ h = 6 ∨ h = 7 ∨ h = 8 ∨ h = 9 ∨ h = 10 ∨ h = 11 := by omega
      rcases this with rfl | rfl | rfl | rfl | rfl | rfl | rfl | rfl | rfl | rfl | rfl <;> exact Or.inl ⟨by decide, by decide, hL.1⟩
    · rw [hs_LFo hw] at hL
      refine Or.inr ⟨hw, ?_⟩
      split at hL
      · exact Or.inr (Or.inl hL.1)
      · split at hL
        · exact Or.inr (Or.inr (Or.inr hL.1))
        · rcases hL with hL | hL
          · exact Or.inl hL.1
          · exact Or.inr (Or.inr (Or.inl hL.1))
