/-! the automaton of an expression: tokens left, is an operand wanted, the operators that wait (top first) -/
def hs_rank (t : Nat) : Nat := if t = 27 ∨ t = 28 then 1 else if t = 29 ∨ t = 30 then 2 else if t = 31 ∨ t = 32 then 3 else 0
def hs_isN (t : Nat) : Bool := decide (100 ≤ t ∧ t < 126)
def hs_isC (t : Nat) : Bool := decide (130 ≤ t ∧ t < 156)
def hs_opn : List Nat → Nat
  | [] => 0
  | s :: r => (if 1 ≤ s % 64 ∧ s % 64 ≤ 4 then 1 else 0) + hs_opn r
abbrev hs_R : Type := Option (List Nat × Bool × List Nat × List (Nat × Nat))
def hs_psh (s : Nat) (r st : List Nat) : hs_R := if 4 ≤ hs_opn st then none else some (r, true, s :: st, [])
def hs_hd : List Nat → Nat
  | [] => 0
  | t :: _ => t
def hs_cls (t : Nat) (r st : List Nat) : hs_R :=
  match r with
  | k :: r1 => if k = 21 then hs_psh (4 + 64 * (t - 130)) r1 st else if k = 24 then
      (match r1 with
      | n :: r2 => if hs_isN n = true ∧ hs_hd r2 ≠ 21 then some (r2, false, st, [(5, (t - 130) * 26 + (n - 100))]) else none
      | [] => none) else none
  | [] => none
def hs_sup (r st : List Nat) : hs_R :=
  match r with
  | k :: n :: p :: r1 => if k = 24 ∧ hs_isN n = true ∧ p = 21 then hs_psh (3 + 64 * (n - 100)) r1 st else none
  | _ => none
def hs_cl0 (r st : List Nat) : hs_R :=
  match st with
  | s :: st1 => if 2 ≤ s % 64 ∧ s % 64 ≤ 4 then some (r, false, st1, [(2 * (s % 64) + 2, s / 64)]) else none
  | [] => none
def hs_opd (t : Nat) (r st : List Nat) : hs_R :=
  if 1000 ≤ t then some (r, false, st, [(1, t - 1000)])
  else if t = 12 then some (r, false, st, [(3, 0)])
  else if hs_isN t = true then some (r, false, st, [(2, t - 100)])
  else if t = 21 then hs_psh 1 r st
  else if hs_isC t = true then hs_cls t r st
  else if t = 13 then hs_sup r st
  else if t = 22 then hs_cl0 r st
  else none
def hs_dot (z : Bool) (r st : List Nat) : hs_R :=
  match r with
  | n :: r1 => if hs_isN n = true then
      (if hs_hd r1 = 21 then hs_psh (2 + 64 * (n - 100)) r1.tail st
      else if hs_hd r1 = 26 ∧ z = true ∧ st = [] then some (r1.tail, true, [5 + 64 * (n - 100)], [])
      else some (r1, false, st, [(4, n - 100)])) else none
  | [] => none
def hs_cl1 (r st : List Nat) : hs_R :=
  match st with
  | s :: st1 => if s % 64 = 1 then some (r, false, st1, []) else if 2 ≤ s % 64 ∧ s % 64 ≤ 4 then some (r, false, st1, [(2 * (s % 64) + 3, s / 64)]) else none
  | [] => none
def hs_opr1 (z : Bool) (t : Nat) (r st : List Nat) : hs_R :=
  if 0 < hs_rank t then (if hs_rank t = 1 ∧ hs_rank (hs_hd st % 64) = 1 then none else some (r, true, t :: st, []))
  else if t = 24 then hs_dot z r st
  else if t = 22 then hs_cl1 r st
  else none
def hs_opr (z : Bool) (ts st : List Nat) : hs_R :=
  if 27 ≤ hs_hd st % 64 ∧ hs_hd ts ≠ 24 ∧ hs_rank (hs_hd ts) ≤ hs_rank (hs_hd st % 64) ∧ ¬ (hs_rank (hs_hd ts) = 1 ∧ hs_rank (hs_hd st % 64) = 1) then some (ts, false, st.tail, [(hs_hd st % 64, 0)])
  else match ts with
  | [] => none
  | t :: r => hs_opr1 z t r st
def hs_step (z : Bool) (ts : List Nat) (w : Bool) (st : List Nat) : hs_R :=
  if w then (match ts with
    | [] => none
    | t :: r => hs_opd t r st)
  else hs_opr z ts st
def hs_fin (ts : List Nat) (w : Bool) (st : List Nat) : Prop := w = false ∧ (ts = [] ∨ hs_hd ts = 25) ∧ ¬ 27 ≤ hs_hd st % 64 ∧ ¬ (1 ≤ hs_hd st % 64 ∧ hs_hd st % 64 ≤ 4)
theorem hs_pshE {s : Nat} {r st : List Nat} {x : List Nat × Bool × List Nat × List (Nat × Nat)} (h : hs_psh s r st = some x) : hs_opn st < 4 ∧ x = (r, true, s :: st, []) := by
  unfold hs_psh at h
  split at h
  · cases h
  · cases h
    exact ⟨by omega, rfl⟩
/-- every step shortens -/
theorem hs_opdM {t : Nat} {r st ts' st' : List Nat} {w' : Bool} {e : List (Nat × Nat)} (h : hs_opd t r st = some (ts', w', st', e)) : 2 * ts'.length + st'.length < 2 * (t :: r).length + st.length ∧ st'.length + ts'.length + (if w' then 0 else 1) ≤ st.length + (t :: r).length := by
  unfold hs_opd hs_cls hs_sup hs_cl0 at h
  simp only [List.length_cons]
  repeat' split at h
  all_goals first
    | (cases h; done)
    | (cases h; constructor <;> (try simp) <;> (try omega); done)
    | (obtain ⟨_, e⟩ := hs_pshE h; cases e; constructor <;> (try simp) <;> (try omega); done)
theorem hs_oprM {z : Bool} {ts st ts' st' : List Nat} {w' : Bool} {e : List (Nat × Nat)} (h : hs_opr z ts st = some (ts', w', st', e)) : 2 * ts'.length + st'.length < 2 * ts.length + st.length ∧ st'.length + ts'.length + (if w' then 0 else 1) ≤ st.length + ts.length + 1 := by
  unfold hs_opr at h
  split at h
  · rename_i c
    cases h
    cases st with
    | nil => simp [hs_hd] at c
    | cons s r => constructor <;> (try simp) <;> (try omega)
  · split at h
    · cases h
    · rename_i r
      simp only [List.length_cons]
      unfold hs_opr1 hs_dot hs_cl1 at h
      split at h
      · split at h
        · cases h
        · cases h; constructor <;> (try simp) <;> (try omega)
      · split at h
        · split at h
          · rename_i r1
            have := List.length_tail (l := r1)
            split at h
            · split at h
              · obtain ⟨_, e⟩ := hs_pshE h; cases e; simp only [List.length_cons] at *; constructor <;> (try simp) <;> (try omega)
              · split at h
                · rename_i c
                  cases h; simp only [List.length_cons] at *; constructor <;> (try simp [c.2.2]) <;> (try omega)
                · cases h; constructor <;> (try simp) <;> (try omega)
            · cases h
          · cases h
        · split at h
          · split at h
            · split at h
              · cases h; constructor <;> (try simp) <;> (try omega)
              · split at h
                · cases h; constructor <;> (try simp) <;> (try omega)
                · cases h
            · cases h
          · cases h
theorem hs_stepM {z w w' : Bool} {ts st ts' st' : List Nat} {e : List (Nat × Nat)} (h : hs_step z ts w st = some (ts', w', st', e)) : 2 * ts'.length + st'.length < 2 * ts.length + st.length ∧ st'.length + ts'.length + (if w' then 0 else 1) ≤ st.length + ts.length + (if w then 0 else 1) := by
  unfold hs_step at h
  split at h
  · rename_i hw
    split at h
    · cases h
    · have := hs_opdM h
      rw [hw]
      simpa using this
  · rename_i hw
    have := hs_oprM h
    simp at hw
    rw [hw]
    simpa using this
/-- the automaton goes from a state to its end, and writes this code -/
def hs_run : Nat → Bool → List Nat → Bool → List Nat → List (Nat × Nat) → List Nat → List Nat → Prop
  | 0, _, _, _, _, _, _, _ => False
  | n + 1, z, ts, w, st, cd, rs, fs => (hs_fin ts w st ∧ cd = [] ∧ rs = ts ∧ fs = st) ∨ (¬ hs_fin ts w st ∧ ∃ ts' w' st' e cd', hs_step z ts w st = some (ts', w', st', e) ∧ cd = e ++ cd' ∧ hs_run n z ts' w' st' cd' rs fs)
theorem hs_runU : ∀ {n m : Nat} {z w : Bool} {ts st rs fs rs' fs' : List Nat} {cd cd' : List (Nat × Nat)}, hs_run n z ts w st cd rs fs → hs_run m z ts w st cd' rs' fs' → cd = cd' ∧ rs = rs' ∧ fs = fs' := by
  intro n
  induction n with
  | zero => intro m z w ts st rs fs rs' fs' cd cd' h; exact h.elim
  | succ n ih =>
    intro m z w ts st rs fs rs' fs' cd cd' h h'
    cases m with
    | zero => exact h'.elim
    | succ m =>
      rcases h with ⟨f, rfl, rfl, rfl⟩ | ⟨f, a, b, c, e, k, h1, rfl, h2⟩
      · rcases h' with ⟨f', rfl, rfl, rfl⟩ | ⟨f', _⟩
        · exact ⟨rfl, rfl, rfl⟩
        · exact absurd f f'
      · rcases h' with ⟨f', _⟩ | ⟨f', a', b', c', e', k', h1', rfl, h2'⟩
        · exact absurd f' f
        · rw [h1] at h1'
          cases h1'
          obtain ⟨rfl, rfl, rfl⟩ := ih h2 h2'
          exact ⟨rfl, rfl, rfl⟩
theorem hs_runMono : ∀ {n m : Nat} {z w : Bool} {ts st rs fs : List Nat} {cd : List (Nat × Nat)}, n ≤ m → hs_run n z ts w st cd rs fs → hs_run m z ts w st cd rs fs := by
  intro n
  induction n with
  | zero => intro m z w ts st rs fs cd _ h; exact h.elim
  | succ n ih =>
    intro m z w ts st rs fs cd hm h
    obtain ⟨m, rfl⟩ : ∃ k, m = k + 1 := ⟨m - 1, by omega⟩
    rcases h with h | ⟨f, a, b, c, e, k, h1, h2, h3⟩
    · exact Or.inl h
    · exact Or.inr ⟨f, a, b, c, e, k, h1, h2, ih (by omega) h3⟩
/-- the whole rest is read, and this is its code -/
def hs_S (z : Bool) (ts : List Nat) (w : Bool) (st : List Nat) (cd : List (Nat × Nat)) (rs fs : List Nat) : Prop := ∃ n, hs_run n z ts w st cd rs fs
theorem hs_Sfin {z w : Bool} {ts st rs fs : List Nat} {cd : List (Nat × Nat)} (h : hs_fin ts w st) : hs_S z ts w st cd rs fs ↔ cd = [] ∧ rs = ts ∧ fs = st := by
  constructor
  · rintro ⟨n, hn⟩
    cases n with
    | zero => exact hn.elim
    | succ n =>
      rcases hn with ⟨_, h2⟩ | ⟨h2, _⟩
      · exact h2
      · exact absurd h h2
  · exact fun h2 => ⟨1, Or.inl ⟨h, h2⟩⟩
theorem hs_Sstep {z w w' : Bool} {ts st ts' st' rs fs : List Nat} {e cd : List (Nat × Nat)} (h : ¬ hs_fin ts w st) (hs : hs_step z ts w st = some (ts', w', st', e)) : hs_S z ts w st cd rs fs ↔ ∃ cd', cd = e ++ cd' ∧ hs_S z ts' w' st' cd' rs fs := by
  constructor
  · rintro ⟨n, hn⟩
    cases n with
    | zero => exact hn.elim
    | succ n =>
      rcases hn with ⟨h2, _⟩ | ⟨_, a, b, c, k, cd', h1, h2, h3⟩
      · exact absurd h2 h
      · rw [hs] at h1
        cases h1
        exact ⟨cd', h2, n, h3⟩
  · rintro ⟨cd', h2, n, h3⟩
    exact ⟨n + 1, Or.inr ⟨h, _, _, _, _, cd', hs, h2, h3⟩⟩
theorem hs_Sbad {z w : Bool} {ts st rs fs : List Nat} {cd : List (Nat × Nat)} (h : ¬ hs_fin ts w st) (hs : hs_step z ts w st = none) : ¬ hs_S z ts w st cd rs fs := by
  rintro ⟨n, hn⟩
  cases n with
  | zero => exact hn.elim
  | succ n =>
    rcases hn with ⟨h2, _⟩ | ⟨_, a, b, c, k, cd', h1, h2, h3⟩
    · exact absurd h2 h
    · rw [hs] at h1; cases h1
