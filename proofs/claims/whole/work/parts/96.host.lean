/-! the host's text: five lines -/
section
variable {x_objectLimit x_stepLimit x_depthLimit x_pendingCount x_keptTokens x_keptLines x_lineCount x_codeCount x_cursor x_stop x_waitingCount x_openCount x_classCount x_callCount x_operandCount x_stepsTaken x_error x_raisedCode x_printCount x_lastPlace : Int32} {x_lastResult : Int64} {x_pending x_lineTable x_orders x_merging x_letterClass x_objectClass x_calls x_lastPrints : Nat → Int32} {x_code x_waiting x_globals x_entries x_attributes x_held x_operands : Nat → Int64}
variable {y_maxObjects y_maxSteps y_maxDepth y_kept y_end y_tokens y_pending y_lines y_classes y_prints y_place y_steps y_d y_valTop y_opTop y_opens y_pos y_tk y_tv y_stmt y_target y_err y_code y_outcome y_dry y_want y_starting y_ended y_bad y_hosted y_sawSuper : Int32} {y_result : Int64} {y_text y_numbers y_classOf y_alive y_orders y_lengths y_letters y_bases y_ops y_fLine y_fPos y_fStmt y_fTarget y_fMask y_fHome y_fOps y_fVals y_fNew y_out : Nat → Int32} {y_globals y_entries y_attrs y_vals y_locals y_fRecv : Nat → Int64}
def hs_ev (z : Bool) : Nat → List Nat → Bool → List Nat → Option (List (Nat × Nat) × List Nat × List Nat)
  | 0, _, _, _ => none
  | n + 1, ts, w, st => if w = false ∧ (ts = [] ∨ hs_hd ts = 25) ∧ ¬ 27 ≤ hs_hd st % 64 ∧ ¬ (1 ≤ hs_hd st % 64 ∧ hs_hd st % 64 ≤ 4) then some ([], ts, st) else match hs_step z ts w st with
    | none => none
    | some (ts', w', st', e) => match hs_ev z n ts' w' st' with
      | none => none
      | some (cd, rs, fs) => some (e ++ cd, rs, fs)
theorem hs_evS {z : Bool} : ∀ {n : Nat} {ts : List Nat} {w : Bool} {st : List Nat} {cd : List (Nat × Nat)} {rs fs : List Nat}, hs_ev z n ts w st = some (cd, rs, fs) → hs_run n z ts w st cd rs fs := by
  intro n
  induction n with
  | zero => intro ts w st cd rs fs h; cases h
  | succ n ih =>
    intro ts w st cd rs fs h
    unfold hs_ev at h
    split at h
    · rename_i q
      have h' := Option.some.inj h
      have e1 : [] = cd := congrArg Prod.fst h'
      have e2 : ts = rs := congrArg (fun x => x.2.1) h'
      have e3 : st = fs := congrArg (fun x => x.2.2) h'
      exact Or.inl ⟨q, e1.symm, e2.symm, e3.symm⟩
    · rename_i q
      cases q2 : hs_step z ts w st with
      | none => rw [q2] at h; cases h
      | some x =>
        obtain ⟨ts', w', st', e⟩ := x
        rw [q2] at h
        have h1 : (match hs_ev z n ts' w' st' with | none => none | some (cd, rs, fs) => some (e ++ cd, rs, fs)) = some (cd, rs, fs) := h
        cases q3 : hs_ev z n ts' w' st' with
        | none => rw [q3] at h1; cases h1
        | some y =>
          obtain ⟨cd1, rs1, fs1⟩ := y
          rw [q3] at h1
          have h' := Option.some.inj h1
          have e1 : e ++ cd1 = cd := congrArg Prod.fst h'
          have e2 : rs1 = rs := congrArg (fun x => x.2.1) h'
          have e3 : fs1 = fs := congrArg (fun x => x.2.2) h'
          subst e1 e2 e3
          exact Or.inr ⟨q, ts', w', st', e, cd1, q2, rfl, ih q3⟩
def hs_hT : List Nat := [1, 153, 25, 41, 2, 107, 21, 118, 23, 123, 22, 25, 42, 3, 123, 31, 1002, 41, 2, 119, 21, 118, 23, 123, 22, 25, 42, 3, 118, 24, 107, 21, 123, 22, 30, 118, 24, 107, 21, 123, 30, 1001, 22]
def hs_tkH : Nat → List Nat
  | 0 => [1, 153, 25]
  | 1 => [2, 107, 21, 118, 23, 123, 22, 25]
  | 2 => [3, 123, 31, 1002]
  | 3 => [2, 119, 21, 118, 23, 123, 22, 25]
  | _ => [3, 118, 24, 107, 21, 123, 22, 30, 118, 24, 107, 21, 123, 30, 1001, 22]
def hs_PH : Nat → Nat
  | 0 => 0
  | 1 => 4
  | 2 => 13
  | 3 => 18
  | _ => 27
def hs_iH : Nat → Nat
  | 0 => 0
  | 1 => 1
  | 2 => 2
  | 3 => 1
  | _ => 2
def hs_hH (i : Nat) : Nat := hs_hd (hs_tkH i)
theorem hs_hostR2 : ∃ cd, hs_S false [123, 31, 1002] true [] cd [] [] := ⟨_, 20, hs_evS (n := 20) rfl⟩
theorem hs_hostR4 : ∃ cd, hs_S false [118, 24, 107, 21, 123, 22, 30, 118, 24, 107, 21, 123, 30, 1001, 22] true [] cd [] [] := ⟨_, 60, hs_evS (n := 60) rfl⟩
theorem hs_hostLF : ∀ i, i < 5 → ∃ k f s t cd, hs_LF k f s t cd (hs_tkH i) := by
  intro i hi
  have : i = 0 ∨ i = 1 ∨ i = 2 ∨ i = 3 ∨ i = 4 := by omega
  rcases this with rfl | rfl | rfl | rfl | rfl
  · exact ⟨1, nI 23, -1, -1, [], rfl, rfl, 153, rfl, rfl, Or.inl ⟨rfl, rfl, rfl⟩⟩
  · exact ⟨2, nI 7, nI 18, nI 23, [], rfl, rfl, 107, 118, rfl, rfl, rfl, rfl, Or.inr ⟨123, rfl, by decide, rfl, rfl⟩⟩
  · obtain ⟨cd, h⟩ := hs_hostR2
    exact ⟨3, 0, 0, 0, cd, rfl, h⟩
  · exact ⟨2, nI 19, nI 18, nI 23, [], rfl, rfl, 119, 118, rfl, rfl, rfl, rfl, Or.inr ⟨123, rfl, by decide, rfl, rfl⟩⟩
  · obtain ⟨cd, h⟩ := hs_hostR4
    exact ⟨3, 0, 0, 0, cd, rfl, h⟩
theorem hs_hostLok : ∀ i, i < 5 → hs_lok hs_tkH hs_hH hs_iH 0 i := by
  intro i hi
  have n7 : ∀ m, m < 5 → hs_hH m ≠ 7 := by decide
  refine ⟨?_, hs_hostLF i hi, fun m _ m2 tb => n7 m (by omega) tb.1, ?_, ?_⟩
  · have : ∀ i, i < 5 → (hs_tkH i).length ≤ 40 := by decide
    exact this i hi
  · have : i = 0 ∨ i = 1 ∨ i = 2 ∨ i = 3 ∨ i = 4 := by omega
    rcases this with rfl | rfl | rfl | rfl | rfl
    · exact ⟨fun _ => rfl, fun z => by omega, fun z => by omega, fun z => absurd z (by decide), fun z => absurd z (by decide)⟩
    · exact ⟨fun z => by omega, fun _ _ => by decide, fun _ z => absurd (Or.inl rfl) z, fun z => absurd z (by decide), fun z => absurd z (by decide)⟩
    · exact ⟨fun z => by omega, fun _ _ => by decide, fun _ z => absurd (Or.inr (Or.inl rfl)) z, fun z => absurd z (by decide), fun z => absurd z (by decide)⟩
    · refine ⟨fun z => by omega, fun _ z => ?_, fun _ _ => ⟨by decide, 1, rfl, rfl⟩, fun z => absurd z (by decide), fun z => absurd z (by decide)⟩
      rcases z with z | z | z
      · exact absurd z (by decide)
      · exact absurd z (by decide)
      · exact absurd z (by decide)
    · exact ⟨fun z => by omega, fun _ _ => by decide, fun _ z => absurd (Or.inr (Or.inl rfl)) z, fun z => absurd z (by decide), fun z => absurd z (by decide)⟩
  · have : i = 0 ∨ i = 1 ∨ i = 2 ∨ i = 3 ∨ i = 4 := by omega
    rcases this with rfl | rfl | rfl | rfl | rfl
    · refine ⟨fun z => absurd z.2 (by decide), fun z => ?_, fun ⟨p, e, _⟩ => (by cases e), fun _ => by decide⟩
      rcases z with z | z
      · exact absurd z (by decide)
      · exact absurd z (by decide)
    · exact ⟨fun z => absurd z.1 (by decide), fun z => z.elim (fun z => absurd z (by decide)) (fun z => absurd z (by decide)), fun _ => Or.inr (Or.inl rfl), fun z => absurd ⟨0, rfl, rfl⟩ z⟩
    · refine ⟨fun z => absurd z.1 (by decide), fun _ => by decide, fun ⟨p, e, q⟩ => ?_, fun _ => by decide⟩
      have e' : some 1 = some p := e
      have := Option.some.inj e'
      subst this
      exact absurd q (by decide)
    · exact ⟨fun z => absurd z.1 (by decide), fun z => z.elim (fun z => absurd z (by decide)) (fun z => absurd z (by decide)), fun _ => Or.inr (Or.inl rfl), fun z => absurd ⟨0, rfl, rfl⟩ z⟩
    · refine ⟨fun z => absurd z.1 (by decide), fun _ => by decide, fun ⟨p, e, q⟩ => ?_, fun _ => by decide⟩
      have e' : some 3 = some p := e
      have := Option.some.inj e'
      subst this
      exact absurd q (by decide)
theorem hs_hostEok : hs_eok hs_hH hs_iH 0 5 := by
  refine ⟨fun _ z => ?_, fun m _ m2 h7 => ?_⟩
  · rcases z with z | z | z
    · exact absurd z (by decide)
    · exact absurd z (by decide)
    · exact absurd z (by decide)
  · have n7 : ∀ m, m < 5 → hs_hH m ≠ 7 := by decide
    exact absurd h7 (n7 m m2)
def hs_TAb (tx : Nat → Int32) : Nat → List Nat → Bool
  | p, [] => decide ((tx p = -1 ∨ tx p = 41 ∨ tx p = 42) ∧ p < 1024)
  | p, t :: r => decide (tx p = nI t ∧ 0 < t ∧ t < 2 ^ 31 ∧ ¬ (t = 0 ∨ (40 ≤ t ∧ t ≤ 48)) ∧ p < 1024) && hs_TAb tx (p + 1) r
theorem hs_TAbT {tx : Nat → Int32} : ∀ {ts : List Nat} {p : Nat}, hs_TAb tx p ts = true → hs_TA tx p ts
  | [], p, h => by
    obtain ⟨h1, h2⟩ := of_decide_eq_true h
    refine ⟨?_, ?_, h2⟩
    · rcases h1 with z | z | z
      · exact Or.inl z
      · exact Or.inr ⟨41, by decide, by decide, z⟩
      · exact Or.inr ⟨42, by decide, by decide, z⟩
    · unfold hs_g
      rcases h1 with z | z | z <;> rw [z]
      · exact Or.inl (by decide)
      · exact Or.inr (by decide)
      · exact Or.inr (by decide)
  | t :: r, p, h => by
    have h' : (decide (tx p = nI t ∧ 0 < t ∧ t < 2 ^ 31 ∧ ¬ (t = 0 ∨ (40 ≤ t ∧ t ≤ 48)) ∧ p < 1024) && hs_TAb tx (p + 1) r) = true := h
    rw [Bool.and_eq_true] at h'
    obtain ⟨h1, h2, h3, h4, h5⟩ := of_decide_eq_true h'.1
    refine ⟨?_, Or.inr ⟨t, h2, h3, h1⟩, h4, h5, hs_TAbT h'.2⟩
    unfold hs_g
    rw [h1]; exact nI_clamp h3
theorem hs_TAu {tx : Nat → Int32} : ∀ {ts ts' : List Nat} {p : Nat}, hs_TA tx p ts → hs_TA tx p ts' → ts = ts'
  | [], [], _, _, _ => rfl
  | [], t :: r, p, h1, h2 => absurd (by rw [← h2.1]; exact h1.2.1) h2.2.2.1
  | t :: r, [], p, h1, h2 => absurd (by rw [← h1.1]; exact h2.2.1) h1.2.2.1
  | t :: r, t' :: r', p, h1, h2 => by
    have e : t = t' := h1.1.symm.trans h2.1
    rw [e, hs_TAu h1.2.2.2.2 h2.2.2.2.2]
/-- the lines of the host's text -/
theorem hs_hostL {tx : Nat → Int32} {b : Nat} {P ind h : Nat → Nat} {tk : Nat → List Nat} (hs : ∀ p, p < 43 → ((¬ (hs_g tx p = 0 ∨ (40 ≤ hs_g tx p ∧ hs_g tx p ≤ 48)) ∧ (p = 0 ∨ (hs_g tx (p - 1) = 0 ∨ (40 ≤ hs_g tx (p - 1) ∧ hs_g tx (p - 1) ≤ 48)))) ↔ (p = 0 ∨ p = 4 ∨ p = 13 ∨ p = 18 ∨ p = 27))) (hT : ∀ i, i < 5 → hs_TAb tx (hs_PH i) (hs_tkH i) = true) (hi : ∀ i, i < 5 → hs_ind tx 0 (hs_PH i) = hs_iH i) (C : hs_Ch tx 0 43 0 b P ind) (K : hs_TK tx 0 b P h tk) : b = 5 ∧ (∀ i, i < 5 → P i = hs_PH i) ∧ hs_sm hs_iH ind hs_hH h hs_tkH tk 0 5 := by
  obtain ⟨⟨hc, h0, hok⟩, hnz, hcs, hP, hm, hall⟩ := C
  have inS : ∀ i, i < b → (P i = 0 ∨ P i = 4 ∨ P i = 13 ∨ P i = 18 ∨ P i = 27) := by
    intro i ib
    obtain ⟨p1, p2, p3, p4, p5⟩ := hP i (Nat.zero_le _) ib
    exact (hs (P i) p2).mp ⟨p3, p4⟩
  have ex : ∀ x, (x = 0 ∨ x = 4 ∨ x = 13 ∨ x = 18 ∨ x = 27) → ∃ i, i < b ∧ P i = x := by
    intro x hx
    obtain ⟨q1, q2⟩ := (hs x (by omega)).mpr hx
    obtain ⟨i, _, i2, i3⟩ := hall x (Nat.zero_le _) (by omega) q1 q2
    exact ⟨i, i2, i3⟩
  have nxt : ∀ i j x y, i < b → j < b → P i = x → P j = y → x < y → (∀ z, (z = 0 ∨ z = 4 ∨ z = 13 ∨ z = 18 ∨ z = 27) → ¬ (x < z ∧ z < y)) → j = i + 1 := by
    intro i j x y ib jb ei ej xy no
    rcases Nat.lt_trichotomy i j with z | z | z
    · rcases Nat.lt_or_ge (i + 1) j with w | w
      · have a1 := hm i (i + 1) (Nat.zero_le _) (by omega) (by omega)
        have a2 := hm (i + 1) j (Nat.zero_le _) w jb
        exact absurd ⟨by omega, by omega⟩ (no (P (i + 1)) (inS (i + 1) (by omega)))
      · omega
    · subst z; omega
    · have := hm j i (Nat.zero_le _) z ib
      omega
  obtain ⟨i0, b0, e0⟩ := ex 0 (by omega)
  have z0 : i0 = 0 := by
    rcases Nat.lt_or_ge 0 i0 with z | z
    · have := hm 0 i0 (Nat.le_refl _) z b0; omega
    · omega
  subst z0
  obtain ⟨i1, b1, e1⟩ := ex 4 (by omega)
  have z1 := nxt 0 i1 0 4 b0 b1 e0 e1 (by omega) (fun z hz => by omega)
  subst z1
  obtain ⟨i2, b2, e2⟩ := ex 13 (by omega)
  have z2 := nxt (0 + 1) i2 4 13 b1 b2 e1 e2 (by omega) (fun z hz => by omega)
  subst z2
  obtain ⟨i3, b3, e3⟩ := ex 18 (by omega)
  have z3 := nxt (0 + 1 + 1) i3 13 18 b2 b3 e2 e3 (by omega) (fun z hz => by omega)
  subst z3
  obtain ⟨i4, b4, e4⟩ := ex 27 (by omega)
  have z4 := nxt (0 + 1 + 1 + 1) i4 18 27 b3 b4 e3 e4 (by omega) (fun z hz => by omega)
  subst z4
  have hb : b = 5 := by
    rcases Nat.lt_or_ge 5 b with z | z
    · have e4' : P 4 = 27 := e4
      have := hm 4 5 (by omega) (by omega) z
      have := inS 5 z
      omega
    · omega
  subst hb
  have hPi : ∀ i, i < 5 → P i = hs_PH i := by
    intro i hi'
    have : i = 0 ∨ i = 1 ∨ i = 2 ∨ i = 3 ∨ i = 4 := by omega
    rcases this with rfl | rfl | rfl | rfl | rfl
    · exact e0
    · exact e1
    · exact e2
    · exact e3
    · exact e4
  refine ⟨rfl, hPi, fun i i1 i2 => ?_⟩
  obtain ⟨g1, g2, g3, g4⟩ := K i i1 i2
  have et : hs_tkH i = tk i := by
    rw [hPi i i2] at g1
    exact hs_TAu (hs_TAbT (hT i i2)) g1
  refine ⟨?_, ?_, et⟩
  · rw [(hP i i1 i2).2.2.2.2, hPi i i2]; exact (hi i i2).symm
  · rw [g4, ← et]; rfl
end
