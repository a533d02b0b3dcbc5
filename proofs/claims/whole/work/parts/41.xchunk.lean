/-! keepChunk, whole -/
section
variable {x_objectLimit x_stepLimit x_depthLimit x_pendingCount x_keptTokens x_keptLines x_lineCount x_codeCount x_cursor x_stop x_waitingCount x_openCount x_classCount x_callCount x_operandCount x_stepsTaken x_error x_raisedCode x_printCount x_lastPlace : Int32} {x_lastResult : Int64} {x_pending x_lineTable x_orders x_merging x_letterClass x_objectClass x_calls x_lastPrints : Nat → Int32} {x_code x_waiting x_globals x_entries x_attributes x_held x_operands : Nat → Int64}
variable {y_maxObjects y_maxSteps y_maxDepth y_kept y_end y_tokens y_pending y_lines y_classes y_prints y_place y_steps y_d y_valTop y_opTop y_opens y_pos y_tk y_tv y_stmt y_target y_err y_code y_outcome y_dry y_want y_starting y_ended y_bad y_hosted y_sawSuper : Int32} {y_result : Int64} {y_text y_numbers y_classOf y_alive y_orders y_lengths y_letters y_bases y_ops y_fLine y_fPos y_fStmt y_fTarget y_fMask y_fHome y_fOps y_fVals y_fNew y_out : Nat → Int32} {y_globals y_entries y_attrs y_vals y_locals y_fRecv : Nat → Int64}
def hs_toks (tx : Nat → Int32) : Nat → Nat → List Nat
  | _, 0 => []
  | p, n + 1 => hs_g tx p :: hs_toks tx (p + 1) n
theorem hs_toksLen {tx : Nat → Int32} : ∀ (n p : Nat), (hs_toks tx p n).length = n
  | 0, _ => rfl
  | n + 1, p => by show (hs_toks tx (p + 1) n).length + 1 = n + 1; rw [hs_toksLen n (p + 1)]
theorem hs_toksTA {tx : Nat → Int32} : ∀ (n p : Nat), (∀ k, p ≤ k → k < p + n → hs_okc (tx k) ∧ ¬ hs_en (hs_g tx k)) → hs_okc (tx (p + n)) → hs_en (hs_g tx (p + n)) → p + n < 1024 → hs_TA tx p (hs_toks tx p n)
  | 0, p, _, h1, h2, h3 => ⟨h1, h2, h3⟩
  | n + 1, p, h, h1, h2, h3 => by
    obtain ⟨a, b⟩ := h p (Nat.le_refl _) (by omega)
    refine ⟨rfl, a, b, by omega, hs_toksTA n (p + 1) (fun k k1 k2 => h k (by omega) (by omega)) ?_ ?_ (by omega)⟩
    · rw [show p + 1 + n = p + (n + 1) by omega]; exact h1
    · rw [show p + 1 + n = p + (n + 1) by omega]; exact h2
theorem hs_toksPA {tx pd : Nat → Int32} {cs : Nat} : ∀ (n c : Nat), (∀ k, c ≤ k → k < c + n → hs_rx (pd k) (hs_g tx (cs + k)) ∧ hs_g tx (cs + k) ≠ 0) → hs_PA pd (c + n) c (hs_toks tx (cs + c) n)
  | 0, c, _ => rfl
  | n + 1, c, h => by
    obtain ⟨a, b⟩ := h c (Nat.le_refl _) (by omega)
    refine ⟨a, b, ?_⟩
    have := hs_toksPA (tx := tx) (pd := pd) (cs := cs) n (c + 1) (fun k k1 k2 => h k (by omega) (by omega))
    rw [show c + 1 + n = c + (n + 1) by omega] at this
    exact this
theorem hs_toksMem {tx : Nat → Int32} : ∀ (n p x : Nat), x ∈ hs_toks tx p n → ∃ k, p ≤ k ∧ k < p + n ∧ x = hs_g tx k
  | 0, _, _, h => by cases h
  | n + 1, p, x, h => by
    rcases List.mem_cons.mp h with h | h
    · exact ⟨p, Nat.le_refl _, by omega, h⟩
    · obtain ⟨k, k1, k2, k3⟩ := hs_toksMem n (p + 1) x h
      exact ⟨k, by omega, by omega, k3⟩
/-- the chunk as both sides see it -/
theorem hs_mkCh {tx pd LT : Nat → Int32} {cs pn kl a b : Nat} {P E : Nat → Nat} (hD : hs_PD tx pd cs pn) (he : tx (cs + pn) = -1) (hcs : cs + pn < 1024) (hc0 : cs = 0 ∨ tx (cs - 1) = -1) (R : hs_Rw tx LT cs kl a b (cs + pn) P E) :
    hs_Ch tx cs (cs + pn) a b P (fun i => hs_ind tx cs (P i)) ∧ hs_TK tx a b P (fun i => hs_hd (hs_toks tx (P i) (E i - P i))) (fun i => hs_toks tx (P i) (E i - P i)) ∧
    (∀ i, a ≤ i → i < b → hs_PA pd (E i - cs) (P i - cs) (hs_toks tx (P i) (E i - P i)) ∧ (P i - cs = 0 ∨ ∃ t, 40 ≤ t ∧ t ≤ 48 ∧ pd (P i - cs - 1) = nI t) ∧ E i ≤ cs + pn) ∧ (∀ i, a ≤ i → i + 1 < b → E i ≤ P (i + 1)) := by
  obtain ⟨r1, r2, r3⟩ := R
  have gce : hs_g tx (cs + pn) = 0 := by unfold hs_g; rw [he]; exact hs_m1c
  have raw : ∀ p, cs ≤ p → p < cs + pn → hs_okc (tx p) ∧ hs_g tx p ≠ 0 ∧ ((hs_en (hs_g tx p) ∧ ∃ t, 40 ≤ t ∧ t ≤ 48 ∧ pd (p - cs) = nI t ∧ tx p = nI t) ∨ (¬ hs_en (hs_g tx p) ∧ hs_rx (pd (p - cs)) (hs_g tx p) ∧ hs_vt (hs_g tx p))) := by
    intro p p1 p2
    obtain ⟨d0, d1⟩ := hD (p - cs) (by omega)
    rw [show cs + (p - cs) = p by omega] at d1
    obtain ⟨w1, w2, w3⟩ := hs_rawT d0
    rw [← d1] at w1 w2 w3
    refine ⟨w1, w2, ?_⟩
    rcases w3 with ⟨a1, t, t1, t2, t3, t4⟩ | ⟨a1, a2, a3, _⟩
    · exact Or.inl ⟨a1, t, t1, t2, t3, t4⟩
    · exact Or.inr ⟨a1, a2, a3⟩
  have okall : ∀ p, cs ≤ p → p ≤ cs + pn → hs_okc (tx p) := by
    intro p p1 p2
    by_cases q : p < cs + pn
    · exact (raw p p1 q).1
    · have : p = cs + pn := by omega
      rw [this, he]; exact Or.inl rfl
  have inl : ∀ i, a ≤ i → i < b → ∀ k, P i ≤ k → k < E i → hs_okc (tx k) ∧ ¬ hs_en (hs_g tx k) ∧ hs_rx (pd (k - cs)) (hs_g tx k) ∧ hs_g tx k ≠ 0 ∧ hs_vt (hs_g tx k) := by
    intro i ia ib k k1 k2
    obtain ⟨a1, a2, a3, a4, a5, a6, a7, _⟩ := r1 i ia ib
    obtain ⟨w1, w2, w3⟩ := raw k (by omega) (by omega)
    rcases w3 with ⟨q, _⟩ | ⟨q1, q2, q3⟩
    · exact absurd q (a6 k k1 k2)
    · exact ⟨w1, q1, q2, w2, q3⟩
  refine ⟨⟨⟨hcs, gce, okall⟩, fun p p1 p2 => (raw p p1 p2).2.1, hc0, fun i ia ib => ?_, r2, fun p p1 p2 p3 p4 => r3 p p1 p2 p3 p4⟩, fun i ia ib => ?_, fun i ia ib => ?_, fun i ia ib => ?_⟩
  · obtain ⟨a1, a2, a3, a4, a5, a6, a7, _⟩ := r1 i ia ib
    exact ⟨a1, a4, a6 (P i) (Nat.le_refl _) a2, a5, rfl⟩
  · obtain ⟨a1, a2, a3, a4, a5, a6, a7, _⟩ := r1 i ia ib
    have eE : P i + (E i - P i) = E i := by omega
    refine ⟨hs_toksTA _ _ (fun k k1 k2 => ?_) ?_ ?_ (by omega), ?_, fun x hx => ?_, rfl⟩
    · obtain ⟨q1, q2, _⟩ := inl i ia ib k k1 (by omega)
      exact ⟨q1, q2⟩
    · rw [eE]; exact okall _ (by omega) (by omega)
    · rw [eE]; exact a7
    · intro y
      have := congrArg List.length y
      rw [hs_toksLen] at this
      simp at this
      omega
    · obtain ⟨k, k1, k2, k3⟩ := hs_toksMem _ _ _ hx
      rw [k3]
      exact (inl i ia ib k k1 (by omega)).2.2.2.2
  · obtain ⟨a1, a2, a3, a4, a5, a6, a7, _⟩ := r1 i ia ib
    refine ⟨?_, ?_, a3⟩
    · have := hs_toksPA (tx := tx) (pd := pd) (cs := cs) (E i - P i) (P i - cs) (fun k k1 k2 => ?_)
      · rw [show cs + (P i - cs) = P i by omega, show P i - cs + (E i - P i) = E i - cs by omega] at this
        exact this
      · obtain ⟨q1, q2, q3, q4, _⟩ := inl i ia ib (cs + k) (by omega) (by omega)
        rw [show cs + k - cs = k by omega] at q3
        exact ⟨q3, q4⟩
    · rcases a5 with q | q
      · exact Or.inl (by omega)
      · by_cases z : P i = cs
        · exact Or.inl (by omega)
        · obtain ⟨w1, w2, w3⟩ := raw (P i - 1) (by omega) (by omega)
          rcases w3 with ⟨_, t, t1, t2, t3, _⟩ | ⟨q', _⟩
          · exact Or.inr ⟨t, t1, t2, by rw [show P i - cs - 1 = P i - 1 - cs by omega]; exact t3⟩
          · exact absurd q q'
  · obtain ⟨a1, a2, a3, a4, a5, a6, a7, _⟩ := r1 i ia (by omega)
    obtain ⟨b1, b2, b3, b4, b5, b6, b7, _⟩ := r1 (i + 1) (by omega) ib
    have lt := r2 i (i + 1) ia (by omega) ib
    rcases b5 with q | q
    · omega
    · rcases Nat.lt_or_ge (P (i + 1) - 1) (E i) with z | z
      · exact absurd q (a6 _ (by omega) z)
      · omega
end
