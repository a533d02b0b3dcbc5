/-! Y's dry run is the automaton -/
section
variable {x_objectLimit x_stepLimit x_depthLimit x_pendingCount x_keptTokens x_keptLines x_lineCount x_codeCount x_cursor x_stop x_waitingCount x_openCount x_classCount x_callCount x_operandCount x_stepsTaken x_error x_raisedCode x_printCount x_lastPlace : Int32} {x_lastResult : Int64} {x_pending x_lineTable x_orders x_merging x_letterClass x_objectClass x_calls x_lastPrints : Nat → Int32} {x_code x_waiting x_globals x_entries x_attributes x_held x_operands : Nat → Int64}
variable {y_maxObjects y_maxSteps y_maxDepth y_kept y_end y_tokens y_pending y_lines y_classes y_prints y_place y_steps y_d y_valTop y_opTop y_opens y_pos y_tk y_tv y_stmt y_target y_err y_code y_outcome y_dry y_want y_starting y_ended y_bad y_hosted y_sawSuper : Int32} {y_result : Int64} {y_text y_numbers y_classOf y_alive y_orders y_lengths y_letters y_bases y_ops y_fLine y_fPos y_fStmt y_fTarget y_fMask y_fHome y_fOps y_fVals y_fNew y_out : Nat → Int32} {y_globals y_entries y_attrs y_vals y_locals y_fRecv : Nat → Int64}
def hs_nst : List Nat → Nat
  | [] => 0
  | s :: r => (if 27 ≤ s % 64 ∨ s % 64 = 2 ∨ s % 64 = 5 then 1 else 0) + hs_nst r
def hs_nv (st : List Nat) (w : Bool) : Nat := hs_nst st + (if w then 0 else 1)
def hs_b (w : Bool) : Int32 := if w then 1 else 0
theorem hs_nvF (st : List Nat) : hs_nv st false = hs_nv st true + 1 := rfl
theorem hs_nstLe : ∀ st : List Nat, hs_nst st ≤ st.length
  | [] => Nat.le_refl _
  | s :: r => by
    have := hs_nstLe r
    simp only [hs_nst, List.length_cons]
    split <;> omega
theorem hs_nvLe (st : List Nat) (w : Bool) : hs_nv st w ≤ st.length + 1 := by
  have := hs_nstLe st
  unfold hs_nv
  split <;> omega
theorem hs_opnLe : ∀ st : List Nat, hs_opn st ≤ st.length
  | [] => Nat.le_refl _
  | s :: r => by
    have := hs_opnLe r
    simp only [hs_opn, List.length_cons]
    split <;> omega
theorem hs_opn1 {s : Nat} {st : List Nat} (h : 1 ≤ s % 64 ∧ s % 64 ≤ 4) : hs_opn (s :: st) = hs_opn st + 1 := by
  simp only [hs_opn]; rw [if_pos h]; omega
theorem hs_opn0 {s : Nat} {st : List Nat} (h : ¬ (1 ≤ s % 64 ∧ s % 64 ≤ 4)) : hs_opn (s :: st) = hs_opn st := by
  simp only [hs_opn]; rw [if_neg h]; omega
theorem hs_nst1 {s : Nat} {st : List Nat} (h : 27 ≤ s % 64 ∨ s % 64 = 2 ∨ s % 64 = 5) : hs_nst (s :: st) = hs_nst st + 1 := by
  simp only [hs_nst]; rw [if_pos h]; omega
theorem hs_nst0 {s : Nat} {st : List Nat} (h : ¬ (27 ≤ s % 64 ∨ s % 64 = 2 ∨ s % 64 = 5)) : hs_nst (s :: st) = hs_nst st := by
  simp only [hs_nst]; rw [if_neg h]; omega
theorem hs_pshT {s : Nat} {r st : List Nat} (h : hs_opn st < 4) : hs_psh s r st = some (r, true, s :: st, []) := if_neg (by omega)
theorem hs_pshF {s : Nat} {r st : List Nat} (h : 4 ≤ hs_opn st) : hs_psh s r st = none := if_pos h
theorem hs_isNC {t : Nat} (h : hs_isC t = true) : hs_isN t = false := by
  have := hs_tkC h
  unfold hs_isN
  exact decide_eq_false (by omega)
theorem hs_nvC0 {s : Nat} {st : List Nat} (h : 2 ≤ s % 64 ∧ s % 64 ≤ 4) : hs_cn (s % 64) 0 ≤ hs_nv (s :: st) true ∧ hs_nv (s :: st) true - hs_cn (s % 64) 0 + 1 = hs_nv st false := by
  have e0 : hs_nv (s :: st) true = hs_nst (s :: st) := rfl
  have e1 : hs_nv st false = hs_nst st + 1 := rfl
  rw [e0, e1]
  unfold hs_cn
  by_cases c : s % 64 = 2
  · rw [if_pos c, hs_nst1 (Or.inr (Or.inl c))]; omega
  · rw [if_neg c, hs_nst0 (by omega)]; omega
theorem hs_nvC1 {s : Nat} {st : List Nat} (h : 2 ≤ s % 64 ∧ s % 64 ≤ 4) : hs_cn (s % 64) 1 ≤ hs_nv (s :: st) false ∧ hs_nv (s :: st) false - hs_cn (s % 64) 1 + 1 = hs_nv st false := by
  have e0 : hs_nv (s :: st) false = hs_nst (s :: st) + 1 := rfl
  have e1 : hs_nv st false = hs_nst st + 1 := rfl
  rw [e0, e1]
  unfold hs_cn
  by_cases c : s % 64 = 2
  · rw [if_pos c, hs_nst1 (Or.inr (Or.inl c))]; omega
  · rw [if_neg c, hs_nst0 (by omega)]; omega
theorem hs_mem13 {a : Nat} {l : List Nat} {P : Prop} (h : a ≠ 13) : (13 ∈ a :: l ∨ P) ↔ (13 ∈ l ∨ P) := by
  constructor
  · rintro (q | q)
    · rcases List.mem_cons.mp q with q | q
      · exact absurd q.symm h
      · exact Or.inl q
    · exact Or.inr q
  · rintro (q | q)
    · exact Or.inl (List.mem_cons_of_mem _ q)
    · exact Or.inr q
theorem hs_yDryW {tx : Nat → Int32} {fo : Nat → Int32} {sm tk tv : Int32} {z : Bool} {p t : Nat} {r st : List Nat} {w : Bool} {ts : List Nat} (ew : w = true) (ets : ts = t :: r) (hTA : hs_TA tx p ts) (hlen : st.length < 60) (hfo : fo 0 = nI 0) (hz : z = true ↔ sm = 50) (hv : ∀ x, x ∈ ts → hs_vt x) (hSA : hs_SA y_ops 0 st.length st)
    {post : Int32 → SY → Prop}
    (Hs : ∀ (ts' : List Nat) (w' : Bool) (st' : List Nat) (e : List (Nat × Nat)) (p' : Nat) (tk tv ss : Int32) (ops : Nat → Int32) (vals : Nat → Int64), hs_step z ts w st = some (ts', w', st', e) → hs_TA tx p' ts' → (∀ x, x ∈ ts' → hs_vt x) → hs_SA ops 0 st'.length st' → ((13 ∈ ts ∨ y_sawSuper = 1) ↔ (13 ∈ ts' ∨ ss = 1)) → (y_sawSuper = 0 ∨ y_sawSuper = 1 → ss = 0 ∨ ss = 1) → post 0 (y_maxObjects, y_maxSteps, y_maxDepth, y_kept, y_end, y_tokens, y_pending, y_lines, y_classes, y_prints, y_place, y_steps, nI 0, nI (hs_nv (st') (w')), nI (List.length (st')), nI (hs_opn (st')), nI (p'), tk, tv, sm, y_target, y_err, y_code, y_outcome, y_result, 1, hs_b (w'), y_starting, y_ended, 0, y_hosted, ss, tx, y_numbers, y_globals, y_entries, y_attrs, y_classOf, y_alive, y_orders, y_lengths, y_letters, y_bases, vals, ops, y_locals, y_fRecv, y_fLine, y_fPos, y_fStmt, y_fTarget, y_fMask, y_fHome, fo, y_fVals, y_fNew, y_out))
    (Hb : hs_step z ts w st = none →  ∀ (q1 q2 q3 q4 q5 q6 q7 q8 : Int32) (q9 : Nat → Int64) (q10 : Nat → Int32), post 0 (y_maxObjects, y_maxSteps, y_maxDepth, y_kept, y_end, y_tokens, y_pending, y_lines, y_classes, y_prints, y_place, y_steps, nI 0, q7, q8, q1, q2, q3, q4, sm, y_target, y_err, y_code, y_outcome, y_result, 1, q5, y_starting, y_ended, 1, y_hosted, q6, tx, y_numbers, y_globals, y_entries, y_attrs, y_classOf, y_alive, y_orders, y_lengths, y_letters, y_bases, q9, q10, y_locals, y_fRecv, y_fLine, y_fPos, y_fStmt, y_fTarget, y_fMask, y_fHome, fo, y_fVals, y_fNew, y_out)) : wpY_expressionToken post (y_maxObjects, y_maxSteps, y_maxDepth, y_kept, y_end, y_tokens, y_pending, y_lines, y_classes, y_prints, y_place, y_steps, nI 0, nI (hs_nv (st) (w)), nI (List.length (st)), nI (hs_opn (st)), nI (p), tk, tv, sm, y_target, y_err, y_code, y_outcome, y_result, 1, hs_b (w), y_starting, y_ended, 0, y_hosted, y_sawSuper, tx, y_numbers, y_globals, y_entries, y_attrs, y_classOf, y_alive, y_orders, y_lengths, y_letters, y_bases, y_vals, y_ops, y_locals, y_fRecv, y_fLine, y_fPos, y_fStmt, y_fTarget, y_fMask, y_fHome, fo, y_fVals, y_fNew, y_out) := by
  subst ew ets
  have n1 := hs_nvLe st true
  have n2 := hs_opnLe st
  have n3 := hs_nvF st
  have hvr : ∀ x, x ∈ r → hs_vt x := fun x hx => hv x (List.mem_cons_of_mem _ hx)
  have hTA' := (hs_TAc hTA).2.2.2.2.2
  have mem : t ≠ 13 → ((13 ∈ t :: r ∨ y_sawSuper = 1) ↔ (13 ∈ r ∨ y_sawSuper = 1)) := by
    intro h; exact hs_mem13 h
  by_cases c1 : 1000 ≤ t
  · have E : hs_step z (t :: r) true st = some (r, false, st, [(1, t - 1000)]) := if_pos c1
    refine hs_yNum hTA c1 (by omega) ?_
    have := Hs r false st _ (p + 1) (nI 1000) (nI (t - 1000)) y_sawSuper y_ops (vp_updL y_vals (hs_nv st true) (hs_int (nI (t - 1000)))) E hTA' hvr hSA (mem (by omega)) id
    rw [n3] at this
    exact this
  by_cases c2 : t = 12
  · subst c2
    have E : hs_step z (12 :: r) true st = some (r, false, st, [(3, 0)]) := rfl
    refine hs_yNone hTA (by omega) ?_
    have := Hs r false st _ (p + 1) (nI 12) (nI (12 - 12)) y_sawSuper y_ops (vp_updL y_vals (hs_nv st true) 4294967296) E hTA' hvr hSA (mem (by omega)) id
    rw [n3] at this
    exact this
  by_cases c3 : hs_isN t = true
  · have E : hs_step z (t :: r) true st = some (r, false, st, [(2, t - 100)]) := by
      show hs_opd t r st = _
      unfold hs_opd
      rw [if_neg c1, if_neg c2, if_pos c3]
    refine hs_yNameD hTA c3 (by omega) ?_
    have := Hs r false st _ (p + 1) (nI 100) (nI (t - 100)) y_sawSuper y_ops (vp_updL y_vals (hs_nv st true) 1) E hTA' hvr hSA (mem (by have := hs_tkN c3; omega)) id
    rw [n3] at this
    exact this
  have c3' : hs_isN t = false := by simpa using c3
  by_cases c4 : t = 21
  · subst c4
    have E : hs_step z (21 :: r) true st = hs_psh 1 r st := rfl
    refine hs_yOpenD hTA (by omega) (by omega) (fun q => ?_) (fun q => ?_)
    · have := Hs r true (1 :: st) _ (p + 1) (nI 21) (nI (21 - 21)) y_sawSuper _ y_vals (E.trans (hs_pshT q)) hTA' hvr (hs_SApush hSA (by decide)) (mem (by omega)) id
      rw [hs_opn1 (by decide)] at this
      have e2 : hs_nv (1 :: st) true = hs_nv st true := by
        unfold hs_nv; rw [hs_nst0 (by decide)]
      rw [e2] at this
      exact this
    · exact Hb (E.trans (hs_pshF q)) _ _ _ _ _ _ _ _ _ _
  by_cases c5 : hs_isC t = true
  · have hc := hs_tkC c5
    have E0 : hs_step z (t :: r) true st = hs_cls t r st := by
      show hs_opd t r st = _
      unfold hs_opd
      rw [if_neg c1, if_neg c2, if_neg c3, if_neg c4, if_pos c5]
    cases r with
    | nil => exact hs_yClsBad hTA hvr c5 (by decide) (Or.inl (by decide)) (Hb E0)
    | cons k r1 =>
      by_cases k1 : k = 21
      · subst k1
        have E : hs_step z (t :: 21 :: r1) true st = hs_psh (4 + 64 * (t - 130)) r1 st := E0
        refine hs_yNewD hTA c5 (by omega) (by omega) (fun q => ?_) (fun q => ?_)
        · have := Hs r1 true ((4 + 64 * (t - 130)) :: st) _ (p + 1 + 1) (nI 21) (nI (21 - 21)) y_sawSuper _ y_vals (E.trans (hs_pshT q)) (hs_TAc hTA').2.2.2.2.2 (fun x hx => hvr x (List.mem_cons_of_mem _ hx)) (hs_SApush hSA (by omega)) ((hs_mem13 (by omega)).trans (hs_mem13 (by decide))) id
          rw [hs_opn1 (by omega)] at this
          have e2 : hs_nv ((4 + 64 * (t - 130)) :: st) true = hs_nv st true := by
            unfold hs_nv; rw [hs_nst0 (by omega)]
          rw [e2] at this
          exact this
        · exact Hb (E.trans (hs_pshF q)) _ _ _ _ _ _ _ _ _ _
      · by_cases k2 : k = 24
        · subst k2
          cases r1 with
          | nil => exact hs_yClsBad hTA hvr c5 (by decide) (Or.inr (Or.inl (by decide))) (Hb E0)
          | cons n r2 =>
            by_cases k3 : hs_isN n = true ∧ hs_hd r2 ≠ 21
            · have E : hs_step z (t :: 24 :: n :: r2) true st = some (r2, false, st, [(5, (t - 130) * 26 + (n - 100))]) := E0.trans (if_pos k3)
              have hn := hs_tkN k3.1
              refine hs_yGetD hTA c5 k3.1 k3.2 (by omega) ?_
              have := Hs r2 false st _ (p + 1 + 1 + 1) (nI 100) (nI (n - 100)) y_sawSuper y_ops (vp_updL y_vals (hs_nv st true) 1) E (hs_TAc (hs_TAc hTA').2.2.2.2.2).2.2.2.2.2 (fun x hx => hvr x (List.mem_cons_of_mem _ (List.mem_cons_of_mem _ hx))) hSA ((hs_mem13 (by omega)).trans ((hs_mem13 (by decide)).trans (hs_mem13 (by omega)))) id
              rw [n3] at this
              exact this
            · refine hs_yClsBad hTA hvr c5 (by show 24 ≠ 21; decide) ?_ (Hb (E0.trans (if_neg k3)))
              by_cases k4 : hs_isN n = true
              · right; right; right
                show hs_hd r2 = 21
                exact Classical.byContradiction fun q => k3 ⟨k4, q⟩
              · right; right; left
                show hs_isN n = false
                simpa using k4
        · refine hs_yClsBad hTA hvr c5 k1 (Or.inl k2) (Hb (E0.trans ?_))
          show (if k = 21 then _ else if k = 24 then _ else none) = none
          rw [if_neg k1, if_neg k2]
  have c5' : hs_isC t = false := by simpa using c5
  by_cases c6 : t = 13
  · subst c6
    have bad : (∀ n r1, r = 24 :: n :: 21 :: r1 → hs_isN n = false) → hs_step z (13 :: r) true st = none := by
      intro hq
      show hs_sup r st = none
      unfold hs_sup
      split
      · rename_i k n q r1
        refine if_neg ?_
        rintro ⟨rfl, a, rfl⟩
        have := hq n r1 rfl
        rw [a] at this; cases this
      · rfl
    by_cases q : ∃ n r1, r = 24 :: n :: 21 :: r1 ∧ hs_isN n = true
    · obtain ⟨n, r1, rfl, hn⟩ := q
      have E : hs_step z (13 :: 24 :: n :: 21 :: r1) true st = hs_psh (3 + 64 * (n - 100)) r1 st := by
        show (if 24 = 24 ∧ hs_isN n ∧ 21 = 21 then hs_psh (3 + 64 * (n - 100)) r1 st else none) = _
        exact if_pos ⟨rfl, hn, rfl⟩
      have hn' := hs_tkN hn
      refine hs_ySupD hTA hn (by omega) (by omega) (fun q => ?_) (fun q => ?_)
      · have := Hs r1 true ((3 + 64 * (n - 100)) :: st) _ (p + 1 + 1 + 1 + 1) (nI 21) (nI (21 - 21)) 1 _ y_vals (E.trans (hs_pshT q)) (hs_TAc (hs_TAc (hs_TAc hTA').2.2.2.2.2).2.2.2.2.2).2.2.2.2.2 (fun x hx => hvr x (by simp [hx])) (hs_SApush hSA (by omega)) (by simp) (fun _ => Or.inr rfl)
        rw [hs_opn1 (by omega)] at this
        have e2 : hs_nv ((3 + 64 * (n - 100)) :: st) true = hs_nv st true := by
          unfold hs_nv; rw [hs_nst0 (by omega)]
        rw [e2] at this
        exact this
      · exact Hb (E.trans (hs_pshF q)) _ _ _ _ _ _ _ _ _ _
    · have q' : ∀ n r1, r = 24 :: n :: 21 :: r1 → hs_isN n = false := by
        intro n r1 e
        cases hh : hs_isN n with
        | false => rfl
        | true => exact absurd ⟨n, r1, e, hh⟩ q
      exact hs_ySupBad hTA hvr q' (Hb (bad q'))
  by_cases c7 : t = 22
  · subst c7
    have E0 : hs_step z (22 :: r) true st = hs_cl0 r st := rfl
    cases st with
    | nil => exact hs_yC0bad (dd := 0) (base := 0) hTA (by decide) hfo hSA (by decide) (by decide) (fun _ _ _ _ _ _ _ _ _ _ => Hb E0 _ _ _ _ _ _ _ _ _ _) (Hb E0 _ _ _ _ _ _ _ _ _ _)
    | cons s st1 =>
      by_cases hty : 2 ≤ s % 64 ∧ s % 64 ≤ 4
      · have E := E0.trans (if_pos hty)
        obtain ⟨tp, et, hb, hs, hs2, hSA1⟩ := hSA
        have et : st1.length = tp := by simp only [List.length_cons] at et; omega
        subst et
        simp only [List.length_cons] at hlen
        refine hs_yC0 (dd := 0) (base := 0) hTA (by decide) hfo (by omega) (by omega) hs hs2 hty (hs_yClose0 (n := 0) (by decide) hfo (by omega) (by omega) hs ?_)
        refine hs_yCloseD (n := 0) hs2 hty (by decide) (hs_nvC0 hty).1 (by omega) ?_
        have := Hs r false st1 _ (p + 1) (nI 22) (nI (22 - 22)) y_sawSuper y_ops (vp_updL y_vals (hs_nv (s :: st1) true - hs_cn (s % 64) 0) 1) E hTA' hvr hSA1 (mem (by omega)) id
        rw [hs_opn1 (by omega), nI_pred, (hs_nvC0 hty).2]
        exact this
      · have E := E0.trans (if_neg hty)
        exact hs_yC0bad (dd := 0) (base := 0) hTA (by decide) hfo hSA (by omega) hty (fun _ _ _ _ _ _ _ _ _ _ => Hb E _ _ _ _ _ _ _ _ _ _) (Hb E _ _ _ _ _ _ _ _ _ _)
  · have E : hs_step z (t :: r) true st = none := by
      show hs_opd t r st = _
      unfold hs_opd
      rw [if_neg c1, if_neg c2, if_neg c3, if_neg c4, if_neg c5, if_neg c6, if_neg c7]
    exact hs_yOpdBad hTA (hv t (by simp)) c1 c2 c3' c4 c5' c6 c7 (Hb E _ _ _ _ _ _ _ _ _ _)
theorem hs_hdLt (st : List Nat) : hs_hd st % 64 < 64 := Nat.mod_lt _ (by decide)
theorem hs_enD {t : Nat} (h : hs_vt t) : t ≠ 0 := by
  rcases h with h | h | h | h | h
  · omega
  · omega
  · have := hs_tkN h; omega
  · have := hs_tkC h; omega
  · omega
/-- the end of an expression: at the end of the line, or at a colon -/
theorem hs_yDryN {tx : Nat → Int32} {fo : Nat → Int32} {sm tk tv : Int32} {z : Bool} {p : Nat} {st : List Nat} {w : Bool} {ts : List Nat} (ew : w = false) (hTA : hs_TA tx p ts) (hlen : st.length < 60) (hfo : fo 0 = nI 0) (hz : z = true ↔ sm = 50) (hv : ∀ x, x ∈ ts → hs_vt x) (hSA : hs_SA y_ops 0 st.length st)
    {post : Int32 → SY → Prop}
    (Hs : ∀ (ts' : List Nat) (w' : Bool) (st' : List Nat) (e : List (Nat × Nat)) (p' : Nat) (tk tv ss : Int32) (ops : Nat → Int32) (vals : Nat → Int64), hs_step z ts w st = some (ts', w', st', e) → hs_TA tx p' ts' → (∀ x, x ∈ ts' → hs_vt x) → hs_SA ops 0 st'.length st' → ((13 ∈ ts ∨ y_sawSuper = 1) ↔ (13 ∈ ts' ∨ ss = 1)) → (y_sawSuper = 0 ∨ y_sawSuper = 1 → ss = 0 ∨ ss = 1) → post 0 (y_maxObjects, y_maxSteps, y_maxDepth, y_kept, y_end, y_tokens, y_pending, y_lines, y_classes, y_prints, y_place, y_steps, nI 0, nI (hs_nv (st') (w')), nI (List.length (st')), nI (hs_opn (st')), nI (p'), tk, tv, sm, y_target, y_err, y_code, y_outcome, y_result, 1, hs_b (w'), y_starting, y_ended, 0, y_hosted, ss, tx, y_numbers, y_globals, y_entries, y_attrs, y_classOf, y_alive, y_orders, y_lengths, y_letters, y_bases, vals, ops, y_locals, y_fRecv, y_fLine, y_fPos, y_fStmt, y_fTarget, y_fMask, y_fHome, fo, y_fVals, y_fNew, y_out))
    (Hb : hs_step z ts w st = none → ¬ hs_fin ts w st → ∀ (q1 q2 q3 q4 q5 q6 q7 q8 : Int32) (q9 : Nat → Int64) (q10 : Nat → Int32), post 0 (y_maxObjects, y_maxSteps, y_maxDepth, y_kept, y_end, y_tokens, y_pending, y_lines, y_classes, y_prints, y_place, y_steps, nI 0, q7, q8, q1, q2, q3, q4, sm, y_target, y_err, y_code, y_outcome, y_result, 1, q5, y_starting, y_ended, 1, y_hosted, q6, tx, y_numbers, y_globals, y_entries, y_attrs, y_classOf, y_alive, y_orders, y_lengths, y_letters, y_bases, q9, q10, y_locals, y_fRecv, y_fLine, y_fPos, y_fStmt, y_fTarget, y_fMask, y_fHome, fo, y_fVals, y_fNew, y_out))
    (Hf : hs_fin ts w st → ∀ (p' k : Nat) (tv : Int32), (ts = [] ∧ p' = p ∧ k = 0 ∨ ∃ r, ts = 25 :: r ∧ p' = p + 1 ∧ k = 25 ∧ hs_TA tx p' r) → post 1 (y_maxObjects, y_maxSteps, y_maxDepth, y_kept, y_end, y_tokens, y_pending, y_lines, y_classes, y_prints, y_place, y_steps, nI 0, nI (hs_nv (st) (w)), nI (List.length (st)), nI (hs_opn (st)), nI (p'), nI k, tv, sm, y_target, y_err, y_code, y_outcome, y_result, 1, hs_b (w), y_starting, y_ended, 0, y_hosted, y_sawSuper, tx, y_numbers, y_globals, y_entries, y_attrs, y_classOf, y_alive, y_orders, y_lengths, y_letters, y_bases, y_vals, y_ops, y_locals, y_fRecv, y_fLine, y_fPos, y_fStmt, y_fTarget, y_fMask, y_fHome, fo, y_fVals, y_fNew, y_out))
    (Hb1 : hs_step z ts w st = none → ¬ hs_fin ts w st → ∀ (q1 q2 q3 q4 q5 q6 q7 q8 : Int32) (q9 : Nat → Int64) (q10 : Nat → Int32), post 1 (y_maxObjects, y_maxSteps, y_maxDepth, y_kept, y_end, y_tokens, y_pending, y_lines, y_classes, y_prints, y_place, y_steps, nI 0, q7, q8, q1, q2, q3, q4, sm, y_target, y_err, y_code, y_outcome, y_result, 1, q5, y_starting, y_ended, 1, y_hosted, q6, tx, y_numbers, y_globals, y_entries, y_attrs, y_classOf, y_alive, y_orders, y_lengths, y_letters, y_bases, q9, q10, y_locals, y_fRecv, y_fLine, y_fPos, y_fStmt, y_fTarget, y_fMask, y_fHome, fo, y_fVals, y_fNew, y_out)) : wpY_expressionToken post (y_maxObjects, y_maxSteps, y_maxDepth, y_kept, y_end, y_tokens, y_pending, y_lines, y_classes, y_prints, y_place, y_steps, nI 0, nI (hs_nv (st) (w)), nI (List.length (st)), nI (hs_opn (st)), nI (p), tk, tv, sm, y_target, y_err, y_code, y_outcome, y_result, 1, hs_b (w), y_starting, y_ended, 0, y_hosted, y_sawSuper, tx, y_numbers, y_globals, y_entries, y_attrs, y_classOf, y_alive, y_orders, y_lengths, y_letters, y_bases, y_vals, y_ops, y_locals, y_fRecv, y_fLine, y_fPos, y_fStmt, y_fTarget, y_fMask, y_fHome, fo, y_fVals, y_fNew, y_out) := by
  subst ew
  have n1 := hs_nvLe st false
  have n2 := hs_opnLe st
  have n3 := hs_nvF st
  have hT := hs_hdLt st
  have hsa := hs_SAlen hSA
  -- what the token is
  by_cases cc : 27 ≤ hs_hd st % 64 ∧ hs_hd ts ≠ 24 ∧ hs_rank (hs_hd ts) ≤ hs_rank (hs_hd st % 64) ∧ ¬ (hs_rank (hs_hd ts) = 1 ∧ hs_rank (hs_hd st % 64) = 1)
  · have E : hs_step z ts false st = some (ts, false, st.tail, [(hs_hd st % 64, 0)]) := by
      show hs_opr z ts st = _
      unfold hs_opr
      exact if_pos cc
    cases st with
    | nil => simp [hs_hd] at cc
    | cons s st1 =>
      obtain ⟨tp, et, hb, hs, hs2, hSA1⟩ := hSA
      have et : st1.length = tp := by simp only [List.length_cons] at et; omega
      subst et
      have c27 : 27 ≤ s % 64 := cc.1
      have eo : hs_opn (s :: st1) = hs_opn st1 := hs_opn0 (by omega)
      have ev : hs_nv (s :: st1) false = hs_nv st1 false + 1 := by
        unfold hs_nv; rw [hs_nst1 (Or.inl c27)]; omega
      have go : ∀ (tk tv : Int32), post 0 (y_maxObjects, y_maxSteps, y_maxDepth, y_kept, y_end, y_tokens, y_pending, y_lines, y_classes, y_prints, y_place, y_steps, nI 0, nI (hs_nv (st1) (false)), nI (List.length (st1)), nI (hs_opn (st1)), nI (p), tk, tv, sm, y_target, y_err, y_code, y_outcome, y_result, 1, hs_b (false), y_starting, y_ended, 0, y_hosted, y_sawSuper, tx, y_numbers, y_globals, y_entries, y_attrs, y_classOf, y_alive, y_orders, y_lengths, y_letters, y_bases, y_vals, y_ops, y_locals, y_fRecv, y_fLine, y_fPos, y_fStmt, y_fTarget, y_fMask, y_fHome, fo, y_fVals, y_fNew, y_out) := fun tk tv => Hs ts false st1 _ p tk tv y_sawSuper y_ops y_vals E hTA hv hSA1 Iff.rfl id
      have cmb : ∀ (tk tv : Int32), wpY_combine (fun u => match u with | (y_maxObjectsq, y_maxStepsq, y_maxDepthq, y_keptq, y_endq, y_tokensq, y_pendingq, y_linesq, y_classesq, y_printsq, y_placeq, y_stepsq, y_dq, y_valTopq, y_opTopq, y_opensq, y_posq, y_tkq, y_tvq, y_stmtq, y_targetq, y_errq, y_codeq, y_outcomeq, y_resultq, y_dryq, y_wantq, y_startingq, y_endedq, y_badq, y_hostedq, y_sawSuperq, y_textq, y_numbersq, y_globalsq, y_entriesq, y_attrsq, y_classOfq, y_aliveq, y_ordersq, y_lengthsq, y_lettersq, y_basesq, y_valsq, y_opsq, y_localsq, y_fRecvq, y_fLineq, y_fPosq, y_fStmtq, y_fTargetq, y_fMaskq, y_fHomeq, y_fOpsq, y_fValsq, y_fNewq, y_outq) => post 0 (y_maxObjectsq, y_maxStepsq, y_maxDepthq, y_keptq, y_endq, y_tokensq, y_pendingq, y_linesq, y_classesq, y_printsq, y_placeq, y_stepsq, y_dq, y_valTopq, y_opTopq, y_opensq, y_posq, y_tkq, y_tvq, y_stmtq, y_targetq, y_errq, y_codeq, y_outcomeq, y_resultq, y_dryq, y_wantq, y_startingq, y_endedq, y_badq, y_hostedq, y_sawSuperq, y_textq, y_numbersq, y_globalsq, y_entriesq, y_attrsq, y_classOfq, y_aliveq, y_ordersq, y_lengthsq, y_lettersq, y_basesq, y_valsq, y_opsq, y_localsq, y_fRecvq, y_fLineq, y_fPosq, y_fStmtq, y_fTargetq, y_fMaskq, y_fHomeq, y_fOpsq, y_fValsq, y_fNewq, y_outq)) (y_maxObjects, y_maxSteps, y_maxDepth, y_kept, y_end, y_tokens, y_pending, y_lines, y_classes, y_prints, y_place, y_steps, nI 0, nI (hs_nv (s :: st1) (false)), nI (List.length (s :: st1)), nI (hs_opn (s :: st1)), nI (p), tk, tv, sm, y_target, y_err, y_code, y_outcome, y_result, 1, hs_b (false), y_starting, y_ended, 0, y_hosted, y_sawSuper, tx, y_numbers, y_globals, y_entries, y_attrs, y_classOf, y_alive, y_orders, y_lengths, y_letters, y_bases, y_vals, y_ops, y_locals, y_fRecv, y_fLine, y_fPos, y_fStmt, y_fTarget, y_fMask, y_fHome, fo, y_fVals, y_fNew, y_out) (nI (s % 64)) := by
        intro tk tv
        refine hs_yCombD (vt := hs_nv (s :: st1) false) (ot := st1.length) (by omega) ?_
        have := go tk tv
        rw [eo, ev]
        exact this
      cases ts with
      | nil =>
        refine hs_yN0E (dd := 0) (base := 0) (st := s :: st1) hTA (by decide) hfo ⟨st1.length, rfl, hb, hs, hs2, hSA1⟩ (by omega) ?_
        exact hs_y56c (k := 0) hT (by decide) cc.1 (by decide) cc.2.2.1 cc.2.2.2 (cmb _ _)
      | cons t r =>
        refine hs_yN0C (dd := 0) (base := 0) (k := hs_tk t) (st := s :: st1) hTA rfl (by decide) hfo ⟨st1.length, rfl, hb, hs, hs2, hSA1⟩ (by omega) ?_
        have e1 := hs_rankTk t
        have c2 : t ≠ 24 := cc.2.1
        have c3 : hs_rank t ≤ hs_rank (s % 64) := cc.2.2.1
        have c4 : ¬ (hs_rank t = 1 ∧ hs_rank (s % 64) = 1) := cc.2.2.2
        exact hs_y56c (k := hs_tk t) hT (hs_tkLe t).1 cc.1 (hs_tkK c2 (by decide)) (by rw [e1]; exact c3) (by rw [e1]; exact c4) (cmb _ _)
  · -- no combination
    cases ts with
    | nil =>
      refine hs_yN0E (dd := 0) (base := 0) hTA (by decide) hfo hSA (by omega) (hs_y56n (k := 0) hT (by decide) cc (hs_y116o hT (Or.inl rfl) (fun q => ?_) (fun q => ?_)))
      · refine Hf ⟨rfl, Or.inl rfl, fun c27 => cc ⟨c27, by decide, Nat.zero_le _, fun y => absurd y.1 (by decide)⟩, q⟩ p 0 tv (Or.inl ⟨rfl, rfl, rfl⟩)
      · refine Hb1 ?_ (fun y => y.2.2.2 q) _ _ _ _ _ _ _ _ _ _
        show hs_opr z [] st = none
        unfold hs_opr
        rw [if_neg cc]
    | cons t r =>
      have cc' : ¬ (27 ≤ hs_hd st % 64 ∧ t ≠ 24 ∧ hs_rank t ≤ hs_rank (hs_hd st % 64) ∧ ¬ (hs_rank t = 1 ∧ hs_rank (hs_hd st % 64) = 1)) := cc
      have hTA' := (hs_TAc hTA).2.2.2.2.2
      have hvr : ∀ x, x ∈ r → hs_vt x := fun x hx => hv x (List.mem_cons_of_mem _ hx)
      have mem : t ≠ 13 → ((13 ∈ t :: r ∨ y_sawSuper = 1) ↔ (13 ∈ r ∨ y_sawSuper = 1)) := by
        intro h; exact hs_mem13 h
      have Hb2 : t ≠ 25 → hs_step z (t :: r) false st = none → ∀ (q1 q2 q3 q4 q5 q6 q7 q8 : Int32) (q9 : Nat → Int64) (q10 : Nat → Int32), post 0 (y_maxObjects, y_maxSteps, y_maxDepth, y_kept, y_end, y_tokens, y_pending, y_lines, y_classes, y_prints, y_place, y_steps, nI 0, q7, q8, q1, q2, q3, q4, sm, y_target, y_err, y_code, y_outcome, y_result, 1, q5, y_starting, y_ended, 1, y_hosted, q6, tx, y_numbers, y_globals, y_entries, y_attrs, y_classOf, y_alive, y_orders, y_lengths, y_letters, y_bases, q9, q10, y_locals, y_fRecv, y_fLine, y_fPos, y_fStmt, y_fTarget, y_fMask, y_fHome, fo, y_fVals, y_fNew, y_out) := by
        intro h25 E
        refine Hb E (fun y => ?_)
        rcases y.2.1 with q | q
        · cases q
        · exact h25 q
      have e1 := hs_rankTk t
      have E0 : hs_step z (t :: r) false st = hs_opr1 z t r st := by
        show hs_opr z (t :: r) st = _
        unfold hs_opr
        exact if_neg cc'
      refine hs_yN0C (dd := 0) (base := 0) (k := hs_tk t) hTA rfl (by decide) hfo hSA (by omega) ?_
      have hcc : ¬ (27 ≤ hs_hd st % 64 ∧ hs_tk t ≠ 24 ∧ hs_rank (hs_tk t) ≤ hs_rank (hs_hd st % 64) ∧ ¬ (hs_rank (hs_tk t) = 1 ∧ hs_rank (hs_hd st % 64) = 1)) := by
        rw [e1]
        rintro ⟨a, b, c, d⟩
        refine cc' ⟨a, fun y => b ?_, c, d⟩
        rw [y]; rfl
      refine hs_y56n (k := hs_tk t) hT (hs_tkLe t).1 hcc ?_
      by_cases r0 : 0 < hs_rank t
      · have ht32 : 27 ≤ t ∧ t ≤ 32 := by
          unfold hs_rank at r0
          split at r0
          · omega
          · split at r0
            · omega
            · split at r0 <;> omega
        have etk : hs_tk t = t := hs_tkS (by omega)
        rw [etk]
        refine hs_y116p hT (by omega) (by omega) r0 (fun q => ?_) (fun q => ?_)
        · have := Hs r true (t :: st) [] (p + 1) (nI t) (nI (t - t)) y_sawSuper (upd y_ops st.length (nI t)) y_vals ((E0.trans (if_pos r0)).trans (if_neg q)) hTA' hvr (hs_SApush hSA (by omega)) (mem (by omega)) id
          rw [hs_opn0 (by omega)] at this
          have e2 : hs_nv (t :: st) true = hs_nv st false := by
            unfold hs_nv; rw [hs_nst1 (by omega)]; simp
          rw [e2] at this
          exact this
        · exact Hb2 (by omega) ((E0.trans (if_pos r0)).trans (if_pos q)) _ _ _ _ _ _ _ _ _ _
      · have E1 := E0.trans (if_neg r0)
        have r00 : hs_rank t = 0 := by omega
        by_cases t24 : t = 24
        · subst t24
          have E2 := E1.trans (if_pos rfl)
          refine hs_y116d ?_
          by_cases hn : hs_isN (hs_hd r) = true
          · cases r with
            | nil => simp [hs_hd, hs_isN] at hn
            | cons n r1 =>
              have hn : hs_isN n = true := hn
              have hn' := hs_tkN hn
              have hTA2 := (hs_TAc hTA').2.2.2.2.2
              have hvr1 : ∀ x, x ∈ r1 → hs_vt x := fun x hx => hvr x (List.mem_cons_of_mem _ hx)
              have E3 := E2.trans (if_pos hn)
              by_cases r21 : hs_hd r1 = 21
              · cases r1 with
                | nil => simp [hs_hd] at r21
                | cons q r2 =>
                  have r21 : q = 21 := r21
                  subst r21
                  have E4 : hs_step z (24 :: n :: 21 :: r2) false st = hs_psh (2 + 64 * (n - 100)) r2 st := E3.trans (if_pos rfl)
                  refine hs_yDotCall hTA' hn (hs_yParenD (by omega) (by omega) (fun q => ?_) (fun q => ?_))
                  · have := Hs r2 true ((2 + 64 * (n - 100)) :: st) [] (p + 1 + 1 + 1) (nI 100) (nI (n - 100)) y_sawSuper (upd y_ops st.length (nI (2 + 64 * (n - 100)))) y_vals (E4.trans (hs_pshT q)) (hs_TAc hTA2).2.2.2.2.2 (fun x hx => hvr1 x (List.mem_cons_of_mem _ hx)) (hs_SApush hSA (by omega)) ((hs_mem13 (by decide)).trans ((hs_mem13 (by omega)).trans (hs_mem13 (by decide)))) id
                    rw [hs_opn1 (by omega)] at this
                    have e2 : hs_nv ((2 + 64 * (n - 100)) :: st) true = hs_nv st false := by
                      unfold hs_nv; rw [hs_nst1 (by omega)]; simp
                    rw [e2] at this
                    exact this
                  · exact Hb2 (by omega) (E4.trans (hs_pshF q)) _ _ _ _ _ _ _ _ _ _
              · have E4 := E3.trans (if_neg r21)
                by_cases r26 : hs_hd r1 = 26 ∧ z = true ∧ st = []
                · obtain ⟨a26, az, rfl⟩ := r26
                  cases r1 with
                  | nil => simp [hs_hd] at a26
                  | cons q r2 =>
                    have a26 : q = 26 := a26
                    subst a26
                    have E5 := E4.trans (if_pos ⟨rfl, az, rfl⟩)
                    have e50 : sm = 50 := hz.mp az
                    subst e50
                    refine hs_yDotSet (dd := 0) hTA' hn (by decide) hfo (by decide) ?_
                    have := Hs r2 true [5 + 64 * (n - 100)] [] (p + 1 + 1 + 1) (nI 100) (nI (n - 100)) y_sawSuper (upd y_ops 0 (nI (5 + 64 * (n - 100)))) y_vals E5 (hs_TAc hTA2).2.2.2.2.2 (fun x hx => hvr1 x (List.mem_cons_of_mem _ hx)) (hs_SApush hSA (by omega)) ((hs_mem13 (by decide)).trans ((hs_mem13 (by omega)).trans (hs_mem13 (by decide)))) id
                    rw [hs_opn0 (by omega)] at this
                    have e2 : hs_nv [5 + 64 * (n - 100)] true = hs_nv [] false := by
                      unfold hs_nv; rw [hs_nst1 (by omega)]; simp
                    rw [e2] at this
                    exact this
                · have E5 := E4.trans (if_neg r26)
                  refine hs_yDotGet (dd := 0) (base := 0) hTA' hn r21 ?_ (by decide) hfo (by decide) (by omega) ?_
                  · by_cases a : hs_hd r1 = 26
                    · by_cases b : sm = 50
                      · right; right
                        intro hl
                        exact r26 ⟨a, hz.mpr b, List.length_eq_zero_iff.mp hl⟩
                      · exact Or.inr (Or.inl b)
                    · exact Or.inl a
                  · unfold wY_dot_136
                    refine br_f (by decide) ?_
                    exact Hs r1 false st _ (p + 1 + 1) (nI 100) (nI (n - 100)) y_sawSuper y_ops y_vals E5 hTA2 hvr1 hSA ((hs_mem13 (by decide)).trans (hs_mem13 (by omega))) id
          · have hn : hs_isN (hs_hd r) = false := by simpa using hn
            have E3 : hs_step z (24 :: r) false st = none := by
              rw [E2]
              cases r with
              | nil => rfl
              | cons n r1 =>
                have hn : hs_isN n = false := hn
                show (if hs_isN n = true then _ else none) = none
                rw [hn]; rfl
            exact hs_yDotBad hTA' hvr hn (fun _ _ _ => Hb2 (by omega) E3 _ _ _ _ _ _ _ _ _ _)
        · have E2 := E1.trans (if_neg t24)
          by_cases t22 : t = 22
          · subst t22
            have E3 := E2.trans (if_pos rfl)
            refine hs_y116c ?_
            cases st with
            | nil => exact hs_yCloseE (dd := 0) (base := 0) (by decide) hfo (by decide) (Hb2 (by omega) E3 _ _ _ _ _ _ _ _ _ _)
            | cons s st1 =>
              obtain ⟨tp, et, hb, hs, hs2, hSA1⟩ := hSA
              have et : st1.length = tp := by simp only [List.length_cons] at et; omega
              subst et
              simp only [List.length_cons] at hlen
              refine hs_yClose0 (n := 1) (dd := 0) (base := 0) (by decide) hfo (by omega) (by omega) hs ?_
              by_cases s1 : s % 64 = 1
              · have E4 := E3.trans (if_pos s1)
                refine hs_yCloseG hs2 s1 ?_
                have := Hs r false st1 _ (p + 1) (nI 22) (nI (22 - 22)) y_sawSuper y_ops y_vals E4 hTA' hvr hSA1 (mem (by omega)) id
                rw [hs_opn1 (by omega), nI_pred]
                have e2 : hs_nv (s :: st1) false = hs_nv st1 false := by
                  unfold hs_nv; rw [hs_nst0 (by omega)]
                rw [e2]
                exact this
              · have E4 := E3.trans (if_neg s1)
                by_cases hty : 2 ≤ s % 64 ∧ s % 64 ≤ 4
                · have E5 := E4.trans (if_pos hty)
                  refine hs_yCloseD (n := 1) hs2 hty (by decide) (hs_nvC1 hty).1 (by omega) ?_
                  have := Hs r false st1 _ (p + 1) (nI 22) (nI (22 - 22)) y_sawSuper y_ops (vp_updL y_vals (hs_nv (s :: st1) false - hs_cn (s % 64) 1) 1) E5 hTA' hvr hSA1 (mem (by omega)) id
                  rw [hs_opn1 (by omega), nI_pred, (hs_nvC1 hty).2]
                  exact this
                · have E5 := E4.trans (if_neg hty)
                  exact hs_yCloseB hs2 (by omega) (Hb2 (by omega) E5 _ _ _ _ _ _ _ _ _ _)
          · have E3 := E2.trans (if_neg t22)
            by_cases t25 : t = 25
            · subst t25
              refine hs_y116o hT (Or.inr rfl) (fun q => ?_) (fun q => ?_)
              · exact Hf ⟨rfl, Or.inr rfl, fun c27 => cc ⟨c27, by show 25 ≠ 24; decide, Nat.zero_le _, fun y => absurd y.1 (by show ¬ hs_rank 25 = 1; decide)⟩, q⟩ (p + 1) 25 _ (Or.inr ⟨r, rfl, rfl, rfl, hTA'⟩)
              · exact Hb1 E3 (fun y => y.2.2.2 q) _ _ _ _ _ _ _ _ _ _
            · have t0 : t ≠ 0 := by have := (hs_TAc hTA).2.1; omega
              have k0 : hs_tk t ≠ 0 := hs_tkK t0 (by decide)
              exact hs_y116b (hs_tkLe t).1 (by rw [e1]; exact r00) (hs_tkK t24 (by decide)) (hs_tkK t22 (by decide)) k0 (hs_tkK t25 (by decide)) (Hb2 (by omega) E3 _ _ _ _ _ _ _ _ _ _)
end
