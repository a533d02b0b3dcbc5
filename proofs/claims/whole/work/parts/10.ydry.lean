/-! Y's dry run is the automaton -/
section
variable {x_objectLimit x_stepLimit x_depthLimit x_pendingCount x_keptTokens x_keptLines x_lineCount x_codeCount x_cursor x_stop x_waitingCount x_openCount x_classCount x_callCount x_operandCount x_stepsTaken x_error x_raisedCode x_printCount x_lastPlace : Int32} {x_lastResult : Int64} {x_pending x_lineTable x_orders x_merging x_letterClass x_objectClass x_calls x_lastPrints : Nat → Int32} {x_code x_waiting x_globals x_entries x_attributes x_held x_operands : Nat → Int64}
variable {y_maxObjects y_maxSteps y_maxDepth y_kept y_end y_tokens y_pending y_lines y_classes y_prints y_place y_steps y_d y_valTop y_opTop y_opens y_pos y_tk y_tv y_stmt y_target y_err y_code y_outcome y_dry y_want y_starting y_ended y_bad y_hosted y_sawSuper : Int32} {y_result : Int64} {y_text y_numbers y_classOf y_alive y_orders y_lengths y_letters y_bases y_ops y_fLine y_fPos y_fStmt y_fTarget y_fMask y_fHome y_fOps y_fVals y_fNew y_out : Nat → Int32} {y_globals y_entries y_attrs y_vals y_locals y_fRecv : Nat → Int64}
def hs_nst : List Nat → Nat
  | [] => 0
  | s :: r => (if 27 ≤ s % 64 ∨ s % 64 = 2 ∨ s % 64 = 5 then 1 else 0) + hs_nst r
def hs_nv (st : List Nat) (w : Bool) : Nat := hs_nst st + (if w then 0 else 1)
def hs_b (w : Bool) : Int32 := if w then 1 else 0
theorem hs_nvF (st : List Nat) : hs_nv st false = hs_nv st true + 1 := rfl
theorem hs_nstLe : ∀ st : List Nat, hs_nst st ≤ st.length
  | [] => Nat.le_refl _
  | s :: r => by
    have := hs_nstLe r
    simp only [hs_nst, List.length_cons]
    split <;> omega
theorem hs_nvLe (st : List Nat) (w : Bool) : hs_nv st w ≤ st.length + 1 := by
  have := hs_nstLe st
  unfold hs_nv
  split <;> omega
theorem hs_opnLe : ∀ st : List Nat, hs_opn st ≤ st.length
  | [] => Nat.le_refl _
  | s :: r => by
    have := hs_opnLe r
    simp only [hs_opn, List.length_cons]
    split <;> omega
theorem hs_opn1 {s : Nat} {st : List Nat} (h : 1 ≤ s % 64 ∧ s % 64 ≤ 4) : hs_opn (s :: st) = hs_opn st + 1 := by
  simp only [hs_opn]; rw [if_pos h]; omega
theorem hs_opn0 {s : Nat} {st : List Nat} (h : ¬ (1 ≤ s % 64 ∧ s % 64 ≤ 4)) : hs_opn (s :: st) = hs_opn st := by
  simp only [hs_opn]; rw [if_neg h]; omega
theorem hs_nst1 {s : Nat} {st : List Nat} (h : 27 ≤ s % 64 ∨ s % 64 = 2 ∨ s % 64 = 5) : hs_nst (s :: st) = hs_nst st + 1 := by
  simp only [hs_nst]; rw [if_pos h]; omega
theorem hs_nst0 {s : Nat} {st : List Nat} (h : ¬ (27 ≤ s % 64 ∨ s % 64 = 2 ∨ s % 64 = 5)) : hs_nst (s :: st) = hs_nst st := by
  simp only [hs_nst]; rw [if_neg h]; omega
theorem hs_pshT {s : Nat} {r st : List Nat} (h : hs_opn st < 4) : hs_psh s r st = some (r, true, s :: st, []) := if_neg (by omega)
theorem hs_pshF {s : Nat} {r st : List Nat} (h : 4 ≤ hs_opn st) : hs_psh s r st = none := if_pos h
theorem hs_isNC {t : Nat} (h : hs_isC t = true) : hs_isN t = false := by
  have := hs_tkC h
  unfold hs_isN
  exact decide_eq_false (by omega)
theorem hs_yDryW {tx : Nat → Int32} {fo : Nat → Int32} {sm tk tv : Int32} {z : Bool} {p t : Nat} {r st : List Nat} {w : Bool} {ts : List Nat} (ew : w = true) (ets : ts = t :: r) (hTA : hs_TA tx p ts) (hlen : st.length < 60) (hfo : fo 0 = nI 0) (hz : z = true ↔ sm = 50) (hv : ∀ x, x ∈ ts → hs_vt x) (hSA : hs_SA y_ops 0 st.length st)
    {post : Int32 → SY → Prop}
    (Hs : ∀ (ts' : List Nat) (w' : Bool) (st' : List Nat) (e : List (Nat × Nat)) (p' : Nat) (tk tv ss : Int32) (ops : Nat → Int32) (vals : Nat → Int64), hs_step z ts w st = some (ts', w', st', e) → hs_TA tx p' ts' → (∀ x, x ∈ ts' → hs_vt x) → hs_SA ops 0 st'.length st' → ((13 ∈ ts ∨ y_sawSuper = 1) ↔ (13 ∈ ts' ∨ ss = 1)) → (y_sawSuper = 0 ∨ y_sawSuper = 1 → ss = 0 ∨ ss = 1) → post 0 (y_maxObjects, y_maxSteps, y_maxDepth, y_kept, y_end, y_tokens, y_pending, y_lines, y_classes, y_prints, y_place, y_steps, nI 0, nI (hs_nv (st') (w')), nI (List.length (st')), nI (hs_opn (st')), nI (p'), tk, tv, sm, y_target, y_err, y_code, y_outcome, y_result, 1, hs_b (w'), y_starting, y_ended, 0, y_hosted, ss, tx, y_numbers, y_globals, y_entries, y_attrs, y_classOf, y_alive, y_orders, y_lengths, y_letters, y_bases, vals, ops, y_locals, y_fRecv, y_fLine, y_fPos, y_fStmt, y_fTarget, y_fMask, y_fHome, fo, y_fVals, y_fNew, y_out))
    (Hb : hs_step z ts w st = none → ∀ (q1 q2 q3 q4 q5 q6 q7 q8 : Int32) (q9 : Nat → Int64) (q10 : Nat → Int32), post 0 (y_maxObjects, y_maxSteps, y_maxDepth, y_kept, y_end, y_tokens, y_pending, y_lines, y_classes, y_prints, y_place, y_steps, nI 0, q7, q8, q1, q2, q3, q4, sm, y_target, y_err, y_code, y_outcome, y_result, 1, q5, y_starting, y_ended, 1, y_hosted, q6, tx, y_numbers, y_globals, y_entries, y_attrs, y_classOf, y_alive, y_orders, y_lengths, y_letters, y_bases, q9, q10, y_locals, y_fRecv, y_fLine, y_fPos, y_fStmt, y_fTarget, y_fMask, y_fHome, fo, y_fVals, y_fNew, y_out)) : wpY_expressionToken post (y_maxObjects, y_maxSteps, y_maxDepth, y_kept, y_end, y_tokens, y_pending, y_lines, y_classes, y_prints, y_place, y_steps, nI 0, nI (hs_nv (st) (w)), nI (List.length (st)), nI (hs_opn (st)), nI (p), tk, tv, sm, y_target, y_err, y_code, y_outcome, y_result, 1, hs_b (w), y_starting, y_ended, 0, y_hosted, y_sawSuper, tx, y_numbers, y_globals, y_entries, y_attrs, y_classOf, y_alive, y_orders, y_lengths, y_letters, y_bases, y_vals, y_ops, y_locals, y_fRecv, y_fLine, y_fPos, y_fStmt, y_fTarget, y_fMask, y_fHome, fo, y_fVals, y_fNew, y_out) := by
  subst ew ets
  have n1 := hs_nvLe st true
  have n2 := hs_opnLe st
  have n3 := hs_nvF st
  have hvr : ∀ x, x ∈ r → hs_vt x := fun x hx => hv x (List.mem_cons_of_mem _ hx)
  have hTA' := (hs_TAc hTA).2.2.2.2.2
  have mem : t ≠ 13 → ((13 ∈ t :: r ∨ y_sawSuper = 1) ↔ (13 ∈ r ∨ y_sawSuper = 1)) := by
    intro h; simp [Ne.symm h]
  by_cases c1 : 1000 ≤ t
  · have E : hs_step z (t :: r) true st = some (r, false, st, [(1, t - 1000)]) := if_pos c1
    refine hs_yNum hTA c1 (by omega) ?_
    have := Hs r false st _ (p + 1) (nI 1000) (nI (t - 1000)) y_sawSuper y_ops (vp_updL y_vals (hs_nv st true) (hs_int (nI (t - 1000)))) E hTA' hvr hSA (mem (by omega)) id
    rw [n3] at this
    exact this
  by_cases c2 : t = 12
  · subst c2
    have E : hs_step z (12 :: r) true st = some (r, false, st, [(3, 0)]) := rfl
    refine hs_yNone hTA (by omega) ?_
    have := Hs r false st _ (p + 1) (nI 12) (nI (12 - 12)) y_sawSuper y_ops (vp_updL y_vals (hs_nv st true) 4294967296) E hTA' hvr hSA (mem (by omega)) id
    rw [n3] at this
    exact this
  by_cases c3 : hs_isN t = true
  · have E : hs_step z (t :: r) true st = some (r, false, st, [(2, t - 100)]) := by
      show hs_opd t r st = _
      unfold hs_opd
      rw [if_neg c1, if_neg c2, if_pos c3]
    refine hs_yNameD hTA c3 (by omega) ?_
    have := Hs r false st _ (p + 1) (nI 100) (nI (t - 100)) y_sawSuper y_ops (vp_updL y_vals (hs_nv st true) 1) E hTA' hvr hSA (mem (by have := hs_tkN c3; omega)) id
    rw [n3] at this
    exact this
  have c3' : hs_isN t = false := by simpa using c3
  by_cases c4 : t = 21
  · subst c4
    have E : hs_step z (21 :: r) true st = hs_psh 1 r st := rfl
    refine hs_yOpenD hTA (by omega) (by omega) (fun q => ?_) (fun q => ?_)
    · have := Hs r true (1 :: st) _ (p + 1) (nI 21) (nI (21 - 21)) y_sawSuper _ y_vals (E.trans (hs_pshT q)) hTA' hvr (hs_SApush hSA (by decide)) (mem (by omega)) id
      rw [hs_opn1 (by decide)] at this
      exact this
    · exact Hb (E.trans (hs_pshF q)) _ _ _ _ _ _ _ _ _ _
  by_cases c5 : hs_isC t = true
  · have hc := hs_tkC c5
    have E0 : hs_step z (t :: r) true st = (match r with
      | k :: r1 => if k = 21 then hs_psh (4 + 64 * (t - 130)) r1 st else if k = 24 then
          (match r1 with
          | n :: r2 => if hs_isN n ∧ hs_hd r2 ≠ 21 then some (r2, false, st, [(5, (t - 130) * 26 + (n - 100))]) else none
          | [] => none) else none
      | [] => none) := by
      show hs_opd t r st = _
      unfold hs_opd
      rw [if_neg c1, if_neg c2, if_neg c3, if_neg c4, if_pos c5]
    cases r with
    | nil => exact hs_yClsBad hTA hvr c5 (by decide) (Or.inl (by decide)) (Hb E0)
    | cons k r1 =>
      by_cases k1 : k = 21
      · subst k1
        have E : hs_step z (t :: 21 :: r1) true st = hs_psh (4 + 64 * (t - 130)) r1 st := E0
        refine hs_yNewD hTA c5 (by omega) (by omega) (fun q => ?_) (fun q => ?_)
        · have := Hs r1 true ((4 + 64 * (t - 130)) :: st) _ (p + 1 + 1) (nI 21) (nI (21 - 21)) y_sawSuper _ y_vals (E.trans (hs_pshT q)) (hs_TAc hTA').2.2.2.2.2 (fun x hx => hvr x (List.mem_cons_of_mem _ hx)) (hs_SApush hSA (by omega)) (by simp; omega) id
          rw [hs_opn1 (by omega)] at this
          have e2 : hs_nv ((4 + 64 * (t - 130)) :: st) true = hs_nv st true := by
            unfold hs_nv; rw [hs_nst0 (by omega)]
          rw [e2] at this
          exact this
        · exact Hb (E.trans (hs_pshF q)) _ _ _ _ _ _ _ _ _ _
      · by_cases k2 : k = 24
        · subst k2
          cases r1 with
          | nil => exact hs_yClsBad hTA hvr c5 (by decide) (Or.inr (Or.inl (by decide))) (Hb E0)
          | cons n r2 =>
            by_cases k3 : hs_isN n = true ∧ hs_hd r2 ≠ 21
            · have E : hs_step z (t :: 24 :: n :: r2) true st = some (r2, false, st, [(5, (t - 130) * 26 + (n - 100))]) := E0.trans (if_pos k3)
              have hn := hs_tkN k3.1
              refine hs_yGetD hTA c5 k3.1 k3.2 (by omega) ?_
              have := Hs r2 false st _ (p + 1 + 1 + 1) (nI 100) (nI (n - 100)) y_sawSuper y_ops (vp_updL y_vals (hs_nv st true) 1) E (hs_TAc (hs_TAc hTA').2.2.2.2.2).2.2.2.2.2 (fun x hx => hvr x (List.mem_cons_of_mem _ (List.mem_cons_of_mem _ hx))) hSA (by simp; omega) id
              rw [n3] at this
              exact this
            · refine hs_yClsBad hTA hvr c5 (by decide) ?_ (Hb (E0.trans (if_neg k3)))
              by_cases k4 : hs_isN n = true
              · right; right; right
                show hs_hd r2 = 21
                exact Classical.byContradiction fun q => k3 ⟨k4, q⟩
              · right; right; left
                show hs_isN n = false
                simpa using k4
        · refine hs_yClsBad hTA hvr c5 k1 (Or.inl k2) (Hb (E0.trans ?_))
          show (if k = 21 then _ else if k = 24 then _ else none) = none
          rw [if_neg k1, if_neg k2]
  have c5' : hs_isC t = false := by simpa using c5
  by_cases c6 : t = 13
  · subst c6
    have bad : (∀ n r1, r = 24 :: n :: 21 :: r1 → hs_isN n = false) → hs_step z (13 :: r) true st = none := by
      intro hq
      show (match r with
        | k :: n :: q :: r1 => if k = 24 ∧ hs_isN n ∧ q = 21 then hs_psh (3 + 64 * (n - 100)) r1 st else none
        | _ => none) = none
      split
      · rename_i k n q r1
        refine if_neg ?_
        rintro ⟨rfl, a, rfl⟩
        have := hq n r1 rfl
        rw [a] at this; cases this
      · rfl
    by_cases q : ∃ n r1, r = 24 :: n :: 21 :: r1 ∧ hs_isN n = true
    · obtain ⟨n, r1, rfl, hn⟩ := q
      have E : hs_step z (13 :: 24 :: n :: 21 :: r1) true st = hs_psh (3 + 64 * (n - 100)) r1 st := by
        show (if 24 = 24 ∧ hs_isN n ∧ 21 = 21 then hs_psh (3 + 64 * (n - 100)) r1 st else none) = _
        exact if_pos ⟨rfl, hn, rfl⟩
      have hn' := hs_tkN hn
      refine hs_ySupD hTA hn (by omega) (by omega) (fun q => ?_) (fun q => ?_)
      · have := Hs r1 true ((3 + 64 * (n - 100)) :: st) _ (p + 1 + 1 + 1 + 1) (nI 21) (nI (21 - 21)) 1 _ y_vals (E.trans (hs_pshT q)) (hs_TAc (hs_TAc (hs_TAc hTA').2.2.2.2.2).2.2.2.2.2).2.2.2.2.2 (fun x hx => hvr x (by simp [hx])) (hs_SApush hSA (by omega)) (by simp) (fun _ => Or.inr rfl)
        rw [hs_opn1 (by omega)] at this
        have e2 : hs_nv ((3 + 64 * (n - 100)) :: st) true = hs_nv st true := by
          unfold hs_nv; rw [hs_nst0 (by omega)]
        rw [e2] at this
        exact this
      · exact Hb (E.trans (hs_pshF q)) _ _ _ _ _ _ _ _ _ _
    · have q' : ∀ n r1, r = 24 :: n :: 21 :: r1 → hs_isN n = false := by
        intro n r1 e
        cases hh : hs_isN n with
        | false => rfl
        | true => exact absurd ⟨n, r1, e, hh⟩ q
      exact hs_ySupBad hTA hvr q' (Hb (bad q'))
  by_cases c7 : t = 22
  · subst c7
    have E0 : hs_step z (22 :: r) true st = (match st with
      | s :: st1 => if 2 ≤ s % 64 ∧ s % 64 ≤ 4 then some (r, false, st1, [(2 * (s % 64) + 2, s / 64)]) else none
      | [] => none) := rfl
    cases st with
    | nil => exact hs_yC0bad (dd := 0) (base := 0) hTA (by decide) hfo hSA (by decide) (by decide) (fun _ _ _ _ _ _ _ _ _ _ => Hb E0 _ _ _ _ _ _ _ _ _ _) (Hb E0 _ _ _ _ _ _ _ _ _ _)
    | cons s st1 =>
      by_cases hty : 2 ≤ s % 64 ∧ s % 64 ≤ 4
      · have E := E0.trans (if_pos hty)
        obtain ⟨tp, et, hb, hs, hs2, hSA1⟩ := hSA
        have et : st1.length = tp := by simp only [List.length_cons] at et; omega
        subst et
        simp only [List.length_cons] at hlen
        refine hs_yC0 (dd := 0) (base := 0) hTA (by decide) hfo (by omega) (by omega) hs hs2 hty (hs_yClose0 (n := 0) (by decide) hfo (by omega) (by omega) hs ?_)
        refine hs_yCloseD (n := 0) hs2 hty (by decide) ?_ (by omega) ?_
        · unfold hs_cn hs_nv hs_nst
          split
          · rw [if_pos (by omega)]; omega
          · omega
        · have := Hs r false st1 _ (p + 1) (nI 22) (nI (22 - 22)) y_sawSuper y_ops (vp_updL y_vals (hs_nv (s :: st1) true - hs_cn (s % 64) 0) 1) E hTA' hvr hSA1 (mem (by omega)) id
          rw [hs_opn1 (by omega), nI_pred]
          have e2 : hs_nv (s :: st1) true - hs_cn (s % 64) 0 + 1 = hs_nv st1 false := by
            unfold hs_cn hs_nv hs_nst
            split
            · rw [if_pos (by omega)]; simp
            · rw [if_neg (by omega)]; simp
          rw [e2]
          exact this
      · have E := E0.trans (if_neg hty)
        exact hs_yC0bad (dd := 0) (base := 0) hTA (by decide) hfo hSA (by omega) hty (fun _ _ _ _ _ _ _ _ _ _ => Hb E _ _ _ _ _ _ _ _ _ _) (Hb E _ _ _ _ _ _ _ _ _ _)
  · have E : hs_step z (t :: r) true st = none := by
      show hs_opd t r st = _
      unfold hs_opd
      rw [if_neg c1, if_neg c2, if_neg c3, if_neg c4, if_neg c5, if_neg c6, if_neg c7]
    exact hs_yOpdBad hTA (hv t (by simp)) c1 c2 c3' c4 c5' c6 c7 (Hb E _ _ _ _ _ _ _ _ _ _)
end
