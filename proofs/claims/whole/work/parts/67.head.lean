/-! a line with an expression begins -/
section
def hs_e0 : List Nat → List Nat
  | [] => []
  | h :: r => if 1 ≤ h ∧ h ≤ 11 then r else if hs_isN h = true ∧ hs_hd r = 26 then r.tail else if hs_isC h = true ∧ hs_hd r = 24 ∧ hs_isN (hs_hd r.tail) = true ∧ hs_hd r.tail.tail = 26 then r.tail.tail.tail else h :: r
def hs_exh (x : Nat) : Prop := x ≠ 1 ∧ x ≠ 2 ∧ x ≠ 5 ∧ x ≠ 7 ∧ x ≠ 8 ∧ x ≠ 10
theorem hs_tailSub {x t : Nat} {r : List Nat} (h : t ∈ r.tail) : t ∈ x :: r := List.mem_cons_of_mem _ (List.mem_of_mem_tail h)
theorem hs_e0Sub : ∀ {ts : List Nat}, (hs_e0 ts).length ≤ ts.length ∧ ∀ t, t ∈ hs_e0 ts → t ∈ ts
  | [] => ⟨Nat.le_refl _, fun _ h => h⟩
  | x :: r => by
    have e0 : hs_e0 (x :: r) = if 1 ≤ x ∧ x ≤ 11 then r else if hs_isN x = true ∧ hs_hd r = 26 then r.tail else if hs_isC x = true ∧ hs_hd r = 24 ∧ hs_isN (hs_hd r.tail) = true ∧ hs_hd r.tail.tail = 26 then r.tail.tail.tail else x :: r := rfl
    rw [e0]
    split
    · exact ⟨Nat.le_succ _, fun t h => List.mem_cons_of_mem _ h⟩
    · split
      · refine ⟨?_, fun t h => hs_tailSub h⟩
        rw [List.length_tail, List.length_cons]; omega
      · split
        · refine ⟨?_, fun t h => hs_tailSub (List.mem_of_mem_tail (List.mem_of_mem_tail h))⟩
          rw [List.length_tail, List.length_tail, List.length_tail, List.length_cons]; omega
        · exact ⟨Nat.le_refl _, fun _ h => h⟩
theorem hs_TAall {tx : Nat → Int32} : ∀ {ts : List Nat} {p : Nat}, hs_TA tx p ts → ∀ t, t ∈ ts → t < 2 ^ 31
  | [], _, _, t, ht => by cases ht
  | x :: r, p, h, t, ht => by
    obtain ⟨_, _, h3, _, _, h6⟩ := hs_TAc h
    cases ht with
    | head => exact h3
    | tail _ ht => exact hs_TAall h6 t ht
variable {x_objectLimit x_stepLimit x_depthLimit x_pendingCount x_keptTokens x_keptLines x_lineCount x_codeCount x_cursor x_stop x_waitingCount x_openCount x_classCount x_callCount x_operandCount x_stepsTaken x_error x_raisedCode x_printCount x_lastPlace : Int32} {x_lastResult : Int64} {x_pending x_lineTable x_orders x_merging x_letterClass x_objectClass x_calls x_lastPrints : Nat → Int32} {x_code x_waiting x_globals x_entries x_attributes x_held x_operands : Nat → Int64}
variable {y_maxObjects y_maxSteps y_maxDepth y_kept y_end y_tokens y_pending y_lines y_classes y_prints y_place y_steps y_d y_valTop y_opTop y_opens y_pos y_tk y_tv y_stmt y_target y_err y_code y_outcome y_dry y_want y_starting y_ended y_bad y_hosted y_sawSuper : Int32} {y_result : Int64} {y_text y_numbers y_classOf y_alive y_orders y_lengths y_letters y_bases y_ops y_fLine y_fPos y_fStmt y_fTarget y_fMask y_fHome y_fOps y_fVals y_fNew y_out : Nat → Int32} {y_globals y_entries y_attrs y_vals y_locals y_fRecv : Nat → Int64}
variable {tx nu LT CL : Nat → Int32} {cd : Nat → Int64} {lc kp cc : Nat} {P ind h : Nat → Nat} {tk : Nat → List Nat} {ca cb us ue : Nat → Nat} {l k : Nat}
theorem hs_lineX (T : hs_T tx nu LT cd lc kp cc P ind h tk ca cb us ue) (hl : l < lc) (hk : hs_exh (h l)) (h13 : 13 ∈ tk l → 1 ≤ k) (hC : CL (k * 6 + 3) = LT (l * 14 + 9)) : hs_XS LT cd CL l (hs_e0 (tk l)) [] true k ∧ (hs_e0 (tk l)).length ≤ 40 := by
  obtain ⟨_, hcc, _, T⟩ := T
  obtain ⟨t1, t2, t3, t4, t5, t6, t7, t8, t9, t10, t11⟩ := T l hl
  obtain ⟨n1, n2, n3, n4, e, c0, n5, n6, n7, n8, n9⟩ := t8
  obtain ⟨g1, g2, g3, g4⟩ := t7 l t1 t2
  have l40 := t9.1
  obtain ⟨s1, s2⟩ := hs_e0Sub (ts := tk l)
  obtain ⟨k1, k2, k3, k4, k5, k6⟩ := hk
  refine ⟨?_, by omega⟩
  have key : ∀ rs fs, hs_S (hs_zk (LT (l * 14))) (hs_e0 (tk l)) true [] e rs fs → hs_En (LT (l * 14)) (LT (l * 14 + 5)) rs fs → hs_XS LT cd CL l (hs_e0 (tk l)) [] true k := by
    intro rs fs h1 h2
    refine ⟨c0, e, rs, fs, by rw [hC]; exact n5, n6, by omega, n8, h1, h2, ?_, fun t ht => hs_TAall g1 t (s2 t ht), fun ht => h13 (s2 13 ht), fun s hs => by cases hs⟩
    rw [if_pos rfl, List.length_nil]
    omega
  cases q : tk l with
  | nil => exact absurd q g2
  | cons x r =>
    rw [q] at n9 g4
    have hx : h l = x := g4
    rw [← q]
    rw [hs_LF] at n9
    rw [if_neg (show ¬ x = 10 by omega), if_neg (show ¬ (x = 5 ∨ x = 7) by omega), if_neg (show ¬ x = 8 by omega), if_neg (show ¬ x = 1 by omega), if_neg (show ¬ x = 2 by omega)] at n9
    by_cases q4 : x = 4 ∨ x = 6
    · rw [if_pos q4] at n9
      obtain ⟨m1, r', m2, m3⟩ := n9
      have e0 : hs_e0 (tk l) = r' ++ [25] := by
        rw [q, ← m2]
        exact if_pos (by omega)
      refine key [25] [] ?_ ?_
      · rw [e0]
        have z : hs_zk (LT (l * 14)) = false := by
          rw [m1]
          rcases q4 with rfl | rfl <;> decide
        rw [z]
        exact hs_S25i.mpr m3
      · rw [m1]
        rcases q4 with rfl | rfl
        · exact ⟨Or.inr (Or.inl rfl), Or.inl ⟨rfl, Or.inr ⟨rfl, Or.inl rfl⟩⟩⟩
        · exact ⟨Or.inr (Or.inr (Or.inl rfl)), Or.inl ⟨rfl, Or.inr ⟨rfl, Or.inr rfl⟩⟩⟩
    · rw [if_neg q4] at n9
      by_cases q3 : x = 3 ∨ x = 9 ∨ x = 11
      · rw [if_pos q3] at n9
        obtain ⟨m1, m3⟩ := n9
        have e0 : hs_e0 (tk l) = r := by
          rw [q]
          exact if_pos (by omega)
        refine key [] [] ?_ ?_
        · rw [e0]
          have z : hs_zk (LT (l * 14)) = false := by
            rw [m1]
            rcases q3 with rfl | rfl | rfl <;> decide
          rw [z]
          exact m3
        · rw [m1]
          rcases q3 with rfl | rfl | rfl
          · exact ⟨Or.inl rfl, Or.inl ⟨rfl, Or.inl ⟨rfl, by decide, by decide, by decide⟩⟩⟩
          · exact ⟨Or.inr (Or.inr (Or.inr (Or.inl rfl))), Or.inl ⟨rfl, Or.inl ⟨rfl, by decide, by decide, by decide⟩⟩⟩
          · exact ⟨Or.inr (Or.inr (Or.inr (Or.inr (Or.inl rfl)))), Or.inl ⟨rfl, Or.inl ⟨rfl, by decide, by decide, by decide⟩⟩⟩
      · rw [if_neg q3] at n9
        have nw2 : ¬ (1 ≤ x ∧ x ≤ 11) := by
          intro y
          omega
        by_cases q5 : hs_isN x = true ∧ hs_hd r = 26
        · rw [if_pos q5] at n9
          obtain ⟨m1, m2, m3⟩ := n9
          have e0 : hs_e0 (tk l) = r.tail := by
            rw [q]
            exact (if_neg nw2).trans (if_pos q5)
          refine key [] [] ?_ ?_
          · rw [e0, m1]; exact m3
          · rw [m1]
            exact ⟨Or.inr (Or.inr (Or.inr (Or.inr (Or.inr (Or.inr (Or.inl rfl)))))), Or.inl ⟨rfl, Or.inl ⟨rfl, by decide, by decide, by decide⟩⟩⟩
        · rw [if_neg q5] at n9
          by_cases q6 : hs_isC x = true ∧ hs_hd r = 24 ∧ hs_isN (hs_hd r.tail) = true ∧ hs_hd r.tail.tail = 26
          · rw [if_pos q6] at n9
            obtain ⟨m1, m2, m4, m3⟩ := n9
            have e0 : hs_e0 (tk l) = r.tail.tail.tail := by
              rw [q]
              exact (if_neg nw2).trans ((if_neg q5).trans (if_pos q6))
            refine key [] [] ?_ ?_
            · rw [e0, m1]; exact m3
            · rw [m1]
              exact ⟨Or.inr (Or.inr (Or.inr (Or.inr (Or.inr (Or.inr (Or.inr (Or.inr rfl))))))), Or.inl ⟨rfl, Or.inl ⟨rfl, by decide, by decide, by decide⟩⟩⟩
          · rw [if_neg q6] at n9
            have e0 : hs_e0 (tk l) = x :: r := by
              rw [q]
              exact (if_neg nw2).trans ((if_neg q5).trans (if_neg q6))
            rcases n9 with ⟨m1, m3⟩ | ⟨m1, n, hn, m2, m3⟩
            · refine key [] [] ?_ ?_
              · rw [e0, m1]; exact m3
              · rw [m1]
                exact ⟨Or.inr (Or.inr (Or.inr (Or.inr (Or.inr (Or.inl rfl))))), Or.inl ⟨rfl, Or.inl ⟨rfl, by decide, by decide, by decide⟩⟩⟩
            · refine key [] [5 + 64 * (n - 100)] ?_ ?_
              · rw [e0, m1]; exact m3
              · rw [m1, m2]
                have hn2 : 100 ≤ n ∧ n < 126 := by
                  unfold hs_isN at hn
                  exact of_decide_eq_true hn
                exact ⟨Or.inr (Or.inr (Or.inr (Or.inr (Or.inr (Or.inr (Or.inr (Or.inl rfl))))))), Or.inr ⟨rfl, rfl, n - 100, by omega, rfl, rfl⟩⟩
theorem hs_lineY (T : hs_T tx nu LT cd lc kp cc P ind h tk ca cb us ue) (hl : l < lc) (hk : hs_exh (h l)) {post : SY → Prop} (H : ∀ (pp : Nat) (q1 q2 tg : Int32), hs_TA tx pp (hs_e0 (tk l)) → hs_tg LT l tg → post (y_maxObjects, y_maxSteps, y_maxDepth, y_kept, y_end, y_tokens, y_pending, y_lines, y_classes, y_prints, y_place, y_steps, y_d, y_valTop, y_opTop, y_opens, nI pp, q1, q2, hs_smk (LT (l * 14)), tg, y_err, y_code, y_outcome, y_result, y_dry, y_want, y_starting, y_ended, y_bad, y_hosted, y_sawSuper, tx, y_numbers, y_globals, y_entries, y_attrs, y_classOf, y_alive, y_orders, y_lengths, y_letters, y_bases, y_vals, y_ops, y_locals, y_fRecv, y_fLine, y_fPos, y_fStmt, y_fTarget, y_fMask, y_fHome, y_fOps, y_fVals, y_fNew, y_out)) : wpY_head post (y_maxObjects, y_maxSteps, y_maxDepth, y_kept, y_end, y_tokens, y_pending, y_lines, y_classes, y_prints, y_place, y_steps, y_d, y_valTop, y_opTop, y_opens, y_pos, y_tk, y_tv, y_stmt, y_target, y_err, y_code, y_outcome, y_result, y_dry, y_want, y_starting, y_ended, y_bad, y_hosted, y_sawSuper, tx, y_numbers, y_globals, y_entries, y_attrs, y_classOf, y_alive, y_orders, y_lengths, y_letters, y_bases, y_vals, y_ops, y_locals, y_fRecv, y_fLine, y_fPos, y_fStmt, y_fTarget, y_fMask, y_fHome, y_fOps, y_fVals, y_fNew, y_out) (nI (P l)) := by
  obtain ⟨_, hcc, _, T⟩ := T
  obtain ⟨t1, t2, t3, t4, t5, t6, t7, t8, t9, t10, t11⟩ := T l hl
  obtain ⟨n1, n2, n3, n4, e, c0, n5, n6, n7, n8, n9⟩ := t8
  obtain ⟨g1, g2, g3, g4⟩ := t7 l t1 t2
  obtain ⟨k1, k2, k3, k4, k5, k6⟩ := hk
  cases q : tk l with
  | nil => exact absurd q g2
  | cons x r =>
    rw [q] at n9 g4 g1 g3 H
    have hx : h l = x := g4
    rw [hs_LF] at n9
    rw [if_neg (show ¬ x = 10 by omega), if_neg (show ¬ (x = 5 ∨ x = 7) by omega), if_neg (show ¬ x = 8 by omega), if_neg (show ¬ x = 1 by omega), if_neg (show ¬ x = 2 by omega)] at n9
    by_cases qw : 1 ≤ x ∧ x ≤ 11
    · have m1 : LT (l * 14) = nI x := by
        by_cases q4 : x = 4 ∨ x = 6
        · rw [if_pos q4] at n9; exact n9.1
        · rw [if_neg q4, if_pos (show x = 3 ∨ x = 9 ∨ x = 11 by omega)] at n9; exact n9.1
      have e0 : hs_e0 (x :: r) = r := if_pos qw
      rw [e0, m1] at H
      have hx4 : x = 3 ∨ x = 4 ∨ x = 6 ∨ x = 9 ∨ x = 11 := by omega
      have e1 : hs_smk (nI x) = nI x := by rcases hx4 with rfl | rfl | rfl | rfl | rfl <;> decide
      have e2 : ∀ t, hs_tg LT l t := by
        intro t
        unfold hs_tg
        rw [m1]
        rcases hx4 with rfl | rfl | rfl | rfl | rfl <;> exact ⟨fun z => absurd z (by decide), fun z => absurd z (by decide)⟩
      rw [e1] at H
      exact hs_yHeadW g1 qw (H _ _ _ _ (hs_TAc g1).2.2.2.2.2 (e2 _))
    · rw [if_neg (show ¬ (x = 4 ∨ x = 6) by omega), if_neg (show ¬ (x = 3 ∨ x = 9 ∨ x = 11) by omega)] at n9
      by_cases q5 : hs_isN x = true ∧ hs_hd r = 26
      · rw [if_pos q5] at n9
        obtain ⟨m1, m2, m3⟩ := n9
        have e0 : hs_e0 (x :: r) = r.tail := (if_neg qw).trans (if_pos q5)
        rw [e0, m1] at H
        obtain ⟨r1, rfl⟩ : ∃ r1, r = 26 :: r1 := by
          cases r with
          | nil => exact absurd q5.2 (by decide)
          | cons y r1 => exact ⟨r1, by rw [show y = 26 from q5.2]⟩
        refine hs_yHeadN g1 q5.1 (H _ _ _ _ (hs_TAc (hs_TAc g1).2.2.2.2.2).2.2.2.2.2 ⟨fun _ => m2.symm, fun z => ?_⟩)
        rw [m1] at z
        exact absurd z (by decide)
      · rw [if_neg q5] at n9
        by_cases q6 : hs_isC x = true ∧ hs_hd r = 24 ∧ hs_isN (hs_hd r.tail) = true ∧ hs_hd r.tail.tail = 26
        · rw [if_pos q6] at n9
          obtain ⟨m1, m2, m4, m3⟩ := n9
          have e0 : hs_e0 (x :: r) = r.tail.tail.tail := (if_neg qw).trans ((if_neg q5).trans (if_pos q6))
          rw [e0, m1] at H
          obtain ⟨n, r1, hn, rfl⟩ : ∃ n r1, hs_isN n = true ∧ r = 24 :: n :: 26 :: r1 := by
            obtain ⟨_, n, r1, er, hn⟩ := hs_plainI.mpr q6
            exact ⟨n, r1, hn, er⟩
          refine hs_yHeadC g1 q6.1 hn (H _ _ _ _ (hs_TAc (hs_TAc (hs_TAc (hs_TAc g1).2.2.2.2.2).2.2.2.2.2).2.2.2.2.2).2.2.2.2.2 ⟨fun z => ?_, fun _ => ?_⟩)
          · rw [m1] at z
            exact absurd z (by decide)
          · rw [m4, m2]
            exact (hs_ixMul (x - 130) 26 (n - 100)).symm
        · rw [if_neg q6] at n9
          have e0 : hs_e0 (x :: r) = x :: r := (if_neg qw).trans ((if_neg q5).trans (if_neg q6))
          have m1 : LT (l * 14) = 14 ∨ LT (l * 14) = 16 := by
            rcases n9 with ⟨m1, _⟩ | ⟨m1, _⟩
            · exact Or.inl m1
            · exact Or.inr m1
          have e1 : hs_smk (LT (l * 14)) = 50 := by rcases m1 with m1 | m1 <;> rw [m1] <;> decide
          have e2 : ∀ t, hs_tg LT l t := by
            intro t
            unfold hs_tg
            rcases m1 with m1 | m1 <;> rw [m1] <;> exact ⟨fun z => absurd z (by decide), fun z => absurd z (by decide)⟩
          rw [e0, e1] at H
          exact hs_yHeadP g1 g3 ⟨qw, q5, fun z => q6 (hs_plainI.mp z)⟩ (fun a b c => H _ _ _ _ g1 (e2 _))
end
