/-! the automaton at X's grain -/
/-- what stands at A, then T: the same whole readings -/
def hs_Rr (z : Bool) (T ts : List Nat) (w : Bool) (st ts' : List Nat) (w' : Bool) (st' : List Nat) (e : List (Nat × Nat)) : Prop :=
  ∀ (cd : List (Nat × Nat)) (fs : List Nat), hs_S z (ts ++ T) w st cd [] fs ↔ ∃ cd', cd = e ++ cd' ∧ hs_S z (ts' ++ T) w' st' cd' [] fs
def hs_No (z : Bool) (T ts : List Nat) (w : Bool) (st : List Nat) : Prop := ∀ (cd : List (Nat × Nat)) (fs : List Nat), ¬ hs_S z (ts ++ T) w st cd [] fs
theorem hs_RrT {z w w1 w2 : Bool} {T ts st ts1 st1 ts2 st2 : List Nat} {e1 e2 : List (Nat × Nat)} (h1 : hs_Rr z T ts w st ts1 w1 st1 e1) (h2 : hs_Rr z T ts1 w1 st1 ts2 w2 st2 e2) : hs_Rr z T ts w st ts2 w2 st2 (e1 ++ e2) := by
  intro cd fs
  rw [h1 cd fs]
  constructor
  · rintro ⟨c1, rfl, h⟩
    obtain ⟨c2, rfl, h3⟩ := (h2 c1 fs).mp h
    exact ⟨c2, by rw [List.append_assoc], h3⟩
  · rintro ⟨c2, rfl, h⟩
    exact ⟨e2 ++ c2, by rw [List.append_assoc], (h2 _ fs).mpr ⟨c2, rfl, h⟩⟩
theorem hs_RrN {z w w1 : Bool} {T ts st ts1 st1 : List Nat} {e1 : List (Nat × Nat)} (h1 : hs_Rr z T ts w st ts1 w1 st1 e1) (h2 : hs_No z T ts1 w1 st1) : hs_No z T ts w st := by
  intro cd fs h
  obtain ⟨c1, _, h⟩ := (h1 cd fs).mp h
  exact h2 _ _ h
theorem hs_finW {ts st : List Nat} : ¬ hs_fin ts true st := fun y => absurd y.1 (by decide)
theorem hs_Rr1 {z w' : Bool} {T ts st ts' st' : List Nat} {w : Bool} {e : List (Nat × Nat)} (hf : ¬ hs_fin (ts ++ T) w st) (h : hs_step z (ts ++ T) w st = some (ts' ++ T, w', st', e)) : hs_Rr z T ts w st ts' w' st' e := fun cd fs => hs_Sstep hf h
theorem hs_No1 {z w : Bool} {T ts st : List Nat} (hf : ¬ hs_fin (ts ++ T) w st) (h : hs_step z (ts ++ T) w st = none) : hs_No z T ts w st := fun cd fs => hs_Sbad hf h
/-- a token that is no operator, where one is looked for -/
theorem hs_Sop {z : Bool} {t : Nat} {r : List Nat} (h0 : hs_rank t = 0) (h1 : t ≠ 24) (h2 : t ≠ 22) (h3 : t ≠ 25) : ∀ (st : List Nat) (cd : List (Nat × Nat)) (rs fs : List Nat), ¬ hs_S z (t :: r) false st cd rs fs := by
  have nf : ∀ st, ¬ hs_fin (t :: r) false st := by
    intro st y
    rcases y.2.1 with q | q
    · cases q
    · exact h3 q
  have step : ∀ st : List Nat, ¬ (27 ≤ hs_hd st % 64) → hs_step z (t :: r) false st = none := by
    intro st hc
    show hs_opr z (t :: r) st = none
    unfold hs_opr
    rw [if_neg (fun y => hc y.1)]
    show (if 0 < hs_rank t then _ else if t = 24 then _ else if t = 22 then _ else none) = none
    rw [if_neg (by omega), if_neg h1, if_neg h2]
  intro st
  induction st with
  | nil => intro cd rs fs; exact hs_Sbad (nf _) (step [] (by decide))
  | cons s st ih =>
    intro cd rs fs
    by_cases hc : 27 ≤ s % 64
    · have E : hs_step z (t :: r) false (s :: st) = some (t :: r, false, st, [(s % 64, 0)]) := by
        show hs_opr z (t :: r) (s :: st) = _
        unfold hs_opr
        have : 27 ≤ hs_hd (s :: st) % 64 ∧ hs_hd (t :: r) ≠ 24 ∧ hs_rank (hs_hd (t :: r)) ≤ hs_rank (hs_hd (s :: st) % 64) ∧ ¬ (hs_rank (hs_hd (t :: r)) = 1 ∧ hs_rank (hs_hd (s :: st) % 64) = 1) := by
          refine ⟨hc, h1, ?_, ?_⟩
          · show hs_rank t ≤ _; omega
          · show ¬ (hs_rank t = 1 ∧ _); omega
        rw [if_pos this]
        rfl
      intro h
      obtain ⟨cd', _, h⟩ := (hs_Sstep (nf _) E).mp h
      exact ih _ _ _ h
    · exact hs_Sbad (nf _) (step (s :: st) hc)
/-- what waits with this rank or more -/
def hs_stl (r : Nat) : List Nat → List (Nat × Nat) × List Nat
  | [] => ([], [])
  | s :: st => if r ≤ hs_rank (s % 64) then ((s % 64, 0) :: (hs_stl r st).1, (hs_stl r st).2) else ([], s :: st)
theorem hs_stlT {r s : Nat} {st : List Nat} (h : r ≤ hs_rank (s % 64)) : hs_stl r (s :: st) = ((s % 64, 0) :: (hs_stl r st).1, (hs_stl r st).2) := if_pos h
theorem hs_stlF {r s : Nat} {st : List Nat} (h : ¬ r ≤ hs_rank (s % 64)) : hs_stl r (s :: st) = ([], s :: st) := if_neg h
theorem hs_rank27 {t : Nat} (h : 1 ≤ hs_rank t) : 27 ≤ t ∧ t ≤ 32 := by
  unfold hs_rank at h
  split at h
  · omega
  · split at h
    · omega
    · split at h <;> omega
theorem hs_Sstl {z : Bool} {T ts : List Nat} {r : Nat} (hr : 1 ≤ r) (h24 : hs_hd (ts ++ T) ≠ 24) (hrk : hs_rank (hs_hd (ts ++ T)) = 1 ∧ r = 2 ∨ hs_rank (hs_hd (ts ++ T)) ≠ 1 ∧ hs_rank (hs_hd (ts ++ T)) ≤ r) : ∀ st : List Nat, hs_Rr z T ts false st ts false (hs_stl r st).2 (hs_stl r st).1 := by
  intro st
  induction st with
  | nil => exact fun cd fs => ⟨fun h => ⟨cd, rfl, h⟩, fun ⟨cd', e, h⟩ => by have e : cd = cd' := e; rw [e]; exact h⟩
  | cons s st ih =>
    by_cases h : r ≤ hs_rank (s % 64)
    · rw [hs_stlT h]
      have h27 := hs_rank27 (t := s % 64) (by omega)
      refine hs_RrT (e1 := [(s % 64, 0)]) (hs_Rr1 (fun y => y.2.2.1 h27.1) ?_) ih
      show hs_opr z (ts ++ T) (s :: st) = _
      unfold hs_opr
      rw [if_pos (by
        refine ⟨h27.1, h24, ?_, ?_⟩
        · show hs_rank (hs_hd (ts ++ T)) ≤ hs_rank (s % 64); omega
        · show ¬ (hs_rank (hs_hd (ts ++ T)) = 1 ∧ hs_rank (s % 64) = 1); omega)]
      rfl
    · rw [hs_stlF h]
      exact fun cd fs => ⟨fun h => ⟨cd, rfl, h⟩, fun ⟨cd', e, h⟩ => by have e : cd = cd' := e; rw [e]; exact h⟩
theorem hs_stlLen (r : Nat) : ∀ st : List Nat, (hs_stl r st).1.length + (hs_stl r st).2.length = st.length
  | [] => rfl
  | s :: st => by
    by_cases h : r ≤ hs_rank (s % 64)
    · rw [hs_stlT h]
      have := hs_stlLen r st
      simp only [List.length_cons]
      omega
    · rw [hs_stlF h]; simp
theorem hs_stlOpn {r : Nat} (hr : 1 ≤ r) : ∀ st : List Nat, hs_opn (hs_stl r st).2 = hs_opn st
  | [] => rfl
  | s :: st => by
    by_cases h : r ≤ hs_rank (s % 64)
    · rw [hs_stlT h]
      have h27 := hs_rank27 (t := s % 64) (by omega)
      rw [hs_opn0 (by omega)]
      exact hs_stlOpn hr st
    · rw [hs_stlF h]
theorem hs_stlTop (r : Nat) : ∀ st : List Nat, (hs_stl r st).2 = [] ∨ hs_rank (hs_hd (hs_stl r st).2 % 64) < r
  | [] => Or.inl rfl
  | s :: st => by
    by_cases h : r ≤ hs_rank (s % 64)
    · rw [hs_stlT h]
      exact hs_stlTop r st
    · rw [hs_stlF h]
      right
      show hs_rank (s % 64) < r
      omega
/-- X's stack of what waits -/
def hs_we (s : Nat) : Int64 := if s % 64 = 1 then hs_ce 0 0 else if 2 ≤ s % 64 ∧ s % 64 ≤ 4 then hs_ce (2 * (s % 64) + 3) (s / 64) else hs_ce s 0
def hs_ws (s : Nat) : Prop := s = 1 ∨ (2 ≤ s % 64 ∧ s % 64 ≤ 4 ∧ s / 64 < 26) ∨ (27 ≤ s ∧ s ≤ 32)
def hs_WA (wt : Nat → Int64) : List Nat → Prop
  | [] => True
  | s :: r => wt r.length = hs_we s ∧ hs_ws s ∧ hs_WA wt r
theorem hs_WAupd {wt wt' : Nat → Int64} : ∀ {st : List Nat}, hs_WA wt st → (∀ k, k < st.length → wt' k = wt k) → hs_WA wt' st
  | [], _, _ => trivial
  | s :: r, h, hk => ⟨(hk _ (by simp)).trans h.1, h.2.1, hs_WAupd h.2.2 (fun k k1 => hk k (by simp only [List.length_cons]; omega))⟩
theorem hs_WApush {wt : Nat → Int64} {st : List Nat} {s : Nat} (h : hs_WA wt st) (hs : hs_ws s) : hs_WA (vp_updL wt st.length (hs_we s)) (s :: st) := ⟨pk_uLs, hs, hs_WAupd h (fun k k1 => pk_uLn (by omega))⟩
theorem hs_WAstl {wt : Nat → Int64} {r : Nat} : ∀ {st : List Nat}, hs_WA wt st → hs_WA wt (hs_stl r st).2
  | [], _ => trivial
  | s :: st, h => by
    by_cases c : r ≤ hs_rank (s % 64)
    · rw [hs_stlT c]; exact hs_WAstl h.2.2
    · rw [hs_stlF c]; exact h
/-- the operation of what waits -/
theorem hs_weOp {s : Nat} (h : hs_ws s) : ∃ o q, hs_we s = hs_ce o q ∧ o < 64 ∧ q < 2 ^ 31 ∧ hs_rank o = hs_rank (s % 64) ∧ (o = 0 ↔ s % 64 = 1) ∧ (27 ≤ s % 64 → o = s % 64 ∧ q = 0) ∧ (2 ≤ s % 64 ∧ s % 64 ≤ 4 → o = 2 * (s % 64) + 3 ∧ q = s / 64) := by
  rcases h with rfl | ⟨h1, h2, h3⟩ | ⟨h1, h2⟩
  · exact ⟨0, 0, rfl, by decide, by decide, rfl, by decide, by decide, by decide⟩
  · refine ⟨2 * (s % 64) + 3, s / 64, ?_, by omega, by omega, ?_, by omega, by omega, by omega⟩
    · unfold hs_we; rw [if_neg (by omega), if_pos ⟨h1, h2⟩]
    · unfold hs_rank
      rw [if_neg (by omega), if_neg (by omega), if_neg (by omega), if_neg (by omega), if_neg (by omega), if_neg (by omega)]
  · have e : s % 64 = s := Nat.mod_eq_of_lt (by omega)
    refine ⟨s, 0, ?_, by omega, by decide, ?_, by omega, by omega, by omega⟩
    · unfold hs_we; rw [if_neg (by omega), if_neg (by omega)]
    · rw [e]
section
variable {x_objectLimit x_stepLimit x_depthLimit x_pendingCount x_keptTokens x_keptLines x_lineCount x_codeCount x_cursor x_stop x_waitingCount x_openCount x_classCount x_callCount x_operandCount x_stepsTaken x_error x_raisedCode x_printCount x_lastPlace : Int32} {x_lastResult : Int64} {x_pending x_lineTable x_orders x_merging x_letterClass x_objectClass x_calls x_lastPrints : Nat → Int32} {x_code x_waiting x_globals x_entries x_attributes x_held x_operands : Nat → Int64}
variable {y_maxObjects y_maxSteps y_maxDepth y_kept y_end y_tokens y_pending y_lines y_classes y_prints y_place y_steps y_d y_valTop y_opTop y_opens y_pos y_tk y_tv y_stmt y_target y_err y_code y_outcome y_dry y_want y_starting y_ended y_bad y_hosted y_sawSuper : Int32} {y_result : Int64} {y_text y_numbers y_classOf y_alive y_orders y_lengths y_letters y_bases y_ops y_fLine y_fPos y_fStmt y_fTarget y_fMask y_fHome y_fOps y_fVals y_fNew y_out : Nat → Int32} {y_globals y_entries y_attrs y_vals y_locals y_fRecv : Nat → Int64}
theorem hs_xSettle0 {r : Nat} (hr : 1 ≤ r) (hr3 : r ≤ 3) {post : SX → Prop} : ∀ (st : List Nat) (wt : Nat → Int64) (cc : Nat) (cd : Nat → Int64), hs_WA wt st → st.length ≤ 40 → cc + st.length ≤ 443 →
    (∀ cd' : Nat → Int64, hs_CA cd' cc (hs_stl r st).1 (cc + (hs_stl r st).1.length) → (∀ k, k < cc → cd' k = cd k) → post (x_objectLimit, x_stepLimit, x_depthLimit, x_pendingCount, x_keptTokens, x_keptLines, x_lineCount, nI (cc + (hs_stl r st).1.length), x_cursor, x_stop, nI (hs_stl r st).2.length, x_openCount, x_classCount, x_callCount, x_operandCount, x_stepsTaken, x_error, x_raisedCode, x_printCount, x_lastResult, x_lastPlace, x_pending, x_lineTable, cd', wt, x_globals, x_entries, x_orders, x_merging, x_letterClass, x_objectClass, x_attributes, x_calls, x_held, x_operands, x_lastPrints)) →
    ∀ i : Int32, i = nI st.length - 1 → wX_settle_7 post (nI r) (st.length + 1) i x_objectLimit x_stepLimit x_depthLimit x_pendingCount x_keptTokens x_keptLines x_lineCount (nI cc) x_cursor x_stop (nI st.length) x_openCount x_classCount x_callCount x_operandCount x_stepsTaken x_error x_raisedCode x_printCount x_lastResult x_lastPlace x_pending x_lineTable cd wt x_globals x_entries x_orders x_merging x_letterClass x_objectClass x_attributes x_calls x_held x_operands x_lastPrints := by
  intro st
  induction st with
  | nil =>
    intro wt cc cd hW hl hc H i hi
    subst hi
    exact br_t (by decide) (H cd rfl (fun _ _ => rfl))
  | cons s st ih =>
    intro wt cc cd hW hl hc H i hi
    obtain ⟨h1, h2, h3⟩ := hW
    simp only [List.length_cons] at hl hc hi
    have ei : i = nI st.length := by rw [hi, nI_pred]
    subst ei
    obtain ⟨o, q, e1, e2, e3, e4, e5, e6, e7⟩ := hs_weOp h2
    refine br_f (nI_pos (by omega)) (And.intro (vp_in_nI (by omega) (by decide)) ?_)
    rw [nI_clamp (show st.length < 2 ^ 31 by omega), h1, e1]
    refine nm_e (nm_r (hs_ceOp32 e2 e3) (hs_xRankN (by omega) ?_))
    rw [e4]
    have := hs_rankLe (s % 64)
    refine pk_le r (hs_rank (s % 64)) (fun c => ?_) (fun c => ?_)
    · have h27 := hs_rank27 (t := s % 64) (by omega)
      obtain ⟨rfl, rfl⟩ := e6 h27.1
      rw [hs_stlT c] at H
      refine hs_xAddCode (by omega) (nm_e ?_)
      refine ih wt (cc + 1) (vp_updL cd cc (hs_ce (s % 64) 0)) h3 (by omega) (by omega) (fun cd' c1 c2 => ?_) _ ?_
      · have hh := H cd' ⟨(c2 cc (by omega)).trans pk_uLs, by omega, by decide, by
          have : cc + 1 + (hs_stl r st).1.length = cc + ((hs_stl r st).1.length + 1) := by omega
          rw [this] at c1; exact c1⟩ (fun k hk => (c2 k (by omega)).trans (pk_uLn (by omega)))
        have : cc + 1 + (hs_stl r st).1.length = cc + ((hs_stl r st).1.length + 1) := by omega
        rw [this]
        exact hh
      · show nI st.length + (-1) = nI st.length - 1
        rw [Int32.sub_eq_add_neg]
    · rw [hs_stlF (by omega)] at H
      exact H cd rfl (fun _ _ => rfl)
theorem hs_xSettle {r cc : Nat} {st : List Nat} {wt cd : Nat → Int64} (hr : 1 ≤ r) (hr3 : r ≤ 3) (hW : hs_WA wt st) (hl : st.length ≤ 40) (hc : cc + st.length ≤ 443) {post : SX → Prop}
    (H : ∀ cd' : Nat → Int64, hs_CA cd' cc (hs_stl r st).1 (cc + (hs_stl r st).1.length) → (∀ k, k < cc → cd' k = cd k) → post (x_objectLimit, x_stepLimit, x_depthLimit, x_pendingCount, x_keptTokens, x_keptLines, x_lineCount, nI (cc + (hs_stl r st).1.length), x_cursor, x_stop, nI (hs_stl r st).2.length, x_openCount, x_classCount, x_callCount, x_operandCount, x_stepsTaken, x_error, x_raisedCode, x_printCount, x_lastResult, x_lastPlace, x_pending, x_lineTable, cd', wt, x_globals, x_entries, x_orders, x_merging, x_letterClass, x_objectClass, x_attributes, x_calls, x_held, x_operands, x_lastPrints)) : wpX_settle post (x_objectLimit, x_stepLimit, x_depthLimit, x_pendingCount, x_keptTokens, x_keptLines, x_lineCount, nI cc, x_cursor, x_stop, nI st.length, x_openCount, x_classCount, x_callCount, x_operandCount, x_stepsTaken, x_error, x_raisedCode, x_printCount, x_lastResult, x_lastPlace, x_pending, x_lineTable, cd, wt, x_globals, x_entries, x_orders, x_merging, x_letterClass, x_objectClass, x_attributes, x_calls, x_held, x_operands, x_lastPrints) (nI r) :=
  nm_e ⟨_, hs_xSettle0 hr hr3 st wt cc cd hW hl hc H _ rfl⟩
end
