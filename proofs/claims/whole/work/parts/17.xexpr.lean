/-! X's reader of a whole expression -/
section
variable {x_objectLimit x_stepLimit x_depthLimit x_pendingCount x_keptTokens x_keptLines x_lineCount x_codeCount x_cursor x_stop x_waitingCount x_openCount x_classCount x_callCount x_operandCount x_stepsTaken x_error x_raisedCode x_printCount x_lastPlace : Int32} {x_lastResult : Int64} {x_pending x_lineTable x_orders x_merging x_letterClass x_objectClass x_calls x_lastPrints : Nat → Int32} {x_code x_waiting x_globals x_entries x_attributes x_held x_operands : Nat → Int64}
variable {y_maxObjects y_maxSteps y_maxDepth y_kept y_end y_tokens y_pending y_lines y_classes y_prints y_place y_steps y_d y_valTop y_opTop y_opens y_pos y_tk y_tv y_stmt y_target y_err y_code y_outcome y_dry y_want y_starting y_ended y_bad y_hosted y_sawSuper : Int32} {y_result : Int64} {y_text y_numbers y_classOf y_alive y_orders y_lengths y_letters y_bases y_ops y_fLine y_fPos y_fStmt y_fTarget y_fMask y_fHome y_fOps y_fVals y_fNew y_out : Nat → Int32} {y_globals y_entries y_attrs y_vals y_locals y_fRecv : Nat → Int64}
theorem hs_Sopen {z : Bool} {wt : Nat → Int64} : ∀ (st : List Nat) (cd : List (Nat × Nat)) (fs : List Nat), hs_WA wt st → 0 < hs_opn st → ¬ hs_S z [] false st cd [] fs := by
  intro st
  induction st with
  | nil => intro cd fs _ h; exact absurd h (by decide)
  | cons s st ih =>
    intro cd fs hW h0 h
    by_cases hc : 27 ≤ s % 64
    · have E : hs_step z [] false (s :: st) = some ([], false, st, [(s % 64, 0)]) := by
        show hs_opr z [] (s :: st) = _
        unfold hs_opr
        rw [if_pos (show 27 ≤ hs_hd (s :: st) % 64 ∧ hs_hd [] ≠ 24 ∧ hs_rank (hs_hd []) ≤ hs_rank (hs_hd (s :: st) % 64) ∧ ¬ (hs_rank (hs_hd []) = 1 ∧ hs_rank (hs_hd (s :: st) % 64) = 1) from ⟨hc, by decide, Nat.zero_le _, fun y => absurd y.1 (by decide)⟩)]
        rfl
      obtain ⟨_, _, h⟩ := (hs_Sstep (ts := []) (st := s :: st) (fun y => y.2.2.1 hc) E).mp h
      rw [hs_opn0 (by omega)] at h0
      exact ih _ _ hW.2.2 h0 h
    · by_cases hf : hs_fin [] false (s :: st)
      · have h1 : ¬ (1 ≤ s % 64 ∧ s % 64 ≤ 4) := hf.2.2.2
        rcases hW.2.1 with q | q | q
        · subst q; exact h1 (by decide)
        · exact h1 ⟨by omega, q.2.1⟩
        · omega
      · refine hs_Sbad hf ?_ h
        show hs_opr z [] (s :: st) = none
        unfold hs_opr
        rw [if_neg (fun y => hc y.1)]
theorem hs_SallBin {z : Bool} : ∀ (st : List Nat), (∀ s, s ∈ st → 27 ≤ s ∧ s ≤ 32) → hs_stl 1 st = (st.map (fun s => (s, 0)), []) := by
  intro st
  induction st with
  | nil => intro _; rfl
  | cons s st ih =>
    intro h
    have hs := h s (by simp)
    have e : s % 64 = s := Nat.mod_eq_of_lt (by omega)
    have hr : 1 ≤ hs_rank (s % 64) := by
      rw [e]; unfold hs_rank
      split
      · omega
      · split
        · omega
        · split <;> omega
    rw [hs_stlT hr, ih (fun s' h' => h s' (List.mem_cons_of_mem _ h')), e]
    rfl
theorem hs_allBin {wt : Nat → Int64} : ∀ {st : List Nat}, hs_WA wt st → hs_opn st = 0 → ∀ s, s ∈ st → 27 ≤ s ∧ s ≤ 32
  | [], _, _, s, h => by cases h
  | a :: st, hW, h0, s, h => by
    have hc : ¬ (1 ≤ a % 64 ∧ a % 64 ≤ 4) := fun c => by rw [hs_opn1 c] at h0; omega
    rcases List.mem_cons.mp h with rfl | h
    · rcases hW.2.1 with q | q | q
      · subst q; exact absurd (by decide) hc
      · exact absurd ⟨by omega, q.2.1⟩ hc
      · exact q
    · rw [hs_opn0 hc] at h0
      exact hs_allBin hW.2.2 h0 s h
theorem hs_PA26 {pd : Nat → Int32} {stop : Nat} : ∀ {ts : List Nat} {c : Nat}, hs_PA pd stop c ts → (26 ∈ ts ↔ ∃ i, c ≤ i ∧ i < stop ∧ pd i = nI 26)
  | [], c, h => by
    have h : c = stop := h
    constructor
    · intro q; cases q
    · rintro ⟨i, a, b, _⟩; omega
  | t :: r, c, h => by
    have ih := hs_PA26 h.2.2
    have hl := hs_PAlen h.2.2
    have e := hs_rxE (k := 26) h.1 (Or.inr ⟨Or.inr (Or.inl (by decide)), by decide⟩) (by decide)
    constructor
    · intro q
      rcases List.mem_cons.mp q with q | q
      · exact ⟨c, Nat.le_refl _, by omega, e.mpr q.symm⟩
      · obtain ⟨i, a, b, d⟩ := ih.mp q
        exact ⟨i, by omega, b, d⟩
    · rintro ⟨i, a, b, d⟩
      by_cases hi : i = c
      · subst hi
        rw [e.mp d]; simp
      · exact List.mem_cons_of_mem _ (ih.mpr ⟨i, by omega, b, d⟩)
theorem hs_xReadL {pd : Nat → Int32} {stop : Nat} {z : Bool} {T : List Nat} {pa : Int32} (hT : T = [] ∨ ∃ n E, T = 24 :: n :: 26 :: E ∧ hs_isN n = true) (hstop : stop ≤ 400) (hpT : pa = 0 ∧ T = [] ∨ pa ≠ 0 ∧ T ≠ []) {post : Int32 → SX → Prop} : ∀ (n : Nat) (ts : List Nat) (w : Bool) (st : List Nat) (c cc k : Nat) (wt cd : Nat → Int64),
    ts.length + 1 ≤ n → k + ts.length ≤ 40 → hs_PA pd stop c ts → (z = true → 26 ∉ ts) → hs_WA wt st → hs_opn st ≤ 4 → st.length + ts.length ≤ 40 → cc + st.length + ts.length ≤ 443 → (w = true → hs_hd ts = 22 → ¬ (2 ≤ hs_hd st % 64 ∧ hs_hd st % 64 ≤ 4)) → (pa ≠ 0 → hs_bot st) → (∀ (e : List (Nat × Nat)), ((T = [] ∧ ∃ fs, hs_S z ts w st e [] fs) ∨ (T ≠ [] ∧ hs_Rr z T ts w st [] false [] e)) → ∀ (q1 q2 q3 : Int32) (wt' cd' : Nat → Int64), hs_CA cd' cc e (cc + e.length) → (∀ k, k < cc → cd' k = cd k) → cc + e.length ≤ cc + st.length + ts.length → post 1 (x_objectLimit, x_stepLimit, x_depthLimit, x_pendingCount, x_keptTokens, x_keptLines, x_lineCount, nI (cc + e.length), q1, nI stop, q2, q3, x_classCount, x_callCount, x_operandCount, x_stepsTaken, x_error, x_raisedCode, x_printCount, x_lastResult, x_lastPlace, pd, x_lineTable, cd', wt', x_globals, x_entries, x_orders, x_merging, x_letterClass, x_objectClass, x_attributes, x_calls, x_held, x_operands, x_lastPrints)) → (hs_No z T ts w st → ∀ (q1 q2 q3 q4 : Int32) (wt' cd' : Nat → Int64), (∀ k, k < cc → cd' k = cd k) → post 0 (x_objectLimit, x_stepLimit, x_depthLimit, x_pendingCount, x_keptTokens, x_keptLines, x_lineCount, q4, q1, nI stop, q2, q3, x_classCount, x_callCount, x_operandCount, x_stepsTaken, x_error, x_raisedCode, x_printCount, x_lastResult, x_lastPlace, pd, x_lineTable, cd', wt', x_globals, x_entries, x_orders, x_merging, x_letterClass, x_objectClass, x_attributes, x_calls, x_held, x_operands, x_lastPrints)) →
    wX_readExpression_26 post pa n (hs_xw w) (nI k) x_objectLimit x_stepLimit x_depthLimit x_pendingCount x_keptTokens x_keptLines x_lineCount (nI (cc)) (nI (c)) (nI stop) (nI (List.length (st))) (nI (hs_opn (st))) x_classCount x_callCount x_operandCount x_stepsTaken x_error x_raisedCode x_printCount x_lastResult x_lastPlace pd x_lineTable cd wt x_globals x_entries x_orders x_merging x_letterClass x_objectClass x_attributes x_calls x_held x_operands x_lastPrints := by
  intro n
  induction n with
  | zero => intro ts w st c cc k wt cd h; omega
  | succ n ih =>
    intro ts w st c cc k wt cd hn hk hPA h26 hWA hon hl hc hi hbt HS HN
    have hlen := hs_PAlen hPA
    cases ts with
    | nil =>
      have e : c = stop := hPA
      have last : wX_readExpression_75 post (hs_xw w) x_objectLimit x_stepLimit x_depthLimit x_pendingCount x_keptTokens x_keptLines x_lineCount (nI (cc)) (nI (c)) (nI stop) (nI (List.length (st))) (nI (hs_opn (st))) x_classCount x_callCount x_operandCount x_stepsTaken x_error x_raisedCode x_printCount x_lastResult x_lastPlace pd x_lineTable cd wt x_globals x_entries x_orders x_merging x_letterClass x_objectClass x_attributes x_calls x_held x_operands x_lastPrints := by
        unfold wX_readExpression_75
        cases w with
        | true =>
          refine br_f (by decide) (HN ?_ _ _ _ _ _ _ (fun _ _ => rfl))
          rcases hT with rfl | ⟨m, E, rfl, hN⟩
          · exact hs_No1 hs_finW rfl
          · exact hs_No1 hs_finW rfl
        | false =>
          refine br_t rfl (pk_le (hs_opn st) 0 (fun o0 => ?_) (fun o0 => ?_))
          · have o0 : hs_opn st = 0 := by omega
            refine hs_xSettle (r := 1) (by decide) (by decide) hWA (by omega) (by omega) (fun cd' c1 c2 => ?_)
            have L1 := hs_stlLen 1 st
            refine HS (hs_stl 1 st).1 ?_ _ _ _ _ _ c1 c2 (by omega)
            rcases hpT with ⟨_, hT0⟩ | ⟨hp, hT1⟩
            · left
              refine ⟨hT0, ?_⟩
              have R1 := hs_Sstl (z := z) (T := []) (ts := []) (r := 1) (by decide) (by decide) (Or.inr ⟨by decide, by decide⟩) st
              have e2 := hs_SallBin (z := z) st (hs_allBin hWA o0)
              rw [e2] at R1 ⊢
              refine ⟨[], (R1 _ []).mpr ⟨[], by rw [List.append_nil], ?_⟩⟩
              exact (hs_Sfin (ts := []) (w := false) (st := []) ⟨rfl, Or.inl rfl, by decide, by decide⟩).mpr ⟨rfl, rfl, rfl⟩
            · right
              have e0 := hs_bot0 (hbt hp) o0
              subst e0
              exact ⟨hT1, fun cd fs => ⟨fun h => ⟨cd, rfl, h⟩, fun ⟨cd', e, h⟩ => by have e : cd = cd' := e; rw [e]; exact h⟩⟩
          · refine HN ?_ _ _ _ _ _ _ (fun _ _ => rfl)
            rcases hT with rfl | ⟨m, E, rfl, hN⟩
            · exact fun cd fs => hs_Sopen st cd fs hWA o0
            · have E1 : hs_step z (([] : List Nat) ++ 24 :: m :: 26 :: E) false st = some (26 :: E, false, st, [(4, m - 100)]) := by
                show hs_step z (24 :: m :: 26 :: E) false st = _
                rw [hs_dotE]
                show (if hs_isN m = true then _ else none) = _
                rw [if_pos hN, if_neg (by show ¬ 26 = 21; decide), if_neg]
                intro y
                rw [y.2.2] at o0
                exact absurd o0 (by decide)
              intro cd fs h
              obtain ⟨_, _, h⟩ := (hs_Sstep (hs_step25 (z := z) (by decide)) E1).mp h
              exact hs_Sop (by decide) (by decide) (by decide) (by decide) _ _ _ _ h
      exact pk_le 40 k (fun _ => last) (fun _ => br_t (nI_le (by omega) (by omega)) last)
    | cons t r =>
      have hk2 : k < 40 := by simp only [List.length_cons] at hk; omega
      refine br_f (nI_ge (b := 40) hk2 (by decide)) (br_f (nI_ge (by simp only [List.length_cons] at hlen; omega) (by omega)) ?_)
      have cont : ∀ (ts' : List Nat) (w' : Bool) (st' : List Nat) (e : List (Nat × Nat)) (c' cc' : Nat) (wt' cd' : Nat → Int64), hs_Rr z T (t :: r) w st ts' w' st' e → hs_PA pd stop c' ts' → hs_WA wt' st' → hs_opn st' ≤ 4 → cc' = cc + e.length → hs_CA cd' cc e cc' → (∀ k, k < cc → cd' k = cd k) → ts'.length < (t :: r).length → st'.length + ts'.length ≤ st.length + (t :: r).length → cc' + st'.length + ts'.length ≤ cc + st.length + (t :: r).length → (pa ≠ 0 → hs_bot st → hs_bot st') → (w' = true → hs_hd ts' = 22 → ¬ (2 ≤ hs_hd st' % 64 ∧ hs_hd st' % 64 ≤ 4)) → (z = true → 26 ∉ ts') → wX_readExpression_26 post pa n (hs_xw w') (nI (k + 1)) x_objectLimit x_stepLimit x_depthLimit x_pendingCount x_keptTokens x_keptLines x_lineCount (nI (cc')) (nI (c')) (nI stop) (nI (List.length (st'))) (nI (hs_opn (st'))) x_classCount x_callCount x_operandCount x_stepsTaken x_error x_raisedCode x_printCount x_lastResult x_lastPlace pd x_lineTable cd' wt' x_globals x_entries x_orders x_merging x_letterClass x_objectClass x_attributes x_calls x_held x_operands x_lastPrints := by
        intro ts' w' st' e c' cc' wt' cd' R hP' hW' ho' ecc hC hcd hlt hl' hc' hb' hi' h26'
        subst ecc
        refine ih ts' w' st' c' (cc + e.length) (k + 1) wt' cd' (by omega) (by omega) hP' h26' hW' ho' (by omega) (by omega) hi' (fun hp => hb' hp (hbt hp)) ?_ ?_
        · intro e2 ok q1 q2 q3 wt2 cd2 hC2 hcd2 hle
          have el : cc + e.length + e2.length = cc + (e ++ e2).length := by rw [List.length_append]; omega
          rw [el] at hC2 ⊢
          refine HS (e ++ e2) ?_ q1 q2 q3 wt2 cd2 (hs_CAapp (hs_CAupd hC (fun k _ hk => hcd2 k hk)) hC2) (fun k hk => (hcd2 k (by omega)).trans (hcd k hk)) (by omega)
          rcases ok with ⟨hT0, fs, hS⟩ | ⟨hT1, hR⟩
          · refine Or.inl ⟨hT0, fs, ?_⟩
            have := (R (e ++ e2) fs)
            rw [hT0, List.append_nil, List.append_nil] at this
            exact this.mpr ⟨e2, rfl, hS⟩
          · exact Or.inr ⟨hT1, hs_RrT R hR⟩
        · intro hno q1 q2 q3 q4 wt2 cd2 hcd2
          exact HN (hs_RrN R hno) q1 q2 q3 q4 wt2 cd2 (fun k hk => (hcd2 k (by omega)).trans (hcd k hk))
      have bad : hs_No z T (t :: r) w st → ∀ (q1 q2 q3 q4 : Int32) (wt' cd' : Nat → Int64), (∀ k, k < cc → cd' k = cd k) → wX_readExpression_26 post pa n 0 (nI (k + 1)) x_objectLimit x_stepLimit x_depthLimit x_pendingCount x_keptTokens x_keptLines x_lineCount q4 q1 (nI stop) q2 q3 x_classCount x_callCount x_operandCount x_stepsTaken x_error x_raisedCode x_printCount x_lastResult x_lastPlace pd x_lineTable cd' wt' x_globals x_entries x_orders x_merging x_letterClass x_objectClass x_attributes x_calls x_held x_operands x_lastPrints := by
        intro hno q1 q2 q3 q4 wt' cd' hcd
        obtain ⟨n, rfl⟩ : ∃ m, n = m + 1 := ⟨n - 1, by simp only [List.length_cons] at hn; omega⟩
        have b := HN hno q1 q2 q3 q4 wt' cd' hcd
        have l : wX_readExpression_75 post 0 x_objectLimit x_stepLimit x_depthLimit x_pendingCount x_keptTokens x_keptLines x_lineCount q4 q1 (nI stop) q2 q3 x_classCount x_callCount x_operandCount x_stepsTaken x_error x_raisedCode x_printCount x_lastResult x_lastPlace pd x_lineTable cd' wt' x_globals x_entries x_orders x_merging x_letterClass x_objectClass x_attributes x_calls x_held x_operands x_lastPrints := br_f (by decide) b
        exact br_c (fun _ => l) (fun _ => br_c (fun _ => l) (fun _ => br_t rfl l))
      have sub26 : ∀ ts', (∃ c', hs_PA pd stop c' ts' ∧ ts'.length < (t :: r).length) → z = true → 26 ∉ ts' := by
        rintro ts' ⟨c', hP', hlt⟩ hz hm
        obtain ⟨i, i1, i2, i3⟩ := (hs_PA26 hP').mp hm
        have := hs_PAlen hP'
        exact h26 hz ((hs_PA26 hPA).mpr ⟨i, by omega, i2, i3⟩)
      cases w with
      | true =>
        refine br_f (by decide) (br_t rfl ?_)
        refine hs_xOpd (z := z) (T := T) (pa := pa) rfl rfl hPA hPA.2.1 hT hstop hWA hon hl hc hi (fun ts' w' st' e c' cc' wt' cd' a1 a2 a3 a4 a5 a6 a7 a8 a9 a10 a11 a12 => nm_r (nI_1 k) (cont ts' w' st' e c' cc' wt' cd' a1 a2 a3 a4 a5 a6 a7 a8 a9 a10 a11 a12 (sub26 ts' ⟨c', a2, a8⟩))) (fun hno q1 q2 q3 q4 wt' cd' hcd => nm_r (nI_1 k) (bad hno q1 q2 q3 q4 wt' cd' hcd))
      | false =>
        refine br_f (by decide) (br_f (by decide) ?_)
        refine hs_xOpr (z := z) (T := T) (pa := pa) rfl rfl hPA h26 (by
          rcases hpT with ⟨h, _⟩ | ⟨h, h'⟩
          · exact Or.inl h
          · exact Or.inr ⟨h', hbt h⟩) hT hstop hWA hon hl hc hi (fun ts' w' st' e c' cc' wt' cd' a1 a2 a3 a4 a5 a6 a7 a8 a9 a10 a11 a12 => nm_r (nI_1 k) (cont ts' w' st' e c' cc' wt' cd' a1 a2 a3 a4 a5 a6 a7 a8 a9 a10 a11 a12 (sub26 ts' ⟨c', a2, a8⟩))) (fun hno q1 q2 q3 q4 wt' cd' hcd => nm_r (nI_1 k) (bad hno q1 q2 q3 q4 wt' cd' hcd))
theorem hs_xReadE {pd : Nat → Int32} {stop c cc : Nat} {z w : Bool} {T ts st : List Nat} {pa : Int32} {cd : Nat → Int64} (hT : T = [] ∨ ∃ n E, T = 24 :: n :: 26 :: E ∧ hs_isN n = true) (hstop : stop ≤ 400) (hpT : pa = 0 ∧ T = [] ∨ pa ≠ 0 ∧ T ≠ []) (ew : w = true) (es : st = []) (hPA : hs_PA pd stop c ts) (h26 : z = true → 26 ∉ ts) (hl : ts.length ≤ 40) (hc : cc + ts.length ≤ 443) {post : Int32 → SX → Prop} (HS : (∀ (e : List (Nat × Nat)), ((T = [] ∧ ∃ fs, hs_S z ts w st e [] fs) ∨ (T ≠ [] ∧ hs_Rr z T ts w st [] false [] e)) → ∀ (q1 q2 q3 : Int32) (wt' cd' : Nat → Int64), hs_CA cd' cc e (cc + e.length) → (∀ k, k < cc → cd' k = cd k) → cc + e.length ≤ cc + st.length + ts.length → post 1 (x_objectLimit, x_stepLimit, x_depthLimit, x_pendingCount, x_keptTokens, x_keptLines, x_lineCount, nI (cc + e.length), q1, nI stop, q2, q3, x_classCount, x_callCount, x_operandCount, x_stepsTaken, x_error, x_raisedCode, x_printCount, x_lastResult, x_lastPlace, pd, x_lineTable, cd', wt', x_globals, x_entries, x_orders, x_merging, x_letterClass, x_objectClass, x_attributes, x_calls, x_held, x_operands, x_lastPrints))) (HN : (hs_No z T ts w st → ∀ (q1 q2 q3 q4 : Int32) (wt' cd' : Nat → Int64), (∀ k, k < cc → cd' k = cd k) → post 0 (x_objectLimit, x_stepLimit, x_depthLimit, x_pendingCount, x_keptTokens, x_keptLines, x_lineCount, q4, q1, nI stop, q2, q3, x_classCount, x_callCount, x_operandCount, x_stepsTaken, x_error, x_raisedCode, x_printCount, x_lastResult, x_lastPlace, pd, x_lineTable, cd', wt', x_globals, x_entries, x_orders, x_merging, x_letterClass, x_objectClass, x_attributes, x_calls, x_held, x_operands, x_lastPrints))) : wpX_readExpression post (x_objectLimit, x_stepLimit, x_depthLimit, x_pendingCount, x_keptTokens, x_keptLines, x_lineCount, nI cc, x_cursor, x_stop, x_waitingCount, x_openCount, x_classCount, x_callCount, x_operandCount, x_stepsTaken, x_error, x_raisedCode, x_printCount, x_lastResult, x_lastPlace, pd, x_lineTable, cd, x_waiting, x_globals, x_entries, x_orders, x_merging, x_letterClass, x_objectClass, x_attributes, x_calls, x_held, x_operands, x_lastPrints) (nI c) (nI stop) pa := by
  subst ew es
  exact ⟨ts.length + 1, hs_xReadL hT hstop hpT (ts.length + 1) ts true [] c cc 0 x_waiting cd (Nat.le_refl _) (by omega) hPA h26 trivial (by decide) (by simpa using hl) (by simpa using hc) (fun _ _ => by decide) (fun _ => trivial) HS HN⟩
end
