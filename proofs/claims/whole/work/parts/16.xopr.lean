/-! X's reader: an operator's turn -/
section
variable {x_objectLimit x_stepLimit x_depthLimit x_pendingCount x_keptTokens x_keptLines x_lineCount x_codeCount x_cursor x_stop x_waitingCount x_openCount x_classCount x_callCount x_operandCount x_stepsTaken x_error x_raisedCode x_printCount x_lastPlace : Int32} {x_lastResult : Int64} {x_pending x_lineTable x_orders x_merging x_letterClass x_objectClass x_calls x_lastPrints : Nat → Int32} {x_code x_waiting x_globals x_entries x_attributes x_held x_operands : Nat → Int64}
variable {y_maxObjects y_maxSteps y_maxDepth y_kept y_end y_tokens y_pending y_lines y_classes y_prints y_place y_steps y_d y_valTop y_opTop y_opens y_pos y_tk y_tv y_stmt y_target y_err y_code y_outcome y_dry y_want y_starting y_ended y_bad y_hosted y_sawSuper : Int32} {y_result : Int64} {y_text y_numbers y_classOf y_alive y_orders y_lengths y_letters y_bases y_ops y_fLine y_fPos y_fStmt y_fTarget y_fMask y_fHome y_fOps y_fVals y_fNew y_out : Nat → Int32} {y_globals y_entries y_attrs y_vals y_locals y_fRecv : Nat → Int64}
theorem hs_step25 {z : Bool} {t : Nat} {r st : List Nat} (h : t ≠ 25) : ¬ hs_fin (t :: r) false st := by
  intro y
  rcases y.2.1 with q | q
  · cases q
  · exact h q
theorem hs_oprE {z : Bool} {t : Nat} {r st : List Nat} (c : ¬ (27 ≤ hs_hd st % 64 ∧ t ≠ 24 ∧ hs_rank t ≤ hs_rank (hs_hd st % 64) ∧ ¬ (hs_rank t = 1 ∧ hs_rank (hs_hd st % 64) = 1))) : hs_step z (t :: r) false st = hs_opr1 z t r st := by
  show hs_opr z (t :: r) st = _
  unfold hs_opr
  exact if_neg c
theorem hs_dotE {z : Bool} {r st : List Nat} : hs_step z (24 :: r) false st = hs_dot z r st := by
  rw [hs_oprE (fun y => y.2.1 rfl)]
  rfl
theorem hs_S25 {z : Bool} {r : List Nat} : ∀ (st : List Nat) (cd : List (Nat × Nat)) (fs : List Nat), ¬ hs_S z (25 :: r) false st cd [] fs := by
  intro st
  induction st with
  | nil =>
    intro cd fs h
    have := ((hs_Sfin (ts := 25 :: r) (w := false) (st := []) ⟨rfl, Or.inr rfl, by decide, by decide⟩).mp h).2.1
    cases this
  | cons s st ih =>
    intro cd fs h
    by_cases hc : 27 ≤ s % 64
    · have E : hs_step z (25 :: r) false (s :: st) = some (25 :: r, false, st, [(s % 64, 0)]) := by
        show hs_opr z (25 :: r) (s :: st) = _
        unfold hs_opr
        rw [if_pos (show 27 ≤ hs_hd (s :: st) % 64 ∧ hs_hd (25 :: r) ≠ 24 ∧ hs_rank (hs_hd (25 :: r)) ≤ hs_rank (hs_hd (s :: st) % 64) ∧ ¬ (hs_rank (hs_hd (25 :: r)) = 1 ∧ hs_rank (hs_hd (s :: st) % 64) = 1) from ⟨hc, by show 25 ≠ 24; decide, Nat.zero_le _, fun y => absurd y.1 (by show ¬ hs_rank 25 = 1; decide)⟩)]
        rfl
      obtain ⟨_, _, h⟩ := (hs_Sstep (ts := 25 :: r) (st := s :: st) (fun y => y.2.2.1 hc) E).mp h
      exact ih _ _ h
    · by_cases hf : hs_fin (25 :: r) false (s :: st)
      · have := ((hs_Sfin hf).mp h).2.1
        cases this
      · refine hs_Sbad hf ?_ h
        rw [hs_oprE (st := s :: st) (fun y => hc y.1)]
        unfold hs_opr1
        rw [if_neg (by decide), if_neg (by decide), if_neg (by decide)]
theorem hs_wsR {s : Nat} (h : hs_ws s) (h0 : hs_rank (s % 64) = 0) : 1 ≤ s % 64 ∧ s % 64 ≤ 4 := by
  rcases h with rfl | ⟨a, b, _⟩ | ⟨a, b⟩
  · decide
  · omega
  · have : s % 64 = s := Nat.mod_eq_of_lt (by omega)
    rw [this] at h0
    unfold hs_rank at h0
    split at h0
    · cases h0
    · split at h0
      · cases h0
      · split at h0
        · cases h0
        · omega
/-- no token 26 in the list (X has cut it off) -/
theorem hs_xOpr {pd : Nat → Int32} {wt cd : Nat → Int64} {stop c cc t : Nat} {r st T ts : List Nat} {w z : Bool} {pa : Int32} (ets : ts = t :: r) (ew : w = false) (hPA : hs_PA pd stop c ts) (h26 : z = true → 26 ∉ ts) (hpa : pa = 0 ∨ (T ≠ [] ∧ hs_bot st)) (hT : T = [] ∨ ∃ n E, T = 24 :: n :: 26 :: E ∧ hs_isN n = true) (hstop : stop ≤ 400) (hWA : hs_WA wt st) (hon : hs_opn st ≤ 4) (hl : st.length + ts.length ≤ 40) (hc : cc + st.length + ts.length ≤ 443) (hi : w = true → hs_hd ts = 22 → ¬ (2 ≤ hs_hd st % 64 ∧ hs_hd st % 64 ≤ 4))
    {post : Int32 → SX → Prop}
    (Hs : ∀ (ts' : List Nat) (w' : Bool) (st' : List Nat) (e : List (Nat × Nat)) (c' cc' : Nat) (wt' cd' : Nat → Int64), hs_Rr z T ts w st ts' w' st' e → hs_PA pd stop c' ts' → hs_WA wt' st' → hs_opn st' ≤ 4 → cc' = cc + e.length → hs_CA cd' cc e cc' → (∀ k, k < cc → cd' k = cd k) → ts'.length < ts.length → st'.length + ts'.length ≤ st.length + ts.length → cc' + st'.length + ts'.length ≤ cc + st.length + ts.length → (pa ≠ 0 → hs_bot st → hs_bot st') → (w' = true → hs_hd ts' = 22 → ¬ (2 ≤ hs_hd st' % 64 ∧ hs_hd st' % 64 ≤ 4)) → post (hs_xw w') (x_objectLimit, x_stepLimit, x_depthLimit, x_pendingCount, x_keptTokens, x_keptLines, x_lineCount, nI (cc'), nI (c'), nI stop, nI (List.length (st')), nI (hs_opn (st')), x_classCount, x_callCount, x_operandCount, x_stepsTaken, x_error, x_raisedCode, x_printCount, x_lastResult, x_lastPlace, pd, x_lineTable, cd', wt', x_globals, x_entries, x_orders, x_merging, x_letterClass, x_objectClass, x_attributes, x_calls, x_held, x_operands, x_lastPrints))
    (Hb : hs_No z T ts w st → ∀ (q1 q2 q3 q4 : Int32) (wt' cd' : Nat → Int64), (∀ k, k < cc → cd' k = cd k) → post 0 (x_objectLimit, x_stepLimit, x_depthLimit, x_pendingCount, x_keptTokens, x_keptLines, x_lineCount, q4, q1, nI stop, q2, q3, x_classCount, x_callCount, x_operandCount, x_stepsTaken, x_error, x_raisedCode, x_printCount, x_lastResult, x_lastPlace, pd, x_lineTable, cd', wt', x_globals, x_entries, x_orders, x_merging, x_letterClass, x_objectClass, x_attributes, x_calls, x_held, x_operands, x_lastPrints)) : wpX_readOperator post (x_objectLimit, x_stepLimit, x_depthLimit, x_pendingCount, x_keptTokens, x_keptLines, x_lineCount, nI (cc), nI (c), nI stop, nI (List.length (st)), nI (hs_opn (st)), x_classCount, x_callCount, x_operandCount, x_stepsTaken, x_error, x_raisedCode, x_printCount, x_lastResult, x_lastPlace, pd, x_lineTable, cd, wt, x_globals, x_entries, x_orders, x_merging, x_letterClass, x_objectClass, x_attributes, x_calls, x_held, x_operands, x_lastPrints) pa := by
  subst ets ew
  have hP1 : hs_PA pd stop (c + 1) r := hPA.2.2
  unfold wpX_readOperator
  refine hs_xPeek 0 hPA hstop (by decide) (fun x hx => hs_xPeek 1 hPA hstop (by decide) (fun x1 hx1 => ?_))
  have hx : hs_rx x t := hx
  have hx1 : hs_rx x1 (hs_hd r) := hx1
  simp only [List.length_cons] at hl hc
  have e24 := hs_rxE (k := 24) hx (Or.inr ⟨Or.inr (Or.inl (by decide)), by decide⟩) (by decide)
  have e22 := hs_rxE (k := 22) hx (Or.inr ⟨Or.inr (Or.inl (by decide)), by decide⟩) (by decide)
  -- not a dot with a name
  have rest : (t = 24 → hs_No z T (t :: r) false st) → wX_readOperator_62 post pa x x_objectLimit x_stepLimit x_depthLimit x_pendingCount x_keptTokens x_keptLines x_lineCount (nI (cc)) (nI (c)) (nI stop) (nI (List.length (st))) (nI (hs_opn (st))) x_classCount x_callCount x_operandCount x_stepsTaken x_error x_raisedCode x_printCount x_lastResult x_lastPlace pd x_lineTable cd wt x_globals x_entries x_orders x_merging x_letterClass x_objectClass x_attributes x_calls x_held x_operands x_lastPrints := by
    intro h24
    unfold wX_readOperator_62
    refine br_c (fun q1 => ?_) (fun q1 => ?_)
    · have et := e22.mp q1
      subst et
      refine hs_xSettle (r := 1) (by decide) (by decide) hWA (by omega) (by omega) (fun cd' c1 c2 => ?_)
      have R1 := hs_Sstl (z := z) (T := T) (ts := 22 :: r) (r := 1) (by decide) (by show 22 ≠ 24; decide) (Or.inr ⟨by show hs_rank 22 ≠ 1; decide, by show hs_rank 22 ≤ 1; decide⟩) st
      have W1 := hs_WAstl (r := 1) hWA
      have L1 := hs_stlLen 1 st
      have O1 := hs_stlOpn (r := 1) (by decide) st
      have T1 := hs_stlTop 1 st
      generalize hsr : hs_stl 1 st = sr at *
      obtain ⟨em, st2⟩ := sr
      simp only at *
      have hop := hs_oprE (z := z) (t := 22) (r := r ++ T) (st := st2) (fun y => by
        rcases T1 with q | q
        · rw [q] at y; exact absurd y.1 (by decide)
        · have w0 : hs_ws (hs_hd st2) := by
            cases st2 with
            | nil => exact absurd y.1 (by decide)
            | cons s r => exact W1.2.1
          have := hs_wsR w0 (by omega)
          omega)
      unfold wpX_closeParenthesis
      cases st2 with
      | nil =>
        refine br_t rfl (Hb (hs_RrN R1 (hs_No1 (hs_step25 (z := z) (by decide)) hop)) _ _ _ _ _ _ c2)
      | cons s st3 =>
        obtain ⟨w1, w2, w3⟩ := W1
        obtain ⟨o, q, e1, e2, e3, e4, e5, e6, e7⟩ := hs_weOp w2
        simp only [List.length_cons] at L1
        have hs0 : hs_rank (s % 64) = 0 := by
          rcases T1 with q | q
          · cases q
          · have : hs_rank (s % 64) < 1 := q
            omega
        have hty := hs_wsR w2 hs0
        have O2 : hs_opn (s :: st3) = hs_opn st3 + 1 := hs_opn1 hty
        refine br_f (nI_ne0 (by simp) (by simp only [List.length_cons]; omega)) (nm_r (nI_pred st3.length) (nm_r (show nI (hs_opn st) - 1 = nI (hs_opn st3) by rw [← O1, O2, nI_pred]) (And.intro (vp_in_nI (by omega) (by decide)) ?_)))
        rw [nI_clamp (show st3.length < 2 ^ 31 by omega), w1, e1]
        refine nm_e ?_
        rw [hs_ceOp e2 e3]
        by_cases g1 : s % 64 = 1
        · refine br_t (by rw [e5.mpr g1]; rfl) (nm_r (nI_1 c) ?_)
          have R2 : hs_Rr z T (22 :: r) false (s :: st3) r false st3 [] := hs_Rr1 (hs_step25 (z := z) (by decide)) (hop.trans (if_pos g1))
          have R3 := hs_RrT R1 R2
          rw [List.append_nil] at R3
          exact Hs r false st3 em (c + 1) (cc + em.length) wt cd' R3 hP1 w3 (by omega) rfl c1 c2 (by simp) (by simp only [List.length_cons]; omega) (by simp only [List.length_cons]; omega) (fun _ h => (hs_botStl (r := 1) h |> fun hb => by rw [hsr] at hb; exact hb.2)) (fun y => absurd y (by decide))
        · have hty2 : 2 ≤ s % 64 ∧ s % 64 ≤ 4 := by omega
          obtain ⟨rfl, rfl⟩ := e7 hty2
          refine br_f (fun y => g1 (e5.mp ((pk_lEQ (a := 2 * (s % 64) + 3) (b := 0) (by omega) (by decide)).mp y))) (hs_xAddCode (by omega) (nm_r (nI_1 c) ?_))
          have R2 : hs_Rr z T (22 :: r) false (s :: st3) r false st3 [(2 * (s % 64) + 3, s / 64)] := hs_Rr1 (hs_step25 (z := z) (by decide)) ((hop.trans (if_neg g1)).trans (if_pos hty2))
          have R3 := hs_RrT R1 R2
          have := Hs r false st3 (em ++ [(2 * (s % 64) + 3, s / 64)]) (c + 1) (cc + em.length + 1) wt (vp_updL cd' (cc + em.length) (hs_ce (2 * (s % 64) + 3) (s / 64))) R3 hP1 w3 (by omega) (by simp; omega) (hs_CAapp (hs_CAupd c1 (fun k _ hk => pk_uLn (by omega))) (hs_CAone e2 e3)) (fun k hk => (pk_uLn (by omega)).trans (c2 k hk)) (by simp) (by simp only [List.length_cons]; omega) (by simp only [List.length_cons]; omega) (fun _ h => (hs_botStl (r := 1) h |> fun hb => by rw [hsr] at hb; exact hb.2)) (fun y => absurd y (by decide))
          exact this
    · have t22 : t ≠ 22 := fun y => q1 (e22.mpr y)
      refine hs_xRank hx ?_
      have rl := hs_rankLe t
      refine pk_eq (hs_rank t) 0 (fun r0 => ?_) (fun r0 => ?_)
      · refine Hb ?_ _ _ _ _ _ _ (fun _ _ => rfl)
        by_cases t24 : t = 24
        · exact h24 t24
        · by_cases t25 : t = 25
          · subst t25
            exact fun cd fs => hs_S25 _ _ _
          · exact fun cd fs => hs_Sop r0 t24 t22 t25 _ _ _ _
      · have ht := hs_rank27 (t := t) (by omega)
        have ex : x = nI t := by
          rcases hx with ⟨_, h⟩ | ⟨h, _⟩ | ⟨h, _⟩
          · omega
          · exact h
          · omega
        subst ex
        -- the turn itself, where the operator may stand
        have go : (pa ≠ 0 → st ≠ []) → wX_readOperator_102 post (nI t) (nI (hs_rank t)) x_objectLimit x_stepLimit x_depthLimit x_pendingCount x_keptTokens x_keptLines x_lineCount (nI (cc)) (nI (c)) (nI stop) (nI (List.length (st))) (nI (hs_opn (st))) x_classCount x_callCount x_operandCount x_stepsTaken x_error x_raisedCode x_printCount x_lastResult x_lastPlace pd x_lineTable cd wt x_globals x_entries x_orders x_merging x_letterClass x_objectClass x_attributes x_calls x_held x_operands x_lastPrints := by
          intro hne
          have body : ∀ z0 : Nat, 1 ≤ z0 → z0 ≤ 3 → (hs_rank t = 1 ∧ z0 = 2 ∨ hs_rank t ≠ 1 ∧ hs_rank t ≤ z0) → z0 ≤ max 2 (hs_rank t) → wX_readOperator_115 post (nI t) (nI (hs_rank t)) (nI z0) x_objectLimit x_stepLimit x_depthLimit x_pendingCount x_keptTokens x_keptLines x_lineCount (nI (cc)) (nI (c)) (nI stop) (nI (List.length (st))) (nI (hs_opn (st))) x_classCount x_callCount x_operandCount x_stepsTaken x_error x_raisedCode x_printCount x_lastResult x_lastPlace pd x_lineTable cd wt x_globals x_entries x_orders x_merging x_letterClass x_objectClass x_attributes x_calls x_held x_operands x_lastPrints := by
            intro z0 z1 z3 zr zm
            unfold wX_readOperator_115
            refine hs_xSettle (r := z0) z1 z3 hWA (by omega) (by omega) (fun cd' c1 c2 => ?_)
            have R1 := hs_Sstl (z := z) (T := T) (ts := t :: r) (r := z0) z1 (by show t ≠ 24; omega) zr st
            have W1 := hs_WAstl (r := z0) hWA
            have L1 := hs_stlLen z0 st
            have O1 := hs_stlOpn (r := z0) z1 st
            have T1 := hs_stlTop z0 st
            have B1 : hs_bot st → hs_bot (hs_stl z0 st).2 := hs_botStl
            generalize hsr : hs_stl z0 st = sr at *
            obtain ⟨em, st2⟩ := sr
            simp only at *
            have push : ¬ (hs_rank t = 1 ∧ hs_rank (hs_hd st2 % 64) = 1) → wX_readOperator_155 post (nI t) x_objectLimit x_stepLimit x_depthLimit x_pendingCount x_keptTokens x_keptLines x_lineCount (nI (cc + em.length)) (nI c) (nI stop) (nI st2.length) (nI (hs_opn st)) x_classCount x_callCount x_operandCount x_stepsTaken x_error x_raisedCode x_printCount x_lastResult x_lastPlace pd x_lineTable cd' wt x_globals x_entries x_orders x_merging x_letterClass x_objectClass x_attributes x_calls x_held x_operands x_lastPrints := by
              intro hb
              unfold wX_readOperator_155
              refine hs_xKeep (o := t) (q := 0) (by omega) (by omega) (by decide) (nm_r (nI_1 c) ?_)
              have E : hs_step z ((t :: r) ++ T) false st2 = some (r ++ T, true, t :: st2, []) := by
                show hs_step z (t :: (r ++ T)) false st2 = _
                rw [hs_oprE (fun y => by
                  rcases T1 with q | q
                  · rw [q] at y; exact absurd y.1 (by decide)
                  · omega)]
                unfold hs_opr1
                rw [if_pos (by omega), if_neg hb]
              have R2 : hs_Rr z T (t :: r) false st2 r true (t :: st2) [] := hs_Rr1 (hs_step25 (z := z) (by omega)) E
              have R3 := hs_RrT R1 R2
              rw [List.append_nil] at R3
              have ews : hs_we t = hs_ce t 0 := by
                unfold hs_we; rw [if_neg (by omega), if_neg (by omega)]
              have := Hs r true (t :: st2) em (c + 1) (cc + em.length) (vp_updL wt st2.length (hs_we t)) cd' R3 hP1 (hs_WApush W1 (Or.inr (Or.inr ht))) (by rw [hs_opn0 (by omega)]; omega) rfl c1 c2 (by simp) (by simp only [List.length_cons]; omega) (by simp only [List.length_cons]; omega) (fun hp hbt => ⟨fun e2 => ?_, B1 hbt⟩) (fun _ _ => by show ¬ (2 ≤ t % 64 ∧ t % 64 ≤ 4); omega)
              · rw [hs_opn0 (by omega), O1, ews] at this
                exact this
              · -- nothing is left below, but then all of st was settled: its bottom would be an operator
                exfalso
                have hb0 := hs_bot0 hbt (by rw [← O1, e2]; rfl)
                exact hne hp hb0
            refine pk_eq (hs_rank t) 1 (fun k1 => ?_) (fun k1 => push (fun y => k1 y.1))
            refine pk_le st2.length 0 (fun k2 => push (fun y => ?_)) (fun k2 => ?_)
            · have e2 : st2 = [] := List.length_eq_zero_iff.mp (by omega)
              rw [e2] at y; exact absurd y.2 (by decide)
            · cases st2 with
              | nil => simp at k2
              | cons s st3 =>
                obtain ⟨w1, w2, w3⟩ := W1
                obtain ⟨o, q, e1, e2, e3, e4, e5, e6, e7⟩ := hs_weOp w2
                simp only [List.length_cons] at L1
                have ep : nI (s :: st3).length - 1 = nI st3.length := nI_pred st3.length
                rw [ep, nI_clamp (show st3.length < 2 ^ 31 by omega), w1, e1, hs_ceOp32 e2 e3]
                refine And.intro (vp_in_nI (by omega) (by decide)) (hs_xRankN (by omega) ?_)
                rw [e4]
                have := hs_rankLe (s % 64)
                refine pk_eq (hs_rank (s % 64)) 1 (fun k3 => ?_) (fun k3 => push (fun y => k3 y.2))
                refine Hb (hs_RrN R1 (hs_No1 (hs_step25 (z := z) (by omega)) ?_)) _ _ _ _ _ _ c2
                show hs_step z (t :: (r ++ T)) false (s :: st3) = _
                rw [hs_oprE (st := s :: st3) (fun y => y.2.2.2 ⟨k1, k3⟩)]
                unfold hs_opr1
                rw [if_pos (by omega), if_pos ⟨k1, k3⟩]
          unfold wX_readOperator_102
          refine pk_eq (hs_rank t) 1 (fun k => body 2 (by decide) (by decide) (Or.inl ⟨k, rfl⟩) (by omega)) (fun k => body (hs_rank t) (by omega) (by omega) (Or.inr ⟨k, Nat.le_refl _⟩) (by omega))
        rcases hpa with rfl | ⟨hT0, hbt⟩
        · exact br_t rfl (go (fun y => absurd rfl y))
        · refine br_c (fun p0 => go (fun y => absurd p0 y)) (fun p0 => pk_eq (hs_opn st) 0 (fun o0 => ?_) (fun o0 => go (fun _ y => o0 (by rw [y]; rfl))))
          · have e0 := hs_bot0 hbt o0
            subst e0
            refine Hb ?_ _ _ _ _ _ _ (fun _ _ => rfl)
            have E : hs_step z ((t :: r) ++ T) false [] = some (r ++ T, true, [t], []) := by
              show hs_step z (t :: (r ++ T)) false [] = _
              rw [hs_oprE (fun y => absurd y.1 (by decide))]
              unfold hs_opr1
              rw [if_pos (by omega), if_neg (fun y => absurd y.2 (by decide))]
            refine hs_RrN (hs_Rr1 (hs_step25 (z := z) (by omega)) E) ?_
            rintro cd fs ⟨m, hm⟩
            refine hs_noSet m (r ++ T) true [t] ?_ (Or.inl ⟨t, [], rfl, by omega⟩) cd fs hm
            rcases hT with q | ⟨n, E', q, _⟩
            · exact absurd q hT0
            · rw [q]; simp
  refine br_c (fun q1 => ?_) (fun q1 => rest (fun y => absurd (e24.mpr y) q1))
  have et := e24.mp q1
  subst et
  have nf : ¬ hs_fin ((24 :: r) ++ T) false st := hs_step25 (z := z) (by decide)
  have D0 : hs_step z ((24 :: r) ++ T) false st = hs_dot z (r ++ T) st := hs_dotE
  refine hs_xFromN hx1 (fun hn ex => br_f (by decide) ?_) (fun hn => br_t rfl (rest (fun _ => hs_No1 nf (D0.trans ?_))))
  · cases r with
    | nil => simp [hs_hd, hs_isN] at hn
    | cons n r1 =>
      have hn : hs_isN n = true := hn
      have hn' := hs_tkN hn
      have ex : x1 = nI n := ex
      subst ex
      have D1 : hs_step z ((24 :: n :: r1) ++ T) false st = (if hs_hd (r1 ++ T) = 21 then hs_psh (2 + 64 * (n - 100)) (r1 ++ T).tail st else if hs_hd (r1 ++ T) = 26 ∧ z = true ∧ st = [] then some ((r1 ++ T).tail, true, [5 + 64 * (n - 100)], []) else some (r1 ++ T, false, st, [(4, n - 100)])) := D0.trans (if_pos hn)
      have ep : nI n - 100 = nI (n - 100) := pk_sub (b := 100) (by omega)
      rw [ep]
      simp only [List.length_cons] at hl hc
      refine hs_xPeek 2 hPA hstop (by decide) (fun x2 hx2 => ?_)
      have hx2 : hs_rx x2 (hs_hd r1) := hx2
      have e21 := hs_rxE (k := 21) hx2 (Or.inr ⟨Or.inr (Or.inl (by decide)), by decide⟩) (by decide)
      have hA := hs_hdA (r := r1) hT (k := 21) (by decide) (by decide)
      refine br_c (fun q2 => ?_) (fun q2 => ?_)
      · have h21 := e21.mp q2
        refine hs_xCallS (k := 2) (ty := 2) (n := n - 100) (ts := 24 :: n :: r1) (w := false) (z := z) (T := T) (pa := pa) hPA (by decide) (by decide) (by omega) (fun r2 hd => ⟨nf, ?_⟩) (fun hd => absurd h21 hd) hT hstop hWA hon (by simp only [List.length_cons]; omega) (by simp only [List.length_cons]; omega) hi Hs Hb
        have hd : r1 = 21 :: r2 := hd
        subst hd
        exact D1.trans (if_pos rfl)
      · have h21 : hs_hd r1 ≠ 21 := fun y => q2 (e21.mpr y)
        refine hs_xAddOp (o := 4) (q := n - 100) (n := 2) (by omega) (by decide) (by omega) ?_
        have E : hs_step z ((24 :: n :: r1) ++ T) false st = some (r1 ++ T, false, st, [(4, n - 100)]) := by
          rw [D1, if_neg (fun y => h21 (hA.mp y)), if_neg]
          intro y
          have hA6 := (hs_hdA (r := r1) hT (k := 26) (by decide) (by decide)).mp y.1
          cases r1 with
          | nil => simp [hs_hd] at hA6
          | cons a r2 =>
            have hA6 : a = 26 := hA6
            exact h26 y.2.1 (by rw [hA6]; simp)
        exact Hs r1 false st [(4, n - 100)] (c + 2) (cc + 1) wt _ (hs_Rr1 nf E) hP1.2.2 hWA hon rfl (hs_CAone (by decide) (by omega)) (fun k hk => pk_uLn (by omega)) (by simp only [List.length_cons]; omega) (by simp only [List.length_cons]; omega) (by simp only [List.length_cons]; omega) (fun _ h => h) (fun y => absurd y (by decide))
  · cases r with
    | nil =>
      rcases hT with q | ⟨n, E, q, hN⟩
      · subst q; rfl
      · subst q
        rfl
    | cons n r1 =>
      have hn : hs_isN n = false := hn
      exact if_neg (by rw [hn]; decide)
end
