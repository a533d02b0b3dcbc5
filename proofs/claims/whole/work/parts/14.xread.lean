/-! X's reader of an expression, a turn at a time -/
section
variable {x_objectLimit x_stepLimit x_depthLimit x_pendingCount x_keptTokens x_keptLines x_lineCount x_codeCount x_cursor x_stop x_waitingCount x_openCount x_classCount x_callCount x_operandCount x_stepsTaken x_error x_raisedCode x_printCount x_lastPlace : Int32} {x_lastResult : Int64} {x_pending x_lineTable x_orders x_merging x_letterClass x_objectClass x_calls x_lastPrints : Nat → Int32} {x_code x_waiting x_globals x_entries x_attributes x_held x_operands : Nat → Int64}
variable {y_maxObjects y_maxSteps y_maxDepth y_kept y_end y_tokens y_pending y_lines y_classes y_prints y_place y_steps y_d y_valTop y_opTop y_opens y_pos y_tk y_tv y_stmt y_target y_err y_code y_outcome y_dry y_want y_starting y_ended y_bad y_hosted y_sawSuper : Int32} {y_result : Int64} {y_text y_numbers y_classOf y_alive y_orders y_lengths y_letters y_bases y_ops y_fLine y_fPos y_fStmt y_fTarget y_fMask y_fHome y_fOps y_fVals y_fNew y_out : Nat → Int32} {y_globals y_entries y_attrs y_vals y_locals y_fRecv : Nat → Int64}
def hs_bot : List Nat → Prop
  | [] => True
  | s :: r => (r = [] → 1 ≤ s % 64 ∧ s % 64 ≤ 4) ∧ hs_bot r
theorem hs_bot0 : ∀ {st : List Nat}, hs_bot st → hs_opn st = 0 → st = []
  | [], _, _ => rfl
  | s :: r, h, ho => by
    by_cases c : 1 ≤ s % 64 ∧ s % 64 ≤ 4
    · rw [hs_opn1 c] at ho; omega
    · rw [hs_opn0 c] at ho
      exact absurd (h.1 (hs_bot0 h.2 ho)) c
theorem hs_botStl {r : Nat} : ∀ {st : List Nat}, hs_bot st → hs_bot (hs_stl r st).2
  | [], _ => trivial
  | s :: st, h => by
    by_cases c : r ≤ hs_rank (s % 64)
    · rw [hs_stlT c]; exact hs_botStl h.2
    · rw [hs_stlF c]; exact h
def hs_xw (w : Bool) : Int32 := if w then 1 else 2
theorem hs_xOpenCall {pd : Nat → Int32} {wt cd : Nat → Int64} {stop c cc k o q on wc : Nat} {ts : List Nat} (hPA : hs_PA pd stop c ts) (hstop : stop ≤ 400) (hk : k ≤ 3) (ho : o < 60) (hq : q < 2 ^ 31) (hon : on ≤ 4) {post : Int32 → SX → Prop}
    (H2 : hs_hd (ts.drop k) = 21 → on < 4 → hs_hd (ts.drop (k + 1)) = 22 → cc < 443 ∧ post 2 (x_objectLimit, x_stepLimit, x_depthLimit, x_pendingCount, x_keptTokens, x_keptLines, x_lineCount, nI (cc + 1), nI (c + (k + 2)), nI stop, nI wc, nI on, x_classCount, x_callCount, x_operandCount, x_stepsTaken, x_error, x_raisedCode, x_printCount, x_lastResult, x_lastPlace, pd, x_lineTable, vp_updL cd cc (hs_ce o q), wt, x_globals, x_entries, x_orders, x_merging, x_letterClass, x_objectClass, x_attributes, x_calls, x_held, x_operands, x_lastPrints))
    (H1 : hs_hd (ts.drop k) = 21 → on < 4 → hs_hd (ts.drop (k + 1)) ≠ 22 → wc < 40 ∧ post 1 (x_objectLimit, x_stepLimit, x_depthLimit, x_pendingCount, x_keptTokens, x_keptLines, x_lineCount, nI cc, nI (c + (k + 1)), nI stop, nI (wc + 1), nI (on + 1), x_classCount, x_callCount, x_operandCount, x_stepsTaken, x_error, x_raisedCode, x_printCount, x_lastResult, x_lastPlace, pd, x_lineTable, cd, vp_updL wt wc (hs_ce (o + 1) q), x_globals, x_entries, x_orders, x_merging, x_letterClass, x_objectClass, x_attributes, x_calls, x_held, x_operands, x_lastPrints))
    (H0 : (hs_hd (ts.drop k) ≠ 21 ∨ on = 4) → post 0 (x_objectLimit, x_stepLimit, x_depthLimit, x_pendingCount, x_keptTokens, x_keptLines, x_lineCount, nI cc, nI c, nI stop, nI wc, nI on, x_classCount, x_callCount, x_operandCount, x_stepsTaken, x_error, x_raisedCode, x_printCount, x_lastResult, x_lastPlace, pd, x_lineTable, cd, wt, x_globals, x_entries, x_orders, x_merging, x_letterClass, x_objectClass, x_attributes, x_calls, x_held, x_operands, x_lastPrints)) :
    wpX_openCall post (x_objectLimit, x_stepLimit, x_depthLimit, x_pendingCount, x_keptTokens, x_keptLines, x_lineCount, nI cc, nI c, nI stop, nI wc, nI on, x_classCount, x_callCount, x_operandCount, x_stepsTaken, x_error, x_raisedCode, x_printCount, x_lastResult, x_lastPlace, pd, x_lineTable, cd, wt, x_globals, x_entries, x_orders, x_merging, x_letterClass, x_objectClass, x_attributes, x_calls, x_held, x_operands, x_lastPrints) (nI o) (nI q) (nI k) := by
  unfold wpX_openCall
  refine hs_xPeek k hPA hstop (by omega) (fun x hx => ?_)
  have e21 := hs_rxE (k := 21) hx (Or.inr ⟨Or.inr (Or.inl (by decide)), by decide⟩) (by decide)
  refine br_c (fun q1 => ?_) (fun q1 => H0 (Or.inl (fun y => q1 (e21.mpr y))))
  have h21 := e21.mp q1
  refine pk_eq on 4 (fun q2 => H0 (Or.inr q2)) (fun q2 => ?_)
  have ek : nI k + 1 = nI (k + 1) := nI_1 k
  have ek2 : nI k + 2 = nI (k + 2) := nI_add k 2
  rw [ek, ek2]
  refine hs_xPeek (k + 1) hPA hstop (by omega) (fun x2 hx2 => ?_)
  have e22 := hs_rxE (k := 22) hx2 (Or.inr ⟨Or.inr (Or.inl (by decide)), by decide⟩) (by decide)
  refine br_c (fun q3 => ?_) (fun q3 => ?_)
  · obtain ⟨a, b⟩ := H2 h21 (by omega) (e22.mp q3)
    exact hs_xAddOp a (by omega) hq b
  · obtain ⟨a, b⟩ := H1 h21 (by omega) (fun y => q3 (e22.mpr y))
    refine nm_r (nI_1 on) ?_
    have eo : nI o + 1 = nI (o + 1) := nI_1 o
    rw [eo]
    exact hs_xKeep a (by omega) hq (nm_r (nI_add c (k + 1)) b)
theorem hs_drop1 {t : Nat} {r : List Nat} : (t :: r).drop 1 = r := rfl
theorem hs_wsC {ty n : Nat} (h1 : 2 ≤ ty ∧ ty ≤ 4) (hn : n < 26) : hs_ws (ty + 64 * n) ∧ (ty + 64 * n) % 64 = ty ∧ (ty + 64 * n) / 64 = n := by
  have a : (ty + 64 * n) % 64 = ty := by omega
  have b : (ty + 64 * n) / 64 = n := by omega
  exact ⟨Or.inr (Or.inl ⟨by omega, by omega, by omega⟩), a, b⟩
theorem hs_weC {ty n : Nat} (h1 : 2 ≤ ty ∧ ty ≤ 4) (hn : n < 26) : hs_we (ty + 64 * n) = hs_ce (2 * ty + 3) n := by
  obtain ⟨_, a, b⟩ := hs_wsC h1 hn
  unfold hs_we
  rw [if_neg (by omega), if_pos (by omega), a, b]
/-- a call: the reader has seen what stands before its parenthesis (k tokens), the automaton goes by hs_psh -/
theorem hs_xCallS {pd : Nat → Int32} {pa : Int32} {wt cd : Nat → Int64} {stop c cc k ty n : Nat} {ts st T : List Nat} {w z : Bool} (hPA : hs_PA pd stop c ts) (hk : 1 ≤ k ∧ k ≤ 3) (hty : 2 ≤ ty ∧ ty ≤ 4) (hn : n < 26)
    (hR : ∀ r1, ts.drop k = 21 :: r1 → ¬ hs_fin (ts ++ T) w st ∧ hs_step z (ts ++ T) w st = hs_psh (ty + 64 * n) (r1 ++ T) st)
    (hN : hs_hd (ts.drop k) ≠ 21 → hs_No z T ts w st) (hT : T = [] ∨ ∃ n E, T = 24 :: n :: 26 :: E ∧ hs_isN n = true) (hstop : stop ≤ 400) (hWA : hs_WA wt st) (hon : hs_opn st ≤ 4) (hl : st.length + ts.length ≤ 40) (hc : cc + st.length + ts.length ≤ 443) (hi : w = true → hs_hd ts = 22 → ¬ (2 ≤ hs_hd st % 64 ∧ hs_hd st % 64 ≤ 4))
    {post : Int32 → SX → Prop}
    (Hs : ∀ (ts' : List Nat) (w' : Bool) (st' : List Nat) (e : List (Nat × Nat)) (c' cc' : Nat) (wt' cd' : Nat → Int64), hs_Rr z T ts w st ts' w' st' e → hs_PA pd stop c' ts' → hs_WA wt' st' → hs_opn st' ≤ 4 → cc' = cc + e.length → hs_CA cd' cc e cc' → (∀ k, k < cc → cd' k = cd k) → ts'.length < ts.length → st'.length + ts'.length ≤ st.length + ts.length → cc' + st'.length + ts'.length ≤ cc + st.length + ts.length → (pa ≠ 0 → hs_bot st → hs_bot st') → (w' = true → hs_hd ts' = 22 → ¬ (2 ≤ hs_hd st' % 64 ∧ hs_hd st' % 64 ≤ 4)) → post (hs_xw w') (x_objectLimit, x_stepLimit, x_depthLimit, x_pendingCount, x_keptTokens, x_keptLines, x_lineCount, nI (cc'), nI (c'), nI stop, nI (List.length (st')), nI (hs_opn (st')), x_classCount, x_callCount, x_operandCount, x_stepsTaken, x_error, x_raisedCode, x_printCount, x_lastResult, x_lastPlace, pd, x_lineTable, cd', wt', x_globals, x_entries, x_orders, x_merging, x_letterClass, x_objectClass, x_attributes, x_calls, x_held, x_operands, x_lastPrints))
    (Hb : hs_No z T ts w st → ∀ (q1 q2 q3 q4 : Int32) (wt' cd' : Nat → Int64), (∀ k, k < cc → cd' k = cd k) → post 0 (x_objectLimit, x_stepLimit, x_depthLimit, x_pendingCount, x_keptTokens, x_keptLines, x_lineCount, q4, q1, nI stop, q2, q3, x_classCount, x_callCount, x_operandCount, x_stepsTaken, x_error, x_raisedCode, x_printCount, x_lastResult, x_lastPlace, pd, x_lineTable, cd', wt', x_globals, x_entries, x_orders, x_merging, x_letterClass, x_objectClass, x_attributes, x_calls, x_held, x_operands, x_lastPrints)) :
    wpX_openCall post (x_objectLimit, x_stepLimit, x_depthLimit, x_pendingCount, x_keptTokens, x_keptLines, x_lineCount, nI (cc), nI (c), nI stop, nI (List.length (st)), nI (hs_opn (st)), x_classCount, x_callCount, x_operandCount, x_stepsTaken, x_error, x_raisedCode, x_printCount, x_lastResult, x_lastPlace, pd, x_lineTable, cd, wt, x_globals, x_entries, x_orders, x_merging, x_letterClass, x_objectClass, x_attributes, x_calls, x_held, x_operands, x_lastPrints) (nI (2 * ty + 2)) (nI n) (nI k) := by
  obtain ⟨ws, wm, wd⟩ := hs_wsC hty hn
  refine hs_xOpenCall hPA hstop hk.2 (by omega) (by omega) hon (fun a b d => ?_) (fun a b d => ?_) (fun a => ?_)
  · cases hd : ts.drop k with
    | nil => rw [hd] at a; simp [hs_hd] at a
    | cons y r1 =>
      rw [hd] at a
      have a : y = 21 := a
      subst a
      obtain ⟨nf, st1⟩ := hR r1 hd
      have d2 : ts.drop (k + 1) = r1 := by
        rw [← List.drop_drop, hd]; rfl
      rw [d2] at d
      cases r1 with
      | nil => simp [hs_hd] at d
      | cons y2 r2 =>
        have d : y2 = 22 := d
        subst d
        have hlen : ts.length = k + 2 + r2.length := by
          have := congrArg List.length hd
          rw [List.length_drop] at this
          simp only [List.length_cons] at this
          omega
        refine ⟨by omega, ?_⟩
        have hP2 : hs_PA pd stop (c + (k + 2)) r2 := by
          have := hs_PAdrop (k := k + 2) hPA (by omega)
          have e : ts.drop (k + 2) = r2 := by
            rw [show k + 2 = (k + 1) + 1 from rfl, ← List.drop_drop, d2]; rfl
          rw [e] at this
          exact this
        have e1 : hs_Rr z T ts w st (22 :: r2) true ((ty + 64 * n) :: st) [] := hs_Rr1 nf (st1.trans (hs_pshT b))
        have e2 : hs_Rr z T (22 :: r2) true ((ty + 64 * n) :: st) r2 false st [(2 * ty + 2, n)] := by
          refine hs_Rr1 hs_finW ?_
          show (if 2 ≤ (ty + 64 * n) % 64 ∧ (ty + 64 * n) % 64 ≤ 4 then some (r2 ++ T, false, st, [(2 * ((ty + 64 * n) % 64) + 2, (ty + 64 * n) / 64)]) else none) = _
          rw [wm, wd, if_pos hty]
        exact Hs r2 false st [(2 * ty + 2, n)] _ (cc + 1) wt _ (hs_RrT e1 e2) hP2 hWA hon rfl (hs_CAone (by omega) (by omega)) (fun k hk => pk_uLn (by omega)) (by omega) (by omega) (by omega) (fun _ h => h) (fun y => absurd y (by decide))
  · cases hd : ts.drop k with
    | nil => rw [hd] at a; simp [hs_hd] at a
    | cons y r1 =>
      rw [hd] at a
      have a : y = 21 := a
      subst a
      obtain ⟨nf, st1⟩ := hR r1 hd
      have hlen : ts.length = k + 1 + r1.length := by
        have := congrArg List.length hd
        rw [List.length_drop] at this
        simp only [List.length_cons] at this
        omega
      refine ⟨by omega, ?_⟩
      have d2 : ts.drop (k + 1) = r1 := by
        rw [← List.drop_drop, hd]; rfl
      have hP2 : hs_PA pd stop (c + (k + 1)) r1 := by
        have := hs_PAdrop (k := k + 1) hPA (by omega)
        have e : ts.drop (k + 1) = r1 := by
          rw [← List.drop_drop, hd]; rfl
        rw [e] at this
        exact this
      have e1 : hs_Rr z T ts w st r1 true ((ty + 64 * n) :: st) [] := hs_Rr1 nf (st1.trans (hs_pshT b))
      have := Hs r1 true ((ty + 64 * n) :: st) [] (c + (k + 1)) cc (vp_updL wt st.length (hs_we (ty + 64 * n))) cd e1 hP2 (hs_WApush hWA ws) (by rw [hs_opn1 (by omega)]; omega) rfl rfl (fun _ _ => rfl) (by omega) (by simp only [List.length_cons]; omega) (by simp only [List.length_cons]; omega) (fun _ h => ⟨fun _ => by omega, h⟩) (fun _ y => absurd y (by rw [d2] at d; exact d))
      rw [hs_opn1 (by omega), hs_weC hty hn] at this
      exact this
  · refine Hb ?_ _ _ _ _ _ _ (fun _ _ => rfl)
    by_cases q : hs_hd (ts.drop k) = 21
    · cases hd : ts.drop k with
      | nil => rw [hd] at q; simp [hs_hd] at q
      | cons y r1 =>
        rw [hd] at q
        have q : y = 21 := q
        subst q
        obtain ⟨nf, st1⟩ := hR r1 hd
        have h4 : hs_opn st = 4 := by
          rcases a with a | a
          · rw [hd] at a; exact absurd rfl a
          · exact a
        exact hs_No1 nf (st1.trans (hs_pshF (by omega)))
    · exact hN q
theorem hs_supN {k : Nat} {r st : List Nat} (h : k ≠ 24) : hs_sup (k :: r) st = none := by
  cases r with
  | nil => rfl
  | cons n r =>
    cases r with
    | nil => rfl
    | cons p r => exact if_neg (fun y => h y.1)
theorem hs_hdA {r T : List Nat} {k : Nat} (hT : T = [] ∨ ∃ n E, T = 24 :: n :: 26 :: E ∧ hs_isN n = true) (hk : k ≠ 0) (hk2 : k ≠ 24) : hs_hd (r ++ T) = k ↔ hs_hd r = k := by
  cases r with
  | nil =>
    rcases hT with rfl | ⟨n, E, rfl, _⟩
    · exact Iff.rfl
    · constructor
      · intro h; exact absurd h.symm hk2
      · intro h; exact absurd h.symm hk
  | cons a r => exact Iff.rfl
theorem hs_xOpd {pd : Nat → Int32} {pa : Int32} {wt cd : Nat → Int64} {stop c cc t : Nat} {r st T ts : List Nat} {w z : Bool} (ets : ts = t :: r) (ew : w = true) (hPA : hs_PA pd stop c ts) (htv : t ≠ 0) (hT : T = [] ∨ ∃ n E, T = 24 :: n :: 26 :: E ∧ hs_isN n = true) (hstop : stop ≤ 400) (hWA : hs_WA wt st) (hon : hs_opn st ≤ 4) (hl : st.length + ts.length ≤ 40) (hc : cc + st.length + ts.length ≤ 443) (hi : w = true → hs_hd ts = 22 → ¬ (2 ≤ hs_hd st % 64 ∧ hs_hd st % 64 ≤ 4))
    {post : Int32 → SX → Prop}
    (Hs : ∀ (ts' : List Nat) (w' : Bool) (st' : List Nat) (e : List (Nat × Nat)) (c' cc' : Nat) (wt' cd' : Nat → Int64), hs_Rr z T ts w st ts' w' st' e → hs_PA pd stop c' ts' → hs_WA wt' st' → hs_opn st' ≤ 4 → cc' = cc + e.length → hs_CA cd' cc e cc' → (∀ k, k < cc → cd' k = cd k) → ts'.length < ts.length → st'.length + ts'.length ≤ st.length + ts.length → cc' + st'.length + ts'.length ≤ cc + st.length + ts.length → (pa ≠ 0 → hs_bot st → hs_bot st') → (w' = true → hs_hd ts' = 22 → ¬ (2 ≤ hs_hd st' % 64 ∧ hs_hd st' % 64 ≤ 4)) → post (hs_xw w') (x_objectLimit, x_stepLimit, x_depthLimit, x_pendingCount, x_keptTokens, x_keptLines, x_lineCount, nI (cc'), nI (c'), nI stop, nI (List.length (st')), nI (hs_opn (st')), x_classCount, x_callCount, x_operandCount, x_stepsTaken, x_error, x_raisedCode, x_printCount, x_lastResult, x_lastPlace, pd, x_lineTable, cd', wt', x_globals, x_entries, x_orders, x_merging, x_letterClass, x_objectClass, x_attributes, x_calls, x_held, x_operands, x_lastPrints))
    (Hb : hs_No z T ts w st → ∀ (q1 q2 q3 q4 : Int32) (wt' cd' : Nat → Int64), (∀ k, k < cc → cd' k = cd k) → post 0 (x_objectLimit, x_stepLimit, x_depthLimit, x_pendingCount, x_keptTokens, x_keptLines, x_lineCount, q4, q1, nI stop, q2, q3, x_classCount, x_callCount, x_operandCount, x_stepsTaken, x_error, x_raisedCode, x_printCount, x_lastResult, x_lastPlace, pd, x_lineTable, cd', wt', x_globals, x_entries, x_orders, x_merging, x_letterClass, x_objectClass, x_attributes, x_calls, x_held, x_operands, x_lastPrints)) : wpX_readOperand post (x_objectLimit, x_stepLimit, x_depthLimit, x_pendingCount, x_keptTokens, x_keptLines, x_lineCount, nI (cc), nI (c), nI stop, nI (List.length (st)), nI (hs_opn (st)), x_classCount, x_callCount, x_operandCount, x_stepsTaken, x_error, x_raisedCode, x_printCount, x_lastResult, x_lastPlace, pd, x_lineTable, cd, wt, x_globals, x_entries, x_orders, x_merging, x_letterClass, x_objectClass, x_attributes, x_calls, x_held, x_operands, x_lastPrints) := by
  subst ets ew
  have hP1 : hs_PA pd stop (c + 1) r := hPA.2.2
  have hx0 := hPA.1
  unfold wpX_readOperand
  refine hs_xPeek 0 hPA hstop (by decide) (fun x hx => hs_xPeek 1 hPA hstop (by decide) (fun x1 hx1 => hs_xPeek 2 hPA hstop (by decide) (fun x2 hx2 => ?_)))
  have hx : hs_rx x t := hx
  have hx1 : hs_rx x1 (hs_hd r) := hx1
  have hx2 : hs_rx x2 (hs_hd r.tail) := by
    have e : hs_hd ((t :: r).drop 2) = hs_hd r.tail := by cases r <;> rfl
    rw [e] at hx2; exact hx2
  simp only [List.length_cons] at hl hc
  refine nm_e ?_
  have e21 := hs_rxE (k := 21) hx (Or.inr ⟨Or.inr (Or.inl (by decide)), by decide⟩) (by decide)
  have e12 := hs_rxE (k := 12) hx (Or.inr ⟨Or.inl (by decide), by decide⟩) (by decide)
  have e13 := hs_rxE (k := 13) hx (Or.inr ⟨Or.inl (by decide), by decide⟩) (by decide)
  have elt := hs_rxLt hx
  have e24 := hs_rxE (k := 24) hx1 (Or.inr ⟨Or.inr (Or.inl (by decide)), by decide⟩) (by decide)
  have opd : ∀ u, hs_step z ((t :: r) ++ T) true u = hs_opd t (r ++ T) u := fun u => rfl
  refine br_c (fun q1 => ?_) (fun q1 => ?_)
  · have et := e21.mp q1
    subst et
    unfold wpX_openGroup
    refine pk_eq (hs_opn st) 4 (fun h4 => ?_) (fun h4 => ?_)
    · exact Hb (hs_No1 hs_finW (hs_pshF (s := 1) (by omega))) _ _ _ _ _ _ (fun _ _ => rfl)
    · refine nm_r (nI_1 _) (hs_xKeep (o := 0) (q := 0) (by omega) (by decide) (by decide) (nm_r (nI_1 c) ?_))
      have := Hs r true (1 :: st) [] (c + 1) cc (vp_updL wt st.length (hs_we 1)) cd (hs_Rr1 hs_finW (hs_pshT (s := 1) (by omega))) hP1 (hs_WApush hWA (Or.inl rfl)) (by rw [hs_opn1 (by decide)]; omega) rfl rfl (fun _ _ => rfl) (by simp) (by simp only [List.length_cons]; omega) (by simp only [List.length_cons]; omega) (fun _ h => ⟨fun _ => by decide, h⟩) (fun _ _ => by show ¬ (2 ≤ 1 % 64 ∧ 1 % 64 ≤ 4); decide)
      rw [hs_opn1 (by decide)] at this
      exact this
  · have n21 : t ≠ 21 := fun y => q1 (e21.mpr y)
    refine br_c (fun q2 => ?_) (fun q2 => ?_)
    · have lt := elt.mp q2
      have nb : ¬ 1000 ≤ t := by omega
      refine br_c (fun q3 => ?_) (fun q3 => ?_)
      · have et := e12.mp q3
        subst et
        refine hs_xAddOp (o := 3) (q := 0) (n := 1) (by omega) (by decide) (by decide) ?_
        exact Hs r false st [(3, 0)] (c + 1) (cc + 1) wt _ (hs_Rr1 hs_finW rfl) hP1 hWA hon rfl (hs_CAone (by decide) (by decide)) (fun k hk => pk_uLn (by omega)) (by simp) (by simp only [List.length_cons]; omega) (by simp only [List.length_cons]; omega) (fun _ h => h) (fun y => absurd y (by decide))
      · have n12 : t ≠ 12 := fun y => q3 (e12.mpr y)
        refine hs_xFromN hx (fun hn ex => br_f (by decide) ?_) (fun hn => br_t rfl ?_)
        · have hn' := hs_tkN hn
          subst ex
          have e100 : nI t - 100 = nI (t - 100) := pk_sub (b := 100) (by omega)
          rw [e100]
          refine hs_xAddOp (o := 2) (q := t - 100) (n := 1) (by omega) (by decide) (by omega) ?_
          have E : hs_step z ((t :: r) ++ T) true st = some (r ++ T, false, st, [(2, t - 100)]) := by
            rw [opd]; unfold hs_opd
            rw [if_neg nb, if_neg n12, if_pos hn]
          exact Hs r false st [(2, t - 100)] (c + 1) (cc + 1) wt _ (hs_Rr1 hs_finW E) hP1 hWA hon rfl (hs_CAone (by decide) (by omega)) (fun k hk => pk_uLn (by omega)) (by simp) (by simp only [List.length_cons]; omega) (by simp only [List.length_cons]; omega) (fun _ h => h) (fun y => absurd y (by decide))
        · -- a sort, or super, or nothing
          have cls : (t = 13 → hs_step z ((t :: r) ++ T) true st = none) → wX_readOperand_122 post x x1 x2 (x - 130) x_objectLimit x_stepLimit x_depthLimit x_pendingCount x_keptTokens x_keptLines x_lineCount (nI (cc)) (nI (c)) (nI stop) (nI (List.length (st))) (nI (hs_opn (st))) x_classCount x_callCount x_operandCount x_stepsTaken x_error x_raisedCode x_printCount x_lastResult x_lastPlace pd x_lineTable cd wt x_globals x_entries x_orders x_merging x_letterClass x_objectClass x_attributes x_calls x_held x_operands x_lastPrints := by
            intro n13
            unfold wX_readOperand_122
            refine hs_xFromC hx (fun hc1 ex => br_f (by decide) ?_) (fun hc1 => br_t rfl ?_)
            · have hc' := hs_tkC hc1
              subst ex
              have e130 : nI t - 130 = nI (t - 130) := pk_sub (b := 130) (by omega)
              rw [e130]
              have E0 : hs_step z ((t :: r) ++ T) true st = hs_cls t (r ++ T) st := by
                rw [opd]; unfold hs_opd
                rw [if_neg nb, if_neg n12, if_neg (by rw [hn]; decide), if_neg n21, if_pos hc1]
              have new : (hs_hd r ≠ 24 ∨ hs_isN (hs_hd r.tail) = false) → wX_readOperand_166 post (nI (t - 130)) x_objectLimit x_stepLimit x_depthLimit x_pendingCount x_keptTokens x_keptLines x_lineCount (nI (cc)) (nI (c)) (nI stop) (nI (List.length (st))) (nI (hs_opn (st))) x_classCount x_callCount x_operandCount x_stepsTaken x_error x_raisedCode x_printCount x_lastResult x_lastPlace pd x_lineTable cd wt x_globals x_entries x_orders x_merging x_letterClass x_objectClass x_attributes x_calls x_held x_operands x_lastPrints := by
                intro hcase
                unfold wX_readOperand_166
                refine hs_xCallS (k := 1) (ty := 4) (n := t - 130) (ts := t :: r) (w := true) (z := z) (T := T) (pa := pa) hPA (by decide) (by decide) (by omega) (fun r1 hd => ⟨hs_finW, ?_⟩) (fun hd => ?_) hT hstop hWA hon (by simp only [List.length_cons]; omega) (by simp only [List.length_cons]; omega) hi Hs Hb
                · have hd : r = 21 :: r1 := hd
                  subst hd
                  exact E0
                · have hd : hs_hd r ≠ 21 := hd
                  cases r with
                  | nil =>
                    rcases hT with rfl | ⟨n, E, rfl, hN⟩
                    · exact hs_No1 hs_finW E0
                    · have E1 : hs_step z ((t :: []) ++ 24 :: n :: 26 :: E) true st = some (26 :: E, false, st, [(5, (t - 130) * 26 + (n - 100))]) := E0.trans (if_pos ⟨hN, by show 26 ≠ 21; decide⟩)
                      intro cd fs h
                      obtain ⟨_, _, h⟩ := (hs_Sstep hs_finW E1).mp h
                      exact hs_Sop (by decide) (by decide) (by decide) (by decide) _ _ _ _ h
                  | cons k r1 =>
                    have hd : k ≠ 21 := hd
                    by_cases k24 : k = 24
                    · subst k24
                      have hnn : hs_isN (hs_hd r1) = false := by
                        rcases hcase with q | q
                        · exact absurd rfl q
                        · exact q
                      refine hs_No1 hs_finW (E0.trans ?_)
                      cases r1 with
                      | nil =>
                        rcases hT with rfl | ⟨n, E, rfl, hN⟩
                        · rfl
                        · show (if hs_isN 24 = true ∧ hs_hd (n :: 26 :: E) ≠ 21 then some (n :: 26 :: E, false, st, [(5, (t - 130) * 26 + (24 - 100))]) else none) = (none : hs_R)
                          exact if_neg (fun y => absurd y.1 (by decide))
                      | cons n r2 =>
                        have hnn : hs_isN n = false := hnn
                        exact if_neg (fun y => by rw [hnn] at y; exact absurd y.1 (by decide))
                    · refine hs_No1 hs_finW (E0.trans ?_)
                      show (if k = 21 then _ else if k = 24 then _ else none) = none
                      rw [if_neg hd, if_neg k24]
              refine br_c (fun q4 => ?_) (fun q4 => new (Or.inl (fun y => q4 (e24.mpr y))))
              have h24 := e24.mp q4
              refine hs_xFromN hx2 (fun hn2 ex2 => br_f (by decide) ?_) (fun hn2 => br_t rfl (new (Or.inr hn2)))
              cases r with
              | nil => simp [hs_hd] at h24
              | cons k r1 =>
                have h24 : k = 24 := h24
                subst h24
                cases r1 with
                | nil => simp [hs_hd, hs_isN] at hn2
                | cons n r2 =>
                  have hn2 : hs_isN n = true := hn2
                  have hn2' := hs_tkN hn2
                  have ex2 : x2 = nI n := ex2
                  subst ex2
                  have ep : nI (t - 130) * 26 + nI n - 100 = nI ((t - 130) * 26 + (n - 100)) := by
                    show nI (t - 130) * nI 26 + nI n - nI 100 = _
                    rw [pk_mul, nI_add, pk_sub (by omega)]
                    exact congrArg nI (by omega)
                  rw [ep]
                  simp only [List.length_cons] at hl hc
                  refine hs_xAddOp (o := 5) (q := (t - 130) * 26 + (n - 100)) (n := 3) (by omega) (by decide) (by omega) ?_
                  have hP3 : hs_PA pd stop (c + 3) r2 := hP1.2.2.2.2
                  refine Hs r2 false st [(5, (t - 130) * 26 + (n - 100))] (c + 3) (cc + 1) wt _ ?_ hP3 hWA hon rfl (hs_CAone (by decide) (by omega)) (fun k hk => pk_uLn (by omega)) (by simp only [List.length_cons]; omega) (by simp only [List.length_cons]; omega) (by simp only [List.length_cons]; omega) (fun _ h => h) (fun y => absurd y (by decide))
                  by_cases h21 : hs_hd (r2 ++ T) = 21
                  · -- the automaton stops here, the reader at the next turn
                    have E1 : hs_step z ((t :: 24 :: n :: r2) ++ T) true st = none := E0.trans (if_neg (fun y => y.2 h21))
                    have N1 : hs_No z T (t :: 24 :: n :: r2) true st := hs_No1 hs_finW E1
                    have N2 : hs_No z T r2 false st := by
                      have := (hs_hdA (r := r2) hT (k := 21) (by decide) (by decide)).mp h21
                      cases r2 with
                      | nil => simp [hs_hd] at this
                      | cons a r3 =>
                        have : a = 21 := this
                        subst this
                        intro cd fs
                        exact hs_Sop (by decide) (by decide) (by decide) (by decide) _ _ _ _
                    exact fun cd fs => ⟨fun h => absurd h (N1 _ _), fun ⟨_, _, h⟩ => absurd h (N2 _ _)⟩
                  · have E1 : hs_step z ((t :: 24 :: n :: r2) ++ T) true st = some (r2 ++ T, false, st, [(5, (t - 130) * 26 + (n - 100))]) := E0.trans (if_pos ⟨hn2, h21⟩)
                    exact hs_Rr1 hs_finW E1
            · refine Hb (hs_No1 hs_finW ?_) _ _ _ _ _ _ (fun _ _ => rfl)
              rw [opd]; unfold hs_opd
              by_cases t13 : t = 13
              · have := n13 t13
                rw [opd] at this; unfold hs_opd at this
                exact this
              rw [if_neg nb, if_neg n12, if_neg (by rw [hn]; decide), if_neg n21, if_neg (by rw [hc1]; decide), if_neg t13]
              by_cases t22 : t = 22
              · rw [if_pos t22]
                have hi := hi rfl t22
                cases st with
                | nil => rfl
                | cons s st1 => exact if_neg hi
              · rw [if_neg t22]
          refine br_c (fun q5 => ?_) (fun q5 => cls (fun y => absurd (e13.mpr y) q5))
          have et := e13.mp q5
          subst et
          have S0 : hs_step z ((13 :: r) ++ T) true st = hs_sup (r ++ T) st := rfl
          refine br_c (fun q6 => ?_) (fun q6 => cls (fun _ => S0.trans ?_))
          · have h24 := e24.mp q6
            refine hs_xFromN hx2 (fun hn2 ex2 => br_f (by decide) ?_) (fun hn2 => br_t rfl (cls (fun _ => S0.trans ?_)))
            · cases r with
              | nil => simp [hs_hd] at h24
              | cons k r1 =>
                have h24 : k = 24 := h24
                subst h24
                cases r1 with
                | nil => simp [hs_hd, hs_isN] at hn2
                | cons n r2 =>
                  have hn2 : hs_isN n = true := hn2
                  have hn2' := hs_tkN hn2
                  have ex2 : x2 = nI n := ex2
                  subst ex2
                  have ep : nI n - 100 = nI (n - 100) := pk_sub (b := 100) (by omega)
                  rw [ep]
                  refine hs_xCallS (k := 3) (ty := 3) (n := n - 100) (ts := 13 :: 24 :: n :: r2) (w := true) (z := z) (T := T) (pa := pa) hPA (by decide) (by decide) (by omega) (fun r1 hd => ⟨hs_finW, ?_⟩) (fun hd => hs_No1 hs_finW (S0.trans ?_)) hT hstop hWA hon (by simp only [List.length_cons] at *; omega) (by simp only [List.length_cons] at *; omega) hi Hs Hb
                  · have hd : r2 = 21 :: r1 := hd
                    subst hd
                    exact S0.trans (if_pos ⟨rfl, hn2, rfl⟩)
                  · have hd : hs_hd r2 ≠ 21 := hd
                    cases r2 with
                    | nil =>
                      rcases hT with rfl | ⟨m, E, rfl, hN⟩
                      · rfl
                      · exact if_neg (fun y => absurd y.2.2 (by decide))
                    | cons a r3 => exact if_neg (fun y => hd y.2.2)
            · cases r with
              | nil => simp [hs_hd] at h24
              | cons k r1 =>
                cases r1 with
                | nil =>
                  rcases hT with rfl | ⟨m, E, rfl, hN⟩
                  · rfl
                  · exact if_neg (fun y => absurd y.2.1 (by decide))
                | cons n r2 =>
                  have hn3 : hs_isN n = false := hn2
                  cases r2 with
                  | nil =>
                    rcases hT with rfl | ⟨m, E, rfl, hN⟩
                    · rfl
                    · exact if_neg (fun y => by rw [hn3] at y; exact absurd y.2.1 (by decide))
                  | cons a r3 => exact if_neg (fun y => by rw [hn3] at y; exact absurd y.2.1 (by decide))
          · have h24 : hs_hd r ≠ 24 := fun y => q6 (e24.mpr y)
            cases r with
            | nil =>
              rcases hT with rfl | ⟨m, E, rfl, hN⟩
              · rfl
              · cases E with
                | nil => exact if_neg (fun y => absurd y.2.2 (by decide))
                | cons a E => exact if_neg (fun y => absurd y.2.2 (by decide))
            | cons k r1 =>
              exact hs_supN (r := r1 ++ T) h24
    · have nb : 1000 ≤ t := by
        have : ¬ t < 1000 := fun y => q2 (elt.mpr y)
        omega
      have ex : x = nI t ∧ t < 2 ^ 31 := by
        rcases hx with ⟨_, h⟩ | ⟨h, _, _, h2⟩ | ⟨h, _, _⟩
        · omega
        · exact ⟨h, h2⟩
        · omega
      obtain ⟨rfl, h31⟩ := ex
      have e1000 : nI t - 1000 = nI (t - 1000) := pk_sub (b := 1000) nb
      rw [e1000]
      refine hs_xAddOp (o := 1) (q := t - 1000) (n := 1) (by omega) (by decide) (by omega) ?_
      exact Hs r false st [(1, t - 1000)] (c + 1) (cc + 1) wt _ (hs_Rr1 hs_finW (if_pos nb)) hP1 hWA hon rfl (hs_CAone (by decide) (by omega)) (fun k hk => pk_uLn (by omega)) (by simp) (by simp only [List.length_cons]; omega) (by simp only [List.length_cons]; omega) (fun _ h => h) (fun y => absurd y (by decide))
end
