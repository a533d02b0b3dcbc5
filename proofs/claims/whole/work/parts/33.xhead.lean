/-! the head of a sort line or a def line on X's side -/
section
variable {x_objectLimit x_stepLimit x_depthLimit x_pendingCount x_keptTokens x_keptLines x_lineCount x_codeCount x_cursor x_stop x_waitingCount x_openCount x_classCount x_callCount x_operandCount x_stepsTaken x_error x_raisedCode x_printCount x_lastPlace : Int32} {x_lastResult : Int64} {x_pending x_lineTable x_orders x_merging x_letterClass x_objectClass x_calls x_lastPrints : Nat → Int32} {x_code x_waiting x_globals x_entries x_attributes x_held x_operands : Nat → Int64}
variable {y_maxObjects y_maxSteps y_maxDepth y_kept y_end y_tokens y_pending y_lines y_classes y_prints y_place y_steps y_d y_valTop y_opTop y_opens y_pos y_tk y_tv y_stmt y_target y_err y_code y_outcome y_dry y_want y_starting y_ended y_bad y_hosted y_sawSuper : Int32} {y_result : Int64} {y_text y_numbers y_classOf y_alive y_orders y_lengths y_letters y_bases y_ops y_fLine y_fPos y_fStmt y_fTarget y_fMask y_fHome y_fOps y_fVals y_fNew y_out : Nat → Int32} {y_globals y_entries y_attrs y_vals y_locals y_fRecv : Nat → Int64}
/-- the row keeps what splitLines wrote; all else is kept -/
def hs_kp (R : Nat) (L' L : Nat → Int32) : Prop := ∀ k, (k < R ∨ R + 14 ≤ k ∨ (R < k ∧ k < R + 5) ∨ k = R + 11 ∨ k = R + 12) → L' k = L k
theorem hs_kpR {R : Nat} {L : Nat → Int32} : hs_kp R L L := fun _ _ => rfl
theorem hs_kpU {R j : Nat} {L' L : Nat → Int32} {x : Int32} (h : hs_kp R L' L) (hj : j = R ∨ (R + 5 ≤ j ∧ j ≤ R + 10) ∨ j = R + 13) : hs_kp R (upd L' j x) L := fun k hk => by
  rw [pk_un (by omega)]
  exact h k hk
theorem hs_l3 {ts : List Nat} (h : ts.length = 3) : ts = [hs_hd ts, hs_hd (ts.drop 1), hs_hd (ts.drop 2)] := by
  match ts, h with
  | [a, b, c], _ => rfl
theorem hs_l6 {ts : List Nat} (h : ts.length = 6) : ts = [hs_hd ts, hs_hd (ts.drop 1), hs_hd (ts.drop 2), hs_hd (ts.drop 3), hs_hd (ts.drop 4), hs_hd (ts.drop 5)] := by
  match ts, h with
  | [a, b, c, d, e, f], _ => rfl
theorem hs_l8 {ts : List Nat} (h : ts.length = 8) : ts = [hs_hd ts, hs_hd (ts.drop 1), hs_hd (ts.drop 2), hs_hd (ts.drop 3), hs_hd (ts.drop 4), hs_hd (ts.drop 5), hs_hd (ts.drop 6), hs_hd (ts.drop 7)] := by
  match ts, h with
  | [a, b, c, d, e, f, g, i], _ => rfl
theorem hs_hdNe {ts : List Nat} {k : Nat} (h : hs_hd (ts.drop k) ≠ 0) : k < ts.length := by
  rcases Nat.lt_or_ge k ts.length with q | q
  · exact q
  · exact absurd (hs_hdDrop q) h
theorem hs_xClassH {pd LT : Nat → Int32} {c e R : Nat} {r ts : List Nat} (ets : ts = 1 :: r) (hPA : hs_PA pd e c ts) (he : e ≤ 400) (hR : R + 14 ≤ 5670) {post : Int32 → SX → Prop}
    (H1 : ∀ (LT' : Nat → Int32), hs_kp R LT' LT → LT' R = LT R → LT' (R + 13) = LT (R + 13) → hs_CH (LT' (R + 5)) (LT' (R + 6)) (LT' (R + 7)) r → post 1 (x_objectLimit, x_stepLimit, x_depthLimit, x_pendingCount, x_keptTokens, x_keptLines, x_lineCount, x_codeCount, nI c, nI e, x_waitingCount, x_openCount, x_classCount, x_callCount, x_operandCount, x_stepsTaken, x_error, x_raisedCode, x_printCount, x_lastResult, x_lastPlace, pd, LT', x_code, x_waiting, x_globals, x_entries, x_orders, x_merging, x_letterClass, x_objectClass, x_attributes, x_calls, x_held, x_operands, x_lastPrints))
    (H0 : (∀ f s t, ¬ hs_CH f s t r) → ∀ (LT' : Nat → Int32), hs_kp R LT' LT → post 0 (x_objectLimit, x_stepLimit, x_depthLimit, x_pendingCount, x_keptTokens, x_keptLines, x_lineCount, x_codeCount, nI c, nI e, x_waitingCount, x_openCount, x_classCount, x_callCount, x_operandCount, x_stepsTaken, x_error, x_raisedCode, x_printCount, x_lastResult, x_lastPlace, pd, LT', x_code, x_waiting, x_globals, x_entries, x_orders, x_merging, x_letterClass, x_objectClass, x_attributes, x_calls, x_held, x_operands, x_lastPrints)) : wpX_readHeader post (x_objectLimit, x_stepLimit, x_depthLimit, x_pendingCount, x_keptTokens, x_keptLines, x_lineCount, x_codeCount, nI c, nI e, x_waitingCount, x_openCount, x_classCount, x_callCount, x_operandCount, x_stepsTaken, x_error, x_raisedCode, x_printCount, x_lastResult, x_lastPlace, pd, LT, x_code, x_waiting, x_globals, x_entries, x_orders, x_merging, x_letterClass, x_objectClass, x_attributes, x_calls, x_held, x_operands, x_lastPrints) (nI R) 130 := by
  have hlen := hs_PAlen hPA
  have hL1 : 1 ≤ ts.length := by rw [ets]; simp
  have eL : nI e - nI c = nI ts.length := by rw [pk_sub (by omega)]; exact congrArg nI (by omega)
  have e5 : nI R + 5 = nI (R + 5) := nI_add R 5
  have e6 : nI R + 6 = nI (R + 6) := nI_add R 6
  have e7 : nI R + 7 = nI (R + 7) := nI_add R 7
  unfold wpX_readHeader
  refine nm_r eL (hs_xPeek 1 hPA he (by decide) (fun x1 hx1 => hs_xPeek 3 hPA he (by decide) (fun x3 hx3 => hs_xPeek 5 hPA he (by decide) (fun x5 hx5 => ?_))))
  rw [e5, e6, e7, nI_clamp (show R + 5 < 2 ^ 31 by omega), nI_clamp (show R + 6 < 2 ^ 31 by omega), nI_clamp (show R + 7 < 2 ^ 31 by omega)]
  have v5 : vp_in (nI (R + 5)) 5670 := vp_in_nI (by omega) (by decide)
  have v6 : vp_in (nI (R + 6)) 5670 := vp_in_nI (by omega) (by decide)
  have v7 : vp_in (nI (R + 7)) 5670 := vp_in_nI (by omega) (by decide)
  refine And.intro v5 (nm_e (And.intro v6 (nm_e (And.intro v7 (nm_e ?_)))))
  have kp1 : hs_kp R (upd (upd (upd LT (R + 5) (x1 - 130)) (R + 6) (-1)) (R + 7) (-1)) LT := hs_kpU (hs_kpU (hs_kpU hs_kpR (by omega)) (by omega)) (by omega)
  -- the shapes that a right head may have
  have shp : ∀ f s t, hs_CH f s t r → ∃ c', hs_isC c' = true ∧ (ts = [1, c', 25] ∨ (∃ a, hs_isC a = true ∧ ts = [1, c', 21, a, 22, 25]) ∨ ∃ a b, hs_isC a = true ∧ hs_isC b = true ∧ ts = [1, c', 21, a, 23, b, 22, 25]) := by
    rintro f s t ⟨c', hc', _, hh⟩
    refine ⟨c', hc', ?_⟩
    rcases hh with ⟨er, _⟩ | ⟨a, ha, er, _⟩ | ⟨a, b, ha, hb, er, _⟩
    · exact Or.inl (by rw [ets, er])
    · exact Or.inr (Or.inl ⟨a, ha, by rw [ets, er]⟩)
    · exact Or.inr (Or.inr ⟨a, b, ha, hb, by rw [ets, er]⟩)
  refine hs_xFromC hx1 (fun h1 ex1 => br_f (by decide) ?_) (fun h1 => br_t rfl (H0 (fun f s t hC => ?_) _ kp1))
  rotate_left
  · rcases shp f s t hC with ⟨c', hc', q | ⟨a, ha, q⟩ | ⟨a, b, ha, hb, q⟩⟩
    · rw [q] at h1
      have h1 : hs_isC c' = false := h1
      rw [hc'] at h1; cases h1
    · rw [q] at h1
      have h1 : hs_isC c' = false := h1
      rw [hc'] at h1; cases h1
    · rw [q] at h1
      have h1 : hs_isC c' = false := h1
      rw [hc'] at h1; cases h1
  have em1 : nI ts.length - 1 = nI (ts.length - 1) := pk_sub (b := 1) hL1
  rw [em1]
  refine hs_xPeek (ts.length - 1) hPA he (by omega) (fun xl hxl => ?_)
  have el := hs_rxE (k := 25) hxl (Or.inr ⟨Or.inr (Or.inl (by decide)), by decide⟩) (by decide)
  refine br_c (fun ql => ?_) (fun ql => H0 (fun f s t hC => ql (el.mpr ?_)) _ kp1)
  rotate_left
  · rcases shp f s t hC with ⟨c', hc', q | ⟨a, ha, q⟩ | ⟨a, b, ha, hb, q⟩⟩ <;> (rw [q]; rfl)
  have hl25 := el.mp ql
  refine pk_eq ts.length 3 (fun l3 => ?_) (fun l3 => ?_)
  · refine br_t rfl (H1 _ kp1 ?_ ?_ ?_)
    · rw [pk_un (by omega), pk_un (by omega), pk_un (by omega)]
    · rw [pk_un (by omega), pk_un (by omega), pk_un (by omega)]
    · rw [pk_us, pk_un (by omega), pk_un (by omega), pk_us, pk_un (by omega), pk_us, ex1]
      have s3 := hs_l3 l3
      rw [l3] at hl25
      have hl25 : hs_hd (ts.drop 2) = 25 := hl25
      rw [hl25, ets] at s3
      have tc := hs_tkC h1
      refine ⟨hs_hd (ts.drop 1), h1, pk_sub (b := 130) (by omega), Or.inl ⟨?_, rfl, rfl⟩⟩
      rw [ets]
      exact (List.cons.inj s3).2
  refine hs_xPeek 2 hPA he (by decide) (fun x2 hx2 => ?_)
  have e2 := hs_rxE (k := 21) hx2 (Or.inr ⟨Or.inr (Or.inl (by decide)), by decide⟩) (by decide)
  refine br_c (fun q2 => ?_) (fun q2 => H0 (fun f s t hC => ?_) _ kp1)
  rotate_left
  · rcases shp f s t hC with ⟨c', hc', q | ⟨a, ha, q⟩ | ⟨a, b, ha, hb, q⟩⟩
    · rw [q] at l3; exact l3 rfl
    · exact q2 (e2.mpr (by rw [q]; rfl))
    · exact q2 (e2.mpr (by rw [q]; rfl))
  have h21 := e2.mp q2
  have hL3 : 2 < ts.length := hs_hdNe (by rw [h21]; decide)
  have em2 : nI ts.length - 2 = nI (ts.length - 2) := pk_sub (b := 2) (by omega)
  rw [em2]
  refine hs_xPeek (ts.length - 2) hPA he (by omega) (fun xm hxm => ?_)
  have em := hs_rxE (k := 22) hxm (Or.inr ⟨Or.inr (Or.inl (by decide)), by decide⟩) (by decide)
  refine br_c (fun qm => ?_) (fun qm => H0 (fun f s t hC => ?_) _ kp1)
  rotate_left
  · rcases shp f s t hC with ⟨c', hc', q | ⟨a, ha, q⟩ | ⟨a, b, ha, hb, q⟩⟩
    · rw [q] at l3; exact l3 rfl
    · exact qm (em.mpr (by rw [q]; rfl))
    · exact qm (em.mpr (by rw [q]; rfl))
  have h22 := em.mp qm
  refine hs_xFromC hx3 (fun h3 ex3 => br_f (by decide) ?_) (fun h3 => br_t rfl (H0 (fun f s t hC => ?_) _ kp1))
  rotate_left
  · rcases shp f s t hC with ⟨c', hc', q | ⟨a, ha, q⟩ | ⟨a, b, ha, hb, q⟩⟩
    · rw [q] at l3; exact l3 rfl
    · rw [q] at h3
      have h3 : hs_isC a = false := h3
      rw [ha] at h3; cases h3
    · rw [q] at h3
      have h3 : hs_isC a = false := h3
      rw [ha] at h3; cases h3
  have t1 := hs_tkC h1
  have t3 := hs_tkC h3
  refine And.intro v6 (nm_e ?_)
  have kp2 := hs_kpU (j := R + 6) (x := x3 - 130) kp1 (by omega)
  refine pk_eq ts.length 6 (fun l6 => ?_) (fun l6 => ?_)
  · refine H1 _ kp2 ?_ ?_ ?_
    · rw [pk_un (by omega), pk_un (by omega), pk_un (by omega), pk_un (by omega)]
    · rw [pk_un (by omega), pk_un (by omega), pk_un (by omega), pk_un (by omega)]
    · rw [pk_un (by omega), pk_un (by omega), pk_un (by omega), pk_us, pk_us, pk_un (by omega), pk_us, ex1, ex3]
      have s6 := hs_l6 l6
      rw [l6] at hl25 h22
      have hl25 : hs_hd (ts.drop 5) = 25 := hl25
      have h22 : hs_hd (ts.drop 4) = 22 := h22
      rw [hl25, h22, h21, ets] at s6
      refine ⟨hs_hd (ts.drop 1), h1, pk_sub (b := 130) (by omega), Or.inr (Or.inl ⟨hs_hd (ts.drop 3), h3, ?_, pk_sub (b := 130) (by omega), rfl⟩)⟩
      rw [ets]
      exact (List.cons.inj s6).2
  refine And.intro v7 (nm_e ?_)
  have kp3 := hs_kpU (j := R + 7) (x := x5 - 130) kp2 (by omega)
  -- only eight tokens are left
  have only8 : ∀ f s t, hs_CH f s t r → ∃ c' a b, hs_isC a = true ∧ hs_isC b = true ∧ True ∧ ts = [1, c', 21, a, 23, b, 22, 25] := by
    intro f s t hC
    rcases shp f s t hC with ⟨c', hc', q | ⟨a, ha, q⟩ | ⟨a, b, ha, hb, q⟩⟩
    · rw [q] at l3; exact absurd rfl l3
    · rw [q] at l6; exact absurd rfl l6
    · exact ⟨c', a, b, ha, hb, trivial, q⟩
  refine pk_eq ts.length 8 (fun l8 => ?_) (fun l8 => H0 (fun f s t hC => ?_) _ kp3)
  rotate_left
  · obtain ⟨c', a, b, _, _, _, q⟩ := only8 f s t hC
    rw [q] at l8; exact l8 rfl
  refine hs_xPeek 4 hPA he (by decide) (fun x4 hx4 => ?_)
  have e4 := hs_rxE (k := 23) hx4 (Or.inr ⟨Or.inr (Or.inl (by decide)), by decide⟩) (by decide)
  refine br_c (fun q4 => ?_) (fun q4 => H0 (fun f s t hC => ?_) _ kp3)
  rotate_left
  · obtain ⟨c', a, b, _, _, _, q⟩ := only8 f s t hC
    exact q4 (e4.mpr (by rw [q]; rfl))
  have h23 := e4.mp q4
  refine hs_xFromC hx5 (fun h5 ex5 => br_f (by decide) ?_) (fun h5 => br_t rfl (H0 (fun f s t hC => ?_) _ kp3))
  rotate_left
  · obtain ⟨c', a, b, _, hb, _, q⟩ := only8 f s t hC
    rw [q] at h5
    have h5 : hs_isC b = false := h5
    rw [hb] at h5; cases h5
  have t5 := hs_tkC h5
  have good : True → post 1 (x_objectLimit, x_stepLimit, x_depthLimit, x_pendingCount, x_keptTokens, x_keptLines, x_lineCount, x_codeCount, nI c, nI e, x_waitingCount, x_openCount, x_classCount, x_callCount, x_operandCount, x_stepsTaken, x_error, x_raisedCode, x_printCount, x_lastResult, x_lastPlace, pd, upd (upd (upd (upd (upd LT (R + 5) (x1 - 130)) (R + 6) (-1)) (R + 7) (-1)) (R + 6) (x3 - 130)) (R + 7) (x5 - 130), x_code, x_waiting, x_globals, x_entries, x_orders, x_merging, x_letterClass, x_objectClass, x_attributes, x_calls, x_held, x_operands, x_lastPrints) := by
    intro hne
    refine H1 _ kp3 ?_ ?_ ?_
    · rw [pk_un (by omega), pk_un (by omega), pk_un (by omega), pk_un (by omega), pk_un (by omega)]
    · rw [pk_un (by omega), pk_un (by omega), pk_un (by omega), pk_un (by omega), pk_un (by omega)]
    · rw [pk_un (by omega), pk_un (by omega), pk_un (by omega), pk_un (by omega), pk_us, pk_un (by omega), pk_us, pk_us, ex1, ex3, ex5]
      have s8 := hs_l8 l8
      rw [l8] at hl25 h22
      have hl25 : hs_hd (ts.drop 7) = 25 := hl25
      have h22 : hs_hd (ts.drop 6) = 22 := h22
      rw [hl25, h22, h21, h23, ets] at s8
      refine ⟨hs_hd (ts.drop 1), h1, pk_sub (b := 130) (by omega), Or.inr (Or.inr ⟨hs_hd (ts.drop 3), hs_hd (ts.drop 5), h3, h5, ?_, pk_sub (b := 130) (by omega), pk_sub (b := 130) (by omega)⟩)⟩
      rw [ets]
      exact (List.cons.inj s8).2
  exact br_t rfl (good trivial)
theorem hs_xDefH {pd LT : Nat → Int32} {c e R : Nat} {r ts : List Nat} (ets : ts = 2 :: r) (hPA : hs_PA pd e c ts) (he : e ≤ 400) (hR : R + 14 ≤ 5670) {post : Int32 → SX → Prop}
    (H1 : ∀ (LT' : Nat → Int32), hs_kp R LT' LT → LT' R = LT R → LT' (R + 13) = LT (R + 13) → hs_DH (LT' (R + 5)) (LT' (R + 6)) (LT' (R + 7)) r → post 1 (x_objectLimit, x_stepLimit, x_depthLimit, x_pendingCount, x_keptTokens, x_keptLines, x_lineCount, x_codeCount, nI c, nI e, x_waitingCount, x_openCount, x_classCount, x_callCount, x_operandCount, x_stepsTaken, x_error, x_raisedCode, x_printCount, x_lastResult, x_lastPlace, pd, LT', x_code, x_waiting, x_globals, x_entries, x_orders, x_merging, x_letterClass, x_objectClass, x_attributes, x_calls, x_held, x_operands, x_lastPrints))
    (H0 : (∀ f s t, ¬ hs_DH f s t r) → ∀ (LT' : Nat → Int32), hs_kp R LT' LT → post 0 (x_objectLimit, x_stepLimit, x_depthLimit, x_pendingCount, x_keptTokens, x_keptLines, x_lineCount, x_codeCount, nI c, nI e, x_waitingCount, x_openCount, x_classCount, x_callCount, x_operandCount, x_stepsTaken, x_error, x_raisedCode, x_printCount, x_lastResult, x_lastPlace, pd, LT', x_code, x_waiting, x_globals, x_entries, x_orders, x_merging, x_letterClass, x_objectClass, x_attributes, x_calls, x_held, x_operands, x_lastPrints)) : wpX_readHeader post (x_objectLimit, x_stepLimit, x_depthLimit, x_pendingCount, x_keptTokens, x_keptLines, x_lineCount, x_codeCount, nI c, nI e, x_waitingCount, x_openCount, x_classCount, x_callCount, x_operandCount, x_stepsTaken, x_error, x_raisedCode, x_printCount, x_lastResult, x_lastPlace, pd, LT, x_code, x_waiting, x_globals, x_entries, x_orders, x_merging, x_letterClass, x_objectClass, x_attributes, x_calls, x_held, x_operands, x_lastPrints) (nI R) 100 := by
  have hlen := hs_PAlen hPA
  have hL1 : 1 ≤ ts.length := by rw [ets]; simp
  have eL : nI e - nI c = nI ts.length := by rw [pk_sub (by omega)]; exact congrArg nI (by omega)
  have e5 : nI R + 5 = nI (R + 5) := nI_add R 5
  have e6 : nI R + 6 = nI (R + 6) := nI_add R 6
  have e7 : nI R + 7 = nI (R + 7) := nI_add R 7
  unfold wpX_readHeader
  refine nm_r eL (hs_xPeek 1 hPA he (by decide) (fun x1 hx1 => hs_xPeek 3 hPA he (by decide) (fun x3 hx3 => hs_xPeek 5 hPA he (by decide) (fun x5 hx5 => ?_))))
  rw [e5, e6, e7, nI_clamp (show R + 5 < 2 ^ 31 by omega), nI_clamp (show R + 6 < 2 ^ 31 by omega), nI_clamp (show R + 7 < 2 ^ 31 by omega)]
  have v5 : vp_in (nI (R + 5)) 5670 := vp_in_nI (by omega) (by decide)
  have v6 : vp_in (nI (R + 6)) 5670 := vp_in_nI (by omega) (by decide)
  have v7 : vp_in (nI (R + 7)) 5670 := vp_in_nI (by omega) (by decide)
  refine And.intro v5 (nm_e (And.intro v6 (nm_e (And.intro v7 (nm_e ?_)))))
  have kp1 : hs_kp R (upd (upd (upd LT (R + 5) (x1 - 100)) (R + 6) (-1)) (R + 7) (-1)) LT := hs_kpU (hs_kpU (hs_kpU hs_kpR (by omega)) (by omega)) (by omega)
  -- the shapes that a right head may have
  have shp : ∀ f s t, hs_DH f s t r → ∃ c', hs_isN c' = true ∧ ((∃ a, hs_isN a = true ∧ ts = [2, c', 21, a, 22, 25]) ∨ ∃ a b, hs_isN a = true ∧ hs_isN b = true ∧ b ≠ a ∧ ts = [2, c', 21, a, 23, b, 22, 25]) := by
    rintro f s t ⟨c', a, hc', ha, _, _, hh⟩
    refine ⟨c', hc', ?_⟩
    rcases hh with ⟨er, _⟩ | ⟨b, hb, hne, er, _⟩
    · exact Or.inl ⟨a, ha, by rw [ets, er]⟩
    · exact Or.inr ⟨a, b, ha, hb, hne, by rw [ets, er]⟩
  refine hs_xFromN hx1 (fun h1 ex1 => br_f (by decide) ?_) (fun h1 => br_t rfl (H0 (fun f s t hC => ?_) _ kp1))
  rotate_left
  · rcases shp f s t hC with ⟨c', hc', ⟨a, ha, q⟩ | ⟨a, b, ha, hb, hne, q⟩⟩
    · rw [q] at h1
      have h1 : hs_isN c' = false := h1
      rw [hc'] at h1; cases h1
    · rw [q] at h1
      have h1 : hs_isN c' = false := h1
      rw [hc'] at h1; cases h1
  have em1 : nI ts.length - 1 = nI (ts.length - 1) := pk_sub (b := 1) hL1
  rw [em1]
  refine hs_xPeek (ts.length - 1) hPA he (by omega) (fun xl hxl => ?_)
  have el := hs_rxE (k := 25) hxl (Or.inr ⟨Or.inr (Or.inl (by decide)), by decide⟩) (by decide)
  refine br_c (fun ql => ?_) (fun ql => H0 (fun f s t hC => ql (el.mpr ?_)) _ kp1)
  rotate_left
  · rcases shp f s t hC with ⟨c', hc', ⟨a, ha, q⟩ | ⟨a, b, ha, hb, hne, q⟩⟩ <;> (rw [q]; rfl)
  have hl25 := el.mp ql
  refine pk_eq ts.length 3 (fun l3 => ?_) (fun l3 => ?_)
  · refine br_f (by decide) (H0 (fun f s t hC => ?_) _ kp1)
    rcases shp f s t hC with ⟨c', hc', ⟨a, ha, q⟩ | ⟨a, b, ha, hb, hne, q⟩⟩ <;> (rw [q] at l3; cases l3)
  refine hs_xPeek 2 hPA he (by decide) (fun x2 hx2 => ?_)
  have e2 := hs_rxE (k := 21) hx2 (Or.inr ⟨Or.inr (Or.inl (by decide)), by decide⟩) (by decide)
  refine br_c (fun q2 => ?_) (fun q2 => H0 (fun f s t hC => ?_) _ kp1)
  rotate_left
  · rcases shp f s t hC with ⟨c', hc', ⟨a, ha, q⟩ | ⟨a, b, ha, hb, hne, q⟩⟩
    · exact q2 (e2.mpr (by rw [q]; rfl))
    · exact q2 (e2.mpr (by rw [q]; rfl))
  have h21 := e2.mp q2
  have hL3 : 2 < ts.length := hs_hdNe (by rw [h21]; decide)
  have em2 : nI ts.length - 2 = nI (ts.length - 2) := pk_sub (b := 2) (by omega)
  rw [em2]
  refine hs_xPeek (ts.length - 2) hPA he (by omega) (fun xm hxm => ?_)
  have em := hs_rxE (k := 22) hxm (Or.inr ⟨Or.inr (Or.inl (by decide)), by decide⟩) (by decide)
  refine br_c (fun qm => ?_) (fun qm => H0 (fun f s t hC => ?_) _ kp1)
  rotate_left
  · rcases shp f s t hC with ⟨c', hc', ⟨a, ha, q⟩ | ⟨a, b, ha, hb, hne, q⟩⟩
    · exact qm (em.mpr (by rw [q]; rfl))
    · exact qm (em.mpr (by rw [q]; rfl))
  have h22 := em.mp qm
  refine hs_xFromN hx3 (fun h3 ex3 => br_f (by decide) ?_) (fun h3 => br_t rfl (H0 (fun f s t hC => ?_) _ kp1))
  rotate_left
  · rcases shp f s t hC with ⟨c', hc', ⟨a, ha, q⟩ | ⟨a, b, ha, hb, hne, q⟩⟩
    · rw [q] at h3
      have h3 : hs_isN a = false := h3
      rw [ha] at h3; cases h3
    · rw [q] at h3
      have h3 : hs_isN a = false := h3
      rw [ha] at h3; cases h3
  have t1 := hs_tkN h1
  have t3 := hs_tkN h3
  refine And.intro v6 (nm_e ?_)
  have kp2 := hs_kpU (j := R + 6) (x := x3 - 100) kp1 (by omega)
  refine pk_eq ts.length 6 (fun l6 => ?_) (fun l6 => ?_)
  · refine H1 _ kp2 ?_ ?_ ?_
    · rw [pk_un (by omega), pk_un (by omega), pk_un (by omega), pk_un (by omega)]
    · rw [pk_un (by omega), pk_un (by omega), pk_un (by omega), pk_un (by omega)]
    · rw [pk_un (by omega), pk_un (by omega), pk_un (by omega), pk_us, pk_us, pk_un (by omega), pk_us, ex1, ex3]
      have s6 := hs_l6 l6
      rw [l6] at hl25 h22
      have hl25 : hs_hd (ts.drop 5) = 25 := hl25
      have h22 : hs_hd (ts.drop 4) = 22 := h22
      rw [hl25, h22, h21, ets] at s6
      refine ⟨hs_hd (ts.drop 1), hs_hd (ts.drop 3), h1, h3, pk_sub (b := 100) (by omega), pk_sub (b := 100) (by omega), Or.inl ⟨?_, rfl⟩⟩
      rw [ets]
      exact (List.cons.inj s6).2
  refine And.intro v7 (nm_e ?_)
  have kp3 := hs_kpU (j := R + 7) (x := x5 - 100) kp2 (by omega)
  -- only eight tokens are left
  have only8 : ∀ f s t, hs_DH f s t r → ∃ c' a b, hs_isN a = true ∧ hs_isN b = true ∧ b ≠ a ∧ ts = [2, c', 21, a, 23, b, 22, 25] := by
    intro f s t hC
    rcases shp f s t hC with ⟨c', hc', ⟨a, ha, q⟩ | ⟨a, b, ha, hb, hne, q⟩⟩
    · rw [q] at l6; exact absurd rfl l6
    · exact ⟨c', a, b, ha, hb, hne, q⟩
  refine pk_eq ts.length 8 (fun l8 => ?_) (fun l8 => H0 (fun f s t hC => ?_) _ kp3)
  rotate_left
  · obtain ⟨c', a, b, _, _, _, q⟩ := only8 f s t hC
    rw [q] at l8; exact l8 rfl
  refine hs_xPeek 4 hPA he (by decide) (fun x4 hx4 => ?_)
  have e4 := hs_rxE (k := 23) hx4 (Or.inr ⟨Or.inr (Or.inl (by decide)), by decide⟩) (by decide)
  refine br_c (fun q4 => ?_) (fun q4 => H0 (fun f s t hC => ?_) _ kp3)
  rotate_left
  · obtain ⟨c', a, b, _, _, _, q⟩ := only8 f s t hC
    exact q4 (e4.mpr (by rw [q]; rfl))
  have h23 := e4.mp q4
  refine hs_xFromN hx5 (fun h5 ex5 => br_f (by decide) ?_) (fun h5 => br_t rfl (H0 (fun f s t hC => ?_) _ kp3))
  rotate_left
  · obtain ⟨c', a, b, _, hb, _, q⟩ := only8 f s t hC
    rw [q] at h5
    have h5 : hs_isN b = false := h5
    rw [hb] at h5; cases h5
  have t5 := hs_tkN h5
  have good : hs_hd (ts.drop 5) ≠ hs_hd (ts.drop 3) → post 1 (x_objectLimit, x_stepLimit, x_depthLimit, x_pendingCount, x_keptTokens, x_keptLines, x_lineCount, x_codeCount, nI c, nI e, x_waitingCount, x_openCount, x_classCount, x_callCount, x_operandCount, x_stepsTaken, x_error, x_raisedCode, x_printCount, x_lastResult, x_lastPlace, pd, upd (upd (upd (upd (upd LT (R + 5) (x1 - 100)) (R + 6) (-1)) (R + 7) (-1)) (R + 6) (x3 - 100)) (R + 7) (x5 - 100), x_code, x_waiting, x_globals, x_entries, x_orders, x_merging, x_letterClass, x_objectClass, x_attributes, x_calls, x_held, x_operands, x_lastPrints) := by
    intro hne
    refine H1 _ kp3 ?_ ?_ ?_
    · rw [pk_un (by omega), pk_un (by omega), pk_un (by omega), pk_un (by omega), pk_un (by omega)]
    · rw [pk_un (by omega), pk_un (by omega), pk_un (by omega), pk_un (by omega), pk_un (by omega)]
    · rw [pk_un (by omega), pk_un (by omega), pk_un (by omega), pk_un (by omega), pk_us, pk_un (by omega), pk_us, pk_us, ex1, ex3, ex5]
      have s8 := hs_l8 l8
      rw [l8] at hl25 h22
      have hl25 : hs_hd (ts.drop 7) = 25 := hl25
      have h22 : hs_hd (ts.drop 6) = 22 := h22
      rw [hl25, h22, h21, h23, ets] at s8
      refine ⟨hs_hd (ts.drop 1), hs_hd (ts.drop 3), h1, h3, pk_sub (b := 100) (by omega), pk_sub (b := 100) (by omega), Or.inr ⟨hs_hd (ts.drop 5), h5, hne, ?_, pk_sub (b := 100) (by omega)⟩⟩
      rw [ets]
      exact (List.cons.inj s8).2
  subst ex3 ex5
  refine br_f (by decide) (pk_eq (hs_hd (ts.drop 3)) (hs_hd (ts.drop 5)) (fun q => H0 (fun f s t hC => ?_) _ kp3) (fun q => good (fun y => q y.symm)))
  obtain ⟨c', a, b, _, _, hne, q'⟩ := only8 f s t hC
  rw [q'] at q
  exact hne (show b = a from q.symm)
end
