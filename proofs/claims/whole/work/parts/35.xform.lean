/-! the form of a line on X's side -/
section
variable {x_objectLimit x_stepLimit x_depthLimit x_pendingCount x_keptTokens x_keptLines x_lineCount x_codeCount x_cursor x_stop x_waitingCount x_openCount x_classCount x_callCount x_operandCount x_stepsTaken x_error x_raisedCode x_printCount x_lastPlace : Int32} {x_lastResult : Int64} {x_pending x_lineTable x_orders x_merging x_letterClass x_objectClass x_calls x_lastPrints : Nat → Int32} {x_code x_waiting x_globals x_entries x_attributes x_held x_operands : Nat → Int64}
variable {y_maxObjects y_maxSteps y_maxDepth y_kept y_end y_tokens y_pending y_lines y_classes y_prints y_place y_steps y_d y_valTop y_opTop y_opens y_pos y_tk y_tv y_stmt y_target y_err y_code y_outcome y_dry y_want y_starting y_ended y_bad y_hosted y_sawSuper : Int32} {y_result : Int64} {y_text y_numbers y_classOf y_alive y_orders y_lengths y_letters y_bases y_ops y_fLine y_fPos y_fStmt y_fTarget y_fMask y_fHome y_fOps y_fVals y_fNew y_out : Nat → Int32} {y_globals y_entries y_attrs y_vals y_locals y_fRecv : Nat → Int64}
def hs_XF (k ex f s t : Int32) (c : Nat) : List Nat → Prop
  | [] => False
  | h :: r =>
    if h = 10 then k = 10 ∧ ex = -1 ∧ r = []
    else if h = 5 ∨ h = 7 then k = nI h ∧ ex = -1 ∧ r = [25]
    else if h = 8 then k = 8 ∧ ex = -1 ∧ ∃ n, r = [n, 25] ∧ hs_isN n = true ∧ f = nI (n - 100)
    else if h = 1 then k = 1 ∧ ex = -1 ∧ hs_CH f s t r
    else if h = 2 then k = 2 ∧ ex = -1 ∧ hs_DH f s t r
    else if h = 4 ∨ h = 6 then k = nI h ∧ ex = nI (c + 1) ∧ ∃ r', r = r' ++ [25]
    else if h = 3 ∨ h = 9 ∨ h = 11 then k = nI h ∧ ex = nI (c + 1)
    else (k = 14 ∧ ex = nI c ∧ 26 ∉ h :: r) ∨ (k = 15 ∧ ex = nI (c + 2) ∧ ∃ n E, h :: r = n :: 26 :: E ∧ hs_isN n = true ∧ f = nI (n - 100)) ∨
      (k = 17 ∧ ex = nI (c + 4) ∧ ∃ q n E, h :: r = q :: 24 :: n :: 26 :: E ∧ hs_isC q = true ∧ hs_isN n = true ∧ f = nI (n - 100) ∧ s = nI (q - 130)) ∨
      (k = 16 ∧ ∃ A n E, h :: r = A ++ 24 :: n :: 26 :: E ∧ 26 ∉ A ∧ A ≠ [] ∧ hs_isN n = true ∧ ¬ (A.length = 1 ∧ hs_isC h = true) ∧ f = nI (n - 100) ∧ ex = nI (c + A.length + 3))
theorem hs_XFo {k ex f s t : Int32} {c h : Nat} {r : List Nat} (hw : ¬ (1 ≤ h ∧ h ≤ 11)) : hs_XF k ex f s t c (h :: r) ↔ ((k = 14 ∧ ex = nI c ∧ 26 ∉ h :: r) ∨ (k = 15 ∧ ex = nI (c + 2) ∧ ∃ n E, h :: r = n :: 26 :: E ∧ hs_isN n = true ∧ f = nI (n - 100)) ∨
      (k = 17 ∧ ex = nI (c + 4) ∧ ∃ q n E, h :: r = q :: 24 :: n :: 26 :: E ∧ hs_isC q = true ∧ hs_isN n = true ∧ f = nI (n - 100) ∧ s = nI (q - 130)) ∨
      (k = 16 ∧ ∃ A n E, h :: r = A ++ 24 :: n :: 26 :: E ∧ 26 ∉ A ∧ A ≠ [] ∧ hs_isN n = true ∧ ¬ (A.length = 1 ∧ hs_isC h = true) ∧ f = nI (n - 100) ∧ ex = nI (c + A.length + 3))) := by
  by_cases h0 : h = 0
  · subst h0; exact Iff.rfl
  show (if h = 10 then _ else if h = 5 ∨ h = 7 then _ else if h = 8 then _ else if h = 1 then _ else if h = 2 then _ else if h = 4 ∨ h = 6 then _ else if h = 3 ∨ h = 9 ∨ h = 11 then _ else _) ↔ _
  rw [if_neg (by omega), if_neg (by omega), if_neg (by omega), if_neg (by omega), if_neg (by omega), if_neg (by omega), if_neg (by omega)]
theorem hs_rxW {x : Int32} {h : Nat} (hx : hs_rx x h) (h0 : h ≠ 0) : (1 ≤ h ∧ h ≤ 11 ∧ x = nI h) ∨ (¬ (1 ≤ h ∧ h ≤ 11) ∧ (x < 1 ∨ (¬ x < 1 ∧ 11 < x))) := by
  rcases hx with ⟨_, e⟩ | ⟨e, hv, h33, h31⟩ | ⟨e, hg, x0⟩
  · exact absurd e h0
  · by_cases q : 1 ≤ h ∧ h ≤ 11
    · exact Or.inl ⟨q.1, q.2, e⟩
    · subst e
      exact Or.inr ⟨q, Or.inr ⟨nI_nlt (b := 1) (by omega) h31, nI_lt (a := 11) (by omega) h31⟩⟩
  · subst e
    refine Or.inr ⟨by omega, ?_⟩
    by_cases q : x < 1
    · exact Or.inl q
    · refine Or.inr ⟨q, ?_⟩
      have a1 : ¬ x ≤ 13 := fun y => hg (Or.inl ⟨Int32.not_lt.mp q, y⟩)
      exact Int32.lt_of_le_of_lt (by decide : (11 : Int32) ≤ 13) (Int32.not_le.mp a1)
/-- the last token is a colon -/
theorem hs_colon {ts : List Nat} (h : 1 ≤ ts.length) : hs_hd (ts.drop (ts.length - 1)) = 25 ↔ ∃ r', ts = r' ++ [25] := by
  obtain ⟨A, x, e⟩ := hs_snoc ts (fun y => by rw [y] at h; simp at h)
  have hd : hs_hd (ts.drop (ts.length - 1)) = x := by
    have := hs_hdLast (E := []) e
    rw [List.append_nil] at this
    exact this
  rw [hd]
  constructor
  · intro y; exact ⟨A, by rw [e, y]⟩
  · rintro ⟨r', e'⟩
    rw [e] at e'
    have := congrArg List.getLast? e'
    simpa using this
theorem hs_xForm {pd LT : Nat → Int32} {c e R : Nat} {ts : List Nat} (hPA : hs_PA pd e c ts) (hne : ts ≠ []) (hz : ∀ x, x ∈ ts → x ≠ 0) (he : e ≤ 400) (hR : R + 14 ≤ 5670) (hT : LT (R + 11) = nI c) (hE : LT (R + 12) = nI e) (hprev : c = 0 ∨ ∃ t, 40 ≤ t ∧ t ≤ 48 ∧ pd (c - 1) = nI t) {post : Int32 → SX → Prop}
    (H1 : ts.length ≤ 40 → ∀ LT', hs_kp R LT' LT → hs_XF (LT' R) (LT' (R + 13)) (LT' (R + 5)) (LT' (R + 6)) (LT' (R + 7)) c ts → post 1 (x_objectLimit, x_stepLimit, x_depthLimit, x_pendingCount, x_keptTokens, x_keptLines, x_lineCount, x_codeCount, nI c, nI e, x_waitingCount, x_openCount, x_classCount, x_callCount, x_operandCount, x_stepsTaken, x_error, x_raisedCode, x_printCount, x_lastResult, x_lastPlace, pd, LT', x_code, x_waiting, x_globals, x_entries, x_orders, x_merging, x_letterClass, x_objectClass, x_attributes, x_calls, x_held, x_operands, x_lastPrints))
    (H0 : ¬ (ts.length ≤ 40 ∧ ∃ k f s t cd, hs_LF k f s t cd ts) → ∀ LT', hs_kp R LT' LT → post 0 (x_objectLimit, x_stepLimit, x_depthLimit, x_pendingCount, x_keptTokens, x_keptLines, x_lineCount, x_codeCount, nI c, nI e, x_waitingCount, x_openCount, x_classCount, x_callCount, x_operandCount, x_stepsTaken, x_error, x_raisedCode, x_printCount, x_lastResult, x_lastPlace, pd, LT', x_code, x_waiting, x_globals, x_entries, x_orders, x_merging, x_letterClass, x_objectClass, x_attributes, x_calls, x_held, x_operands, x_lastPrints)) : wpX_readForm post (x_objectLimit, x_stepLimit, x_depthLimit, x_pendingCount, x_keptTokens, x_keptLines, x_lineCount, x_codeCount, x_cursor, x_stop, x_waitingCount, x_openCount, x_classCount, x_callCount, x_operandCount, x_stepsTaken, x_error, x_raisedCode, x_printCount, x_lastResult, x_lastPlace, pd, LT, x_code, x_waiting, x_globals, x_entries, x_orders, x_merging, x_letterClass, x_objectClass, x_attributes, x_calls, x_held, x_operands, x_lastPrints) (nI R) := by
  have hlen := hs_PAlen hPA
  have hL1 : 1 ≤ ts.length := List.length_pos_iff.mpr hne
  have eL : nI e - nI c = nI ts.length := by rw [pk_sub (by omega)]; exact congrArg nI (by omega)
  have e0 : nI R + 0 = nI R := Int32.add_zero _
  have e5 : nI R + 5 = nI (R + 5) := nI_add R 5
  have e11 : nI R + 11 = nI (R + 11) := nI_add R 11
  have e12 : nI R + 12 = nI (R + 12) := nI_add R 12
  have e13 : nI R + 13 = nI (R + 13) := nI_add R 13
  have v0 : vp_in (nI R) 5670 := vp_in_nI (by omega) (by decide)
  have v5 : vp_in (nI (R + 5)) 5670 := vp_in_nI (by omega) (by decide)
  have v13 : vp_in (nI (R + 13)) 5670 := vp_in_nI (by omega) (by decide)
  have em1 : nI ts.length - 1 = nI (ts.length - 1) := pk_sub (b := 1) hL1
  unfold wpX_readForm
  rw [e11, e12, nI_clamp (show R + 11 < 2 ^ 31 by omega), nI_clamp (show R + 12 < 2 ^ 31 by omega)]
  refine And.intro (vp_in_nI (by omega) (by decide)) (nm_r hT (And.intro (vp_in_nI (by omega) (by decide)) (nm_r hE (nm_r eL (hs_xPeek 0 hPA he (by decide) (fun x hx => ?_))))))
  rw [em1]
  refine hs_xPeek (ts.length - 1) hPA he (by omega) (fun xl hxl => ?_)
  have el := hs_rxE (k := 25) hxl (Or.inr ⟨Or.inr (Or.inl (by decide)), by decide⟩) (by decide)
  have ecol := el.trans (hs_colon hL1)
  have main : ∀ z0 : Int32, (z0 = 0 ∨ z0 = 1) → (z0 = 0 ↔ ¬ ∃ r', ts = r' ++ [25]) → wX_readForm_59 post (nI R) (nI ts.length) x z0 x_objectLimit x_stepLimit x_depthLimit x_pendingCount x_keptTokens x_keptLines x_lineCount x_codeCount (nI c) (nI e) x_waitingCount x_openCount x_classCount x_callCount x_operandCount x_stepsTaken x_error x_raisedCode x_printCount x_lastResult x_lastPlace pd LT x_code x_waiting x_globals x_entries x_orders x_merging x_letterClass x_objectClass x_attributes x_calls x_held x_operands x_lastPrints := by
    intro z0 hz01 hz0
    have kp1 : hs_kp R (upd (upd LT R x) (R + 13) (-1)) LT := hs_kpU (hs_kpU hs_kpR (by omega)) (by omega)
    unfold wX_readForm_59 wX_readForm_159 wX_readForm_176 wX_readForm_194
    rw [e0, e5, e13, nI_clamp (show R < 2 ^ 31 by omega), nI_clamp (show R + 5 < 2 ^ 31 by omega), nI_clamp (show R + 13 < 2 ^ 31 by omega)]
    refine And.intro v0 (nm_e (And.intro v13 (nm_e (pk_le ts.length 40 (fun l40 => ?_) (fun l40 => H0 (fun y => by omega) _ kp1)))))
    cases ts with
    | nil => exact absurd rfl hne
    | cons h r =>
      have hx : hs_rx x h := hx
      have noLF : (∀ k f s t cd, ¬ hs_LF k f s t cd (h :: r)) → ¬ ((h :: r).length ≤ 40 ∧ ∃ k f s t cd, hs_LF k f s t cd (h :: r)) := by
        rintro hno ⟨_, k, f, s, t, cd, hL⟩
        exact hno k f s t cd hL
      have plain : ¬ (1 ≤ h ∧ h ≤ 11) → wpX_readPlainForm (fun r_88 u => match u with | (x_objectLimitq, x_stepLimitq, x_depthLimitq, x_pendingCountq, x_keptTokensq, x_keptLinesq, x_lineCountq, x_codeCountq, x_cursorq, x_stopq, x_waitingCountq, x_openCountq, x_classCountq, x_callCountq, x_operandCountq, x_stepsTakenq, x_errorq, x_raisedCodeq, x_printCountq, x_lastResultq, x_lastPlaceq, x_pendingq, x_lineTableq, x_codeq, x_waitingq, x_globalsq, x_entriesq, x_ordersq, x_mergingq, x_letterClassq, x_objectClassq, x_attributesq, x_callsq, x_heldq, x_operandsq, x_lastPrintsq) => (narrow .boolean (.int r_88) = .int r_88 ∧ (post r_88 (x_objectLimitq, x_stepLimitq, x_depthLimitq, x_pendingCountq, x_keptTokensq, x_keptLinesq, x_lineCountq, x_codeCountq, x_cursorq, x_stopq, x_waitingCountq, x_openCountq, x_classCountq, x_callCountq, x_operandCountq, x_stepsTakenq, x_errorq, x_raisedCodeq, x_printCountq, x_lastResultq, x_lastPlaceq, x_pendingq, x_lineTableq, x_codeq, x_waitingq, x_globalsq, x_entriesq, x_ordersq, x_mergingq, x_letterClassq, x_objectClassq, x_attributesq, x_callsq, x_heldq, x_operandsq, x_lastPrintsq)))) (x_objectLimit, x_stepLimit, x_depthLimit, x_pendingCount, x_keptTokens, x_keptLines, x_lineCount, x_codeCount, nI c, nI e, x_waitingCount, x_openCount, x_classCount, x_callCount, x_operandCount, x_stepsTaken, x_error, x_raisedCode, x_printCount, x_lastResult, x_lastPlace, pd, upd (upd LT R x) (R + 13) (-1), x_code, x_waiting, x_globals, x_entries, x_orders, x_merging, x_letterClass, x_objectClass, x_attributes, x_calls, x_held, x_operands, x_lastPrints) (nI R) := by
        intro hw
        refine hs_xPlain rfl hw hPA he hR hprev ?_ ?_ ?_ ?_ ?_
        · intro h26 LT' k1 k2 k3
          exact ⟨hs_narB (Or.inr rfl), H1 l40 LT' (fun k hk => (k1 k hk).trans (kp1 k hk)) ((hs_XFo hw).mpr (Or.inl ⟨k2, k3, h26⟩))⟩
        · intro n E eE hn LT' k1 k2 k3 k4
          exact ⟨hs_narB (Or.inr rfl), H1 l40 LT' (fun k hk => (k1 k hk).trans (kp1 k hk)) ((hs_XFo hw).mpr (Or.inr (Or.inl ⟨k2, k4, n, E, eE, hn, k3⟩)))⟩
        · intro q n E eE hq hn LT' k1 k2 k3 k4 k5
          exact ⟨hs_narB (Or.inr rfl), H1 l40 LT' (fun k hk => (k1 k hk).trans (kp1 k hk)) ((hs_XFo hw).mpr (Or.inr (Or.inr (Or.inl ⟨k2, k5, q, n, E, eE, hq, hn, k3, k4⟩))))⟩
        · intro A n E eE hA hAn hn hno LT' k1 k2 k3 k4
          exact ⟨hs_narB (Or.inr rfl), H1 l40 LT' (fun k hk => (k1 k hk).trans (kp1 k hk)) ((hs_XFo hw).mpr (Or.inr (Or.inr (Or.inr ⟨k2, A, n, E, eE, hA, hAn, hn, hno, k3, k4⟩))))⟩
        · intro hno LT' k1
          exact ⟨hs_narB (Or.inl rfl), H0 (noLF hno) LT' (fun k hk => (k1 k hk).trans (kp1 k hk))⟩
      rcases hs_rxW hx (hz h (by simp)) with ⟨w1, w2, ex⟩ | ⟨hw, hx1 | ⟨hx1, hx2⟩⟩
      rotate_left
      · exact br_t hx1 (plain hw)
      · exact br_f hx1 (br_t hx2 (plain hw))
      subst ex
      have c0 : upd (upd LT R (nI h)) (R + 13) (-1) R = nI h := by rw [pk_un (by omega), pk_us]
      have c13 : upd (upd LT R (nI h)) (R + 13) (-1) (R + 13) = -1 := pk_us
      have exc : nI c + 1 = nI (c + 1) := nI_1 c
      rw [exc]
      have kp2 : hs_kp R (upd (upd (upd LT R (nI h)) (R + 13) (-1)) (R + 13) (nI (c + 1))) LT := hs_kpU kp1 (by omega)
      have d0 : upd (upd (upd LT R (nI h)) (R + 13) (-1)) (R + 13) (nI (c + 1)) R = nI h := by rw [pk_un (by omega), c0]
      have d13 : upd (upd (upd LT R (nI h)) (R + 13) (-1)) (R + 13) (nI (c + 1)) (R + 13) = nI (c + 1) := pk_us
      have ccons : ∀ r', h :: r = r' ++ [25] → h ≠ 25 → ∃ r2, r = r2 ++ [25] := by
        intro r' er hh
        cases r' with
        | nil => exact absurd (List.cons.inj er).1 hh
        | cons a r2 => exact ⟨r2, (List.cons.inj er).2⟩
      have hh : h = 1 ∨ h = 2 ∨ h = 3 ∨ h = 4 ∨ h = 5 ∨ h = 6 ∨ h = 7 ∨ h = 8 ∨ h = 9 ∨ h = 10 ∨ h = 11 := by omega
      rcases hh with rfl | rfl | rfl | rfl | rfl | rfl | rfl | rfl | rfl | rfl | rfl
      · refine br_f (nI_nlt (b := 1) (by decide) (by decide)) (br_f (nI_nlt (a := 11) (by decide) (by decide)) (br_t rfl (hs_xClassH rfl hPA he hR (fun LT2 k1 k2 k3 hC => ⟨hs_narB (Or.inr rfl), ?_⟩) (fun hC LT2 k1 => ⟨hs_narB (Or.inl rfl), ?_⟩))))
        · exact H1 l40 LT2 (fun k hk => (k1 k hk).trans (kp1 k hk)) ⟨k2.trans c0, k3.trans c13, hC⟩
        · refine H0 (noLF (fun k f s t cd hL => ?_)) LT2 (fun k hk => (k1 k hk).trans (kp1 k hk))
          have hL : k = 1 ∧ cd = [] ∧ hs_CH f s t r := hL
          exact hC f s t hL.2.2
      · refine br_f (nI_nlt (b := 1) (by decide) (by decide)) (br_f (nI_nlt (a := 11) (by decide) (by decide)) (br_f (hs_ne (a := 2) (b := 1) (by decide) (by decide) (by decide)) (br_t rfl (hs_xDefH rfl hPA he hR (fun LT2 k1 k2 k3 hC => ⟨hs_narB (Or.inr rfl), ?_⟩) (fun hC LT2 k1 => ⟨hs_narB (Or.inl rfl), ?_⟩)))))
        · exact H1 l40 LT2 (fun k hk => (k1 k hk).trans (kp1 k hk)) ⟨k2.trans c0, k3.trans c13, hC⟩
        · refine H0 (noLF (fun k f s t cd hL => ?_)) LT2 (fun k hk => (k1 k hk).trans (kp1 k hk))
          have hL : k = 2 ∧ cd = [] ∧ hs_DH f s t r := hL
          exact hC f s t hL.2.2
      · exact br_f (nI_nlt (b := 1) (by decide) (by decide)) (br_f (nI_nlt (a := 11) (by decide) (by decide)) (br_f (hs_ne (a := 3) (b := 1) (by decide) (by decide) (by decide)) (br_f (hs_ne (a := 3) (b := 2) (by decide) (by decide) (by decide)) (br_t rfl (And.intro v13 (nm_e (H1 l40 _ kp2 ⟨d0, d13⟩)))))))
      · refine br_f (nI_nlt (b := 1) (by decide) (by decide)) (br_f (nI_nlt (a := 11) (by decide) (by decide)) (br_f (hs_ne (a := 4) (b := 1) (by decide) (by decide) (by decide)) (br_f (hs_ne (a := 4) (b := 2) (by decide) (by decide) (by decide)) (br_f (hs_ne (a := 4) (b := 3) (by decide) (by decide) (by decide)) (br_t rfl (And.intro v13 (nm_e ⟨hs_narB hz01, ?_⟩)))))))
        rcases hz01 with z | z
        · subst z
          refine H0 (noLF (fun k f s t cd hL => hz0.mp rfl ?_)) _ kp2
          obtain ⟨_, r', er, _⟩ : k = nI 4 ∧ ∃ r', r = r' ++ [25] ∧ hs_S false r' true [] cd [] [] := hL
          exact ⟨4 :: r', by rw [er]; rfl⟩
        · subst z
          have yes : ∃ r', 4 :: r = r' ++ [25] := Classical.byContradiction fun y => absurd (hz0.mpr y) (by decide)
          obtain ⟨r', er⟩ := yes
          exact H1 l40 _ kp2 ⟨d0, d13, ccons r' er (by decide)⟩
      · refine br_f (nI_nlt (b := 1) (by decide) (by decide)) (br_f (nI_nlt (a := 11) (by decide) (by decide)) (br_f (hs_ne (a := 5) (b := 1) (by decide) (by decide) (by decide)) (br_f (hs_ne (a := 5) (b := 2) (by decide) (by decide) (by decide)) (br_f (hs_ne (a := 5) (b := 3) (by decide) (by decide) (by decide)) (br_f (hs_ne (a := 5) (b := 4) (by decide) (by decide) (by decide)) (br_t rfl (pk_eq (5 :: r).length 2 (fun l2 => ?_) (fun l2 => H0 (noLF (fun k f s t cd hL => ?_)) _ kp1))))))))
        · refine br_c (fun z => H0 (noLF (fun k f s t cd hL => hz0.mp z ?_)) _ kp1) (fun z => H1 l40 _ kp1 ⟨c0, c13, ?_⟩)
          · have hL : k = nI 5 ∧ r = [25] ∧ cd = [] := hL
            exact ⟨[5], by rw [hL.2.1]; rfl⟩
          · have yes : ∃ r', 5 :: r = r' ++ [25] := Classical.byContradiction fun y => z (hz0.mpr y)
            obtain ⟨r', er⟩ := yes
            obtain ⟨r2, er2⟩ := ccons r' er (by decide)
            rw [er2] at l2 ⊢
            have : r2 = [] := List.length_eq_zero_iff.mp (by simp only [List.length_cons, List.length_append, List.length_nil] at l2; omega)
            rw [this]; rfl
        · have hL : k = nI 5 ∧ r = [25] ∧ cd = [] := hL
          rw [hL.2.1] at l2; exact l2 rfl
      · refine br_f (nI_nlt (b := 1) (by decide) (by decide)) (br_f (nI_nlt (a := 11) (by decide) (by decide)) (br_f (hs_ne (a := 6) (b := 1) (by decide) (by decide) (by decide)) (br_f (hs_ne (a := 6) (b := 2) (by decide) (by decide) (by decide)) (br_f (hs_ne (a := 6) (b := 3) (by decide) (by decide) (by decide)) (br_f (hs_ne (a := 6) (b := 4) (by decide) (by decide) (by decide)) (br_f (hs_ne (a := 6) (b := 5) (by decide) (by decide) (by decide)) (br_t rfl (And.intro v13 (nm_e ⟨hs_narB hz01, ?_⟩)))))))))
        rcases hz01 with z | z
        · subst z
          refine H0 (noLF (fun k f s t cd hL => hz0.mp rfl ?_)) _ kp2
          obtain ⟨_, r', er, _⟩ : k = nI 6 ∧ ∃ r', r = r' ++ [25] ∧ hs_S false r' true [] cd [] [] := hL
          exact ⟨6 :: r', by rw [er]; rfl⟩
        · subst z
          have yes : ∃ r', 6 :: r = r' ++ [25] := Classical.byContradiction fun y => absurd (hz0.mpr y) (by decide)
          obtain ⟨r', er⟩ := yes
          exact H1 l40 _ kp2 ⟨d0, d13, ccons r' er (by decide)⟩
      · refine br_f (nI_nlt (b := 1) (by decide) (by decide)) (br_f (nI_nlt (a := 11) (by decide) (by decide)) (br_f (hs_ne (a := 7) (b := 1) (by decide) (by decide) (by decide)) (br_f (hs_ne (a := 7) (b := 2) (by decide) (by decide) (by decide)) (br_f (hs_ne (a := 7) (b := 3) (by decide) (by decide) (by decide)) (br_f (hs_ne (a := 7) (b := 4) (by decide) (by decide) (by decide)) (br_f (hs_ne (a := 7) (b := 5) (by decide) (by decide) (by decide)) (br_f (hs_ne (a := 7) (b := 6) (by decide) (by decide) (by decide)) (br_t rfl (pk_eq (7 :: r).length 2 (fun l2 => ?_) (fun l2 => H0 (noLF (fun k f s t cd hL => ?_)) _ kp1))))))))))
        · refine br_c (fun z => H0 (noLF (fun k f s t cd hL => hz0.mp z ?_)) _ kp1) (fun z => H1 l40 _ kp1 ⟨c0, c13, ?_⟩)
          · have hL : k = nI 7 ∧ r = [25] ∧ cd = [] := hL
            exact ⟨[7], by rw [hL.2.1]; rfl⟩
          · have yes : ∃ r', 7 :: r = r' ++ [25] := Classical.byContradiction fun y => z (hz0.mpr y)
            obtain ⟨r', er⟩ := yes
            obtain ⟨r2, er2⟩ := ccons r' er (by decide)
            rw [er2] at l2 ⊢
            have : r2 = [] := List.length_eq_zero_iff.mp (by simp only [List.length_cons, List.length_append, List.length_nil] at l2; omega)
            rw [this]; rfl
        · have hL : k = nI 7 ∧ r = [25] ∧ cd = [] := hL
          rw [hL.2.1] at l2; exact l2 rfl
      · refine br_f (nI_nlt (b := 1) (by decide) (by decide)) (br_f (nI_nlt (a := 11) (by decide) (by decide)) (br_f (hs_ne (a := 8) (b := 1) (by decide) (by decide) (by decide)) (br_f (hs_ne (a := 8) (b := 2) (by decide) (by decide) (by decide)) (br_f (hs_ne (a := 8) (b := 3) (by decide) (by decide) (by decide)) (br_f (hs_ne (a := 8) (b := 4) (by decide) (by decide) (by decide)) (br_f (hs_ne (a := 8) (b := 5) (by decide) (by decide) (by decide)) (br_f (hs_ne (a := 8) (b := 6) (by decide) (by decide) (by decide)) (br_f (hs_ne (a := 8) (b := 7) (by decide) (by decide) (by decide)) (br_t rfl (hs_xPeek 1 hPA he (by decide) (fun xn hxn => And.intro v5 (nm_e ?_))))))))))))
        have kp3 := hs_kpU (j := R + 5) (x := xn - 100) kp1 (by omega)
        have shp : ∀ k f s t cd, hs_LF k f s t cd (8 :: r) → ∃ n, r = [n, 25] ∧ hs_isN n = true := by
          intro k f s t cd hL
          obtain ⟨_, _, n, er, hn, _⟩ : k = 8 ∧ cd = [] ∧ ∃ n, r = [n, 25] ∧ hs_isN n = true ∧ f = nI (n - 100) := hL
          exact ⟨n, er, hn⟩
        refine pk_eq (8 :: r).length 3 (fun l3 => ?_) (fun l3 => H0 (noLF (fun k f s t cd hL => ?_)) _ kp3)
        · refine br_c (fun z => H0 (noLF (fun k f s t cd hL => hz0.mp z ?_)) _ kp3) (fun z => ?_)
          · obtain ⟨n, er, _⟩ := shp k f s t cd hL
            exact ⟨[8, n], by rw [er]; rfl⟩
          · have hxn : hs_rx xn (hs_hd r) := hxn
            refine hs_xFromN hxn (fun hn exn => br_f (by decide) ?_) (fun hn => br_t rfl (H0 (noLF (fun k f s t cd hL => ?_)) _ kp3))
            · have yes : ∃ r', 8 :: r = r' ++ [25] := Classical.byContradiction fun y => z (hz0.mpr y)
              obtain ⟨r', er⟩ := yes
              obtain ⟨r2, er2⟩ := ccons r' er (by decide)
              have tn := hs_tkN hn
              refine H1 l40 _ kp3 ⟨?_, ?_, hs_hd r, ?_, hn, ?_⟩
              · rw [pk_un (by omega), c0]; rfl
              · rw [pk_un (by omega), c13]
              · rw [er2] at l3 ⊢
                have l1 : r2.length = 1 := by simp only [List.length_cons, List.length_append, List.length_nil] at l3; omega
                match r2, l1 with
                | [a], _ => rfl
              · rw [pk_us, exn]; exact pk_sub (b := 100) (by omega)
            · obtain ⟨n, er, hn'⟩ := shp k f s t cd hL
              rw [er] at hn
              have hn : hs_isN n = false := hn
              rw [hn'] at hn; cases hn
        · obtain ⟨n, er, _⟩ := shp k f s t cd hL
          rw [er] at l3; exact l3 rfl
      · exact br_f (nI_nlt (b := 1) (by decide) (by decide)) (br_f (nI_nlt (a := 11) (by decide) (by decide)) (br_f (hs_ne (a := 9) (b := 1) (by decide) (by decide) (by decide)) (br_f (hs_ne (a := 9) (b := 2) (by decide) (by decide) (by decide)) (br_f (hs_ne (a := 9) (b := 3) (by decide) (by decide) (by decide)) (br_f (hs_ne (a := 9) (b := 4) (by decide) (by decide) (by decide)) (br_f (hs_ne (a := 9) (b := 5) (by decide) (by decide) (by decide)) (br_f (hs_ne (a := 9) (b := 6) (by decide) (by decide) (by decide)) (br_f (hs_ne (a := 9) (b := 7) (by decide) (by decide) (by decide)) (br_f (hs_ne (a := 9) (b := 8) (by decide) (by decide) (by decide)) (br_t rfl (And.intro v13 (nm_e (H1 l40 _ kp2 ⟨d0, d13⟩)))))))))))))
      · refine br_f (nI_nlt (b := 1) (by decide) (by decide)) (br_f (nI_nlt (a := 11) (by decide) (by decide)) (br_f (hs_ne (a := 10) (b := 1) (by decide) (by decide) (by decide)) (br_f (hs_ne (a := 10) (b := 2) (by decide) (by decide) (by decide)) (br_f (hs_ne (a := 10) (b := 3) (by decide) (by decide) (by decide)) (br_f (hs_ne (a := 10) (b := 4) (by decide) (by decide) (by decide)) (br_f (hs_ne (a := 10) (b := 5) (by decide) (by decide) (by decide)) (br_f (hs_ne (a := 10) (b := 6) (by decide) (by decide) (by decide)) (br_f (hs_ne (a := 10) (b := 7) (by decide) (by decide) (by decide)) (br_f (hs_ne (a := 10) (b := 8) (by decide) (by decide) (by decide)) (br_f (hs_ne (a := 10) (b := 9) (by decide) (by decide) (by decide)) (br_t rfl (pk_eq (10 :: r).length 1 (fun l1 => H1 l40 _ kp1 ⟨c0, c13, ?_⟩) (fun l1 => H0 (noLF (fun k f s t cd hL => ?_)) _ kp1)))))))))))))
        · exact List.length_eq_zero_iff.mp (by simp at l1; exact congrArg List.length l1)
        · have hL : k = 10 ∧ r = [] ∧ cd = [] := hL
          rw [hL.2.1] at l1; exact l1 rfl
      · exact br_f (nI_nlt (b := 1) (by decide) (by decide)) (br_f (nI_nlt (a := 11) (by decide) (by decide)) (br_f (hs_ne (a := 11) (b := 1) (by decide) (by decide) (by decide)) (br_f (hs_ne (a := 11) (b := 2) (by decide) (by decide) (by decide)) (br_f (hs_ne (a := 11) (b := 3) (by decide) (by decide) (by decide)) (br_f (hs_ne (a := 11) (b := 4) (by decide) (by decide) (by decide)) (br_f (hs_ne (a := 11) (b := 5) (by decide) (by decide) (by decide)) (br_f (hs_ne (a := 11) (b := 6) (by decide) (by decide) (by decide)) (br_f (hs_ne (a := 11) (b := 7) (by decide) (by decide) (by decide)) (br_f (hs_ne (a := 11) (b := 8) (by decide) (by decide) (by decide)) (br_f (hs_ne (a := 11) (b := 9) (by decide) (by decide) (by decide)) (br_f (hs_ne (a := 11) (b := 10) (by decide) (by decide) (by decide)) (br_t rfl (And.intro v13 (nm_e (H1 l40 _ kp2 ⟨d0, d13⟩)))))))))))))))
  refine br_c (fun q => main 1 (Or.inr rfl) ⟨fun y => absurd y (by decide), fun y => absurd (ecol.mp q) y⟩) (fun q => main 0 (Or.inl rfl) ⟨fun _ y => q (ecol.mpr y), fun _ => rfl⟩)
end
