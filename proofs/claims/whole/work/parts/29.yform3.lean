/-! a line on Y's side: the lines that begin with no word; the whole check of a line -/
section
variable {x_objectLimit x_stepLimit x_depthLimit x_pendingCount x_keptTokens x_keptLines x_lineCount x_codeCount x_cursor x_stop x_waitingCount x_openCount x_classCount x_callCount x_operandCount x_stepsTaken x_error x_raisedCode x_printCount x_lastPlace : Int32} {x_lastResult : Int64} {x_pending x_lineTable x_orders x_merging x_letterClass x_objectClass x_calls x_lastPrints : Nat → Int32} {x_code x_waiting x_globals x_entries x_attributes x_held x_operands : Nat → Int64}
variable {y_maxObjects y_maxSteps y_maxDepth y_kept y_end y_tokens y_pending y_lines y_classes y_prints y_place y_steps y_d y_valTop y_opTop y_opens y_pos y_tk y_tv y_stmt y_target y_err y_code y_outcome y_dry y_want y_starting y_ended y_bad y_hosted y_sawSuper : Int32} {y_result : Int64} {y_text y_numbers y_classOf y_alive y_orders y_lengths y_letters y_bases y_ops y_fLine y_fPos y_fStmt y_fTarget y_fMask y_fHome y_fOps y_fVals y_fNew y_out : Nat → Int32} {y_globals y_entries y_attrs y_vals y_locals y_fRecv : Nat → Int64}
theorem hs_LFo {k f s t : Int32} {cd : List (Nat × Nat)} {h : Nat} {r : List Nat} (hw : ¬ (1 ≤ h ∧ h ≤ 11)) : hs_LF k f s t cd (h :: r) ↔ (if hs_isN h = true ∧ hs_hd r = 26 then k = 15 ∧ f = nI (h - 100) ∧ hs_S false r.tail true [] cd [] []
    else if hs_isC h = true ∧ hs_hd r = 24 ∧ hs_isN (hs_hd r.tail) = true ∧ hs_hd r.tail.tail = 26 then k = 17 ∧ f = nI (hs_hd r.tail - 100) ∧ s = nI (h - 130) ∧ hs_S false r.tail.tail.tail true [] cd [] []
    else (k = 14 ∧ hs_S true (h :: r) true [] cd [] []) ∨ (k = 16 ∧ ∃ n, hs_isN n = true ∧ f = nI (n - 100) ∧ hs_S true (h :: r) true [] cd [] [5 + 64 * (n - 100)])) := by
  by_cases h0 : h = 0
  · subst h0; exact Iff.rfl
  show (if h = 10 then _ else if h = 5 ∨ h = 7 then _ else if h = 8 then _ else if h = 1 then _ else if h = 2 then _ else if h = 4 ∨ h = 6 then _ else if h = 3 ∨ h = 9 ∨ h = 11 then _ else _) ↔ _
  rw [if_neg (by omega), if_neg (by omega), if_neg (by omega), if_neg (by omega), if_neg (by omega), if_neg (by omega), if_neg (by omega)]
theorem hs_plainI {h : Nat} {r : List Nat} : (hs_isC h = true ∧ ∃ n r1, r = 24 :: n :: 26 :: r1 ∧ hs_isN n = true) ↔ (hs_isC h = true ∧ hs_hd r = 24 ∧ hs_isN (hs_hd r.tail) = true ∧ hs_hd r.tail.tail = 26) := by
  constructor
  · rintro ⟨hc, n, r1, rfl, hn⟩
    exact ⟨hc, rfl, hn, rfl⟩
  · rintro ⟨hc, h24, hn, h26⟩
    refine ⟨hc, ?_⟩
    cases r with
    | nil => cases h24
    | cons a r1 =>
      have h24 : a = 24 := h24
      subst h24
      cases r1 with
      | nil => exact absurd hn (by decide)
      | cons n r2 =>
        cases r2 with
        | nil => cases h26
        | cons b r3 =>
          have h26 : b = 26 := h26
          subst h26
          exact ⟨n, r3, rfl, hn⟩
theorem hs_m13 {a : Nat} {l : List Nat} (h : a ≠ 13) : 13 ∈ a :: l ↔ 13 ∈ l := by
  constructor
  · intro y
    rcases List.mem_cons.mp y with q | q
    · exact absurd q.symm h
    · exact q
  · exact List.mem_cons_of_mem _
theorem hs_isNC2 {t : Nat} (h : hs_isN t = true) : hs_isC t = false := by
  have := hs_tkN h
  unfold hs_isC
  exact decide_eq_false (by omega)
theorem hs_yFmO {tx fo : Nat → Int32} {p h : Nat} {r ts : List Nat} (ets : ts = h :: r) (hw : ¬ (1 ≤ h ∧ h ≤ 11)) (hfo : fo 0 = nI 0) (hTA : hs_TA tx p ts) (hv : ∀ x, x ∈ ts → hs_vt x) (hl : ts.length ≤ 40) {post : Int32 → SY → Prop}
    (H1 : ∀ (k f s t : Int32) (cd : List (Nat × Nat)), hs_LF k f s t cd ts → ∀ (q1 q2 q3 q4 sm q6 q7 q8 ss : Int32) (q9 : Nat → Int64) (q10 : Nat → Int32), (13 ∈ ts ↔ ss = 1) → (ss = 0 ∨ ss = 1) → (sm = 51 ↔ k = 15) → post 1 (y_maxObjects, y_maxSteps, y_maxDepth, y_kept, y_end, y_tokens, y_pending, y_lines, y_classes, y_prints, y_place, y_steps, 0, 0, 0, q1, q2, q3, q4, sm, q6, y_err, y_code, y_outcome, y_result, 0, q7, y_starting, y_ended, q8, y_hosted, ss, tx, y_numbers, y_globals, y_entries, y_attrs, y_classOf, y_alive, y_orders, y_lengths, y_letters, y_bases, q9, q10, y_locals, y_fRecv, y_fLine, y_fPos, y_fStmt, y_fTarget, y_fMask, y_fHome, fo, y_fVals, y_fNew, y_out))
    (H0 : (∀ (k f s t : Int32) (cd : List (Nat × Nat)), ¬ hs_LF k f s t cd ts) → ∀ (q1 q2 q3 q4 sm q6 q7 q8 ss : Int32) (q9 : Nat → Int64) (q10 : Nat → Int32), post 0 (y_maxObjects, y_maxSteps, y_maxDepth, y_kept, y_end, y_tokens, y_pending, y_lines, y_classes, y_prints, y_place, y_steps, 0, 0, 0, q1, q2, q3, q4, sm, q6, y_err, y_code, y_outcome, y_result, 0, q7, y_starting, y_ended, q8, y_hosted, ss, tx, y_numbers, y_globals, y_entries, y_attrs, y_classOf, y_alive, y_orders, y_lengths, y_letters, y_bases, q9, q10, y_locals, y_fRecv, y_fLine, y_fPos, y_fStmt, y_fTarget, y_fMask, y_fHome, fo, y_fVals, y_fNew, y_out)) : wpY_formRight post (y_maxObjects, y_maxSteps, y_maxDepth, y_kept, y_end, y_tokens, y_pending, y_lines, y_classes, y_prints, y_place, y_steps, 0, 0, 0, y_opens, y_pos, y_tk, y_tv, y_stmt, y_target, y_err, y_code, y_outcome, y_result, 0, y_want, y_starting, y_ended, y_bad, y_hosted, 0, tx, y_numbers, y_globals, y_entries, y_attrs, y_classOf, y_alive, y_orders, y_lengths, y_letters, y_bases, y_vals, y_ops, y_locals, y_fRecv, y_fLine, y_fPos, y_fStmt, y_fTarget, y_fMask, y_fHome, fo, y_fVals, y_fNew, y_out) (nI p) := by
  subst ets
  have hT1 := (hs_TAc hTA).2.2.2.2.2
  simp only [List.length_cons] at hl
  unfold wpY_formRight
  by_cases c1 : hs_isN h = true ∧ hs_hd r = 26
  · have E : ∀ k f s t cd, hs_LF k f s t cd (h :: r) ↔ (k = 15 ∧ f = nI (h - 100) ∧ hs_S false r.tail true [] cd [] []) := fun k f s t cd => by rw [hs_LFo hw, if_pos c1]
    cases r with
    | nil => exact absurd c1.2 (by decide)
    | cons a r1 =>
      have ha : a = 26 := c1.2
      subst ha
      have tn := hs_tkN c1.1
      have hT2 := (hs_TAc hT1).2.2.2.2.2
      refine hs_yHeadN hTA c1.1 (br_f (nI_nlt (b := 1) (by decide) (by decide)) (br_t (nI_lt (a := 10) (by decide) (by decide)) (hs_yF158 (z := false) hfo ⟨fun y => absurd y (by decide), fun y => absurd y (hs_ne (a := 51) (b := 50) (by decide) (by decide) (by decide))⟩ hT2 (fun x hx => hv x (by simp [hx])) (by simp only [List.length_cons] at hl; omega) (fun cd fs hS q1 q2 q3 q4 q7 q8 ss q9 q10 hm hs => ?_) (fun hno q1 q2 q3 q4 q7 q8 ss q9 q10 => ?_))))
      · have hfs : fs = [] := by
          rcases (hs_gstS hS).2 with q | ⟨q, _⟩
          · exact q
          · cases q
        subst hfs
        exact H1 15 (nI (h - 100)) 0 0 cd ((E _ _ _ _ _).mpr ⟨rfl, rfl, hS⟩) _ _ _ _ _ _ _ _ _ _ _ (((hs_m13 (by omega)).trans (hs_m13 (by decide))).trans hm) hs ⟨fun _ => rfl, fun _ => rfl⟩
      · exact H0 (fun k f s t cd hL => hno cd [] ((E _ _ _ _ _).mp hL).2.2) _ _ _ _ _ _ _ _ _ _ _
  by_cases c2 : hs_isC h = true ∧ hs_hd r = 24 ∧ hs_isN (hs_hd r.tail) = true ∧ hs_hd r.tail.tail = 26
  · have E : ∀ k f s t cd, hs_LF k f s t cd (h :: r) ↔ (k = 17 ∧ f = nI (hs_hd r.tail - 100) ∧ s = nI (h - 130) ∧ hs_S false r.tail.tail.tail true [] cd [] []) := fun k f s t cd => by rw [hs_LFo hw, if_neg c1, if_pos c2]
    obtain ⟨hc, n, r1, er, hn⟩ := hs_plainI.mpr c2
    subst er
    have tc := hs_tkC hc
    have tn := hs_tkN hn
    have hT4 := (hs_TAc (hs_TAc (hs_TAc hT1).2.2.2.2.2).2.2.2.2.2).2.2.2.2.2
    refine hs_yHeadC hTA hc hn (br_f (nI_nlt (b := 1) (by decide) (by decide)) (br_t (nI_lt (a := 10) (by decide) (by decide)) (hs_yF158 (z := false) hfo ⟨fun y => absurd y (by decide), fun y => absurd y (hs_ne (a := 52) (b := 50) (by decide) (by decide) (by decide))⟩ hT4 (fun x hx => hv x (by simp [hx])) (by simp only [List.length_cons] at hl; omega) (fun cd fs hS q1 q2 q3 q4 q7 q8 ss q9 q10 hm hs => ?_) (fun hno q1 q2 q3 q4 q7 q8 ss q9 q10 => ?_))))
    · have hfs : fs = [] := by
        rcases (hs_gstS hS).2 with q | ⟨q, _⟩
        · exact q
        · cases q
      subst hfs
      exact H1 17 (nI (n - 100)) (nI (h - 130)) 0 cd ((E _ _ _ _ _).mpr ⟨rfl, rfl, rfl, hS⟩) _ _ _ _ _ _ _ _ _ _ _ (((hs_m13 (by omega)).trans ((hs_m13 (by decide)).trans ((hs_m13 (by omega)).trans (hs_m13 (by decide))))).trans hm) hs ⟨fun y => absurd y (hs_ne (a := 52) (b := 51) (by decide) (by decide) (by decide)), fun y => absurd y (by decide)⟩
    · exact H0 (fun k f s t cd hL => hno cd [] ((E _ _ _ _ _).mp hL).2.2.2) _ _ _ _ _ _ _ _ _ _ _
  · have E : ∀ k f s t cd, hs_LF k f s t cd (h :: r) ↔ ((k = 14 ∧ hs_S true (h :: r) true [] cd [] []) ∨ (k = 16 ∧ ∃ n, hs_isN n = true ∧ f = nI (n - 100) ∧ hs_S true (h :: r) true [] cd [] [5 + 64 * (n - 100)])) := fun k f s t cd => by rw [hs_LFo hw, if_neg c1, if_neg c2]
    refine hs_yHeadP hTA hv ⟨hw, c1, fun y => c2 (hs_plainI.mp y)⟩ (fun k0 tv0 tg => br_f (nI_nlt (b := 1) (by decide) (by decide)) (br_t (nI_lt (a := 10) (by decide) (by decide)) (hs_yF158 (z := true) hfo ⟨fun _ => rfl, fun _ => rfl⟩ hTA hv (by simp only [List.length_cons]; omega) (fun cd fs hS q1 q2 q3 q4 q7 q8 ss q9 q10 hm hs => ?_) (fun hno q1 q2 q3 q4 q7 q8 ss q9 q10 => ?_))))
    · rcases (hs_gstS hS).2 with q | ⟨_, m, hm', q⟩
      · subst q
        exact H1 14 0 0 0 cd ((E _ _ _ _ _).mpr (Or.inl ⟨rfl, hS⟩)) _ _ _ _ _ _ _ _ _ _ _ hm hs ⟨fun y => absurd y (hs_ne (a := 50) (b := 51) (by decide) (by decide) (by decide)), fun y => absurd y (by decide)⟩
      · subst q
        exact H1 16 (nI (m - 100)) 0 0 cd ((E _ _ _ _ _).mpr (Or.inr ⟨rfl, m, hm', rfl, hS⟩)) _ _ _ _ _ _ _ _ _ _ _ hm hs ⟨fun y => absurd y (hs_ne (a := 50) (b := 51) (by decide) (by decide) (by decide)), fun y => absurd y (by decide)⟩
    · refine H0 (fun k f s t cd hL => ?_) _ _ _ _ _ _ _ _ _ _ _
      rcases (E _ _ _ _ _).mp hL with ⟨_, hS⟩ | ⟨_, n, _, _, hS⟩
      · exact hno _ _ hS
      · exact hno _ _ hS
theorem hs_yForm {tx fo : Nat → Int32} {p : Nat} {ts : List Nat} (hfo : fo 0 = nI 0) (hTA : hs_TA tx p ts) (hne : ts ≠ []) (hv : ∀ x, x ∈ ts → hs_vt x) (hl : ts.length ≤ 40) {post : Int32 → SY → Prop}
    (H1 : ∀ (k f s t : Int32) (cd : List (Nat × Nat)), hs_LF k f s t cd ts → ∀ (q1 q2 q3 q4 sm q6 q7 q8 ss : Int32) (q9 : Nat → Int64) (q10 : Nat → Int32), (13 ∈ ts ↔ ss = 1) → (ss = 0 ∨ ss = 1) → (sm = 51 ↔ k = 15) → post 1 (y_maxObjects, y_maxSteps, y_maxDepth, y_kept, y_end, y_tokens, y_pending, y_lines, y_classes, y_prints, y_place, y_steps, 0, 0, 0, q1, q2, q3, q4, sm, q6, y_err, y_code, y_outcome, y_result, 0, q7, y_starting, y_ended, q8, y_hosted, ss, tx, y_numbers, y_globals, y_entries, y_attrs, y_classOf, y_alive, y_orders, y_lengths, y_letters, y_bases, q9, q10, y_locals, y_fRecv, y_fLine, y_fPos, y_fStmt, y_fTarget, y_fMask, y_fHome, fo, y_fVals, y_fNew, y_out))
    (H0 : (∀ (k f s t : Int32) (cd : List (Nat × Nat)), ¬ hs_LF k f s t cd ts) → ∀ (q1 q2 q3 q4 sm q6 q7 q8 ss : Int32) (q9 : Nat → Int64) (q10 : Nat → Int32), post 0 (y_maxObjects, y_maxSteps, y_maxDepth, y_kept, y_end, y_tokens, y_pending, y_lines, y_classes, y_prints, y_place, y_steps, 0, 0, 0, q1, q2, q3, q4, sm, q6, y_err, y_code, y_outcome, y_result, 0, q7, y_starting, y_ended, q8, y_hosted, ss, tx, y_numbers, y_globals, y_entries, y_attrs, y_classOf, y_alive, y_orders, y_lengths, y_letters, y_bases, q9, q10, y_locals, y_fRecv, y_fLine, y_fPos, y_fStmt, y_fTarget, y_fMask, y_fHome, fo, y_fVals, y_fNew, y_out)) : wpY_formRight post (y_maxObjects, y_maxSteps, y_maxDepth, y_kept, y_end, y_tokens, y_pending, y_lines, y_classes, y_prints, y_place, y_steps, 0, 0, 0, y_opens, y_pos, y_tk, y_tv, y_stmt, y_target, y_err, y_code, y_outcome, y_result, 0, y_want, y_starting, y_ended, y_bad, y_hosted, 0, tx, y_numbers, y_globals, y_entries, y_attrs, y_classOf, y_alive, y_orders, y_lengths, y_letters, y_bases, y_vals, y_ops, y_locals, y_fRecv, y_fLine, y_fPos, y_fStmt, y_fTarget, y_fMask, y_fHome, fo, y_fVals, y_fNew, y_out) (nI p) := by
  cases ts with
  | nil => exact absurd rfl hne
  | cons h r =>
    by_cases hw : 1 ≤ h ∧ h ≤ 11
    · have : h = 1 ∨ h = 2 ∨ h = 3 ∨ h = 4 ∨ h = 5 ∨ h = 6 ∨ h = 7 ∨ h = 8 ∨ h = 9 ∨ h = 10 ∨ h = 11 := by omega
      rcases this with rfl | rfl | rfl | rfl | rfl | rfl | rfl | rfl | rfl | rfl | rfl
      · exact hs_yFm1 rfl hfo hTA hv hl H1 H0
      · exact hs_yFm2 rfl hfo hTA hv hl H1 H0
      · exact hs_yFm3 rfl hfo hTA hv hl H1 H0
      · exact hs_yFm4 rfl hfo hTA hv hl H1 H0
      · exact hs_yFm5 rfl hfo hTA hv hl H1 H0
      · exact hs_yFm6 rfl hfo hTA hv hl H1 H0
      · exact hs_yFm7 rfl hfo hTA hv hl H1 H0
      · exact hs_yFm8 rfl hfo hTA hv hl H1 H0
      · exact hs_yFm9 rfl hfo hTA hv hl H1 H0
      · exact hs_yFm10 rfl hfo hTA hv hl H1 H0
      · exact hs_yFm11 rfl hfo hTA hv hl H1 H0
    · exact hs_yFmO rfl hw hfo hTA hv hl H1 H0
end
