/-! the own names of a def line, on the reference's side; what a def line holds -/
section
variable {x_objectLimit x_stepLimit x_depthLimit x_pendingCount x_keptTokens x_keptLines x_lineCount x_codeCount x_cursor x_stop x_waitingCount x_openCount x_classCount x_callCount x_operandCount x_stepsTaken x_error x_raisedCode x_printCount x_lastPlace : Int32} {x_lastResult : Int64} {x_pending x_lineTable x_orders x_merging x_letterClass x_objectClass x_calls x_lastPrints : Nat → Int32} {x_code x_waiting x_globals x_entries x_attributes x_held x_operands : Nat → Int64}
variable {y_maxObjects y_maxSteps y_maxDepth y_kept y_end y_tokens y_pending y_lines y_classes y_prints y_place y_steps y_d y_valTop y_opTop y_opens y_pos y_tk y_tv y_stmt y_target y_err y_code y_outcome y_dry y_want y_starting y_ended y_bad y_hosted y_sawSuper : Int32} {y_result : Int64} {y_text y_numbers y_classOf y_alive y_orders y_lengths y_letters y_bases y_ops y_fLine y_fPos y_fStmt y_fTarget y_fMask y_fHome y_fOps y_fVals y_fNew y_out : Nat → Int32} {y_globals y_entries y_attrs y_vals y_locals y_fRecv : Nat → Int64}
theorem hs_atNe {P : Nat → Nat} {tx : Nat → Int32} {cs ce a b j e : Nat} {ind : Nat → Nat} (C : hs_Ch tx cs ce a b P ind) (ha : a ≤ j) (hj : j < e) (he : e ≤ b) : ¬ hs_at P b j = hs_at P b e := by
  obtain ⟨⟨hc, _⟩, _, _, hP, hm, _⟩ := C
  have p1 := (hP j ha (by omega)).2.1
  unfold hs_at
  rw [if_pos (show j < b by omega)]
  split
  · rename_i eb
    have := hm j e ha hj eb
    have p2 := (hP e (by omega) eb).2.1
    exact hs_ne (by omega) (by omega) (by omega)
  · exact hs_neM1 (by omega)
theorem hs_yLocL {tx : Nat → Int32} {cs ce a b e : Nat} {P ind h : Nat → Nat} {tk : Nat → List Nat} (C : hs_Ch tx cs ce a b P ind) (K : hs_TK tx a b P h tk) (hL : ∀ j, a ≤ j → j < b → ∃ k f s t cd, hs_LF k f s t cd (tk j)) (he : e ≤ b) {post : Int32 → Prop} :
    ∀ (n j : Nat) (m : Int32), a ≤ j → j + n = e → post (hs_lms tk n j m) → wY_localNames_58 post (hs_at P b e) y_maxObjects y_maxSteps y_maxDepth y_kept y_end y_tokens y_pending y_lines y_classes y_prints y_place y_steps y_d y_valTop y_opTop y_opens y_pos y_tk y_tv y_stmt y_target y_err y_code y_outcome y_result y_dry y_want y_starting y_ended y_bad y_hosted y_sawSuper tx y_numbers y_globals y_entries y_attrs y_classOf y_alive y_orders y_lengths y_letters y_bases y_vals y_ops y_locals y_fRecv y_fLine y_fPos y_fStmt y_fTarget y_fMask y_fHome y_fOps y_fVals y_fNew y_out (n + 1) m (hs_at P b j) := by
  intro n
  induction n with
  | zero =>
    intro j m ja hj H
    exact br_t (by rw [show j = e by omega]) H
  | succ n ih =>
    intro j m ja hj H
    have jb : j < b := by omega
    refine br_f (hs_atNe C ja (by omega) he) ?_
    have ea : hs_at P b j = nI (P j) := if_pos jb
    obtain ⟨hT, hne, hv, hh⟩ := K j ja jb
    have nx : ∀ m', post (hs_lms tk n (j + 1) m') → wY_localNames_146 post (wY_localNames_58 post (hs_at P b e) y_maxObjects y_maxSteps y_maxDepth y_kept y_end y_tokens y_pending y_lines y_classes y_prints y_place y_steps y_d y_valTop y_opTop y_opens y_pos y_tk y_tv y_stmt y_target y_err y_code y_outcome y_result y_dry y_want y_starting y_ended y_bad y_hosted y_sawSuper tx y_numbers y_globals y_entries y_attrs y_classOf y_alive y_orders y_lengths y_letters y_bases y_vals y_ops y_locals y_fRecv y_fLine y_fPos y_fStmt y_fTarget y_fMask y_fHome y_fOps y_fVals y_fNew y_out (n + 1)) m' (hs_at P b e) (nI (P j)) y_maxObjects y_maxSteps y_maxDepth y_kept y_end y_tokens y_pending y_lines y_classes y_prints y_place y_steps y_d y_valTop y_opTop y_opens y_pos y_tk y_tv y_stmt y_target y_err y_code y_outcome y_result y_dry y_want y_starting y_ended y_bad y_hosted y_sawSuper tx y_numbers y_globals y_entries y_attrs y_classOf y_alive y_orders y_lengths y_letters y_bases y_vals y_ops y_locals y_fRecv y_fLine y_fPos y_fStmt y_fTarget y_fMask y_fHome y_fOps y_fVals y_fNew y_out := by
      intro m' H'
      unfold wY_localNames_146
      exact hs_yFollow C ja jb (hs_nxFo jb) (ih (j + 1) m' (by omega) (by omega) H')
    have H : post (hs_lms tk n (j + 1) (hs_lm1 m (hs_lb (tk j)))) := H
    have hLj := hL j ja jb
    rw [ea]
    cases etk : tk j with
    | nil => exact absurd etk hne
    | cons t r =>
      rw [etk] at hT H hLj
      obtain ⟨c1, c2, c3, c4, c5, c6⟩ := hs_TAc hT
      have p1 := hs_TAlt c6
      have e1 : nI (P j) + 1 = nI (P j + 1) := nI_add _ 1
      rw [nI_clamp (show P j < 2 ^ 31 by omega), c1]
      refine And.intro (vp_in_nI c5 (by decide)) ?_
      have H : post (hs_lms tk n (j + 1) (hs_lm1 m (if t = 8 then some (hs_hd r - 100) else if hs_isN t = true ∧ hs_hd r = 26 then some (t - 100) else none))) := H
      by_cases t8 : t = 8
      · subst t8
        rw [if_pos rfl] at H
        obtain ⟨k, f, s, t, cd, hL8⟩ := hLj
        obtain ⟨_, _, nn, er, hn, _⟩ : k = 8 ∧ cd = [] ∧ ∃ n, r = [n, 25] ∧ hs_isN n = true ∧ f = nI (n - 100) := hL8
        subst er
        have hn' := hs_tkN hn
        have en : tx (P j + 1) = nI nn := (hs_TAc c6).1
        have e2 : nI nn - 100 = nI (nn - 100) := pk_sub (b := 100) (by omega)
        refine br_t rfl ?_
        rw [e1, nI_clamp (show P j + 1 < 2 ^ 31 by omega), en, e2]
        refine And.intro (vp_in_nI p1 (by decide)) (nm_e ?_)
        unfold wY_localNames_93
        rw [nI_clamp (show P j < 2 ^ 31 by omega), c1]
        exact And.intro (vp_in_nI c5 (by decide)) (br_t (by decide) (nx _ H))
      · rw [if_neg t8] at H
        refine br_f (hs_ne (b := 8) t8 c3 (by decide)) ?_
        unfold wY_localNames_93
        rw [nI_clamp (show P j < 2 ^ 31 by omega), c1]
        refine And.intro (vp_in_nI c5 (by decide)) (pk_lt t 100 (fun q => nx _ ?_) (fun q => And.intro (vp_in_nI c5 (by decide)) (pk_le 126 t (fun q2 => nx _ ?_) (fun q2 => ?_))))
        · rw [if_neg (fun y => by have := hs_tkN y.1; omega)] at H; exact H
        · rw [if_neg (fun y => by have := hs_tkN y.1; omega)] at H; exact H
        · have hn : hs_isN t = true := decide_eq_true ⟨q, q2⟩
          rw [e1, nI_clamp (show P j + 1 < 2 ^ 31 by omega)]
          refine And.intro (vp_in_nI p1 (by decide)) ?_
          have h26 := hs_TAh (k := 26) c6 (hs_notEn (by decide) (by decide)) (by decide)
          by_cases z : hs_hd r = 26
          · rw [if_pos ⟨hn, z⟩] at H
            have e2 : nI t - 100 = nI (t - 100) := pk_sub (b := 100) q
            refine br_t (h26.mpr z) (And.intro (vp_in_nI c5 (by decide)) ?_)
            rw [e2]
            exact nm_e (nx _ H)
          · rw [if_neg (fun y => z y.2)] at H
            exact br_f (fun y => z (h26.mp y)) (nx _ H)
/-- what a def line holds -/
def hs_dfl (LT : Nat → Int32) (tk : Nat → List Nat) (l s : Nat) (t : Option Nat) : Prop :=
  s < 26 ∧ LT (l * 14 + 6) = nI s ∧ ∃ n, (t = none ∧ LT (l * 14 + 7) = -1 ∧ tk l = [2, n, 21, s + 100, 22, 25]) ∨ ∃ t', t = some t' ∧ t' < 26 ∧ t' ≠ s ∧ LT (l * 14 + 7) = nI t' ∧ tk l = [2, n, 21, s + 100, 23, t' + 100, 22, 25]
theorem hs_dflE {LT : Nat → Int32} {cd : Nat → Int64} {ind h : Nat → Nat} {tk : Nat → List Nat} {a b mx l : Nat} (hN : hs_LN LT cd ind tk a b mx l) (h2 : hs_hd (tk l) = 2) : (∃ s t, hs_dfl LT tk l s t) ∧ LT (l * 14) = 2 := by
  obtain ⟨_, _, _, _, e, c0, _, _, _, _, hL⟩ := hN
  cases etk : tk l with
  | nil => rw [etk] at h2; exact absurd h2 (by decide)
  | cons x r =>
    rw [etk] at h2 hL
    have h2 : x = 2 := h2
    subst h2
    obtain ⟨k2, _, n, a1, hn, ha, f1, s1, hr⟩ : LT (l * 14) = 2 ∧ e = [] ∧ hs_DH (LT (l * 14 + 5)) (LT (l * 14 + 6)) (LT (l * 14 + 7)) r := hL
    have ha' := hs_tkN ha
    refine ⟨?_, k2⟩
    rcases hr with ⟨rfl, t1⟩ | ⟨b1, hb, bne, rfl, t1⟩
    · exact ⟨a1 - 100, none, by omega, s1, n, Or.inl ⟨rfl, t1, by rw [etk]; rw [show a1 - 100 + 100 = a1 by omega]⟩⟩
    · have hb' := hs_tkN hb
      exact ⟨a1 - 100, some (b1 - 100), by omega, s1, n, Or.inr ⟨b1 - 100, rfl, by omega, by omega, t1, by rw [etk]; rw [show a1 - 100 + 100 = a1 by omega, show b1 - 100 + 100 = b1 by omega]⟩⟩
theorem hs_yLocN {tx LT : Nat → Int32} {cs ce a b l s : Nat} {t : Option Nat} {P ind h : Nat → Nat} {tk : Nat → List Nat} (C : hs_Ch tx cs ce a b P ind) (K : hs_TK tx a b P h tk) (hL : ∀ j, a ≤ j → j < b → ∃ k f s t cd, hs_LF k f s t cd (tk j)) (la : a ≤ l) (lb : l < b) (D : hs_dfl LT tk l s t) {post : Int32 → Prop} (H : post (hs_lmask tk ind b l)) : wpY_localNames post (y_maxObjects, y_maxSteps, y_maxDepth, y_kept, y_end, y_tokens, y_pending, y_lines, y_classes, y_prints, y_place, y_steps, y_d, y_valTop, y_opTop, y_opens, y_pos, y_tk, y_tv, y_stmt, y_target, y_err, y_code, y_outcome, y_result, y_dry, y_want, y_starting, y_ended, y_bad, y_hosted, y_sawSuper, tx, y_numbers, y_globals, y_entries, y_attrs, y_classOf, y_alive, y_orders, y_lengths, y_letters, y_bases, y_vals, y_ops, y_locals, y_fRecv, y_fLine, y_fPos, y_fStmt, y_fTarget, y_fMask, y_fHome, y_fOps, y_fVals, y_fNew, y_out) (nI (P l)) := by
  have hT := (K l la lb).1
  have bf := hs_bkFo (ind := ind) lb
  have b1 : l < hs_bk ind b l ∧ hs_bk ind b l ≤ b := ⟨bf.1, bf.2.1⟩
  have e3 : nI (P l) + 3 = nI (P l + 3) := nI_add _ 3
  have e4 : nI (P l) + 4 = nI (P l + 4) := nI_add _ 4
  have e5 : nI (P l) + 5 = nI (P l + 5) := nI_add _ 5
  have go : ∀ m, m = hs_lpar (tk l) → wY_localNames_43 post (nI (P l)) m y_maxObjects y_maxSteps y_maxDepth y_kept y_end y_tokens y_pending y_lines y_classes y_prints y_place y_steps y_d y_valTop y_opTop y_opens y_pos y_tk y_tv y_stmt y_target y_err y_code y_outcome y_result y_dry y_want y_starting y_ended y_bad y_hosted y_sawSuper tx y_numbers y_globals y_entries y_attrs y_classOf y_alive y_orders y_lengths y_letters y_bases y_vals y_ops y_locals y_fRecv y_fLine y_fPos y_fStmt y_fTarget y_fMask y_fHome y_fOps y_fVals y_fNew y_out := by
    intro m em
    unfold wY_localNames_43
    refine hs_yFollow C la lb bf (hs_yFollow C la lb (hs_nxFo lb) ⟨hs_bk ind b l - (l + 1) + 1, hs_yLocL C K hL b1.2 (hs_bk ind b l - (l + 1)) (l + 1) m (by omega) (by omega) ?_⟩)
    rw [em]; exact H
  obtain ⟨s26, _, n, D⟩ := D
  have e1 : nI (s + 100) - 100 = nI s := pk_sub (a := s + 100) (b := 100) (by omega)
  rcases D with ⟨_, _, et⟩ | ⟨t', _, t1, t2, _, et⟩
  · rw [et] at hT
    have h1 := (hs_TAc hT).2.2.2.2.2
    have h2 := (hs_TAc h1).2.2.2.2.2
    have h3 := (hs_TAc h2).2.2.2.2.2
    have h4 := (hs_TAc h3).2.2.2.2.2
    have v3 := (hs_TAc h3).1
    have v4 := (hs_TAc h4).1
    have l4 := hs_TAlt h4
    have v3 : tx (P l + 3) = nI (s + 100) := v3
    have v4 : tx (P l + 4) = nI 22 := v4
    have l4 : P l + 4 < 1024 := l4
    refine And.intro (by rw [e3]; exact vp_in_nI (by omega) (by decide)) ?_
    rw [e3, e4, nI_clamp (show P l + 3 < 2 ^ 31 by omega), nI_clamp (show P l + 4 < 2 ^ 31 by omega), v3, v4, e1]
    refine nm_e (And.intro (vp_in_nI l4 (by decide)) (br_f (by decide) (go _ ?_)))
    rw [et]
    show _ = (1 : Int32) <<< (nI (s + 100 - 100) &&& 31)
    rw [Nat.add_sub_cancel]
  · rw [et] at hT
    have h1 := (hs_TAc hT).2.2.2.2.2
    have h2 := (hs_TAc h1).2.2.2.2.2
    have h3 := (hs_TAc h2).2.2.2.2.2
    have h4 := (hs_TAc h3).2.2.2.2.2
    have h5 := (hs_TAc h4).2.2.2.2.2
    have v3 := (hs_TAc h3).1
    have v4 := (hs_TAc h4).1
    have v5 := (hs_TAc h5).1
    have l5 := hs_TAlt h5
    have v3 : tx (P l + 3) = nI (s + 100) := v3
    have v4 : tx (P l + 4) = nI 23 := v4
    have v5 : tx (P l + 5) = nI (t' + 100) := v5
    have l5 : P l + 5 < 1024 := l5
    have e6 : nI (t' + 100) - 100 = nI t' := pk_sub (a := t' + 100) (b := 100) (by omega)
    refine And.intro (by rw [e3]; exact vp_in_nI (by omega) (by decide)) ?_
    rw [e3, e4, e5, nI_clamp (show P l + 3 < 2 ^ 31 by omega), nI_clamp (show P l + 4 < 2 ^ 31 by omega), nI_clamp (show P l + 5 < 2 ^ 31 by omega), v3, v4, v5, e1, e6]
    refine nm_e (And.intro (vp_in_nI (by omega) (by decide)) (br_t rfl (And.intro (vp_in_nI l5 (by decide)) (nm_e (go _ ?_)))))
    rw [et]
    show _ = ((1 : Int32) <<< (nI (s + 100 - 100) &&& 31)) ||| ((1 : Int32) <<< (nI (t' + 100 - 100) &&& 31))
    rw [Nat.add_sub_cancel, Nat.add_sub_cancel]
end
