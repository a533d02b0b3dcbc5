/-! where a line may stand, on Y's side -/
section
variable {x_objectLimit x_stepLimit x_depthLimit x_pendingCount x_keptTokens x_keptLines x_lineCount x_codeCount x_cursor x_stop x_waitingCount x_openCount x_classCount x_callCount x_operandCount x_stepsTaken x_error x_raisedCode x_printCount x_lastPlace : Int32} {x_lastResult : Int64} {x_pending x_lineTable x_orders x_merging x_letterClass x_objectClass x_calls x_lastPrints : Nat → Int32} {x_code x_waiting x_globals x_entries x_attributes x_held x_operands : Nat → Int64}
variable {y_maxObjects y_maxSteps y_maxDepth y_kept y_end y_tokens y_pending y_lines y_classes y_prints y_place y_steps y_d y_valTop y_opTop y_opens y_pos y_tk y_tv y_stmt y_target y_err y_code y_outcome y_dry y_want y_starting y_ended y_bad y_hosted y_sawSuper : Int32} {y_result : Int64} {y_text y_numbers y_classOf y_alive y_orders y_lengths y_letters y_bases y_ops y_fLine y_fPos y_fStmt y_fTarget y_fMask y_fHome y_fOps y_fVals y_fNew y_out : Nat → Int32} {y_globals y_entries y_attrs y_vals y_locals y_fRecv : Nat → Int64}
theorem hs_narB {r : Int32} (h : r = 0 ∨ r = 1) : narrow .boolean (.int r) = .int r := by
  rcases h with rfl | rfl <;> rfl
theorem hs_y253 {tx : Nat → Int32} {cs ce a b i : Nat} {P ind h : Nat → Nat} {sm ss : Int32} (C : hs_Ch tx cs ce a b P ind) (Hh : hs_H tx a b P h) (hi : a ≤ i) (hib : i < b) (hss : ss = 0 ∨ ss = 1) {post : Int32 → Prop} (H1 : hs_wr h ind a i (sm = 51) (ss = 1) → post 1) (H0 : ¬ hs_wr h ind a i (sm = 51) (ss = 1) → post 0) : wY_placeRight_253 post (nI (P i)) (nI (h i)) y_maxObjects y_maxSteps y_maxDepth y_kept y_end y_tokens y_pending y_lines y_classes y_prints y_place y_steps y_d y_valTop y_opTop y_opens y_pos y_tk y_tv sm y_target y_err y_code y_outcome y_result y_dry y_want y_starting y_ended y_bad y_hosted ss tx y_numbers y_globals y_entries y_attrs y_classOf y_alive y_orders y_lengths y_letters y_bases y_vals y_ops y_locals y_fRecv y_fLine y_fPos y_fStmt y_fTarget y_fMask y_fHome y_fOps y_fVals y_fNew y_out := by
  unfold wY_placeRight_253
  exact hs_yInside C Hh hi hib hss (fun w => ⟨hs_narB (Or.inr rfl), H1 w⟩) (fun w => ⟨hs_narB (Or.inl rfl), H0 w⟩)
theorem hs_y185 {tx : Nat → Int32} {cs ce a b i : Nat} {P ind h : Nat → Nat} {sm ss : Int32} (C : hs_Ch tx cs ce a b P ind) (Hh : hs_H tx a b P h) (hi : a ≤ i) (hib : i < b) (hss : ss = 0 ∨ ss = 1) {post : Int32 → Prop}
    (H1 : (h i = 5 → hs_lvW h ind a i 4) → (h i = 8 → hs_lvW h ind a i 7) → hs_wr h ind a i (sm = 51) (ss = 1) → post 1) (H0 : ¬ ((h i = 5 → hs_lvW h ind a i 4) ∧ (h i = 8 → hs_lvW h ind a i 7) ∧ hs_wr h ind a i (sm = 51) (ss = 1)) → post 0) : wY_placeRight_185 post (nI (P i)) (nI (ind i)) (nI (h i)) (hs_pI P (hs_lf ind (ind i) a i)) y_maxObjects y_maxSteps y_maxDepth y_kept y_end y_tokens y_pending y_lines y_classes y_prints y_place y_steps y_d y_valTop y_opTop y_opens y_pos y_tk y_tv sm y_target y_err y_code y_outcome y_result y_dry y_want y_starting y_ended y_bad y_hosted ss tx y_numbers y_globals y_entries y_attrs y_classOf y_alive y_orders y_lengths y_letters y_bases y_vals y_ops y_locals y_fRecv y_fLine y_fPos y_fStmt y_fTarget y_fMask y_fHome y_fOps y_fVals y_fNew y_out := by
  have hi31 := (Hh i hi hib).2.2
  have li := hs_indLe C hi hib
  have last : (h i = 5 → hs_lvW h ind a i 4) → (h i = 8 → hs_lvW h ind a i 7) → wY_placeRight_253 post (nI (P i)) (nI (h i)) y_maxObjects y_maxSteps y_maxDepth y_kept y_end y_tokens y_pending y_lines y_classes y_prints y_place y_steps y_d y_valTop y_opTop y_opens y_pos y_tk y_tv sm y_target y_err y_code y_outcome y_result y_dry y_want y_starting y_ended y_bad y_hosted ss tx y_numbers y_globals y_entries y_attrs y_classOf y_alive y_orders y_lengths y_letters y_bases y_vals y_ops y_locals y_fRecv y_fLine y_fPos y_fStmt y_fTarget y_fMask y_fHome y_fOps y_fVals y_fNew y_out := fun k1 k2 => hs_y253 C Hh hi hib hss (fun w => H1 k1 k2 w) (fun w => H0 (fun y => w y.2.2))
  -- no line on the same level
  have no : ¬ hs_lv ind a i → ∀ x5 : Int32, wY_placeRight_204 post (nI (P i)) (nI (h i)) x5 y_maxObjects y_maxSteps y_maxDepth y_kept y_end y_tokens y_pending y_lines y_classes y_prints y_place y_steps y_d y_valTop y_opTop y_opens y_pos y_tk y_tv sm y_target y_err y_code y_outcome y_result y_dry y_want y_starting y_ended y_bad y_hosted ss tx y_numbers y_globals y_entries y_attrs y_classOf y_alive y_orders y_lengths y_letters y_bases y_vals y_ops y_locals y_fRecv y_fLine y_fPos y_fStmt y_fTarget y_fMask y_fHome y_fOps y_fVals y_fNew y_out := by
    intro hno x5
    have n5 : ∀ w, ¬ hs_lvW h ind a i w := fun w ⟨u, e1, e2, _⟩ => hno ⟨u, e1, e2⟩
    unfold wY_placeRight_204 wY_placeRight_205
    refine pk_eq (h i) 5 (fun e => br_t rfl (H0 (fun y => n5 4 (y.1 e)))) (fun e5 => ?_)
    unfold wY_placeRight_228
    exact pk_eq (h i) 8 (fun e => br_t rfl (H0 (fun y => n5 7 (y.2.1 e)))) (fun e8 => last (fun y => absurd y e5) (fun y => absurd y e8))
  unfold wY_placeRight_185
  cases e : hs_lf ind (ind i) a i with
  | none =>
    refine br_t (show hs_pI P none < 0 by show (-1 : Int32) < 0; decide) (no ?_ _)
    rintro ⟨u, e', _⟩
    rw [e] at e'; cases e'
  | some u =>
    obtain ⟨u1, u2, u3, u4⟩ := hs_lfS e
    have hub : u < b := by omega
    obtain ⟨p1, p2, p3, p4, p5⟩ := C.2.2.2.1 u u1 hub
    have hc := C.1.1
    obtain ⟨k1, k2, k3⟩ := Hh u u1 hub
    rw [show hs_pI P (some u) = nI (P u) from rfl]
    refine br_f (nI_pos (by omega)) (hs_yIndent C p1 (by omega) p4 ?_)
    rw [← p5]
    refine pk_eq (ind u) (ind i) (fun el => ?_) (fun el => no ?_ _)
    · have lw : ∀ w, h u = w → hs_lvW h ind a i w := fun w hw => ⟨u, e, el, hw⟩
      have nlw : ∀ w, h u ≠ w → ¬ hs_lvW h ind a i w := by
        rintro w hw ⟨u', e', _, hw'⟩
        rw [e] at e'; cases e'
        exact hw hw'
      have f228 : (h i = 5 → hs_lvW h ind a i 4) → wY_placeRight_228 post (nI (P i)) (nI (h i)) (nI (P u)) 1 y_maxObjects y_maxSteps y_maxDepth y_kept y_end y_tokens y_pending y_lines y_classes y_prints y_place y_steps y_d y_valTop y_opTop y_opens y_pos y_tk y_tv sm y_target y_err y_code y_outcome y_result y_dry y_want y_starting y_ended y_bad y_hosted ss tx y_numbers y_globals y_entries y_attrs y_classOf y_alive y_orders y_lengths y_letters y_bases y_vals y_ops y_locals y_fRecv y_fLine y_fPos y_fStmt y_fTarget y_fMask y_fHome y_fOps y_fVals y_fNew y_out := by
        intro k5
        unfold wY_placeRight_228
        refine pk_eq (h i) 8 (fun e8 => br_f (by decide) (And.intro (vp_in_nI (by omega) (by decide)) ?_)) (fun e8 => last k5 (fun y => absurd y e8))
        rw [nI_clamp (show P u < 2 ^ 31 by omega), k1]
        exact pk_eq (h u) 7 (fun e7 => last k5 (fun _ => lw 7 e7)) (fun e7 => H0 (fun y => nlw 7 e7 (y.2.1 e8)))
      unfold wY_placeRight_205
      refine pk_eq (h i) 5 (fun e5 => br_f (by decide) (And.intro (vp_in_nI (by show P u < 1024; omega) (by decide)) ?_)) (fun e5 => f228 (fun y => absurd y e5))
      rw [nI_clamp (show P u < 2 ^ 31 by omega), k1]
      exact pk_eq (h u) 4 (fun e4 => f228 (fun _ => lw 4 e4)) (fun e4 => H0 (fun y => nlw 4 e4 (y.1 e5)))
    · rintro ⟨u', e', h'⟩
      rw [e] at e'; cases e'
      exact el h'
/-- all that placeRight asks -/
def hs_pl (h ind : Nat → Nat) (a i : Nat) (s15 sup : Prop) : Prop := (∀ m, a ≤ m → m < i → ¬ hs_tb h ind i m) ∧ hs_ir h ind a i ∧ hs_wr h ind a i s15 sup
theorem hs_yPlace {tx : Nat → Int32} {cs ce a b i : Nat} {P ind h : Nat → Nat} {sm ss : Int32} (C : hs_Ch tx cs ce a b P ind) (Hh : hs_H tx a b P h) (hi : a ≤ i) (hib : i < b) (hss : ss = 0 ∨ ss = 1) {post : Int32 → Prop} (H1 : hs_pl h ind a i (sm = 51) (ss = 1) → post 1) (H0 : ¬ hs_pl h ind a i (sm = 51) (ss = 1) → post 0) : wpY_placeRight post (y_maxObjects, y_maxSteps, y_maxDepth, y_kept, y_end, y_tokens, y_pending, y_lines, y_classes, y_prints, y_place, y_steps, y_d, y_valTop, y_opTop, y_opens, y_pos, y_tk, y_tv, sm, y_target, y_err, y_code, y_outcome, y_result, y_dry, y_want, y_starting, y_ended, y_bad, y_hosted, ss, tx, y_numbers, y_globals, y_entries, y_attrs, y_classOf, y_alive, y_orders, y_lengths, y_letters, y_bases, y_vals, y_ops, y_locals, y_fRecv, y_fLine, y_fPos, y_fStmt, y_fTarget, y_fMask, y_fHome, y_fOps, y_fVals, y_fNew, y_out) (nI (P i)) := by
  obtain ⟨pi1, pi2, pi3, pi4, pi5⟩ := C.2.2.2.1 i hi hib
  have hc := C.1.1
  have li := hs_indLe C hi hib
  obtain ⟨k1, k2, k3⟩ := Hh i hi hib
  unfold wpY_placeRight
  refine hs_yIndent C pi1 (by omega) pi4 (And.intro (vp_in_nI (by omega) (by decide)) ?_)
  rw [nI_clamp (show P i < 2 ^ 31 by omega), ← pi5]
  refine nm_r k1 (hs_yCS C pi1 (by omega) ⟨P i + 1, hs_yPl C Hh hi hib (fun ⟨m, m1, m2, m3⟩ => H0 (fun y => y.1 m m1 m2 m3)) (fun ht n => ?_) (P i + 1) cs a (by omega) (Nat.le_refl _) pi1 (Or.inl rfl) (Nat.le_refl _) hi (fun j ja jb => ⟨fun y => by omega, fun y => by have := (C.2.2.2.1 j ja jb).1; omega⟩) (fun m m1 m2 => by omega) _ _ (by rw [if_pos rfl]; rfl) (by rw [hs_lfA]; rfl)⟩)
  refine br_t (nI_le (Nat.le_refl _) (by omega)) ?_
  -- what is left: the line above, and the last line not deeper
  have f185 : ((i = a → ind i = 0) ∧ (a < i → hs_isOp (h (i - 1)) → ind (i - 1) < ind i) ∧ (a < i → ¬ hs_isOp (h (i - 1)) → ind i ≤ ind (i - 1) ∧ hs_lv ind a i)) → wY_placeRight_185 post (nI (P i)) (nI (ind i)) (nI (h i)) (hs_pI P (hs_lf ind (ind i) a i)) y_maxObjects y_maxSteps y_maxDepth y_kept y_end y_tokens y_pending y_lines y_classes y_prints y_place y_steps y_d y_valTop y_opTop y_opens y_pos y_tk y_tv sm y_target y_err y_code y_outcome y_result y_dry y_want y_starting y_ended y_bad y_hosted ss tx y_numbers y_globals y_entries y_attrs y_classOf y_alive y_orders y_lengths y_letters y_bases y_vals y_ops y_locals y_fRecv y_fLine y_fPos y_fStmt y_fTarget y_fMask y_fHome y_fOps y_fVals y_fNew y_out := by
    intro hk
    exact hs_y185 C Hh hi hib hss (fun w1 w2 w3 => H1 ⟨ht, ⟨hk.1, hk.2.1, hk.2.2, w1, w2⟩, w3⟩) (fun w => H0 (fun y => w ⟨y.2.1.2.2.2.1, y.2.1.2.2.2.2, y.2.2⟩))
  by_cases ea : i = a
  · rw [if_pos ea]
    refine br_f (show ¬ 0 ≤ hs_pI P none by show ¬ (0 : Int32) ≤ -1; decide) ?_
    refine pk_le (ind i) 0 (fun z => f185 ⟨fun _ => by omega, fun y => by omega, fun y => by omega⟩) (fun z => H0 (fun y => ?_))
    have := y.2.1.1 ea; omega
  · have hv : a ≤ i - 1 ∧ i - 1 < b := by omega
    obtain ⟨v1, v2, v3, v4, v5⟩ := C.2.2.2.1 (i - 1) hv.1 hv.2
    obtain ⟨g1, g2, g3⟩ := Hh (i - 1) hv.1 hv.2
    have lv := hs_indLe C hv.1 hv.2
    rw [if_neg ea]
    show (0 ≤ nI (P (i - 1)) → _) ∧ _
    refine br_t (nI_pos' (by omega)) (hs_yIsOp (by omega) g1 g3 (fun op => br_f (by decide) ?_) (fun op => br_t rfl ?_))
    · refine hs_yIndent C v1 (by omega) v4 ?_
      rw [← v5]
      exact pk_lt (ind (i - 1)) (ind i) (fun z => f185 ⟨fun y => absurd y ea, fun _ _ => z, fun _ y => absurd op y⟩) (fun z => H0 (fun y => by have := y.2.1.2.1 (by omega) op; omega))
    · refine hs_yIndent C v1 (by omega) v4 ?_
      rw [← v5]
      refine pk_lt (ind (i - 1)) (ind i) (fun z => H0 (fun y => by have := (y.2.1.2.2.1 (by omega) op).1; omega)) (fun z => ?_)
      cases e : hs_lf ind (ind i) a i with
      | none =>
        refine br_t (show hs_pI P none < 0 by show (-1 : Int32) < 0; decide) (H0 (fun y => ?_))
        obtain ⟨u, e', _⟩ := (y.2.1.2.2.1 (by omega) op).2
        rw [e] at e'; cases e'
      | some u =>
        obtain ⟨u1, u2, u3, u4⟩ := hs_lfS e
        obtain ⟨p1, p2, p3, p4, p5⟩ := C.2.2.2.1 u u1 (by omega)
        show (nI (P u) < 0 → _) ∧ _
        refine br_f (nI_pos (by omega)) (hs_yIndent C p1 (by omega) p4 ?_)
        rw [← p5]
        refine pk_eq (ind u) (ind i) (fun el => ?_) (fun el => H0 (fun y => ?_))
        · have := f185 ⟨fun y => absurd y ea, fun _ y => absurd y op, fun _ _ => ⟨z, u, e, el⟩⟩
          rw [e] at this
          exact this
        · obtain ⟨u', e', el'⟩ := (y.2.1.2.2.1 (by omega) op).2
          rw [e] at e'; cases e'
          exact el el'
end
