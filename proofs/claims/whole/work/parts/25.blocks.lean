/-! blocks: pure functions of the indents -/
/-- the last line before i, from a on, that is indented by no more than x -/
def hs_lf (ind : Nat → Nat) (x a : Nat) : Nat → Option Nat
  | 0 => none
  | i + 1 => if i < a then none else if ind i ≤ x then some i else hs_lf ind x a i
theorem hs_lfN {ind : Nat → Nat} {x a : Nat} : ∀ {i : Nat}, hs_lf ind x a i = none → ∀ j, a ≤ j → j < i → x < ind j
  | 0, _, j, _, h => by omega
  | i + 1, h, j, h1, h2 => by
    unfold hs_lf at h
    split at h
    · omega
    · split at h
      · cases h
      · by_cases e : j = i
        · subst e; omega
        · exact hs_lfN h j h1 (by omega)
theorem hs_lfS {ind : Nat → Nat} {x a : Nat} : ∀ {i u : Nat}, hs_lf ind x a i = some u → a ≤ u ∧ u < i ∧ ind u ≤ x ∧ ∀ j, u < j → j < i → x < ind j
  | 0, _, h => by cases h
  | i + 1, u, h => by
    unfold hs_lf at h
    split at h
    · cases h
    · split at h
      · cases h
        exact ⟨by omega, by omega, by assumption, fun j _ _ => by omega⟩
      · obtain ⟨h1, h2, h3, h4⟩ := hs_lfS h
        refine ⟨h1, by omega, h3, fun j j1 j2 => ?_⟩
        by_cases e : j = i
        · subst e; omega
        · exact h4 j j1 (by omega)
theorem hs_lfSucc {ind : Nat → Nat} {x a i : Nat} (h : a ≤ i) : hs_lf ind x a (i + 1) = if ind i ≤ x then some i else hs_lf ind x a i := by
  show (if i < a then none else if ind i ≤ x then some i else hs_lf ind x a i) = _
  rw [if_neg (by omega)]
theorem hs_lfA {ind : Nat → Nat} {x a : Nat} : hs_lf ind x a a = none := by
  cases a with
  | zero => rfl
  | succ a =>
    show (if a < a + 1 then none else _) = none
    rw [if_pos (by omega)]
/-- the line above, one block out -/
def hs_pa (ind : Nat → Nat) (a i : Nat) : Option Nat := if ind i = 0 then none else hs_lf ind (ind i - 1) a i
theorem hs_paOK {ind : Nat → Nat} {a i : Nat} : hs_Pa ind a i (hs_pa ind a i) := by
  unfold hs_pa
  split
  · intro j _ _; omega
  · cases e : hs_lf ind (ind i - 1) a i with
    | none =>
      intro j h1 h2
      have := hs_lfN e j h1 h2
      omega
    | some p =>
      obtain ⟨h1, h2, h3, h4⟩ := hs_lfS e
      exact ⟨h1, h2, by omega, fun j j1 j2 => by have := h4 j j1 j2; omega⟩
/-- the first line from j on, at most n lines further, that is indented by no more than x -/
def hs_ef (ind : Nat → Nat) (x : Nat) : Nat → Nat → Nat
  | 0, j => j
  | n + 1, j => if ind j ≤ x then j else hs_ef ind x n (j + 1)
theorem hs_efS {ind : Nat → Nat} {x : Nat} : ∀ (n j : Nat), j ≤ hs_ef ind x n j ∧ hs_ef ind x n j ≤ j + n ∧ (∀ k, j ≤ k → k < hs_ef ind x n j → x < ind k) ∧ (hs_ef ind x n j < j + n → ind (hs_ef ind x n j) ≤ x)
  | 0, j => ⟨Nat.le_refl _, Nat.le_refl _, fun k _ h => by have h : k < j := h; omega, fun h => by have h : j < j := h; omega⟩
  | n + 1, j => by
    unfold hs_ef
    split
    · exact ⟨Nat.le_refl _, by omega, fun k _ _ => by omega, fun _ => by assumption⟩
    · obtain ⟨h1, h2, h3, h4⟩ := hs_efS (ind := ind) (x := x) n (j + 1)
      refine ⟨by omega, by omega, fun k k1 k2 => ?_, fun h => h4 (by omega)⟩
      by_cases e : k = j
      · subst e; omega
      · exact h3 k (by omega) k2
/-- where the block of line i ends, in lines up to b -/
def hs_bk (ind : Nat → Nat) (b i : Nat) : Nat := hs_ef ind (ind i) (b - (i + 1)) (i + 1)
theorem hs_bkFo {ind : Nat → Nat} {b i : Nat} (h : i < b) : hs_Fo ind b 1 i (hs_bk ind b i) := by
  obtain ⟨h1, h2, h3, h4⟩ := hs_efS (ind := ind) (x := ind i) (b - (i + 1)) (i + 1)
  unfold hs_bk
  exact ⟨by omega, by omega, fun j j1 j2 => ⟨by decide, h3 j (by omega) j2⟩, fun q => Or.inr (h4 (by omega))⟩
theorem hs_nxFo {ind : Nat → Nat} {b i : Nat} (h : i < b) : hs_Fo ind b 0 i (i + 1) := ⟨by omega, by omega, fun j j1 j2 => by omega, fun _ => Or.inl rfl⟩
/-- the first words that begin a block -/
def hs_isOp (h : Nat) : Prop := h = 1 ∨ h = 2 ∨ (4 ≤ h ∧ h ≤ 8)
/-- a try line whose block would end at i without its except line -/
def hs_tb (h ind : Nat → Nat) (i m : Nat) : Prop := h m = 7 ∧ ind i ≤ ind m ∧ (∀ j, m < j → j < i → ind m < ind j) ∧ ¬ (h i = 8 ∧ ind i = ind m)
/-- the last line not deeper is on the same level -/
def hs_lv (ind : Nat → Nat) (a i : Nat) : Prop := ∃ u, hs_lf ind (ind i) a i = some u ∧ ind u = ind i
def hs_lvW (h ind : Nat → Nat) (a i w : Nat) : Prop := ∃ u, hs_lf ind (ind i) a i = some u ∧ ind u = ind i ∧ h u = w
def hs_ir (h ind : Nat → Nat) (a i : Nat) : Prop :=
  (i = a → ind i = 0) ∧ (a < i → hs_isOp (h (i - 1)) → ind (i - 1) < ind i) ∧ (a < i → ¬ hs_isOp (h (i - 1)) → ind i ≤ ind (i - 1) ∧ hs_lv ind a i) ∧
  (h i = 5 → hs_lvW h ind a i 4) ∧ (h i = 8 → hs_lvW h ind a i 7)
/-- is the line inside a block of this word -/
def hs_in (h ind : Nat → Nat) (a w : Nat) : Nat → Nat → Bool
  | 0, _ => false
  | n + 1, i => match hs_pa ind a i with
    | none => false
    | some p => decide (h p = w) || hs_in h ind a w n p
theorem hs_inF {h ind : Nat → Nat} {a w : Nat} : ∀ (n m i : Nat), ind i < n → ind i < m → hs_in h ind a w n i = hs_in h ind a w m i
  | 0, _, _, h1, _ => by omega
  | _, 0, _, _, h1 => by omega
  | n + 1, m + 1, i, h1, h2 => by
    unfold hs_in
    cases e : hs_pa ind a i with
    | none => rfl
    | some p =>
      have hp : hs_Pa ind a i (some p) := by rw [← e]; exact hs_paOK
      have := hp.2.2.1
      show (decide (h p = w) || hs_in h ind a w n p) = (decide (h p = w) || hs_in h ind a w m p)
      rw [hs_inF n m p (by omega) (by omega)]
def hs_dir (h ind : Nat → Nat) (a i : Nat) : Prop := ∃ p, hs_pa ind a i = some p ∧ h p = 1
/-- a line stands where it may (s15: it sets a name; sup: it has a super) -/
def hs_wr (h ind : Nat → Nat) (a i : Nat) (s15 sup : Prop) : Prop :=
  ¬ (h i = 1 ∧ hs_in h ind a 1 9 i = true) ∧ ((h i = 3 ∨ sup) → hs_in h ind a 2 9 i = true) ∧
  (hs_dir h ind a i → h i = 10 ∨ h i = 2 ∨ s15) ∧ (¬ hs_dir h ind a i → h i ≠ 2)
section
variable {x_objectLimit x_stepLimit x_depthLimit x_pendingCount x_keptTokens x_keptLines x_lineCount x_codeCount x_cursor x_stop x_waitingCount x_openCount x_classCount x_callCount x_operandCount x_stepsTaken x_error x_raisedCode x_printCount x_lastPlace : Int32} {x_lastResult : Int64} {x_pending x_lineTable x_orders x_merging x_letterClass x_objectClass x_calls x_lastPrints : Nat → Int32} {x_code x_waiting x_globals x_entries x_attributes x_held x_operands : Nat → Int64}
variable {y_maxObjects y_maxSteps y_maxDepth y_kept y_end y_tokens y_pending y_lines y_classes y_prints y_place y_steps y_d y_valTop y_opTop y_opens y_pos y_tk y_tv y_stmt y_target y_err y_code y_outcome y_dry y_want y_starting y_ended y_bad y_hosted y_sawSuper : Int32} {y_result : Int64} {y_text y_numbers y_classOf y_alive y_orders y_lengths y_letters y_bases y_ops y_fLine y_fPos y_fStmt y_fTarget y_fMask y_fHome y_fOps y_fVals y_fNew y_out : Nat → Int32} {y_globals y_entries y_attrs y_vals y_locals y_fRecv : Nat → Int64}
theorem hs_yIsOp {tx : Nat → Int32} {p t : Nat} (hp : p < 1024) (ht : tx p = nI t) (ht2 : t < 2 ^ 31) {post : Int32 → Prop} (H1 : hs_isOp t → post 1) (H0 : ¬ hs_isOp t → post 0) : wpY_isOpener post (y_maxObjects, y_maxSteps, y_maxDepth, y_kept, y_end, y_tokens, y_pending, y_lines, y_classes, y_prints, y_place, y_steps, y_d, y_valTop, y_opTop, y_opens, y_pos, y_tk, y_tv, y_stmt, y_target, y_err, y_code, y_outcome, y_result, y_dry, y_want, y_starting, y_ended, y_bad, y_hosted, y_sawSuper, tx, y_numbers, y_globals, y_entries, y_attrs, y_classOf, y_alive, y_orders, y_lengths, y_letters, y_bases, y_vals, y_ops, y_locals, y_fRecv, y_fLine, y_fPos, y_fStmt, y_fTarget, y_fMask, y_fHome, y_fOps, y_fVals, y_fNew, y_out) (nI p) := by
  refine And.intro (vp_in_nI hp (by decide)) ?_
  rw [nI_clamp (show p < 2 ^ 31 by omega)]
  refine nm_r ht (pk_eq t 1 (fun e => H1 (Or.inl e)) (fun a => pk_eq t 2 (fun e => H1 (Or.inr (Or.inl e))) (fun b => pk_lt t 4 (fun c => H0 ?_) (fun c => pk_lt 8 t (fun d => H0 ?_) (fun d => H1 (Or.inr (Or.inr ⟨c, d⟩)))))))
  · rintro (q | q | q) <;> omega
  · rintro (q | q | q) <;> omega
/-- the first token of each line of a chunk -/
def hs_H (tx : Nat → Int32) (a b : Nat) (P h : Nat → Nat) : Prop := ∀ i, a ≤ i → i < b → tx (P i) = nI (h i) ∧ 0 < h i ∧ h i < 2 ^ 31
theorem hs_yInL {tx : Nat → Int32} {cs ce a b : Nat} {P ind h : Nat → Nat} (C : hs_Ch tx cs ce a b P ind) (Hh : hs_H tx a b P h) {x2 x6 : Int32} {post : Int32 → Prop} :
    ∀ (n i : Nat) (c d : Bool), a ≤ i → i < b → ind i < n → wY_insideRight_35 post x2 x6 y_maxObjects y_maxSteps y_maxDepth y_kept y_end y_tokens y_pending y_lines y_classes y_prints y_place y_steps y_d y_valTop y_opTop y_opens y_pos y_tk y_tv y_stmt y_target y_err y_code y_outcome y_result y_dry y_want y_starting y_ended y_bad y_hosted y_sawSuper tx y_numbers y_globals y_entries y_attrs y_classOf y_alive y_orders y_lengths y_letters y_bases y_vals y_ops y_locals y_fRecv y_fLine y_fPos y_fStmt y_fTarget y_fMask y_fHome y_fOps y_fVals y_fNew y_out 1 (hs_b (c || hs_in h ind a 1 n i)) (hs_b (d || hs_in h ind a 2 n i)) (-1) → wY_insideRight_35 post x2 x6 y_maxObjects y_maxSteps y_maxDepth y_kept y_end y_tokens y_pending y_lines y_classes y_prints y_place y_steps y_d y_valTop y_opTop y_opens y_pos y_tk y_tv y_stmt y_target y_err y_code y_outcome y_result y_dry y_want y_starting y_ended y_bad y_hosted y_sawSuper tx y_numbers y_globals y_entries y_attrs y_classOf y_alive y_orders y_lengths y_letters y_bases y_vals y_ops y_locals y_fRecv y_fLine y_fPos y_fStmt y_fTarget y_fMask y_fHome y_fOps y_fVals y_fNew y_out (n + 1) (hs_b c) (hs_b d) (hs_pI P (hs_pa ind a i)) := by
  have C' := C
  obtain ⟨⟨hc, h0, hok⟩, hnz, hcs, hP, hm, hall⟩ := C
  intro n
  induction n with
  | zero => intro i c d _ _ h; omega
  | succ n ih =>
    intro i c d hi hib hn H
    unfold hs_in at H
    have hp := hs_paOK (ind := ind) (a := a) (i := i)
    cases e : hs_pa ind a i with
    | none =>
      rw [e] at H
      have H : wY_insideRight_35 post x2 x6 y_maxObjects y_maxSteps y_maxDepth y_kept y_end y_tokens y_pending y_lines y_classes y_prints y_place y_steps y_d y_valTop y_opTop y_opens y_pos y_tk y_tv y_stmt y_target y_err y_code y_outcome y_result y_dry y_want y_starting y_ended y_bad y_hosted y_sawSuper tx y_numbers y_globals y_entries y_attrs y_classOf y_alive y_orders y_lengths y_letters y_bases y_vals y_ops y_locals y_fRecv y_fLine y_fPos y_fStmt y_fTarget y_fMask y_fHome y_fOps y_fVals y_fNew y_out 1 (hs_b (c || false)) (hs_b (d || false)) (-1) := H
      rw [Bool.or_false, Bool.or_false] at H
      exact br_t (show hs_pI P none < 0 by show (-1 : Int32) < 0; decide) (H.1 (by decide))
    | some p =>
      rw [e] at H hp
      have H : wY_insideRight_35 post x2 x6 y_maxObjects y_maxSteps y_maxDepth y_kept y_end y_tokens y_pending y_lines y_classes y_prints y_place y_steps y_d y_valTop y_opTop y_opens y_pos y_tk y_tv y_stmt y_target y_err y_code y_outcome y_result y_dry y_want y_starting y_ended y_bad y_hosted y_sawSuper tx y_numbers y_globals y_entries y_attrs y_classOf y_alive y_orders y_lengths y_letters y_bases y_vals y_ops y_locals y_fRecv y_fLine y_fPos y_fStmt y_fTarget y_fMask y_fHome y_fOps y_fVals y_fNew y_out 1 (hs_b (c || (decide (h p = 1) || hs_in h ind a 1 n p))) (hs_b (d || (decide (h p = 2) || hs_in h ind a 2 n p))) (-1) := H
      obtain ⟨p1, p2, p3, p4⟩ := hp
      have hpb : p < b := by omega
      obtain ⟨k1, k2, k3⟩ := Hh p p1 hpb
      obtain ⟨q1, q2, q3, q4, q5⟩ := hP p p1 hpb
      show wY_insideRight_35 post x2 x6 y_maxObjects y_maxSteps y_maxDepth y_kept y_end y_tokens y_pending y_lines y_classes y_prints y_place y_steps y_d y_valTop y_opTop y_opens y_pos y_tk y_tv y_stmt y_target y_err y_code y_outcome y_result y_dry y_want y_starting y_ended y_bad y_hosted y_sawSuper tx y_numbers y_globals y_entries y_attrs y_classOf y_alive y_orders y_lengths y_letters y_bases y_vals y_ops y_locals y_fRecv y_fLine y_fPos y_fStmt y_fTarget y_fMask y_fHome y_fOps y_fVals y_fNew y_out (n + 1 + 1) (hs_b c) (hs_b d) (nI (P p))
      refine br_f (nI_pos (by omega)) (And.intro (vp_in_nI (by omega) (by decide)) ?_)
      rw [nI_clamp (show P p < 2 ^ 31 by omega), k1]
      rw [← Bool.or_assoc, ← Bool.or_assoc] at H
      have step : ∀ c' d' : Bool, wY_insideRight_35 post x2 x6 y_maxObjects y_maxSteps y_maxDepth y_kept y_end y_tokens y_pending y_lines y_classes y_prints y_place y_steps y_d y_valTop y_opTop y_opens y_pos y_tk y_tv y_stmt y_target y_err y_code y_outcome y_result y_dry y_want y_starting y_ended y_bad y_hosted y_sawSuper tx y_numbers y_globals y_entries y_attrs y_classOf y_alive y_orders y_lengths y_letters y_bases y_vals y_ops y_locals y_fRecv y_fLine y_fPos y_fStmt y_fTarget y_fMask y_fHome y_fOps y_fVals y_fNew y_out 1 (hs_b (c' || hs_in h ind a 1 n p)) (hs_b (d' || hs_in h ind a 2 n p)) (-1) → wY_insideRight_67 post (wY_insideRight_35 post x2 x6 y_maxObjects y_maxSteps y_maxDepth y_kept y_end y_tokens y_pending y_lines y_classes y_prints y_place y_steps y_d y_valTop y_opTop y_opens y_pos y_tk y_tv y_stmt y_target y_err y_code y_outcome y_result y_dry y_want y_starting y_ended y_bad y_hosted y_sawSuper tx y_numbers y_globals y_entries y_attrs y_classOf y_alive y_orders y_lengths y_letters y_bases y_vals y_ops y_locals y_fRecv y_fLine y_fPos y_fStmt y_fTarget y_fMask y_fHome y_fOps y_fVals y_fNew y_out (n + 1)) x2 (hs_b c') (hs_b d') (nI (P p)) x6 y_maxObjects y_maxSteps y_maxDepth y_kept y_end y_tokens y_pending y_lines y_classes y_prints y_place y_steps y_d y_valTop y_opTop y_opens y_pos y_tk y_tv y_stmt y_target y_err y_code y_outcome y_result y_dry y_want y_starting y_ended y_bad y_hosted y_sawSuper tx y_numbers y_globals y_entries y_attrs y_classOf y_alive y_orders y_lengths y_letters y_bases y_vals y_ops y_locals y_fRecv y_fLine y_fPos y_fStmt y_fTarget y_fMask y_fHome y_fOps y_fVals y_fNew y_out := by
        intro c' d' H'
        unfold wY_insideRight_67
        exact hs_yOpener C' p1 hpb hs_paOK (ih p c' d' p1 hpb (by omega) H')
      have s53 : ∀ c' : Bool, wY_insideRight_35 post x2 x6 y_maxObjects y_maxSteps y_maxDepth y_kept y_end y_tokens y_pending y_lines y_classes y_prints y_place y_steps y_d y_valTop y_opTop y_opens y_pos y_tk y_tv y_stmt y_target y_err y_code y_outcome y_result y_dry y_want y_starting y_ended y_bad y_hosted y_sawSuper tx y_numbers y_globals y_entries y_attrs y_classOf y_alive y_orders y_lengths y_letters y_bases y_vals y_ops y_locals y_fRecv y_fLine y_fPos y_fStmt y_fTarget y_fMask y_fHome y_fOps y_fVals y_fNew y_out 1 (hs_b (c' || hs_in h ind a 1 n p)) (hs_b ((d || decide (h p = 2)) || hs_in h ind a 2 n p)) (-1) → wY_insideRight_53 post (wY_insideRight_35 post x2 x6 y_maxObjects y_maxSteps y_maxDepth y_kept y_end y_tokens y_pending y_lines y_classes y_prints y_place y_steps y_d y_valTop y_opTop y_opens y_pos y_tk y_tv y_stmt y_target y_err y_code y_outcome y_result y_dry y_want y_starting y_ended y_bad y_hosted y_sawSuper tx y_numbers y_globals y_entries y_attrs y_classOf y_alive y_orders y_lengths y_letters y_bases y_vals y_ops y_locals y_fRecv y_fLine y_fPos y_fStmt y_fTarget y_fMask y_fHome y_fOps y_fVals y_fNew y_out (n + 1)) x2 (hs_b c') (hs_b d) (nI (P p)) x6 y_maxObjects y_maxSteps y_maxDepth y_kept y_end y_tokens y_pending y_lines y_classes y_prints y_place y_steps y_d y_valTop y_opTop y_opens y_pos y_tk y_tv y_stmt y_target y_err y_code y_outcome y_result y_dry y_want y_starting y_ended y_bad y_hosted y_sawSuper tx y_numbers y_globals y_entries y_attrs y_classOf y_alive y_orders y_lengths y_letters y_bases y_vals y_ops y_locals y_fRecv y_fLine y_fPos y_fStmt y_fTarget y_fMask y_fHome y_fOps y_fVals y_fNew y_out := by
        intro c' H'
        unfold wY_insideRight_53
        refine And.intro (vp_in_nI (by omega) (by decide)) ?_
        rw [nI_clamp (show P p < 2 ^ 31 by omega), k1]
        refine pk_eq (h p) 2 (fun e2 => ?_) (fun e2 => ?_)
        · rw [decide_eq_true e2, Bool.or_true] at H'
          exact step c' true H'
        · rw [decide_eq_false e2, Bool.or_false] at H'
          exact step c' d H'
      refine pk_eq (h p) 1 (fun e1 => ?_) (fun e1 => ?_)
      · rw [decide_eq_true e1, Bool.or_true] at H
        exact s53 true H
      · rw [decide_eq_false e1, Bool.or_false] at H
        exact s53 c H
theorem hs_b1 {c : Bool} : hs_b c = 0 ↔ c = false := by cases c <;> decide
theorem hs_yInside {tx : Nat → Int32} {cs ce a b i : Nat} {P ind h : Nat → Nat} {sm ss : Int32} (C : hs_Ch tx cs ce a b P ind) (Hh : hs_H tx a b P h) (hi : a ≤ i) (hib : i < b) (hss : ss = 0 ∨ ss = 1) {post : Int32 → Prop} (H1 : hs_wr h ind a i (sm = 51) (ss = 1) → post 1) (H0 : ¬ hs_wr h ind a i (sm = 51) (ss = 1) → post 0) : wpY_insideRight post (y_maxObjects, y_maxSteps, y_maxDepth, y_kept, y_end, y_tokens, y_pending, y_lines, y_classes, y_prints, y_place, y_steps, y_d, y_valTop, y_opTop, y_opens, y_pos, y_tk, y_tv, sm, y_target, y_err, y_code, y_outcome, y_result, y_dry, y_want, y_starting, y_ended, y_bad, y_hosted, ss, tx, y_numbers, y_globals, y_entries, y_attrs, y_classOf, y_alive, y_orders, y_lengths, y_letters, y_bases, y_vals, y_ops, y_locals, y_fRecv, y_fLine, y_fPos, y_fStmt, y_fTarget, y_fMask, y_fHome, y_fOps, y_fVals, y_fNew, y_out) (nI (P i)) (nI (h i)) := by
  have hi31 := (Hh i hi hib).2.2
  have li := hs_indLe C hi hib
  -- the end of the chain
  have fin : ∀ x6 : Int32, (x6 = 0 ↔ ¬ hs_dir h ind a i) → wY_insideRight_35 post (nI (h i)) x6 y_maxObjects y_maxSteps y_maxDepth y_kept y_end y_tokens y_pending y_lines y_classes y_prints y_place y_steps y_d y_valTop y_opTop y_opens y_pos y_tk y_tv sm y_target y_err y_code y_outcome y_result y_dry y_want y_starting y_ended y_bad y_hosted ss tx y_numbers y_globals y_entries y_attrs y_classOf y_alive y_orders y_lengths y_letters y_bases y_vals y_ops y_locals y_fRecv y_fLine y_fPos y_fStmt y_fTarget y_fMask y_fHome y_fOps y_fVals y_fNew y_out 1 (hs_b (false || hs_in h ind a 1 9 i)) (hs_b (false || hs_in h ind a 2 9 i)) (-1) := by
    intro x6 h6
    rw [Bool.false_or, Bool.false_or]
    refine br_t (by decide) ?_
    have f106 : (¬ (h i = 1 ∧ hs_in h ind a 1 9 i = true)) → ((h i = 3 ∨ ss = 1) → hs_in h ind a 2 9 i = true) → wY_insideRight_106 post (nI (h i)) x6 y_maxObjects y_maxSteps y_maxDepth y_kept y_end y_tokens y_pending y_lines y_classes y_prints y_place y_steps y_d y_valTop y_opTop y_opens y_pos y_tk y_tv sm y_target y_err y_code y_outcome y_result y_dry y_want y_starting y_ended y_bad y_hosted ss tx y_numbers y_globals y_entries y_attrs y_classOf y_alive y_orders y_lengths y_letters y_bases y_vals y_ops y_locals y_fRecv y_fLine y_fPos y_fStmt y_fTarget y_fMask y_fHome y_fOps y_fVals y_fNew y_out := by
      intro k1 k2
      unfold wY_insideRight_106
      refine br_c (fun q => ?_) (fun q => ?_)
      · have nd := h6.mp q
        refine pk_eq (h i) 2 (fun e => H0 (fun w => w.2.2.2 nd e)) (fun e => H1 ⟨k1, k2, fun y => absurd y nd, fun _ => e⟩)
      · have dd : hs_dir h ind a i := Classical.byContradiction fun y => q (h6.mpr y)
        refine pk_eq (h i) 10 (fun e => H1 ⟨k1, k2, fun _ => Or.inl e, fun y => absurd dd y⟩) (fun e10 => pk_eq (h i) 2 (fun e => H1 ⟨k1, k2, fun _ => Or.inr (Or.inl e), fun y => absurd dd y⟩) (fun e2 => br_c (fun e => H1 ⟨k1, k2, fun _ => Or.inr (Or.inr e), fun y => absurd dd y⟩) (fun e => H0 (fun w => ?_))))
        rcases w.2.2.1 dd with y | y | y
        · exact e10 y
        · exact e2 y
        · exact e y
    have f99 : (¬ (h i = 1 ∧ hs_in h ind a 1 9 i = true)) → (h i = 3 ∨ ss = 1) → wY_insideRight_99 post (nI (h i)) (hs_b (hs_in h ind a 2 9 i)) x6 y_maxObjects y_maxSteps y_maxDepth y_kept y_end y_tokens y_pending y_lines y_classes y_prints y_place y_steps y_d y_valTop y_opTop y_opens y_pos y_tk y_tv sm y_target y_err y_code y_outcome y_result y_dry y_want y_starting y_ended y_bad y_hosted ss tx y_numbers y_globals y_entries y_attrs y_classOf y_alive y_orders y_lengths y_letters y_bases y_vals y_ops y_locals y_fRecv y_fLine y_fPos y_fStmt y_fTarget y_fMask y_fHome y_fOps y_fVals y_fNew y_out := by
      intro k1 k2
      unfold wY_insideRight_99
      refine br_c (fun q => H0 (fun w => ?_)) (fun q => f106 k1 (fun _ => ?_))
      · have := w.2.1 k2
        rw [hs_b1.mp q] at this; cases this
      · cases hh : hs_in h ind a 2 9 i with
        | true => rfl
        | false => exact absurd (hs_b1.mpr hh) q
    have f87 : (¬ (h i = 1 ∧ hs_in h ind a 1 9 i = true)) → wY_insideRight_87 post (nI (h i)) (hs_b (hs_in h ind a 2 9 i)) x6 y_maxObjects y_maxSteps y_maxDepth y_kept y_end y_tokens y_pending y_lines y_classes y_prints y_place y_steps y_d y_valTop y_opTop y_opens y_pos y_tk y_tv sm y_target y_err y_code y_outcome y_result y_dry y_want y_starting y_ended y_bad y_hosted ss tx y_numbers y_globals y_entries y_attrs y_classOf y_alive y_orders y_lengths y_letters y_bases y_vals y_ops y_locals y_fRecv y_fLine y_fPos y_fStmt y_fTarget y_fMask y_fHome y_fOps y_fVals y_fNew y_out := by
      intro k1
      unfold wY_insideRight_87
      refine pk_eq (h i) 3 (fun e => f99 k1 (Or.inl e)) (fun e => br_c (fun q => f106 k1 (fun y => ?_)) (fun q => f99 k1 (Or.inr (hss.resolve_left q))))
      rcases y with y | y
      · exact absurd y e
      · rw [q] at y; cases y
    refine pk_eq (h i) 1 (fun e => br_c (fun q => f87 (fun y => ?_)) (fun q => H0 (fun w => w.1 ⟨e, ?_⟩))) (fun e => f87 (fun y => e y.1))
    · rw [hs_b1.mp q] at y; cases y.2
    · cases hh : hs_in h ind a 1 9 i with
      | true => rfl
      | false => exact absurd (hs_b1.mpr hh) q
  unfold wpY_insideRight
  refine hs_yOpener C hi hib hs_paOK ?_
  have lp : ∀ x6 : Int32, wY_insideRight_35 post (nI (h i)) x6 y_maxObjects y_maxSteps y_maxDepth y_kept y_end y_tokens y_pending y_lines y_classes y_prints y_place y_steps y_d y_valTop y_opTop y_opens y_pos y_tk y_tv sm y_target y_err y_code y_outcome y_result y_dry y_want y_starting y_ended y_bad y_hosted ss tx y_numbers y_globals y_entries y_attrs y_classOf y_alive y_orders y_lengths y_letters y_bases y_vals y_ops y_locals y_fRecv y_fLine y_fPos y_fStmt y_fTarget y_fMask y_fHome y_fOps y_fVals y_fNew y_out 1 (hs_b (false || hs_in h ind a 1 9 i)) (hs_b (false || hs_in h ind a 2 9 i)) (-1) → wY_insideRight_35 post (nI (h i)) x6 y_maxObjects y_maxSteps y_maxDepth y_kept y_end y_tokens y_pending y_lines y_classes y_prints y_place y_steps y_d y_valTop y_opTop y_opens y_pos y_tk y_tv sm y_target y_err y_code y_outcome y_result y_dry y_want y_starting y_ended y_bad y_hosted ss tx y_numbers y_globals y_entries y_attrs y_classOf y_alive y_orders y_lengths y_letters y_bases y_vals y_ops y_locals y_fRecv y_fLine y_fPos y_fStmt y_fTarget y_fMask y_fHome y_fOps y_fVals y_fNew y_out 10 (hs_b false) (hs_b false) (hs_pI P (hs_pa ind a i)) := fun x6 H => hs_yInL C Hh 9 i false false hi hib (by omega) H
  cases e : hs_pa ind a i with
  | none =>
    have nd : ¬ hs_dir h ind a i := by
      rintro ⟨p, e', _⟩
      rw [e] at e'; cases e'
    refine br_t (show hs_pI P none < 0 by show (-1 : Int32) < 0; decide) ⟨10, ?_⟩
    have := lp 0 (fin 0 ⟨fun _ => nd, fun _ => rfl⟩)
    rw [e] at this
    exact this
  | some p =>
    have hp := hs_paOK (ind := ind) (a := a) (i := i)
    rw [e] at hp
    obtain ⟨p1, p2, p3, p4⟩ := hp
    have hpb : p < b := by omega
    obtain ⟨k1, k2, k3⟩ := Hh p p1 hpb
    obtain ⟨q1, q2, q3, q4, q5⟩ := C.2.2.2.1 p p1 hpb
    have hc := C.1.1
    show (nI (P p) < 0 → _) ∧ _
    refine br_f (nI_pos (by omega)) (And.intro (vp_in_nI (by omega) (by decide)) ?_)
    rw [show hs_pI P (some p) = nI (P p) from rfl, nI_clamp (show P p < 2 ^ 31 by omega), k1]
    refine pk_eq (h p) 1 (fun e1 => ⟨10, ?_⟩) (fun e1 => ⟨10, ?_⟩)
    · have := lp 1 (fin 1 ⟨fun y => absurd y (by decide), fun y => absurd ⟨p, e, e1⟩ y⟩)
      rw [e] at this
      exact this
    · have nd : ¬ hs_dir h ind a i := by
        rintro ⟨p', e', h1⟩
        rw [e] at e'; cases e'
        exact e1 h1
      have := lp 0 (fin 0 ⟨fun _ => nd, fun _ => rfl⟩)
      rw [e] at this
      exact this
/-- the loop of placeRight over the lines before i -/
theorem hs_yPl {tx : Nat → Int32} {cs ce a b i : Nat} {P ind h : Nat → Nat} {sm ss : Int32} (C : hs_Ch tx cs ce a b P ind) (Hh : hs_H tx a b P h) (hi : a ≤ i) (hib : i < b) {post : Int32 → Prop}
    (Hb : (∃ m, a ≤ m ∧ m < i ∧ hs_tb h ind i m) → post 0)
    (Hx : (∀ m, a ≤ m → m < i → ¬ hs_tb h ind i m) → ∀ n, wY_placeRight_26 post (nI (P i)) (nI (ind i)) (nI (h i)) y_maxObjects y_maxSteps y_maxDepth y_kept y_end y_tokens y_pending y_lines y_classes y_prints y_place y_steps y_d y_valTop y_opTop y_opens y_pos y_tk y_tv sm y_target y_err y_code y_outcome y_result y_dry y_want y_starting y_ended y_bad y_hosted ss tx y_numbers y_globals y_entries y_attrs y_classOf y_alive y_orders y_lengths y_letters y_bases y_vals y_ops y_locals y_fRecv y_fLine y_fPos y_fStmt y_fTarget y_fMask y_fHome y_fOps y_fVals y_fNew y_out (n + 1) (hs_pI P (if i = a then none else some (i - 1))) (hs_pI P (hs_lf ind (ind i) a i)) (nI (P i))) :
    ∀ (n q m : Nat), P i + 1 ≤ n + q → cs ≤ q → q ≤ P i → hs_ls tx cs q → a ≤ m → m ≤ i → (∀ j, a ≤ j → j < b → (j < m ↔ P j < q)) → (∀ m', a ≤ m' → m' < m → ¬ hs_tb h ind i m') →
    ∀ x4 x5 : Int32, x4 = hs_pI P (if m = a then none else some (m - 1)) → x5 = hs_pI P (hs_lf ind (ind i) a m) → wY_placeRight_26 post (nI (P i)) (nI (ind i)) (nI (h i)) y_maxObjects y_maxSteps y_maxDepth y_kept y_end y_tokens y_pending y_lines y_classes y_prints y_place y_steps y_d y_valTop y_opTop y_opens y_pos y_tk y_tv sm y_target y_err y_code y_outcome y_result y_dry y_want y_starting y_ended y_bad y_hosted ss tx y_numbers y_globals y_entries y_attrs y_classOf y_alive y_orders y_lengths y_letters y_bases y_vals y_ops y_locals y_fRecv y_fLine y_fPos y_fStmt y_fTarget y_fMask y_fHome y_fOps y_fVals y_fNew y_out n x4 x5 (nI q) := by
  have C' := C
  obtain ⟨⟨hc, h0, hok⟩, hnz, hcs, hP, hm, hall⟩ := C
  obtain ⟨pi1, pi2, pi3, pi4, pi5⟩ := hP i hi hib
  have li := hs_indLe C' hi hib
  have hi31 := (Hh i hi hib).2.2
  intro n
  induction n with
  | zero => intro q m h1 _ h2; omega
  | succ n ih =>
    intro q m h1 h2 h3 hl hm1 hm2 hjm htb x4 x5 ex4 ex5
    subst ex4 ex5
    by_cases hq : q = P i
    · have em : m = i := by
        rcases Nat.lt_or_ge m i with z | z
        · have := (hjm m hm1 (by omega)).mpr (by rw [hq]; exact hm m i hm1 z hib)
          omega
        · omega
      subst em hq
      exact Hx htb n
    · have step : ∀ m', m ≤ m' → m' ≤ i → (∀ q', q < q' → (∀ j, a ≤ j → j < b → P j ≤ q ∨ q' ≤ P j) → ∀ j, a ≤ j → j < b → (j < m' ↔ P j < q')) → (∀ k, a ≤ k → k < m' → ¬ hs_tb h ind i k) → wY_placeRight_115 post (wY_placeRight_26 post (nI (P i)) (nI (ind i)) (nI (h i)) y_maxObjects y_maxSteps y_maxDepth y_kept y_end y_tokens y_pending y_lines y_classes y_prints y_place y_steps y_d y_valTop y_opTop y_opens y_pos y_tk y_tv sm y_target y_err y_code y_outcome y_result y_dry y_want y_starting y_ended y_bad y_hosted ss tx y_numbers y_globals y_entries y_attrs y_classOf y_alive y_orders y_lengths y_letters y_bases y_vals y_ops y_locals y_fRecv y_fLine y_fPos y_fStmt y_fTarget y_fMask y_fHome y_fOps y_fVals y_fNew y_out n) (nI (P i)) (nI (ind i)) (nI (h i)) (hs_pI P (if m' = a then none else some (m' - 1))) (hs_pI P (hs_lf ind (ind i) a m')) (nI q) y_maxObjects y_maxSteps y_maxDepth y_kept y_end y_tokens y_pending y_lines y_classes y_prints y_place y_steps y_d y_valTop y_opTop y_opens y_pos y_tk y_tv sm y_target y_err y_code y_outcome y_result y_dry y_want y_starting y_ended y_bad y_hosted ss tx y_numbers y_globals y_entries y_attrs y_classOf y_alive y_orders y_lengths y_letters y_bases y_vals y_ops y_locals y_fRecv y_fLine y_fPos y_fStmt y_fTarget y_fMask y_fHome y_fOps y_fVals y_fNew y_out := by
        intro m' mm1 mm2 hj' ht'
        obtain ⟨q2, hq2⟩ := hs_nlEx ⟨hc, h0, hok⟩ (p := q) (by omega)
        unfold wY_placeRight_115
        refine hs_yNL ⟨hc, h0, hok⟩ (by omega) hq2 ?_
        rcases hs_adv C' (by omega) hq2 with ⟨g0, g1, g2⟩ | ⟨g0, g1, g1', g2, g3⟩
        · have := g2 i hi hib; omega
        · have en : hs_nx tx q2 = nI (q2 + 1) := if_neg g0
          rw [en]
          refine ih (q2 + 1) m' (by omega) (by omega) ?_ g2 (by omega) mm2 (hj' (q2 + 1) (by omega) g3) ht' _ _ rfl rfl
          rcases g3 i hi hib with z | z <;> omega
      refine br_f (nI_ge (by omega) (by omega)) (And.intro (vp_in_nI (by omega) (by decide)) ?_)
      rw [nI_clamp (show q < 2 ^ 31 by omega)]
      refine hs_yends (hok q h2 (by omega)) (fun he => br_f (by decide) (step m (Nat.le_refl _) hm2 (fun q' q1 q3 j ja jb => ?_) htb)) (fun he => br_t rfl ?_)
      · rw [hjm j ja jb]
        constructor
        · intro y; omega
        · intro y
          rcases q3 j ja jb with z | z
          · rcases Nat.lt_or_ge (P j) q with w | w
            · exact w
            · have ej : P j = q := by omega
              have := (hP j ja jb).2.2.1
              rw [ej] at this; exact absurd he this
          · omega
      · obtain ⟨j, ja, jb, rfl⟩ := hall q (by omega) (by omega) he hl
        have hji : j < i := by
          rcases Nat.lt_or_ge j i with z | z
          · exact z
          · rcases Nat.lt_or_ge i j with y | y
            · have := hm i j hi y jb; omega
            · have y2 : j = i := by omega
              subst y2; omega
        have ejm : j = m := by
          rcases Nat.lt_trichotomy j m with z | z | z
          · have := (hjm j ja jb).mp z; omega
          · exact z
          · have := (hjm m hm1 (by omega)).mpr (hm m j hm1 z jb); omega
        subst ejm
        obtain ⟨k1, k2, k3⟩ := Hh j ja jb
        have lj := hs_indLe C' ja jb
        have hj5 := (hP j ja jb).2.2.2.2
        have hcnt : ∀ q', P j < q' → (∀ j', a ≤ j' → j' < b → P j' ≤ P j ∨ q' ≤ P j') → ∀ j', a ≤ j' → j' < b → (j' < j + 1 ↔ P j' < q') := by
          intro q' q1 q3 j' ja' jb'
          constructor
          · intro y
            rcases Nat.lt_or_ge j' j with w | w
            · have := hm j' j ja' w jb; omega
            · have : j' = j := by omega
              subst this; exact q1
          · intro y
            rcases Nat.lt_or_ge j j' with w | w
            · have := hm j j' ja w jb'
              rcases q3 j' ja' jb' with z | z <;> omega
            · omega
        refine hs_yIndent C' (by omega) (by omega) hl ?_
        rw [← hj5]
        have e4 : hs_pI P (if j + 1 = a then none else some (j + 1 - 1)) = nI (P j) := by
          rw [if_neg (by omega)]; rfl
        -- line j as a try line
        have s64 : wY_placeRight_64 post (wY_placeRight_26 post (nI (P i)) (nI (ind i)) (nI (h i)) y_maxObjects y_maxSteps y_maxDepth y_kept y_end y_tokens y_pending y_lines y_classes y_prints y_place y_steps y_d y_valTop y_opTop y_opens y_pos y_tk y_tv sm y_target y_err y_code y_outcome y_result y_dry y_want y_starting y_ended y_bad y_hosted ss tx y_numbers y_globals y_entries y_attrs y_classOf y_alive y_orders y_lengths y_letters y_bases y_vals y_ops y_locals y_fRecv y_fLine y_fPos y_fStmt y_fTarget y_fMask y_fHome y_fOps y_fVals y_fNew y_out n) (nI (P i)) (nI (ind i)) (nI (h i)) (nI (P j)) (hs_pI P (hs_lf ind (ind i) a (j + 1))) (nI (P j)) y_maxObjects y_maxSteps y_maxDepth y_kept y_end y_tokens y_pending y_lines y_classes y_prints y_place y_steps y_d y_valTop y_opTop y_opens y_pos y_tk y_tv sm y_target y_err y_code y_outcome y_result y_dry y_want y_starting y_ended y_bad y_hosted ss tx y_numbers y_globals y_entries y_attrs y_classOf y_alive y_orders y_lengths y_letters y_bases y_vals y_ops y_locals y_fRecv y_fLine y_fPos y_fStmt y_fTarget y_fMask y_fHome y_fOps y_fVals y_fNew y_out := by
          have go : ¬ hs_tb h ind i j → wY_placeRight_115 post (wY_placeRight_26 post (nI (P i)) (nI (ind i)) (nI (h i)) y_maxObjects y_maxSteps y_maxDepth y_kept y_end y_tokens y_pending y_lines y_classes y_prints y_place y_steps y_d y_valTop y_opTop y_opens y_pos y_tk y_tv sm y_target y_err y_code y_outcome y_result y_dry y_want y_starting y_ended y_bad y_hosted ss tx y_numbers y_globals y_entries y_attrs y_classOf y_alive y_orders y_lengths y_letters y_bases y_vals y_ops y_locals y_fRecv y_fLine y_fPos y_fStmt y_fTarget y_fMask y_fHome y_fOps y_fVals y_fNew y_out n) (nI (P i)) (nI (ind i)) (nI (h i)) (nI (P j)) (hs_pI P (hs_lf ind (ind i) a (j + 1))) (nI (P j)) y_maxObjects y_maxSteps y_maxDepth y_kept y_end y_tokens y_pending y_lines y_classes y_prints y_place y_steps y_d y_valTop y_opTop y_opens y_pos y_tk y_tv sm y_target y_err y_code y_outcome y_result y_dry y_want y_starting y_ended y_bad y_hosted ss tx y_numbers y_globals y_entries y_attrs y_classOf y_alive y_orders y_lengths y_letters y_bases y_vals y_ops y_locals y_fRecv y_fLine y_fPos y_fStmt y_fTarget y_fMask y_fHome y_fOps y_fVals y_fNew y_out := by
            intro hnb
            have := step (j + 1) (by omega) (by omega) hcnt (fun k ka kb => by
              by_cases ek : k = j
              · subst ek; exact hnb
              · exact htb k ka (by omega))
            rw [e4] at this
            exact this
          unfold wY_placeRight_64
          refine And.intro (vp_in_nI (by omega) (by decide)) ?_
          rw [nI_clamp (show P j < 2 ^ 31 by omega), k1]
          refine pk_eq (h j) 7 (fun e7 => ?_) (fun e7 => go (fun y => e7 y.1))
          refine hs_yIndent C' (by omega) (by omega) hl ?_
          rw [← hj5]
          refine pk_lt (ind j) (ind i) (fun z => go (fun y => by have := y.2.1; omega)) (fun z => ?_)
          have F := hs_bkFo (ind := ind) (b := b) (i := j) jb
          refine hs_yFollow C' ja jb F ?_
          obtain ⟨F1, F2, F3, F4⟩ := F
          have efi : hs_at P b (hs_bk ind b j) = nI (P i) ↔ hs_bk ind b j = i := by
            unfold hs_at
            constructor
            · intro y
              split at y
              · rename_i lt
                have y2 := (nI_eq (by have := (hP _ (by omega) lt).2.1; omega) (by omega)).mp y
                rcases Nat.lt_trichotomy (hs_bk ind b j) i with w | w | w
                · have := hm _ i (by omega) w hib; omega
                · exact w
                · have := hm i _ hi w lt; omega
              · exact absurd y.symm (fun y => by
                  have : nI (P i) < 0 := by rw [y]; decide
                  exact nI_pos (by omega) this)
            · rintro rfl
              rw [if_pos hib]
          have ebk : hs_bk ind b j = i ↔ ∀ k, j < k → k < i → ind j < ind k := by
            constructor
            · rintro rfl k kk1 kk2
              exact (F3 k kk1 kk2).2
            · intro hk
              rcases Nat.lt_trichotomy (hs_bk ind b j) i with w | w | w
              · have y1 := hk _ F1 w
                rcases F4 (by omega) with y2 | y2
                · exact absurd y2 (by decide)
                · omega
              · exact w
              · have := (F3 i hji w).2; omega
          refine br_c (fun q1 => ?_) (fun q1 => go (fun y => q1 (efi.mpr (ebk.mpr y.2.2.1))))
          have hk := ebk.mp (efi.mp q1)
          refine pk_eq (h i) 8 (fun e8 => ?_) (fun e8 => Hb ⟨j, ja, hji, e7, z, hk, fun y => e8 y.1⟩)
          refine hs_yIndent C' (by omega) (by omega) hl ?_
          rw [← hj5]
          exact pk_eq (ind i) (ind j) (fun ee => go (fun y => y.2.2.2 ⟨e8, ee⟩)) (fun ee => Hb ⟨j, ja, hji, e7, z, hk, fun y => ee y.2⟩)
        have es := hs_lfSucc (ind := ind) (x := ind i) ja
        refine pk_lt (ind i) (ind j) (fun z => ?_) (fun z => ?_)
        · rw [if_neg (by omega)] at es
          rw [es] at s64
          exact s64
        · rw [if_pos z] at es
          rw [es] at s64
          exact s64
end
