/-! a line's place, whole, on X's side -/
section
variable {x_objectLimit x_stepLimit x_depthLimit x_pendingCount x_keptTokens x_keptLines x_lineCount x_codeCount x_cursor x_stop x_waitingCount x_openCount x_classCount x_callCount x_operandCount x_stepsTaken x_error x_raisedCode x_printCount x_lastPlace : Int32} {x_lastResult : Int64} {x_pending x_lineTable x_orders x_merging x_letterClass x_objectClass x_calls x_lastPrints : Nat → Int32} {x_code x_waiting x_globals x_entries x_attributes x_held x_operands : Nat → Int64}
variable {y_maxObjects y_maxSteps y_maxDepth y_kept y_end y_tokens y_pending y_lines y_classes y_prints y_place y_steps y_d y_valTop y_opTop y_opens y_pos y_tk y_tv y_stmt y_target y_err y_code y_outcome y_dry y_want y_starting y_ended y_bad y_hosted y_sawSuper : Int32} {y_result : Int64} {y_text y_numbers y_classOf y_alive y_orders y_lengths y_letters y_bases y_ops y_fLine y_fPos y_fStmt y_fTarget y_fMask y_fHome y_fOps y_fVals y_fNew y_out : Nat → Int32} {y_globals y_entries y_attrs y_vals y_locals y_fRecv : Nat → Int64}
theorem hs_xSup0 {pd LT : Nat → Int32} {R e : Nat} (hE : LT (R + 12) = nI e) (hR : R + 14 ≤ 5670) (he : e ≤ 400) {post : Int32 → Prop} : ∀ (ts : List Nat) (c : Nat), hs_PA pd e c ts → (13 ∈ ts → post 1) → (13 ∉ ts → post 0) → wX_usesSuper_15 post (nI R) x_objectLimit x_stepLimit x_depthLimit x_pendingCount x_keptTokens x_keptLines x_lineCount x_codeCount x_cursor x_stop x_waitingCount x_openCount x_classCount x_callCount x_operandCount x_stepsTaken x_error x_raisedCode x_printCount x_lastResult x_lastPlace pd LT x_code x_waiting x_globals x_entries x_orders x_merging x_letterClass x_objectClass x_attributes x_calls x_held x_operands x_lastPrints (ts.length + 1) (nI c) := by
  have e12 : nI R + 12 = nI (R + 12) := nI_add R 12
  intro ts
  induction ts with
  | nil =>
    intro c h H1 H0
    have hc : c = e := h
    rw [show ([] : List Nat).length + 1 = 0 + 1 from rfl]
    refine And.intro (by rw [e12]; exact vp_in_nI (by omega) (by decide)) ?_
    rw [e12, nI_clamp (show R + 12 < 2 ^ 31 by omega), hE]
    exact br_t (nI_le (by omega) (by omega)) (H0 (by simp))
  | cons t r ih =>
    intro c h H1 H0
    have hl := hs_PAlen h
    simp only [List.length_cons] at hl
    refine And.intro (by rw [e12]; exact vp_in_nI (by omega) (by decide)) ?_
    rw [e12, nI_clamp (show R + 12 < 2 ^ 31 by omega), hE]
    refine br_f (nI_ge (by omega) (by omega)) (And.intro (vp_in_nI (by omega) (by decide)) ?_)
    rw [nI_clamp (show c < 2 ^ 31 by omega)]
    have e13 := hs_rxE (k := 13) h.1 (Or.inr ⟨Or.inl (by decide), by decide⟩) (by decide)
    refine br_c (fun q => H1 (by rw [e13.mp q]; simp)) (fun q => nm_r (nI_1 c) (ih (c + 1) h.2.2 (fun y => H1 (List.mem_cons_of_mem _ y)) (fun y => H0 (fun z => ?_))))
    rcases List.mem_cons.mp z with z | z
    · exact q (e13.mpr z.symm)
    · exact y z
theorem hs_xSup {pd LT : Nat → Int32} {i c e : Nat} {ts : List Nat} (hi : i < 405) (hT : LT (i * 14 + 11) = nI c) (hE : LT (i * 14 + 12) = nI e) (he : e ≤ 400) (hPA : hs_PA pd e c ts) {post : Int32 → Prop} (H1 : 13 ∈ ts → post 1) (H0 : 13 ∉ ts → post 0) : wpX_usesSuper post (x_objectLimit, x_stepLimit, x_depthLimit, x_pendingCount, x_keptTokens, x_keptLines, x_lineCount, x_codeCount, x_cursor, x_stop, x_waitingCount, x_openCount, x_classCount, x_callCount, x_operandCount, x_stepsTaken, x_error, x_raisedCode, x_printCount, x_lastResult, x_lastPlace, pd, LT, x_code, x_waiting, x_globals, x_entries, x_orders, x_merging, x_letterClass, x_objectClass, x_attributes, x_calls, x_held, x_operands, x_lastPrints) (nI i) := by
  have em : nI i * 14 = nI (i * 14) := pk_mul i 14
  have e11 : nI (i * 14) + 11 = nI (i * 14 + 11) := nI_add _ 11
  refine nm_r em ?_
  rw [e11, nI_clamp (show i * 14 + 11 < 2 ^ 31 by omega), hT]
  exact And.intro (vp_in_nI (by omega) (by decide)) (nm_e ⟨_, hs_xSup0 hE (by omega) he ts c hPA H1 H0⟩)
/-- the table holds the parents of the lines a .. m - 1 -/
def hs_PR (LT : Nat → Int32) (ind : Nat → Nat) (a m : Nat) : Prop := ∀ j, a ≤ j → j < m → LT (j * 14 + 3) = hs_oI (hs_pa ind a j)
theorem hs_bor (c d : Bool) : hs_b c ||| hs_b d = hs_b (c || d) := by cases c <;> cases d <;> decide
theorem hs_xIn {LT : Nat → Int32} {h ind : Nat → Nat} {a m : Nat} {x1 x2 x3 : Int32} (hm : m ≤ 405) (K : hs_IK LT h ind a m) (Q : hs_PR LT ind a m) {post : Int32 → Prop} :
    ∀ (n j k : Nat) (c d : Bool), a ≤ j → j < m → ind j + k ≤ 8 → ind j < n → wX_placeIsRight_94 post x1 x2 x3 (hs_b (c || hs_in h ind a 1 n j)) (hs_b (d || hs_in h ind a 2 n j)) x_objectLimit x_stepLimit x_depthLimit x_pendingCount x_keptTokens x_keptLines x_lineCount x_codeCount x_cursor x_stop x_waitingCount x_openCount x_classCount x_callCount x_operandCount x_stepsTaken x_error x_raisedCode x_printCount x_lastResult x_lastPlace x_pending LT x_code x_waiting x_globals x_entries x_orders x_merging x_letterClass x_objectClass x_attributes x_calls x_held x_operands x_lastPrints → wX_placeIsRight_26 post x1 x2 x3 x_objectLimit x_stepLimit x_depthLimit x_pendingCount x_keptTokens x_keptLines x_lineCount x_codeCount x_cursor x_stop x_waitingCount x_openCount x_classCount x_callCount x_operandCount x_stepsTaken x_error x_raisedCode x_printCount x_lastResult x_lastPlace x_pending LT x_code x_waiting x_globals x_entries x_orders x_merging x_letterClass x_objectClass x_attributes x_calls x_held x_operands x_lastPrints (n + 1) (hs_b c) (hs_b d) (hs_oI (hs_pa ind a j)) (nI k) := by
  intro n
  induction n with
  | zero => intro j k c d _ _ _ h; omega
  | succ n ih =>
    intro j k c d ja jm hk hn H
    refine br_f (nI_ge (b := 9) (by omega) (by decide)) ?_
    unfold hs_in at H
    have hp := hs_paOK (ind := ind) (a := a) (i := j)
    cases e : hs_pa ind a j with
    | none =>
      rw [e] at H
      have H : wX_placeIsRight_94 post x1 x2 x3 (hs_b (c || false)) (hs_b (d || false)) x_objectLimit x_stepLimit x_depthLimit x_pendingCount x_keptTokens x_keptLines x_lineCount x_codeCount x_cursor x_stop x_waitingCount x_openCount x_classCount x_callCount x_operandCount x_stepsTaken x_error x_raisedCode x_printCount x_lastResult x_lastPlace x_pending LT x_code x_waiting x_globals x_entries x_orders x_merging x_letterClass x_objectClass x_attributes x_calls x_held x_operands x_lastPrints := H
      rw [Bool.or_false, Bool.or_false] at H
      exact br_t (show hs_oI none < 0 by show (-1 : Int32) < 0; decide) H
    | some p =>
      rw [e] at H hp
      have H : wX_placeIsRight_94 post x1 x2 x3 (hs_b (c || (decide (h p = 1) || hs_in h ind a 1 n p))) (hs_b (d || (decide (h p = 2) || hs_in h ind a 2 n p))) x_objectLimit x_stepLimit x_depthLimit x_pendingCount x_keptTokens x_keptLines x_lineCount x_codeCount x_cursor x_stop x_waitingCount x_openCount x_classCount x_callCount x_operandCount x_stepsTaken x_error x_raisedCode x_printCount x_lastResult x_lastPlace x_pending LT x_code x_waiting x_globals x_entries x_orders x_merging x_letterClass x_objectClass x_attributes x_calls x_held x_operands x_lastPrints := H
      obtain ⟨p1, p2, p3, p4⟩ := hp
      obtain ⟨k1, k2, k3⟩ := K p p1 (by omega)
      have E1 := hs_kdE (w := 1) k2 (by decide)
      have E2 := hs_kdE (w := 2) k2 (by decide)
      rw [show hs_oI (some p) = nI p from rfl]
      refine br_f (nI_pos (by omega)) (hs_xOf (c := 0) (by omega) ?_)
      rw [← Bool.or_assoc, ← Bool.or_assoc] at H
      have s76 : ∀ (c' b2 : Bool), b2 = decide (h p = 2) → wX_placeIsRight_94 post x1 x2 x3 (hs_b (c' || hs_in h ind a 1 n p)) (hs_b ((d || decide (h p = 2)) || hs_in h ind a 2 n p)) x_objectLimit x_stepLimit x_depthLimit x_pendingCount x_keptTokens x_keptLines x_lineCount x_codeCount x_cursor x_stop x_waitingCount x_openCount x_classCount x_callCount x_operandCount x_stepsTaken x_error x_raisedCode x_printCount x_lastResult x_lastPlace x_pending LT x_code x_waiting x_globals x_entries x_orders x_merging x_letterClass x_objectClass x_attributes x_calls x_held x_operands x_lastPrints → wX_placeIsRight_76 post (wX_placeIsRight_26 post x1 x2 x3 x_objectLimit x_stepLimit x_depthLimit x_pendingCount x_keptTokens x_keptLines x_lineCount x_codeCount x_cursor x_stop x_waitingCount x_openCount x_classCount x_callCount x_operandCount x_stepsTaken x_error x_raisedCode x_printCount x_lastResult x_lastPlace x_pending LT x_code x_waiting x_globals x_entries x_orders x_merging x_letterClass x_objectClass x_attributes x_calls x_held x_operands x_lastPrints (n + 1)) x1 x2 x3 (hs_b c') (nI p) (nI k) (hs_b b2) (hs_b d) x_objectLimit x_stepLimit x_depthLimit x_pendingCount x_keptTokens x_keptLines x_lineCount x_codeCount x_cursor x_stop x_waitingCount x_openCount x_classCount x_callCount x_operandCount x_stepsTaken x_error x_raisedCode x_printCount x_lastResult x_lastPlace x_pending LT x_code x_waiting x_globals x_entries x_orders x_merging x_letterClass x_objectClass x_attributes x_calls x_held x_operands x_lastPrints := by
        intro c' b2 eb H'
        unfold wX_placeIsRight_76
        refine nm_r (hs_bor d b2) (hs_xOf (c := 3) (by omega) ?_)
        rw [Q p p1 (by omega), eb]
        exact nm_r (nI_1 k) (ih p (k + 1) c' (d || decide (h p = 2)) p1 (by omega) (by omega) (by omega) H')
      have s60 : ∀ b1 : Bool, b1 = decide (h p = 1) → wX_placeIsRight_60 post (wX_placeIsRight_26 post x1 x2 x3 x_objectLimit x_stepLimit x_depthLimit x_pendingCount x_keptTokens x_keptLines x_lineCount x_codeCount x_cursor x_stop x_waitingCount x_openCount x_classCount x_callCount x_operandCount x_stepsTaken x_error x_raisedCode x_printCount x_lastResult x_lastPlace x_pending LT x_code x_waiting x_globals x_entries x_orders x_merging x_letterClass x_objectClass x_attributes x_calls x_held x_operands x_lastPrints (n + 1)) x1 x2 x3 (hs_b d) (nI p) (nI k) (LT (p * 14 + 0)) (hs_b b1) (hs_b c) x_objectLimit x_stepLimit x_depthLimit x_pendingCount x_keptTokens x_keptLines x_lineCount x_codeCount x_cursor x_stop x_waitingCount x_openCount x_classCount x_callCount x_operandCount x_stepsTaken x_error x_raisedCode x_printCount x_lastResult x_lastPlace x_pending LT x_code x_waiting x_globals x_entries x_orders x_merging x_letterClass x_objectClass x_attributes x_calls x_held x_operands x_lastPrints := by
        intro b1 eb
        unfold wX_placeIsRight_60
        refine nm_r (hs_bor c b1) ?_
        rw [eb]
        refine br_c (fun q => s76 (c || decide (h p = 1)) true (decide_eq_true (E2.mp q)).symm H) (fun q => s76 (c || decide (h p = 1)) false (decide_eq_false (fun y => q (E2.mpr y))).symm H)
      exact br_c (fun q => s60 true (decide_eq_true (E1.mp q)).symm) (fun q => s60 false (decide_eq_false (fun y => q (E1.mpr y))).symm)
theorem hs_xPlc {pd LT : Nat → Int32} {h ind : Nat → Nat} {a i c e : Nat} {ts : List Nat} (hai : a ≤ i) (hi : i < 405) (K : hs_IK LT h ind a (i + 1)) (Q : hs_PR LT ind a (i + 1)) (hT : LT (i * 14 + 11) = nI c) (hE : LT (i * 14 + 12) = nI e) (he : e ≤ 400) (hPA : hs_PA pd e c ts) (h15 : LT (i * 14) = 15 ↔ hs_s15 ts) (hh : h i = hs_hd ts) {post : Int32 → Prop} (H1 : hs_wr h ind a i (hs_s15 ts) (13 ∈ ts) → post 1) (H0 : ¬ hs_wr h ind a i (hs_s15 ts) (13 ∈ ts) → post 0) : wpX_placeIsRight post (x_objectLimit, x_stepLimit, x_depthLimit, x_pendingCount, x_keptTokens, x_keptLines, x_lineCount, x_codeCount, x_cursor, x_stop, x_waitingCount, x_openCount, x_classCount, x_callCount, x_operandCount, x_stepsTaken, x_error, x_raisedCode, x_printCount, x_lastResult, x_lastPlace, pd, LT, x_code, x_waiting, x_globals, x_entries, x_orders, x_merging, x_letterClass, x_objectClass, x_attributes, x_calls, x_held, x_operands, x_lastPrints) (nI i) := by
  obtain ⟨k1, k2, k3⟩ := K i hai (by omega)
  have E := fun w hw => hs_kdE (w := w) k2 hw
  have s15n : hs_s15 ts → ¬ (1 ≤ h i ∧ h i ≤ 11) := by
    intro y
    cases ts with
    | nil => exact y.elim
    | cons t r =>
      have := hs_tkN y.1
      have e : h i = t := hh
      omega
  unfold wpX_placeIsRight
  refine hs_xOf (c := 0) (by omega) (hs_xOf (c := 3) (by omega) ?_)
  rw [Q i hai (by omega), show i * 14 + 0 = i * 14 from rfl]
  refine ⟨10, hs_xIn (by omega) K Q 9 i 0 false false hai (by omega) (by omega) (by omega) ?_⟩
  rw [Bool.false_or, Bool.false_or]
  -- what is left when super and return are well placed
  have f114 : ((h i = 3 ∨ 13 ∈ ts) → hs_in h ind a 2 9 i = true) → wX_placeIsRight_114 post (LT (i * 14)) (hs_oI (hs_pa ind a i)) (hs_b (hs_in h ind a 1 9 i)) x_objectLimit x_stepLimit x_depthLimit x_pendingCount x_keptTokens x_keptLines x_lineCount x_codeCount x_cursor x_stop x_waitingCount x_openCount x_classCount x_callCount x_operandCount x_stepsTaken x_error x_raisedCode x_printCount x_lastResult x_lastPlace pd LT x_code x_waiting x_globals x_entries x_orders x_merging x_letterClass x_objectClass x_attributes x_calls x_held x_operands x_lastPrints := by
    intro g2
    unfold wX_placeIsRight_114
    have dirI : ∀ kp : Int32, (kp = 1 ↔ hs_dir h ind a i) → ((kp = 1 → ((LT (i * 14) = 10 → post 1) ∧ (¬ LT (i * 14) = 10 → ((LT (i * 14) = 2 → post 1) ∧ (¬ LT (i * 14) = 2 → ((LT (i * 14) = 15 → post 1) ∧ (¬ LT (i * 14) = 15 → post 0))))))) ∧ (¬ kp = 1 → ((LT (i * 14) = 2 → post 0) ∧ (¬ LT (i * 14) = 2 → ((hs_b (hs_in h ind a 1 9 i) = 0 → post 1) ∧ (¬ hs_b (hs_in h ind a 1 9 i) = 0 → ((LT (i * 14) = 1 → post 0) ∧ (¬ LT (i * 14) = 1 → post 1)))))))) := by
      intro kp hkp
      refine br_c (fun q => ?_) (fun q => ?_)
      · have dd := hkp.mp q
        refine br_c (fun q10 => ?_) (fun q10 => br_c (fun q2 => ?_) (fun q2 => br_c (fun q15 => ?_) (fun q15 => ?_)))
        · have := (E 10 (by decide)).mp q10
          exact H1 ⟨fun y => by omega, g2, fun _ => Or.inl this, fun y => absurd dd y⟩
        · have := (E 2 (by decide)).mp q2
          exact H1 ⟨fun y => by omega, g2, fun _ => Or.inr (Or.inl this), fun y => absurd dd y⟩
        · have := s15n (h15.mp q15)
          exact H1 ⟨fun y => by omega, g2, fun _ => Or.inr (Or.inr (h15.mp q15)), fun y => absurd dd y⟩
        · refine H0 (fun y => ?_)
          rcases y.2.2.1 dd with z | z | z
          · exact q10 ((E 10 (by decide)).mpr z)
          · exact q2 ((E 2 (by decide)).mpr z)
          · exact q15 (h15.mpr z)
      · have nd : ¬ hs_dir h ind a i := fun y => q (hkp.mpr y)
        refine br_c (fun q2 => H0 (fun y => y.2.2.2 nd ((E 2 (by decide)).mp q2))) (fun q2 => ?_)
        have n2 : h i ≠ 2 := fun y => q2 ((E 2 (by decide)).mpr y)
        refine br_c (fun qc => H1 ⟨fun y => ?_, g2, fun y => absurd y nd, fun _ => n2⟩) (fun qc => br_c (fun q1 => H0 (fun y => y.1 ⟨(E 1 (by decide)).mp q1, ?_⟩)) (fun q1 => H1 ⟨fun y => q1 ((E 1 (by decide)).mpr y.1), g2, fun y => absurd y nd, fun _ => n2⟩))
        · rw [hs_b1.mp qc] at y; cases y.2
        · cases hq : hs_in h ind a 1 9 i with
          | true => rfl
          | false => exact absurd (hs_b1.mpr hq) qc
    cases ep : hs_pa ind a i with
    | none =>
      refine hs_xOfM (c := 0) (dirI (-1) ⟨fun y => absurd y (by decide), fun y => ?_⟩)
      obtain ⟨p, e', _⟩ := y
      rw [ep] at e'; cases e'
    | some p =>
      have hp := hs_paOK (ind := ind) (a := a) (i := i)
      rw [ep] at hp
      obtain ⟨p1, p2, p3, p4⟩ := hp
      obtain ⟨m1, m2, m3⟩ := K p p1 (by omega)
      refine hs_xOf (c := 0) (by omega) (dirI _ ?_)
      refine (hs_kdE (w := 1) m2 (by decide)).trans ?_
      constructor
      · intro y; exact ⟨p, ep, y⟩
      · rintro ⟨p', e', y⟩
        rw [ep] at e'; cases e'
        exact y
  unfold wX_placeIsRight_94
  refine br_c (fun qd => br_c (fun q3 => H0 (fun y => ?_)) (fun q3 => hs_xSup hi hT hE he hPA (fun s13 => br_f (by decide) (H0 (fun y => ?_))) (fun s13 => br_t rfl (f114 (fun y => ?_))))) (fun qd => f114 (fun _ => ?_))
  · have := y.2.1 (Or.inl ((E 3 (by decide)).mp q3))
    rw [hs_b1.mp qd] at this; cases this
  · have := y.2.1 (Or.inr s13)
    rw [hs_b1.mp qd] at this; cases this
  · rcases y with y | y
    · exact absurd ((E 3 (by decide)).mpr y) q3
    · exact absurd y s13
  · cases hq : hs_in h ind a 2 9 i with
    | true => rfl
    | false => exact absurd (hs_b1.mpr hq) qd
theorem hs_xStands {pd LT : Nat → Int32} {h ind : Nat → Nat} {a i c e : Nat} {ts : List Nat} (hai : a ≤ i) (hi : i < 405) (K : hs_IK LT h ind a (i + 1)) (Q : hs_PR LT ind a i) (hT : LT (i * 14 + 11) = nI c) (hE : LT (i * 14 + 12) = nI e) (he : e ≤ 400) (hPA : hs_PA pd e c ts) (h15 : LT (i * 14) = 15 ↔ hs_s15 ts) (hh : h i = hs_hd ts) {post : Int32 → SX → Prop}
    (H1 : hs_pl h ind a i (hs_s15 ts) (13 ∈ ts) → post 1 (x_objectLimit, x_stepLimit, x_depthLimit, x_pendingCount, x_keptTokens, x_keptLines, x_lineCount, x_codeCount, x_cursor, x_stop, x_waitingCount, x_openCount, x_classCount, x_callCount, x_operandCount, x_stepsTaken, x_error, x_raisedCode, x_printCount, x_lastResult, x_lastPlace, pd, upd LT (i * 14 + 3) (hs_oI (hs_pa ind a i)), x_code, x_waiting, x_globals, x_entries, x_orders, x_merging, x_letterClass, x_objectClass, x_attributes, x_calls, x_held, x_operands, x_lastPrints)) (H0 : ¬ hs_pl h ind a i (hs_s15 ts) (13 ∈ ts) → post 0 (x_objectLimit, x_stepLimit, x_depthLimit, x_pendingCount, x_keptTokens, x_keptLines, x_lineCount, x_codeCount, x_cursor, x_stop, x_waitingCount, x_openCount, x_classCount, x_callCount, x_operandCount, x_stepsTaken, x_error, x_raisedCode, x_printCount, x_lastResult, x_lastPlace, pd, upd LT (i * 14 + 3) (hs_oI (hs_pa ind a i)), x_code, x_waiting, x_globals, x_entries, x_orders, x_merging, x_letterClass, x_objectClass, x_attributes, x_calls, x_held, x_operands, x_lastPrints)) : wpX_standsRight post (x_objectLimit, x_stepLimit, x_depthLimit, x_pendingCount, x_keptTokens, x_keptLines, x_lineCount, x_codeCount, x_cursor, x_stop, x_waitingCount, x_openCount, x_classCount, x_callCount, x_operandCount, x_stepsTaken, x_error, x_raisedCode, x_printCount, x_lastResult, x_lastPlace, pd, LT, x_code, x_waiting, x_globals, x_entries, x_orders, x_merging, x_letterClass, x_objectClass, x_attributes, x_calls, x_held, x_operands, x_lastPrints) (nI i) (nI a) := by
  obtain ⟨k1, k2, k3⟩ := K i hai (by omega)
  have K' : hs_IK LT h ind a i := fun j j1 j2 => K j j1 (by omega)
  have em : nI i * 14 = nI (i * 14) := pk_mul i 14
  have e0 : nI (i * 14) + 0 = nI (i * 14) := Int32.add_zero _
  have e1 : nI (i * 14) + 1 = nI (i * 14 + 1) := nI_1 _
  have e3 : nI (i * 14) + 3 = nI (i * 14 + 3) := nI_add _ 3
  have U : ∀ k, k ≠ i * 14 + 3 → upd LT (i * 14 + 3) (hs_oI (hs_pa ind a i)) k = LT k := fun k hk => pk_un hk
  have KU : hs_IK (upd LT (i * 14 + 3) (hs_oI (hs_pa ind a i))) h ind a (i + 1) := by
    intro j j1 j2
    rw [U _ (by omega), U _ (by omega)]
    exact K j j1 j2
  have QU : hs_PR (upd LT (i * 14 + 3) (hs_oI (hs_pa ind a i))) ind a (i + 1) := by
    intro j j1 j2
    by_cases q : j = i
    · subst q; exact pk_us
    · rw [U _ (by omega)]; exact Q j j1 (by omega)
  unfold wpX_standsRight
  refine nm_r em ?_
  rw [e0, e1, e3, nI_clamp (show i * 14 < 2 ^ 31 by omega), nI_clamp (show i * 14 + 1 < 2 ^ 31 by omega), nI_clamp (show i * 14 + 3 < 2 ^ 31 by omega)]
  refine And.intro (vp_in_nI (by omega) (by decide)) (nm_r k1 (And.intro (vp_in_nI (by omega) (by decide)) (nm_e (hs_xPar (by omega) (by omega) k3 K' (And.intro (vp_in_nI (by omega) (by decide)) (nm_e ?_))))))
  have hG : ∀ d, d ≤ 8 → (nI d < nI (ind i) ↔ ¬ ind i ≤ d) := fun d hd => by rw [nI_ltI (by omega) (by omega)]; omega
  have hA : ∀ d, d ≤ 8 → ((LT (i * 14) = 8 ∧ nI d = nI (ind i)) ↔ (h i = 8 ∧ ind i = d)) := fun d hd => by
    have := hs_kdE (w := 8) k2 (by decide)
    rw [nI_eq (by omega) (by omega)]
    constructor
    · rintro ⟨y, z⟩; exact ⟨this.mp y, z.symm⟩
    · rintro ⟨y, z⟩; exact ⟨this.mpr y, z.symm⟩
  refine hs_xIndent hai hi KU (fun w1 => br_f (by decide) ?_) (fun w1 => br_t rfl (H0 (fun y => w1 y.2.1)))
  refine hs_xTries (G := fun d => ind i ≤ d) (A := fun d => h i = 8 ∧ ind i = d) hai (by omega) (fun j j1 j2 => KU j j1 (by omega)) hG hA (fun w2 => br_f (by decide) ?_) (fun ⟨m, m1, m2, m3, m4, m5, m6⟩ => br_t rfl (H0 (fun y => y.1 m m1 m2 ⟨m3, m4, m5, m6⟩)))
  refine hs_xPlc hai hi KU QU ?_ ?_ he hPA ?_ hh (fun w3 => br_f (by decide) (H1 ⟨fun m m1 m2 y => w2 m m1 m2 ⟨y.1, y.2.1, y.2.2.1, y.2.2.2⟩, w1, w3⟩)) (fun w3 => br_t rfl (H0 (fun y => w3 y.2.2)))
  · rw [U _ (by omega)]; exact hT
  · rw [U _ (by omega)]; exact hE
  · rw [U _ (by omega)]; exact h15
theorem hs_xEnd {LT : Nat → Int32} {h ind : Nat → Nat} {a b : Nat} (hab : a ≤ b) (hb : b ≤ 405) (K : hs_IK LT h ind a b) {post : Int32 → Prop} (H1 : hs_eok h ind a b → post 1) (H0 : ¬ hs_eok h ind a b → post 0) : wpX_endIsRight post (x_objectLimit, x_stepLimit, x_depthLimit, x_pendingCount, x_keptTokens, x_keptLines, nI b, x_codeCount, x_cursor, x_stop, x_waitingCount, x_openCount, x_classCount, x_callCount, x_operandCount, x_stepsTaken, x_error, x_raisedCode, x_printCount, x_lastResult, x_lastPlace, x_pending, LT, x_code, x_waiting, x_globals, x_entries, x_orders, x_merging, x_letterClass, x_objectClass, x_attributes, x_calls, x_held, x_operands, x_lastPrints) (nI a) := by
  have ebk : ∀ m, m < b → (hs_bk ind b m = b ↔ ∀ k, m < k → k < b → ind m < ind k) := by
    intro m hm
    obtain ⟨F1, F2, F3, F4⟩ := hs_bkFo (ind := ind) (b := b) (i := m) hm
    constructor
    · intro e k k1 k2
      exact (F3 k k1 (by omega)).2
    · intro hk
      rcases Nat.lt_or_ge (hs_bk ind b m) b with w | w
      · have y1 := hk _ F1 w
        rcases F4 w with y2 | y2
        · exact absurd y2 (by decide)
        · omega
      · omega
  have f34 : (a < b → ¬ hs_isOp (h (b - 1))) → wX_endIsRight_34 post (nI a) x_objectLimit x_stepLimit x_depthLimit x_pendingCount x_keptTokens x_keptLines (nI b) x_codeCount x_cursor x_stop x_waitingCount x_openCount x_classCount x_callCount x_operandCount x_stepsTaken x_error x_raisedCode x_printCount x_lastResult x_lastPlace x_pending LT x_code x_waiting x_globals x_entries x_orders x_merging x_letterClass x_objectClass x_attributes x_calls x_held x_operands x_lastPrints := by
    intro g
    unfold wX_endIsRight_34 wX_endIsRight_35
    refine br_t rfl ?_
    have hG : ∀ d, d ≤ 8 → (nI d < (-1 : Int32) ↔ ¬ True) := fun d hd => ⟨fun y => absurd (Int32.lt_trans y (by decide : (-1 : Int32) < 0)) (nI_pos (by omega)), fun y => absurd trivial y⟩
    have hA : ∀ d, d ≤ 8 → (((0 : Int32) = 8 ∧ nI d = (-1 : Int32)) ↔ False) := fun d hd => ⟨fun y => absurd y.1 (by decide), fun y => y.elim⟩
    refine hs_xTries (G := fun _ => True) (A := fun _ => False) hab hb K hG hA (fun w => br_f (by decide) (H1 ⟨g, fun m m1 m2 m7 e => w m m1 m2 ⟨m7, trivial, (ebk m m2).mp e, id⟩⟩)) (fun ⟨m, m1, m2, m3, _, m5, _⟩ => br_t rfl (H0 (fun y => y.2 m m1 m2 m3 ((ebk m m2).mpr m5))))
  unfold wpX_endIsRight
  refine pk_le b a (fun q => f34 (fun y => by omega)) (fun q => ?_)
  obtain ⟨j, rfl⟩ : ∃ j, b = j + 1 := ⟨b - 1, by omega⟩
  obtain ⟨k1, k2, k3⟩ := K j (by omega) (by omega)
  have ex : (nI (j + 1) - 1) * 14 + 0 = nI (j * 14) := by rw [nI_pred, Int32.add_zero]; exact pk_mul j 14
  rw [ex, nI_clamp (show j * 14 < 2 ^ 31 by omega)]
  refine And.intro (vp_in_nI (by omega) (by decide)) (hs_xIsOp k2 (fun op => br_f (by decide) ?_) (fun op => br_t rfl (f34 (fun _ => op))))
  unfold wX_endIsRight_35
  exact br_f (by decide) (H0 (fun y => y.1 (by omega) op))
end
