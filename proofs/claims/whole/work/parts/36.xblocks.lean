/-! where a line may stand, on X's side -/
section
variable {x_objectLimit x_stepLimit x_depthLimit x_pendingCount x_keptTokens x_keptLines x_lineCount x_codeCount x_cursor x_stop x_waitingCount x_openCount x_classCount x_callCount x_operandCount x_stepsTaken x_error x_raisedCode x_printCount x_lastPlace : Int32} {x_lastResult : Int64} {x_pending x_lineTable x_orders x_merging x_letterClass x_objectClass x_calls x_lastPrints : Nat → Int32} {x_code x_waiting x_globals x_entries x_attributes x_held x_operands : Nat → Int64}
variable {y_maxObjects y_maxSteps y_maxDepth y_kept y_end y_tokens y_pending y_lines y_classes y_prints y_place y_steps y_d y_valTop y_opTop y_opens y_pos y_tk y_tv y_stmt y_target y_err y_code y_outcome y_dry y_want y_starting y_ended y_bad y_hosted y_sawSuper : Int32} {y_result : Int64} {y_text y_numbers y_classOf y_alive y_orders y_lengths y_letters y_bases y_ops y_fLine y_fPos y_fStmt y_fTarget y_fMask y_fHome y_fOps y_fVals y_fNew y_out : Nat → Int32} {y_globals y_entries y_attrs y_vals y_locals y_fRecv : Nat → Int64}
/-- a kind of X against the first token -/
def hs_kd (k : Int32) (h : Nat) : Prop := (1 ≤ h ∧ h ≤ 11 ∧ k = nI h) ∨ (¬ (1 ≤ h ∧ h ≤ 11) ∧ (k = 14 ∨ k = 15 ∨ k = 16 ∨ k = 17))
theorem hs_kdE {k : Int32} {h w : Nat} (hk : hs_kd k h) (hw : 1 ≤ w ∧ w ≤ 11) : k = nI w ↔ h = w := by
  rcases hk with ⟨a, b, rfl⟩ | ⟨a, b⟩
  · exact nI_eq (by omega) (by omega)
  · refine ⟨fun e => ?_, fun e => absurd (by omega) a⟩
    exfalso
    rcases b with b | b | b | b
    · rw [b] at e; exact absurd ((nI_eq (a := 14) (b := w) (by decide) (by omega)).mp e) (by omega)
    · rw [b] at e; exact absurd ((nI_eq (a := 15) (b := w) (by decide) (by omega)).mp e) (by omega)
    · rw [b] at e; exact absurd ((nI_eq (a := 16) (b := w) (by decide) (by omega)).mp e) (by omega)
    · rw [b] at e; exact absurd ((nI_eq (a := 17) (b := w) (by decide) (by omega)).mp e) (by omega)
theorem hs_xIsOp {k : Int32} {h : Nat} (hk : hs_kd k h) {post : Int32 → Prop} (H1 : hs_isOp h → post 1) (H0 : ¬ hs_isOp h → post 0) : wpX_isOpener post k := by
  have E := fun w hw => hs_kdE (w := w) hk hw
  have n : ∀ w, 1 ≤ w ∧ w ≤ 11 → ¬ k = nI w → h ≠ w := fun w hw q e => q ((E w hw).mpr e)
  unfold wpX_isOpener
  refine br_c (fun q => H1 (Or.inl ((E 1 (by decide)).mp q))) (fun a1 => br_c (fun q => H1 (Or.inr (Or.inl ((E 2 (by decide)).mp q)))) (fun a2 => br_c (fun q => H1 (Or.inr (Or.inr (by have := (E 4 (by decide)).mp q; omega)))) (fun a4 => br_c (fun q => H1 (Or.inr (Or.inr (by have := (E 5 (by decide)).mp q; omega)))) (fun a5 => br_c (fun q => H1 (Or.inr (Or.inr (by have := (E 6 (by decide)).mp q; omega)))) (fun a6 => br_c (fun q => H1 (Or.inr (Or.inr (by have := (E 7 (by decide)).mp q; omega)))) (fun a7 => ?_))))))
  have r8 : (k = 8 → hs_isOp h) := fun q => Or.inr (Or.inr (by have := (E 8 (by decide)).mp q; omega))
  have n1 := n 1 (by decide) a1
  have n2 := n 2 (by decide) a2
  have n4 := n 4 (by decide) a4
  have n5 := n 5 (by decide) a5
  have n6 := n 6 (by decide) a6
  have n7 := n 7 (by decide) a7
  first
    | exact br_c (fun q => H1 (r8 q)) (fun a8 => H0 (by
        have n8 := n 8 (by decide) a8
        rintro (q | q | q) <;> omega))
/-- the table holds the indents and kinds of the lines a .. m - 1 -/
def hs_IK (LT : Nat → Int32) (h ind : Nat → Nat) (a m : Nat) : Prop := ∀ j, a ≤ j → j < m → LT (j * 14 + 1) = nI (ind j) ∧ hs_kd (LT (j * 14)) (h j) ∧ ind j ≤ 8
theorem hs_xOfM {c : Nat} {post : Int32 → Prop} (H : post (-1)) : wpX_ofLine post (x_objectLimit, x_stepLimit, x_depthLimit, x_pendingCount, x_keptTokens, x_keptLines, x_lineCount, x_codeCount, x_cursor, x_stop, x_waitingCount, x_openCount, x_classCount, x_callCount, x_operandCount, x_stepsTaken, x_error, x_raisedCode, x_printCount, x_lastResult, x_lastPlace, x_pending, x_lineTable, x_code, x_waiting, x_globals, x_entries, x_orders, x_merging, x_letterClass, x_objectClass, x_attributes, x_calls, x_held, x_operands, x_lastPrints) (-1) (nI c) := br_f (by decide) H
theorem hs_xOf {LT : Nat → Int32} {i c : Nat} (hi : i * 14 + c < 5670) {post : Int32 → Prop} (H : post (LT (i * 14 + c))) : wpX_ofLine post (x_objectLimit, x_stepLimit, x_depthLimit, x_pendingCount, x_keptTokens, x_keptLines, x_lineCount, x_codeCount, x_cursor, x_stop, x_waitingCount, x_openCount, x_classCount, x_callCount, x_operandCount, x_stepsTaken, x_error, x_raisedCode, x_printCount, x_lastResult, x_lastPlace, x_pending, LT, x_code, x_waiting, x_globals, x_entries, x_orders, x_merging, x_letterClass, x_objectClass, x_attributes, x_calls, x_held, x_operands, x_lastPrints) (nI i) (nI c) := by
  have e : nI i * 14 + nI c = nI (i * 14 + c) := hs_ixMul i 14 c
  refine br_t (nI_pos' (by omega)) ?_
  rw [e, nI_clamp (show i * 14 + c < 2 ^ 31 by omega)]
  exact And.intro (vp_in_nI hi (by decide)) H
theorem hs_m1lt {a : Nat} (h : a < 2 ^ 31) : nI 0 - 1 < nI a := by
  have e : nI 0 - 1 = (-1 : Int32) := by decide
  have e1 : (-1 : Int32).toInt = -1 := by decide
  rw [e, Int32.lt_iff_toInt_lt, nI_toInt h, e1]
  omega
theorem hs_xLnd0 {LT : Nat → Int32} {h ind : Nat → Nat} {a m y : Nat} (ha : a ≤ 405) (hm : m ≤ 405) (hy : y ≤ 100) (K : hs_IK LT h ind a m) {post : Int32 → Prop} :
    ∀ (j n : Nat), j ≤ m → j < n → post (hs_oI (hs_lf ind y a j)) → ∀ x4 : Int32, x4 = nI j - 1 → wX_lastNotDeeper_5 post (nI a) (nI y) x_objectLimit x_stepLimit x_depthLimit x_pendingCount x_keptTokens x_keptLines x_lineCount x_codeCount x_cursor x_stop x_waitingCount x_openCount x_classCount x_callCount x_operandCount x_stepsTaken x_error x_raisedCode x_printCount x_lastResult x_lastPlace x_pending LT x_code x_waiting x_globals x_entries x_orders x_merging x_letterClass x_objectClass x_attributes x_calls x_held x_operands x_lastPrints n x4 := by
  intro j
  induction j with
  | zero =>
    intro n _ hn hp x4 e
    obtain ⟨k, rfl⟩ : ∃ k, n = k + 1 := ⟨n - 1, by omega⟩
    subst e
    exact br_t (hs_m1lt (by omega)) hp
  | succ j ih =>
    intro n hj hn hp x4 e
    obtain ⟨k, rfl⟩ : ∃ k, n = k + 1 := ⟨n - 1, by omega⟩
    have e' : x4 = nI j := by rw [e, nI_pred]
    subst e'
    refine pk_lt j a (fun q => ?_) (fun q => ?_)
    · have : hs_lf ind y a (j + 1) = none := by
        show (if j < a then none else _) = none
        rw [if_pos q]
      rw [this] at hp
      exact hp
    · obtain ⟨k1, k2, k3⟩ := K j q (by omega)
      have ix : nI j * 14 + 1 = nI (j * 14 + 1) := hs_ixMul j 14 1
      rw [ix, nI_clamp (show j * 14 + 1 < 2 ^ 31 by omega), k1]
      refine And.intro (vp_in_nI (by omega) (by decide)) ?_
      rw [hs_lfSucc q] at hp
      refine pk_lt y (ind j) (fun q2 => nm_e (ih k (by omega) (by omega) ?_ _ ?_)) (fun q2 => ?_)
      · rw [if_neg (by omega)] at hp; exact hp
      · rw [Int32.sub_eq_add_neg]
      · rw [if_pos q2] at hp; exact hp
theorem hs_xLnd {LT : Nat → Int32} {h ind : Nat → Nat} {a i y : Nat} (ha : a ≤ 405) (hm : i ≤ 405) (hy : y ≤ 100) (K : hs_IK LT h ind a i) {post : Int32 → Prop} (hp : post (hs_oI (hs_lf ind y a i))) : wpX_lastNotDeeper post (x_objectLimit, x_stepLimit, x_depthLimit, x_pendingCount, x_keptTokens, x_keptLines, x_lineCount, x_codeCount, x_cursor, x_stop, x_waitingCount, x_openCount, x_classCount, x_callCount, x_operandCount, x_stepsTaken, x_error, x_raisedCode, x_printCount, x_lastResult, x_lastPlace, x_pending, LT, x_code, x_waiting, x_globals, x_entries, x_orders, x_merging, x_letterClass, x_objectClass, x_attributes, x_calls, x_held, x_operands, x_lastPrints) (nI i) (nI a) (nI y) :=
  nm_e ⟨i + 1, hs_xLnd0 ha hm hy K i (i + 1) (Nat.le_refl _) (by omega) hp _ rfl⟩
theorem hs_xLndM0 {LT : Nat → Int32} {h ind : Nat → Nat} {a m : Nat} (ha : a ≤ 405) (hm : m ≤ 405) (K : hs_IK LT h ind a m) {post : Int32 → Prop} (hp : post (-1)) :
    ∀ (j n : Nat), j ≤ m → j < n → ∀ x4 : Int32, x4 = nI j - 1 → wX_lastNotDeeper_5 post (nI a) (-1) x_objectLimit x_stepLimit x_depthLimit x_pendingCount x_keptTokens x_keptLines x_lineCount x_codeCount x_cursor x_stop x_waitingCount x_openCount x_classCount x_callCount x_operandCount x_stepsTaken x_error x_raisedCode x_printCount x_lastResult x_lastPlace x_pending LT x_code x_waiting x_globals x_entries x_orders x_merging x_letterClass x_objectClass x_attributes x_calls x_held x_operands x_lastPrints n x4 := by
  intro j
  induction j with
  | zero =>
    intro n _ hn x4 e
    obtain ⟨k, rfl⟩ : ∃ k, n = k + 1 := ⟨n - 1, by omega⟩
    subst e
    exact br_t (hs_m1lt (by omega)) hp
  | succ j ih =>
    intro n hj hn x4 e
    obtain ⟨k, rfl⟩ : ∃ k, n = k + 1 := ⟨n - 1, by omega⟩
    have e' : x4 = nI j := by rw [e, nI_pred]
    subst e'
    refine pk_lt j a (fun q => hp) (fun q => ?_)
    obtain ⟨k1, k2, k3⟩ := K j q (by omega)
    have ix : nI j * 14 + 1 = nI (j * 14 + 1) := hs_ixMul j 14 1
    rw [ix, nI_clamp (show j * 14 + 1 < 2 ^ 31 by omega), k1]
    refine And.intro (vp_in_nI (by omega) (by decide)) (br_t ?_ (nm_e (ih k (by omega) (by omega) _ ?_)))
    · have e1 : nI 0 - 1 = (-1 : Int32) := by decide
      rw [← e1]; exact hs_m1lt (by omega)
    · rw [Int32.sub_eq_add_neg]
theorem hs_xPar {LT : Nat → Int32} {h ind : Nat → Nat} {a i : Nat} (ha : a ≤ 405) (hm : i ≤ 405) (hi8 : ind i ≤ 8) (K : hs_IK LT h ind a i) {post : Int32 → Prop} (hp : post (hs_oI (hs_pa ind a i))) : wpX_lastNotDeeper post (x_objectLimit, x_stepLimit, x_depthLimit, x_pendingCount, x_keptTokens, x_keptLines, x_lineCount, x_codeCount, x_cursor, x_stop, x_waitingCount, x_openCount, x_classCount, x_callCount, x_operandCount, x_stepsTaken, x_error, x_raisedCode, x_printCount, x_lastResult, x_lastPlace, x_pending, LT, x_code, x_waiting, x_globals, x_entries, x_orders, x_merging, x_letterClass, x_objectClass, x_attributes, x_calls, x_held, x_operands, x_lastPrints) (nI i) (nI a) (nI (ind i) - 1) := by
  unfold hs_pa at hp
  by_cases z : ind i = 0
  · rw [if_pos z] at hp
    have e1 : nI (ind i) - 1 = (-1 : Int32) := by rw [z]; decide
    rw [e1]
    exact nm_e ⟨i + 1, hs_xLndM0 ha hm K hp i (i + 1) (Nat.le_refl _) (by omega) _ rfl⟩
  · rw [if_neg z] at hp
    have e1 : nI (ind i) - 1 = nI (ind i - 1) := pk_sub (b := 1) (by omega)
    rw [e1]
    exact hs_xLnd ha hm (by omega) K hp
theorem hs_xIndent {LT : Nat → Int32} {h ind : Nat → Nat} {a i : Nat} (hai : a ≤ i) (hm : i < 405) (K : hs_IK LT h ind a (i + 1)) {post : Int32 → Prop} (H1 : hs_ir h ind a i → post 1) (H0 : ¬ hs_ir h ind a i → post 0) : wpX_indentIsRight post (x_objectLimit, x_stepLimit, x_depthLimit, x_pendingCount, x_keptTokens, x_keptLines, x_lineCount, x_codeCount, x_cursor, x_stop, x_waitingCount, x_openCount, x_classCount, x_callCount, x_operandCount, x_stepsTaken, x_error, x_raisedCode, x_printCount, x_lastResult, x_lastPlace, x_pending, LT, x_code, x_waiting, x_globals, x_entries, x_orders, x_merging, x_letterClass, x_objectClass, x_attributes, x_calls, x_held, x_operands, x_lastPrints) (nI i) (nI a) := by
  obtain ⟨k1, k2, k3⟩ := K i hai (by omega)
  have K' : hs_IK LT h ind a i := fun j j1 j2 => K j j1 (by omega)
  unfold wpX_indentIsRight
  refine hs_xOf (c := 1) (by omega) (hs_xOf (c := 0) (by omega) ?_)
  rw [k1]
  refine hs_xLnd (by omega) (by omega) (by omega) K' ?_
  -- the line above
  have f91 : ∀ z : Int32, (z = 0 ↔ ¬ hs_lv ind a i) → (h i = 5 → hs_lvW h ind a i 4) → (h i = 8 → hs_lvW h ind a i 7) → wX_indentIsRight_91 post (nI i) (nI a) (nI (ind i)) z x_objectLimit x_stepLimit x_depthLimit x_pendingCount x_keptTokens x_keptLines x_lineCount x_codeCount x_cursor x_stop x_waitingCount x_openCount x_classCount x_callCount x_operandCount x_stepsTaken x_error x_raisedCode x_printCount x_lastResult x_lastPlace x_pending LT x_code x_waiting x_globals x_entries x_orders x_merging x_letterClass x_objectClass x_attributes x_calls x_held x_operands x_lastPrints := by
    intro z hz g5 g8
    unfold wX_indentIsRight_91
    refine pk_eq i a (fun e => pk_eq (ind i) 0 (fun e0 => H1 ⟨fun _ => e0, fun y => by omega, fun y => by omega, g5, g8⟩) (fun e0 => H0 (fun y => e0 (y.1 e)))) (fun e => ?_)
    obtain ⟨j, rfl⟩ : ∃ j, i = j + 1 := ⟨i - 1, by omega⟩
    obtain ⟨m1, m2, m3⟩ := K j (by omega) (by omega)
    have ex : (nI (j + 1) - 1) * 14 = nI (j * 14) := by rw [nI_pred]; exact pk_mul j 14
    have e1 : nI (j * 14) + 1 = nI (j * 14 + 1) := nI_1 _
    have e0 : nI (j * 14) + 0 = nI (j * 14) := Int32.add_zero _
    refine nm_r ex ?_
    rw [e0, e1, nI_clamp (show j * 14 < 2 ^ 31 by omega), nI_clamp (show j * 14 + 1 < 2 ^ 31 by omega), m1]
    have v1 : vp_in (nI (j * 14 + 1)) 5670 := vp_in_nI (by omega) (by decide)
    refine And.intro (vp_in_nI (by omega) (by decide)) (hs_xIsOp m2 (fun op => br_f (by decide) (And.intro v1 ?_)) (fun op => br_t rfl (And.intro v1 ?_)))
    · exact pk_le (ind (j + 1)) (ind j) (fun q => H0 (fun y => by have := y.2.1 (by omega) op; have e : ind (j + 1 - 1) = ind j := rfl; omega)) (fun q => H1 ⟨fun y => absurd y e, fun _ _ => q, fun _ y => absurd op y, g5, g8⟩)
    · refine pk_lt (ind j) (ind (j + 1)) (fun q => H0 (fun y => by have := (y.2.2.1 (by omega) op).1; have e : ind (j + 1 - 1) = ind j := rfl; omega)) (fun q => br_c (fun zz => H0 (fun y => hz.mp zz (y.2.2.1 (by omega) op).2)) (fun zz => H1 ⟨fun y => absurd y e, fun _ y => absurd y op, fun _ _ => ⟨q, Classical.byContradiction fun y => zz (hz.mpr y)⟩, g5, g8⟩))
  have f49 : ∀ (x6 z : Int32), (z = 0 ↔ ¬ hs_lv ind a i) → (¬ z = 0 → ∀ w, 1 ≤ w ∧ w ≤ 11 → (x6 = nI w ↔ hs_lvW h ind a i w)) → wX_indentIsRight_49 post (nI i) (nI a) (nI (ind i)) (LT (i * 14 + 0)) x6 z x_objectLimit x_stepLimit x_depthLimit x_pendingCount x_keptTokens x_keptLines x_lineCount x_codeCount x_cursor x_stop x_waitingCount x_openCount x_classCount x_callCount x_operandCount x_stepsTaken x_error x_raisedCode x_printCount x_lastResult x_lastPlace x_pending LT x_code x_waiting x_globals x_entries x_orders x_merging x_letterClass x_objectClass x_attributes x_calls x_held x_operands x_lastPrints := by
    intro x6 z hz hx
    have nlw : z = 0 → ∀ w, ¬ hs_lvW h ind a i w := fun q w ⟨u, e1, e2, _⟩ => hz.mp q ⟨u, e1, e2⟩
    have E := fun w hw => hs_kdE (w := w) k2 hw
    have f70 : (h i = 5 → hs_lvW h ind a i 4) → wX_indentIsRight_70 post (nI i) (nI a) (nI (ind i)) (LT (i * 14 + 0)) x6 z x_objectLimit x_stepLimit x_depthLimit x_pendingCount x_keptTokens x_keptLines x_lineCount x_codeCount x_cursor x_stop x_waitingCount x_openCount x_classCount x_callCount x_operandCount x_stepsTaken x_error x_raisedCode x_printCount x_lastResult x_lastPlace x_pending LT x_code x_waiting x_globals x_entries x_orders x_merging x_letterClass x_objectClass x_attributes x_calls x_held x_operands x_lastPrints := by
      intro g5
      unfold wX_indentIsRight_70
      refine br_c (fun q8 => br_c (fun q => H0 (fun y => nlw q 7 (y.2.2.2.2 ((E 8 (by decide)).mp q8)))) (fun q => br_c (fun q7 => f91 z hz g5 (fun _ => (hx q 7 (by decide)).mp q7)) (fun q7 => H0 (fun y => q7 ((hx q 7 (by decide)).mpr (y.2.2.2.2 ((E 8 (by decide)).mp q8))))))) (fun q8 => f91 z hz g5 (fun y => absurd ((E 8 (by decide)).mpr y) q8))
    unfold wX_indentIsRight_49
    exact br_c (fun q5 => br_c (fun q => H0 (fun y => nlw q 4 (y.2.2.2.1 ((E 5 (by decide)).mp q5)))) (fun q => br_c (fun q4 => f70 (fun _ => (hx q 4 (by decide)).mp q4)) (fun q4 => H0 (fun y => q4 ((hx q 4 (by decide)).mpr (y.2.2.2.1 ((E 5 (by decide)).mp q5))))))) (fun q5 => f70 (fun y => absurd ((E 5 (by decide)).mpr y) q5))
  cases e : hs_lf ind (ind i) a i with
  | none =>
    have nl : ¬ hs_lv ind a i := by
      rintro ⟨u, e', _⟩
      rw [e] at e'; cases e'
    refine hs_xOfM (c := 0) (hs_xOfM (c := 1) (br_f ?_ (f49 (-1) 0 ⟨fun _ => nl, fun _ => rfl⟩ (fun y => absurd rfl y))))
    intro y
    have : nI (ind i) < 0 := by rw [← y]; decide
    exact nI_pos (by omega) this
  | some u =>
    obtain ⟨u1, u2, u3, u4⟩ := hs_lfS e
    obtain ⟨m1, m2, m3⟩ := K u u1 (by omega)
    refine hs_xOf (c := 0) (by omega) (hs_xOf (c := 1) (by omega) ?_)
    rw [m1]
    refine pk_eq (ind u) (ind i) (fun q => f49 _ 1 ⟨fun y => absurd y (by decide), fun y => absurd ⟨u, e, q⟩ y⟩ (fun _ w hw => ?_)) (fun q => f49 _ 0 ⟨fun _ => ?_, fun _ => rfl⟩ (fun y => absurd rfl y))
    · rw [show u * 14 + 0 = u * 14 from rfl, hs_kdE m2 hw]
      constructor
      · intro hw'; exact ⟨u, e, q, hw'⟩
      · rintro ⟨u', e', _, hw'⟩
        rw [e] at e'; cases e'
        exact hw'
    · rintro ⟨u', e', h'⟩
      rw [e] at e'; cases e'
      exact q h'
/-- the try lines before i, in general: G says that a line so deep is ended at i, A that i answers it -/
theorem hs_xTries0 {LT : Nat → Int32} {h ind : Nat → Nat} {a i : Nat} {x3 x4 : Int32} {G A : Nat → Prop} (ha : a ≤ 405) (hm : i ≤ 405) (K : hs_IK LT h ind a i) (hG : ∀ d, d ≤ 8 → (nI d < x3 ↔ ¬ G d)) (hA : ∀ d, d ≤ 8 → ((x4 = 8 ∧ nI d = x3) ↔ A d)) {post : Int32 → Prop}
    (H1 : (∀ m, a ≤ m → m < i → ¬ (h m = 7 ∧ G (ind m) ∧ (∀ j, m < j → j < i → ind m < ind j) ∧ ¬ A (ind m))) → post 1) (H0 : (∃ m, a ≤ m ∧ m < i ∧ (h m = 7 ∧ G (ind m) ∧ (∀ j, m < j → j < i → ind m < ind j) ∧ ¬ A (ind m))) → post 0) :
    ∀ (j n l : Nat), j ≤ i → j < n → l ≤ 9 → (∀ d, d ≤ 8 → (d < l ↔ ∀ k, j ≤ k → k < i → a ≤ k → d < ind k)) → (∀ m, a ≤ m → j ≤ m → m < i → ¬ (h m = 7 ∧ G (ind m) ∧ (∀ j, m < j → j < i → ind m < ind j) ∧ ¬ A (ind m))) → ∀ x6 : Int32, x6 = nI j - 1 → wX_triesAreClosed_9 post (nI a) x3 x4 x_objectLimit x_stepLimit x_depthLimit x_pendingCount x_keptTokens x_keptLines x_lineCount x_codeCount x_cursor x_stop x_waitingCount x_openCount x_classCount x_callCount x_operandCount x_stepsTaken x_error x_raisedCode x_printCount x_lastResult x_lastPlace x_pending LT x_code x_waiting x_globals x_entries x_orders x_merging x_letterClass x_objectClass x_attributes x_calls x_held x_operands x_lastPrints n (nI l) x6 := by
  intro j
  induction j with
  | zero =>
    intro n l _ hn _ _ hno x6 e
    obtain ⟨k, rfl⟩ : ∃ k, n = k + 1 := ⟨n - 1, by omega⟩
    subst e
    exact br_t (hs_m1lt (by omega)) (H1 (fun m m1 m2 => hno m m1 (by omega) m2))
  | succ j ih =>
    intro n l hj hn hl hleast hno x6 e
    obtain ⟨k, rfl⟩ : ∃ k, n = k + 1 := ⟨n - 1, by omega⟩
    have e' : x6 = nI j := by rw [e, nI_pred]
    subst e'
    refine pk_lt j a (fun q => H1 (fun m m1 m2 => hno m m1 (by omega) m2)) (fun q => ?_)
    obtain ⟨k1, k2, k3⟩ := K j q (by omega)
    refine hs_xOf (c := 1) (by omega) ?_
    rw [k1]
    have E7 := hs_kdE (w := 7) k2 (by decide)
    have em : nI j + (-1) = nI j - 1 := by rw [Int32.sub_eq_add_neg]
    have nx : ¬ (h j = 7 ∧ G (ind j) ∧ (∀ j', j < j' → j' < i → ind j < ind j') ∧ ¬ A (ind j)) → wX_triesAreClosed_88 post (wX_triesAreClosed_9 post (nI a) x3 x4 x_objectLimit x_stepLimit x_depthLimit x_pendingCount x_keptTokens x_keptLines x_lineCount x_codeCount x_cursor x_stop x_waitingCount x_openCount x_classCount x_callCount x_operandCount x_stepsTaken x_error x_raisedCode x_printCount x_lastResult x_lastPlace x_pending LT x_code x_waiting x_globals x_entries x_orders x_merging x_letterClass x_objectClass x_attributes x_calls x_held x_operands x_lastPrints k) (nI a) x3 x4 (nI l) (nI j) (nI (ind j)) x_objectLimit x_stepLimit x_depthLimit x_pendingCount x_keptTokens x_keptLines x_lineCount x_codeCount x_cursor x_stop x_waitingCount x_openCount x_classCount x_callCount x_operandCount x_stepsTaken x_error x_raisedCode x_printCount x_lastResult x_lastPlace x_pending LT x_code x_waiting x_globals x_entries x_orders x_merging x_letterClass x_objectClass x_attributes x_calls x_held x_operands x_lastPrints := by
      intro hb
      have hno' : ∀ m, a ≤ m → j ≤ m → m < i → ¬ (h m = 7 ∧ G (ind m) ∧ (∀ j, m < j → j < i → ind m < ind j) ∧ ¬ A (ind m)) := by
        intro m m1 m2 m3
        by_cases em : m = j
        · subst em; exact hb
        · exact hno m m1 (by omega) m3
      unfold wX_triesAreClosed_88
      refine pk_le l (ind j) (fun q2 => nm_e (ih k l (by omega) (by omega) hl (fun d hd => ?_) hno' _ em)) (fun q2 => nm_e (ih k (ind j) (by omega) (by omega) (by omega) (fun d hd => ?_) hno' _ em))
      · rw [hleast d hd]
        constructor
        · intro y k' a1 a2 a3
          by_cases ek : k' = j
          · subst ek
            have := (hleast d hd).mpr y
            omega
          · exact y k' (by omega) a2 a3
        · intro y k' a1 a2 a3
          exact y k' (by omega) a2 a3
      · constructor
        · intro y k' a1 a2 a3
          by_cases ek : k' = j
          · subst ek; exact y
          · have := (hleast d hd).mp (by omega) k' (by omega) a2 a3
            exact this
        · intro y; exact y j (Nat.le_refl _) (by omega) q
    have f62 : ∀ (x8 z0 : Int32), (¬ x8 = 0 ↔ (G (ind j) ∧ ∀ j', j < j' → j' < i → ind j < ind j')) → (z0 = 0 ↔ ¬ A (ind j)) → wX_triesAreClosed_62 post (wX_triesAreClosed_9 post (nI a) x3 x4 x_objectLimit x_stepLimit x_depthLimit x_pendingCount x_keptTokens x_keptLines x_lineCount x_codeCount x_cursor x_stop x_waitingCount x_openCount x_classCount x_callCount x_operandCount x_stepsTaken x_error x_raisedCode x_printCount x_lastResult x_lastPlace x_pending LT x_code x_waiting x_globals x_entries x_orders x_merging x_letterClass x_objectClass x_attributes x_calls x_held x_operands x_lastPrints k) (nI a) x3 x4 (nI l) (nI j) (nI (ind j)) x8 z0 x_objectLimit x_stepLimit x_depthLimit x_pendingCount x_keptTokens x_keptLines x_lineCount x_codeCount x_cursor x_stop x_waitingCount x_openCount x_classCount x_callCount x_operandCount x_stepsTaken x_error x_raisedCode x_printCount x_lastResult x_lastPlace x_pending LT x_code x_waiting x_globals x_entries x_orders x_merging x_letterClass x_objectClass x_attributes x_calls x_held x_operands x_lastPrints := by
      intro x8 z0 h8 hz
      unfold wX_triesAreClosed_62
      refine br_c (fun q8 => nx (fun y => h8.mpr ⟨y.2.1, y.2.2.1⟩ q8)) (fun q8 => br_c (fun qz => hs_xOf (c := 0) (by omega) (br_c (fun q7 => H0 ⟨j, q, by omega, E7.mp q7, (h8.mp q8).1, (h8.mp q8).2, hz.mp qz⟩) (fun q7 => nx (fun y => q7 (E7.mpr y.1))))) (fun qz => nx (fun y => qz (hz.mpr y.2.2.2))))
    have f42 : ∀ x8 : Int32, (¬ x8 = 0 ↔ (G (ind j) ∧ ∀ j', j < j' → j' < i → ind j < ind j')) → wX_triesAreClosed_42 post (wX_triesAreClosed_9 post (nI a) x3 x4 x_objectLimit x_stepLimit x_depthLimit x_pendingCount x_keptTokens x_keptLines x_lineCount x_codeCount x_cursor x_stop x_waitingCount x_openCount x_classCount x_callCount x_operandCount x_stepsTaken x_error x_raisedCode x_printCount x_lastResult x_lastPlace x_pending LT x_code x_waiting x_globals x_entries x_orders x_merging x_letterClass x_objectClass x_attributes x_calls x_held x_operands x_lastPrints k) (nI a) x3 x4 (nI l) (nI j) (nI (ind j)) x8 x_objectLimit x_stepLimit x_depthLimit x_pendingCount x_keptTokens x_keptLines x_lineCount x_codeCount x_cursor x_stop x_waitingCount x_openCount x_classCount x_callCount x_operandCount x_stepsTaken x_error x_raisedCode x_printCount x_lastResult x_lastPlace x_pending LT x_code x_waiting x_globals x_entries x_orders x_merging x_letterClass x_objectClass x_attributes x_calls x_held x_operands x_lastPrints := by
      intro x8 h8
      unfold wX_triesAreClosed_42 wX_triesAreClosed_61
      refine br_c (fun q8 => br_c (fun qq => f62 x8 1 h8 ⟨fun y => absurd y (by decide), fun y => absurd ((hA _ k3).mp ⟨q8, qq⟩) y⟩) (fun qq => f62 x8 0 h8 ⟨fun _ y => qq ((hA _ k3).mpr y).2, fun _ => rfl⟩)) (fun q8 => f62 x8 0 h8 ⟨fun _ y => q8 ((hA _ k3).mpr y).1, fun _ => rfl⟩)
    have hl2 : ind j < l ↔ ∀ j', j < j' → j' < i → ind j < ind j' := by
      rw [hleast _ k3]
      constructor
      · intro y j' a1 a2; exact y j' (by omega) a2 (by omega)
      · intro y j' a1 a2 _; exact y j' (by omega) a2
    refine br_c (fun q3 => ?_) (fun q3 => pk_le l (ind j) (fun q2 => ?_) (fun q2 => ?_))
    · exact f42 0 ⟨fun y => absurd rfl y, fun y => absurd y.1 ((hG _ k3).mp q3)⟩
    · exact f42 0 ⟨fun y => absurd rfl y, fun y => by have := hl2.mpr y.2; omega⟩
    · exact f42 1 ⟨fun _ => ⟨Classical.byContradiction fun y => q3 ((hG _ k3).mpr y), hl2.mp q2⟩, fun _ => by decide⟩
theorem hs_xTries {LT : Nat → Int32} {h ind : Nat → Nat} {a i : Nat} {x3 x4 : Int32} {G A : Nat → Prop} (hai : a ≤ i) (hm : i ≤ 405) (K : hs_IK LT h ind a i) (hG : ∀ d, d ≤ 8 → (nI d < x3 ↔ ¬ G d)) (hA : ∀ d, d ≤ 8 → ((x4 = 8 ∧ nI d = x3) ↔ A d)) {post : Int32 → Prop}
    (H1 : (∀ m, a ≤ m → m < i → ¬ (h m = 7 ∧ G (ind m) ∧ (∀ j, m < j → j < i → ind m < ind j) ∧ ¬ A (ind m))) → post 1) (H0 : (∃ m, a ≤ m ∧ m < i ∧ (h m = 7 ∧ G (ind m) ∧ (∀ j, m < j → j < i → ind m < ind j) ∧ ¬ A (ind m))) → post 0) : wpX_triesAreClosed post (x_objectLimit, x_stepLimit, x_depthLimit, x_pendingCount, x_keptTokens, x_keptLines, x_lineCount, x_codeCount, x_cursor, x_stop, x_waitingCount, x_openCount, x_classCount, x_callCount, x_operandCount, x_stepsTaken, x_error, x_raisedCode, x_printCount, x_lastResult, x_lastPlace, x_pending, LT, x_code, x_waiting, x_globals, x_entries, x_orders, x_merging, x_letterClass, x_objectClass, x_attributes, x_calls, x_held, x_operands, x_lastPrints) (nI i) (nI a) x3 x4 :=
  nm_e ⟨i + 1, hs_xTries0 (by omega) hm K hG hA H1 H0 i (i + 1) 9 (Nat.le_refl _) (by omega) (Nat.le_refl _) (fun d hd => ⟨fun _ k k1 k2 => by omega, fun _ => by omega⟩) (fun m m1 m2 m3 => by omega) _ rfl⟩
end
