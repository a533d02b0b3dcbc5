/-! the blocks are closed: X's last loop over a chunk -/
section
variable {x_objectLimit x_stepLimit x_depthLimit x_pendingCount x_keptTokens x_keptLines x_lineCount x_codeCount x_cursor x_stop x_waitingCount x_openCount x_classCount x_callCount x_operandCount x_stepsTaken x_error x_raisedCode x_printCount x_lastPlace : Int32} {x_lastResult : Int64} {x_pending x_lineTable x_orders x_merging x_letterClass x_objectClass x_calls x_lastPrints : Nat → Int32} {x_code x_waiting x_globals x_entries x_attributes x_held x_operands : Nat → Int64}
variable {y_maxObjects y_maxSteps y_maxDepth y_kept y_end y_tokens y_pending y_lines y_classes y_prints y_place y_steps y_d y_valTop y_opTop y_opens y_pos y_tk y_tv y_stmt y_target y_err y_code y_outcome y_dry y_want y_starting y_ended y_bad y_hosted y_sawSuper : Int32} {y_result : Int64} {y_text y_numbers y_classOf y_alive y_orders y_lengths y_letters y_bases y_ops y_fLine y_fPos y_fStmt y_fTarget y_fMask y_fHome y_fOps y_fVals y_fNew y_out : Nat → Int32} {y_globals y_entries y_attrs y_vals y_locals y_fRecv : Nat → Int64}
/-- the name that a line sets, if it sets one -/
def hs_lb : List Nat → Option Nat
  | [] => none
  | h :: r => if h = 8 then some (hs_hd r - 100) else if hs_isN h = true ∧ hs_hd r = 26 then some (h - 100) else none
def hs_lm1 (m : Int32) : Option Nat → Int32
  | none => m
  | some f => m ||| ((1 : Int32) <<< (nI f &&& 31))
def hs_lms (tk : Nat → List Nat) : Nat → Nat → Int32 → Int32
  | 0, _, m => m
  | n + 1, j, m => hs_lms tk n (j + 1) (hs_lm1 m (hs_lb (tk j)))
/-- the names of a def line's parameters -/
def hs_lpar (ts : List Nat) : Int32 := if hs_hd (ts.drop 4) = 23 then ((1 : Int32) <<< (nI (hs_hd (ts.drop 3) - 100) &&& 31)) ||| ((1 : Int32) <<< (nI (hs_hd (ts.drop 5) - 100) &&& 31)) else (1 : Int32) <<< (nI (hs_hd (ts.drop 3) - 100) &&& 31)
def hs_lmask (tk : Nat → List Nat) (ind : Nat → Nat) (b i : Nat) : Int32 := hs_lms tk (hs_bk ind b i - (i + 1)) (i + 1) (hs_lpar (tk i))
/-- a line's row says what its tokens say -/
def hs_LR (LT : Nat → Int32) (tk : Nat → List Nat) (j : Nat) : Prop := ∃ e, hs_LF (LT (j * 14)) (LT (j * 14 + 5)) (LT (j * 14 + 6)) (LT (j * 14 + 7)) e (tk j)
theorem hs_LF8 {k f s t : Int32} {cd : List (Nat × Nat)} {ts : List Nat} (hL : hs_LF k f s t cd ts) : (k = 15 → ∃ m, hs_lb ts = some m ∧ f = nI m) ∧ (k = 8 → ∃ m, hs_lb ts = some m ∧ f = nI m) ∧ (k ≠ 15 → k ≠ 8 → hs_lb ts = none) := by
  have h15 := hs_LF15 hL
  have hkd := hs_LFkd hL
  cases ts with
  | nil => exact hL.elim
  | cons h r =>
    have hkd : hs_kd k h := hkd
    have e8 := hs_kdE (w := 8) hkd (by decide)
    refine ⟨fun e => ?_, fun e => ?_, fun n15 n8 => ?_⟩
    · have s15 : hs_isN h = true ∧ hs_hd r = 26 := h15.mp e
      have tn := hs_tkN s15.1
      have hw : ¬ (1 ≤ h ∧ h ≤ 11) := by omega
      rw [hs_LFo hw, if_pos s15] at hL
      refine ⟨h - 100, ?_, hL.2.1⟩
      show (if h = 8 then _ else if hs_isN h = true ∧ hs_hd r = 26 then some (h - 100) else none) = _
      rw [if_neg (by omega), if_pos s15]
    · have h8 := e8.mp e
      subst h8
      obtain ⟨_, _, n, er, hn, hf⟩ : k = 8 ∧ cd = [] ∧ ∃ n, r = [n, 25] ∧ hs_isN n = true ∧ f = nI (n - 100) := hL
      refine ⟨n - 100, ?_, hf⟩
      rw [er]; rfl
    · show (if h = 8 then _ else if hs_isN h = true ∧ hs_hd r = 26 then some (h - 100) else none) = _
      have n15' : ¬ (hs_isN h = true ∧ hs_hd r = 26) := fun y => n15 (h15.mpr y)
      rw [if_neg (fun y => n8 (e8.mpr y)), if_neg n15']
theorem hs_xLoc0 {LT : Nat → Int32} {tk : Nat → List Nat} {en : Nat} (hen : en ≤ 405) {post : Int32 → Prop} : ∀ (n j : Nat) (m : Int32), j + n = en → (∀ k, j ≤ k → k < en → hs_LR LT tk k) → post (hs_lms tk n j m) → wX_localNames_36 post (nI en) x_objectLimit x_stepLimit x_depthLimit x_pendingCount x_keptTokens x_keptLines x_lineCount x_codeCount x_cursor x_stop x_waitingCount x_openCount x_classCount x_callCount x_operandCount x_stepsTaken x_error x_raisedCode x_printCount x_lastResult x_lastPlace x_pending LT x_code x_waiting x_globals x_entries x_orders x_merging x_letterClass x_objectClass x_attributes x_calls x_held x_operands x_lastPrints (n + 1) m (nI j) := by
  intro n
  induction n with
  | zero =>
    intro j m hj _ H
    exact br_t (nI_le (by omega) (by omega)) H
  | succ n ih =>
    intro j m hj hK H
    refine br_f (nI_ge (by omega) (by omega)) (hs_xOf (c := 0) (by omega) ?_)
    obtain ⟨e, hL⟩ := hK j (Nat.le_refl _) (by omega)
    obtain ⟨l1, l2, l3⟩ := hs_LF8 hL
    have nx : ∀ m', post (hs_lms tk n (j + 1) m') → wX_localNames_36 post (nI en) x_objectLimit x_stepLimit x_depthLimit x_pendingCount x_keptTokens x_keptLines x_lineCount x_codeCount x_cursor x_stop x_waitingCount x_openCount x_classCount x_callCount x_operandCount x_stepsTaken x_error x_raisedCode x_printCount x_lastResult x_lastPlace x_pending LT x_code x_waiting x_globals x_entries x_orders x_merging x_letterClass x_objectClass x_attributes x_calls x_held x_operands x_lastPrints (n + 1) m' (nI (j + 1)) := fun m' H' => ih (j + 1) m' (by omega) (fun k k1 k2 => hK k (by omega) k2) H'
    have H : post (hs_lms tk n (j + 1) (hs_lm1 m (hs_lb (tk j)))) := H
    have add : ∀ mm, hs_lb (tk j) = some mm → LT (j * 14 + 5) = nI mm → wX_localNames_65 post (wX_localNames_36 post (nI en) x_objectLimit x_stepLimit x_depthLimit x_pendingCount x_keptTokens x_keptLines x_lineCount x_codeCount x_cursor x_stop x_waitingCount x_openCount x_classCount x_callCount x_operandCount x_stepsTaken x_error x_raisedCode x_printCount x_lastResult x_lastPlace x_pending LT x_code x_waiting x_globals x_entries x_orders x_merging x_letterClass x_objectClass x_attributes x_calls x_held x_operands x_lastPrints (n + 1)) (nI en) m (nI j) x_objectLimit x_stepLimit x_depthLimit x_pendingCount x_keptTokens x_keptLines x_lineCount x_codeCount x_cursor x_stop x_waitingCount x_openCount x_classCount x_callCount x_operandCount x_stepsTaken x_error x_raisedCode x_printCount x_lastResult x_lastPlace x_pending LT x_code x_waiting x_globals x_entries x_orders x_merging x_letterClass x_objectClass x_attributes x_calls x_held x_operands x_lastPrints := by
      intro mm e1 e2
      unfold wX_localNames_65
      refine hs_xOf (c := 5) (by omega) ?_
      rw [e2]
      rw [e1] at H
      exact nm_e (nm_r (nI_1 j) (nx _ H))
    rw [show j * 14 + 0 = j * 14 from rfl]
    refine br_c (fun q => ?_) (fun q => br_c (fun q8 => ?_) (fun q8 => nm_r (nI_1 j) (nx m ?_)))
    · obtain ⟨mm, e1, e2⟩ := l1 q
      exact add mm e1 e2
    · obtain ⟨mm, e1, e2⟩ := l2 q8
      exact add mm e1 e2
    · rw [l3 q q8] at H; exact H
theorem hs_xLoc {LT : Nat → Int32} {tk : Nat → List Nat} {i en : Nat} (hi : i < en) (hen : en ≤ 405) (hK : ∀ k, i ≤ k → k < en → hs_LR LT tk k) (h2 : LT (i * 14) = 2) {post : Int32 → Prop} (H : post (hs_lms tk (en - (i + 1)) (i + 1) (hs_lpar (tk i)))) : wpX_localNames post (x_objectLimit, x_stepLimit, x_depthLimit, x_pendingCount, x_keptTokens, x_keptLines, x_lineCount, x_codeCount, x_cursor, x_stop, x_waitingCount, x_openCount, x_classCount, x_callCount, x_operandCount, x_stepsTaken, x_error, x_raisedCode, x_printCount, x_lastResult, x_lastPlace, x_pending, LT, x_code, x_waiting, x_globals, x_entries, x_orders, x_merging, x_letterClass, x_objectClass, x_attributes, x_calls, x_held, x_operands, x_lastPrints) (nI i) (nI en) := by
  obtain ⟨e, hL⟩ := hK i (Nat.le_refl _) hi
  have hkd := hs_LFkd hL
  have e2 := (hs_kdE (w := 2) hkd (by decide)).mp h2
  have fin : ∀ m : Int32, m = hs_lpar (tk i) → wX_localNames_36 post (nI en) x_objectLimit x_stepLimit x_depthLimit x_pendingCount x_keptTokens x_keptLines x_lineCount x_codeCount x_cursor x_stop x_waitingCount x_openCount x_classCount x_callCount x_operandCount x_stepsTaken x_error x_raisedCode x_printCount x_lastResult x_lastPlace x_pending LT x_code x_waiting x_globals x_entries x_orders x_merging x_letterClass x_objectClass x_attributes x_calls x_held x_operands x_lastPrints (en - (i + 1) + 1) m (nI (i + 1)) := by
    intro m em
    subst em
    exact hs_xLoc0 hen (en - (i + 1)) (i + 1) _ (by omega) (fun k k1 k2 => hK k (by omega) k2) H
  unfold wpX_localNames
  refine hs_xOf (c := 7) (by omega) (hs_xOf (c := 6) (by omega) (nm_e ?_))
  cases hts : tk i with
  | nil => rw [hts] at hL; exact hL.elim
  | cons w r =>
    rw [hts] at hL e2
    have e2 : w = 2 := e2
    subst e2
    obtain ⟨_, _, n, a, hn, ha, _, hs, hh⟩ : LT (i * 14) = 2 ∧ e = [] ∧ hs_DH (LT (i * 14 + 5)) (LT (i * 14 + 6)) (LT (i * 14 + 7)) r := hL
    rcases hh with ⟨er, ht⟩ | ⟨b, hb, hne, er, ht⟩
    · rw [ht, hs]
      refine br_t (by decide) (nm_r (nI_1 i) ⟨_, fin _ ?_⟩)
      rw [hts, er]; rfl
    · have tb := hs_tkN hb
      rw [ht, hs]
      refine br_f (nI_pos (by omega)) (nm_e (nm_r (nI_1 i) ⟨_, fin _ ?_⟩))
      rw [hts, er]; rfl
theorem hs_xBk0 {LT : Nat → Int32} {h ind : Nat → Nat} {a b x : Nat} (hb : b ≤ 405) (hx : x ≤ 8) (K : hs_IK LT h ind a b) {post : Int32 → Prop} : ∀ (n j : Nat), a ≤ j → j + n = b → post (nI (hs_ef ind x n j)) → wX_blockEnd_16 post (nI x) x_objectLimit x_stepLimit x_depthLimit x_pendingCount x_keptTokens x_keptLines (nI b) x_codeCount x_cursor x_stop x_waitingCount x_openCount x_classCount x_callCount x_operandCount x_stepsTaken x_error x_raisedCode x_printCount x_lastResult x_lastPlace x_pending LT x_code x_waiting x_globals x_entries x_orders x_merging x_letterClass x_objectClass x_attributes x_calls x_held x_operands x_lastPrints (n + 1) (nI j) := by
  intro n
  induction n with
  | zero =>
    intro j ja hj H
    have : j = b := by omega
    subst this
    exact br_t (nI_le (Nat.le_refl _) (by omega)) H
  | succ n ih =>
    intro j ja hj H
    obtain ⟨k1, k2, k3⟩ := K j ja (by omega)
    have ix : nI j * 14 + 1 = nI (j * 14 + 1) := hs_ixMul j 14 1
    refine br_f (nI_ge (by omega) (by omega)) ?_
    rw [ix, nI_clamp (show j * 14 + 1 < 2 ^ 31 by omega), k1]
    refine And.intro (vp_in_nI (by omega) (by decide)) ?_
    unfold hs_ef at H
    refine pk_lt x (ind j) (fun q => nm_r (nI_1 j) (ih (j + 1) (by omega) (by omega) ?_)) (fun q => ?_)
    · rw [if_neg (by omega)] at H; exact H
    · rw [if_pos q] at H; exact H
theorem hs_xBk {LT : Nat → Int32} {h ind : Nat → Nat} {a b i : Nat} (hai : a ≤ i) (hib : i < b) (hb : b ≤ 405) (K : hs_IK LT h ind a b) {post : Int32 → Prop} (H : post (nI (hs_bk ind b i))) : wpX_blockEnd post (x_objectLimit, x_stepLimit, x_depthLimit, x_pendingCount, x_keptTokens, x_keptLines, nI b, x_codeCount, x_cursor, x_stop, x_waitingCount, x_openCount, x_classCount, x_callCount, x_operandCount, x_stepsTaken, x_error, x_raisedCode, x_printCount, x_lastResult, x_lastPlace, x_pending, LT, x_code, x_waiting, x_globals, x_entries, x_orders, x_merging, x_letterClass, x_objectClass, x_attributes, x_calls, x_held, x_operands, x_lastPrints) (nI i) := by
  obtain ⟨k1, k2, k3⟩ := K i hai hib
  have ix : nI i * 14 + 1 = nI (i * 14 + 1) := hs_ixMul i 14 1
  refine And.intro (by rw [ix]; exact vp_in_nI (by omega) (by decide)) ?_
  rw [ix, nI_clamp (show i * 14 + 1 < 2 ^ 31 by omega), k1]
  exact nm_e (nm_r (nI_1 i) ⟨_, hs_xBk0 hb k3 K (b - (i + 1)) (i + 1) (by omega) (by omega) H⟩)
theorem hs_xClose0 {LT0 : Nat → Int32} {h ind : Nat → Nat} {tk : Nat → List Nat} {a b : Nat} (hb : b ≤ 405) {post : SX → Prop}
    (H : ∀ LT, (∀ k, (∀ j, a ≤ j → j < b → k ≠ j * 14 + 4 ∧ k ≠ j * 14 + 8) → LT k = LT0 k) → (∀ j, a ≤ j → j < b → LT (j * 14 + 4) = nI (hs_bk ind b j) ∧ (LT (j * 14) = 2 → LT (j * 14 + 8) = hs_lmask tk ind b j)) → post (x_objectLimit, x_stepLimit, x_depthLimit, x_pendingCount, x_keptTokens, x_keptLines, nI b, x_codeCount, x_cursor, x_stop, x_waitingCount, x_openCount, x_classCount, x_callCount, x_operandCount, x_stepsTaken, x_error, x_raisedCode, x_printCount, x_lastResult, x_lastPlace, x_pending, LT, x_code, x_waiting, x_globals, x_entries, x_orders, x_merging, x_letterClass, x_objectClass, x_attributes, x_calls, x_held, x_operands, x_lastPrints)) :
    ∀ (n i : Nat) (LT : Nat → Int32), a ≤ i → i + n = b → hs_IK LT h ind a b → (∀ k, a ≤ k → k < b → hs_LR LT tk k) → (∀ k, (∀ j, a ≤ j → j < b → k ≠ j * 14 + 4 ∧ k ≠ j * 14 + 8) → LT k = LT0 k) → (∀ j, a ≤ j → j < i → LT (j * 14 + 4) = nI (hs_bk ind b j) ∧ (LT (j * 14) = 2 → LT (j * 14 + 8) = hs_lmask tk ind b j)) →
    wX_closeBlocks_2 post x_objectLimit x_stepLimit x_depthLimit x_pendingCount x_keptTokens x_keptLines (nI b) x_codeCount x_cursor x_stop x_waitingCount x_openCount x_classCount x_callCount x_operandCount x_stepsTaken x_error x_raisedCode x_printCount x_lastResult x_lastPlace (n + 1) (nI i) x_pending LT x_code x_waiting x_globals x_entries x_orders x_merging x_letterClass x_objectClass x_attributes x_calls x_held x_operands x_lastPrints := by
  intro n
  induction n with
  | zero =>
    intro i LT ia hi K R U G
    have : i = b := by omega
    subst this
    exact br_t (nI_le (Nat.le_refl _) (by omega)) (H LT U G)
  | succ n ih =>
    intro i LT ia hi K R U G
    have hib : i < b := by omega
    have em : nI i * 14 = nI (i * 14) := pk_mul i 14
    have e0 : nI (i * 14) + 0 = nI (i * 14) := Int32.add_zero _
    have e4 : nI (i * 14) + 4 = nI (i * 14 + 4) := nI_add _ 4
    have e8 : nI (i * 14) + 8 = nI (i * 14 + 8) := nI_add _ 8
    obtain ⟨B1, B2, B3, B4⟩ := hs_bkFo (ind := ind) (b := b) (i := i) hib
    refine br_f (nI_ge hib (by omega)) (nm_r em (hs_xBk ia hib hb K ?_))
    rw [e0, e4, e8, nI_clamp (show i * 14 < 2 ^ 31 by omega), nI_clamp (show i * 14 + 4 < 2 ^ 31 by omega), nI_clamp (show i * 14 + 8 < 2 ^ 31 by omega)]
    refine And.intro (vp_in_nI (by omega) (by decide)) (nm_e (And.intro (vp_in_nI (by omega) (by decide)) ?_))
    -- what a write into columns 4 and 8 of row i keeps
    have keep : ∀ LT', (∀ k, k ≠ i * 14 + 4 → k ≠ i * 14 + 8 → LT' k = LT k) → hs_IK LT' h ind a b ∧ (∀ k, a ≤ k → k < b → hs_LR LT' tk k) ∧ (∀ k, (∀ j, a ≤ j → j < b → k ≠ j * 14 + 4 ∧ k ≠ j * 14 + 8) → LT' k = LT0 k) ∧ (∀ j, a ≤ j → j < i → LT' (j * 14 + 4) = nI (hs_bk ind b j) ∧ (LT' (j * 14) = 2 → LT' (j * 14 + 8) = hs_lmask tk ind b j)) := by
      intro LT' hk
      refine ⟨fun j j1 j2 => ?_, fun k k1 k2 => ?_, fun k hk' => ?_, fun j j1 j2 => ?_⟩
      · rw [hk _ (by omega) (by omega), hk _ (by omega) (by omega)]; exact K j j1 j2
      · obtain ⟨e, hL⟩ := R k k1 k2
        refine ⟨e, ?_⟩
        rw [hk _ (by omega) (by omega), hk _ (by omega) (by omega), hk _ (by omega) (by omega), hk _ (by omega) (by omega)]; exact hL
      · have := hk' i ia hib
        rw [hk _ this.1 this.2]; exact U k hk'
      · rw [hk _ (by omega) (by omega), hk _ (by omega) (by omega), hk _ (by omega) (by omega)]; exact G j j1 j2
    have k4 := keep (upd LT (i * 14 + 4) (nI (hs_bk ind b i))) (fun k a1 _ => pk_un a1)
    have u0 : upd LT (i * 14 + 4) (nI (hs_bk ind b i)) (i * 14) = LT (i * 14) := pk_un (by omega)
    refine br_c (fun q => ?_) (fun q => nm_r (nI_1 i) (ih (i + 1) _ (by omega) (by omega) k4.1 k4.2.1 k4.2.2.1 (fun j j1 j2 => ?_)))
    · refine hs_xLoc (tk := tk) B1 (by omega) (fun k kk1 kk2 => k4.2.1 k (by omega) (by omega)) q (And.intro (vp_in_nI (by omega) (by decide)) (nm_e (nm_r (nI_1 i) ?_)))
      have k8 := keep (upd (upd LT (i * 14 + 4) (nI (hs_bk ind b i))) (i * 14 + 8) (hs_lms tk (hs_bk ind b i - (i + 1)) (i + 1) (hs_lpar (tk i)))) (fun k a1 a2 => by rw [pk_un a2, pk_un a1])
      refine ih (i + 1) _ (by omega) (by omega) k8.1 k8.2.1 k8.2.2.1 (fun j j1 j2 => ?_)
      by_cases ej : j = i
      · subst ej
        refine ⟨?_, fun _ => pk_us⟩
        rw [pk_un (by omega), pk_us]
      · exact k8.2.2.2 j j1 (by omega)
    · by_cases ej : j = i
      · subst ej
        exact ⟨pk_us, fun y => absurd y q⟩
      · exact k4.2.2.2 j j1 (by omega)
theorem hs_xClose {LT0 : Nat → Int32} {h ind : Nat → Nat} {tk : Nat → List Nat} {a b : Nat} (hab : a ≤ b) (hb : b ≤ 405) (K : hs_IK LT0 h ind a b) (R : ∀ k, a ≤ k → k < b → hs_LR LT0 tk k) {post : SX → Prop}
    (H : ∀ LT, (∀ k, (∀ j, a ≤ j → j < b → k ≠ j * 14 + 4 ∧ k ≠ j * 14 + 8) → LT k = LT0 k) → (∀ j, a ≤ j → j < b → LT (j * 14 + 4) = nI (hs_bk ind b j) ∧ (LT (j * 14) = 2 → LT (j * 14 + 8) = hs_lmask tk ind b j)) → post (x_objectLimit, x_stepLimit, x_depthLimit, x_pendingCount, x_keptTokens, x_keptLines, nI b, x_codeCount, x_cursor, x_stop, x_waitingCount, x_openCount, x_classCount, x_callCount, x_operandCount, x_stepsTaken, x_error, x_raisedCode, x_printCount, x_lastResult, x_lastPlace, x_pending, LT, x_code, x_waiting, x_globals, x_entries, x_orders, x_merging, x_letterClass, x_objectClass, x_attributes, x_calls, x_held, x_operands, x_lastPrints)) : wpX_closeBlocks post (x_objectLimit, x_stepLimit, x_depthLimit, x_pendingCount, x_keptTokens, x_keptLines, nI b, x_codeCount, x_cursor, x_stop, x_waitingCount, x_openCount, x_classCount, x_callCount, x_operandCount, x_stepsTaken, x_error, x_raisedCode, x_printCount, x_lastResult, x_lastPlace, x_pending, LT0, x_code, x_waiting, x_globals, x_entries, x_orders, x_merging, x_letterClass, x_objectClass, x_attributes, x_calls, x_held, x_operands, x_lastPrints) (nI a) :=
  ⟨_, hs_xClose0 (tk := tk) hb H (b - a) a LT0 (Nat.le_refl _) (by omega) K R (fun _ _ => rfl) (fun j j1 j2 => by omega)⟩
end
