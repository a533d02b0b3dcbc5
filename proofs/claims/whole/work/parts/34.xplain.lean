/-! the lines without a word of their own, on X's side -/
section
variable {x_objectLimit x_stepLimit x_depthLimit x_pendingCount x_keptTokens x_keptLines x_lineCount x_codeCount x_cursor x_stop x_waitingCount x_openCount x_classCount x_callCount x_operandCount x_stepsTaken x_error x_raisedCode x_printCount x_lastPlace : Int32} {x_lastResult : Int64} {x_pending x_lineTable x_orders x_merging x_letterClass x_objectClass x_calls x_lastPrints : Nat → Int32} {x_code x_waiting x_globals x_entries x_attributes x_held x_operands : Nat → Int64}
variable {y_maxObjects y_maxSteps y_maxDepth y_kept y_end y_tokens y_pending y_lines y_classes y_prints y_place y_steps y_d y_valTop y_opTop y_opens y_pos y_tk y_tv y_stmt y_target y_err y_code y_outcome y_dry y_want y_starting y_ended y_bad y_hosted y_sawSuper : Int32} {y_result : Int64} {y_text y_numbers y_classOf y_alive y_orders y_lengths y_letters y_bases y_ops y_fLine y_fPos y_fStmt y_fTarget y_fMask y_fHome y_fOps y_fVals y_fNew y_out : Nat → Int32} {y_globals y_entries y_attrs y_vals y_locals y_fRecv : Nat → Int64}
/-- the place of the first sign = -/
def hs_mark (stop : Nat) : Nat → List Nat → Nat
  | _, [] => stop
  | k, t :: r => if t = 26 then k else hs_mark stop (k + 1) r
theorem hs_markN {stop : Nat} : ∀ {ts : List Nat} {k : Nat}, 26 ∉ ts → hs_mark stop k ts = stop
  | [], _, _ => rfl
  | t :: r, k, h => by
    unfold hs_mark
    rw [if_neg (fun e => h (by rw [e]; simp)), hs_markN (fun y => h (List.mem_cons_of_mem _ y))]
theorem hs_markS {stop : Nat} {E : List Nat} : ∀ {B : List Nat} {k : Nat}, 26 ∉ B → hs_mark stop k (B ++ 26 :: E) = k + B.length
  | [], k, _ => if_pos rfl
  | t :: r, k, h => by
    show (if t = 26 then k else hs_mark stop (k + 1) (r ++ 26 :: E)) = _
    rw [if_neg (fun e => h (by rw [e]; simp)), hs_markS (fun y => h (List.mem_cons_of_mem _ y))]
    simp only [List.length_cons]; omega
theorem hs_markLe {stop : Nat} : ∀ {ts : List Nat} {k : Nat}, stop = k + ts.length → hs_mark stop k ts ≤ stop
  | [], _, _ => Nat.le_refl _
  | t :: r, k, h => by
    simp only [List.length_cons] at h
    unfold hs_mark
    split
    · omega
    · exact hs_markLe (by omega)
theorem hs_split26 : ∀ (ts : List Nat), 26 ∉ ts ∨ ∃ B E, ts = B ++ 26 :: E ∧ 26 ∉ B
  | [] => Or.inl hs_nnil
  | t :: r => by
    by_cases e : t = 26
    · exact Or.inr ⟨[], r, by rw [e]; rfl, hs_nnil⟩
    · rcases hs_split26 r with h | ⟨B, E, h1, h2⟩
      · exact Or.inl (hs_ncons e h)
      · exact Or.inr ⟨t :: B, E, by rw [h1]; rfl, hs_ncons e h2⟩
theorem hs_xMark {pd : Nat → Int32} {stop c : Nat} {ts : List Nat} {x1 : Int32} (hPA : hs_PA pd stop c ts) (hs : stop ≤ 400) {post : Int32 → SX → Prop}
    (H : ∀ n, wX_readPlainForm_12 post x1 x_objectLimit x_stepLimit x_depthLimit x_pendingCount x_keptTokens x_keptLines x_lineCount x_codeCount (nI c) (nI stop) x_waitingCount x_openCount x_classCount x_callCount x_operandCount x_stepsTaken x_error x_raisedCode x_printCount x_lastResult x_lastPlace pd x_lineTable x_code x_waiting x_globals x_entries x_orders x_merging x_letterClass x_objectClass x_attributes x_calls x_held x_operands x_lastPrints (n + 1) (nI (hs_mark stop c ts)) (nI c - 1)) :
    ∀ (j n : Nat), j ≤ ts.length → j < n → ∀ x2 x3 : Int32, x2 = nI (hs_mark stop (c + j) (ts.drop j)) → x3 = nI (c + j) - 1 → wX_readPlainForm_12 post x1 x_objectLimit x_stepLimit x_depthLimit x_pendingCount x_keptTokens x_keptLines x_lineCount x_codeCount (nI c) (nI stop) x_waitingCount x_openCount x_classCount x_callCount x_operandCount x_stepsTaken x_error x_raisedCode x_printCount x_lastResult x_lastPlace pd x_lineTable x_code x_waiting x_globals x_entries x_orders x_merging x_letterClass x_objectClass x_attributes x_calls x_held x_operands x_lastPrints n x2 x3 := by
  have hlen := hs_PAlen hPA
  intro j
  induction j with
  | zero =>
    intro n _ hn x2 x3 e2 e3
    obtain ⟨m, rfl⟩ : ∃ m, n = m + 1 := ⟨n - 1, by omega⟩
    subst e2 e3
    exact H m
  | succ j ih =>
    intro n hj hn x2 x3 e2 e3
    obtain ⟨m, rfl⟩ : ∃ m, n = m + 1 := ⟨n - 1, by omega⟩
    have e3' : x3 = nI (c + j) := by rw [e3, show c + (j + 1) = c + j + 1 by omega, nI_pred]
    subst e2 e3'
    refine br_f (nI_nlt (by omega) (by omega)) (And.intro (vp_in_nI (by omega) (by decide)) ?_)
    rw [nI_clamp (show c + j < 2 ^ 31 by omega)]
    have hx := hs_PAat hPA (k := j) (by omega)
    have e26 := hs_rxE (k := 26) hx (Or.inr ⟨Or.inr (Or.inl (by decide)), by decide⟩) (by decide)
    have hd : ts.drop j = hs_hd (ts.drop j) :: ts.drop (j + 1) := by
      have h1 : ts.drop j = ts[j] :: ts.drop (j + 1) := List.drop_eq_getElem_cons (by omega)
      rw [h1]; rfl
    have em : nI (c + j) + (-1) = nI (c + j) - 1 := by rw [Int32.sub_eq_add_neg]
    refine br_c (fun q => nm_e (ih m (by omega) (by omega) _ _ ?_ em)) (fun q => nm_e (ih m (by omega) (by omega) _ _ ?_ em))
    · rw [hd]
      unfold hs_mark
      rw [if_pos (e26.mp q)]
    · rw [hd]
      show _ = nI (if hs_hd (ts.drop j) = 26 then c + j else hs_mark stop (c + j + 1) (ts.drop (j + 1)))
      rw [if_neg (fun y => q (e26.mpr y))]
      rfl
theorem hs_hdLast {B E : List Nat} {x : Nat} : ∀ {A : List Nat}, B = A ++ [x] → hs_hd ((B ++ E).drop (B.length - 1)) = x := by
  intro A e
  subst e
  have : (A ++ [x]).length - 1 = A.length := by simp
  rw [this, List.append_assoc, List.drop_append_of_le_length (Nat.le_refl _), List.drop_length]
  rfl
theorem hs_snoc : ∀ (B : List Nat), B ≠ [] → ∃ A x, B = A ++ [x]
  | [], h => absurd rfl h
  | [a], _ => ⟨[], a, rfl⟩
  | a :: b :: r, _ => by
    obtain ⟨A, x, e⟩ := hs_snoc (b :: r) (by simp)
    exact ⟨a :: A, x, by rw [e]; rfl⟩
theorem hs_xPeekM {pd : Nat → Int32} {c e : Nat} (he : e ≤ 400) (hc : c ≤ e) {post : Int32 → Prop} (H0 : c = 0 → post 0) (H1 : c ≠ 0 → post (pd (c - 1))) : wpX_peek post (x_objectLimit, x_stepLimit, x_depthLimit, x_pendingCount, x_keptTokens, x_keptLines, x_lineCount, x_codeCount, nI c, nI e, x_waitingCount, x_openCount, x_classCount, x_callCount, x_operandCount, x_stepsTaken, x_error, x_raisedCode, x_printCount, x_lastResult, x_lastPlace, pd, x_lineTable, x_code, x_waiting, x_globals, x_entries, x_orders, x_merging, x_letterClass, x_objectClass, x_attributes, x_calls, x_held, x_operands, x_lastPrints) (-1) := by
  by_cases c0 : c = 0
  · have := H0 c0
    subst c0
    exact nm_r (show nI 0 + (-1) = (-1 : Int32) by decide) (br_t (by decide) this)
  · have := H1 c0
    refine nm_r (show nI c + (-1) = nI (c - 1) from sb_m1 (by omega)) (br_f (nI_pos (by omega)) (br_f (nI_ge (by omega) (by omega)) (And.intro (vp_in_nI (by omega) (by decide)) ?_)))
    rw [nI_clamp (show c - 1 < 2 ^ 31 by omega)]
    exact this
/-- a line that begins with no word, as X sees it -/
theorem hs_xPlain {pd LT : Nat → Int32} {c e R h : Nat} {r ts : List Nat} (ets : ts = h :: r) (hw : ¬ (1 ≤ h ∧ h ≤ 11)) (hPA : hs_PA pd e c ts) (he : e ≤ 400) (hR : R + 14 ≤ 5670) (hprev : c = 0 ∨ ∃ t, 40 ≤ t ∧ t ≤ 48 ∧ pd (c - 1) = nI t) {post : Int32 → SX → Prop}
    (H14 : 26 ∉ ts → ∀ LT', hs_kp R LT' LT → LT' R = 14 → LT' (R + 13) = nI c → post 1 (x_objectLimit, x_stepLimit, x_depthLimit, x_pendingCount, x_keptTokens, x_keptLines, x_lineCount, x_codeCount, nI c, nI e, x_waitingCount, x_openCount, x_classCount, x_callCount, x_operandCount, x_stepsTaken, x_error, x_raisedCode, x_printCount, x_lastResult, x_lastPlace, pd, LT', x_code, x_waiting, x_globals, x_entries, x_orders, x_merging, x_letterClass, x_objectClass, x_attributes, x_calls, x_held, x_operands, x_lastPrints))
    (H15 : ∀ n E, ts = n :: 26 :: E → hs_isN n = true → ∀ LT', hs_kp R LT' LT → LT' R = 15 → LT' (R + 5) = nI (n - 100) → LT' (R + 13) = nI (c + 2) → post 1 (x_objectLimit, x_stepLimit, x_depthLimit, x_pendingCount, x_keptTokens, x_keptLines, x_lineCount, x_codeCount, nI c, nI e, x_waitingCount, x_openCount, x_classCount, x_callCount, x_operandCount, x_stepsTaken, x_error, x_raisedCode, x_printCount, x_lastResult, x_lastPlace, pd, LT', x_code, x_waiting, x_globals, x_entries, x_orders, x_merging, x_letterClass, x_objectClass, x_attributes, x_calls, x_held, x_operands, x_lastPrints))
    (H17 : ∀ k n E, ts = k :: 24 :: n :: 26 :: E → hs_isC k = true → hs_isN n = true → ∀ LT', hs_kp R LT' LT → LT' R = 17 → LT' (R + 5) = nI (n - 100) → LT' (R + 6) = nI (k - 130) → LT' (R + 13) = nI (c + 4) → post 1 (x_objectLimit, x_stepLimit, x_depthLimit, x_pendingCount, x_keptTokens, x_keptLines, x_lineCount, x_codeCount, nI c, nI e, x_waitingCount, x_openCount, x_classCount, x_callCount, x_operandCount, x_stepsTaken, x_error, x_raisedCode, x_printCount, x_lastResult, x_lastPlace, pd, LT', x_code, x_waiting, x_globals, x_entries, x_orders, x_merging, x_letterClass, x_objectClass, x_attributes, x_calls, x_held, x_operands, x_lastPrints))
    (H16 : ∀ A n E, ts = A ++ 24 :: n :: 26 :: E → 26 ∉ A → A ≠ [] → hs_isN n = true → ¬ (A.length = 1 ∧ hs_isC h = true) → ∀ LT', hs_kp R LT' LT → LT' R = 16 → LT' (R + 5) = nI (n - 100) → LT' (R + 13) = nI (c + A.length + 3) → post 1 (x_objectLimit, x_stepLimit, x_depthLimit, x_pendingCount, x_keptTokens, x_keptLines, x_lineCount, x_codeCount, nI c, nI e, x_waitingCount, x_openCount, x_classCount, x_callCount, x_operandCount, x_stepsTaken, x_error, x_raisedCode, x_printCount, x_lastResult, x_lastPlace, pd, LT', x_code, x_waiting, x_globals, x_entries, x_orders, x_merging, x_letterClass, x_objectClass, x_attributes, x_calls, x_held, x_operands, x_lastPrints))
    (H0 : (∀ k f s t cd, ¬ hs_LF k f s t cd ts) → ∀ LT', hs_kp R LT' LT → post 0 (x_objectLimit, x_stepLimit, x_depthLimit, x_pendingCount, x_keptTokens, x_keptLines, x_lineCount, x_codeCount, nI c, nI e, x_waitingCount, x_openCount, x_classCount, x_callCount, x_operandCount, x_stepsTaken, x_error, x_raisedCode, x_printCount, x_lastResult, x_lastPlace, pd, LT', x_code, x_waiting, x_globals, x_entries, x_orders, x_merging, x_letterClass, x_objectClass, x_attributes, x_calls, x_held, x_operands, x_lastPrints)) : wpX_readPlainForm post (x_objectLimit, x_stepLimit, x_depthLimit, x_pendingCount, x_keptTokens, x_keptLines, x_lineCount, x_codeCount, nI c, nI e, x_waitingCount, x_openCount, x_classCount, x_callCount, x_operandCount, x_stepsTaken, x_error, x_raisedCode, x_printCount, x_lastResult, x_lastPlace, pd, LT, x_code, x_waiting, x_globals, x_entries, x_orders, x_merging, x_letterClass, x_objectClass, x_attributes, x_calls, x_held, x_operands, x_lastPrints) (nI R) := by
  have hlen := hs_PAlen hPA
  have hL1 : 1 ≤ ts.length := by rw [ets]; simp
  have e0 : nI R + 0 = nI R := Int32.add_zero _
  have e5 : nI R + 5 = nI (R + 5) := nI_add R 5
  have e6 : nI R + 6 = nI (R + 6) := nI_add R 6
  have e13 : nI R + 13 = nI (R + 13) := nI_add R 13
  have v0 : vp_in (nI R) 5670 := vp_in_nI (by omega) (by decide)
  have v5 : vp_in (nI (R + 5)) 5670 := vp_in_nI (by omega) (by decide)
  have v6 : vp_in (nI (R + 6)) 5670 := vp_in_nI (by omega) (by decide)
  have v13 : vp_in (nI (R + 13)) 5670 := vp_in_nI (by omega) (by decide)
  refine nm_e ⟨ts.length + 1, hs_xMark hPA he (fun n => ?_) ts.length (ts.length + 1) (Nat.le_refl _) (by omega) _ _ ?_ ?_⟩
  rotate_left
  · rw [List.drop_length]; rfl
  · rw [← hlen]
  have ml := hs_markLe (stop := e) (ts := ts) (k := c) hlen
  have hmc : nI c - 1 < nI c := by
    cases c with
    | zero => decide
    | succ c => rw [nI_pred]; exact nI_lt (by omega) (by omega)
  refine br_t hmc ?_
  have kpA : hs_kp R (upd (upd LT R 14) (R + 13) (nI c)) LT := hs_kpU (hs_kpU hs_kpR (by omega)) (by omega)
  rcases hs_split26 ts with h26 | ⟨B, E, eB, hB⟩
  · -- no sign =
    rw [hs_markN h26]
    refine nm_r (pk_sub (show c ≤ e by omega)) (hs_xPeek 0 hPA he (by decide) (fun x0 hx0 => ?_))
    have em1 : nI (e - c) - 1 = nI (e - c - 1) := pk_sub (b := 1) (by omega)
    rw [em1, e0, e5, e6, e13, nI_clamp (show R < 2 ^ 31 by omega), nI_clamp (show R + 5 < 2 ^ 31 by omega), nI_clamp (show R + 6 < 2 ^ 31 by omega), nI_clamp (show R + 13 < 2 ^ 31 by omega)]
    refine hs_xPeek (e - c - 1) hPA he (by omega) (fun xl hxl => And.intro v0 (nm_e (And.intro v13 (nm_e (br_t rfl (H14 h26 _ kpA ?_ ?_))))))
    · rw [pk_un (by omega), pk_us]
    · rw [pk_us]
  · have hBl : ts.length = B.length + 1 + E.length := by rw [eB]; simp; omega
    have emk : hs_mark e c ts = c + B.length := by rw [eB]; exact hs_markS hB
    rw [emk]
    have ebf : nI (c + B.length) - nI c = nI B.length := by rw [pk_sub (by omega)]; exact congrArg nI (by omega)
    refine nm_r ebf (hs_xPeek 0 hPA he (by decide) (fun x0 hx0 => ?_))
    rw [e0, e5, e6, e13, nI_clamp (show R < 2 ^ 31 by omega), nI_clamp (show R + 5 < 2 ^ 31 by omega), nI_clamp (show R + 6 < 2 ^ 31 by omega), nI_clamp (show R + 13 < 2 ^ 31 by omega)]
    have ne : ¬ nI (c + B.length) = nI e := hs_ne (by omega) (by omega) (by omega)
    have e1 : nI (c + B.length) + 1 = nI (c + B.length + 1) := nI_1 _
    rw [e1]
    have kpB : ∀ xl : Int32, hs_kp R (upd (upd (upd (upd (upd LT R 14) (R + 13) (nI c)) (R + 13) (nI (c + B.length + 1))) (R + 5) (xl - 100)) (R + 6) (x0 - 130)) LT := fun xl => hs_kpU (hs_kpU (hs_kpU kpA (by omega)) (by omega)) (by omega)
    -- what LF would need
    have need : ∀ k f s t cd, hs_LF k f s t cd ts → (∃ n, B = [n] ∧ hs_isN n = true) ∨ (∃ A n, B = A ++ [24, n] ∧ A ≠ [] ∧ hs_isN n = true) := by
      intro k f s t cd hL
      rw [ets, hs_LFo hw] at hL
      by_cases c1 : hs_isN h = true ∧ hs_hd r = 26
      · left
        refine ⟨h, ?_, c1.1⟩
        cases r with
        | nil => exact absurd c1.2 (by decide)
        | cons a r1 =>
          have ha : a = 26 := c1.2
          subst ha
          rw [ets] at eB
          cases B with
          | nil => have := (List.cons.inj eB).1; subst this; exact absurd c1.1 (by decide)
          | cons b B =>
            have eB' := List.cons.inj eB
            cases B with
            | nil => rw [eB'.1]
            | cons b2 B2 => exact absurd (by rw [(List.cons.inj eB'.2).1]; simp) hB
      · rw [if_neg c1] at hL
        have viaS : ∀ z cd fs, hs_S z (h :: r) true [] cd [] fs → ∃ A n, B = A ++ [24, n] ∧ A ≠ [] ∧ hs_isN n = true := by
          rintro z cd fs ⟨m, hm⟩
          have hm2 := hm
          rw [← ets, eB] at hm2
          obtain ⟨A, n, e1, e2⟩ := hs_runSet hm2 hB
          refine ⟨A, n, e1, fun e3 => ?_, e2⟩
          subst e3
          rw [e1] at eB
          rw [eB] at ets
          have := List.cons.inj ets
          rw [← this.1] at hm
          cases m with
          | zero => exact hm
          | succ m =>
            rcases hm with ⟨f, _⟩ | ⟨_, ts', w', st', e, cd', E1, _⟩
            · exact absurd f.1 (by decide)
            · cases E1
        right
        split at hL
        · rename_i c2
          obtain ⟨hc, n, r1, er, hn⟩ := hs_plainI.mpr c2
          refine ⟨[h], n, ?_, by simp, hn⟩
          rw [ets, er] at eB
          have hh26 : h ≠ 26 := by have := hs_tkC hc; omega
          have hn26 : n ≠ 26 := by have := hs_tkN hn; omega
          cases B with
          | nil => exact absurd (List.cons.inj eB).1 hh26
          | cons b B =>
            have eB' := List.cons.inj eB
            cases B with
            | nil => exact absurd (List.cons.inj eB'.2).1 (by decide)
            | cons b2 B =>
              have eB2 := List.cons.inj eB'.2
              cases B with
              | nil => exact absurd (List.cons.inj eB2.2).1 hn26
              | cons b3 B =>
                have eB3 := List.cons.inj eB2.2
                cases B with
                | nil => rw [← eB'.1, ← eB2.1, ← eB3.1]; rfl
                | cons b4 B => exact absurd (by rw [(List.cons.inj eB3.2).1]; simp) hB
        · rcases hL with ⟨_, hS⟩ | ⟨_, n, _, _, hS⟩
          · exact viaS _ _ _ hS
          · exact viaS _ _ _ hS
    have needL : ∀ k f s t cd, hs_LF k f s t cd ts → ∃ n A, B = A ++ [n] ∧ hs_isN n = true := by
      intro k f s t cd hL
      rcases need k f s t cd hL with ⟨n, e1, e2⟩ | ⟨A, n, e1, _, e2⟩
      · exact ⟨n, [], e1, e2⟩
      · exact ⟨n, A ++ [24], by rw [e1, List.append_assoc]; rfl, e2⟩
    by_cases b0 : B.length = 0
    · -- the line begins with the sign
      have eB0 : B = [] := List.length_eq_zero_iff.mp b0
      have noL : ∀ k f s t cd, ¬ hs_LF k f s t cd ts := by
        intro k f s t cd hL
        obtain ⟨n, A, e1, _⟩ := needL k f s t cd hL
        rw [eB0] at e1
        cases A <;> cases e1
      have em1 : nI B.length - 1 = (-1 : Int32) := by rw [b0]; decide
      rw [em1]
      refine hs_xPeekM he (by omega) (fun c0 => ?_) (fun c0 => ?_)
      · exact And.intro v0 (nm_e (And.intro v13 (nm_e (br_f ne (And.intro v13 (nm_e (And.intro v5 (nm_e (And.intro v6 (nm_e (br_t (by decide) (br_t rfl (H0 noL _ (kpB _))))))))))))))
      · obtain ⟨t, t1, t2, ht⟩ := hprev.resolve_left c0
        rw [ht]
        exact And.intro v0 (nm_e (And.intro v13 (nm_e (br_f ne (And.intro v13 (nm_e (And.intro v5 (nm_e (And.intro v6 (nm_e (br_t (nI_lt (b := 100) (by omega) (by decide)) (br_t rfl (H0 noL _ (kpB _))))))))))))))
    · obtain ⟨A, x, eA⟩ := hs_snoc B (fun y => b0 (by rw [y]; rfl))
      have em1 : nI B.length - 1 = nI (B.length - 1) := pk_sub (b := 1) (by omega)
      rw [em1]
      refine hs_xPeek (B.length - 1) hPA he (by omega) (fun xl hxl => ?_)
      have hlast : hs_hd (ts.drop (B.length - 1)) = x := by rw [eB]; exact hs_hdLast eA
      rw [hlast] at hxl
      refine And.intro v0 (nm_e (And.intro v13 (nm_e (br_f ne (And.intro v13 (nm_e (And.intro v5 (nm_e (And.intro v6 (nm_e ?_))))))))))
      refine hs_xFromN hxl (fun hn exl => br_f (by decide) ?_) (fun hn => br_t rfl (H0 (fun k f s t cd hL => ?_) _ (kpB xl)))
      rotate_left
      · obtain ⟨n, A', e1, e2⟩ := needL k f s t cd hL
        rw [eA] at e1
        have : x = n := by
          have := congrArg List.getLast? e1
          simpa using this
        rw [this, e2] at hn; cases hn
      have tn := hs_tkN hn
      subst exl
      have ex100 : nI x - 100 = nI (x - 100) := pk_sub (b := 100) (by omega)
      have col : ∀ kd : Int32, hs_kp R (upd (upd (upd (upd (upd (upd LT R 14) (R + 13) (nI c)) (R + 13) (nI (c + B.length + 1))) (R + 5) (nI x - 100)) (R + 6) (x0 - 130)) R kd) LT ∧ upd (upd (upd (upd (upd (upd LT R 14) (R + 13) (nI c)) (R + 13) (nI (c + B.length + 1))) (R + 5) (nI x - 100)) (R + 6) (x0 - 130)) R kd R = kd ∧ upd (upd (upd (upd (upd (upd LT R 14) (R + 13) (nI c)) (R + 13) (nI (c + B.length + 1))) (R + 5) (nI x - 100)) (R + 6) (x0 - 130)) R kd (R + 5) = nI (x - 100) ∧ upd (upd (upd (upd (upd (upd LT R 14) (R + 13) (nI c)) (R + 13) (nI (c + B.length + 1))) (R + 5) (nI x - 100)) (R + 6) (x0 - 130)) R kd (R + 6) = x0 - 130 ∧ upd (upd (upd (upd (upd (upd LT R 14) (R + 13) (nI c)) (R + 13) (nI (c + B.length + 1))) (R + 5) (nI x - 100)) (R + 6) (x0 - 130)) R kd (R + 13) = nI (c + B.length + 1) := by
        intro kd
        refine ⟨hs_kpU (kpB (nI x)) (by omega), pk_us, ?_, ?_, ?_⟩
        · rw [pk_un (by omega), pk_un (by omega), pk_us, ex100]
        · rw [pk_un (by omega), pk_us]
        · rw [pk_un (by omega), pk_un (by omega), pk_un (by omega), pk_us]
      have hx0 : hs_rx x0 (hs_hd ts) := hx0
      rw [ets] at hx0
      have hx0 : hs_rx x0 h := hx0
      refine pk_eq B.length 1 (fun l1 => ?_) (fun l1 => ?_)
      · obtain ⟨k1, k2, k3, k4, k5⟩ := col 15
        refine And.intro v0 (nm_e (H15 x E ?_ hn _ k1 k2 k3 ?_))
        · have : A = [] := by
            have := congrArg List.length eA
            simp at this
            exact List.length_eq_zero_iff.mp (by omega)
          rw [eB, eA, this]; rfl
        · rw [k5, l1]
      · -- an field or an entry: at least three tokens, a dot before the name
        have dotOK : ∀ kd : Int32, (∀ LT' : Nat → Int32, LT' = upd (upd (upd (upd (upd (upd LT R 14) (R + 13) (nI c)) (R + 13) (nI (c + B.length + 1))) (R + 5) (nI x - 100)) (R + 6) (x0 - 130)) R kd → ∀ A', B = A' ++ [24, x] → A' ≠ [] → post 1 (x_objectLimit, x_stepLimit, x_depthLimit, x_pendingCount, x_keptTokens, x_keptLines, x_lineCount, x_codeCount, nI c, nI e, x_waitingCount, x_openCount, x_classCount, x_callCount, x_operandCount, x_stepsTaken, x_error, x_raisedCode, x_printCount, x_lastResult, x_lastPlace, pd, LT', x_code, x_waiting, x_globals, x_entries, x_orders, x_merging, x_letterClass, x_objectClass, x_attributes, x_calls, x_held, x_operands, x_lastPrints)) → wX_readPlainForm_206 post (nI B.length) kd (nI R) x_objectLimit x_stepLimit x_depthLimit x_pendingCount x_keptTokens x_keptLines x_lineCount x_codeCount (nI c) (nI e) x_waitingCount x_openCount x_classCount x_callCount x_operandCount x_stepsTaken x_error x_raisedCode x_printCount x_lastResult x_lastPlace pd (upd (upd (upd (upd (upd LT R 14) (R + 13) (nI c)) (R + 13) (nI (c + B.length + 1))) (R + 5) (nI x - 100)) (R + 6) (x0 - 130)) x_code x_waiting x_globals x_entries x_orders x_merging x_letterClass x_objectClass x_attributes x_calls x_held x_operands x_lastPrints := by
          intro kd HK
          obtain ⟨k1, k2, k3, k4, k5⟩ := col kd
          unfold wX_readPlainForm_206
          refine And.intro v0 ?_
          rw [nI_clamp (show R < 2 ^ 31 by omega)]
          have no1 : ∀ k f s t cd, hs_LF k f s t cd ts → ∃ A' n, B = A' ++ [24, n] ∧ A' ≠ [] := by
            intro k f s t cd hL
            rcases need k f s t cd hL with ⟨n, e1, _⟩ | ⟨A', n, e1, e2, _⟩
            · rw [e1] at l1; exact absurd rfl l1
            · exact ⟨A', n, e1, e2⟩
          refine nm_e (pk_lt B.length 3 (fun l3 => H0 (fun k f s t cd hL => ?_) _ k1) (fun l3 => ?_))
          · obtain ⟨A', n, e1, e2⟩ := no1 k f s t cd hL
            have := congrArg List.length e1
            have h2 : 0 < A'.length := List.length_pos_iff.mpr e2
            simp at this
            omega
          · have em2 : nI B.length - 2 = nI (B.length - 2) := pk_sub (b := 2) (by omega)
            rw [em2]
            refine hs_xPeek (B.length - 2) hPA he (by omega) (fun xd hxd => ?_)
            have e24 := hs_rxE (k := 24) hxd (Or.inr ⟨Or.inr (Or.inl (by decide)), by decide⟩) (by decide)
            have hA : A ≠ [] := fun y => by
              rw [y] at eA
              rw [eA] at l3; simp at l3
            obtain ⟨A2, y, eA2⟩ := hs_snoc A hA
            have hd2 : hs_hd (ts.drop (B.length - 2)) = y := by
              have eq : ts = A ++ (x :: 26 :: E) := by rw [eB, eA, List.append_assoc]; rfl
              have el : B.length - 2 = A.length - 1 := by rw [eA]; simp
              rw [eq, el]
              exact hs_hdLast eA2
            rw [hd2] at e24
            refine br_c (fun q => HK _ rfl A2 ?_ ?_) (fun q => H0 (fun k f s t cd hL => q (e24.mpr ?_)) _ k1)
            · rw [eA, eA2, e24.mp q, List.append_assoc]; rfl
            · intro y2
              rw [eA, eA2, y2] at l3
              simp at l3
            · obtain ⟨A', n, e1, e2⟩ := no1 k f s t cd hL
              rw [eA, eA2, List.append_assoc] at e1
              have := congrArg List.reverse e1
              simp at this
              exact this.2.1
        have do16 : ¬ (B.length = 3 ∧ hs_isC h = true) → wX_readPlainForm_184 post (nI R) (nI B.length) x_objectLimit x_stepLimit x_depthLimit x_pendingCount x_keptTokens x_keptLines x_lineCount x_codeCount (nI c) (nI e) x_waitingCount x_openCount x_classCount x_callCount x_operandCount x_stepsTaken x_error x_raisedCode x_printCount x_lastResult x_lastPlace pd (upd (upd (upd (upd (upd LT R 14) (R + 13) (nI c)) (R + 13) (nI (c + B.length + 1))) (R + 5) (nI x - 100)) (R + 6) (x0 - 130)) x_code x_waiting x_globals x_entries x_orders x_merging x_letterClass x_objectClass x_attributes x_calls x_held x_operands x_lastPrints := by
          intro hno
          unfold wX_readPlainForm_184 wX_readPlainForm_185
          rw [e0]
          refine br_t rfl (dotOK 16 (fun LT' eLT A' e1 e2 => ?_))
          obtain ⟨k1, k2, k3, k4, k5⟩ := col 16
          have lB : B.length = A'.length + 2 := by rw [e1]; simp
          subst eLT
          refine H16 A' x E (by rw [eB, e1, List.append_assoc]; rfl) (fun y => hB (by rw [e1]; exact List.mem_append.mpr (Or.inl y))) e2 hn (fun y => hno ⟨by omega, y.2⟩) _ k1 k2 k3 ?_
          rw [k5]; exact congrArg nI (by omega)
        refine pk_eq B.length 3 (fun l3 => ?_) (fun l3 => do16 (fun y => l3 y.1))
        refine hs_xFromC hx0 (fun hc ex0 => br_f (by decide) ?_) (fun hc => br_t rfl (do16 (fun y => by rw [hc] at y; cases y.2)))
        unfold wX_readPlainForm_185
        rw [e0]
        refine br_f (by decide) (dotOK 17 (fun LT' eLT A' e1 e2 => ?_))
        obtain ⟨k1, k2, k3, k4, k5⟩ := col 17
        subst eLT
        have tc := hs_tkC hc
        have lB : A'.length = 1 := by
          have := congrArg List.length e1
          simp at this
          omega
        have eh : A' = [h] := by
          match A', lB with
          | [a], _ =>
            have : ts = a :: 24 :: x :: 26 :: E := by rw [eB, e1]; rfl
            rw [ets] at this
            rw [(List.cons.inj this).1]
        refine H17 h x E (by rw [eB, e1, eh]; rfl) hc hn _ k1 k2 k3 ?_ ?_
        · rw [k4, ex0]; exact pk_sub (b := 130) (by omega)
        · rw [k5, l3]
end
