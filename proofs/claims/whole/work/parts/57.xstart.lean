/-! a call is started, on the component's side -/
section
variable {x_objectLimit x_stepLimit x_depthLimit x_pendingCount x_keptTokens x_keptLines x_lineCount x_codeCount x_cursor x_stop x_waitingCount x_openCount x_classCount x_callCount x_operandCount x_stepsTaken x_error x_raisedCode x_printCount x_lastPlace : Int32} {x_lastResult : Int64} {x_pending x_lineTable x_orders x_merging x_letterClass x_objectClass x_calls x_lastPrints : Nat → Int32} {x_code x_waiting x_globals x_entries x_attributes x_held x_operands : Nat → Int64}
variable {y_maxObjects y_maxSteps y_maxDepth y_kept y_end y_tokens y_pending y_lines y_classes y_prints y_place y_steps y_d y_valTop y_opTop y_opens y_pos y_tk y_tv y_stmt y_target y_err y_code y_outcome y_dry y_want y_starting y_ended y_bad y_hosted y_sawSuper : Int32} {y_result : Int64} {y_text y_numbers y_classOf y_alive y_orders y_lengths y_letters y_bases y_ops y_fLine y_fPos y_fStmt y_fTarget y_fMask y_fHome y_fOps y_fVals y_fNew y_out : Nat → Int32} {y_globals y_entries y_attrs y_vals y_locals y_fRecv : Nat → Int64}
variable {P h : Nat → Nat} {tk : Nat → List Nat} {lc cn d vt mD n a us : Nat} {ml : Nat → List Nat} {gl ex at1 op HE : Nat → Int64} {ox oc lt LT CL : Nat → Int32} {rv : Int64} {fo : Option Nat}
def hs_np (LT : Nat → Int32) (l : Nat) : Nat := if 0 ≤ LT (l * 14 + 7) then 1 else 0
def hs_SE (LT : Nat → Int32) (ex : Nat → Int64) (h : Nat → Nat) (lc mD d : Nat) (fo : Option Nat) (n a : Nat) (er : Int32) : Prop :=
  (fo = none ∧ er = 4) ∨ ∃ m, fo = some m ∧ m < 10 ∧ ((hs_vv (ex (m * 26 + n)) ∧ er = 3) ∨ ∃ l, hs_df h lc l ∧ l < 1024 ∧ ex (m * 26 + n) = lN (17179869184 + l) ∧ ((hs_np LT l ≠ a ∧ er = 3) ∨ (hs_np LT l = a ∧ mD ≤ d ∧ er = 6)))
def hs_SO (LT : Nat → Int32) (ex : Nat → Int64) (h : Nat → Nat) (lc mD d : Nat) (fo : Option Nat) (n a m l : Nat) : Prop :=
  fo = some m ∧ m < 10 ∧ hs_df h lc l ∧ l < 1024 ∧ ex (m * 26 + n) = lN (17179869184 + l) ∧ hs_np LT l = a ∧ d < mD
def hs_lv1 (s : Nat) (t : Option Nat) (rv arg : Int64) (i : Nat) : Int64 := if t = some i then arg else if i = s then rv else 0
def hs_C4 (CL : Nat → Int32) (d l m v : Nat) : Nat → Int32 := upd (upd (upd (upd CL ((d + 1) * 6) (nI l)) ((d + 1) * 6 + 1) (nI m)) ((d + 1) * 6 + 4) (nI v)) ((d + 1) * 6 + 5) 0
theorem hs_xStart210 {m l : Nat} {HE' : Nat → Int64} (hd : d < 6) (hus : us ≤ vt) (hvt : vt < 280) {post : Int32 → SX → Prop} (H : post 1 (x_objectLimit, x_stepLimit, nI mD, x_pendingCount, x_keptTokens, x_keptLines, x_lineCount, x_codeCount, x_cursor, x_stop, x_waitingCount, x_openCount, x_classCount, nI (d + 2), nI (vt - us), x_stepsTaken, 0, x_raisedCode, x_printCount, x_lastResult, x_lastPlace, x_pending, LT, x_code, x_waiting, x_globals, ex, x_orders, x_merging, x_letterClass, x_objectClass, x_attributes, hs_C4 CL d l m (vt - us), HE', op, x_lastPrints)) : wX_startCall_210 post (nI m) (nI us) (nI l) (nI ((d + 1) * 6)) x_objectLimit x_stepLimit (nI mD) x_pendingCount x_keptTokens x_keptLines x_lineCount x_codeCount x_cursor x_stop x_waitingCount x_openCount x_classCount (nI (d + 1)) (nI vt) x_stepsTaken 0 x_raisedCode x_printCount x_lastResult x_lastPlace x_pending LT x_code x_waiting x_globals ex x_orders x_merging x_letterClass x_objectClass x_attributes CL HE' op x_lastPrints := by
  have go : wX_startCall_231 post (nI m) (nI l) (nI ((d + 1) * 6)) (nI (vt - us)) x_objectLimit x_stepLimit (nI mD) x_pendingCount x_keptTokens x_keptLines x_lineCount x_codeCount x_cursor x_stop x_waitingCount x_openCount x_classCount (nI (d + 1)) (nI vt) x_stepsTaken 0 x_raisedCode x_printCount x_lastResult x_lastPlace x_pending LT x_code x_waiting x_globals ex x_orders x_merging x_letterClass x_objectClass x_attributes CL HE' op x_lastPrints := by
    have e0 : nI ((d + 1) * 6) + 0 = nI ((d + 1) * 6) := Int32.add_zero _
    have e1 : nI ((d + 1) * 6) + 1 = nI ((d + 1) * 6 + 1) := nI_add _ 1
    have e4 : nI ((d + 1) * 6) + 4 = nI ((d + 1) * 6 + 4) := nI_add _ 4
    have e5 : nI ((d + 1) * 6) + 5 = nI ((d + 1) * 6 + 5) := nI_add _ 5
    unfold wX_startCall_231
    rw [e0, e1, e4, e5, nI_clamp (show (d + 1) * 6 < 2 ^ 31 by omega), nI_clamp (show (d + 1) * 6 + 1 < 2 ^ 31 by omega), nI_clamp (show (d + 1) * 6 + 4 < 2 ^ 31 by omega), nI_clamp (show (d + 1) * 6 + 5 < 2 ^ 31 by omega)]
    exact And.intro (vp_in_nI (by omega) (by decide)) (nm_e (And.intro (vp_in_nI (by omega) (by decide)) (nm_e (And.intro (vp_in_nI (by omega) (by decide)) (nm_e (And.intro (vp_in_nI (by omega) (by decide)) (nm_e (nm_r (nI_add (d + 1) 1) H))))))))
  unfold wX_startCall_210
  refine pk_le vt us (fun z => ?_) (fun z => ?_)
  · have e : nI (vt - us) = 0 := by rw [show vt - us = 0 by omega]; rfl
    rw [e] at go
    exact go
  · rw [pk_sub hus]
    exact go
theorem hs_xStart135 {m l s : Nat} {t : Option Nat} {arg : Int64} (hd : d < 6) (hus : us ≤ vt) (hvt : vt < 280) (hl : l < 405) (D : hs_dfl LT tk l s t) (ha : hs_np LT l = a) {post : Int32 → SX → Prop}
    (H : ∀ HE', (∀ j, j < (d + 1) * 27 → HE' j = HE j) → HE' ((d + 1) * 27 + 26) = rv → (∀ i, i < 26 → HE' ((d + 1) * 27 + i) = hs_lv1 s t rv arg i) → post 1 (x_objectLimit, x_stepLimit, nI mD, x_pendingCount, x_keptTokens, x_keptLines, x_lineCount, x_codeCount, x_cursor, x_stop, x_waitingCount, x_openCount, x_classCount, nI (d + 2), nI (vt - us), x_stepsTaken, 0, x_raisedCode, x_printCount, x_lastResult, x_lastPlace, x_pending, LT, x_code, x_waiting, x_globals, ex, x_orders, x_merging, x_letterClass, x_objectClass, x_attributes, hs_C4 CL d l m (vt - us), HE', op, x_lastPrints)) :
    ∀ (k i : Nat) (H1 : Nat → Int64), i + k = 26 → (∀ j, j < (d + 1) * 27 → H1 j = HE j) → (∀ j, j < i → H1 ((d + 1) * 27 + j) = 0) → wX_startCall_135 post (nI m) rv (nI a) (nI us) (nI l) arg (nI ((d + 1) * 27)) (nI ((d + 1) * 6)) x_objectLimit x_stepLimit (nI mD) x_pendingCount x_keptTokens x_keptLines x_lineCount x_codeCount x_cursor x_stop x_waitingCount x_openCount x_classCount (nI (d + 1)) (nI vt) x_stepsTaken 0 x_raisedCode x_printCount x_lastResult x_lastPlace (k + 1) (nI i) x_pending LT x_code x_waiting x_globals ex x_orders x_merging x_letterClass x_objectClass x_attributes CL H1 op x_lastPrints := by
  intro k
  induction k with
  | zero =>
    intro i H1 hi h1 h2
    have e26 : nI ((d + 1) * 27) + 26 = nI ((d + 1) * 27 + 26) := nI_add _ 26
    obtain ⟨s26, sl, nn, D⟩ := D
    have es : nI ((d + 1) * 27) + nI s = nI ((d + 1) * 27 + s) := nI_add _ s
    refine br_t (nI_le (a := 26) (by omega) (by omega)) ?_
    rw [e26, nI_clamp (show (d + 1) * 27 + 26 < 2 ^ 31 by omega)]
    refine And.intro (vp_in_nI (by omega) (by decide)) (nm_e (hs_xOf (c := 6) (by omega) ?_))
    rw [sl, es, nI_clamp (show (d + 1) * 27 + s < 2 ^ 31 by omega)]
    refine And.intro (vp_in_nI (by omega) (by decide)) (nm_e ?_)
    rcases D with ⟨rfl, t1, _⟩ | ⟨t', rfl, t2, t3, t1, _⟩
    · have a0 : a = 0 := by
        rw [← ha]; unfold hs_np; rw [t1]; rfl
      subst a0
      refine br_t (by decide) (hs_xStart210 hd hus hvt (H _ (fun j hj => ?_) ?_ (fun i hi => ?_)))
      · rw [pk_uLn (by omega), pk_uLn (by omega)]; exact h1 j hj
      · rw [pk_uLn (by omega), pk_uLs]
      · unfold hs_lv1
        rw [if_neg (by intro y; cases y)]
        by_cases z : i = s
        · subst z; rw [if_pos rfl, pk_uLs]
        · rw [if_neg z, pk_uLn (by omega), pk_uLn (by omega)]
          exact h2 i (by omega)
    · have a1 : a = 1 := by
        rw [← ha]; unfold hs_np; rw [t1, if_pos (nI_pos' (by omega))]
      subst a1
      have et : nI ((d + 1) * 27) + nI t' = nI ((d + 1) * 27 + t') := nI_add _ t'
      refine br_f (by decide) (hs_xOf (c := 7) (by omega) ?_)
      rw [t1, et, nI_clamp (show (d + 1) * 27 + t' < 2 ^ 31 by omega)]
      refine And.intro (vp_in_nI (by omega) (by decide)) (nm_e (hs_xStart210 hd hus hvt (H _ (fun j hj => ?_) ?_ (fun i hi => ?_))))
      · rw [pk_uLn (by omega), pk_uLn (by omega), pk_uLn (by omega)]; exact h1 j hj
      · rw [pk_uLn (by omega), pk_uLn (by omega), pk_uLs]
      · unfold hs_lv1
        by_cases y : t' = i
        · subst y; rw [if_pos rfl, pk_uLs]
        · rw [if_neg (by intro x; exact y (Option.some.inj x)), pk_uLn (by omega)]
          by_cases z : i = s
          · subst z; rw [if_pos rfl, pk_uLs]
          · rw [if_neg z, pk_uLn (by omega), pk_uLn (by omega)]
            exact h2 i (by omega)
  | succ k ih =>
    intro i H1 hi h1 h2
    have ei : nI ((d + 1) * 27) + nI i = nI ((d + 1) * 27 + i) := nI_add _ i
    refine br_f (nI_ge (b := 26) (by omega) (by decide)) ?_
    rw [ei, nI_clamp (show (d + 1) * 27 + i < 2 ^ 31 by omega)]
    refine And.intro (vp_in_nI (by omega) (by decide)) (nm_e (nm_r (nI_add i 1) (ih (i + 1) _ (by omega) (fun j hj => ?_) (fun j hj => ?_))))
    · rw [pk_uLn (by omega)]; exact h1 j hj
    · by_cases z : j = i
      · subst z; exact pk_uLs
      · rw [pk_uLn (by omega)]; exact h2 j (by omega)
theorem hs_xStart (hX : hs_EX P h lc ex) (hfo : ∀ m, fo = some m → m < 10 ∧ ex (m * 26 + n) ≠ 0) (hn : n < 26) (ha : a ≤ 1) (ha2 : a = 1 → 1 ≤ vt) (hus : us ≤ vt) (hvt : vt < 280) (hmD : mD ≤ 6) (hd : d ≤ mD) (hlc : lc ≤ 405) (hdf : ∀ l, hs_df h lc l → ∃ s t, hs_dfl LT tk l s t) {post : Int32 → SX → Prop}
    (He : ∀ er, hs_SE LT ex h lc mD d fo n a er → post 0 (x_objectLimit, x_stepLimit, nI mD, x_pendingCount, x_keptTokens, x_keptLines, x_lineCount, x_codeCount, x_cursor, x_stop, x_waitingCount, x_openCount, x_classCount, nI (d + 1), nI vt, x_stepsTaken, er, x_raisedCode, x_printCount, x_lastResult, x_lastPlace, x_pending, LT, x_code, x_waiting, x_globals, ex, x_orders, x_merging, x_letterClass, x_objectClass, x_attributes, CL, HE, op, x_lastPrints))
    (Hc : ∀ m l s t, hs_SO LT ex h lc mD d fo n a m l → hs_dfl LT tk l s t → ∀ HE', (∀ j, j < (d + 1) * 27 → HE' j = HE j) → HE' ((d + 1) * 27 + 26) = rv → (∀ i, i < 26 → HE' ((d + 1) * 27 + i) = hs_lv1 s t rv (op (vt - 1)) i) → post 1 (x_objectLimit, x_stepLimit, nI mD, x_pendingCount, x_keptTokens, x_keptLines, x_lineCount, x_codeCount, x_cursor, x_stop, x_waitingCount, x_openCount, x_classCount, nI (d + 2), nI (vt - us), x_stepsTaken, 0, x_raisedCode, x_printCount, x_lastResult, x_lastPlace, x_pending, LT, x_code, x_waiting, x_globals, ex, x_orders, x_merging, x_letterClass, x_objectClass, x_attributes, hs_C4 CL d l m (vt - us), HE', op, x_lastPrints)) :
    wpX_startCall post (x_objectLimit, x_stepLimit, nI mD, x_pendingCount, x_keptTokens, x_keptLines, x_lineCount, x_codeCount, x_cursor, x_stop, x_waitingCount, x_openCount, x_classCount, nI (d + 1), nI vt, x_stepsTaken, 0, x_raisedCode, x_printCount, x_lastResult, x_lastPlace, x_pending, LT, x_code, x_waiting, x_globals, ex, x_orders, x_merging, x_letterClass, x_objectClass, x_attributes, CL, HE, op, x_lastPrints) (hs_oI fo) (nI n) rv (nI a) (nI us) := by
  have er98 : ∀ (er : Int32) (x1 x9 : Int32), er ≠ 0 → hs_SE LT ex h lc mD d fo n a er → wX_startCall_98 post x1 rv (nI a) (nI us) x9 x_objectLimit x_stepLimit (nI mD) x_pendingCount x_keptTokens x_keptLines x_lineCount x_codeCount x_cursor x_stop x_waitingCount x_openCount x_classCount (nI (d + 1)) (nI vt) x_stepsTaken er x_raisedCode x_printCount x_lastResult x_lastPlace x_pending LT x_code x_waiting x_globals ex x_orders x_merging x_letterClass x_objectClass x_attributes CL HE op x_lastPrints := fun er x1 x9 h0 hE => br_f h0 (He er hE)
  cases fo with
  | none =>
    refine br_f (by decide) ?_
    unfold wX_startCall_19
    exact br_t rfl (er98 4 _ _ (by decide) (Or.inl ⟨rfl, rfl⟩))
  | some m =>
    obtain ⟨m10, e0⟩ := hfo m rfl
    have ei : nI m * 26 + nI n = nI (m * 26 + n) := hs_ixMul m 26 n
    refine br_t (nI_pos' (by omega)) ?_
    rw [show hs_oI (some m) = nI m from rfl, ei, nI_clamp (show m * 26 + n < 2 ^ 31 by omega)]
    refine And.intro (vp_in_nI (by omega) (by decide)) ?_
    unfold wX_startCall_19
    refine br_f e0 ?_
    rcases hX m n m10 hn with q | ⟨l, q1, q2, q3, q4⟩
    · rcases q with q | q
      · exact absurd q e0
      · have q' := q
        obtain ⟨k, k1, k2⟩ := q
        rw [k1]
        refine hs_hk4 (by omega) (fun z => by omega) (fun _ => br_t rfl ?_)
        unfold wX_startCall_73
        exact er98 3 _ _ (by decide) (Or.inr ⟨m, rfl, m10, Or.inl ⟨q', rfl⟩⟩)
    · have l405 : l < 405 := by have := q1.1; omega
      have el : (lN (17179869184 + l)).toInt32 = nI l := by
        rw [lN_i, hs_mod32]; exact congrArg nI (by omega)
      obtain ⟨s, t, D⟩ := hdf l q1
      rw [q4]
      refine hs_hk4 (by omega) (fun _ => br_f (by decide) ?_) (fun z => by omega)
      rw [el]
      refine hs_xOf (c := 7) (by omega) ?_
      have go : ∀ p, hs_np LT l = p → wX_startCall_68 post (nI m) rv (nI a) (nI us) (nI l) (nI p) x_objectLimit x_stepLimit (nI mD) x_pendingCount x_keptTokens x_keptLines x_lineCount x_codeCount x_cursor x_stop x_waitingCount x_openCount x_classCount (nI (d + 1)) (nI vt) x_stepsTaken 0 x_raisedCode x_printCount x_lastResult x_lastPlace x_pending LT x_code x_waiting x_globals ex x_orders x_merging x_letterClass x_objectClass x_attributes CL HE op x_lastPrints := by
        intro p hp
        have p1 : p ≤ 1 := by rw [← hp]; unfold hs_np; split <;> omega
        unfold wX_startCall_68
        refine pk_eq p a (fun z => pk_le (d + 1) mD (fun y => ?_) (fun y => ?_)) (fun z => ?_)
        · subst z
          refine br_t rfl ?_
          have fin : ∀ arg, (hs_np LT l = 1 → arg = op (vt - 1)) → ∃ n135 : Nat, wX_startCall_135 post (nI m) rv (nI p) (nI us) (nI l) arg (nI ((d + 1) * 27)) (nI ((d + 1) * 6)) x_objectLimit x_stepLimit (nI mD) x_pendingCount x_keptTokens x_keptLines x_lineCount x_codeCount x_cursor x_stop x_waitingCount x_openCount x_classCount (nI (d + 1)) (nI vt) x_stepsTaken 0 x_raisedCode x_printCount x_lastResult x_lastPlace n135 0 x_pending LT x_code x_waiting x_globals ex x_orders x_merging x_letterClass x_objectClass x_attributes CL HE op x_lastPrints := by
            intro arg harg
            refine ⟨27, hs_xStart135 (tk := tk) (by omega) hus hvt l405 D hp (fun HE' u1 u2 u3 => Hc m l s t ⟨rfl, m10, q1, q2, q4, hp, by omega⟩ D HE' u1 u2 (fun i hi => ?_)) 26 0 HE rfl (fun _ _ => rfl) (fun j hj => by omega)⟩
            rw [u3 i hi]
            unfold hs_lv1
            by_cases z : t = some i
            · rw [if_pos z, if_pos z]
              refine harg ?_
              obtain ⟨_, _, nn, D⟩ := D
              rcases D with ⟨x, _⟩ | ⟨t', x, x1, _, x3, _⟩
              · rw [x] at z; cases z
              · unfold hs_np; rw [x3, if_pos (nI_pos' (by omega))]
            · rw [if_neg z, if_neg z]
          have e27 : nI (d + 1) * 27 = nI ((d + 1) * 27) := pk_mul (d + 1) 27
          have e6 : nI (d + 1) * 6 = nI ((d + 1) * 6) := pk_mul (d + 1) 6
          by_cases v0 : vt = 0
          · subst v0
            refine nm_r (show nI 0 - 1 - 0 = (-1 : Int32) by decide) (br_t (by decide) (nm_r e27 (nm_r e6 (fin 0 (fun y => ?_)))))
            have := ha2 (by omega)
            omega
          · exact hs_xOperand (b := 0) (by omega) (by omega) (nm_r e27 (nm_r e6 (fin _ (fun _ => rfl))))
        · subst z
          exact er98 6 _ _ (by decide) (Or.inr ⟨m, rfl, m10, Or.inr ⟨l, q1, q2, q4, Or.inr ⟨hp, by omega, rfl⟩⟩⟩)
        · unfold wX_startCall_73
          exact er98 3 _ _ (by decide) (Or.inr ⟨m, rfl, m10, Or.inr ⟨l, q1, q2, q4, Or.inl ⟨by rw [hp]; exact z, rfl⟩⟩⟩)
      exact ⟨fun y => go 1 (if_pos y), fun y => go 0 (if_neg y)⟩
end
