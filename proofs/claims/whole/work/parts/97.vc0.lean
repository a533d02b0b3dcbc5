/-! the constructor -/
section
variable {x_objectLimit x_stepLimit x_depthLimit x_pendingCount x_keptTokens x_keptLines x_lineCount x_codeCount x_cursor x_stop x_waitingCount x_openCount x_classCount x_callCount x_operandCount x_stepsTaken x_error x_raisedCode x_printCount x_lastPlace : Int32} {x_lastResult : Int64} {x_pending x_lineTable x_orders x_merging x_letterClass x_objectClass x_calls x_lastPrints : Nat → Int32} {x_code x_waiting x_globals x_entries x_attributes x_held x_operands : Nat → Int64}
variable {y_maxObjects y_maxSteps y_maxDepth y_kept y_end y_tokens y_pending y_lines y_classes y_prints y_place y_steps y_d y_valTop y_opTop y_opens y_pos y_tk y_tv y_stmt y_target y_err y_code y_outcome y_dry y_want y_starting y_ended y_bad y_hosted y_sawSuper : Int32} {y_result : Int64} {y_text y_numbers y_classOf y_alive y_orders y_lengths y_letters y_bases y_ops y_fLine y_fPos y_fStmt y_fTarget y_fMask y_fHome y_fOps y_fVals y_fNew y_out : Nat → Int32} {y_globals y_entries y_attrs y_vals y_locals y_fRecv : Nat → Int64}
variable {tx nu LT : Nat → Int32} {cd : Nat → Int64} {lc kp cc : Nat} {P ind h : Nat → Nat} {tk : Nat → List Nat} {ca cb us ue : Nat → Nat} {yk yen yto ype yli : Int32} {mo mS mD : Nat} {ho : Bool}
variable {s d vt cn : Nat} {ml : Nat → List Nat} {gl ex at1 HE op : Nat → Int64} {ox oc lt lp CL mg : Nat → Int32} {pc rc : Int32} {fl dl vb ob : Nat → Nat} {ts st : Nat → List Nat} {M : Nat}
def hs_cl (p : Int32) (lo hi : Nat) : Nat := if nI lo ≤ p then (if p ≤ nI hi then p.toNatClampNeg else hi) else lo
theorem hs_clV {p : Int32} {lo hi : Nat} (h1 : lo ≤ hi) (h2 : hi < 2 ^ 31) : lo ≤ hs_cl p lo hi ∧ hs_cl p lo hi ≤ hi := by
  unfold hs_cl
  split
  · rename_i z
    split
    · rename_i y
      obtain ⟨j, j1, j2⟩ : ∃ j : Nat, j < 2 ^ 31 ∧ p = nI j := by
        rcases pk_ix p (n := 2 ^ 31 - 1) (by decide) with w | w | ⟨j, w1, w2⟩
        · have h0 : (0 : Int32) ≤ nI lo := nI_pos' (by omega)
          exact absurd w (by
            intro w
            have a1 := Int32.le_iff_toInt_le.mp z
            have a2 := Int32.lt_iff_toInt_lt.mp w
            have a3 := Int32.le_iff_toInt_le.mp h0
            omega)
        · have a1 := Int32.le_iff_toInt_le.mp w
          have a2 := Int32.le_iff_toInt_le.mp y
          rw [nI_toInt (by omega)] at a1 a2
          exact ⟨hi, h2, Int32.toInt_inj.mp (by rw [nI_toInt h2]; omega)⟩
        · exact ⟨j, by omega, w2⟩
      subst j2
      rw [nI_clamp j1]
      exact ⟨(nI_leI (by omega) j1).mp z, (nI_leI j1 h2).mp y⟩
    · omega
  · omega
theorem hs_clP {p : Int32} {lo hi : Nat} (h1 : lo ≤ hi) (h2 : hi < 2 ^ 31) {post : Int32 → Prop} (H : post (nI (hs_cl p lo hi))) : ((nI lo ≤ p → (((p ≤ nI hi → (post p)) ∧ (¬ p ≤ nI hi → (post (nI hi)))))) ∧ (¬ nI lo ≤ p → (post (nI lo)))) := by
  refine br_c (fun z => br_c (fun y => ?_) (fun y => ?_)) (fun z => ?_)
  · have e : hs_cl p lo hi = p.toNatClampNeg := (if_pos z).trans (if_pos y)
    have b := hs_clV (p := p) h1 h2
    rw [e] at H b
    obtain ⟨j, j1, j2⟩ := nI_of (x := p) (fun w => by
      have h0 : (0 : Int32) ≤ nI lo := nI_pos' (by omega)
      have a1 := Int32.le_iff_toInt_le.mp z
      have a2 := Int32.lt_iff_toInt_lt.mp w
      have a3 := Int32.le_iff_toInt_le.mp h0
      omega)
    subst j2
    rw [nI_clamp j1] at H
    exact H
  · have e : hs_cl p lo hi = hi := (if_pos z).trans (if_neg y)
    rw [e] at H; exact H
  · have e : hs_cl p lo hi = lo := if_neg z
    rw [e] at H; exact H
def hs_l26 (i : Nat) : Nat → Int32 := fun j => if j < i then -1 else 0
theorem hs_l26S (i : Nat) : upd (hs_l26 i) i (-1) = hs_l26 (i + 1) := by
  funext j
  unfold hs_l26
  by_cases z : j = i
  · subst z; rw [pk_us, if_pos (by omega)]
  · rw [pk_un z]
    by_cases y : j < i
    · rw [if_pos y, if_pos (by omega)]
    · rw [if_neg y, if_neg (by omega)]
theorem hs_l260 : (fun _ => 0 : Nat → Int32) = hs_l26 0 := by
  funext j
  unfold hs_l26
  rw [if_neg (by omega)]
theorem hs_xIni {post : SX → Prop} : ∀ (n i : Nat) (lt : Nat → Int32), lt = hs_l26 i → i + n = 26 → wX_init_170 post x_objectLimit x_stepLimit x_depthLimit x_pendingCount x_keptTokens x_keptLines x_lineCount x_codeCount x_cursor x_stop x_waitingCount x_openCount x_classCount x_callCount x_operandCount x_stepsTaken x_error x_raisedCode x_printCount x_lastResult x_lastPlace 1 (nI 26) x_pending x_lineTable x_code x_waiting x_globals x_entries x_orders x_merging (hs_l26 26) x_objectClass x_attributes x_calls x_held x_operands x_lastPrints → wX_init_170 post x_objectLimit x_stepLimit x_depthLimit x_pendingCount x_keptTokens x_keptLines x_lineCount x_codeCount x_cursor x_stop x_waitingCount x_openCount x_classCount x_callCount x_operandCount x_stepsTaken x_error x_raisedCode x_printCount x_lastResult x_lastPlace (n + 1) (nI i) x_pending x_lineTable x_code x_waiting x_globals x_entries x_orders x_merging lt x_objectClass x_attributes x_calls x_held x_operands x_lastPrints := by
  intro n
  induction n with
  | zero =>
    intro i lt e hi H
    subst e
    have : i = 26 := by omega
    subst this; exact H
  | succ n ih =>
    intro i lt e hi H
    subst e
    refine br_f (nI_ge (b := 26) (by omega) (by decide)) ?_
    rw [nI_clamp (show i < 2 ^ 31 by omega)]
    exact And.intro (vp_in_nI (by omega) (by decide)) (nm_r (hs_l26S i) (nm_r (nI_1 i) (ih (i + 1) _ rfl (by omega) H)))
theorem hs_yIni {post : SY → Prop} : ∀ (n i : Nat) (lt : Nat → Int32), lt = hs_l26 i → i + n = 26 → wY_init_292 post y_maxObjects y_maxSteps y_maxDepth y_kept y_end y_tokens y_pending y_lines y_classes y_prints y_place y_steps y_d y_valTop y_opTop y_opens y_pos y_tk y_tv y_stmt y_target y_err y_code y_outcome y_result y_dry y_want y_starting y_ended y_bad y_hosted y_sawSuper 1 (nI 26) y_text y_numbers y_globals y_entries y_attrs y_classOf y_alive y_orders y_lengths (hs_l26 26) y_bases y_vals y_ops y_locals y_fRecv y_fLine y_fPos y_fStmt y_fTarget y_fMask y_fHome y_fOps y_fVals y_fNew y_out → wY_init_292 post y_maxObjects y_maxSteps y_maxDepth y_kept y_end y_tokens y_pending y_lines y_classes y_prints y_place y_steps y_d y_valTop y_opTop y_opens y_pos y_tk y_tv y_stmt y_target y_err y_code y_outcome y_result y_dry y_want y_starting y_ended y_bad y_hosted y_sawSuper (n + 1) (nI i) y_text y_numbers y_globals y_entries y_attrs y_classOf y_alive y_orders y_lengths lt y_bases y_vals y_ops y_locals y_fRecv y_fLine y_fPos y_fStmt y_fTarget y_fMask y_fHome y_fOps y_fVals y_fNew y_out := by
  intro n
  induction n with
  | zero =>
    intro i lt e hi H
    subst e
    have : i = 26 := by omega
    subst this; exact H
  | succ n ih =>
    intro i lt e hi H
    subst e
    refine br_f (nI_ge (b := 26) (by omega) (by decide)) ?_
    rw [nI_clamp (show i < 2 ^ 31 by omega)]
    exact And.intro (vp_in_nI (by omega) (by decide)) (nm_r (hs_l26S i) (nm_r (nI_1 i) (ih (i + 1) _ rfl (by omega) H)))
def hs_dcB : Int64 → List Nat → Bool
  | x, [] => decide (x = 0)
  | x, t :: r => decide (¬ x = 0) && decide ((x &&& 4095).toInt32 = nI t) && hs_dcB (x.toUInt64 >>> ((12 : Int32).toInt64.toUInt64 &&& Int64.toUInt64 63)).toInt64 r
def hs_wr5 : (Nat → Int32) → Nat → List Nat → Nat → Int32
  | tx, _, [] => tx
  | tx, e, t :: r => hs_wr5 (upd tx e (nI t)) (e + 1) r
theorem hs_y5 {post : SY → Prop} : ∀ (l : List Nat) (x : Int64) (e : Nat) (tx : Nat → Int32), hs_dcB x l = true → e + l.length < 1000 → post (y_maxObjects, y_maxSteps, y_maxDepth, y_kept, nI (e + l.length), y_tokens, y_pending, y_lines, y_classes, y_prints, y_place, y_steps, y_d, y_valTop, y_opTop, y_opens, y_pos, y_tk, y_tv, y_stmt, y_target, y_err, y_code, y_outcome, y_result, y_dry, y_want, y_starting, y_ended, y_bad, y_hosted, y_sawSuper, hs_wr5 tx e l, y_numbers, y_globals, y_entries, y_attrs, y_classOf, y_alive, y_orders, y_lengths, y_letters, y_bases, y_vals, y_ops, y_locals, y_fRecv, y_fLine, y_fPos, y_fStmt, y_fTarget, y_fMask, y_fHome, y_fOps, y_fVals, y_fNew, y_out) → wY_five_2 post y_maxObjects y_maxSteps y_maxDepth y_kept y_tokens y_pending y_lines y_classes y_prints y_place y_steps y_d y_valTop y_opTop y_opens y_pos y_tk y_tv y_stmt y_target y_err y_code y_outcome y_result y_dry y_want y_starting y_ended y_bad y_hosted y_sawSuper (l.length + 1) x (nI e) tx y_numbers y_globals y_entries y_attrs y_classOf y_alive y_orders y_lengths y_letters y_bases y_vals y_ops y_locals y_fRecv y_fLine y_fPos y_fStmt y_fTarget y_fMask y_fHome y_fOps y_fVals y_fNew y_out
  | [], x, e, tx, hd, he, H => br_t (of_decide_eq_true hd) H
  | t :: r, x, e, tx, hd, he, H => by
    have hd' : (decide (¬ x = 0) && decide ((x &&& 4095).toInt32 = nI t) && hs_dcB (x.toUInt64 >>> ((12 : Int32).toInt64.toUInt64 &&& Int64.toUInt64 63)).toInt64 r) = true := hd
    rw [Bool.and_eq_true, Bool.and_eq_true] at hd'
    rw [List.length_cons] at he
    refine br_f (of_decide_eq_true hd'.1.1) (nm_r (nI_1 e) (And.intro (vp_in_nI (by omega) (by decide)) ?_))
    rw [nI_clamp (show e < 2 ^ 31 by omega), of_decide_eq_true hd'.1.2]
    refine nm_e (nm_e (hs_y5 r _ (e + 1) _ hd'.2 (by omega) ?_))
    rw [show e + 1 + r.length = e + (t :: r).length by rw [List.length_cons]; omega]
    exact H
theorem hs_y5w {post : SY → Prop} {tx : Nat → Int32} (l : List Nat) (x : Int64) (e : Nat) (hd : hs_dcB x l = true) (he : e + l.length < 1000) (H : post (y_maxObjects, y_maxSteps, y_maxDepth, y_kept, nI (e + l.length), y_tokens, y_pending, y_lines, y_classes, y_prints, y_place, y_steps, y_d, y_valTop, y_opTop, y_opens, y_pos, y_tk, y_tv, y_stmt, y_target, y_err, y_code, y_outcome, y_result, y_dry, y_want, y_starting, y_ended, y_bad, y_hosted, y_sawSuper, hs_wr5 tx e l, y_numbers, y_globals, y_entries, y_attrs, y_classOf, y_alive, y_orders, y_lengths, y_letters, y_bases, y_vals, y_ops, y_locals, y_fRecv, y_fLine, y_fPos, y_fStmt, y_fTarget, y_fMask, y_fHome, y_fOps, y_fVals, y_fNew, y_out)) : wpY_five post (y_maxObjects, y_maxSteps, y_maxDepth, y_kept, nI e, y_tokens, y_pending, y_lines, y_classes, y_prints, y_place, y_steps, y_d, y_valTop, y_opTop, y_opens, y_pos, y_tk, y_tv, y_stmt, y_target, y_err, y_code, y_outcome, y_result, y_dry, y_want, y_starting, y_ended, y_bad, y_hosted, y_sawSuper, tx, y_numbers, y_globals, y_entries, y_attrs, y_classOf, y_alive, y_orders, y_lengths, y_letters, y_bases, y_vals, y_ops, y_locals, y_fRecv, y_fLine, y_fPos, y_fStmt, y_fTarget, y_fMask, y_fHome, y_fOps, y_fVals, y_fNew, y_out) x := ⟨l.length + 1, hs_y5 l x e tx hd he H⟩
end
