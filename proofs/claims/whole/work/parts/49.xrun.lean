/-! what an element of code does, as relations; the component does it -/
section
variable {x_objectLimit x_stepLimit x_depthLimit x_pendingCount x_keptTokens x_keptLines x_lineCount x_codeCount x_cursor x_stop x_waitingCount x_openCount x_classCount x_callCount x_operandCount x_stepsTaken x_error x_raisedCode x_printCount x_lastPlace : Int32} {x_lastResult : Int64} {x_pending x_lineTable x_orders x_merging x_letterClass x_objectClass x_calls x_lastPrints : Nat → Int32} {x_code x_waiting x_globals x_entries x_attributes x_held x_operands : Nat → Int64}
variable {y_maxObjects y_maxSteps y_maxDepth y_kept y_end y_tokens y_pending y_lines y_classes y_prints y_place y_steps y_d y_valTop y_opTop y_opens y_pos y_tk y_tv y_stmt y_target y_err y_code y_outcome y_dry y_want y_starting y_ended y_bad y_hosted y_sawSuper : Int32} {y_result : Int64} {y_text y_numbers y_classOf y_alive y_orders y_lengths y_letters y_bases y_ops y_fLine y_fPos y_fStmt y_fTarget y_fMask y_fHome y_fOps y_fVals y_fNew y_out : Nat → Int32} {y_globals y_entries y_attrs y_vals y_locals y_fRecv : Nat → Int64}
def hs_ar (o : Nat) (a b : Int32) : Int32 := if o = 28 then (if b ≤ a then 0 else 1) else if o = 29 then a + b else if o = 30 then a - b else if o = 31 then a * b else if b = 0 then 0 else if a - a / b * b = 0 then a / b else if (0 ≤ a ↔ 0 ≤ b) then a / b else a / b - 1
def hs_RV (ml : Nat → List Nat) (gl ex at1 HE op : Nat → Int64) (oc lt : Nat → Int32) (mk : Int32) (cn d vt o q dr : Nat) (v : Int64) : Prop :=
  (o = 1 ∧ dr = 0 ∧ v = hs_int (nI q)) ∨ (o = 3 ∧ dr = 0 ∧ v = 4294967296) ∨ (o = 2 ∧ dr = 0 ∧ v = hs_gv mk gl HE d q ∧ v ≠ 0) ∨ (o = 5 ∧ dr = 0 ∧ ∃ c, c < cn ∧ lt (q / 26) = nI c ∧ hs_gE ex ml c (q % 26) v) ∨
  (o = 4 ∧ dr = 1 ∧ ∃ b, hs_io (op (vt - 1)) b ∧ ((at1 (b * 26 + q) ≠ 0 ∧ v = at1 (b * 26 + q)) ∨ (at1 (b * 26 + q) = 0 ∧ ∃ c, c < cn ∧ oc b = nI c ∧ hs_gE ex ml c q v))) ∨
  (27 ≤ o ∧ dr = 2 ∧ ((o = 27 ∧ v = hs_int (if op (vt - 2) = op (vt - 1) then 1 else 0)) ∨ (o ≠ 27 ∧ ∃ a b, op (vt - 2) = hs_int a ∧ op (vt - 1) = hs_int b ∧ ¬ (o = 32 ∧ b = 0) ∧ v = hs_int (hs_ar o a b))))
def hs_RE (ml : Nat → List Nat) (gl ex at1 HE op : Nat → Int64) (oc lt : Nat → Int32) (mk : Int32) (cn d vt o q : Nat) (er : Int32) : Prop :=
  (o = 2 ∧ hs_gv mk gl HE d q = 0 ∧ er = 2) ∨ (o = 5 ∧ lt (q / 26) = -1 ∧ er = 2) ∨ (o = 5 ∧ ∃ c, c < cn ∧ lt (q / 26) = nI c ∧ hs_gX ex ml c (q % 26) er) ∨
  (o = 4 ∧ hs_no (op (vt - 1)) ∧ er = 3) ∨ (o = 4 ∧ ∃ b, hs_io (op (vt - 1)) b ∧ at1 (b * 26 + q) = 0 ∧ ∃ c, c < cn ∧ oc b = nI c ∧ hs_gX ex ml c q er) ∨
  (28 ≤ o ∧ ¬ (o = 29 ∧ ∃ b, hs_io (op (vt - 2)) b) ∧ (hs_ni (op (vt - 2)) ∨ ((∃ a, op (vt - 2) = hs_int a) ∧ hs_ni (op (vt - 1)))) ∧ er = 3) ∨ (o = 32 ∧ ∃ a, op (vt - 2) = hs_int a ∧ op (vt - 1) = hs_int 0 ∧ er = 5) ∨
  ((o = 6 ∨ o = 7) ∧ hs_no (op (vt - 1 - (o - 6))) ∧ er = 3) ∨ ((o = 6 ∨ o = 7) ∧ ∃ b, hs_io (op (vt - 1 - (o - 6))) b ∧ at1 (b * 26 + q) ≠ 0 ∧ er = 3) ∨ (o = 29 ∧ ∃ b, hs_io (op (vt - 2)) b ∧ at1 (b * 26) ≠ 0 ∧ er = 3)
def hs_RM (ml : Nat → List Nat) (ex at1 HE op : Nat → Int64) (oc : Nat → Int32) (hm cn d vt o q : Nat) (fo : Option Nat) (n : Nat) (rv : Int64) (a us : Nat) : Prop :=
  ((o = 6 ∨ o = 7) ∧ a = o - 6 ∧ us = a + 1 ∧ n = q ∧ rv = op (vt - 1 - a) ∧ ∃ b c, hs_io rv b ∧ at1 (b * 26 + q) = 0 ∧ c < cn ∧ oc b = nI c ∧ fo = hs_sea ex n (ml c)) ∨
  ((o = 8 ∨ o = 9) ∧ a = o - 8 ∧ us = a ∧ n = q ∧ 1 ≤ d ∧ rv = HE (d * 27 + 26) ∧ ∃ b c, hs_io rv b ∧ c < cn ∧ oc b = nI c ∧ fo = hs_sea ex n ((ml c).drop ((ml c).idxOf hm + 1))) ∨
  (o = 29 ∧ a = 1 ∧ us = 2 ∧ n = 0 ∧ rv = op (vt - 2) ∧ ∃ b c, hs_io rv b ∧ at1 (b * 26) = 0 ∧ c < cn ∧ oc b = nI c ∧ fo = hs_sea ex 0 (ml c))
theorem hs_xArith {o : Nat} {a b : Int32} (ho : 28 ≤ o) (ho2 : o < 64) {post : Int32 → Prop} (H : post (hs_ar o a b)) : wpX_arithmetic post (nI o) a b := by
  have dv : (b = 0 → hs_ar o a b = 0) → (b ≠ 0 → a - a / b * b = 0 → hs_ar o a b = a / b) → (b ≠ 0 → a - a / b * b ≠ 0 → (0 ≤ a ↔ 0 ≤ b) → hs_ar o a b = a / b) → (b ≠ 0 → a - a / b * b ≠ 0 → ¬ (0 ≤ a ↔ 0 ≤ b) → hs_ar o a b = a / b - 1) → ((b = 0 → post 0) ∧ (¬ b = 0 → (¬ b = 0 ∧ (((a - a / b * b) = 0 → (¬ b = 0 ∧ (post (a / b)))) ∧ (¬ (a - a / b * b) = 0 → (((0 ≤ a → (wX_arithmetic_78 post a b 0)) ∧ (¬ 0 ≤ a → (wX_arithmetic_78 post a b 1)))))))) : Prop) := by
    intro h1 h2 h3 h4
    refine ⟨fun z => by rw [← h1 z]; exact H, fun z => ⟨z, ⟨fun y => ⟨z, by rw [← h2 z y]; exact H⟩, fun y => ⟨fun x => ?_, fun x => ?_⟩⟩⟩⟩
    · unfold wX_arithmetic_78 wX_arithmetic_87
      refine ⟨fun x2 => br_t rfl ⟨z, ?_⟩, fun x2 => br_f (by decide) ⟨z, ?_⟩⟩
      · rw [← h3 z y ⟨fun _ => x2, fun _ => x⟩]; exact H
      · rw [← h4 z y (fun k => x2 (k.mp x))]; exact H
    · unfold wX_arithmetic_78 wX_arithmetic_87
      refine ⟨fun x2 => br_f (by decide) ⟨z, ?_⟩, fun x2 => br_t rfl ⟨z, ?_⟩⟩
      · rw [← h4 z y (fun k => x (k.mpr x2))]; exact H
      · rw [← h3 z y ⟨fun k => absurd k x, fun k => absurd k x2⟩]; exact H
  unfold wpX_arithmetic
  unfold hs_ar at H dv
  refine pk_lt o 28 (fun z => by omega) (fun _ => pk_lt 31 o (fun z => ?_) (fun z => ?_))
  · rw [if_neg (show ¬ o = 28 by omega), if_neg (show ¬ o = 29 by omega), if_neg (show ¬ o = 30 by omega), if_neg (show ¬ o = 31 by omega)] at dv
    exact dv (fun q => if_pos q) (fun q1 q2 => (if_neg q1).trans (if_pos q2)) (fun q1 q2 q3 => (if_neg q1).trans ((if_neg q2).trans (if_pos q3))) (fun q1 q2 q3 => (if_neg q1).trans ((if_neg q2).trans (if_neg q3)))
  · refine pk_eq o 28 (fun k => ?_) (fun k => ?_)
    · rw [if_pos k] at H
      refine ⟨fun y => ?_, fun y => ?_⟩
      · rw [if_pos y] at H; exact H
      · rw [if_neg y] at H; exact H
    rw [if_neg k] at H
    refine pk_eq o 29 (fun k => ?_) (fun k => ?_)
    · rw [if_pos k] at H; exact H
    rw [if_neg k] at H
    refine pk_eq o 30 (fun k => ?_) (fun k => ?_)
    · rw [if_pos k] at H; exact H
    rw [if_neg k] at H
    refine pk_eq o 31 (fun k => ?_) (fun k => trivial)
    rw [if_pos k] at H; exact H
end
