/-! the relation between two calls -/
section
variable {x_objectLimit x_stepLimit x_depthLimit x_pendingCount x_keptTokens x_keptLines x_lineCount x_codeCount x_cursor x_stop x_waitingCount x_openCount x_classCount x_callCount x_operandCount x_stepsTaken x_error x_raisedCode x_printCount x_lastPlace : Int32} {x_lastResult : Int64} {x_pending x_lineTable x_orders x_merging x_letterClass x_objectClass x_calls x_lastPrints : Nat → Int32} {x_code x_waiting x_globals x_entries x_attributes x_held x_operands : Nat → Int64}
variable {y_maxObjects y_maxSteps y_maxDepth y_kept y_end y_tokens y_pending y_lines y_classes y_prints y_place y_steps y_d y_valTop y_opTop y_opens y_pos y_tk y_tv y_stmt y_target y_err y_code y_outcome y_dry y_want y_starting y_ended y_bad y_hosted y_sawSuper : Int32} {y_result : Int64} {y_text y_numbers y_classOf y_alive y_orders y_lengths y_letters y_bases y_ops y_fLine y_fPos y_fStmt y_fTarget y_fMask y_fHome y_fOps y_fVals y_fNew y_out : Nat → Int32} {y_globals y_entries y_attrs y_vals y_locals y_fRecv : Nat → Int64}
def hs_RR (tx nu LT pd : Nat → Int32) (cd : Nat → Int64) (lc kp cc : Nat) (P ind h : Nat → Nat) (tk : Nat → List Nat) (ca cb us ue : Nat → Nat) (cn : Nat) (ml : Nat → List Nat) (gl ex at1 : Nat → Int64) (ox oc lt : Nat → Int32) (HE : Nat → Int64) (mo mS mD kt kl pn : Nat) (rv : Int64) (k : Nat) : Prop :=
  hs_T tx nu LT cd lc kp cc P ind h tk ca cb us ue ∧ hs_WX P h lc cn ml gl ex at1 ox oc lt ∧ (∀ c, c < cn → c ∈ ml c) ∧ (∀ j, j < 27 → HE j = 0) ∧ hs_PD tx pd kp pn ∧ (1 ≤ kp ∧ tx (kp - 1) = -1) ∧ hs_v0 rv ∧ (2 ≤ mo ∧ mo ≤ 8 ∧ mS ≤ 200 ∧ mD ≤ 6) ∧ (kt + pn ≤ 400 ∧ kl ≤ kt + k ∧ lc ≤ 5 + kt ∧ cc ≤ 43 + kt ∧ kp ≤ 44 + 2 * kt)
def hs_XA (LT pd : Nat → Int32) (cd : Nat → Int64) (lc cc cn : Nat) (gl ex at1 : Nat → Int64) (ox oc lt lp : Nat → Int32) (HE : Nat → Int64) (mo mS mD kt kl pn : Nat) (pc rc pl : Int32) (rv : Int64) (u : SX) : Prop := match u with
  | (x_objectLimit, x_stepLimit, x_depthLimit, x_pendingCount, x_keptTokens, x_keptLines, x_lineCount, x_codeCount, x_cursor, x_stop, x_waitingCount, x_openCount, x_classCount, x_callCount, x_operandCount, x_stepsTaken, x_error, x_raisedCode, x_printCount, x_lastResult, x_lastPlace, x_pending, x_lineTable, x_code, x_waiting, x_globals, x_entries, x_orders, x_merging, x_letterClass, x_objectClass, x_attributes, x_calls, x_held, x_operands, x_lastPrints) => x_objectLimit = nI mo ∧ x_stepLimit = nI mS ∧ x_depthLimit = nI mD ∧ x_pendingCount = nI pn ∧ x_keptTokens = nI kt ∧ x_keptLines = nI kl ∧ x_lineCount = nI lc ∧ x_codeCount = nI cc ∧ x_classCount = nI cn ∧ x_callCount = 0 ∧ x_operandCount = 0 ∧ x_raisedCode = rc ∧ x_printCount = pc ∧ x_lastResult = hs_sh oc rv ∧ x_lastPlace = pl ∧ x_pending = pd ∧ x_lineTable = LT ∧ x_code = cd ∧ x_globals = gl ∧ x_entries = ex ∧ x_orders = ox ∧ x_letterClass = lt ∧ x_objectClass = oc ∧ x_attributes = at1 ∧ x_held = HE ∧ x_lastPrints = lp
/-- the relation at the head of a turn whose first cell is k -/
def i_Rel (k : Nat) (u : SX) (v : SY) : Prop :=
  ∃ (tx nu LT pd : Nat → Int32) (cd : Nat → Int64) (lc kp cc : Nat) (P ind h : Nat → Nat) (tk : Nat → List Nat) (ca cb us ue : Nat → Nat) (cn : Nat) (ml : Nat → List Nat) (gl ex at1 HE : Nat → Int64) (ox oc lt lp : Nat → Int32) (mo mS mD kt kl pn : Nat) (pc rc pl er : Int32) (rv : Int64),
    hs_RR tx nu LT pd cd lc kp cc P ind h tk ca cb us ue cn ml gl ex at1 ox oc lt HE mo mS mD kt kl pn rv k ∧ hs_XA LT pd cd lc cc cn gl ex at1 ox oc lt lp HE mo mS mD kt kl pn pc rc pl rv u ∧ hs_VF tx nu P h lc (nI kp) (nI (kp + pn)) (nI kt) (nI pn) (nI kl) mo mS mD gl ex at1 oc lt lp ml cn pc rc er pl rv v
theorem i_up {k : Nat} {u : SX} {v : SY} (h : i_Rel k u v) : i_Rel (k + 5) u v := by
  obtain ⟨tx, nu, LT, pd, cd, lc, kp, cc, P, ind, h, tk, ca, cb, us, ue, cn, ml, gl, ex, at1, HE, ox, oc, lt, lp, mo, mS, mD, kt, kl, pn, pc, rc, pl, er, rv, ⟨r1, r2, r3, r4, r5, r6, r7, r8, ⟨b1, b2, b3, b4, b5⟩⟩, hx, hy⟩ := h
  exact ⟨tx, nu, LT, pd, cd, lc, kp, cc, P, ind, h, tk, ca, cb, us, ue, cn, ml, gl, ex, at1, HE, ox, oc, lt, lp, mo, mS, mD, kt, kl, pn, pc, rc, pl, er, rv, ⟨r1, r2, r3, r4, r5, r6, r7, r8, ⟨b1, by omega, b3, b4, b5⟩⟩, hx, hy⟩
theorem hs_shI {oc : Nat → Int32} {a : Int32} : hs_sh oc (hs_int a) = hs_int a := by
  unfold hs_sh
  rw [hs_ykI, if_neg (by decide), if_neg (by decide)]
theorem hs_sh0 {oc : Nat → Int32} : hs_sh oc 0 = 0 := by
  unfold hs_sh
  rw [if_neg (by decide), if_neg (by decide)]
theorem hs_xOpd0 {c2 : Int32} {op : Nat → Int64} {post : Int64 → Prop} (H : ∀ v, (c2 = 0 → v = 0) → (c2 = 1 → v = op 0) → post v) : wpX_operand post (x_objectLimit, x_stepLimit, x_depthLimit, x_pendingCount, x_keptTokens, x_keptLines, x_lineCount, x_codeCount, x_cursor, x_stop, x_waitingCount, x_openCount, x_classCount, x_callCount, c2, x_stepsTaken, x_error, x_raisedCode, x_printCount, x_lastResult, x_lastPlace, x_pending, x_lineTable, x_code, x_waiting, x_globals, x_entries, x_orders, x_merging, x_letterClass, x_objectClass, x_attributes, x_calls, x_held, op, x_lastPrints) 0 := by
  refine nm_r (Int32.sub_zero _) (br_c (fun z => H 0 (fun _ => rfl) (fun e => ?_)) (fun z => br_c (fun y => H 0 (fun _ => rfl) (fun e => ?_)) (fun y => ?_)))
  · subst e; exact absurd z (by decide)
  · subst e; exact absurd y (by decide)
  · obtain ⟨j, hj, e⟩ := nI_of z
    have j280 : j < 280 := by
      rcases Nat.lt_or_ge j 280 with w | w
      · exact w
      · exact absurd (by rw [e]; exact nI_le w hj) y
    rw [e, nI_clamp hj]
    refine And.intro (vp_in_nI j280 (by decide)) (H _ (fun e2 => ?_) (fun e2 => ?_))
    · subst e2; exact absurd (by decide) z
    · subst e2
      have q : nI j = nI 0 := e.symm.trans (by decide)
      have := (nI_eq hj (by omega)).mp q
      rw [this]
theorem hs_finX {tx nu LT pd : Nat → Int32} {cd : Nat → Int64} {lc kp cc : Nat} {P ind h : Nat → Nat} {tk : Nat → List Nat} {ca cb us ue : Nat → Nat} {mo mS mD kt kl pn k : Nat} {u' : SX} {V' : SY → Prop} (T : hs_T tx nu LT cd lc kp cc P ind h tk ca cb us ue) (hPD : hs_PD tx pd kp pn) (hkp : 1 ≤ kp ∧ tx (kp - 1) = -1) (hm : 2 ≤ mo ∧ mo ≤ 8 ∧ mS ≤ 200 ∧ mD ≤ 6) (hb : kt + pn ≤ 400 ∧ kl ≤ kt + k ∧ lc ≤ 5 + kt ∧ cc ≤ 43 + kt ∧ kp ≤ 44 + 2 * kt) (hF : hs_F tx nu LT cd lc P h (nI kp) (nI (kp + pn)) (nI kt) (nI pn) (nI kl) mo mS mD (nI pn) (nI kt) (nI kl) (nI cc) x_cursor x_stop x_waitingCount x_openCount x_lastResult pd x_waiting u' V') {post : Int32 → SX → Prop} (H : ∀ er u1, (∀ v', V' v' → i_Rel k u1 v' ∧ match v' with | (y_maxObjects, y_maxSteps, y_maxDepth, y_kept, y_end, y_tokens, y_pending, y_lines, y_classes, y_prints, y_place, y_steps, y_d, y_valTop, y_opTop, y_opens, y_pos, y_tk, y_tv, y_stmt, y_target, y_err, y_code, y_outcome, y_result, y_dry, y_want, y_starting, y_ended, y_bad, y_hosted, y_sawSuper, y_text, y_numbers, y_globals, y_entries, y_attrs, y_classOf, y_alive, y_orders, y_lengths, y_letters, y_bases, y_vals, y_ops, y_locals, y_fRecv, y_fLine, y_fPos, y_fStmt, y_fTarget, y_fMask, y_fHome, y_fOps, y_fVals, y_fNew, y_out) => y_outcome = er) → post er u1) : wpX_finish post u' := by
  obtain ⟨cn, ml, gl, ex, at1, HE, op, ox, oc, lt, lp, CL, mg, c1, c2, s1, pc, rc, er, pl, rv, W, MC, H0, ⟨r1, r2, r3⟩, rfl, rfl⟩ := hF
  have rel : ∀ lr : Int64, lr = hs_sh oc rv → hs_v0 rv → wX_finish_56 post (nI mo) (nI mS) (nI mD) (nI pn) (nI kt) (nI kl) (nI lc) (nI cc) x_cursor x_stop x_waitingCount x_openCount (nI cn) c1 c2 s1 er rc pc lr pl pd LT cd x_waiting gl ex ox mg lt oc at1 CL HE op lp := by
    intro lr e rv0
    subst e
    refine H er _ (fun v' hv' => ⟨⟨tx, nu, LT, pd, cd, lc, kp, cc, P, ind, h, tk, ca, cb, us, ue, cn, ml, gl, ex, at1, HE, ox, oc, lt, lp, mo, mS, mD, kt, kl, pn, pc, rc, pl, er, rv, ⟨T, W, MC, H0, hPD, hkp, rv0, hm, hb⟩, ⟨rfl, rfl, rfl, rfl, rfl, rfl, rfl, rfl, rfl, rfl, rfl, rfl, rfl, rfl, rfl, rfl, rfl, rfl, rfl, rfl, rfl, rfl, rfl, rfl, rfl, rfl⟩, hv'⟩, ?_⟩)
    obtain ⟨y_maxObjects, y_maxSteps, y_maxDepth, y_kept, y_end, y_tokens, y_pending, y_lines, y_classes, y_prints, y_place, y_steps, y_d, y_valTop, y_opTop, y_opens, y_pos, y_tk, y_tv, y_stmt, y_target, y_err, y_code, y_outcome, y_result, y_dry, y_want, y_starting, y_ended, y_bad, y_hosted, y_sawSuper, y_text, y_numbers, y_globals, y_entries, y_attrs, y_classOf, y_alive, y_orders, y_lengths, y_letters, y_bases, y_vals, y_ops, y_locals, y_fRecv, y_fLine, y_fPos, y_fStmt, y_fTarget, y_fMask, y_fHome, y_fOps, y_fVals, y_fNew, y_out⟩ := v'
    obtain ⟨⟨a1, a2, a3, a4, a5, a6, a7, a8, a9, a10, a11, a12, a13, a14, a15, a16, a17, a18, a19, anu, a21, a22, a23, a24, a25⟩, _⟩ := hv'
    exact a16
  unfold wpX_finish
  refine hs_xOpd0 (fun v h0 h1 => ?_)
  by_cases e0 : er = 0
  · refine br_t e0 ?_
    rcases r1 e0 with ⟨c, r⟩ | ⟨c, vv, o⟩
    · rw [h0 c]
      refine hs_xShown (hs_rvV (Or.inl rfl)) (rel _ ?_ (Or.inl r))
      rw [r]
    · rw [h1 c, o]
      exact hs_xShown (hs_rvV (Or.inr vv)) (rel _ rfl (Or.inr vv))
  · refine br_f e0 (br_c (fun e8 => nm_e (rel _ ?_ ?_)) (fun e8 => rel _ ?_ ?_))
    · rw [r2 e8, hs_shI]; rfl
    · rw [r2 e8]; exact Or.inr (hs_intV _)
    · rw [r3 e0 e8, hs_sh0]
    · rw [r3 e0 e8]; exact Or.inl rfl
end
