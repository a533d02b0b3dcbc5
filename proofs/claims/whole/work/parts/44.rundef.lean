/-! running: what both sides agree on between two turns -/
/-- the def line around a line -/
def hs_Dn (h ind : Nat → Nat) (a : Nat) : Nat → Nat → Option Nat
  | 0, _ => none
  | n + 1, i => match hs_pa ind a i with
    | none => none
    | some p => if h p = 2 then some p else hs_Dn h ind a n p
def hs_D (h ind : Nat → Nat) (a i : Nat) : Option Nat := hs_Dn h ind a 9 i
def hs_df (h : Nat → Nat) (lc l : Nat) : Prop := l < lc ∧ h l = 2
def hs_T (tx nu LT : Nat → Int32) (cd : Nat → Int64) (lc kp cc : Nat) (P ind h : Nat → Nat) (tk : Nat → List Nat) (ca cb us ue : Nat → Nat) : Prop :=
  lc ≤ 405 ∧ cc ≤ 443 ∧ kp ≤ 900 ∧ ∀ j, j < lc → ca j ≤ j ∧ j < cb j ∧ cb j ≤ lc ∧ (∀ i, ca j ≤ i → i < cb j → ca i = ca j ∧ cb i = cb j) ∧ ue j < kp ∧ hs_Ch tx (us j) (ue j) (ca j) (cb j) P ind ∧ hs_TK tx (ca j) (cb j) P h tk ∧ hs_LN LT cd ind tk (ca j) (cb j) cc j ∧ hs_lok tk h ind (ca j) j ∧ hs_eok h ind (ca j) (cb j) ∧ nu (P j) = LT (j * 14 + 2)
def hs_arr (o : Nat) : Nat := if o = 4 ∨ o = 6 ∨ o = 9 ∨ o = 11 then 1 else if o = 7 ∨ 27 ≤ o then 2 else 0
def hs_qs (k : Nat) (ts st : List Nat) : Prop := (∀ t, t ∈ ts → t < 2 ^ 31) ∧ (13 ∈ ts → 1 ≤ k) ∧ ∀ s, s ∈ st → s / 64 < 26 ∧ (s % 64 = 3 → 1 ≤ k)
def hs_oq (k o q : Nat) : Prop := 1 ≤ o ∧ (o ≤ 11 ∨ 27 ≤ o) ∧ o < 64 ∧ q < 2 ^ 31 ∧ (o ≠ 1 → o ≠ 5 → q < 26) ∧ (o = 5 → q < 676) ∧ (o = 8 ∨ o = 9 → 1 ≤ k)
def hs_zk (k : Int32) : Bool := decide (k = 14 ∨ k = 16)
def hs_smk (k : Int32) : Int32 := if k = 15 then 51 else if k = 17 then 52 else if k = 14 ∨ k = 16 then 50 else k
def hs_tg (LT : Nat → Int32) (l : Nat) (t : Int32) : Prop := (LT (l * 14) = 15 → t = LT (l * 14 + 5)) ∧ (LT (l * 14) = 17 → t = LT (l * 14 + 6) * 26 + LT (l * 14 + 5))
def hs_ek (k : Int32) : Prop := k = 3 ∨ k = 4 ∨ k = 6 ∨ k = 9 ∨ k = 11 ∨ k = 14 ∨ k = 15 ∨ k = 16 ∨ k = 17
def hs_En (k f : Int32) (rs fs : List Nat) : Prop := hs_ek k ∧
  ((fs = [] ∧ ((rs = [] ∧ k ≠ 4 ∧ k ≠ 6 ∧ k ≠ 16) ∨ (rs = [25] ∧ (k = 4 ∨ k = 6)))) ∨ (k = 16 ∧ rs = [] ∧ ∃ n, n < 26 ∧ f = nI n ∧ fs = [5 + 64 * n]))
def hs_EX (P h : Nat → Nat) (lc : Nat) (ex : Nat → Int64) : Prop := ∀ c n, c < 10 → n < 26 → hs_v0 (ex (c * 26 + n)) ∨ ∃ l, hs_df h lc l ∧ l < 1024 ∧ P l < 1024 ∧ ex (c * 26 + n) = lN (17179869184 + l)
def hs_OX (cn : Nat) (ml : Nat → List Nat) (ox : Nat → Int32) : Prop := ∀ c, c < cn → 1 ≤ (ml c).length ∧ (ml c).length ≤ 10 ∧ (∀ k, k < 12 → ox (c * 12 + k) = hs_gi (ml c) k) ∧ ∀ m, m ∈ ml c → m ≤ c
def hs_OY (cn : Nat) (ml : Nat → List Nat) (oy le : Nat → Int32) : Prop := ∀ c, c < cn → le c = nI (ml c).length ∧ ∀ k, k < (ml c).length → oy (c * 10 + k) = hs_gi (ml c) k
def hs_na (at1 : Nat → Int64) (r : Nat) : Nat → Nat → Nat
  | 0, _ => 0
  | n + 1, i => (if at1 (r + i) = 0 then 0 else 1) + hs_na at1 r n (i + 1)
def hs_WX (P h : Nat → Nat) (lc cn : Nat) (ml : Nat → List Nat) (gl ex at1 : Nat → Int64) (ox oc lt : Nat → Int32) : Prop :=
  (1 ≤ cn ∧ cn ≤ 10) ∧ ex 19 ≠ 0 ∧ (∀ n, n < 26 → hs_v0 (gl n)) ∧ hs_EX P h lc ex ∧ (∀ j, j < 208 → hs_v0 (at1 j)) ∧ (∀ o, o < 8 → hs_na at1 (o * 26) 26 0 ≤ 4) ∧ (∀ o, o < 8 → ∃ c, c < cn ∧ oc o = nI c) ∧ (∀ n, n < 26 → lt n = -1 ∨ ∃ c, c < cn ∧ lt n = nI c) ∧ hs_OX cn ml ox
def hs_XC (cn : Nat) (CL : Nat → Int32) (HE : Nat → Int64) (dlk vbk obk k : Nat) : Prop :=
  CL (k * 6 + 4) = nI vbk ∧ vbk ≤ 39 * k ∧ obk ≤ 39 * k ∧ (k = 0 → CL 0 = -1) ∧
  (1 ≤ k → CL (k * 6) = nI dlk ∧ (∃ c, c < cn ∧ CL (k * 6 + 1) = nI c) ∧ (CL (k * 6 + 5) = 0 ∨ CL (k * 6 + 5) = 1) ∧ (∃ o, o < 8 ∧ HE (k * 27 + 26) = lN (12884901888 + o)) ∧ ∀ j, j < 26 → hs_v0 (HE (k * 27 + j)))
def hs_XL (h ind ca cb : Nat → Nat) (lc cn : Nat) (CL : Nat → Int32) (ho : Bool) (flk dlk k : Nat) : Prop :=
  (ho = true ∧ k = 0 → CL 2 = -1) ∧ (¬ (ho = true ∧ k = 0) → CL (k * 6 + 2) = nI flk ∧ flk < lc) ∧
  (k = 0 → ho = false → cb flk = lc ∧ hs_D h ind (ca flk) flk = none ∧ (hs_in h ind (ca flk) 1 9 flk = true → 2 ≤ cn)) ∧
  (1 ≤ k → hs_D h ind (ca flk) flk = some dlk)
def hs_XS (LT : Nat → Int32) (cd : Nat → Int64) (CL : Nat → Int32) (flk : Nat) (tsk stk : List Nat) (w : Bool) (k : Nat) : Prop :=
  ∃ (c : Nat) (e : List (Nat × Nat)) (rs fs : List Nat), CL (k * 6 + 3) = nI c ∧ LT (flk * 14 + 10) = nI (c + e.length) ∧ c + e.length ≤ 443 ∧ hs_CA cd c e (c + e.length) ∧ hs_S (hs_zk (LT (flk * 14))) tsk w stk e rs fs ∧ hs_En (LT (flk * 14)) (LT (flk * 14 + 5)) rs fs ∧ stk.length + tsk.length + (if w then 0 else 1) ≤ 40 ∧ hs_qs k tsk stk
def hs_XI (tx nu LT : Nat → Int32) (cd : Nat → Int64) (lc kp cc : Nat) (P ind h : Nat → Nat) (tk : Nat → List Nat) (ca cb us ue : Nat → Nat) (mo mS mD s d vt cn : Nat) (ml : Nat → List Nat) (gl ex at1 : Nat → Int64) (ox oc lt : Nat → Int32) (HE : Nat → Int64) (CL : Nat → Int32) (op : Nat → Int64) (fl dl vb ob : Nat → Nat) (ts st : Nat → List Nat) (ho : Bool) : Prop :=
  hs_T tx nu LT cd lc kp cc P ind h tk ca cb us ue ∧ (2 ≤ mo ∧ mo ≤ 8 ∧ mD ≤ 6 ∧ d ≤ mD ∧ mS ≤ 200 ∧ s ≤ mS) ∧ hs_WX P h lc cn ml gl ex at1 ox oc lt ∧ (∀ c, c < cn → c ∈ ml c) ∧ (∀ j, j < vt → hs_vv (op j)) ∧ (∀ j, j < 27 → HE j = 0) ∧ (∀ k, k ≤ d → hs_XC cn CL HE (dl k) (vb k) (ob k) k) ∧ (∀ k, k < d → hs_XL h ind ca cb lc cn CL ho (fl k) (dl k) k) ∧
  (∀ k, k < d → ¬ (ho = true ∧ k = 0) → hs_XS LT cd CL (fl k) (ts k) (st k) false k ∧ vb (k + 1) = vb k + hs_nst (st k) ∧ ob (k + 1) = ob k + (st k).length) ∧ (ho = true → 1 ≤ d → vb 1 = 0 ∧ ob 1 = 0) ∧ vb 0 = 0 ∧ ob 0 = 0
/-- a line is about to begin -/
def hs_MA (h ind ca cb : Nat → Nat) (lc cn : Nat) (CL : Nat → Int32) (ho : Bool) (LT : Nat → Int32) (fl dl vb : Nat → Nat) (d vt : Nat) : Prop :=
  hs_XL h ind ca cb lc cn CL ho (fl d) (dl d) d ∧ vt = vb d ∧ CL (d * 6 + 3) = LT (fl d * 14 + 9) ∧ ¬ (ho = true ∧ d = 0)
/-- an expression is under way -/
def hs_MB (h ind ca cb : Nat → Nat) (lc cn : Nat) (CL : Nat → Int32) (ho : Bool) (LT : Nat → Int32) (cd : Nat → Int64) (fl dl vb : Nat → Nat) (ts st : Nat → List Nat) (d vt : Nat) (w : Bool) : Prop :=
  hs_XL h ind ca cb lc cn CL ho (fl d) (dl d) d ∧ hs_XS LT cd CL (fl d) (ts d) (st d) w d ∧ vt = vb d + hs_nv (st d) w ∧ ¬ (ho = true ∧ d = 0)
def hs_YC (LT CL : Nat → Int32) (HE : Nat → Int64) (fMa fHo fVa fOp fNe : Nat → Int32) (fRe loc : Nat → Int64) (dlk vbk obk k : Nat) : Prop :=
  fVa k = nI vbk ∧ fOp k = nI obk ∧ (k = 0 → fMa 0 = 0) ∧ (1 ≤ k → fMa k = LT (dlk * 14 + 8) ∧ fHo k = CL (k * 6 + 1) ∧ fNe k = CL (k * 6 + 5) ∧ fRe k = HE (k * 27 + 26) ∧ ∀ j, j < 26 → loc (k * 26 + j) = HE (k * 27 + j))
def hs_YS (tx LT fPo fSt fTa ops : Nat → Int32) (flk : Nat) (tsk stk : List Nat) (obk obn k : Nat) : Prop :=
  ∃ pp, fPo k = nI pp ∧ hs_TA tx pp tsk ∧ fSt k = hs_smk (LT (flk * 14)) ∧ hs_tg LT flk (fTa k) ∧ hs_SA ops obk obn stk
section
variable {x_objectLimit x_stepLimit x_depthLimit x_pendingCount x_keptTokens x_keptLines x_lineCount x_codeCount x_cursor x_stop x_waitingCount x_openCount x_classCount x_callCount x_operandCount x_stepsTaken x_error x_raisedCode x_printCount x_lastPlace : Int32} {x_lastResult : Int64} {x_pending x_lineTable x_orders x_merging x_letterClass x_objectClass x_calls x_lastPrints : Nat → Int32} {x_code x_waiting x_globals x_entries x_attributes x_held x_operands : Nat → Int64}
variable {y_maxObjects y_maxSteps y_maxDepth y_kept y_end y_tokens y_pending y_lines y_classes y_prints y_place y_steps y_d y_valTop y_opTop y_opens y_pos y_tk y_tv y_stmt y_target y_err y_code y_outcome y_dry y_want y_starting y_ended y_bad y_hosted y_sawSuper : Int32} {y_result : Int64} {y_text y_numbers y_classOf y_alive y_orders y_lengths y_letters y_bases y_ops y_fLine y_fPos y_fStmt y_fTarget y_fMask y_fHome y_fOps y_fVals y_fNew y_out : Nat → Int32} {y_globals y_entries y_attrs y_vals y_locals y_fRecv : Nat → Int64}
/-- the reference's state between two turns; md none: at the end; some none: a line begins; some (some w): in an expression -/
def hs_V (tx nu LT : Nat → Int32) (P h : Nat → Nat) (lc : Nat) (yk yen yto ype yli : Int32) (mo mS mD : Nat) (gl ex at1 : Nat → Int64) (oc lt lp CL : Nat → Int32) (HE op : Nat → Int64) (ml : Nat → List Nat) (cn d vt s : Nat) (pc rc : Int32) (fl dl vb ob : Nat → Nat) (ts st : Nat → List Nat) (ho : Bool) (md : Option (Option Bool)) (v : SY) : Prop := match v with
  | (y_maxObjects, y_maxSteps, y_maxDepth, y_kept, y_end, y_tokens, y_pending, y_lines, y_classes, y_prints, y_place, y_steps, y_d, y_valTop, y_opTop, y_opens, y_pos, y_tk, y_tv, y_stmt, y_target, y_err, y_code, y_outcome, y_result, y_dry, y_want, y_starting, y_ended, y_bad, y_hosted, y_sawSuper, y_text, y_numbers, y_globals, y_entries, y_attrs, y_classOf, y_alive, y_orders, y_lengths, y_letters, y_bases, y_vals, y_ops, y_locals, y_fRecv, y_fLine, y_fPos, y_fStmt, y_fTarget, y_fMask, y_fHome, y_fOps, y_fVals, y_fNew, y_out) => (y_maxObjects = nI mo ∧ y_maxSteps = nI mS ∧ y_maxDepth = nI mD ∧ y_kept = yk ∧ y_end = yen ∧ y_tokens = yto ∧ y_pending = ype ∧ y_lines = yli ∧ y_classes = nI cn ∧ y_prints = pc ∧ y_place = 0 ∧ y_steps = nI s ∧ y_d = nI d ∧ y_valTop = nI vt ∧ y_err = 0 ∧ y_code = rc ∧ y_outcome = 0 ∧ y_result = 0 ∧ y_dry = 0 ∧ y_ended = 0 ∧ y_hosted = hs_b ho ∧ y_text = tx ∧ (∀ j, j < lc → y_numbers (P j) = nu (P j)) ∧ y_globals = gl ∧ y_attrs = at1 ∧ y_classOf = oc ∧ y_letters = lt ∧ y_out = lp) ∧
    hs_EE P (hs_df h lc) ex y_entries ∧ hs_OY cn ml y_orders y_lengths ∧ (∀ j, j < vt → y_vals j = op j) ∧ (∀ j, j < 26 → y_locals j = 0) ∧
    (∀ k, k ≤ d → hs_YC LT CL HE y_fMask y_fHome y_fVals y_fOps y_fNew y_fRecv y_locals (dl k) (vb k) (ob k) k) ∧
    (∀ k, k < d → ¬ (ho = true ∧ k = 0) → y_fLine k = nI (P (fl k)) ∧ hs_YS tx LT y_fPos y_fStmt y_fTarget y_ops (fl k) (ts k) (st k) (ob k) (ob (k + 1)) k) ∧
    match md with
    | none => y_starting = 1 ∧ y_fLine d = -1
    | some none => y_starting = 1 ∧ y_fLine d = nI (P (fl d)) ∧ y_opTop = nI (ob d)
    | some (some w) => y_starting = 0 ∧ y_fLine d = nI (P (fl d)) ∧ y_want = hs_b w ∧ ∃ pp, y_pos = nI pp ∧ hs_TA tx pp (ts d) ∧ y_stmt = hs_smk (LT (fl d * 14)) ∧ hs_tg LT (fl d) y_target ∧ y_opTop = nI (ob d + (st d).length) ∧ hs_SA y_ops (ob d) (ob d + (st d).length) (st d)
/-- the reference's state at the end -/
def hs_VF (tx nu : Nat → Int32) (P h : Nat → Nat) (lc : Nat) (yk yen yto ype yli : Int32) (mo mS mD : Nat) (gl ex at1 : Nat → Int64) (oc lt lp : Nat → Int32) (ml : Nat → List Nat) (cn : Nat) (pc rc er pl : Int32) (rv : Int64) (v : SY) : Prop := match v with
  | (y_maxObjects, y_maxSteps, y_maxDepth, y_kept, y_end, y_tokens, y_pending, y_lines, y_classes, y_prints, y_place, y_steps, y_d, y_valTop, y_opTop, y_opens, y_pos, y_tk, y_tv, y_stmt, y_target, y_err, y_code, y_outcome, y_result, y_dry, y_want, y_starting, y_ended, y_bad, y_hosted, y_sawSuper, y_text, y_numbers, y_globals, y_entries, y_attrs, y_classOf, y_alive, y_orders, y_lengths, y_letters, y_bases, y_vals, y_ops, y_locals, y_fRecv, y_fLine, y_fPos, y_fStmt, y_fTarget, y_fMask, y_fHome, y_fOps, y_fVals, y_fNew, y_out) => (y_maxObjects = nI mo ∧ y_maxSteps = nI mS ∧ y_maxDepth = nI mD ∧ y_kept = yk ∧ y_end = yen ∧ y_tokens = yto ∧ y_pending = ype ∧ y_lines = yli ∧ y_classes = nI cn ∧ y_prints = pc ∧ y_place = pl ∧ y_d = 0 ∧ y_valTop = 0 ∧ y_opTop = 0 ∧ y_code = rc ∧ y_outcome = er ∧ y_result = rv ∧ y_dry = 0 ∧ y_text = tx ∧ (∀ j, j < lc → y_numbers (P j) = nu (P j)) ∧ y_globals = gl ∧ y_attrs = at1 ∧ y_classOf = oc ∧ y_letters = lt ∧ y_out = lp) ∧
    hs_EE P (hs_df h lc) ex y_entries ∧ hs_OY cn ml y_orders y_lengths ∧ (∀ j, j < 26 → y_locals j = 0) ∧ y_fMask 0 = 0 ∧ y_fVals 0 = 0 ∧ y_fOps 0 = 0
/-- what the component's end answers -/
def hs_rs (er c2 rc : Int32) (op : Nat → Int64) (rv : Int64) : Prop :=
  (er = 0 → (c2 = 0 ∧ rv = 0) ∨ (c2 = 1 ∧ hs_vv rv ∧ op 0 = rv)) ∧ (er = 8 → rv = hs_int rc) ∧ (er ≠ 0 → er ≠ 8 → rv = 0)
def hs_lX (post : SX → Prop) (n : Nat) (i : Int32) (u : SX) : Prop := match u with
  | (x_objectLimit, x_stepLimit, x_depthLimit, x_pendingCount, x_keptTokens, x_keptLines, x_lineCount, x_codeCount, x_cursor, x_stop, x_waitingCount, x_openCount, x_classCount, x_callCount, x_operandCount, x_stepsTaken, x_error, x_raisedCode, x_printCount, x_lastResult, x_lastPlace, x_pending, x_lineTable, x_code, x_waiting, x_globals, x_entries, x_orders, x_merging, x_letterClass, x_objectClass, x_attributes, x_calls, x_held, x_operands, x_lastPrints) => wX_execute_2 post n i x_objectLimit x_stepLimit x_depthLimit x_pendingCount x_keptTokens x_keptLines x_lineCount x_codeCount x_cursor x_stop x_waitingCount x_openCount x_classCount x_callCount x_operandCount x_stepsTaken x_error x_raisedCode x_printCount x_lastResult x_lastPlace x_pending x_lineTable x_code x_waiting x_globals x_entries x_orders x_merging x_letterClass x_objectClass x_attributes x_calls x_held x_operands x_lastPrints
def hs_lY (post : SY → Prop) (n : Nat) (i : Int32) (v : SY) : Prop := match v with
  | (y_maxObjects, y_maxSteps, y_maxDepth, y_kept, y_end, y_tokens, y_pending, y_lines, y_classes, y_prints, y_place, y_steps, y_d, y_valTop, y_opTop, y_opens, y_pos, y_tk, y_tv, y_stmt, y_target, y_err, y_code, y_outcome, y_result, y_dry, y_want, y_starting, y_ended, y_bad, y_hosted, y_sawSuper, y_text, y_numbers, y_globals, y_entries, y_attrs, y_classOf, y_alive, y_orders, y_lengths, y_letters, y_bases, y_vals, y_ops, y_locals, y_fRecv, y_fLine, y_fPos, y_fStmt, y_fTarget, y_fMask, y_fHome, y_fOps, y_fVals, y_fNew, y_out) => wY_go_32 post n i y_maxObjects y_maxSteps y_maxDepth y_kept y_end y_tokens y_pending y_lines y_classes y_prints y_place y_steps y_d y_valTop y_opTop y_opens y_pos y_tk y_tv y_stmt y_target y_err y_code y_outcome y_result y_dry y_want y_starting y_ended y_bad y_hosted y_sawSuper y_text y_numbers y_globals y_entries y_attrs y_classOf y_alive y_orders y_lengths y_letters y_bases y_vals y_ops y_locals y_fRecv y_fLine y_fPos y_fStmt y_fTarget y_fMask y_fHome y_fOps y_fVals y_fNew y_out
/-- both sides end, related -/
def hs_Go (F : SX → (SY → Prop) → Prop) (N M : Nat) (u : SX) (V : SY → Prop) : Prop := ∀ i k n, i + N ≤ 999999 → k + M ≤ 99999 → N < n → ∀ post : SX → Prop,
  (∀ u' V', F u' V' → (∀ Q : SY → Prop, (∀ v', V' v' → Q v') → ∀ m, M < m → ∀ v, V v → hs_lY Q m (nI k) v) → post u') → hs_lX post n (nI i) u
theorem hs_GoM {F : SX → (SY → Prop) → Prop} {N M N1 M1 : Nat} {u : SX} {V : SY → Prop} (h1 : N1 ≤ N) (h2 : M1 ≤ M) (H : hs_Go F N1 M1 u V) : hs_Go F N M u V :=
  fun i k n hi hk hn post HP => H i k n (by omega) (by omega) (by omega) post (fun u' V' f g => HP u' V' f (fun Q hQ m hm => g Q hQ m (by omega)))
theorem hs_GoY {F : SX → (SY → Prop) → Prop} {N M : Nat} {u : SX} {V V1 : SY → Prop} (h : ∀ (Q : SY → Prop) (m k : Nat), k < 99999 → (∀ v1, V1 v1 → hs_lY Q m (nI (k + 1)) v1) → ∀ v, V v → hs_lY Q (m + 1) (nI k) v) (H : hs_Go F N M u V1) : hs_Go F N (M + 1) u V := by
  intro i k n hi hk hn post HP
  refine H i (k + 1) n hi (by omega) hn post (fun u' V' f g => HP u' V' f (fun Q hQ m hm v hv => ?_))
  obtain ⟨m', rfl⟩ : ∃ m', m = m' + 1 := ⟨m - 1, by omega⟩
  exact h Q m' k (by omega) (fun v1 hv1 => g Q hQ m' (by omega) v1 hv1) v hv
theorem hs_DnF {h ind : Nat → Nat} {a : Nat} : ∀ (n m i : Nat), ind i < n → ind i < m → hs_Dn h ind a n i = hs_Dn h ind a m i
  | 0, _, _, h1, _ => by omega
  | _, 0, _, _, h1 => by omega
  | n + 1, m + 1, i, h1, h2 => by
    unfold hs_Dn
    cases e : hs_pa ind a i with
    | none => rfl
    | some p =>
      have hp : hs_Pa ind a i (some p) := by rw [← e]; exact hs_paOK
      have := hp.2.2.1
      show (if h p = 2 then some p else hs_Dn h ind a n p) = (if h p = 2 then some p else hs_Dn h ind a m p)
      rw [hs_DnF n m p (by omega) (by omega)]
theorem hs_D1 {h ind : Nat → Nat} {a i p : Nat} (hi : ind i ≤ 8) (e : hs_pa ind a i = some p) : hs_D h ind a i = if h p = 2 then some p else hs_D h ind a p := by
  have hp : hs_Pa ind a i (some p) := by rw [← e]; exact hs_paOK
  have := hp.2.2.1
  show (match hs_pa ind a i with | none => none | some p => if h p = 2 then some p else hs_Dn h ind a 8 p) = _
  rw [e]
  show (if h p = 2 then some p else hs_Dn h ind a 8 p) = _
  rw [hs_DnF 8 9 p (by omega) (by omega)]
  rfl
theorem hs_D0 {h ind : Nat → Nat} {a i : Nat} (e : hs_pa ind a i = none) : hs_D h ind a i = none := by
  show (match hs_pa ind a i with | none => none | some p => if h p = 2 then some p else hs_Dn h ind a 8 p) = _
  rw [e]
theorem hs_in1 {h ind : Nat → Nat} {a i p w : Nat} (hi : ind i ≤ 8) (e : hs_pa ind a i = some p) : hs_in h ind a w 9 i = (decide (h p = w) || hs_in h ind a w 9 p) := by
  have hp : hs_Pa ind a i (some p) := by rw [← e]; exact hs_paOK
  have := hp.2.2.1
  show (match hs_pa ind a i with | none => false | some p => decide (h p = w) || hs_in h ind a w 8 p) = _
  rw [e]
  show (decide (h p = w) || hs_in h ind a w 8 p) = _
  rw [hs_inF 8 9 p (by omega) (by omega)]
theorem hs_in0 {h ind : Nat → Nat} {a i w : Nat} (e : hs_pa ind a i = none) : hs_in h ind a w 9 i = false := by
  show (match hs_pa ind a i with | none => false | some p => decide (h p = w) || hs_in h ind a w 8 p) = _
  rw [e]
end
