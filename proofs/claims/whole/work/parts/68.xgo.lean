/-! the component: where it goes on, and where an error is held -/
section
def hs_CR (LT CL : Nat → Int32) (d l : Nat) : Nat → Int32 := upd (upd CL (d * 6 + 2) (nI l)) (d * 6 + 3) (LT (l * 14 + 9))
def hs_hv (ind : Nat → Nat) (b : Nat) : Option Nat → Int32
  | none => -1
  | some t => nI (hs_bk ind b t)
def hs_sg (mk : Int32) (gl : Nat → Int64) (q : Nat) (v : Int64) : Nat → Int64 := if (mk >>> (nI q &&& 31)) &&& 1 = 0 then vp_updL gl q v else gl
def hs_sH (mk : Int32) (HE : Nat → Int64) (q i : Nat) (v : Int64) : Nat → Int64 := if (mk >>> (nI q &&& 31)) &&& 1 = 0 then HE else vp_updL HE i v
def hs_hdl (h ind ca : Nat → Nat) (ho : Bool) (fl : Nat → Nat) (k : Nat) : Option Nat := if ho = true ∧ k = 0 then none else hs_tr h ind (ca (fl k)) 9 (fl k)
variable {x_objectLimit x_stepLimit x_depthLimit x_pendingCount x_keptTokens x_keptLines x_lineCount x_codeCount x_cursor x_stop x_waitingCount x_openCount x_classCount x_callCount x_operandCount x_stepsTaken x_error x_raisedCode x_printCount x_lastPlace : Int32} {x_lastResult : Int64} {x_pending x_lineTable x_orders x_merging x_letterClass x_objectClass x_calls x_lastPrints : Nat → Int32} {x_code x_waiting x_globals x_entries x_attributes x_held x_operands : Nat → Int64}
variable {y_maxObjects y_maxSteps y_maxDepth y_kept y_end y_tokens y_pending y_lines y_classes y_prints y_place y_steps y_d y_valTop y_opTop y_opens y_pos y_tk y_tv y_stmt y_target y_err y_code y_outcome y_dry y_want y_starting y_ended y_bad y_hosted y_sawSuper : Int32} {y_result : Int64} {y_text y_numbers y_classOf y_alive y_orders y_lengths y_letters y_bases y_ops y_fLine y_fPos y_fStmt y_fTarget y_fMask y_fHome y_fOps y_fVals y_fNew y_out : Nat → Int32} {y_globals y_entries y_attrs y_vals y_locals y_fRecv : Nat → Int64}
variable {tx nu LT CL : Nat → Int32} {cd gl HE op : Nat → Int64} {lc kp cc : Nat} {P ind h : Nat → Nat} {tk : Nat → List Nat} {ca cb us ue fl dl vb : Nat → Nat} {a b l k d s mS q vt j : Nat} {ho : Bool} {v : Int64}
theorem hs_xReach (hd : d ≤ 6) (hl : l < 405) (hs : s ≤ 200) (hm : mS ≤ 200) {post : SX → Prop} (H : post (x_objectLimit, nI mS, x_depthLimit, x_pendingCount, x_keptTokens, x_keptLines, x_lineCount, x_codeCount, x_cursor, x_stop, x_waitingCount, x_openCount, x_classCount, nI (d + 1), x_operandCount, hs_sx mS s, hs_e9 mS s, x_raisedCode, x_printCount, x_lastResult, x_lastPlace, x_pending, LT, x_code, x_waiting, x_globals, x_entries, x_orders, x_merging, x_letterClass, x_objectClass, x_attributes, hs_CR LT CL d l, x_held, x_operands, x_lastPrints)) : wpX_reach post (x_objectLimit, nI mS, x_depthLimit, x_pendingCount, x_keptTokens, x_keptLines, x_lineCount, x_codeCount, x_cursor, x_stop, x_waitingCount, x_openCount, x_classCount, nI (d + 1), x_operandCount, nI s, 0, x_raisedCode, x_printCount, x_lastResult, x_lastPlace, x_pending, LT, x_code, x_waiting, x_globals, x_entries, x_orders, x_merging, x_letterClass, x_objectClass, x_attributes, CL, x_held, x_operands, x_lastPrints) (nI l) := by
  have e6 : (nI (d + 1) - 1) * 6 = nI (d * 6) := by rw [nI_pred]; exact pk_mul d 6
  have e2 : nI (d * 6) + 2 = nI (d * 6 + 2) := nI_add _ 2
  have e3 : nI (d * 6) + 3 = nI (d * 6 + 3) := nI_add _ 3
  have e9 : nI l * 14 + 9 = nI (l * 14 + 9) := hs_ixMul l 14 9
  refine nm_r e6 ?_
  rw [e2, e3, e9, nI_clamp (show d * 6 + 2 < 2 ^ 31 by omega), nI_clamp (show d * 6 + 3 < 2 ^ 31 by omega), nI_clamp (show l * 14 + 9 < 2 ^ 31 by omega)]
  refine And.intro (vp_in_nI (by omega) (by decide)) (nm_e (And.intro (vp_in_nI (by omega) (by decide)) (And.intro (vp_in_nI (by omega) (by decide)) (nm_e ?_))))
  by_cases z : s < mS
  · have es : hs_sx mS s = nI (s + 1) := if_pos z
    have ee : hs_e9 mS s = 0 := if_pos z
    rw [es, ee] at H
    exact br_t ((nI_ltI (by omega) (by omega)).mpr z) (nm_r (nI_1 s) H)
  · have es : hs_sx mS s = nI s := if_neg z
    have ee : hs_e9 mS s = 9 := if_neg z
    rw [es, ee] at H
    exact br_f (fun y => z ((nI_ltI (by omega) (by omega)).mp y)) H
theorem hs_TE (T : hs_T tx nu LT cd lc kp cc P ind h tk ca cb us ue) (hj : j < lc) : cb j ≤ 405 ∧ ca j ≤ j ∧ j < cb j ∧ cb j ≤ lc ∧ ∀ i, ca j ≤ i → i < cb j → LT (i * 14 + 4) = nI (hs_bk ind (cb j) i) ∧ LT (i * 14 + 3) = hs_oI (hs_pa ind (ca j) i) := by
  obtain ⟨c1, _, _, T⟩ := T
  obtain ⟨t1, t2, t3, t4, t5, t6, t7, t8, t9, t10, t11⟩ := T j hj
  refine ⟨by omega, t1, t2, t3, fun i i1 i2 => ?_⟩
  obtain ⟨s1, s2, s3, s4, s5, s6, s7, s8, s9, s10, s11⟩ := T i (by omega)
  obtain ⟨n1, n2, n3, n4, n5⟩ := s8
  obtain ⟨e1, e2⟩ := t4 i i1 i2
  rw [e1] at n2
  rw [e2] at n3
  exact ⟨n3, n2⟩
theorem hs_xLA0 (K : hs_ck h ind tk a b) (IK : hs_IK LT h ind a b) (hb : b ≤ 405) (hblc : b ≤ lc) (hlc : lc ≤ 405) (hE : ∀ i, a ≤ i → i < b → LT (i * 14 + 4) = nI (hs_bk ind b i) ∧ LT (i * 14 + 3) = hs_oI (hs_pa ind a i)) {post : Int32 → Prop} :
    ∀ (n k l : Nat), hs_am h ind l < n → hs_am h ind l + k < 18 → a ≤ l → l < b → (hs_D h ind a l = none → b = lc) → post (hs_oI (hs_af h ind a b n l)) → wX_lineAfter_4 post x_objectLimit x_stepLimit x_depthLimit x_pendingCount x_keptTokens x_keptLines (nI lc) x_codeCount x_cursor x_stop x_waitingCount x_openCount x_classCount x_callCount x_operandCount x_stepsTaken x_error x_raisedCode x_printCount x_lastResult x_lastPlace x_pending LT x_code x_waiting x_globals x_entries x_orders x_merging x_letterClass x_objectClass x_attributes x_calls x_held x_operands x_lastPrints n (nI l) (nI k) := by
  intro n
  induction n with
  | zero => intro k l h1; omega
  | succ n ih =>
    intro k l hn hk la lb hD hpost
    obtain ⟨F1, F2, F3, F4⟩ := hs_bkF (ind := ind) lb
    obtain ⟨i1, i2, i3⟩ := IK l la lb
    unfold hs_af at hpost
    have goE : hs_bk ind b l < b ∧ ind (hs_bk ind b l) = ind l → wpX_ofLine (fun r => ((r = 5 → (∀ x, x = nI k + 1 → wX_lineAfter_4 post x_objectLimit x_stepLimit x_depthLimit x_pendingCount x_keptTokens x_keptLines (nI lc) x_codeCount x_cursor x_stop x_waitingCount x_openCount x_classCount x_callCount x_operandCount x_stepsTaken x_error x_raisedCode x_printCount x_lastResult x_lastPlace x_pending LT x_code x_waiting x_globals x_entries x_orders x_merging x_letterClass x_objectClass x_attributes x_calls x_held x_operands x_lastPrints n (nI (hs_bk ind b l)) x)) ∧ (¬ r = 5 → ((r = 8 → (∀ x, x = nI k + 1 → wX_lineAfter_4 post x_objectLimit x_stepLimit x_depthLimit x_pendingCount x_keptTokens x_keptLines (nI lc) x_codeCount x_cursor x_stop x_waitingCount x_openCount x_classCount x_callCount x_operandCount x_stepsTaken x_error x_raisedCode x_printCount x_lastResult x_lastPlace x_pending LT x_code x_waiting x_globals x_entries x_orders x_merging x_letterClass x_objectClass x_attributes x_calls x_held x_operands x_lastPrints n (nI (hs_bk ind b l)) x)) ∧ (¬ r = 8 → post (nI (hs_bk ind b l))))))) (x_objectLimit, x_stepLimit, x_depthLimit, x_pendingCount, x_keptTokens, x_keptLines, nI lc, x_codeCount, x_cursor, x_stop, x_waitingCount, x_openCount, x_classCount, x_callCount, x_operandCount, x_stepsTaken, x_error, x_raisedCode, x_printCount, x_lastResult, x_lastPlace, x_pending, LT, x_code, x_waiting, x_globals, x_entries, x_orders, x_merging, x_letterClass, x_objectClass, x_attributes, x_calls, x_held, x_operands, x_lastPrints) (nI (hs_bk ind b l)) 0 := by
      intro e1
      rw [if_pos e1] at hpost
      obtain ⟨j1, j2, j3⟩ := IK (hs_bk ind b l) (by omega) e1.1
      have k5 := hs_kdE j2 (w := 5) (by decide)
      have k8 := hs_kdE j2 (w := 8) (by decide)
      have dd := (hs_DEq (h := h) la lb e1.1 e1.2).1
      have go : (h (hs_bk ind b l) = 5 ∨ h (hs_bk ind b l) = 8) → ∀ x, x = nI k + 1 → wX_lineAfter_4 post x_objectLimit x_stepLimit x_depthLimit x_pendingCount x_keptTokens x_keptLines (nI lc) x_codeCount x_cursor x_stop x_waitingCount x_openCount x_classCount x_callCount x_operandCount x_stepsTaken x_error x_raisedCode x_printCount x_lastResult x_lastPlace x_pending LT x_code x_waiting x_globals x_entries x_orders x_merging x_letterClass x_objectClass x_attributes x_calls x_held x_operands x_lastPrints n (nI (hs_bk ind b l)) x := by
        intro q
        rw [if_pos q] at hpost
        have m := hs_am1 K la lb e1.1 e1.2 q
        exact nm_r (nI_1 k) (ih (k + 1) _ (by omega) (by omega) (by omega) e1.1 (by rw [dd]; exact hD) hpost)
      refine hs_xOf (c := 0) (by omega) ?_
      refine br_c (fun y => go (Or.inl (k5.mp y))) (fun y5 => br_c (fun y => go (Or.inr (k8.mp y))) (fun y8 => ?_))
      rw [if_neg (fun z => z.elim (fun z => y5 (k5.mpr z)) (fun z => y8 (k8.mpr z)))] at hpost
      exact hpost
    refine br_f (nI_ge (b := 18) (by omega) (by decide)) ?_
    refine hs_xOf (c := 4) (by omega) ?_
    rw [(hE l la lb).1]
    refine hs_xOf (c := 3) (by omega) ?_
    rw [(hE l la lb).2]
    cases q : hs_pa ind a l with
    | none =>
      rw [q] at hpost
      have eb : b = lc := hD (hs_D0 q)
      refine hs_xOfM (c := 0) ?_
      refine br_f (show ¬ (0 : Int32) ≤ -1 by decide) ?_
      unfold wX_lineAfter_54
      by_cases e : hs_bk ind b l < b
      · exact br_f (nI_ge (by omega) (by omega)) (goE ((hs_topEnd K la lb q).mp e))
      · rw [if_neg (fun y => e y.1)] at hpost
        exact br_t (nI_le (by omega) (by omega)) (br_t (show (-1 : Int32) < 0 by decide) hpost)
    | some p =>
      obtain ⟨p1, p2, p3⟩ := hs_paLt q
      obtain ⟨j1, j2, j3⟩ := IK p p1 (by omega)
      have G := (hs_bkF (ind := ind) (l := p) (b := b) (by omega)).2.1
      refine hs_xOf (i := p) (c := 0) (by omega) ?_
      refine br_t (show (0 : Int32) ≤ nI p from nI_pos' (by omega)) ?_
      refine hs_xOf (i := p) (c := 4) (by omega) ?_
      rw [(hE p p1 (by omega)).1]
      unfold wX_lineAfter_54
      have e := hs_sameLv K la lb q
      by_cases e1 : hs_bk ind b l < hs_bk ind b p
      · exact br_f (nI_ge e1 (by omega)) (goE (e.mp e1))
      · rw [if_neg (fun y => e1 (e.mpr y)), q] at hpost
        have hp' : post (hs_oI (if h p = 2 then none else if h p = 6 then some p else hs_af h ind a b n p)) := hpost
        have k2 := hs_kdE j2 (w := 2) (by decide)
        have k6 := hs_kdE j2 (w := 6) (by decide)
        refine br_t (nI_le (by omega) (by omega)) (br_f (show ¬ nI p < 0 from nI_pos (by omega)) ?_)
        refine br_c (fun y => ?_) (fun y2 => br_c (fun y => ?_) (fun y6 => ?_))
        · rw [if_pos (k2.mp y)] at hp'; exact hp'
        · rw [if_neg (fun z => y2 (k2.mpr z)), if_pos (k6.mp y)] at hp'; exact hp'
        · rw [if_neg (fun z => y2 (k2.mpr z)), if_neg (fun z => y6 (k6.mpr z))] at hp'
          have dd := hs_D1 (h := h) i3 q
          rw [if_neg (fun z => y2 (k2.mpr z))] at dd
          have m := hs_am2 (h := h) q
          exact nm_r (nI_1 k) (ih (k + 1) p (by omega) (by omega) p1 (by omega) (by rw [← dd]; exact hD) hp')
theorem hs_xGoOn (T : hs_T tx nu LT cd lc kp cc P ind h tk ca cb us ue) (hl : l < lc) (hD : hs_D h ind (ca l) l = none → cb l = lc) {post : SX → Prop} (Hn : hs_af h ind (ca l) (cb l) 18 l = none → wpX_leaveCall (fun u => match u with | (x_objectLimitq, x_stepLimitq, x_depthLimitq, x_pendingCountq, x_keptTokensq, x_keptLinesq, x_lineCountq, x_codeCountq, x_cursorq, x_stopq, x_waitingCountq, x_openCountq, x_classCountq, x_callCountq, x_operandCountq, x_stepsTakenq, x_errorq, x_raisedCodeq, x_printCountq, x_lastResultq, x_lastPlaceq, x_pendingq, x_lineTableq, x_codeq, x_waitingq, x_globalsq, x_entriesq, x_ordersq, x_mergingq, x_letterClassq, x_objectClassq, x_attributesq, x_callsq, x_heldq, x_operandsq, x_lastPrintsq) => post (x_objectLimitq, x_stepLimitq, x_depthLimitq, x_pendingCountq, x_keptTokensq, x_keptLinesq, x_lineCountq, x_codeCountq, x_cursorq, x_stopq, x_waitingCountq, x_openCountq, x_classCountq, x_callCountq, x_operandCountq, x_stepsTakenq, x_errorq, x_raisedCodeq, x_printCountq, x_lastResultq, x_lastPlaceq, x_pendingq, x_lineTableq, x_codeq, x_waitingq, x_globalsq, x_entriesq, x_ordersq, x_mergingq, x_letterClassq, x_objectClassq, x_attributesq, x_callsq, x_heldq, x_operandsq, x_lastPrintsq)) (x_objectLimit, x_stepLimit, x_depthLimit, x_pendingCount, x_keptTokens, x_keptLines, nI lc, x_codeCount, x_cursor, x_stop, x_waitingCount, x_openCount, x_classCount, x_callCount, x_operandCount, x_stepsTaken, x_error, x_raisedCode, x_printCount, x_lastResult, x_lastPlace, x_pending, LT, x_code, x_waiting, x_globals, x_entries, x_orders, x_merging, x_letterClass, x_objectClass, x_attributes, x_calls, x_held, x_operands, x_lastPrints) 4294967296) (Hs : ∀ m, hs_af h ind (ca l) (cb l) 18 l = some m → wpX_reach (fun u => match u with | (x_objectLimitq, x_stepLimitq, x_depthLimitq, x_pendingCountq, x_keptTokensq, x_keptLinesq, x_lineCountq, x_codeCountq, x_cursorq, x_stopq, x_waitingCountq, x_openCountq, x_classCountq, x_callCountq, x_operandCountq, x_stepsTakenq, x_errorq, x_raisedCodeq, x_printCountq, x_lastResultq, x_lastPlaceq, x_pendingq, x_lineTableq, x_codeq, x_waitingq, x_globalsq, x_entriesq, x_ordersq, x_mergingq, x_letterClassq, x_objectClassq, x_attributesq, x_callsq, x_heldq, x_operandsq, x_lastPrintsq) => post (x_objectLimitq, x_stepLimitq, x_depthLimitq, x_pendingCountq, x_keptTokensq, x_keptLinesq, x_lineCountq, x_codeCountq, x_cursorq, x_stopq, x_waitingCountq, x_openCountq, x_classCountq, x_callCountq, x_operandCountq, x_stepsTakenq, x_errorq, x_raisedCodeq, x_printCountq, x_lastResultq, x_lastPlaceq, x_pendingq, x_lineTableq, x_codeq, x_waitingq, x_globalsq, x_entriesq, x_ordersq, x_mergingq, x_letterClassq, x_objectClassq, x_attributesq, x_callsq, x_heldq, x_operandsq, x_lastPrintsq)) (x_objectLimit, x_stepLimit, x_depthLimit, x_pendingCount, x_keptTokens, x_keptLines, nI lc, x_codeCount, x_cursor, x_stop, x_waitingCount, x_openCount, x_classCount, x_callCount, x_operandCount, x_stepsTaken, x_error, x_raisedCode, x_printCount, x_lastResult, x_lastPlace, x_pending, LT, x_code, x_waiting, x_globals, x_entries, x_orders, x_merging, x_letterClass, x_objectClass, x_attributes, x_calls, x_held, x_operands, x_lastPrints) (nI m)) : wpX_goOn post (x_objectLimit, x_stepLimit, x_depthLimit, x_pendingCount, x_keptTokens, x_keptLines, nI lc, x_codeCount, x_cursor, x_stop, x_waitingCount, x_openCount, x_classCount, x_callCount, x_operandCount, x_stepsTaken, x_error, x_raisedCode, x_printCount, x_lastResult, x_lastPlace, x_pending, LT, x_code, x_waiting, x_globals, x_entries, x_orders, x_merging, x_letterClass, x_objectClass, x_attributes, x_calls, x_held, x_operands, x_lastPrints) (nI l) := by
  obtain ⟨e1, e2, e3, e4, e5⟩ := hs_TE T hl
  have K := hs_Tck T hl
  have hlc := T.1
  refine ⟨18, hs_xLA0 K (hs_TIK T hl) e1 e4 hlc e5 18 0 l (hs_am3 K e2 e3) (by have := hs_am3 K e2 e3; omega) e2 e3 hD ?_⟩
  cases q : hs_af h ind (ca l) (cb l) 18 l with
  | none => exact br_t rfl (Hn q)
  | some m =>
    have := (hs_afF K 18 l m e2 e3 q).2.1
    exact br_f (hs_neM1 (by omega)) (Hs m q)
theorem hs_xHO0 (IK : hs_IK LT h ind a b) (hb : b ≤ 405) (hE : ∀ i, a ≤ i → i < b → LT (i * 14 + 4) = nI (hs_bk ind b i) ∧ LT (i * 14 + 3) = hs_oI (hs_pa ind a i)) {post : Int32 → Prop} :
    ∀ (n k l : Nat), ind l < n → ind l + k ≤ 8 → a ≤ l → l < b → post (hs_hv ind b (hs_tr h ind a n l)) → wX_handlerOf_4 post x_objectLimit x_stepLimit x_depthLimit x_pendingCount x_keptTokens x_keptLines x_lineCount x_codeCount x_cursor x_stop x_waitingCount x_openCount x_classCount x_callCount x_operandCount x_stepsTaken x_error x_raisedCode x_printCount x_lastResult x_lastPlace x_pending LT x_code x_waiting x_globals x_entries x_orders x_merging x_letterClass x_objectClass x_attributes x_calls x_held x_operands x_lastPrints (n + 1) (nI l) (nI k) := by
  intro n
  induction n with
  | zero => intro k l h1; omega
  | succ n ih =>
    intro k l hn hk la lb hpost
    unfold hs_tr at hpost
    refine br_f (nI_ge (b := 9) (by omega) (by decide)) (br_f (nI_pos (by omega)) ?_)
    refine hs_xOf (c := 3) (by omega) ?_
    rw [(hE l la lb).2]
    cases q : hs_pa ind a l with
    | none =>
      rw [q] at hpost
      refine hs_xOfM (c := 0) ?_
      refine br_f (show ¬ (-1 : Int32) = 2 by decide) (br_f (show ¬ (-1 : Int32) = 7 by decide) (nm_e ?_))
      exact br_c (fun _ => hpost) (fun _ => br_t (show (-1 : Int32) < 0 by decide) hpost)
    | some p =>
      rw [q] at hpost
      have hp' : post (hs_hv ind b (if h p = 2 then none else if h p = 7 then some p else hs_tr h ind a n p)) := hpost
      obtain ⟨p1, p2, p3⟩ := hs_paLt q
      obtain ⟨j1, j2, j3⟩ := IK p p1 (by omega)
      have k2 := hs_kdE j2 (w := 2) (by decide)
      have k7 := hs_kdE j2 (w := 7) (by decide)
      refine hs_xOf (i := p) (c := 0) (by omega) ?_
      refine br_c (fun y => ?_) (fun y2 => br_c (fun y => ?_) (fun y7 => ?_))
      · rw [if_pos (k2.mp y)] at hp'; exact hp'
      · rw [if_neg (fun z => y2 (k2.mpr z)), if_pos (k7.mp y)] at hp'
        refine hs_xOf (i := p) (c := 4) (by omega) ?_
        rw [(hE p p1 (by omega)).1]
        exact hp'
      · rw [if_neg (fun z => y2 (k2.mpr z)), if_neg (fun z => y7 (k7.mpr z))] at hp'
        exact nm_r (nI_1 k) (ih (k + 1) p (by omega) (by omega) p1 (by omega) hp')
theorem hs_xHandler (T : hs_T tx nu LT cd lc kp cc P ind h tk ca cb us ue) (hl : l < lc) {post : Int32 → Prop} (H : post (hs_hv ind (cb l) (hs_tr h ind (ca l) 9 l))) : wpX_handlerOf post (x_objectLimit, x_stepLimit, x_depthLimit, x_pendingCount, x_keptTokens, x_keptLines, x_lineCount, x_codeCount, x_cursor, x_stop, x_waitingCount, x_openCount, x_classCount, x_callCount, x_operandCount, x_stepsTaken, x_error, x_raisedCode, x_printCount, x_lastResult, x_lastPlace, x_pending, LT, x_code, x_waiting, x_globals, x_entries, x_orders, x_merging, x_letterClass, x_objectClass, x_attributes, x_calls, x_held, x_operands, x_lastPrints) (nI l) := by
  obtain ⟨e1, e2, e3, e4, e5⟩ := hs_TE T hl
  have i8 := ((hs_Tck T hl).1 l e2 e3).2
  exact ⟨10, hs_xHO0 (hs_TIK T hl) e1 e5 9 0 l (by omega) (by omega) e2 e3 H⟩
theorem hs_xHandlerM {post : Int32 → Prop} (H : post (-1)) : wpX_handlerOf post (x_objectLimit, x_stepLimit, x_depthLimit, x_pendingCount, x_keptTokens, x_keptLines, x_lineCount, x_codeCount, x_cursor, x_stop, x_waitingCount, x_openCount, x_classCount, x_callCount, x_operandCount, x_stepsTaken, x_error, x_raisedCode, x_printCount, x_lastResult, x_lastPlace, x_pending, x_lineTable, x_code, x_waiting, x_globals, x_entries, x_orders, x_merging, x_letterClass, x_objectClass, x_attributes, x_calls, x_held, x_operands, x_lastPrints) (-1) := ⟨1, br_f (by decide) (br_t (by decide) H)⟩
theorem hs_xSetName (hd : d ≤ 6) (hq : q < 26) (h0 : d = 0 → CL 0 = -1) (h1 : 1 ≤ d → CL (d * 6) = nI (dl d) ∧ dl d < 405) {post : SX → Prop} (H : post (x_objectLimit, x_stepLimit, x_depthLimit, x_pendingCount, x_keptTokens, x_keptLines, x_lineCount, x_codeCount, x_cursor, x_stop, x_waitingCount, x_openCount, x_classCount, nI (d + 1), x_operandCount, x_stepsTaken, x_error, x_raisedCode, x_printCount, x_lastResult, x_lastPlace, x_pending, LT, x_code, x_waiting, hs_sg (hs_mk1 LT dl d) gl q v, x_entries, x_orders, x_merging, x_letterClass, x_objectClass, x_attributes, CL, hs_sH (hs_mk1 LT dl d) HE q (d * 27 + q) v, x_operands, x_lastPrints)) : wpX_setName post (x_objectLimit, x_stepLimit, x_depthLimit, x_pendingCount, x_keptTokens, x_keptLines, x_lineCount, x_codeCount, x_cursor, x_stop, x_waitingCount, x_openCount, x_classCount, nI (d + 1), x_operandCount, x_stepsTaken, x_error, x_raisedCode, x_printCount, x_lastResult, x_lastPlace, x_pending, LT, x_code, x_waiting, gl, x_entries, x_orders, x_merging, x_letterClass, x_objectClass, x_attributes, CL, HE, x_operands, x_lastPrints) (nI q) v := by
  unfold wpX_setName
  refine hs_xIsLocal (dl := dl) (q := q) hd h0 h1 (fun z hd1 => ?_) (fun z => ?_)
  · have e7 : (nI (d + 1) - 1) * 27 + nI q = nI (d * 27 + q) := by rw [nI_pred]; exact hs_ixMul d 27 q
    unfold hs_sg hs_sH at H
    rw [if_neg z, if_neg z] at H
    refine br_f (by decide) ?_
    rw [e7, nI_clamp (show d * 27 + q < 2 ^ 31 by omega)]
    exact And.intro (vp_in_nI (by omega) (by decide)) (nm_e H)
  · unfold hs_sg hs_sH at H
    rw [if_pos z, if_pos z] at H
    refine br_t rfl ?_
    rw [nI_clamp (show q < 2 ^ 31 by omega)]
    exact And.intro (vp_in_nI hq (by decide)) (nm_e H)
theorem hs_xLeave0 {ans : Int64} {post : SX → Prop} (H : post (x_objectLimit, x_stepLimit, x_depthLimit, x_pendingCount, x_keptTokens, x_keptLines, x_lineCount, x_codeCount, x_cursor, x_stop, x_waitingCount, x_openCount, x_classCount, 1, x_operandCount, x_stepsTaken, x_error, x_raisedCode, x_printCount, x_lastResult, x_lastPlace, x_pending, x_lineTable, x_code, x_waiting, x_globals, x_entries, x_orders, x_merging, x_letterClass, x_objectClass, x_attributes, upd CL 2 (-1), x_held, x_operands, x_lastPrints)) : wpX_leaveCall post (x_objectLimit, x_stepLimit, x_depthLimit, x_pendingCount, x_keptTokens, x_keptLines, x_lineCount, x_codeCount, x_cursor, x_stop, x_waitingCount, x_openCount, x_classCount, 1, x_operandCount, x_stepsTaken, x_error, x_raisedCode, x_printCount, x_lastResult, x_lastPlace, x_pending, x_lineTable, x_code, x_waiting, x_globals, x_entries, x_orders, x_merging, x_letterClass, x_objectClass, x_attributes, CL, x_held, x_operands, x_lastPrints) ans :=
  nm_r (show (1 : Int32) - 1 = 0 by decide) (br_t rfl (nm_e H))
theorem hs_xLeave {ans r : Int64} (hd : 1 ≤ d) (hd6 : d ≤ 6) (h4 : CL (d * 6 + 4) = nI vt) (hvt : vt < 280) (h5 : CL (d * 6 + 5) = 0 ∨ CL (d * 6 + 5) = 1) (hr : r = if CL (d * 6 + 5) = 1 then HE (d * 27 + 26) else ans) {x14 : Int32} {post : SX → Prop} (H : post (x_objectLimit, x_stepLimit, x_depthLimit, x_pendingCount, x_keptTokens, x_keptLines, x_lineCount, x_codeCount, x_cursor, x_stop, x_waitingCount, x_openCount, x_classCount, nI d, nI (vt + 1), x_stepsTaken, x_error, x_raisedCode, x_printCount, x_lastResult, x_lastPlace, x_pending, x_lineTable, x_code, x_waiting, x_globals, x_entries, x_orders, x_merging, x_letterClass, x_objectClass, x_attributes, CL, HE, vp_updL op vt r, x_lastPrints)) : wpX_leaveCall post (x_objectLimit, x_stepLimit, x_depthLimit, x_pendingCount, x_keptTokens, x_keptLines, x_lineCount, x_codeCount, x_cursor, x_stop, x_waitingCount, x_openCount, x_classCount, nI (d + 1), x14, x_stepsTaken, x_error, x_raisedCode, x_printCount, x_lastResult, x_lastPlace, x_pending, x_lineTable, x_code, x_waiting, x_globals, x_entries, x_orders, x_merging, x_letterClass, x_objectClass, x_attributes, CL, HE, op, x_lastPrints) ans := by
  have e5 : nI d * 6 + 5 = nI (d * 6 + 5) := hs_ixMul d 6 5
  have e4 : nI d * 6 + 4 = nI (d * 6 + 4) := hs_ixMul d 6 4
  have e7 : nI d * 27 + 26 = nI (d * 27 + 26) := hs_ixMul d 27 26
  have hpush : wX_leaveCall_83 post r x_objectLimit x_stepLimit x_depthLimit x_pendingCount x_keptTokens x_keptLines x_lineCount x_codeCount x_cursor x_stop x_waitingCount x_openCount x_classCount (nI d) (nI vt) x_stepsTaken x_error x_raisedCode x_printCount x_lastResult x_lastPlace x_pending x_lineTable x_code x_waiting x_globals x_entries x_orders x_merging x_letterClass x_objectClass x_attributes CL HE op x_lastPrints := by
    unfold wX_leaveCall_83
    exact hs_xPush hvt H
  refine nm_r (nI_pred d) (br_f (show ¬ nI d = 0 from fun y => by have := (nI_eq (a := d) (b := 0) (by omega) (by omega)).mp y; omega) ?_)
  rw [e5, nI_clamp (show d * 6 + 5 < 2 ^ 31 by omega)]
  refine And.intro (vp_in_nI (by omega) (by decide)) (br_c (fun y => ?_) (fun y => ?_))
  · rw [if_pos y] at hr
    subst hr
    unfold wX_leaveCall_39
    rw [e4, e7, nI_clamp (show d * 6 + 4 < 2 ^ 31 by omega), nI_clamp (show d * 27 + 26 < 2 ^ 31 by omega)]
    exact And.intro (vp_in_nI (by omega) (by decide)) (nm_r h4 (br_f (by decide) (And.intro (vp_in_nI (by omega) (by decide)) hpush)))
  · rw [if_neg y] at hr
    subst hr
    unfold wX_leaveCall_39
    rw [e4, nI_clamp (show d * 6 + 4 < 2 ^ 31 by omega)]
    exact And.intro (vp_in_nI (by omega) (by decide)) (nm_r h4 (br_t rfl hpush))
theorem hs_xEC {er rc z0 : Int32} (T : hs_T tx nu LT cd lc kp cc P ind h tk ca cb us ue) (hd : d ≤ 6) (hfl : ∀ k, k ≤ d → (ho = true ∧ k = 0 → CL 2 = -1) ∧ (¬ (ho = true ∧ k = 0) → CL (k * 6 + 2) = nI (fl k) ∧ fl k < lc)) (hz : z0 = if er = 8 then rc else er) {post : Int32 → SX → Prop}
    (Hn : (∀ k, k ≤ d → hs_hdl h ind ca ho fl k = none) → post 0 (x_objectLimit, x_stepLimit, x_depthLimit, x_pendingCount, x_keptTokens, x_keptLines, x_lineCount, x_codeCount, x_cursor, x_stop, x_waitingCount, x_openCount, x_classCount, x_callCount, x_operandCount, x_stepsTaken, er, rc, x_printCount, x_lastResult, x_lastPlace, x_pending, LT, x_code, x_waiting, x_globals, x_entries, x_orders, x_merging, x_letterClass, x_objectClass, x_attributes, CL, x_held, x_operands, x_lastPrints))
    (Hf : ∀ j t, j ≤ d → (∀ k, j < k → k ≤ d → hs_hdl h ind ca ho fl k = none) → hs_hdl h ind ca ho fl j = some t → wX_errorIsCaught_67 post (nI (j + 1)) (nI (j * 6)) (nI (hs_bk ind (cb (fl j)) t)) z0 8589934592 x_objectLimit x_stepLimit x_depthLimit x_pendingCount x_keptTokens x_keptLines x_lineCount x_codeCount x_cursor x_stop x_waitingCount x_openCount x_classCount x_callCount x_operandCount x_stepsTaken er rc x_printCount x_lastResult x_lastPlace x_pending LT x_code x_waiting x_globals x_entries x_orders x_merging x_letterClass x_objectClass x_attributes CL x_held x_operands x_lastPrints) :
    ∀ (n j : Nat), j ≤ d + 1 → j < n → (∀ k, j ≤ k → k ≤ d → hs_hdl h ind ca ho fl k = none) → wX_errorIsCaught_16 post x_objectLimit x_stepLimit x_depthLimit x_pendingCount x_keptTokens x_keptLines x_lineCount x_codeCount x_cursor x_stop x_waitingCount x_openCount x_classCount x_callCount x_operandCount x_stepsTaken er rc x_printCount x_lastResult x_lastPlace x_pending LT x_code x_waiting x_globals x_entries x_orders x_merging x_letterClass x_objectClass x_attributes CL x_held x_operands x_lastPrints n (nI j) := by
  intro n
  induction n with
  | zero => intro j h1 h2; omega
  | succ n ih =>
    intro j hj hn hno
    cases j with
    | zero => exact br_t (by decide) (Hn (fun k hk => hno k (by omega) hk))
    | succ j =>
      have e6 : (nI (j + 1) - 1) * 6 = nI (j * 6) := by rw [nI_pred]; exact pk_mul j 6
      have e2 : nI (j * 6) + 2 = nI (j * 6 + 2) := nI_add _ 2
      have back : hs_hdl h ind ca ho fl j = none → ∀ x, x = nI (j + 1) + (-1) → wX_errorIsCaught_16 post x_objectLimit x_stepLimit x_depthLimit x_pendingCount x_keptTokens x_keptLines x_lineCount x_codeCount x_cursor x_stop x_waitingCount x_openCount x_classCount x_callCount x_operandCount x_stepsTaken er rc x_printCount x_lastResult x_lastPlace x_pending LT x_code x_waiting x_globals x_entries x_orders x_merging x_letterClass x_objectClass x_attributes CL x_held x_operands x_lastPrints n x := by
        intro z
        refine nm_r (pk_m1 j) (ih j (by omega) (by omega) (fun k k1 k2 => ?_))
        rcases Nat.lt_or_ge j k with y | y
        · exact hno k (by omega) k2
        · have : k = j := by omega
          subst this; exact z
      refine br_f (nI_nle (by omega) (by omega)) (nm_r e6 ?_)
      rw [e2, nI_clamp (show j * 6 + 2 < 2 ^ 31 by omega)]
      refine And.intro (vp_in_nI (by omega) (by decide)) ?_
      by_cases hh : ho = true ∧ j = 0
      · have ec : CL (j * 6 + 2) = -1 := by rw [hh.2]; exact (hfl j (by omega)).1 hh
        rw [ec]
        exact hs_xHandlerM (br_t (by decide) (back (if_pos hh)))
      · obtain ⟨c1, c2⟩ := (hfl j (by omega)).2 hh
        rw [c1]
        refine hs_xHandler T c2 ?_
        have ek : hs_hdl h ind ca ho fl j = hs_tr h ind (ca (fl j)) 9 (fl j) := if_neg hh
        rw [← ek]
        cases q : hs_hdl h ind ca ho fl j with
        | none => exact br_t (show (-1 : Int32) < 0 by decide) (back q)
        | some t =>
          have lt : hs_bk ind (cb (fl j)) t < 405 := by
            obtain ⟨e1, e2, e3, e4, e5⟩ := hs_TE T c2
            have K := hs_Tck T c2
            rw [ek] at q
            obtain ⟨t1, t2, t3, _⟩ := hs_trF K 9 (fl j) t e2 e3 q
            have := (hs_tryEnd K t1 t2 t3).1
            omega
          refine br_f (show ¬ nI (hs_bk ind (cb (fl j)) t) < 0 from nI_pos (by omega)) ?_
          have r := Hf j t (by omega) (fun k k1 k2 => hno k (by omega) k2) q
          refine br_c (fun y => ?_) (fun y => ?_)
          · rw [hz, if_pos y] at r; exact r
          · rw [hz, if_neg y] at r; exact r
end
