/-! a sort is made, on the reference's side -/
section
variable {y_maxObjects y_maxSteps y_maxDepth y_kept y_end y_tokens y_pending y_lines y_classes y_prints y_place y_steps y_d y_valTop y_opTop y_opens y_pos y_tk y_tv y_stmt y_target y_err y_code y_outcome y_dry y_want y_starting y_ended y_bad y_hosted y_sawSuper : Int32} {y_result : Int64} {y_text y_numbers y_classOf y_alive y_orders y_lengths y_letters y_bases y_ops y_fLine y_fPos y_fStmt y_fTarget y_fMask y_fHome y_fOps y_fVals y_fNew y_out : Nat → Int32} {y_globals y_entries y_attrs y_vals y_locals y_fRecv : Nat → Int64}
variable {ml : Nat → List Nat} {bs qs : List Nat} {cn c nb f p : Nat} {oy le ba lt tx : Nat → Int32}
/-- the classes that the base letters name -/
def hs_Qb (lt : Nat → Int32) (cn : Nat) (qs bs : List Nat) : Prop := bs.length = qs.length ∧ ∀ (i q : Nat), qs[i]? = some q → ∃ b, bs[i]? = some b ∧ b < cn ∧ lt q = nI b
theorem hs_yC52 {x1 x2 : Int32} (h2 : qs.length ≤ 2) (hq : ∀ i q, qs[i]? = some q → q < 26 ∧ p + 3 + 2 * i < 1024 ∧ tx (p + 3 + 2 * i) = nI (q + 130)) (hlt : ∀ q, q < 26 → lt q = -1 ∨ ∃ b, b < cn ∧ lt q = nI b) (hcn : cn ≤ 10) (hx : x1 = nI p) {post : SY → Prop}
    (Hb : (∃ q, q ∈ qs ∧ lt q = -1) → ∀ ba, post (y_maxObjects, y_maxSteps, y_maxDepth, y_kept, y_end, y_tokens, y_pending, y_lines, nI cn, y_prints, y_place, y_steps, y_d, y_valTop, y_opTop, y_opens, y_pos, y_tk, y_tv, y_stmt, y_target, 2, y_code, y_outcome, y_result, y_dry, y_want, y_starting, y_ended, y_bad, y_hosted, y_sawSuper, tx, y_numbers, y_globals, y_entries, y_attrs, y_classOf, y_alive, oy, y_lengths, lt, ba, y_vals, y_ops, y_locals, y_fRecv, y_fLine, y_fPos, y_fStmt, y_fTarget, y_fMask, y_fHome, y_fOps, y_fVals, y_fNew, y_out))
    (Hg : (∀ q, q ∈ qs → ¬ lt q = -1) → ∀ ba, (∀ i q, qs[i]? = some q → ba i = lt q) → ((10 ≤ nI cn → wY_makeClass_141 post x1 x2 (nI qs.length) y_maxObjects y_maxSteps y_maxDepth y_kept y_end y_tokens y_pending y_lines (nI cn) y_prints y_place y_steps y_d y_valTop y_opTop y_opens y_pos y_tk y_tv y_stmt y_target 0 y_code y_outcome y_result y_dry y_want y_starting y_ended y_bad y_hosted y_sawSuper tx y_numbers y_globals y_entries y_attrs y_classOf y_alive oy y_lengths lt ba y_vals y_ops y_locals y_fRecv y_fLine y_fPos y_fStmt y_fTarget y_fMask y_fHome y_fOps y_fVals y_fNew y_out) ∧ (¬ 10 ≤ nI cn → (vp_in (nI cn * 10) 100 ∧ ∀ o9 : Nat → Int32, o9 = upd oy (nI cn * 10).toNatClampNeg (nI cn) → wY_makeClass_141 post x1 x2 (nI qs.length) y_maxObjects y_maxSteps y_maxDepth y_kept y_end y_tokens y_pending y_lines (nI cn) y_prints y_place y_steps y_d y_valTop y_opTop y_opens y_pos y_tk y_tv y_stmt y_target 0 y_code y_outcome y_result y_dry y_want y_starting y_ended y_bad y_hosted y_sawSuper tx y_numbers y_globals y_entries y_attrs y_classOf y_alive o9 y_lengths lt ba y_vals y_ops y_locals y_fRecv y_fLine y_fPos y_fStmt y_fTarget y_fMask y_fHome y_fOps y_fVals y_fNew y_out)))) :
    ∀ (r : List Nat) (k : Nat) (ba : Nat → Int32) (er : Int32), qs.drop k = r → k ≤ 2 → (∀ i q, i < k → qs[i]? = some q → ba i = lt q) → ((er = 0 ∧ ∀ i q, i < k → qs[i]? = some q → ¬ lt q = -1) ∨ (er = 2 ∧ ∃ i q, i < k ∧ qs[i]? = some q ∧ lt q = -1)) → wY_makeClass_52 post x1 x2 (nI qs.length) y_maxObjects y_maxSteps y_maxDepth y_kept y_end y_tokens y_pending y_lines (nI cn) y_prints y_place y_steps y_d y_valTop y_opTop y_opens y_pos y_tk y_tv y_stmt y_target y_code y_outcome y_result y_dry y_want y_starting y_ended y_bad y_hosted y_sawSuper (r.length + 1) (nI k) er tx y_numbers y_globals y_entries y_attrs y_classOf y_alive oy y_lengths lt ba y_vals y_ops y_locals y_fRecv y_fLine y_fPos y_fStmt y_fTarget y_fMask y_fHome y_fOps y_fVals y_fNew y_out := by
  subst hx
  intro r
  induction r with
  | nil =>
    intro k ba er e hk hba her
    have hkl : qs.length ≤ k := List.drop_eq_nil_iff.mp e
    have all : ∀ i q, qs[i]? = some q → i < k := by
      intro i q hi
      rcases Nat.lt_or_ge i qs.length with z | z
      · omega
      · rw [List.getElem?_eq_none z] at hi; cases hi
    refine br_t (nI_le hkl (by omega)) ?_
    rcases her with ⟨rfl, h1⟩ | ⟨rfl, i, q, h1, h3, h4⟩
    · exact br_t rfl (Hg (fun q hq' => by obtain ⟨i, hi⟩ := List.mem_iff_getElem?.mp hq'; exact h1 i q (all i q hi) hi) ba (fun i q hi => hba i q (all i q hi) hi))
    · exact br_f (by decide) (Hb ⟨q, List.mem_of_getElem? h3, h4⟩ ba)
  | cons q r ih =>
    intro k ba er e hk hba her
    obtain ⟨k1, _, k3, k4⟩ := hs_dropC e
    have hqk := hs_dropE e
    obtain ⟨q26, q1, q2⟩ := hq k q hqk
    have e3 : nI p + 3 + 2 * nI k = nI (p + 3 + 2 * k) := by
      rw [show nI p + 3 = nI (p + 3) from nI_add _ 3, show (2 : Int32) * nI k = nI (2 * k) from pk_mul 2 k, nI_add]
    have e4 : nI (q + 130) - 130 = nI q := pk_sub (a := q + 130) (b := 130) (by omega)
    have hba' : ∀ i q', i < k + 1 → qs[i]? = some q' → upd ba k (lt q) i = lt q' := by
      intro i q' hi hi2
      by_cases z : i = k
      · subst z
        rw [hqk] at hi2
        rw [pk_us, Option.some.inj hi2]
      · rw [pk_un z]; exact hba i q' (by omega) hi2
    refine br_f (nI_ge k1 (by omega)) ?_
    rw [e3, nI_clamp (show p + 3 + 2 * k < 2 ^ 31 by omega), q2, e4, nI_clamp (show q < 2 ^ 31 by omega), nI_clamp (show k < 2 ^ 31 by omega)]
    refine And.intro (vp_in_nI q1 (by decide)) (And.intro (vp_in_nI q26 (by decide)) (And.intro (vp_in_nI (by omega) (by decide)) (nm_e (And.intro (vp_in_nI (by omega) (by decide)) ?_))))
    rw [pk_us]
    rcases hlt q q26 with z | ⟨b, b1, b2⟩
    · rw [z] at hba' ⊢
      exact br_f (by decide) (nm_r (nI_1 k) (ih (k + 1) _ 2 k3 (by omega) hba' (Or.inr ⟨rfl, k, q, by omega, hqk, z⟩)))
    · have nz : ¬ lt q = -1 := by rw [b2]; exact hs_neM1 (by omega)
      refine br_t (by rw [b2]; exact nI_pos' (by omega)) (nm_r (nI_1 k) (ih (k + 1) _ er k3 (by omega) hba' ?_))
      rcases her with ⟨e0, h1⟩ | ⟨e0, i, q', h1, h3, h4⟩
      · refine Or.inl ⟨e0, fun i q' hi hi2 => ?_⟩
        by_cases y : i = k
        · subst y
          rw [hqk] at hi2
          rw [← Option.some.inj hi2]; exact nz
        · exact h1 i q' (by omega) hi2
      · exact Or.inr ⟨e0, i, q', by omega, h3, h4⟩
theorem hs_yClsM (h2 : qs.length ≤ 2) (p1024 : p + 2 < 1024) (hf : tx (p + 1) = nI (f + 130)) (f26 : f < 26) (hn : (qs = [] ∧ ¬ tx (p + 2) = 21) ∨ (p + 4 < 1024 ∧ tx (p + 2) = 21 ∧ (qs.length = 1 ∧ ¬ tx (p + 4) = 23 ∨ qs.length = 2 ∧ tx (p + 4) = 23))) (hq : ∀ i q, qs[i]? = some q → q < 26 ∧ p + 3 + 2 * i < 1024 ∧ tx (p + 3 + 2 * i) = nI (q + 130)) (hlt : ∀ q, q < 26 → lt q = -1 ∨ ∃ b, b < cn ∧ lt q = nI b) (hcn : cn ≤ 10) (O : hs_OY cn ml oy le) (hml : ∀ c, c < cn → (ml c).length ≤ 10 ∧ ∀ x, x ∈ ml c → x < cn) (MC : ∀ c, c < cn → c ∈ ml c) {post : SY → Prop}
    (H2 : (∃ q, q ∈ qs ∧ lt q = -1) → ∀ ba, post (y_maxObjects, y_maxSteps, y_maxDepth, y_kept, y_end, y_tokens, y_pending, y_lines, nI cn, y_prints, y_place, y_steps, y_d, y_valTop, y_opTop, y_opens, y_pos, y_tk, y_tv, y_stmt, y_target, 2, y_code, y_outcome, y_result, y_dry, y_want, y_starting, y_ended, y_bad, y_hosted, y_sawSuper, tx, y_numbers, y_globals, y_entries, y_attrs, y_classOf, y_alive, oy, le, lt, ba, y_vals, y_ops, y_locals, y_fRecv, y_fLine, y_fPos, y_fStmt, y_fTarget, y_fMask, y_fHome, y_fOps, y_fVals, y_fNew, y_out))
    (H3 : ∀ bs, hs_Qb lt cn qs bs → hs_mg (hs_YL ml bs) 11 0 = none → ∀ ba oy', (∀ j, (j < cn * 10 ∨ cn * 10 + 10 ≤ j) → oy' j = oy j) → post (y_maxObjects, y_maxSteps, y_maxDepth, y_kept, y_end, y_tokens, y_pending, y_lines, nI cn, y_prints, y_place, y_steps, y_d, y_valTop, y_opTop, y_opens, y_pos, y_tk, y_tv, y_stmt, y_target, 3, y_code, y_outcome, y_result, y_dry, y_want, y_starting, y_ended, y_bad, y_hosted, y_sawSuper, tx, y_numbers, y_globals, y_entries, y_attrs, y_classOf, y_alive, oy', le, lt, ba, y_vals, y_ops, y_locals, y_fRecv, y_fLine, y_fPos, y_fStmt, y_fTarget, y_fMask, y_fHome, y_fOps, y_fVals, y_fNew, y_out))
    (H7 : ∀ bs l, hs_Qb lt cn qs bs → hs_mg (hs_YL ml bs) 11 0 = some l → cn = 10 → ∀ ba oy', (∀ j, (j < cn * 10 ∨ cn * 10 + 10 ≤ j) → oy' j = oy j) → post (y_maxObjects, y_maxSteps, y_maxDepth, y_kept, y_end, y_tokens, y_pending, y_lines, nI cn, y_prints, y_place, y_steps, y_d, y_valTop, y_opTop, y_opens, y_pos, y_tk, y_tv, y_stmt, y_target, 7, y_code, y_outcome, y_result, y_dry, y_want, y_starting, y_ended, y_bad, y_hosted, y_sawSuper, tx, y_numbers, y_globals, y_entries, y_attrs, y_classOf, y_alive, oy', le, lt, ba, y_vals, y_ops, y_locals, y_fRecv, y_fLine, y_fPos, y_fStmt, y_fTarget, y_fMask, y_fHome, y_fOps, y_fVals, y_fNew, y_out))
    (Hok : ∀ bs l, hs_Qb lt cn qs bs → hs_mg (hs_YL ml bs) 11 0 = some l → cn < 10 → ∀ ba oy', (∀ j, (j < cn * 10 ∨ cn * 10 + 10 ≤ j) → oy' j = oy j) → (∀ k, k < l.length + 1 → oy' (cn * 10 + k) = hs_gi (cn :: l) k) → wpY_enter (fun u => match u with | (y_maxObjectsq, y_maxStepsq, y_maxDepthq, y_keptq, y_endq, y_tokensq, y_pendingq, y_linesq, y_classesq, y_printsq, y_placeq, y_stepsq, y_dq, y_valTopq, y_opTopq, y_opensq, y_posq, y_tkq, y_tvq, y_stmtq, y_targetq, y_errq, y_codeq, y_outcomeq, y_resultq, y_dryq, y_wantq, y_startingq, y_endedq, y_badq, y_hostedq, y_sawSuperq, y_textq, y_numbersq, y_globalsq, y_entriesq, y_attrsq, y_classOfq, y_aliveq, y_ordersq, y_lengthsq, y_lettersq, y_basesq, y_valsq, y_opsq, y_localsq, y_fRecvq, y_fLineq, y_fPosq, y_fStmtq, y_fTargetq, y_fMaskq, y_fHomeq, y_fOpsq, y_fValsq, y_fNewq, y_outq) => post (y_maxObjectsq, y_maxStepsq, y_maxDepthq, y_keptq, y_endq, y_tokensq, y_pendingq, y_linesq, y_classesq, y_printsq, y_placeq, y_stepsq, y_dq, y_valTopq, y_opTopq, y_opensq, y_posq, y_tkq, y_tvq, y_stmtq, y_targetq, y_errq, y_codeq, y_outcomeq, y_resultq, y_dryq, y_wantq, y_startingq, y_endedq, y_badq, y_hostedq, y_sawSuperq, y_textq, y_numbersq, y_globalsq, y_entriesq, y_attrsq, y_classOfq, y_aliveq, y_ordersq, y_lengthsq, y_lettersq, y_basesq, y_valsq, y_opsq, y_localsq, y_fRecvq, y_fLineq, y_fPosq, y_fStmtq, y_fTargetq, y_fMaskq, y_fHomeq, y_fOpsq, y_fValsq, y_fNewq, y_outq)) (y_maxObjects, y_maxSteps, y_maxDepth, y_kept, y_end, y_tokens, y_pending, y_lines, nI (cn + 1), y_prints, y_place, y_steps, y_d, y_valTop, y_opTop, y_opens, y_pos, y_tk, y_tv, y_stmt, y_target, 0, y_code, y_outcome, y_result, y_dry, y_want, y_starting, y_ended, y_bad, y_hosted, y_sawSuper, tx, y_numbers, y_globals, y_entries, y_attrs, y_classOf, y_alive, oy', upd le cn (nI (l.length + 1)), upd lt f (nI cn), ba, y_vals, y_ops, y_locals, y_fRecv, y_fLine, y_fPos, y_fStmt, y_fTarget, y_fMask, y_fHome, y_fOps, y_fVals, y_fNew, y_out) (nI p)) :
    wpY_makeClass post (y_maxObjects, y_maxSteps, y_maxDepth, y_kept, y_end, y_tokens, y_pending, y_lines, nI cn, y_prints, y_place, y_steps, y_d, y_valTop, y_opTop, y_opens, y_pos, y_tk, y_tv, y_stmt, y_target, 0, y_code, y_outcome, y_result, y_dry, y_want, y_starting, y_ended, y_bad, y_hosted, y_sawSuper, tx, y_numbers, y_globals, y_entries, y_attrs, y_classOf, y_alive, oy, le, lt, y_bases, y_vals, y_ops, y_locals, y_fRecv, y_fLine, y_fPos, y_fStmt, y_fTarget, y_fMask, y_fHome, y_fOps, y_fVals, y_fNew, y_out) (nI p) := by
  have e1 : nI p + 1 = nI (p + 1) := nI_1 p
  have e2 : nI p + 2 = nI (p + 2) := nI_add p 2
  have e4 : nI p + 4 = nI (p + 4) := nI_add p 4
  have ef : nI (f + 130) - 130 = nI f := pk_sub (a := f + 130) (b := 130) (by omega)
  have ec : nI cn * 10 = nI (cn * 10) := pk_mul cn 10
  have w141 : (∀ q, q ∈ qs → ¬ lt q = -1) → ∀ ba oy1, (∀ i q, qs[i]? = some q → ba i = lt q) → (∀ j, (j < cn * 10 ∨ cn * 10 + 10 ≤ j) → oy1 j = oy j) → (cn < 10 → oy1 (cn * 10) = nI cn) → wY_makeClass_141 post (nI p) (nI f) (nI qs.length) y_maxObjects y_maxSteps y_maxDepth y_kept y_end y_tokens y_pending y_lines (nI cn) y_prints y_place y_steps y_d y_valTop y_opTop y_opens y_pos y_tk y_tv y_stmt y_target 0 y_code y_outcome y_result y_dry y_want y_starting y_ended y_bad y_hosted y_sawSuper tx y_numbers y_globals y_entries y_attrs y_classOf y_alive oy1 le lt ba y_vals y_ops y_locals y_fRecv y_fLine y_fPos y_fStmt y_fTarget y_fMask y_fHome y_fOps y_fVals y_fNew y_out := by
    intro ng ba oy1 hba ho h0
    obtain ⟨bs, hQ⟩ : ∃ bs, hs_Qb lt cn qs bs := by
      refine ⟨qs.map (fun q => (lt q).toNatClampNeg), by rw [List.length_map], fun i q hi => ?_⟩
      have hqm := List.mem_of_getElem? hi
      rcases hlt q (hq i q hi).1 with z | ⟨b, b1, b2⟩
      · exact absurd z (ng q hqm)
      · exact ⟨b, by rw [List.getElem?_map, hi]; show some (lt q).toNatClampNeg = some b; rw [b2, nI_clamp (by omega)], b1, b2⟩
    have Y : hs_YM cn ml oy1 le ba bs := by
      refine ⟨hcn, fun c hc => ⟨(O c hc).1, fun k hk => ?_⟩, hml, by rw [hQ.1]; exact h2, fun i b hi => ?_⟩
      · have := (hml c hc).1
        rw [ho _ (by omega)]; exact (O c hc).2 k hk
      · have il : i < bs.length := by
          rcases Nat.lt_or_ge i bs.length with z | z
          · exact z
          · rw [List.getElem?_eq_none z] at hi; cases hi
        have hqi : qs[i]? = some (qs[i]'(by rw [← hQ.1]; exact il)) := List.getElem?_eq_getElem _
        obtain ⟨b', c1, c2, c3⟩ := hQ.2 i _ hqi
        rw [c1] at hi
        have := Option.some.inj hi
        subst this
        exact ⟨c2, by rw [hba i _ hqi]; exact c3⟩
    unfold wY_makeClass_141
    rw [← hQ.1]
    refine hs_yMerge Y MC h0 (fun l oy' q1 q2 q3 => ?_) (fun q1 oy' q2 => ?_)
    · refine br_t (nI_pos' ?_) (pk_eq cn 10 (fun z => ?_) (fun z => ?_))
      · have := (hs_mgM (L := hs_YL ml bs) (cn := cn) (fun l hl => (hs_YLm Y hl).2) 11 0 l (by have := hs_unLe (cn := cn) (t := 0); omega) q1).1
        have := hs_unLe (cn := cn) (t := 0)
        omega
      · unfold wY_makeClass_176
        exact br_f (by decide) (H7 bs l hQ q1 z ba oy' (fun j hj => by rw [q2 j hj]; exact ho j hj))
      · unfold wY_makeClass_176
        rw [nI_clamp (show cn < 2 ^ 31 by omega), nI_clamp (show f < 2 ^ 31 by omega)]
        exact br_t rfl (And.intro (vp_in_nI (by omega) (by decide)) (nm_e (nm_r (nI_1 cn) (And.intro (vp_in_nI f26 (by decide)) (nm_e (Hok bs l hQ q1 (by omega) ba oy' (fun j hj => by rw [q2 j hj]; exact ho j hj) (q3 (by omega))))))))
    · refine br_f (by decide) ?_
      unfold wY_makeClass_176
      exact br_f (by decide) (H3 bs hQ q1 ba oy' (fun j hj => by rw [q2 j hj]; exact ho j hj))
  have w52 : ∃ n52 : Nat, wY_makeClass_52 post (nI p) (nI f) (nI qs.length) y_maxObjects y_maxSteps y_maxDepth y_kept y_end y_tokens y_pending y_lines (nI cn) y_prints y_place y_steps y_d y_valTop y_opTop y_opens y_pos y_tk y_tv y_stmt y_target y_code y_outcome y_result y_dry y_want y_starting y_ended y_bad y_hosted y_sawSuper n52 0 0 tx y_numbers y_globals y_entries y_attrs y_classOf y_alive oy le lt y_bases y_vals y_ops y_locals y_fRecv y_fLine y_fPos y_fStmt y_fTarget y_fMask y_fHome y_fOps y_fVals y_fNew y_out := by
    refine ⟨qs.length + 1, hs_yC52 h2 hq hlt hcn rfl H2 (fun ng ba hba => ?_) qs 0 _ 0 rfl (by omega) (fun i q hi => by omega) (Or.inl ⟨rfl, fun i q hi => by omega⟩)⟩
    refine pk_le 10 cn (fun z => w141 ng ba oy hba (fun _ _ => rfl) (fun w => by omega)) (fun z => ?_)
    rw [ec, nI_clamp (show cn * 10 < 2 ^ 31 by omega)]
    exact And.intro (vp_in_nI (by omega) (by decide)) (nm_e (w141 ng ba _ hba (fun j hj => pk_un (by omega)) (fun _ => pk_us)))
  refine And.intro (by rw [e1]; exact vp_in_nI (by omega) (by decide)) ?_
  rw [e1, e2, e4, nI_clamp (show p + 1 < 2 ^ 31 by omega), nI_clamp (show p + 2 < 2 ^ 31 by omega), nI_clamp (show p + 4 < 2 ^ 31 by omega), hf, ef]
  refine nm_e (And.intro (vp_in_nI (by omega) (by decide)) ?_)
  rcases hn with ⟨n1, n2⟩ | ⟨n0, n1, ⟨n2, n3⟩ | ⟨n2, n3⟩⟩
  · rw [n1, List.length_nil] at w52
    exact br_f n2 w52
  · rw [n2] at w52
    exact br_t n1 (And.intro (vp_in_nI (by omega) (by decide)) (br_f n3 w52))
  · rw [n2] at w52
    exact br_t n1 (And.intro (vp_in_nI (by omega) (by decide)) (br_t n3 w52))
end
