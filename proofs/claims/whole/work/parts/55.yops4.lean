/-! what an element of code does, on the reference's side: calls -/
section
variable {x_objectLimit x_stepLimit x_depthLimit x_pendingCount x_keptTokens x_keptLines x_lineCount x_codeCount x_cursor x_stop x_waitingCount x_openCount x_classCount x_callCount x_operandCount x_stepsTaken x_error x_raisedCode x_printCount x_lastPlace : Int32} {x_lastResult : Int64} {x_pending x_lineTable x_orders x_merging x_letterClass x_objectClass x_calls x_lastPrints : Nat → Int32} {x_code x_waiting x_globals x_entries x_attributes x_held x_operands : Nat → Int64}
variable {y_maxObjects y_maxSteps y_maxDepth y_kept y_end y_tokens y_pending y_lines y_classes y_prints y_place y_steps y_d y_valTop y_opTop y_opens y_pos y_tk y_tv y_stmt y_target y_err y_code y_outcome y_dry y_want y_starting y_ended y_bad y_hosted y_sawSuper : Int32} {y_result : Int64} {y_text y_numbers y_classOf y_alive y_orders y_lengths y_letters y_bases y_ops y_fLine y_fPos y_fStmt y_fTarget y_fMask y_fHome y_fOps y_fVals y_fNew y_out : Nat → Int32} {y_globals y_entries y_attrs y_vals y_locals y_fRecv : Nat → Int64}
variable {P h : Nat → Nat} {lc cn d vt q hm o dr : Nat} {ml : Nat → List Nat} {gl ex ey at1 op va HE loc fRe : Nat → Int64} {ox oc lt oy le fMa fHo : Nat → Int32} {mk : Int32}
theorem hs_yPlace0 {c : Nat} {l : List Nat} {x2 : Int32} {x4 : Int64} {a : Nat} (hc : c < 10) (hd : d ≤ 6) (hl : l.length ≤ 10) (hle : le c = nI l.length) (ho : ∀ k, k < l.length → oy (c * 10 + k) = hs_gi l k) (hm10 : hm < 100) (hl2 : ∀ m, m ∈ l → m < 100) (hfh : fHo d = nI hm) {post : SY → Prop} (H1 : ∀ k, k ≤ 10 → l.drop (k + 1) = l.drop (l.idxOf hm + 1) → wY_close_253 post (nI a) x2 x4 (nI c) (nI k) y_maxObjects y_maxSteps y_maxDepth y_kept y_end y_tokens y_pending y_lines y_classes y_prints y_place y_steps (nI d) y_valTop y_opTop y_opens y_pos y_tk y_tv y_stmt y_target y_err y_code y_outcome y_result y_dry y_want y_starting y_ended y_bad y_hosted y_sawSuper y_text y_numbers y_globals y_entries y_attrs y_classOf y_alive oy le y_letters y_bases y_vals y_ops y_locals y_fRecv y_fLine y_fPos y_fStmt y_fTarget y_fMask fHo y_fOps y_fVals y_fNew y_out) :
    ∀ (n k : Nat), k + n = l.length → (∀ j, j < k → l[j]? ≠ some hm) → wY_close_210 post (nI a) x2 x4 (nI c) y_maxObjects y_maxSteps y_maxDepth y_kept y_end y_tokens y_pending y_lines y_classes y_prints y_place y_steps (nI d) y_valTop y_opTop y_opens y_pos y_tk y_tv y_stmt y_target y_err y_code y_outcome y_result y_dry y_want y_starting y_ended y_bad y_hosted y_sawSuper y_text y_numbers y_globals y_entries y_attrs y_classOf y_alive oy le y_letters y_bases y_vals y_ops y_locals y_fRecv y_fLine y_fPos y_fStmt y_fTarget y_fMask fHo y_fOps y_fVals y_fNew y_out (n + 1) (nI k) := by
  intro n
  induction n with
  | zero =>
    intro k hk hb
    refine And.intro (vp_in_nI hc (by decide)) ?_
    rw [nI_clamp (show c < 2 ^ 31 by omega), hle]
    refine br_t (nI_le (by omega) (by omega)) (H1 k (by omega) ?_)
    rw [List.drop_eq_nil_of_le (by omega)]
    have : hm ∉ l := fun hmem => by
      obtain ⟨j, j1, j2⟩ := List.getElem_of_mem hmem
      exact hb j (by omega) (by rw [List.getElem?_eq_getElem j1, j2])
    rw [List.idxOf_eq_length this, List.drop_eq_nil_of_le (by omega)]
  | succ n ih =>
    intro k hk hb
    refine And.intro (vp_in_nI hc (by decide)) ?_
    have ei : nI c * 10 + nI k = nI (c * 10 + k) := hs_ixMul c 10 k
    rw [nI_clamp (show c < 2 ^ 31 by omega), hle, ei, nI_clamp (show c * 10 + k < 2 ^ 31 by omega), nI_clamp (show d < 2 ^ 31 by omega), hfh, ho k (by omega)]
    refine br_f (nI_ge (by omega) (by omega)) (And.intro (vp_in_nI (by omega) (by decide)) (And.intro (vp_in_nI (by omega) (by decide)) ?_))
    by_cases e : l[k]? = some hm
    · have eg : hs_gi l k = nI hm := by unfold hs_gi; rw [e]
      refine br_t eg (H1 k (by omega) ?_)
      have kl : k < l.length := by omega
      have ek : l.idxOf hm = k := by
        have e2 : l[k] = hm := by rw [List.getElem?_eq_getElem kl] at e; exact Option.some.inj e
        apply Nat.le_antisymm
        · rcases Nat.lt_or_ge k (l.idxOf hm) with q | q
          · have := List.not_of_lt_findIdx (p := fun x => x == hm) (xs := l) (i := k) q
            simp [e2] at this
          · exact q
        · rcases Nat.lt_or_ge (l.idxOf hm) k with q | q
          · exact absurd (by rw [List.getElem?_eq_getElem (show l.idxOf hm < l.length by omega), List.getElem_idxOf]) (hb _ q)
          · exact q
      rw [ek]
    · refine br_f ?_ (nm_r (nI_add k 1) (ih (k + 1) (by omega) (fun j hj => ?_)))
      · unfold hs_gi
        cases el : l[k]? with
        | none => exact fun y => hs_neM1 (by omega) y.symm
        | some m =>
          have := hl2 m (List.mem_of_getElem? el)
          exact hs_ne (fun y => e (by rw [el, y])) (by omega) (by omega)
      · by_cases q : j = k
        · rw [q]; exact e
        · exact hb j (by omega)
theorem hs_yOpM {fo : Option Nat} {n a us : Nat} {rv : Int64} (W : hs_WX P h lc cn ml gl ex at1 ox oc lt) (E : hs_EE P (hs_df h lc) ex ey) (O : hs_OY cn ml oy le) (hva : ∀ j, j < vt → va j = op j) (hd : d ≤ 6) (hvt : vt < 320) (har : hs_arr o ≤ vt) (hoq : hs_oq d o q) (hop : ∀ j, j < vt → hs_vv (op j)) (hfh : 1 ≤ d → fHo d = nI hm ∧ hm < 10) (hfr : 1 ≤ d → fRe d = HE (d * 27 + 26)) (R : hs_RM ml ex at1 HE op oc hm cn d vt o q fo n rv a us) {post : SY → Prop}
    (H : ∀ arg, (a = 0 ∧ arg = 0) ∨ (a = 1 ∧ 1 ≤ vt ∧ arg = op (vt - 1)) → wpY_invoke (fun u => match u with | (y_maxObjectsq, y_maxStepsq, y_maxDepthq, y_keptq, y_endq, y_tokensq, y_pendingq, y_linesq, y_classesq, y_printsq, y_placeq, y_stepsq, y_dq, y_valTopq, y_opTopq, y_opensq, y_posq, y_tkq, y_tvq, y_stmtq, y_targetq, y_errq, y_codeq, y_outcomeq, y_resultq, y_dryq, y_wantq, y_startingq, y_endedq, y_badq, y_hostedq, y_sawSuperq, y_textq, y_numbersq, y_globalsq, y_entriesq, y_attrsq, y_classOfq, y_aliveq, y_ordersq, y_lengthsq, y_lettersq, y_basesq, y_valsq, y_opsq, y_localsq, y_fRecvq, y_fLineq, y_fPosq, y_fStmtq, y_fTargetq, y_fMaskq, y_fHomeq, y_fOpsq, y_fValsq, y_fNewq, y_outq) => post (y_maxObjectsq, y_maxStepsq, y_maxDepthq, y_keptq, y_endq, y_tokensq, y_pendingq, y_linesq, y_classesq, y_printsq, y_placeq, y_stepsq, y_dq, y_valTopq, y_opTopq, y_opensq, y_posq, y_tkq, y_tvq, y_stmtq, y_targetq, y_errq, y_codeq, y_outcomeq, y_resultq, y_dryq, y_wantq, y_startingq, y_endedq, y_badq, y_hostedq, y_sawSuperq, y_textq, y_numbersq, y_globalsq, y_entriesq, y_attrsq, y_classOfq, y_aliveq, y_ordersq, y_lengthsq, y_lettersq, y_basesq, y_valsq, y_opsq, y_localsq, y_fRecvq, y_fLineq, y_fPosq, y_fStmtq, y_fTargetq, y_fMaskq, y_fHomeq, y_fOpsq, y_fValsq, y_fNewq, y_outq)) (y_maxObjects, y_maxSteps, y_maxDepth, y_kept, y_end, y_tokens, y_pending, y_lines, y_classes, y_prints, y_place, y_steps, nI d, nI vt, y_opTop, y_opens, y_pos, y_tk, y_tv, y_stmt, y_target, y_err, y_code, y_outcome, y_result, 0, y_want, y_starting, y_ended, y_bad, y_hosted, y_sawSuper, y_text, y_numbers, gl, ey, at1, oc, y_alive, oy, le, lt, y_bases, va, y_ops, loc, fRe, y_fLine, y_fPos, y_fStmt, y_fTarget, fMa, fHo, y_fOps, y_fVals, y_fNew, y_out) (hs_oV ey n fo) rv arg (nI us) 0) : hs_yop post o q vt (y_maxObjects, y_maxSteps, y_maxDepth, y_kept, y_end, y_tokens, y_pending, y_lines, y_classes, y_prints, y_place, y_steps, nI d, nI vt, y_opTop, y_opens, y_pos, y_tk, y_tv, y_stmt, y_target, y_err, y_code, y_outcome, y_result, 0, y_want, y_starting, y_ended, y_bad, y_hosted, y_sawSuper, y_text, y_numbers, gl, ey, at1, oc, y_alive, oy, le, lt, y_bases, va, y_ops, loc, fRe, y_fLine, y_fPos, y_fStmt, y_fTarget, fMa, fHo, y_fOps, y_fVals, y_fNew, y_out) := by
  have W' := W
  obtain ⟨⟨w1, w2⟩, w3, w4, w5, w6, w7, w8, w9, w10⟩ := W
  obtain ⟨p1, p2, p3, p4, p5, p6, p7⟩ := hoq
  have arg : 6 ≤ o → o ≤ 11 → a = o % 2 → (o % 2 = 1 → 1 ≤ vt) → wpY_invoke (fun u => match u with | (y_maxObjectsq, y_maxStepsq, y_maxDepthq, y_keptq, y_endq, y_tokensq, y_pendingq, y_linesq, y_classesq, y_printsq, y_placeq, y_stepsq, y_dq, y_valTopq, y_opTopq, y_opensq, y_posq, y_tkq, y_tvq, y_stmtq, y_targetq, y_errq, y_codeq, y_outcomeq, y_resultq, y_dryq, y_wantq, y_startingq, y_endedq, y_badq, y_hostedq, y_sawSuperq, y_textq, y_numbersq, y_globalsq, y_entriesq, y_attrsq, y_classOfq, y_aliveq, y_ordersq, y_lengthsq, y_lettersq, y_basesq, y_valsq, y_opsq, y_localsq, y_fRecvq, y_fLineq, y_fPosq, y_fStmtq, y_fTargetq, y_fMaskq, y_fHomeq, y_fOpsq, y_fValsq, y_fNewq, y_outq) => post (y_maxObjectsq, y_maxStepsq, y_maxDepthq, y_keptq, y_endq, y_tokensq, y_pendingq, y_linesq, y_classesq, y_printsq, y_placeq, y_stepsq, y_dq, y_valTopq, y_opTopq, y_opensq, y_posq, y_tkq, y_tvq, y_stmtq, y_targetq, y_errq, y_codeq, y_outcomeq, y_resultq, y_dryq, y_wantq, y_startingq, y_endedq, y_badq, y_hostedq, y_sawSuperq, y_textq, y_numbersq, y_globalsq, y_entriesq, y_attrsq, y_classOfq, y_aliveq, y_ordersq, y_lengthsq, y_lettersq, y_basesq, y_valsq, y_opsq, y_localsq, y_fRecvq, y_fLineq, y_fPosq, y_fStmtq, y_fTargetq, y_fMaskq, y_fHomeq, y_fOpsq, y_fValsq, y_fNewq, y_outq)) (y_maxObjects, y_maxSteps, y_maxDepth, y_kept, y_end, y_tokens, y_pending, y_lines, y_classes, y_prints, y_place, y_steps, nI d, nI vt, y_opTop, y_opens, y_pos, y_tk, y_tv, y_stmt, y_target, y_err, y_code, y_outcome, y_result, 0, y_want, y_starting, y_ended, y_bad, y_hosted, y_sawSuper, y_text, y_numbers, gl, ey, at1, oc, y_alive, oy, le, lt, y_bases, va, y_ops, loc, fRe, y_fLine, y_fPos, y_fStmt, y_fTarget, fMa, fHo, y_fOps, y_fVals, y_fNew, y_out) (hs_oV ey n fo) rv (if o % 2 = 1 then va (vt - 1) else 0) (nI us) 0 := by
    intro _ _ ea ev
    by_cases z : o % 2 = 1
    · rw [if_pos z]
      exact H _ (Or.inr ⟨by omega, ev z, hva _ (by have := ev z; omega)⟩)
    · rw [if_neg z]
      exact H _ (Or.inl ⟨by omega, rfl⟩)
  rcases R with ⟨h67, ea, eu, rfl, er, b, c, hb, z, c1, c2, rfl⟩ | ⟨h89, ea, eu, rfl, d1, er, b, c, hb, c1, c2, rfl⟩ | ⟨rfl, ea, eu, rfl, er, b, c, hb, z, c1, c2, rfl⟩
  · have a1 : o - 6 < vt := by
      have : hs_arr o = o - 5 := by rcases h67 with rfl | rfl <;> rfl
      omega
    have Y := arg (by omega) (by omega) (by omega) (by omega)
    refine hs_yopC (by omega) (by omega) ?_
    revert Y
    generalize (if o % 2 = 1 then va (vt - 1) else 0) = ag
    intro Y
    rw [show o % 2 = o - 6 by omega, show o / 2 - 1 = 2 by omega]
    have ev : nI vt - nI (o - 6) - 1 = nI (vt - 1 - (o - 6)) := by
      rw [pk_sub (by omega), show (1 : Int32) = nI 1 from rfl, pk_sub (by omega)]; exact congrArg nI (by omega)
    have e7 : nI (o - 6) + 1 = nI (o - 6 + 1) := nI_add _ 1
    unfold wY_close_149
    rw [ev, nI_clamp (show vt - 1 - (o - 6) < 2 ^ 31 by omega), hs_shr6 (by omega), show (2 + 64 * n) / 64 = n by omega, hva _ (by omega), e7]
    subst ea eu er
    exact br_t rfl (And.intro (vp_in_nI (by omega) (by decide)) (hs_yMethM W' E O (p5 (by omega) (by omega)) hb z c1 c2 Y))
  · have a1 : o - 8 ≤ vt := by
      have : hs_arr o = o - 8 := by rcases h89 with rfl | rfl <;> rfl
      omega
    have a2 : o % 2 = 1 → 1 ≤ vt := by omega
    have Y := arg (by omega) (by omega) (by omega) a2
    refine hs_yopC (by omega) (by omega) ?_
    revert Y
    generalize (if o % 2 = 1 then va (vt - 1) else 0) = ag
    intro Y
    rw [show o % 2 = o - 8 by omega, show o / 2 - 1 = 3 by omega]
    have b8 := hb.1
    obtain ⟨o1, o2, o3, o4⟩ := w10 c c1
    obtain ⟨u1, u2⟩ := O c c1
    have hm10 : ∀ m, m ∈ ml c → m < 10 := fun m hm => by have := o4 m hm; omega
    have ef := hfr d1
    unfold wY_close_149
    rw [nI_clamp (show d < 2 ^ 31 by omega), ef, ← er, hs_ioL hb, nI_clamp (show b < 2 ^ 31 by omega)]
    refine br_f (by decide) (br_t rfl (And.intro (vp_in_nI (by omega) (by decide)) (And.intro (vp_in_nI b8 (by decide)) (nm_r c2 ⟨(ml c).length + 1, hs_yPlace0 (by omega) hd o2 u1 u2 (by have := (hfh d1).2; omega) (fun m hm => by have := hm10 m hm; omega) (hfh d1).1 (fun k k1 k2 => ?_) (ml c).length 0 (by omega) (fun j hj => by omega)⟩))))
    have e4 : nI k + 1 = nI (k + 1) := nI_add k 1
    unfold wY_close_253
    rw [e4, hs_shr6 (by omega), show (3 + 64 * n) / 64 = n by omega]
    refine hs_ySea (l := ml c) (by omega) (p5 (by omega) (by omega)) o2 u1 u2 hm10 (by omega) ?_
    rw [k2, hs_seaE E (p5 (by omega) (by omega)) (fun m hm => hm10 m (List.mem_of_mem_drop hm)), nI_clamp (show d < 2 ^ 31 by omega), ef, ← er]
    subst ea eu
    exact And.intro (vp_in_nI (by omega) (by decide)) Y
  · have a2 : 2 ≤ vt := har
    have e2 : nI vt - 2 = nI (vt - 2) := pk_sub (b := 2) a2
    have e1 : nI vt - 1 = nI (vt - 1) := pk_sub (b := 1) (by omega)
    refine hs_yopB (by decide) (nm_r (show y_opTop + 1 - 1 = y_opTop from Int32.add_sub_cancel _ _) (br_t rfl ?_))
    rw [e2, e1, nI_clamp (show vt - 2 < 2 ^ 31 by omega), nI_clamp (show vt - 1 < 2 ^ 31 by omega)]
    subst ea eu er
    exact And.intro (vp_in_nI (by omega) (by decide)) (nm_r (hva (vt - 2) (by omega)) (And.intro (vp_in_nI (by omega) (by decide)) (nm_r (hva (vt - 1) (by omega)) (br_t rfl (br_t (hs_ykO hb) (hs_yMethM (n := 0) W' E O (by decide) hb z c1 c2 (H _ (Or.inr ⟨rfl, by omega, rfl⟩))))))))
end
