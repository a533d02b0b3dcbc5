/-! what an element of code does, on the reference's side -/
section
variable {x_objectLimit x_stepLimit x_depthLimit x_pendingCount x_keptTokens x_keptLines x_lineCount x_codeCount x_cursor x_stop x_waitingCount x_openCount x_classCount x_callCount x_operandCount x_stepsTaken x_error x_raisedCode x_printCount x_lastPlace : Int32} {x_lastResult : Int64} {x_pending x_lineTable x_orders x_merging x_letterClass x_objectClass x_calls x_lastPrints : Nat → Int32} {x_code x_waiting x_globals x_entries x_attributes x_held x_operands : Nat → Int64}
variable {y_maxObjects y_maxSteps y_maxDepth y_kept y_end y_tokens y_pending y_lines y_classes y_prints y_place y_steps y_d y_valTop y_opTop y_opens y_pos y_tk y_tv y_stmt y_target y_err y_code y_outcome y_dry y_want y_starting y_ended y_bad y_hosted y_sawSuper : Int32} {y_result : Int64} {y_text y_numbers y_classOf y_alive y_orders y_lengths y_letters y_bases y_ops y_fLine y_fPos y_fStmt y_fTarget y_fMask y_fHome y_fOps y_fVals y_fNew y_out : Nat → Int32} {y_globals y_entries y_attrs y_vals y_locals y_fRecv : Nat → Int64}
variable {P h : Nat → Nat} {lc cn d vt q hm : Nat} {ml : Nat → List Nat} {gl ex ey at1 op va HE loc fRe : Nat → Int64} {ox oc lt oy le fMa fHo : Nat → Int32} {mk : Int32}
theorem hs_eeZ {P : Nat → Nat} {df : Nat → Prop} {c : Nat} {e e' : Int64} (hc : c < 10) (h : hs_ee P df c e e') : e = 0 ↔ e' = 0 := by
  rcases h with ⟨rfl, _⟩ | ⟨l, _, l1, l2, e1, e2⟩
  · exact Iff.rfl
  · rw [e1, e2]
    have a1 : ¬ lN (17179869184 + l) = 0 := fun y => by have := (pk_lEQ (a := 17179869184 + l) (b := 0) (by omega) (by decide)).mp y; omega
    have a2 : ¬ lN (17179869184 + (c * 4096 + P l)) = 0 := fun y => by have := (pk_lEQ (a := 17179869184 + (c * 4096 + P l)) (b := 0) (by omega) (by decide)).mp y; omega
    exact ⟨fun y => absurd y a1, fun y => absurd y a2⟩
theorem hs_seaE {P : Nat → Nat} {df : Nat → Prop} {ex ey : Nat → Int64} {n : Nat} {ms : List Nat} (E : hs_EE P df ex ey) (hn : n < 26) (hm : ∀ m, m ∈ ms → m < 10) : hs_sea ey n ms = hs_sea ex n ms :=
  (hs_seaC (fun m h => hs_eeZ (hm m h) (E m n (hm m h) hn))).symm
theorem hs_eeV {P : Nat → Nat} {df : Nat → Prop} {c : Nat} {e e' : Int64} (h : hs_ee P df c e e') (hv : hs_vv e) : e' = e := by
  rcases h with ⟨rfl, _⟩ | ⟨l, _, l1, l2, e1, e2⟩
  · rfl
  · obtain ⟨m, m1, m2⟩ := hv
    rw [e1, pk_lEQ (by omega) (by omega)] at m1
    omega
theorem hs_eeM {P : Nat → Nat} {df : Nat → Prop} {c l : Nat} {e e' : Int64} (h : hs_ee P df c e e') (hv : e = lN (17179869184 + l)) (hl : l < 1024) : df l ∧ P l < 1024 ∧ e' = lN (17179869184 + (c * 4096 + P l)) := by
  rcases h with ⟨e0, q⟩ | ⟨l', d1, l1, l2, e1, e2⟩
  · obtain ⟨m, m1, m2⟩ := hs_v0N q
    rw [hv, pk_lEQ (by omega) (by omega)] at m1
    omega
  · rw [hv, pk_lEQ (by omega) (by omega)] at e1
    have : l = l' := by omega
    subst this
    exact ⟨d1, l2, e2⟩
theorem hs_yRead {vt : Nat} {v : Int64} (hvt : vt < 320) (hv : hs_vv v) {post : SY → Prop} (H : post (y_maxObjects, y_maxSteps, y_maxDepth, y_kept, y_end, y_tokens, y_pending, y_lines, y_classes, y_prints, y_place, y_steps, y_d, nI (vt + 1), y_opTop, y_opens, y_pos, y_tk, y_tv, y_stmt, y_target, y_err, y_code, y_outcome, y_result, y_dry, 0, y_starting, y_ended, y_bad, y_hosted, y_sawSuper, y_text, y_numbers, y_globals, y_entries, y_attrs, y_classOf, y_alive, y_orders, y_lengths, y_letters, y_bases, vp_updL y_vals vt v, y_ops, y_locals, y_fRecv, y_fLine, y_fPos, y_fStmt, y_fTarget, y_fMask, y_fHome, y_fOps, y_fVals, y_fNew, y_out)) : wpY_read post (y_maxObjects, y_maxSteps, y_maxDepth, y_kept, y_end, y_tokens, y_pending, y_lines, y_classes, y_prints, y_place, y_steps, y_d, nI vt, y_opTop, y_opens, y_pos, y_tk, y_tv, y_stmt, y_target, y_err, y_code, y_outcome, y_result, y_dry, y_want, y_starting, y_ended, y_bad, y_hosted, y_sawSuper, y_text, y_numbers, y_globals, y_entries, y_attrs, y_classOf, y_alive, y_orders, y_lengths, y_letters, y_bases, y_vals, y_ops, y_locals, y_fRecv, y_fLine, y_fPos, y_fStmt, y_fTarget, y_fMask, y_fHome, y_fOps, y_fVals, y_fNew, y_out) v := by
  obtain ⟨m, rfl, m2⟩ := hv
  refine br_f (hs_vvne ⟨m, rfl, m2⟩) (br_f ?_ (hs_yValue hvt H))
  rw [hs_yk4 (by omega)]; omega
theorem hs_yGetE {c n : Nat} (W : hs_WX P h lc cn ml gl ex at1 ox oc lt) (E : hs_EE P (hs_df h lc) ex ey) (O : hs_OY cn ml oy le) (hc : c < cn) (hn : n < 26) {post : Int64 → Prop}
    (Hv : ∀ v, hs_gE ex ml c n v → post v) (He : ∀ er, hs_gX ex ml c n er → (er = 4 → post 0) ∧ (er = 3 → ∀ m : Nat, m < 2 ^ 20 → post (lN (17179869184 + m)))) : wpY_search post (y_maxObjects, y_maxSteps, y_maxDepth, y_kept, y_end, y_tokens, y_pending, y_lines, y_classes, y_prints, y_place, y_steps, nI d, nI vt, y_opTop, y_opens, y_pos, y_tk, y_tv, y_stmt, y_target, y_err, y_code, y_outcome, y_result, 0, y_want, y_starting, y_ended, y_bad, y_hosted, y_sawSuper, y_text, y_numbers, gl, ey, at1, oc, y_alive, oy, le, lt, y_bases, va, y_ops, loc, fRe, y_fLine, y_fPos, y_fStmt, y_fTarget, fMa, fHo, y_fOps, y_fVals, y_fNew, y_out) (nI c) 0 (nI n) := by
  obtain ⟨⟨w1, w2⟩, w3, w4, w5, w6, w7, w8, w9, w10⟩ := W
  obtain ⟨o1, o2, o3, o4⟩ := w10 c hc
  obtain ⟨u1, u2⟩ := O c hc
  have hm : ∀ m, m ∈ ml c → m < 10 := fun m hm => by have := o4 m hm; omega
  refine hs_ySea (k := 0) (l := ml c) (by omega) hn o2 u1 u2 hm (by decide) ?_
  rw [List.drop_zero, hs_seaE E hn hm]
  cases es : hs_sea ex n (ml c) with
  | none => exact (He 4 (Or.inl ⟨es, rfl⟩)).1 rfl
  | some m =>
    obtain ⟨s1, s2⟩ := hs_seaM w3 es
    have m10 := hm m s1
    have ee := E m n m10 hn
    show post (ey (m * 26 + n))
    rcases w5 m n m10 hn with q | ⟨l, q1, q2, q3, q4⟩
    · rcases q with q | q
      · exact absurd q s2
      · rw [hs_eeV ee q]
        exact Hv _ ⟨m, es, m10, rfl, q⟩
    · obtain ⟨_, g2, g3⟩ := hs_eeM ee q4 q2
      rw [g3]
      exact (He 3 (Or.inr ⟨m, l, es, m10, q4, q2, rfl⟩)).2 rfl (m * 4096 + P l) (by omega)
theorem hs_yReadX {c n : Nat} (W : hs_WX P h lc cn ml gl ex at1 ox oc lt) (E : hs_EE P (hs_df h lc) ex ey) (O : hs_OY cn ml oy le) (hc : c < cn) (hn : n < 26) {er : Int32} (hX : hs_gX ex ml c n er) {post : SY → Prop} (H : post (y_maxObjects, y_maxSteps, y_maxDepth, y_kept, y_end, y_tokens, y_pending, y_lines, y_classes, y_prints, y_place, y_steps, nI d, nI vt, y_opTop, y_opens, y_pos, y_tk, y_tv, y_stmt, y_target, er, y_code, y_outcome, y_result, 0, y_want, y_starting, y_ended, y_bad, y_hosted, y_sawSuper, y_text, y_numbers, gl, ey, at1, oc, y_alive, oy, le, lt, y_bases, va, y_ops, loc, fRe, y_fLine, y_fPos, y_fStmt, y_fTarget, fMa, fHo, y_fOps, y_fVals, y_fNew, y_out)) :
    wpY_search (fun e => wpY_read post (y_maxObjects, y_maxSteps, y_maxDepth, y_kept, y_end, y_tokens, y_pending, y_lines, y_classes, y_prints, y_place, y_steps, nI d, nI vt, y_opTop, y_opens, y_pos, y_tk, y_tv, y_stmt, y_target, y_err, y_code, y_outcome, y_result, 0, y_want, y_starting, y_ended, y_bad, y_hosted, y_sawSuper, y_text, y_numbers, gl, ey, at1, oc, y_alive, oy, le, lt, y_bases, va, y_ops, loc, fRe, y_fLine, y_fPos, y_fStmt, y_fTarget, fMa, fHo, y_fOps, y_fVals, y_fNew, y_out) e) (y_maxObjects, y_maxSteps, y_maxDepth, y_kept, y_end, y_tokens, y_pending, y_lines, y_classes, y_prints, y_place, y_steps, nI d, nI vt, y_opTop, y_opens, y_pos, y_tk, y_tv, y_stmt, y_target, y_err, y_code, y_outcome, y_result, 0, y_want, y_starting, y_ended, y_bad, y_hosted, y_sawSuper, y_text, y_numbers, gl, ey, at1, oc, y_alive, oy, le, lt, y_bases, va, y_ops, loc, fRe, y_fLine, y_fPos, y_fStmt, y_fTarget, fMa, fHo, y_fOps, y_fVals, y_fNew, y_out) (nI c) 0 (nI n) := by
  refine hs_yGetE W E O hc hn (fun v hv => ?_) (fun er' hr => ?_)
  · obtain ⟨m, s1, s2, s3, s4⟩ := hv
    rcases hX with ⟨x1, _⟩ | ⟨m', l, x1, x2, x3, x4, _⟩
    · rw [s1] at x1; cases x1
    · rw [s1] at x1; cases x1
      obtain ⟨k, k1, k2⟩ := s4
      rw [s3, x3, pk_lEQ (by omega) (by omega)] at k1
      omega
  · refine ⟨fun e4 => ?_, fun e3 m hm => ?_⟩
    · rcases hX with ⟨x1, rfl⟩ | ⟨m', l, x1, x2, x3, x4, rfl⟩
      · exact br_t rfl H
      · subst e4
        rcases hr with ⟨y1, _⟩ | ⟨_, _, _, _, _, _, y2⟩
        · rw [x1] at y1; cases y1
        · exact absurd y2 (by decide)
    · rcases hX with ⟨x1, rfl⟩ | ⟨m', l, x1, x2, x3, x4, rfl⟩
      · subst e3
        rcases hr with ⟨_, y2⟩ | ⟨m', l, y1, _⟩
        · exact absurd y2 (by decide)
        · rw [x1] at y1; cases y1
      · refine br_f (fun y => ?_) (br_t ?_ H)
        · have := (pk_lEQ (a := 17179869184 + m) (b := 0) (by omega) (by decide)).mp y; omega
        · rw [hs_yk4 (by omega)]; omega
theorem hs_yReadV {c n : Nat} (W : hs_WX P h lc cn ml gl ex at1 ox oc lt) (E : hs_EE P (hs_df h lc) ex ey) (O : hs_OY cn ml oy le) (hc : c < cn) (hn : n < 26) (hvt : vt < 320) {v : Int64} (hV : hs_gE ex ml c n v) {post : SY → Prop} (H : post (y_maxObjects, y_maxSteps, y_maxDepth, y_kept, y_end, y_tokens, y_pending, y_lines, y_classes, y_prints, y_place, y_steps, nI d, nI (vt + 1), y_opTop, y_opens, y_pos, y_tk, y_tv, y_stmt, y_target, y_err, y_code, y_outcome, y_result, 0, 0, y_starting, y_ended, y_bad, y_hosted, y_sawSuper, y_text, y_numbers, gl, ey, at1, oc, y_alive, oy, le, lt, y_bases, vp_updL va vt v, y_ops, loc, fRe, y_fLine, y_fPos, y_fStmt, y_fTarget, fMa, fHo, y_fOps, y_fVals, y_fNew, y_out)) :
    wpY_search (fun e => wpY_read post (y_maxObjects, y_maxSteps, y_maxDepth, y_kept, y_end, y_tokens, y_pending, y_lines, y_classes, y_prints, y_place, y_steps, nI d, nI vt, y_opTop, y_opens, y_pos, y_tk, y_tv, y_stmt, y_target, y_err, y_code, y_outcome, y_result, 0, y_want, y_starting, y_ended, y_bad, y_hosted, y_sawSuper, y_text, y_numbers, gl, ey, at1, oc, y_alive, oy, le, lt, y_bases, va, y_ops, loc, fRe, y_fLine, y_fPos, y_fStmt, y_fTarget, fMa, fHo, y_fOps, y_fVals, y_fNew, y_out) e) (y_maxObjects, y_maxSteps, y_maxDepth, y_kept, y_end, y_tokens, y_pending, y_lines, y_classes, y_prints, y_place, y_steps, nI d, nI vt, y_opTop, y_opens, y_pos, y_tk, y_tv, y_stmt, y_target, y_err, y_code, y_outcome, y_result, 0, y_want, y_starting, y_ended, y_bad, y_hosted, y_sawSuper, y_text, y_numbers, gl, ey, at1, oc, y_alive, oy, le, lt, y_bases, va, y_ops, loc, fRe, y_fLine, y_fPos, y_fStmt, y_fTarget, fMa, fHo, y_fOps, y_fVals, y_fNew, y_out) (nI c) 0 (nI n) := by
  obtain ⟨m, s1, s2, s3, s4⟩ := hV
  refine hs_yGetE W E O hc hn (fun v' hv => ?_) (fun er' hr => ?_)
  · obtain ⟨m', t1, t2, t3, t4⟩ := hv
    rw [s1] at t1; cases t1
    rw [t3, ← s3]
    exact hs_yRead hvt s4 H
  · rcases hr with ⟨x1, _⟩ | ⟨m', l, x1, x2, x3, x4, _⟩
    · rw [s1] at x1; cases x1
    · rw [s1] at x1; cases x1
      obtain ⟨k, k1, k2⟩ := s4
      rw [s3, x3, pk_lEQ (by omega) (by omega)] at k1
      omega
end
