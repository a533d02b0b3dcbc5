/-! the constructor on both sides -/
section
variable {x_objectLimit x_stepLimit x_depthLimit x_pendingCount x_keptTokens x_keptLines x_lineCount x_codeCount x_cursor x_stop x_waitingCount x_openCount x_classCount x_callCount x_operandCount x_stepsTaken x_error x_raisedCode x_printCount x_lastPlace : Int32} {x_lastResult : Int64} {x_pending x_lineTable x_orders x_merging x_letterClass x_objectClass x_calls x_lastPrints : Nat → Int32} {x_code x_waiting x_globals x_entries x_attributes x_held x_operands : Nat → Int64}
variable {y_maxObjects y_maxSteps y_maxDepth y_kept y_end y_tokens y_pending y_lines y_classes y_prints y_place y_steps y_d y_valTop y_opTop y_opens y_pos y_tk y_tv y_stmt y_target y_err y_code y_outcome y_dry y_want y_starting y_ended y_bad y_hosted y_sawSuper : Int32} {y_result : Int64} {y_text y_numbers y_classOf y_alive y_orders y_lengths y_letters y_bases y_ops y_fLine y_fPos y_fStmt y_fTarget y_fMask y_fHome y_fOps y_fVals y_fNew y_out : Nat → Int32} {y_globals y_entries y_attrs y_vals y_locals y_fRecv : Nat → Int64}
variable {tx nu LT : Nat → Int32} {cd : Nat → Int64} {lc kp cc : Nat} {P ind h : Nat → Nat} {tk : Nat → List Nat} {ca cb us ue : Nat → Nat} {yk yen yto ype yli : Int32} {mo mS mD : Nat} {ho : Bool}
variable {s d vt cn : Nat} {ml : Nat → List Nat} {gl ex at1 HE op : Nat → Int64} {ox oc lt lp CL mg : Nat → Int32} {pc rc : Int32} {fl dl vb ob : Nat → Nat} {ts st : Nat → List Nat} {M : Nat}
theorem hs_exHv : ∀ c n, c < 10 → n < 26 → hs_v0 (hs_exH (c * 26 + n)) ∨ ∃ l, hs_df hs_hH 5 l ∧ l < 1024 ∧ hs_PH l < 1024 ∧ hs_exH (c * 26 + n) = lN (17179869184 + l) := by
  intro c n hc hn
  unfold hs_exH
  by_cases z : c * 26 + n = 0 * 26 + 19
  · rw [z, pk_uLs]
    exact Or.inr ⟨3, ⟨by omega, rfl⟩, by omega, by decide, rfl⟩
  · rw [pk_uLn z]
    by_cases y : c * 26 + n = 0 * 26 + 7
    · rw [y, pk_uLs]
      exact Or.inr ⟨1, ⟨by omega, rfl⟩, by omega, by decide, rfl⟩
    · rw [pk_uLn y]; exact Or.inl (Or.inl rfl)
theorem hs_WXH {ox9 : Nat → Int32} (hr : ∀ k, k < 12 → ox9 (0 * 12 + k) = hs_gi (0 :: []) k) : hs_WX hs_PH hs_hH 5 1 (fun _ => [0]) (fun _ => 0) hs_exH (fun _ => 0) ox9 (fun _ => 0) hs_ltH := by
  refine ⟨⟨by omega, by omega⟩, by decide, fun n hn => Or.inl rfl, hs_exHv, fun j hj => Or.inl rfl, fun o ho => ?_, fun o ho => ⟨0, by omega, rfl⟩, fun n hn => ?_, fun c hc => ?_⟩
  · rw [hs_naZ 26 0 (fun _ _ _ => rfl)]; omega
  · unfold hs_ltH
    by_cases z : n = 23
    · subst z; exact Or.inr ⟨0, by omega, pk_us⟩
    · rw [pk_un z]; exact Or.inl (if_pos hn)
  · have : c = 0 := by omega
    subst this
    refine ⟨by simp, by simp, hr, fun m hm => ?_⟩
    have : m = 0 := by simpa using hm
    omega
theorem hs_xCl {p : Int32} {lo hi : Nat} (h1 : lo ≤ hi) (h2 : hi < 2 ^ 31) {post : Int32 → Prop} (H : post (nI (hs_cl p lo hi))) : wpX_clamp post p (nI lo) (nI hi) := hs_clP h1 h2 H
theorem hs_exX {post : SX → Prop} {n : Nat} (h : hs_lX post n (nI 0) (x_objectLimit, x_stepLimit, x_depthLimit, x_pendingCount, x_keptTokens, x_keptLines, x_lineCount, x_codeCount, x_cursor, x_stop, x_waitingCount, x_openCount, x_classCount, x_callCount, x_operandCount, x_stepsTaken, x_error, x_raisedCode, x_printCount, x_lastResult, x_lastPlace, x_pending, x_lineTable, x_code, x_waiting, x_globals, x_entries, x_orders, x_merging, x_letterClass, x_objectClass, x_attributes, x_calls, x_held, x_operands, x_lastPrints)) : wpX_execute post (x_objectLimit, x_stepLimit, x_depthLimit, x_pendingCount, x_keptTokens, x_keptLines, x_lineCount, x_codeCount, x_cursor, x_stop, x_waitingCount, x_openCount, x_classCount, x_callCount, x_operandCount, x_stepsTaken, x_error, x_raisedCode, x_printCount, x_lastResult, x_lastPlace, x_pending, x_lineTable, x_code, x_waiting, x_globals, x_entries, x_orders, x_merging, x_letterClass, x_objectClass, x_attributes, x_calls, x_held, x_operands, x_lastPrints) := ⟨n, h⟩
theorem hs_yInit {post : SY → Prop} {k0 k1 k2 : Int32} (H : ∃ n : Nat, wY_init_292 post (nI (hs_cl k0 2 8)) (nI (hs_cl k1 20 200)) (nI (hs_cl k2 2 6)) 0 0 0 0 0 0 0 0 0 0 0 0 0 0 0 0 0 0 0 0 0 0 0 0 0 0 0 0 0 n 0 (fun _ => 0) (fun _ => 0) (fun _ => 0) (fun _ => 0) (fun _ => 0) (fun _ => 0) (fun _ => 0) (fun _ => 0) (fun _ => 0) (fun _ => 0) (fun _ => 0) (fun _ => 0) (fun _ => 0) (fun _ => 0) (fun _ => 0) (fun _ => 0) (fun _ => 0) (fun _ => 0) (fun _ => 0) (fun _ => 0) (fun _ => 0) (fun _ => 0) (fun _ => 0) (fun _ => 0) (fun _ => 0)) : wpY_init post k0 k1 k2 := by
  unfold wpY_init
  refine hs_clP (p := k0) (lo := 2) (hi := 8) (post := fun r => wY_init_232 post k1 k2 r 0 0 0 0 0 0 0 0 0 0 0 0 0 0 0 0 0 0 0 0 0 0 0 0 0 0 0 0 0 0 0 0 (fun _ => 0) (fun _ => 0) (fun _ => 0) (fun _ => 0) (fun _ => 0) (fun _ => 0) (fun _ => 0) (fun _ => 0) (fun _ => 0) (fun _ => 0) (fun _ => 0) (fun _ => 0) (fun _ => 0) (fun _ => 0) (fun _ => 0) (fun _ => 0) (fun _ => 0) (fun _ => 0) (fun _ => 0) (fun _ => 0) (fun _ => 0) (fun _ => 0) (fun _ => 0) (fun _ => 0) (fun _ => 0)) (by omega) (by omega) ?_
  unfold wY_init_232
  refine hs_clP (p := k1) (lo := 20) (hi := 200) (post := fun r => wY_init_261 post k2 r (nI (hs_cl k0 2 8)) 0 0 0 0 0 0 0 0 0 0 0 0 0 0 0 0 0 0 0 0 0 0 0 0 0 0 0 0 0 0 0 (fun _ => 0) (fun _ => 0) (fun _ => 0) (fun _ => 0) (fun _ => 0) (fun _ => 0) (fun _ => 0) (fun _ => 0) (fun _ => 0) (fun _ => 0) (fun _ => 0) (fun _ => 0) (fun _ => 0) (fun _ => 0) (fun _ => 0) (fun _ => 0) (fun _ => 0) (fun _ => 0) (fun _ => 0) (fun _ => 0) (fun _ => 0) (fun _ => 0) (fun _ => 0) (fun _ => 0) (fun _ => 0)) (by omega) (by omega) ?_
  unfold wY_init_261
  exact hs_clP (p := k2) (lo := 2) (hi := 6) (post := fun r => ∃ n : Nat, wY_init_292 post (nI (hs_cl k0 2 8)) (nI (hs_cl k1 20 200)) r 0 0 0 0 0 0 0 0 0 0 0 0 0 0 0 0 0 0 0 0 0 0 0 0 0 0 0 0 0 n 0 (fun _ => 0) (fun _ => 0) (fun _ => 0) (fun _ => 0) (fun _ => 0) (fun _ => 0) (fun _ => 0) (fun _ => 0) (fun _ => 0) (fun _ => 0) (fun _ => 0) (fun _ => 0) (fun _ => 0) (fun _ => 0) (fun _ => 0) (fun _ => 0) (fun _ => 0) (fun _ => 0) (fun _ => 0) (fun _ => 0) (fun _ => 0) (fun _ => 0) (fun _ => 0) (fun _ => 0) (fun _ => 0)) (by omega) (by omega) H
theorem i_vc0 (k0 : Int32) (k1 : Int32) (k2 : Int32) : wpX_init (fun u => wpY_init (fun v => i_Rel 3 u v) k0 k1 k2) k0 k1 k2 := by
  have bb0 := hs_clV (p := k0) (lo := 2) (hi := 8) (by omega) (by omega)
  have bb1 := hs_clV (p := k1) (lo := 20) (hi := 200) (by omega) (by omega)
  have bb2 := hs_clV (p := k2) (lo := 2) (hi := 6) (by omega) (by omega)
  suffices hh : ∀ Q : SX → Prop, (∀ u, wpY_init (fun v => i_Rel 3 u v) k0 k1 k2 → Q u) → wpX_init Q k0 k1 k2 from hh _ (fun _ h => h)
  intro Q hQ
  unfold wpX_init
  refine hs_xCl (lo := 2) (hi := 8) (by omega) (by omega) ?_
  refine hs_xCl (lo := 20) (hi := 200) (by omega) (by omega) ?_
  refine hs_xCl (lo := 2) (hi := 6) (by omega) (by omega) ?_
  refine ⟨27, hs_xIni 26 0 _ hs_l260 (by omega) ?_⟩
  refine br_t (by decide) ?_
  refine hs_xHost ?_
  refine hs_xKeepW (tx := hs_txH) (cs := 0) (pn := 43) (kt := 0) (kl := 0) (a := 0) (cc0 := 0) hs_PDH (by decide) (by omega) (Or.inl rfl) (by omega) (by omega) (by omega) (by omega) (fun b9 P9 ind9 h9 tk9 lb1 lb2 C K hl i i1 i2 nl al q1 q2 q3 q4 q5 LT' cd' eL ec => ?_) (fun b9 P9 ind9 h9 tk9 lb1 lb2 C K hl al ne q1 q2 q3 q4 q5 LT' cd' eL ec => ?_) (fun b9 P9 ind9 h9 tk9 lb1 lb2 C K hl al eo q1 q2 q3 q4 q5 LT9 cd9 cc9 g1 g2 eL ec LN => ?_)
  · obtain ⟨rfl, hP, S⟩ := hs_hostL hs_hostS hs_hostTA hs_hostInd C K
    exact absurd (hs_lokC S (Nat.zero_le _) i2 (hs_hostLok i i2)) nl
  · obtain ⟨rfl, hP, S⟩ := hs_hostL hs_hostS hs_hostTA hs_hostInd C K
    exact absurd (hs_eokC S hs_hostEok) ne
  have hL := hs_hostL hs_hostS hs_hostTA hs_hostInd C K
  have T0 := hs_hostT (nu := fun p => nI (0 + (hs_nE hs_txH 0 p + 1))) C K (by omega) LN (fun j hj => by rw [← hL.2.1 j hj]; exact ((LN j (Nat.zero_le _) (by rw [hL.1]; exact hj)).2).symm)
  obtain ⟨rfl, hP, S⟩ := hL
  have m20 := bb1.1
  have m200 := bb1.2
  generalize hmS : hs_cl k1 20 200 = mS9 at *
  obtain ⟨c0, r0, a9, a10, a3, a4, a5, a6, _, a8⟩ := hs_wordF T0 (l := 0) (by omega) (Or.inl rfl)
  obtain ⟨c1, r1, d9, d10, d3, d4, d5, d6, d7, _⟩ := hs_wordF T0 (l := 1) (by omega) (Or.inr (Or.inl rfl))
  obtain ⟨c3, r3, e9, e10, e3, e4, e5, e6, e7, _⟩ := hs_wordF T0 (l := 3) (by omega) (Or.inr (Or.inl rfl))
  have f1 : LT9 (1 * 14 + 5) = nI 7 := by
    obtain ⟨n, a, hn, ha, hf, hs, hr⟩ := d7 rfl
    have er : [107, 21, 118, 23, 123, 22, 25] = r1 := List.tail_eq_of_cons_eq d4
    rw [← er] at hr
    rcases hr with ⟨h1, _⟩ | ⟨b, _, _, h1, _⟩
    · cases h1
    · have : 107 = n := List.head_eq_of_cons_eq h1
      rw [hf, ← this]
  have f3 : LT9 (3 * 14 + 5) = nI 19 := by
    obtain ⟨n, a, hn, ha, hf, hs, hr⟩ := e7 rfl
    have er : [119, 21, 118, 23, 123, 22, 25] = r3 := List.tail_eq_of_cons_eq e4
    rw [← er] at hr
    rcases hr with ⟨h1, _⟩ | ⟨b, _, _, h1, _⟩
    · cases h1
    · have : 119 = n := List.head_eq_of_cons_eq h1
      rw [hf, ← this]
  have fc : LT9 (0 * 14 + 5) = nI 23 ∧ LT9 (0 * 14 + 6) = hs_oI none ∧ LT9 (0 * 14 + 7) = hs_oI none := by
    obtain ⟨c, hc, hf, hr⟩ := a8 rfl
    have er : [153, 25] = r0 := List.tail_eq_of_cons_eq a4
    rw [← er] at hr
    rcases hr with ⟨h1, h2, h3⟩ | ⟨a, _, h1, _⟩ | ⟨a, b, _, _, h1, _⟩
    · have : 153 = c := List.head_eq_of_cons_eq h1
      rw [← this] at hf
      exact ⟨hf, h2, h3⟩
    · cases h1
    · cases h1
  have es : ∀ s, s < 20 → hs_sx mS9 s = nI (s + 1) := fun s hs => if_pos (by omega)
  have ee : ∀ s, s < 20 → hs_e9 mS9 s = 0 := fun s hs => if_pos (by omega)
  refine nm_e (nm_e (nm_e (br_f (by decide) (hs_xReach (d := 0) (l := 0) (s := 0) (by omega) (by omega) (by omega) m200 ?_))))
  rw [es 0 (by omega), ee 0 (by omega)]
  refine hs_exX (n := 4) (hs_xT0 (i9 := 0) (l := 0) (by omega) (by omega) a9 a10 a3 ?_)
  refine nm_r (pk_mul 0 14) ?_
  rw [Int32.add_zero, nI_clamp (show 0 * 14 < 2 ^ 31 by omega)]
  refine And.intro (vp_in_nI (by omega) (by decide)) (nm_r a5 (br_f (by decide) (br_f (by decide) (br_t rfl ?_))))
  refine hs_xClass (cn := 0) (ml := fun _ => []) (l := 0) (f := 23) (sL := none) (tL := none) (by omega) fc.1 (by omega) fc.2.1 fc.2.2 (fun _ => rfl) (Or.inr ⟨none, Or.inl ⟨rfl, rfl⟩⟩) (Or.inr ⟨none, Or.inl ⟨rfl, rfl⟩⟩) (fun c hc => by omega) (by omega) (fun b => ?_) (fun fo so b1 b2 q => ?_) (fun fo so l' b1 b2 q c10 => by omega) (fun fo so l' b1 b2 q c10 ox9 mg9 ho hr => ?_)
  · rcases b with ⟨q, h, _⟩ | ⟨q, h, _⟩ <;> cases h
  · rcases b1 with ⟨_, rfl⟩ | ⟨q, c, h, _⟩
    · rcases b2 with ⟨_, rfl⟩ | ⟨q, c, h, _⟩
      · cases q
      · cases h
    · cases h
  have el : [] = l' := by
    rcases b1 with ⟨_, rfl⟩ | ⟨q, c, h, _⟩
    · rcases b2 with ⟨_, rfl⟩ | ⟨q, c, h, _⟩
      · exact Option.some.inj q
      · cases h
    · cases h
  subst el
  refine hs_xReach (d := 0) (l := 0 + 1) (s := 1) (by omega) (by omega) (by omega) m200 (hs_lXnI ?_)
  rw [es 1 (by omega), ee 1 (by omega)]
  refine hs_xT0 (i9 := 1) (l := 1) (by omega) (by omega) d9 d10 d3 (hs_xDef0 (f := 7) (by omega) d5 f1 (by omega) ?_)
  refine hs_xGoOn T0 (l := 1) (by omega) (fun _ => rfl) (fun z => by cases z) (fun m e => ?_)
  have em : 3 = m := Option.some.inj e
  subst em
  refine hs_xReach (d := 0) (l := 3) (s := 1 + 1) (by omega) (by omega) (by omega) m200 (hs_lXnI ?_)
  rw [es (1 + 1) (by omega), ee (1 + 1) (by omega)]
  refine hs_xT0 (i9 := 1 + 1) (l := 3) (by omega) (by omega) e9 e10 e3 (hs_xDef0 (f := 19) (by omega) e5 f3 (by omega) ?_)
  refine hs_xGoOn T0 (l := 3) (by omega) (fun _ => rfl) (fun _ => hs_xLeave0 (hs_lXnI ?_)) (fun m e => by cases e)
  refine br_f (by decide) (nm_r (show ((1 : Int32) - 1) * 6 = 0 by decide) (And.intro (pk_in 2 42 (by omega) (by decide)) (nm_r (show upd _ 2 (-1) ((0 : Int32) + 2).toNatClampNeg = -1 from pk_us) (br_t rfl (br_t rfl ?_)))))
  show wpX_finish _ _
  unfold wpX_finish
  refine hs_xOpd0 (fun v h0 _ => ?_)
  rw [h0 rfl]
  refine br_t rfl (hs_xShown (hs_rvV (Or.inl rfl)) ?_)
  unfold wX_finish_56
  refine ⟨6, hs_xForget (LT0 := LT9) (fun LT2 z1 z2 => ?_) 5 0 LT9 (by omega) (fun j hj => by omega) (fun _ _ => rfl)⟩
  have T1 : hs_T hs_txH (fun _ => 0) LT2 cd9 5 44 cc9 hs_PH hs_iH hs_hH hs_tkH (fun _ => 0) (fun _ => 5) (fun _ => 0) (fun _ => 43) := by
    obtain ⟨u1, u2, u3, u4⟩ := T0
    refine ⟨u1, u2, u3, fun j hj => ?_⟩
    obtain ⟨t1, t2, t3, t4, t5, t6, t7, t8, t9, t10, t11⟩ := u4 j hj
    exact ⟨t1, t2, t3, t4, t5, t6, t7, hs_LN2 z2 hj t8, t9, t10, (z1 j hj).symm⟩
  refine hQ _ (hs_yInit ?_)
  rw [hmS]
  refine ⟨27, hs_yIni 26 0 _ hs_l260 (by omega) ?_⟩
  refine br_t (by decide) ?_
  have hd := hs_hostD
  refine hs_y5w [1, 153, 25, 41, 2] _ 0 hd.1 (by decide) ?_
  refine hs_y5w [107, 21, 118, 23, 123] _ 5 hd.2.1 (by decide) ?_
  refine hs_y5w [22, 25, 42, 3, 123] _ 10 hd.2.2.1 (by decide) ?_
  refine hs_y5w [31, 1002, 41, 2, 119] _ 15 hd.2.2.2.1 (by decide) ?_
  refine hs_y5w [21, 118, 23, 123, 22] _ 20 hd.2.2.2.2.1 (by decide) ?_
  refine hs_y5w [25, 42, 3, 118, 24] _ 25 hd.2.2.2.2.2.1 (by decide) ?_
  refine hs_y5w [107, 21, 123, 22, 30] _ 30 hd.2.2.2.2.2.2.1 (by decide) ?_
  refine hs_y5w [118, 24, 107, 21, 123] _ 35 hd.2.2.2.2.2.2.2.1 (by decide) ?_
  refine hs_y5w [30, 1001, 22] _ 40 hd.2.2.2.2.2.2.2.2 (by decide) ?_
  refine nm_r (nI_1 43) (And.intro (pk_in 43 1024 (by omega) (by decide)) (nm_r (show _ = hs_txH from rfl) (hs_yBegin (d := 0) (by omega) ?_)))
  refine ⟨5, hs_yGo0 m20 m200 T1 pk_us (fun oy le ba fLi s1 s2 s3 s4 s5 s9 OY => ?_)⟩
  have mc : ∀ c, c < 1 → c ∈ (fun _ => [0] : Nat → List Nat) c := fun c hc => by
    have : c = 0 := by omega
    subst this
    exact List.mem_cons_self ..
  exact ⟨hs_txH, fun _ => 0, LT2, hs_pdH, cd9, 5, 44, cc9, hs_PH, hs_iH, hs_hH, hs_tkH, fun _ => 0, fun _ => 5, fun _ => 0, fun _ => 43, 1, fun _ => [0], fun _ => 0, hs_exH, fun _ => 0, fun _ => 0, ox9, fun _ => 0, hs_ltH, fun _ => 0, hs_cl k0 2 8, mS9, hs_cl k2 2 6, 0, 0, 0, 0, 0, 0, 0, 0, ⟨T1, hs_WXH hr, mc, fun _ _ => rfl, fun p hp => by omega, ⟨by omega, by decide⟩, Or.inl rfl, ⟨bb0.1, bb0.2, m200, bb2.2⟩, ⟨by omega, by omega, by omega, by omega, by omega⟩⟩, ⟨rfl, rfl, rfl, rfl, rfl, rfl, rfl, rfl, rfl, rfl, rfl, rfl, rfl, rfl, rfl, rfl, rfl, rfl, rfl, rfl, rfl, rfl, rfl, rfl, rfl, rfl⟩, ⟨⟨rfl, rfl, rfl, rfl, rfl, rfl, rfl, rfl, rfl, rfl, rfl, rfl, rfl, rfl, rfl, rfl, rfl, rfl, rfl, fun _ _ => rfl, rfl, rfl, rfl, rfl, rfl⟩, hs_EEH ⟨by omega, rfl⟩ ⟨by omega, rfl⟩, OY, fun _ _ => rfl, rfl, rfl, rfl⟩⟩
end
