/-! Y's text: lines, indents, blocks -/
section
variable {x_objectLimit x_stepLimit x_depthLimit x_pendingCount x_keptTokens x_keptLines x_lineCount x_codeCount x_cursor x_stop x_waitingCount x_openCount x_classCount x_callCount x_operandCount x_stepsTaken x_error x_raisedCode x_printCount x_lastPlace : Int32} {x_lastResult : Int64} {x_pending x_lineTable x_orders x_merging x_letterClass x_objectClass x_calls x_lastPrints : Nat → Int32} {x_code x_waiting x_globals x_entries x_attributes x_held x_operands : Nat → Int64}
variable {y_maxObjects y_maxSteps y_maxDepth y_kept y_end y_tokens y_pending y_lines y_classes y_prints y_place y_steps y_d y_valTop y_opTop y_opens y_pos y_tk y_tv y_stmt y_target y_err y_code y_outcome y_dry y_want y_starting y_ended y_bad y_hosted y_sawSuper : Int32} {y_result : Int64} {y_text y_numbers y_classOf y_alive y_orders y_lengths y_letters y_bases y_ops y_fLine y_fPos y_fStmt y_fTarget y_fMask y_fHome y_fOps y_fVals y_fNew y_out : Nat → Int32} {y_globals y_entries y_attrs y_vals y_locals y_fRecv : Nat → Int64}
def hs_g (tx : Nat → Int32) (p : Nat) : Nat := (tx p).toNatClampNeg
def hs_en (t : Nat) : Prop := t = 0 ∨ (40 ≤ t ∧ t ≤ 48)
def hs_okc (x : Int32) : Prop := x = -1 ∨ ∃ t : Nat, 0 < t ∧ t < 2 ^ 31 ∧ x = nI t
theorem hs_m1c : (-1 : Int32).toNatClampNeg = 0 := by decide
theorem hs_okcE {x : Int32} (h : hs_okc x) : (x.toNatClampNeg = 0 ∧ x = -1) ∨ (0 < x.toNatClampNeg ∧ x.toNatClampNeg < 2 ^ 31 ∧ x = nI x.toNatClampNeg) := by
  rcases h with rfl | ⟨t, h0, h1, rfl⟩
  · exact Or.inl ⟨hs_m1c, rfl⟩
  · rw [nI_clamp h1]
    exact Or.inr ⟨h0, h1, rfl⟩
theorem hs_yends {post : Int32 → Prop} {x : Int32} (hx : hs_okc x) (h1 : hs_en x.toNatClampNeg → post 1) (h0 : ¬ hs_en x.toNatClampNeg → post 0) : wpY_ends post (y_maxObjects, y_maxSteps, y_maxDepth, y_kept, y_end, y_tokens, y_pending, y_lines, y_classes, y_prints, y_place, y_steps, y_d, y_valTop, y_opTop, y_opens, y_pos, y_tk, y_tv, y_stmt, y_target, y_err, y_code, y_outcome, y_result, y_dry, y_want, y_starting, y_ended, y_bad, y_hosted, y_sawSuper, y_text, y_numbers, y_globals, y_entries, y_attrs, y_classOf, y_alive, y_orders, y_lengths, y_letters, y_bases, y_vals, y_ops, y_locals, y_fRecv, y_fLine, y_fPos, y_fStmt, y_fTarget, y_fMask, y_fHome, y_fOps, y_fVals, y_fNew, y_out) x := by
  rcases hs_okcE hx with ⟨e0, rfl⟩ | ⟨p0, pl, e⟩
  · exact br_t (by decide) (h1 (by rw [hs_m1c]; exact Or.inl rfl))
  · generalize x.toNatClampNeg = t at *
    subst e
    refine br_f (nI_pos pl) ?_
    refine pk_lt t 40 (fun h => h0 ?_) (fun h => pk_lt 48 t (fun h' => h0 ?_) (fun h' => h1 ?_))
    · rintro (z | z) <;> omega
    · rintro (z | z) <;> omega
    · exact Or.inr ⟨h, h'⟩
def hs_nx (tx : Nat → Int32) (q : Nat) : Int32 := if hs_g tx q = 0 then -1 else nI (q + 1)
def hs_ok (tx : Nat → Int32) (cs ce : Nat) : Prop := ce < 1024 ∧ hs_g tx ce = 0 ∧ ∀ p, cs ≤ p → p ≤ ce → hs_okc (tx p)
def hs_nl (tx : Nat → Int32) (ce p q : Nat) : Prop := p ≤ q ∧ q ≤ ce ∧ hs_en (hs_g tx q) ∧ ∀ j, p ≤ j → j < q → ¬ hs_en (hs_g tx j)
theorem hs_nlEx {tx : Nat → Int32} {cs ce : Nat} (H : hs_ok tx cs ce) {p : Nat} (h2 : p ≤ ce) : ∃ q, hs_nl tx ce p q := by
  obtain ⟨hc, h0, hok⟩ := H
  obtain ⟨k, ⟨k1, k2⟩, k3⟩ := pk_least (fun q => p ≤ q ∧ hs_en (hs_g tx q)) ⟨ce, h2, Or.inl h0⟩
  refine ⟨k, k1, ?_, k2, fun j j1 j2 z => k3 j j2 ⟨j1, z⟩⟩
  rcases Nat.lt_or_ge ce k with z | z
  · exact absurd ⟨h2, Or.inl h0⟩ (k3 ce z)
  · exact z
theorem hs_yNL0 {tx : Nat → Int32} {cs ce q : Nat} (H : hs_ok tx cs ce) (hq : q ≤ ce) (he : hs_en (hs_g tx q)) {post : Int32 → Prop} (hpost : post (hs_nx tx q)) : ∀ k p, p + k = q → cs ≤ p → (∀ j, p ≤ j → j < q → ¬ hs_en (hs_g tx j)) → wY_nextLine_2 post y_maxObjects y_maxSteps y_maxDepth y_kept y_end y_tokens y_pending y_lines y_classes y_prints y_place y_steps y_d y_valTop y_opTop y_opens y_pos y_tk y_tv y_stmt y_target y_err y_code y_outcome y_result y_dry y_want y_starting y_ended y_bad y_hosted y_sawSuper tx y_numbers y_globals y_entries y_attrs y_classOf y_alive y_orders y_lengths y_letters y_bases y_vals y_ops y_locals y_fRecv y_fLine y_fPos y_fStmt y_fTarget y_fMask y_fHome y_fOps y_fVals y_fNew y_out (k + 1) (nI p) := by
  obtain ⟨hc, h0, hok⟩ := H
  intro k
  induction k with
  | zero =>
    intro p hp hcs _
    have e : p = q := by omega
    subst e
    refine And.intro (vp_in_nI (by omega) (by decide)) ?_
    rw [nI_clamp (show p < 2 ^ 31 by omega)]
    refine hs_yends (hok p hcs hq) (fun _ => br_f (by decide) (And.intro (vp_in_nI (by omega) (by decide)) ?_)) (fun z => absurd he z)
    rcases hs_okcE (hok p hcs (by omega)) with ⟨z, e⟩ | ⟨z, zl, e⟩
    · have h2 : hs_nx tx p = -1 := if_pos z
      rw [h2] at hpost
      rw [e]
      exact br_f (by decide) hpost
    · have h2 : hs_nx tx p = nI (p + 1) := if_neg (by unfold hs_g; omega)
      rw [h2] at hpost
      rw [e]
      refine br_t (nI_pos' zl) ?_
      rw [nI_1]
      exact hpost
  | succ k ih =>
    intro p hp hcs hj
    refine And.intro (vp_in_nI (by omega) (by decide)) ?_
    rw [nI_clamp (show p < 2 ^ 31 by omega)]
    exact hs_yends (hok p hcs (by omega)) (fun z => absurd z (hj p (Nat.le_refl _) (by omega))) (fun _ => br_t rfl (nm_r (nI_1 p) (ih (p + 1) (by omega) (by omega) (fun j j1 j2 => hj j (by omega) j2))))
theorem hs_yNL {tx : Nat → Int32} {cs ce p q : Nat} (H : hs_ok tx cs ce) (h1 : cs ≤ p) (hq : hs_nl tx ce p q) {post : Int32 → Prop} (hpost : post (hs_nx tx q)) : wpY_nextLine post (y_maxObjects, y_maxSteps, y_maxDepth, y_kept, y_end, y_tokens, y_pending, y_lines, y_classes, y_prints, y_place, y_steps, y_d, y_valTop, y_opTop, y_opens, y_pos, y_tk, y_tv, y_stmt, y_target, y_err, y_code, y_outcome, y_result, y_dry, y_want, y_starting, y_ended, y_bad, y_hosted, y_sawSuper, tx, y_numbers, y_globals, y_entries, y_attrs, y_classOf, y_alive, y_orders, y_lengths, y_letters, y_bases, y_vals, y_ops, y_locals, y_fRecv, y_fLine, y_fPos, y_fStmt, y_fTarget, y_fMask, y_fHome, y_fOps, y_fVals, y_fNew, y_out) (nI p) := by
  obtain ⟨a, b, c, d⟩ := hq
  exact ⟨_, hs_yNL0 H b c hpost (q - p) p (by omega) h1 d⟩
/-- a chunk of the text: [cs, ce) with its end at ce; lines a .. b - 1 at P -/
def hs_ind (tx : Nat → Int32) (cs p : Nat) : Nat := if p = cs then 0 else hs_g tx (p - 1) - 40
def hs_ls (tx : Nat → Int32) (cs p : Nat) : Prop := p = cs ∨ hs_en (hs_g tx (p - 1))
def hs_Ch (tx : Nat → Int32) (cs ce a b : Nat) (P ind : Nat → Nat) : Prop :=
  hs_ok tx cs ce ∧ (∀ p, cs ≤ p → p < ce → hs_g tx p ≠ 0) ∧ (cs = 0 ∨ tx (cs - 1) = -1) ∧
  (∀ i, a ≤ i → i < b → cs ≤ P i ∧ P i < ce ∧ ¬ hs_en (hs_g tx (P i)) ∧ hs_ls tx cs (P i) ∧ ind i = hs_ind tx cs (P i)) ∧
  (∀ i j, a ≤ i → i < j → j < b → P i < P j) ∧
  (∀ p, cs ≤ p → p < ce → ¬ hs_en (hs_g tx p) → hs_ls tx cs p → ∃ i, a ≤ i ∧ i < b ∧ P i = p)
theorem hs_adv {tx : Nat → Int32} {cs ce a b q q2 : Nat} {P ind : Nat → Nat} (C : hs_Ch tx cs ce a b P ind) (h1 : cs ≤ q) (hq : hs_nl tx ce q q2) :
    (hs_g tx q2 = 0 ∧ q2 = ce ∧ ∀ j, a ≤ j → j < b → P j ≤ q) ∨ (hs_g tx q2 ≠ 0 ∧ q2 < ce ∧ q ≤ q2 ∧ hs_ls tx cs (q2 + 1) ∧ ∀ j, a ≤ j → j < b → P j ≤ q ∨ q2 + 1 ≤ P j) := by
  obtain ⟨⟨hc, h0, hok⟩, hnz, hcs, hP, hm, hall⟩ := C
  obtain ⟨q1, q3, q4, q5⟩ := hq
  have key : ∀ j, a ≤ j → j < b → P j ≤ q ∨ q2 + 1 ≤ P j := by
    intro j ja jb
    obtain ⟨p1, p2, p3, p4, p5⟩ := hP j ja jb
    rcases Nat.lt_or_ge q (P j) with z | z
    · right
      rcases p4 with p4 | p4
      · omega
      · rcases Nat.lt_or_ge (P j - 1) q2 with y | y
        · exact absurd p4 (q5 (P j - 1) (by omega) y)
        · omega
    · exact Or.inl z
  by_cases hz : hs_g tx q2 = 0
  · left
    have e : q2 = ce := by
      rcases Nat.lt_or_ge q2 ce with z | z
      · exact absurd hz (hnz q2 (by omega) z)
      · omega
    refine ⟨hz, e, fun j ja jb => ?_⟩
    rcases key j ja jb with z | z
    · exact z
    · have := (hP j ja jb).2.1
      omega
  · right
    refine ⟨hz, ?_, q1, Or.inr ?_, key⟩
    · rcases Nat.lt_or_ge q2 ce with z | z
      · exact z
      · have e : q2 = ce := by omega
        subst e
        exact absurd h0 hz
    · rw [Nat.add_sub_cancel]
      exact q4
theorem hs_indLe {tx : Nat → Int32} {cs ce a b j : Nat} {P ind : Nat → Nat} (C : hs_Ch tx cs ce a b P ind) (ja : a ≤ j) (jb : j < b) : ind j ≤ 8 := by
  obtain ⟨⟨hc, h0, hok⟩, hnz, hcs, hP, hm, hall⟩ := C
  obtain ⟨p1, p2, p3, p4, p5⟩ := hP j ja jb
  rw [p5]
  unfold hs_ind
  split
  · omega
  · rename_i z
    have h1 := p4.resolve_left z
    have h2 := h1.resolve_left (hnz (P j - 1) (by omega) (by omega))
    omega
theorem hs_yIndent {tx : Nat → Int32} {cs ce a b p : Nat} {P ind : Nat → Nat} (C : hs_Ch tx cs ce a b P ind) (h1 : cs ≤ p) (h2 : p ≤ ce) (hl : hs_ls tx cs p) {post : Int32 → Prop} (hpost : post (nI (hs_ind tx cs p))) : wpY_indent post (y_maxObjects, y_maxSteps, y_maxDepth, y_kept, y_end, y_tokens, y_pending, y_lines, y_classes, y_prints, y_place, y_steps, y_d, y_valTop, y_opTop, y_opens, y_pos, y_tk, y_tv, y_stmt, y_target, y_err, y_code, y_outcome, y_result, y_dry, y_want, y_starting, y_ended, y_bad, y_hosted, y_sawSuper, tx, y_numbers, y_globals, y_entries, y_attrs, y_classOf, y_alive, y_orders, y_lengths, y_letters, y_bases, y_vals, y_ops, y_locals, y_fRecv, y_fLine, y_fPos, y_fStmt, y_fTarget, y_fMask, y_fHome, y_fOps, y_fVals, y_fNew, y_out) (nI p) := by
  obtain ⟨⟨hc, h0, hok⟩, hnz, hcs, hP, hm, hall⟩ := C
  by_cases ep : p = 0
  · subst ep
    have e : hs_ind tx cs 0 = 0 := if_pos (by omega)
    rw [e] at hpost
    exact br_t (by decide) hpost
  · obtain ⟨r, rfl⟩ : ∃ r, p = r + 1 := ⟨p - 1, by omega⟩
    refine br_f (nI_nle (by omega) (by omega)) ?_
    rw [nI_pred, nI_clamp (show r < 2 ^ 31 by omega)]
    refine And.intro (vp_in_nI (by omega) (by decide)) ?_
    by_cases e : r + 1 = cs
    · have e2 : hs_ind tx cs (r + 1) = 0 := if_pos e
      rw [e2] at hpost
      have e3 : tx r = -1 := by
        rcases hcs with z | z
        · omega
        · rw [← e] at z; exact z
      rw [e3]
      exact br_t (by decide) hpost
    · have e2 : hs_ind tx cs (r + 1) = hs_g tx r - 40 := if_neg e
      have hen : hs_en (hs_g tx r) := hl.resolve_left e
      have hne := hnz r (by omega) (by omega)
      have hr : 40 ≤ hs_g tx r ∧ hs_g tx r ≤ 48 := hen.resolve_left hne
      rw [e2] at hpost
      rcases hs_okcE (hok r (by omega) (by omega)) with ⟨z, _⟩ | ⟨z, zl, e4⟩
      · exact absurd z hne
      · refine br_f ?_ (And.intro (vp_in_nI (by omega) (by decide)) (hs_yends (hok r (by omega) (by omega)) (fun _ => br_f (by decide) (And.intro (vp_in_nI (by omega) (by decide)) ?_)) (fun y => absurd hen y)))
        · rw [e4]; exact nI_nle z zl
        · rw [e4]
          have e5 : nI (tx r).toNatClampNeg - 40 = nI ((tx r).toNatClampNeg - 40) := pk_sub (b := 40) hr.1
          rw [e5]
          exact hpost
/-- the first line behind i that is no deeper (out), or the next one -/
def hs_Fo (ind : Nat → Nat) (b : Nat) (out : Int32) (i e : Nat) : Prop := i < e ∧ e ≤ b ∧ (∀ j, i < j → j < e → out ≠ 0 ∧ ind i < ind j) ∧ (e < b → out = 0 ∨ ind e ≤ ind i)
def hs_at (P : Nat → Nat) (b e : Nat) : Int32 := if e < b then nI (P e) else -1
theorem hs_yFo0 {tx : Nat → Int32} {cs ce a b i e : Nat} {P ind : Nat → Nat} {out : Int32} (C : hs_Ch tx cs ce a b P ind) (hi : a ≤ i) (hib : i < b) (E : hs_Fo ind b out i e) {post : Int32 → Prop} (hpost : post (hs_at P b e)) :
    ∀ n q, ce + 2 ≤ n + q → P i < q → q ≤ ce → hs_ls tx cs q → (∀ j, i < j → j < b → e ≤ j → q ≤ P j) → wY_follow_6 post (nI (P i)) out y_maxObjects y_maxSteps y_maxDepth y_kept y_end y_tokens y_pending y_lines y_classes y_prints y_place y_steps y_d y_valTop y_opTop y_opens y_pos y_tk y_tv y_stmt y_target y_err y_code y_outcome y_result y_dry y_want y_starting y_ended y_bad y_hosted y_sawSuper tx y_numbers y_globals y_entries y_attrs y_classOf y_alive y_orders y_lengths y_letters y_bases y_vals y_ops y_locals y_fRecv y_fLine y_fPos y_fStmt y_fTarget y_fMask y_fHome y_fOps y_fVals y_fNew y_out n (nI q) := by
  have C' := C
  obtain ⟨⟨hc, h0, hok⟩, hnz, hcs, hP, hm, hall⟩ := C
  obtain ⟨E1, E2, E3, E4⟩ := E
  obtain ⟨pi1, pi2, pi3, pi4, pi5⟩ := hP i hi hib
  intro n
  induction n with
  | zero => intro q h1 h2 h3; omega
  | succ n ih =>
    intro q h1 h2 h3 hl hlow
    have step : ∀ (hne : ∀ j, i < j → j < b → e ≤ j → q ≠ P j), wY_follow_40 post (wY_follow_6 post (nI (P i)) out y_maxObjects y_maxSteps y_maxDepth y_kept y_end y_tokens y_pending y_lines y_classes y_prints y_place y_steps y_d y_valTop y_opTop y_opens y_pos y_tk y_tv y_stmt y_target y_err y_code y_outcome y_result y_dry y_want y_starting y_ended y_bad y_hosted y_sawSuper tx y_numbers y_globals y_entries y_attrs y_classOf y_alive y_orders y_lengths y_letters y_bases y_vals y_ops y_locals y_fRecv y_fLine y_fPos y_fStmt y_fTarget y_fMask y_fHome y_fOps y_fVals y_fNew y_out n) (nI (P i)) out (nI q) y_maxObjects y_maxSteps y_maxDepth y_kept y_end y_tokens y_pending y_lines y_classes y_prints y_place y_steps y_d y_valTop y_opTop y_opens y_pos y_tk y_tv y_stmt y_target y_err y_code y_outcome y_result y_dry y_want y_starting y_ended y_bad y_hosted y_sawSuper tx y_numbers y_globals y_entries y_attrs y_classOf y_alive y_orders y_lengths y_letters y_bases y_vals y_ops y_locals y_fRecv y_fLine y_fPos y_fStmt y_fTarget y_fMask y_fHome y_fOps y_fVals y_fNew y_out := by
      intro hne
      obtain ⟨q2, hq2⟩ := hs_nlEx ⟨hc, h0, hok⟩ (p := q) h3
      refine hs_yNL ⟨hc, h0, hok⟩ (by omega) hq2 ?_
      rcases hs_adv C' (by omega) hq2 with ⟨g0, g1, g2⟩ | ⟨g0, g1, g1', g2, g3⟩
      · have en : hs_nx tx q2 = -1 := if_pos g0
        rw [en]
        have eb : ¬ e < b := fun z => by
          have z1 := hlow e E1 z (Nat.le_refl _)
          have z2 := g2 e (by omega) z
          have z3 := hne e E1 z (Nat.le_refl _)
          omega
        have ea : hs_at P b e = -1 := if_neg eb
        rw [ea] at hpost
        obtain ⟨m, rfl⟩ : ∃ m, n = m + 1 := ⟨n - 1, by omega⟩
        exact br_t (by decide) hpost
      · have en : hs_nx tx q2 = nI (q2 + 1) := if_neg g0
        rw [en]
        refine ih (q2 + 1) (by omega) (by omega) (by omega) g2 (fun j j1 j2 j3 => ?_)
        have z1 := hlow j j1 j2 j3
        have z3 := hne j j1 j2 j3
        rcases g3 j (by omega) j2 with z | z
        · omega
        · exact z
    refine br_f (nI_pos (by omega)) (And.intro (vp_in_nI (by omega) (by decide)) ?_)
    rw [nI_clamp (show q < 2 ^ 31 by omega)]
    refine hs_yends (hok q (by omega) h3) (fun he => br_f (by decide) (step fun j j1 j2 _ z => ?_)) (fun he => br_t rfl ?_)
    · have := (hP j (by omega) j2).2.2.1
      rw [← z] at this
      exact this he
    · have hqc : q < ce := by
        rcases Nat.lt_or_ge q ce with z | z
        · exact z
        · have z2 : q = ce := by omega
          subst z2
          exact absurd (Or.inl h0) he
      obtain ⟨j, ja, jb, rfl⟩ := hall q (by omega) hqc he hl
      have hij : i < j := by
        rcases Nat.lt_or_ge i j with z | z
        · exact z
        · rcases Nat.lt_or_ge j i with y | y
          · have := hm j i ja y hib; omega
          · have y2 : j = i := by omega
            subst y2; omega
      rcases Nat.lt_or_ge j e with z | z
      · obtain ⟨o1, o2⟩ := E3 j hij z
        refine br_f o1 (hs_yIndent C' (by omega) h3 hl (hs_yIndent C' pi1 (by omega) pi4 ?_))
        rw [← pi5, ← (hP j ja jb).2.2.2.2]
        refine br_f (nI_ge o2 ?_) (step fun j' j1 j2 j3 y => ?_)
        · have := hs_indLe C' ja jb; omega
        · have := hm j j' ja (by omega) j2
          omega
      · have ej : j = e := by
          rcases Nat.lt_or_ge e j with y | y
          · have y1 := hlow e E1 (by omega) (Nat.le_refl _)
            have y2 := hm e j (by omega) y jb
            omega
          · omega
        subst ej
        have ea : hs_at P b j = nI (P j) := if_pos jb
        rw [ea] at hpost
        by_cases o : out = 0
        · exact br_t o hpost
        · have o2 := (E4 jb).resolve_left o
          refine br_f o (hs_yIndent C' (by omega) h3 hl (hs_yIndent C' pi1 (by omega) pi4 ?_))
          rw [← pi5, ← (hP j ja jb).2.2.2.2]
          exact br_t (nI_le o2 (by have := hs_indLe C' hi hib; omega)) hpost
theorem hs_yFollow {tx : Nat → Int32} {cs ce a b i e : Nat} {P ind : Nat → Nat} {out : Int32} (C : hs_Ch tx cs ce a b P ind) (hi : a ≤ i) (hib : i < b) (E : hs_Fo ind b out i e) {post : Int32 → Prop} (hpost : post (hs_at P b e)) : wpY_follow post (y_maxObjects, y_maxSteps, y_maxDepth, y_kept, y_end, y_tokens, y_pending, y_lines, y_classes, y_prints, y_place, y_steps, y_d, y_valTop, y_opTop, y_opens, y_pos, y_tk, y_tv, y_stmt, y_target, y_err, y_code, y_outcome, y_result, y_dry, y_want, y_starting, y_ended, y_bad, y_hosted, y_sawSuper, tx, y_numbers, y_globals, y_entries, y_attrs, y_classOf, y_alive, y_orders, y_lengths, y_letters, y_bases, y_vals, y_ops, y_locals, y_fRecv, y_fLine, y_fPos, y_fStmt, y_fTarget, y_fMask, y_fHome, y_fOps, y_fVals, y_fNew, y_out) (nI (P i)) out := by
  have C' := C
  obtain ⟨hok, hnz, hcs, hP, hm, hall⟩ := C
  obtain ⟨pi1, pi2, pi3, pi4, pi5⟩ := hP i hi hib
  obtain ⟨q2, hq2⟩ := hs_nlEx hok (p := P i) (by omega)
  refine hs_yNL hok pi1 hq2 ?_
  rcases hs_adv C' pi1 hq2 with ⟨g0, g1, g2⟩ | ⟨g0, g1, g1', g2, g3⟩
  · have en : hs_nx tx q2 = -1 := if_pos g0
    rw [en]
    have eb : ¬ e < b := fun z => by
      have z2 := g2 e (by have := E.1; omega) z
      have z3 := hm i e hi E.1 z
      omega
    have ea : hs_at P b e = -1 := if_neg eb
    rw [ea] at hpost
    exact ⟨1, br_t (by decide) hpost⟩
  · have en : hs_nx tx q2 = nI (q2 + 1) := if_neg g0
    rw [en]
    refine ⟨ce + 2, hs_yFo0 C' hi hib E hpost _ (q2 + 1) (by omega) (by omega) (by omega) g2 (fun j j1 j2 _ => ?_)⟩
    have := hm i j hi j1 j2
    rcases g3 j (by omega) j2 with z | z <;> omega
theorem hs_yCS0 {tx : Nat → Int32} {cs ce a b : Nat} {P ind : Nat → Nat} (C : hs_Ch tx cs ce a b P ind) {post : Int32 → Prop} (hpost : post (nI cs)) : ∀ k, cs + k ≤ ce → wY_chunkStart_2 post y_maxObjects y_maxSteps y_maxDepth y_kept y_end y_tokens y_pending y_lines y_classes y_prints y_place y_steps y_d y_valTop y_opTop y_opens y_pos y_tk y_tv y_stmt y_target y_err y_code y_outcome y_result y_dry y_want y_starting y_ended y_bad y_hosted y_sawSuper tx y_numbers y_globals y_entries y_attrs y_classOf y_alive y_orders y_lengths y_letters y_bases y_vals y_ops y_locals y_fRecv y_fLine y_fPos y_fStmt y_fTarget y_fMask y_fHome y_fOps y_fVals y_fNew y_out (k + 1) (nI (cs + k)) := by
  obtain ⟨⟨hc, h0, hok⟩, hnz, hcs, hP, hm, hall⟩ := C
  intro k
  induction k with
  | zero =>
    intro hk
    show wY_chunkStart_2 post y_maxObjects y_maxSteps y_maxDepth y_kept y_end y_tokens y_pending y_lines y_classes y_prints y_place y_steps y_d y_valTop y_opTop y_opens y_pos y_tk y_tv y_stmt y_target y_err y_code y_outcome y_result y_dry y_want y_starting y_ended y_bad y_hosted y_sawSuper tx y_numbers y_globals y_entries y_attrs y_classOf y_alive y_orders y_lengths y_letters y_bases y_vals y_ops y_locals y_fRecv y_fLine y_fPos y_fStmt y_fTarget y_fMask y_fHome y_fOps y_fVals y_fNew y_out (0 + 1) (nI cs)
    by_cases e : cs = 0
    · subst e; exact br_t (by decide) hpost
    · obtain ⟨r, rfl⟩ : ∃ r, cs = r + 1 := ⟨cs - 1, by omega⟩
      refine br_f (nI_nle (by omega) (by omega)) ?_
      rw [nI_pred, nI_clamp (show r < 2 ^ 31 by omega)]
      have e3 : tx r = -1 := hcs.resolve_left e
      rw [e3]
      exact And.intro (vp_in_nI (by omega) (by decide)) (br_t (by decide) hpost)
  | succ k ih =>
    intro hk
    have e : cs + (k + 1) = (cs + k) + 1 := by omega
    rw [e]
    refine br_f (nI_nle (by omega) (by omega)) ?_
    rw [nI_pred, nI_clamp (show cs + k < 2 ^ 31 by omega), pk_m1]
    refine And.intro (vp_in_nI (by omega) (by decide)) (br_f ?_ (nm_e (ih (by omega))))
    rcases hs_okcE (hok (cs + k) (by omega) (by omega)) with ⟨z, _⟩ | ⟨z, zl, e4⟩
    · exact absurd z (hnz (cs + k) (by omega) (by omega))
    · rw [e4]; exact nI_pos zl
theorem hs_yCS {tx : Nat → Int32} {cs ce a b p : Nat} {P ind : Nat → Nat} (C : hs_Ch tx cs ce a b P ind) (h1 : cs ≤ p) (h2 : p ≤ ce) {post : Int32 → Prop} (hpost : post (nI cs)) : wpY_chunkStart post (y_maxObjects, y_maxSteps, y_maxDepth, y_kept, y_end, y_tokens, y_pending, y_lines, y_classes, y_prints, y_place, y_steps, y_d, y_valTop, y_opTop, y_opens, y_pos, y_tk, y_tv, y_stmt, y_target, y_err, y_code, y_outcome, y_result, y_dry, y_want, y_starting, y_ended, y_bad, y_hosted, y_sawSuper, tx, y_numbers, y_globals, y_entries, y_attrs, y_classOf, y_alive, y_orders, y_lengths, y_letters, y_bases, y_vals, y_ops, y_locals, y_fRecv, y_fLine, y_fPos, y_fStmt, y_fTarget, y_fMask, y_fHome, y_fOps, y_fVals, y_fNew, y_out) (nI p) := by
  obtain ⟨k, rfl⟩ : ∃ k, p = cs + k := ⟨p - cs, by omega⟩
  exact ⟨_, hs_yCS0 C hpost k h2⟩
/-- the last line before i, from a on, that is less deep -/
def hs_Pa (ind : Nat → Nat) (a i : Nat) : Option Nat → Prop
  | none => ∀ j, a ≤ j → j < i → ind i ≤ ind j
  | some p => a ≤ p ∧ p < i ∧ ind p < ind i ∧ ∀ j, p < j → j < i → ind i ≤ ind j
theorem hs_PaU {ind : Nat → Nat} {a i : Nat} {o o' : Option Nat} (h : hs_Pa ind a i o) (h' : hs_Pa ind a i o') : o = o' := by
  cases o with
  | none =>
    cases o' with
    | none => rfl
    | some p => obtain ⟨a1, a2, a3, _⟩ := h'; have := h p a1 a2; omega
  | some p =>
    cases o' with
    | none => obtain ⟨a1, a2, a3, _⟩ := h; have := h' p a1 a2; omega
    | some p' =>
      obtain ⟨a1, a2, a3, a4⟩ := h
      obtain ⟨b1, b2, b3, b4⟩ := h'
      have e : p = p' := by
        rcases Nat.lt_trichotomy p p' with z | z | z
        · have := a4 p' z b2; omega
        · exact z
        · have := b4 p z a2; omega
      rw [e]
def hs_pI (P : Nat → Nat) : Option Nat → Int32
  | none => -1
  | some p => nI (P p)
/-- the same of the lines whose place is before q -/
def hs_PaQ (ind P : Nat → Nat) (a i q : Nat) : Option Nat → Prop
  | none => ∀ j, a ≤ j → j < i → P j < q → ind i ≤ ind j
  | some p => a ≤ p ∧ p < i ∧ P p < q ∧ ind p < ind i ∧ ∀ j, p < j → j < i → P j < q → ind i ≤ ind j
theorem hs_yOp0 {tx : Nat → Int32} {cs ce a b i : Nat} {P ind : Nat → Nat} (C : hs_Ch tx cs ce a b P ind) (hi : a ≤ i) (hib : i < b) {o : Option Nat} (O : hs_Pa ind a i o) {post : Int32 → Prop} (hpost : post (hs_pI P o)) :
    ∀ n q w, P i + 1 ≤ n + q → cs ≤ q → q ≤ P i → hs_ls tx cs q → hs_PaQ ind P a i q w → wY_opener_8 post (nI (P i)) y_maxObjects y_maxSteps y_maxDepth y_kept y_end y_tokens y_pending y_lines y_classes y_prints y_place y_steps y_d y_valTop y_opTop y_opens y_pos y_tk y_tv y_stmt y_target y_err y_code y_outcome y_result y_dry y_want y_starting y_ended y_bad y_hosted y_sawSuper tx y_numbers y_globals y_entries y_attrs y_classOf y_alive y_orders y_lengths y_letters y_bases y_vals y_ops y_locals y_fRecv y_fLine y_fPos y_fStmt y_fTarget y_fMask y_fHome y_fOps y_fVals y_fNew y_out n (hs_pI P w) (nI q) := by
  have C' := C
  obtain ⟨⟨hc, h0, hok⟩, hnz, hcs, hP, hm, hall⟩ := C
  obtain ⟨pi1, pi2, pi3, pi4, pi5⟩ := hP i hi hib
  intro n
  induction n with
  | zero => intro q w h1 h2 h3; omega
  | succ n ih =>
    intro q w h1 h2 h3 hl hw
    by_cases hq : q = P i
    · subst hq
      have e : w = o := hs_PaU (by
        cases w with
        | none => exact fun j j1 j2 => hw j j1 j2 (hm j i j1 j2 hib)
        | some p => exact ⟨hw.1, hw.2.1, hw.2.2.2.1, fun j j1 j2 => hw.2.2.2.2 j j1 j2 (hm j i (by have := hw.1; omega) j2 hib)⟩) O
      rw [e]
      exact br_t (nI_le (Nat.le_refl _) (by omega)) hpost
    · have step : ∀ w', (∀ q', q < q' → (∀ j, a ≤ j → j < b → P j ≤ q ∨ q' ≤ P j) → hs_PaQ ind P a i q' w') → wY_opener_41 post (wY_opener_8 post (nI (P i)) y_maxObjects y_maxSteps y_maxDepth y_kept y_end y_tokens y_pending y_lines y_classes y_prints y_place y_steps y_d y_valTop y_opTop y_opens y_pos y_tk y_tv y_stmt y_target y_err y_code y_outcome y_result y_dry y_want y_starting y_ended y_bad y_hosted y_sawSuper tx y_numbers y_globals y_entries y_attrs y_classOf y_alive y_orders y_lengths y_letters y_bases y_vals y_ops y_locals y_fRecv y_fLine y_fPos y_fStmt y_fTarget y_fMask y_fHome y_fOps y_fVals y_fNew y_out n) (nI (P i)) (hs_pI P w') (nI q) y_maxObjects y_maxSteps y_maxDepth y_kept y_end y_tokens y_pending y_lines y_classes y_prints y_place y_steps y_d y_valTop y_opTop y_opens y_pos y_tk y_tv y_stmt y_target y_err y_code y_outcome y_result y_dry y_want y_starting y_ended y_bad y_hosted y_sawSuper tx y_numbers y_globals y_entries y_attrs y_classOf y_alive y_orders y_lengths y_letters y_bases y_vals y_ops y_locals y_fRecv y_fLine y_fPos y_fStmt y_fTarget y_fMask y_fHome y_fOps y_fVals y_fNew y_out := by
        intro w' hw'
        obtain ⟨q2, hq2⟩ := hs_nlEx ⟨hc, h0, hok⟩ (p := q) (by omega)
        refine hs_yNL ⟨hc, h0, hok⟩ (by omega) hq2 ?_
        rcases hs_adv C' (by omega) hq2 with ⟨g0, g1, g2⟩ | ⟨g0, g1, g1', g2, g3⟩
        · have := g2 i hi hib; omega
        · have en : hs_nx tx q2 = nI (q2 + 1) := if_neg g0
          rw [en]
          refine ih (q2 + 1) w' (by omega) (by omega) ?_ g2 (hw' (q2 + 1) (by omega) g3)
          rcases g3 i hi hib with z | z <;> omega
      refine br_f (nI_ge (by omega) (by omega)) (And.intro (vp_in_nI (by omega) (by decide)) ?_)
      rw [nI_clamp (show q < 2 ^ 31 by omega)]
      refine hs_yends (hok q h2 (by omega)) (fun he => br_f (by decide) (step w fun q' q1 q3 => ?_)) (fun he => br_t rfl ?_)
      · have ne : ∀ j, a ≤ j → j < b → P j < q' → P j < q := by
          intro j ja jb jq
          have := (hP j ja jb).2.2.1
          rcases q3 j ja jb with z | z
          · rcases Nat.lt_or_ge (P j) q with y | y
            · exact y
            · have e : P j = q := by omega
              rw [e] at this; exact absurd he this
          · omega
        cases w with
        | none => exact fun j j1 j2 j3 => hw j j1 j2 (ne j j1 (by omega) j3)
        | some p =>
          obtain ⟨w1, w2, w3, w4, w5⟩ := hw
          exact ⟨w1, w2, by omega, w4, fun j j1 j2 j3 => w5 j j1 j2 (ne j (by omega) (by omega) j3)⟩
      · obtain ⟨j, ja, jb, rfl⟩ := hall q (by omega) (by omega) he hl
        have hji : j < i := by
          rcases Nat.lt_or_ge j i with z | z
          · exact z
          · rcases Nat.lt_or_ge i j with y | y
            · have := hm i j hi y jb; omega
            · have y2 : j = i := by omega
              subst y2; omega
        refine hs_yIndent C' (by omega) (by omega) hl (hs_yIndent C' pi1 (by omega) pi4 ?_)
        rw [← pi5, ← (hP j ja jb).2.2.2.2]
        have lj := hs_indLe C' ja jb
        have li := hs_indLe C' hi hib
        have only : ∀ q', (∀ j', a ≤ j' → j' < b → P j' ≤ P j ∨ q' ≤ P j') → ∀ j', a ≤ j' → j' < i → P j' < q' → P j' < P j ∨ j' = j := by
          intro q' q3 j' a1 a2 a3
          rcases Nat.lt_trichotomy j' j with z | z | z
          · exact Or.inl (hm j' j a1 z jb)
          · exact Or.inr z
          · have := hm j j' ja z (by omega)
            rcases q3 j' a1 (by omega) with y | y <;> omega
        by_cases hd : ind j < ind i
        · refine br_f (nI_ge hd (by omega)) (step (some j) fun q' q1 q3 => ⟨ja, hji, q1, hd, fun j' a1 a2 a3 => ?_⟩)
          rcases only q' q3 j' (by omega) a2 a3 with z | z
          · have := hm j j' ja a1 (by omega); omega
          · omega
        · refine br_t (nI_le (by omega) (by omega)) (step w fun q' q1 q3 => ?_)
          cases w with
          | none =>
            intro j' a1 a2 a3
            rcases only q' q3 j' a1 a2 a3 with z | z
            · exact hw j' a1 a2 z
            · subst z; omega
          | some p =>
            obtain ⟨w1, w2, w3, w4, w5⟩ := hw
            refine ⟨w1, w2, by omega, w4, fun j' a1 a2 a3 => ?_⟩
            rcases only q' q3 j' (by omega) a2 a3 with z | z
            · exact w5 j' a1 a2 z
            · subst z; omega
theorem hs_yOpener {tx : Nat → Int32} {cs ce a b i : Nat} {P ind : Nat → Nat} (C : hs_Ch tx cs ce a b P ind) (hi : a ≤ i) (hib : i < b) {o : Option Nat} (O : hs_Pa ind a i o) {post : Int32 → Prop} (hpost : post (hs_pI P o)) : wpY_opener post (y_maxObjects, y_maxSteps, y_maxDepth, y_kept, y_end, y_tokens, y_pending, y_lines, y_classes, y_prints, y_place, y_steps, y_d, y_valTop, y_opTop, y_opens, y_pos, y_tk, y_tv, y_stmt, y_target, y_err, y_code, y_outcome, y_result, y_dry, y_want, y_starting, y_ended, y_bad, y_hosted, y_sawSuper, tx, y_numbers, y_globals, y_entries, y_attrs, y_classOf, y_alive, y_orders, y_lengths, y_letters, y_bases, y_vals, y_ops, y_locals, y_fRecv, y_fLine, y_fPos, y_fStmt, y_fTarget, y_fMask, y_fHome, y_fOps, y_fVals, y_fNew, y_out) (nI (P i)) := by
  obtain ⟨pi1, pi2, pi3, pi4, pi5⟩ := C.2.2.2.1 i hi hib
  refine hs_yCS C pi1 (by omega) ⟨P i + 1, hs_yOp0 C hi hib O hpost _ cs none (by omega) (Nat.le_refl _) pi1 (Or.inl rfl) (fun j j1 j2 j3 => ?_)⟩
  have := (C.2.2.2.1 j j1 (by omega)).1
  omega
end
