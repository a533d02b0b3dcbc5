/-! the text grows: what was known of its lines stays -/
section
variable {ind ind' h h' : Nat → Nat} {tk tk' : Nat → List Nat} {a b x w : Nat}
theorem hs_lfC : ∀ (i : Nat), (∀ j, a ≤ j → j < i → ind j = ind' j) → hs_lf ind x a i = hs_lf ind' x a i
  | 0, _ => rfl
  | i + 1, e => by
    show (if i < a then none else if ind i ≤ x then some i else hs_lf ind x a i) = (if i < a then none else if ind' i ≤ x then some i else hs_lf ind' x a i)
    by_cases z : i < a
    · rw [if_pos z, if_pos z]
    · rw [if_neg z, if_neg z, e i (by omega) (by omega), hs_lfC i (fun j j1 j2 => e j j1 (by omega))]
theorem hs_paC {i : Nat} (ia : a ≤ i) (e : ∀ j, a ≤ j → j ≤ i → ind j = ind' j) : hs_pa ind a i = hs_pa ind' a i := by
  unfold hs_pa
  rw [e i ia (Nat.le_refl _), hs_lfC i (fun j j1 j2 => e j j1 (by omega))]
theorem hs_efC : ∀ (n j : Nat), (∀ k, j ≤ k → k < j + n → ind k = ind' k) → hs_ef ind x n j = hs_ef ind' x n j
  | 0, _, _ => rfl
  | n + 1, j, e => by
    show (if ind j ≤ x then j else hs_ef ind x n (j + 1)) = (if ind' j ≤ x then j else hs_ef ind' x n (j + 1))
    rw [e j (Nat.le_refl _) (by omega), hs_efC n (j + 1) (fun k k1 k2 => e k (by omega) (by omega))]
theorem hs_bkC {i : Nat} (ib : i < b) (e : ∀ j, i ≤ j → j < b → ind j = ind' j) : hs_bk ind b i = hs_bk ind' b i := by
  unfold hs_bk
  rw [e i (Nat.le_refl _) ib, hs_efC (b - (i + 1)) (i + 1) (fun k k1 k2 => e k (by omega) (by omega))]
theorem hs_inC : ∀ (n i : Nat), a ≤ i → (∀ j, a ≤ j → j ≤ i → ind j = ind' j ∧ h j = h' j) → hs_in h ind a w n i = hs_in h' ind' a w n i
  | 0, _, _, _ => rfl
  | n + 1, i, ia, e => by
    have ep := hs_paC (ind := ind) (ind' := ind') ia (fun j j1 j2 => (e j j1 j2).1)
    show (match hs_pa ind a i with | none => false | some p => decide (h p = w) || hs_in h ind a w n p) = (match hs_pa ind' a i with | none => false | some p => decide (h' p = w) || hs_in h' ind' a w n p)
    rw [← ep]
    cases q : hs_pa ind a i with
    | none => rfl
    | some p =>
      obtain ⟨p1, p2, p3⟩ := hs_paLt q
      show (decide (h p = w) || hs_in h ind a w n p) = (decide (h' p = w) || hs_in h' ind' a w n p)
      rw [(e p p1 (by omega)).2, hs_inC n p p1 (fun j j1 j2 => e j j1 (by omega))]
theorem hs_lmsC : ∀ (n j : Nat) (m : Int32), (∀ k, j ≤ k → k < j + n → tk k = tk' k) → hs_lms tk n j m = hs_lms tk' n j m
  | 0, _, _, _ => rfl
  | n + 1, j, m, e => by
    show hs_lms tk n (j + 1) (hs_lm1 m (hs_lb (tk j))) = hs_lms tk' n (j + 1) (hs_lm1 m (hs_lb (tk' j)))
    rw [e j (Nat.le_refl _) (by omega), hs_lmsC n (j + 1) _ (fun k k1 k2 => e k (by omega) (by omega))]
/-- the same lines from a to b -/
def hs_sm (ind ind' h h' : Nat → Nat) (tk tk' : Nat → List Nat) (a b : Nat) : Prop := ∀ j, a ≤ j → j < b → ind j = ind' j ∧ h j = h' j ∧ tk j = tk' j
theorem hs_lmaskC {i : Nat} (S : hs_sm ind ind' h h' tk tk' a b) (ia : a ≤ i) (ib : i < b) : hs_lmask tk ind b i = hs_lmask tk' ind' b i := by
  unfold hs_lmask
  have F := hs_bkF (ind := ind) ib
  rw [hs_bkC ib (fun j j1 j2 => (S j (by omega) j2).1), (S i ia ib).2.2] at *
  have F2 := hs_bkF (ind := ind') ib
  exact hs_lmsC _ _ _ (fun k k1 k2 => (S k (by omega) (by omega)).2.2)
theorem hs_lvWC {i : Nat} (S : hs_sm ind ind' h h' tk tk' a b) (ia : a ≤ i) (ib : i < b) (H : hs_lvW h ind a i w) : hs_lvW h' ind' a i w := by
  obtain ⟨u, e1, e2, e3⟩ := H
  obtain ⟨u1, u2, _⟩ := hs_lfS e1
  rw [hs_lfC i (fun j j1 j2 => (S j j1 (by omega)).1), (S i ia ib).1] at e1
  exact ⟨u, e1, by rw [← (S u u1 (by omega)).1, ← (S i ia ib).1]; exact e2, by rw [← (S u u1 (by omega)).2.1]; exact e3⟩
theorem hs_smS (S : hs_sm ind ind' h h' tk tk' a b) : hs_sm ind' ind h' h tk' tk a b := fun j j1 j2 => ⟨(S j j1 j2).1.symm, (S j j1 j2).2.1.symm, (S j j1 j2).2.2.symm⟩
theorem hs_dirC {i : Nat} (S : hs_sm ind ind' h h' tk tk' a b) (ia : a ≤ i) (ib : i < b) (H : hs_dir h ind a i) : hs_dir h' ind' a i := by
  obtain ⟨p, e1, e2⟩ := H
  obtain ⟨p1, p2, _⟩ := hs_paLt e1
  rw [hs_paC ia (fun j j1 j2 => (S j j1 (by omega)).1)] at e1
  exact ⟨p, e1, by rw [← (S p p1 (by omega)).2.1]; exact e2⟩
theorem hs_lokC {i : Nat} (S : hs_sm ind ind' h h' tk tk' a b) (ia : a ≤ i) (ib : i < b) (H : hs_lok tk h ind a i) : hs_lok tk' h' ind' a i := by
  have S' := hs_smS S
  obtain ⟨si, sh, st⟩ := S i ia ib
  obtain ⟨h1, h2, h3, ⟨r1, r2, r3, r4, r5⟩, ⟨w1, w2, w3, w4⟩⟩ := H
  have ein : ∀ w, hs_in h ind a w 9 i = hs_in h' ind' a w 9 i := fun w => hs_inC 9 i ia (fun j j1 j2 => ⟨(S j j1 (by omega)).1, (S j j1 (by omega)).2.1⟩)
  refine ⟨by rw [← st]; exact h1, by rw [← st]; exact h2, fun m m1 m2 tb => ?_, ⟨fun z => by rw [← si]; exact r1 z, fun z op => ?_, fun z op => ?_, fun z => hs_lvWC S ia ib (r4 (by rw [sh]; exact z)), fun z => hs_lvWC S ia ib (r5 (by rw [sh]; exact z))⟩, ⟨?_, ?_, ?_, ?_⟩⟩
  · obtain ⟨b1, b2, b3, b4⟩ := tb
    have sm := S m m1 (by omega)
    refine h3 m m1 m2 ⟨by rw [sm.2.1]; exact b1, by rw [si, sm.1]; exact b2, fun j j1 j2 => by rw [sm.1, (S j (by omega) (by omega)).1]; exact b3 j j1 j2, fun y => b4 ⟨by rw [← sh]; exact y.1, by rw [← si, ← sm.1]; exact y.2⟩⟩
  · have s1 := S (i - 1) (by omega) (by omega)
    rw [← s1.1, ← si]
    exact r2 z (by rw [s1.2.1]; exact op)
  · have s1 := S (i - 1) (by omega) (by omega)
    obtain ⟨q1, u, e1, e2⟩ := r3 z (by rw [s1.2.1]; exact op)
    obtain ⟨u1, u2, _⟩ := hs_lfS e1
    rw [← s1.1, ← si]
    refine ⟨q1, u, ?_, by rw [← (S u u1 (by omega)).1, ← si]; exact e2⟩
    rw [← si, ← hs_lfC i (fun j j1 j2 => (S j j1 (by omega)).1)]
    exact e1
  · rw [← sh, ← ein]; exact w1
  · rw [← sh, ← ein, ← st]; exact w2
  · intro dr
    rw [← sh, ← st]
    exact w3 (hs_dirC S' ia ib dr)
  · intro dr
    rw [← sh]
    exact w4 (fun y => dr (hs_dirC S ia ib y))
theorem hs_eokC (S : hs_sm ind ind' h h' tk tk' a b) (H : hs_eok h ind a b) : hs_eok h' ind' a b := by
  refine ⟨fun z => ?_, fun m m1 m2 h7 => ?_⟩
  · rw [← (S (b - 1) (by omega) (by omega)).2.1]; exact H.1 z
  · rw [← hs_bkC m2 (fun j j1 j2 => (S j (by omega) j2).1)]
    exact H.2 m m1 m2 (by rw [(S m m1 m2).2.1]; exact h7)
end
section
variable {tx tx' nu nu' LT LT' : Nat → Int32} {cd cd' : Nat → Int64} {lc kp cc : Nat} {P P' ind ind' h h' : Nat → Nat} {tk tk' : Nat → List Nat} {ca cb us ue : Nat → Nat} {cs ce a b mx mx' j : Nat}
theorem hs_TAtx : ∀ {ts : List Nat} {p : Nat}, p ≤ ce → hs_en (hs_g tx ce) → (∀ q, q ≤ ce → tx' q = tx q) → hs_TA tx p ts → hs_TA tx' p ts
  | [], p, hp, _, e, ⟨h1, h2, h3⟩ => by
    unfold hs_g at h2
    exact ⟨by rw [e p hp]; exact h1, by unfold hs_g; rw [e p hp]; exact h2, h3⟩
  | t :: r, p, hp, hc, e, ⟨h1, h2, h3, h4, h5⟩ => by
    have ne : p ≠ ce := fun z => by
      rw [z] at h1
      rw [h1] at hc
      exact h3 hc
    refine ⟨by unfold hs_g; rw [e p hp]; exact h1, by rw [e p hp]; exact h2, h3, h4, hs_TAtx (by omega) hc e h5⟩
theorem hs_ChC (C : hs_Ch tx cs ce a b P ind) (e : ∀ q, q ≤ ce → tx' q = tx q) (hcs : cs ≤ ce + 1) (S : ∀ i, a ≤ i → i < b → P i = P' i ∧ ind i = ind' i) : hs_Ch tx' cs ce a b P' ind' := by
  obtain ⟨⟨c1, c2, c3⟩, c4, c5, c6, c7, c8⟩ := C
  have eg : ∀ q, q ≤ ce → hs_g tx' q = hs_g tx q := fun q hq => by unfold hs_g; rw [e q hq]
  have els : ∀ q, q ≤ ce → (hs_ls tx' cs q ↔ hs_ls tx cs q) := fun q hq => by
    unfold hs_ls
    rw [eg (q - 1) (by omega)]
  have eind : ∀ q, q ≤ ce → hs_ind tx' cs q = hs_ind tx cs q := fun q hq => by
    unfold hs_ind
    rw [eg (q - 1) (by omega)]
  refine ⟨⟨c1, by rw [eg ce (Nat.le_refl _)]; exact c2, fun p p1 p2 => by rw [e p p2]; exact c3 p p1 p2⟩, fun p p1 p2 => by rw [eg p (by omega)]; exact c4 p p1 p2, ?_, fun i i1 i2 => ?_, fun i k i1 i2 i3 => ?_, fun p p1 p2 p3 p4 => ?_⟩
  · rcases c5 with z | z
    · exact Or.inl z
    · exact Or.inr (by rw [e _ (by omega)]; exact z)
  · obtain ⟨s1, s2⟩ := S i i1 i2
    obtain ⟨d1, d2, d3, d4, d5⟩ := c6 i i1 i2
    rw [← s1, ← s2]
    exact ⟨d1, d2, by rw [eg _ (by omega)]; exact d3, (els _ (by omega)).mpr d4, by rw [eind _ (by omega)]; exact d5⟩
  · rw [← (S i i1 (by omega)).1, ← (S k (by omega) i3).1]; exact c7 i k i1 i2 i3
  · rw [eg p (by omega)] at p3
    obtain ⟨i, i1, i2, i3⟩ := c8 p p1 p2 p3 ((els p (by omega)).mp p4)
    exact ⟨i, i1, i2, by rw [← (S i i1 i2).1]; exact i3⟩
theorem hs_CAC : ∀ {l : List (Nat × Nat)} {c e : Nat}, (∀ k, k < e → cd' k = cd k) → hs_CA cd c l e → hs_CA cd' c l e
  | [], _, _, _, h => h
  | (o, q) :: r, c, e, ec, ⟨h1, h2, h3, h4⟩ => by
    have hl := hs_CAlen h4
    exact ⟨by rw [ec c (by omega)]; exact h1, h2, h3, hs_CAC ec h4⟩
theorem hs_LNC (S : hs_sm ind ind' h h' tk tk' a b) (ja : a ≤ j) (jb : j < b) (eL : ∀ k, j * 14 ≤ k → k < j * 14 + 14 → LT' k = LT k) (ec : ∀ k, k < mx → cd' k = cd k) (hmx : mx ≤ mx') (H : hs_LN LT cd ind tk a b mx j) : hs_LN LT' cd' ind' tk' a b mx' j := by
  obtain ⟨n1, n2, n3, n4, e, c0, n5, n6, n7, n8, n9⟩ := H
  have e0 : LT' (j * 14) = LT (j * 14) := eL _ (by omega) (by omega)
  refine ⟨by rw [eL _ (by omega) (by omega), n1, (S j ja jb).1], by rw [eL _ (by omega) (by omega), n2, hs_paC ja (fun k k1 k2 => (S k k1 (by omega)).1)], by rw [eL _ (by omega) (by omega), n3, hs_bkC jb (fun k k1 k2 => (S k (by omega) k2).1)], fun z => ?_, e, c0, by rw [eL _ (by omega) (by omega)]; exact n5, by rw [eL _ (by omega) (by omega)]; exact n6, by omega, hs_CAC (fun k hk => ec k (by omega)) n8, ?_⟩
  · rw [e0] at z
    rw [eL _ (by omega) (by omega), n4 z, hs_lmaskC S ja jb]
  · rw [e0, eL (j * 14 + 5) (by omega) (by omega), eL (j * 14 + 6) (by omega) (by omega), eL (j * 14 + 7) (by omega) (by omega), ← (S j ja jb).2.2]
    exact n9
/-- nothing but the text behind the kept changes -/
theorem hs_Ttx (T : hs_T tx nu LT cd lc kp cc P ind h tk ca cb us ue) (e : ∀ q, q < kp → tx' q = tx q) (en : ∀ q, q < kp → nu' q = nu q) : hs_T tx' nu' LT cd lc kp cc P ind h tk ca cb us ue := by
  obtain ⟨c1, c2, c3, T⟩ := T
  refine ⟨c1, c2, c3, fun j hj => ?_⟩
  obtain ⟨t1, t2, t3, t4, t5, t6, t7, t8, t9, t10, t11⟩ := T j hj
  have uc : us j ≤ ue j + 1 := by
    have := (t6.2.2.2.1 j t1 t2).1
    have := (t6.2.2.2.1 j t1 t2).2.1
    omega
  refine ⟨t1, t2, t3, t4, t5, hs_ChC t6 (fun q hq => e q (by omega)) uc (fun i i1 i2 => ⟨rfl, rfl⟩), fun i i1 i2 => ?_, t8, t9, t10, ?_⟩
  · obtain ⟨g1, g2, g3, g4⟩ := t7 i i1 i2
    have := (t6.2.2.2.1 i i1 i2).2.1
    exact ⟨hs_TAtx (ce := ue j) (by omega) (Or.inl t6.1.2.1) (fun q hq => e q (by omega)) g1, g2, g3, g4⟩
  · have := (t6.2.2.2.1 j t1 t2).2.1
    rw [en _ (by omega)]; exact t11
/-- a chunk more -/
theorem hs_Tnew {cc' b9 kp' : Nat} {P9 ind9 h9 : Nat → Nat} {tk9 : Nat → List Nat} (T : hs_T tx nu LT cd lc kp cc P ind h tk ca cb us ue) (hl : lc ≤ b9) (hb : b9 ≤ 405) (hcc : cc ≤ cc') (hcc2 : cc' ≤ 443) (hkp : kp' ≤ 900) (hce : ce < kp') (hcs : cs = kp) (hck : cs ≤ ce) (C : hs_Ch tx cs ce lc b9 P9 ind9) (K : hs_TK tx lc b9 P9 h9 tk9) (lok : ∀ i, lc ≤ i → i < b9 → hs_lok tk9 h9 ind9 lc i) (eok : hs_eok h9 ind9 lc b9) (eL : ∀ k, k < lc * 14 → LT' k = LT k) (ec : ∀ k, k < cc → cd' k = cd k) (LN : ∀ j, lc ≤ j → j < b9 → hs_LN LT' cd' ind9 tk9 lc b9 cc' j ∧ nu (P9 j) = LT' (j * 14 + 2)) :
    hs_T tx nu LT' cd' b9 kp' cc' (fun j => if j < lc then P j else P9 j) (fun j => if j < lc then ind j else ind9 j) (fun j => if j < lc then h j else h9 j) (fun j => if j < lc then tk j else tk9 j) (fun j => if j < lc then ca j else lc) (fun j => if j < lc then cb j else b9) (fun j => if j < lc then us j else cs) (fun j => if j < lc then ue j else ce) := by
  obtain ⟨c1, c2, c3, T⟩ := T
  refine ⟨hb, hcc2, hkp, fun j hj => ?_⟩
  by_cases z : j < lc
  · obtain ⟨t1, t2, t3, t4, t5, t6, t7, t8, t9, t10, t11⟩ := T j z
    have S : hs_sm ind (fun j => if j < lc then ind j else ind9 j) h (fun j => if j < lc then h j else h9 j) tk (fun j => if j < lc then tk j else tk9 j) (ca j) (cb j) := fun i i1 i2 => ⟨(if_pos (by omega)).symm, (if_pos (by omega)).symm, (if_pos (by omega)).symm⟩
    have uc : us j ≤ ue j + 1 := by
      have := (t6.2.2.2.1 j t1 t2).1
      have := (t6.2.2.2.1 j t1 t2).2.1
      omega
    simp only [if_pos z]
    refine ⟨t1, t2, by omega, fun i i1 i2 => ?_, by omega, hs_ChC t6 (fun _ _ => rfl) uc (fun i i1 i2 => ⟨(if_pos (by omega)).symm, (if_pos (by omega)).symm⟩), fun i i1 i2 => ?_, hs_LNC S t1 t2 (fun k k1 k2 => eL k (by omega)) ec hcc t8, hs_lokC S t1 t2 t9, hs_eokC S t10, ?_⟩
    · have := t4 i i1 i2
      rw [if_pos (by omega), if_pos (by omega)]; exact this
    · have := t7 i i1 i2
      simp only [if_pos (show i < lc by omega)]
      exact this
    · rw [eL _ (by omega)]; exact t11
  · have S : hs_sm ind9 (fun j => if j < lc then ind j else ind9 j) h9 (fun j => if j < lc then h j else h9 j) tk9 (fun j => if j < lc then tk j else tk9 j) lc b9 := fun i i1 i2 => ⟨(if_neg (by omega)).symm, (if_neg (by omega)).symm, (if_neg (by omega)).symm⟩
    obtain ⟨l1, l2⟩ := LN j (by omega) hj
    simp only [if_neg z]
    refine ⟨by omega, hj, Nat.le_refl _, fun i i1 i2 => ?_, hce, hs_ChC C (fun _ _ => rfl) (by omega) (fun i i1 i2 => ⟨(if_neg (by omega)).symm, (if_neg (by omega)).symm⟩), fun i i1 i2 => ?_, hs_LNC S (by omega) hj (fun _ _ _ => rfl) (fun _ _ => rfl) (Nat.le_refl _) l1, hs_lokC S (by omega) hj (lok j (by omega) hj), hs_eokC S eok, l2⟩
    · rw [if_neg (by omega), if_neg (by omega)]; exact ⟨rfl, rfl⟩
    · have := K i i1 i2
      simp only [if_neg (show ¬ i < lc by omega)]
      exact this
end
