/-! pure facts on blocks: what follows a line, where an error is held -/
section
def hs_ck (h ind : Nat → Nat) (tk : Nat → List Nat) (a b : Nat) : Prop := (∀ i, a ≤ i → i < b → hs_lok tk h ind a i ∧ ind i ≤ 8) ∧ hs_eok h ind a b
variable {h ind : Nat → Nat} {tk : Nat → List Nat} {a b l p : Nat}
theorem hs_ckI (K : hs_ck h ind tk a b) {i : Nat} (ia : a ≤ i) (ib : i < b) : hs_ir h ind a i := (K.1 i ia ib).1.2.2.2.1
theorem hs_ckW (K : hs_ck h ind tk a b) {i : Nat} (ia : a ≤ i) (ib : i < b) : hs_wr h ind a i (hs_s15 (tk i)) (13 ∈ tk i) := (K.1 i ia ib).1.2.2.2.2
theorem hs_bkF (lb : l < b) : l < hs_bk ind b l ∧ hs_bk ind b l ≤ b ∧ (∀ j, l < j → j < hs_bk ind b l → ind l < ind j) ∧ (hs_bk ind b l < b → ind (hs_bk ind b l) ≤ ind l) := by
  obtain ⟨F1, F2, F3, F4⟩ := hs_bkFo (ind := ind) (b := b) (i := l) lb
  refine ⟨F1, F2, fun j a1 a2 => (F3 j a1 a2).2, fun eb => ?_⟩
  rcases F4 eb with z | z
  · exact absurd z (by decide)
  · exact z
theorem hs_nlv (K : hs_ck h ind tk a b) (la : a ≤ l) (lb : l < b) (eb : hs_bk ind b l < b) : ∃ u, hs_lf ind (ind (hs_bk ind b l)) a (hs_bk ind b l) = some u ∧ ind u = ind (hs_bk ind b l) ∧ a ≤ u ∧ u ≤ l ∧ ∀ j, u < j → j < hs_bk ind b l → ind u < ind j := by
  obtain ⟨F1, F2, F3, F4⟩ := hs_bkF (ind := ind) lb
  have F5 := F4 eb
  have hir := hs_ckI K (i := hs_bk ind b l) (by omega) eb
  generalize hs_bk ind b l = e at *
  have hno : ¬ hs_isOp (h (e - 1)) := by
    intro op
    have q := hir.2.1 (by omega) op
    rcases Nat.lt_or_ge l (e - 1) with z | z
    · have := F3 (e - 1) z (by omega); omega
    · have w : e - 1 = l := by omega
      rw [w] at q; omega
  obtain ⟨_, u, eu, iu⟩ := hir.2.2.1 (by omega) hno
  obtain ⟨u1, u2, u3, u4⟩ := hs_lfS eu
  refine ⟨u, eu, iu, u1, ?_, fun j a1 a2 => by have := u4 j a1 a2; omega⟩
  rcases Nat.lt_or_ge l u with z | z
  · have := F3 u z u2; omega
  · exact z
theorem hs_sameLv (K : hs_ck h ind tk a b) (la : a ≤ l) (lb : l < b) (pa : hs_pa ind a l = some p) : hs_bk ind b l < hs_bk ind b p ↔ (hs_bk ind b l < b ∧ ind (hs_bk ind b l) = ind l) := by
  have hp : hs_Pa ind a l (some p) := by rw [← pa]; exact hs_paOK
  obtain ⟨p1, p2, p3, p4⟩ := hp
  obtain ⟨F1, F2, F3, F4⟩ := hs_bkF (ind := ind) lb
  obtain ⟨G1, G2, G3, G4⟩ := hs_bkF (ind := ind) (l := p) (b := b) (by omega)
  constructor
  · intro hlt
    have eb : hs_bk ind b l < b := by omega
    obtain ⟨u, _, iu, u1, u2, u3⟩ := hs_nlv K la lb eb
    have F5 := F4 eb
    have g := G3 _ (by omega) hlt
    generalize hs_bk ind b l = e at *
    refine ⟨eb, ?_⟩
    rcases Nat.lt_trichotomy u p with z | z | z
    · have := u3 p z (by omega); omega
    · subst z; omega
    · rcases Nat.lt_or_ge u l with y | y
      · have := p4 u z y; omega
      · have : u = l := by omega
        subst this; omega
  · rintro ⟨eb, ie⟩
    rcases Nat.lt_or_ge (hs_bk ind b l) (hs_bk ind b p) with z | z
    · exact z
    · exfalso
      have g := G4 (by omega)
      generalize hs_bk ind b l = e at *
      generalize hs_bk ind b p = e' at *
      rcases Nat.lt_trichotomy e' l with y | y | y
      · have := p4 e' (by omega) y; omega
      · subst y; omega
      · rcases Nat.lt_or_ge e' e with x | x
        · have := F3 e' y x; omega
        · have : e' = e := by omega
          subst this; omega
theorem hs_topLv (K : hs_ck h ind tk a b) (la : a ≤ l) (lb : l < b) (pa : hs_pa ind a l = none) : ind l = 0 := by
  have hp : hs_Pa ind a l none := by rw [← pa]; exact hs_paOK
  rcases Nat.lt_or_ge a l with z | z
  · have h1 := hp a (Nat.le_refl _) z
    have h2 := (hs_ckI K (i := a) (Nat.le_refl _) (by omega)).1 rfl
    omega
  · have : l = a := by omega
    subst this
    exact (hs_ckI K (Nat.le_refl _) lb).1 rfl
theorem hs_topEnd (K : hs_ck h ind tk a b) (la : a ≤ l) (lb : l < b) (pa : hs_pa ind a l = none) : hs_bk ind b l < b ↔ (hs_bk ind b l < b ∧ ind (hs_bk ind b l) = ind l) := by
  constructor
  · intro eb
    have := (hs_bkF (ind := ind) lb).2.2.2 eb
    have := hs_topLv K la lb pa
    exact ⟨eb, by omega⟩
  · exact fun z => z.1
theorem hs_paEq (la : a ≤ l) (lb : l < b) (eb : hs_bk ind b l < b) (ie : ind (hs_bk ind b l) = ind l) : hs_pa ind a (hs_bk ind b l) = hs_pa ind a l := by
  obtain ⟨F1, F2, F3, F4⟩ := hs_bkF (ind := ind) lb
  refine hs_PaU (hs_paOK (ind := ind) (a := a) (i := hs_bk ind b l)) ?_
  have hp : hs_Pa ind a l (hs_pa ind a l) := hs_paOK
  generalize hs_bk ind b l = e at *
  cases q : hs_pa ind a l with
  | none =>
    rw [q] at hp
    intro j j1 j2
    rcases Nat.lt_trichotomy j l with z | z | z
    · have := hp j j1 z; omega
    · subst z; omega
    · have := F3 j z j2; omega
  | some p =>
    rw [q] at hp
    obtain ⟨p1, p2, p3, p4⟩ := hp
    refine ⟨p1, by omega, by omega, fun j j1 j2 => ?_⟩
    rcases Nat.lt_trichotomy j l with z | z | z
    · have := p4 j j1 z; omega
    · subst z; omega
    · have := F3 j z j2; omega
theorem hs_elseOf (K : hs_ck h ind tk a b) (la : a ≤ l) (lb : l < b) (eb : hs_bk ind b l < b) (ie : ind (hs_bk ind b l) = ind l) : (h (hs_bk ind b l) = 5 → h l = 4) ∧ (h (hs_bk ind b l) = 8 → h l = 7) := by
  obtain ⟨u, eu, iu, u1, u2, u3⟩ := hs_nlv K la lb eb
  obtain ⟨F1, F2, F3, F4⟩ := hs_bkF (ind := ind) lb
  have hir := hs_ckI K (i := hs_bk ind b l) (by omega) eb
  have ul : u = l := by
    rcases Nat.lt_or_ge u l with z | z
    · have := u3 l z F1; omega
    · omega
  subst ul
  have g : ∀ w, hs_lvW h ind a (hs_bk ind b u) w → h u = w := by
    rintro w ⟨u', e1, _, e3⟩
    rw [eu] at e1; cases e1; exact e3
  exact ⟨fun z => g 4 (hir.2.2.2.1 z), fun z => g 7 (hir.2.2.2.2 z)⟩
/-- the first line of a block -/
theorem hs_opNext (K : hs_ck h ind tk a b) (la : a ≤ l) (lb : l < b) (op : hs_isOp (h l)) : l + 1 < b ∧ ind l < ind (l + 1) ∧ hs_pa ind a (l + 1) = some l ∧ h (l + 1) ≠ 5 ∧ h (l + 1) ≠ 8 := by
  have h1 : l + 1 < b := by
    rcases Nat.lt_or_ge (l + 1) b with z | z
    · exact z
    · have e : b - 1 = l := by omega
      have := K.2.1 (by omega)
      rw [e] at this; exact absurd op this
  have hir := hs_ckI K (i := l + 1) (by omega) h1
  have h2 : ind l < ind (l + 1) := hir.2.1 (by omega) (by rw [Nat.add_sub_cancel]; exact op)
  have h3 : hs_pa ind a (l + 1) = some l := hs_PaU (hs_paOK (ind := ind) (a := a) (i := l + 1)) (show hs_Pa ind a (l + 1) (some l) from ⟨la, by omega, h2, fun j j1 j2 => by omega⟩)
  have h4 : hs_lf ind (ind (l + 1)) a (l + 1) = some l := by rw [hs_lfSucc la, if_pos (by omega)]
  have g : ∀ w, ¬ hs_lvW h ind a (l + 1) w := by
    rintro w ⟨u, e1, e2, _⟩
    rw [h4] at e1; cases e1; omega
  exact ⟨h1, h2, h3, fun z => g 4 (hir.2.2.2.1 z), fun z => g 7 (hir.2.2.2.2 z)⟩
/-- a try line's block ends at its except line -/
theorem hs_tryEnd (K : hs_ck h ind tk a b) (la : a ≤ l) (lb : l < b) (h7 : h l = 7) : hs_bk ind b l < b ∧ h (hs_bk ind b l) = 8 ∧ ind (hs_bk ind b l) = ind l := by
  obtain ⟨F1, F2, F3, F4⟩ := hs_bkF (ind := ind) lb
  have eb : hs_bk ind b l < b := by
    have := K.2.2 l la lb h7
    omega
  have ntb := (K.1 _ (by omega) eb).1.2.2.1 l la F1
  have F5 := F4 eb
  by_cases q : h (hs_bk ind b l) = 8 ∧ ind (hs_bk ind b l) = ind l
  · exact ⟨eb, q.1, q.2⟩
  · exact absurd ⟨h7, F5, F3, q⟩ ntb
/-- the line that is run behind a line with its block -/
def hs_af (h ind : Nat → Nat) (a b : Nat) : Nat → Nat → Option Nat
  | 0, _ => none
  | n + 1, l => if hs_bk ind b l < b ∧ ind (hs_bk ind b l) = ind l then (if h (hs_bk ind b l) = 5 ∨ h (hs_bk ind b l) = 8 then hs_af h ind a b n (hs_bk ind b l) else some (hs_bk ind b l)) else match hs_pa ind a l with
    | none => none
    | some p => if h p = 2 then none else if h p = 6 then some p else hs_af h ind a b n p
theorem hs_DEq (la : a ≤ l) (lb : l < b) (eb : hs_bk ind b l < b) (ie : ind (hs_bk ind b l) = ind l) : hs_D h ind a (hs_bk ind b l) = hs_D h ind a l ∧ hs_in h ind a 1 9 (hs_bk ind b l) = hs_in h ind a 1 9 l := by
  have e := hs_paEq la lb eb ie
  constructor
  · show (match hs_pa ind a (hs_bk ind b l) with | none => none | some p => if h p = 2 then some p else hs_Dn h ind a 8 p) = (match hs_pa ind a l with | none => none | some p => if h p = 2 then some p else hs_Dn h ind a 8 p)
    rw [e]
  · show (match hs_pa ind a (hs_bk ind b l) with | none => false | some p => decide (h p = 1) || hs_in h ind a 1 8 p) = (match hs_pa ind a l with | none => false | some p => decide (h p = 1) || hs_in h ind a 1 8 p)
    rw [e]
theorem hs_paLt (pa : hs_pa ind a l = some p) : a ≤ p ∧ p < l ∧ ind p < ind l := by
  have hp : hs_Pa ind a l (some p) := by rw [← pa]; exact hs_paOK
  exact ⟨hp.1, hp.2.1, hp.2.2.1⟩
theorem hs_afF (K : hs_ck h ind tk a b) : ∀ (n l m : Nat), a ≤ l → l < b → hs_af h ind a b n l = some m → a ≤ m ∧ m < b ∧ hs_D h ind a m = hs_D h ind a l ∧ (hs_in h ind a 1 9 m = true → hs_in h ind a 1 9 l = true) ∧ h m ≠ 5 ∧ h m ≠ 8
  | 0, _, _, _, _, e => by cases e
  | n + 1, l, m, la, lb, e => by
    obtain ⟨F1, F2, F3, F4⟩ := hs_bkF (ind := ind) lb
    unfold hs_af at e
    split at e
    · rename_i q
      obtain ⟨d1, d2⟩ := hs_DEq (h := h) la lb q.1 q.2
      split at e
      · have r := hs_afF K n _ m (by omega) q.1 e
        rw [d1, d2] at r
        exact r
      · rename_i q2
        cases e
        exact ⟨by omega, q.1, d1, fun z => by rw [← d2]; exact z, fun z => q2 (Or.inl z), fun z => q2 (Or.inr z)⟩
    · split at e
      · cases e
      · rename_i p pa
        obtain ⟨p1, p2, p3⟩ := hs_paLt pa
        have i8 := (K.1 l la lb).2
        have dd := hs_D1 (h := h) i8 pa
        have dn := hs_in1 (h := h) (w := 1) i8 pa
        split at e
        · cases e
        · rename_i n2
          rw [if_neg n2] at dd
          split at e
          · rename_i n6
            cases e
            exact ⟨p1, by omega, dd.symm, fun z => by rw [dn, z, Bool.or_true], by omega, by omega⟩
          · have r := hs_afF K n p m p1 (by omega) e
            rw [dd, dn]
            exact ⟨r.1, r.2.1, r.2.2.1, fun z => by rw [r.2.2.2.1 z, Bool.or_true], r.2.2.2.2⟩
/-- the measure of the way out -/
def hs_am (h ind : Nat → Nat) (l : Nat) : Nat := 2 * ind l + (if h l = 5 ∨ h l = 8 then 0 else 1)
theorem hs_am1 (K : hs_ck h ind tk a b) (la : a ≤ l) (lb : l < b) (eb : hs_bk ind b l < b) (ie : ind (hs_bk ind b l) = ind l) (q : h (hs_bk ind b l) = 5 ∨ h (hs_bk ind b l) = 8) : hs_am h ind (hs_bk ind b l) < hs_am h ind l := by
  have o := hs_elseOf K la lb eb ie
  have e1 : hs_am h ind (hs_bk ind b l) = 2 * ind l := by unfold hs_am; rw [if_pos q, ie]; rfl
  have e2 : hs_am h ind l = 2 * ind l + 1 := by
    unfold hs_am
    rw [if_neg]
    rcases q with q | q
    · have := o.1 q; omega
    · have := o.2 q; omega
  omega
theorem hs_am2 (pa : hs_pa ind a l = some p) : hs_am h ind p < hs_am h ind l := by
  have := (hs_paLt pa).2.2
  unfold hs_am
  split <;> split <;> omega
theorem hs_am3 (K : hs_ck h ind tk a b) (la : a ≤ l) (lb : l < b) : hs_am h ind l < 18 := by
  have := (K.1 l la lb).2
  unfold hs_am
  split <;> omega
theorem hs_DIn (K : hs_ck h ind tk a b) : ∀ (n l : Nat) (dl : Nat), ind l < n → a ≤ l → l < b → hs_D h ind a l = some dl → hs_in h ind a 1 9 l = true ∧ a ≤ dl ∧ dl < l ∧ h dl = 2
  | 0, _, _, z, _, _, _ => by omega
  | n + 1, l, dl, hn, la, lb, e => by
    have i8 := (K.1 l la lb).2
    cases q : hs_pa ind a l with
    | none => rw [hs_D0 q] at e; cases e
    | some p =>
      obtain ⟨p1, p2, p3⟩ := hs_paLt q
      rw [hs_D1 i8 q] at e
      rw [hs_in1 i8 q]
      split at e
      · rename_i h2
        have e9 := Option.some.inj e
        subst e9
        refine ⟨?_, p1, p2, h2⟩
        have wr := hs_ckW K p1 (by omega)
        by_cases dr : hs_dir h ind a p
        · obtain ⟨p', e1, e2⟩ := dr
          rw [hs_in1 (K.1 p p1 (by omega)).2 e1, decide_eq_true e2, Bool.true_or, Bool.or_true]
        · exact absurd h2 (wr.2.2.2 dr)
      · have r := hs_DIn K n p dl (by omega) p1 (by omega) e
        exact ⟨by rw [r.1, Bool.or_true], r.2.1, by omega, r.2.2.2⟩
theorem hs_noDir (K : hs_ck h ind tk a b) {dl : Nat} (la : a ≤ l) (lb : l < b) (e : hs_D h ind a l = some dl) : ¬ hs_dir h ind a l ∧ h l ≠ 1 ∧ h l ≠ 2 := by
  have i8 := (K.1 l la lb).2
  have wr := hs_ckW K la lb
  have n1 : ¬ hs_dir h ind a l := by
    rintro ⟨p, pa, h1⟩
    obtain ⟨p1, p2, p3⟩ := hs_paLt pa
    rw [hs_D1 i8 pa, if_neg (by omega)] at e
    have r := hs_DIn K 9 p dl (by have := (K.1 p p1 (by omega)).2; omega) p1 (by omega) e
    exact (hs_ckW K p1 (by omega)).1 ⟨h1, r.1⟩
  have r := hs_DIn K 9 l dl (by omega) la lb e
  exact ⟨n1, fun z => wr.1 ⟨z, r.1⟩, wr.2.2.2 n1⟩
/-- the try line that holds an error at a line -/
def hs_tr (h ind : Nat → Nat) (a : Nat) : Nat → Nat → Option Nat
  | 0, _ => none
  | n + 1, i => match hs_pa ind a i with
    | none => none
    | some p => if h p = 2 then none else if h p = 7 then some p else hs_tr h ind a n p
theorem hs_trF (K : hs_ck h ind tk a b) : ∀ (n l t : Nat), a ≤ l → l < b → hs_tr h ind a n l = some t → a ≤ t ∧ t < b ∧ h t = 7 ∧ hs_D h ind a t = hs_D h ind a l ∧ (hs_in h ind a 1 9 t = true → hs_in h ind a 1 9 l = true)
  | 0, _, _, _, _, e => by cases e
  | n + 1, l, t, la, lb, e => by
    unfold hs_tr at e
    split at e
    · cases e
    · rename_i p pa
      obtain ⟨p1, p2, p3⟩ := hs_paLt pa
      have i8 := (K.1 l la lb).2
      have dd := hs_D1 (h := h) i8 pa
      have dn := hs_in1 (h := h) (w := 1) i8 pa
      split at e
      · cases e
      · rename_i n2
        rw [if_neg n2] at dd
        split at e
        · rename_i n7
          cases e
          exact ⟨p1, by omega, n7, dd.symm, fun z => by rw [dn, z, Bool.or_true]⟩
        · have r := hs_trF K n p t p1 (by omega) e
          rw [dd, dn]
          exact ⟨r.1, r.2.1, r.2.2.1, r.2.2.2.1, fun z => by rw [r.2.2.2.2 z, Bool.or_true]⟩
/-- the line behind a try's except line -/
theorem hs_exNext (K : hs_ck h ind tk a b) {t : Nat} (ta : a ≤ t) (tb : t < b) (h7 : h t = 7) : hs_bk ind b t + 1 < b ∧ h (hs_bk ind b t) = 8 ∧ hs_D h ind a (hs_bk ind b t + 1) = hs_D h ind a t ∧ (hs_in h ind a 1 9 (hs_bk ind b t + 1) = true → hs_in h ind a 1 9 t = true) ∧ h (hs_bk ind b t + 1) ≠ 5 ∧ h (hs_bk ind b t + 1) ≠ 8 := by
  obtain ⟨e1, e2, e3⟩ := hs_tryEnd K ta tb h7
  obtain ⟨F1, F2, F3, F4⟩ := hs_bkF (ind := ind) tb
  obtain ⟨o1, o2, o3, o4, o5⟩ := hs_opNext K (l := hs_bk ind b t) (by omega) e1 (Or.inr (Or.inr ⟨by omega, by omega⟩))
  have i8 := (K.1 _ (by omega : a ≤ hs_bk ind b t + 1) o1).2
  obtain ⟨d1, d2⟩ := hs_DEq (h := h) ta tb e1 e3
  refine ⟨o1, e2, ?_, fun z => ?_, o4, o5⟩
  · rw [hs_D1 i8 o3, if_neg (by omega), d1]
  · rw [hs_in1 i8 o3, decide_eq_false (by omega), Bool.false_or, d2] at z
    exact z
end
section
variable {tx nu LT : Nat → Int32} {cd : Nat → Int64} {lc kp cc : Nat} {P ind h : Nat → Nat} {tk : Nat → List Nat} {ca cb us ue : Nat → Nat} {j : Nat}
theorem hs_Tck (T : hs_T tx nu LT cd lc kp cc P ind h tk ca cb us ue) (hj : j < lc) : hs_ck h ind tk (ca j) (cb j) := by
  obtain ⟨_, _, _, T⟩ := T
  obtain ⟨t1, t2, t3, t4, t5, t6, t7, t8, t9, t10, t11⟩ := T j hj
  refine ⟨fun i i1 i2 => ⟨?_, hs_indLe t6 i1 i2⟩, t10⟩
  have r := (T i (by omega)).2.2.2.2.2.2.2.2.1
  rw [(t4 i i1 i2).1] at r
  exact r
theorem hs_TIK (T : hs_T tx nu LT cd lc kp cc P ind h tk ca cb us ue) (hj : j < lc) : hs_IK LT h ind (ca j) (cb j) := by
  obtain ⟨_, _, _, T⟩ := T
  obtain ⟨t1, t2, t3, t4, t5, t6, t7, t8, t9, t10, t11⟩ := T j hj
  intro i i1 i2
  obtain ⟨s1, s2, s3, s4, s5, s6, s7, s8, s9, s10, s11⟩ := T i (by omega)
  obtain ⟨n1, n2, n3, n4, e, c0, n5, n6, n7, n8, n9⟩ := s8
  refine ⟨n1, ?_, hs_indLe t6 i1 i2⟩
  rw [(t7 i i1 i2).2.2.2]
  exact hs_LFkd n9
/-- a line that begins a chunk is no else line -/
theorem hs_Tfirst (T : hs_T tx nu LT cd lc kp cc P ind h tk ca cb us ue) (hj : j < lc) (hb : cb j < lc) : h (cb j) ≠ 5 := by
  obtain ⟨_, _, _, T⟩ := T
  obtain ⟨t1, t2, t3, t4, t5, t6, t7, t8, t9, t10, t11⟩ := T j hj
  obtain ⟨s1, s2, s3, s4, s5, s6, s7, s8, s9, s10, s11⟩ := T (cb j) hb
  have e : ca (cb j) = cb j := by
    rcases Nat.lt_or_ge (ca (cb j)) (cb j) with z | z
    · have r1 := (s4 (cb j - 1) (by omega) (by omega)).2
      have r2 := (t4 (cb j - 1) (by omega) (by omega)).2
      omega
    · omega
  intro z
  obtain ⟨u, e1, _⟩ := s9.2.2.2.1.2.2.2.1 z
  rw [e, hs_lfA] at e1
  cases e1
end
