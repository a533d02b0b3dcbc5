/-! the order of a sort, on the reference's side -/
section
variable {y_maxObjects y_maxSteps y_maxDepth y_kept y_end y_tokens y_pending y_lines y_classes y_prints y_place y_steps y_d y_valTop y_opTop y_opens y_pos y_tk y_tv y_stmt y_target y_err y_code y_outcome y_dry y_want y_starting y_ended y_bad y_hosted y_sawSuper : Int32} {y_result : Int64} {y_text y_numbers y_classOf y_alive y_orders y_lengths y_letters y_bases y_ops y_fLine y_fPos y_fStmt y_fTarget y_fMask y_fHome y_fOps y_fVals y_fNew y_out : Nat → Int32} {y_globals y_entries y_attrs y_vals y_locals y_fRecv : Nat → Int64}
def hs_YL (ml : Nat → List Nat) (bs : List Nat) : List (List Nat) := bs.map ml ++ [bs]
def hs_or (l : List Nat) (m : Nat) : Nat := l.foldl (fun m x => m ||| 2 ^ x) m
theorem hs_orT {x : Nat} : ∀ (l : List Nat) (m : Nat), (hs_or l m).testBit x = (m.testBit x || decide (x ∈ l))
  | [], m => by
    show m.testBit x = _
    rw [decide_eq_false (fun z => by cases z), Bool.or_false]
  | y :: l, m => by
    show (hs_or l (m ||| 2 ^ y)).testBit x = _
    rw [hs_orT l, hs_tbOr, Bool.or_assoc]
    congr 1
    by_cases e : y = x
    · rw [decide_eq_true e, Bool.true_or, decide_eq_true (by rw [e]; exact List.mem_cons_self ..)]
    · rw [decide_eq_false e, Bool.false_or]
      by_cases z : x ∈ l
      · rw [decide_eq_true z, decide_eq_true (List.mem_cons_of_mem _ z)]
      · rw [decide_eq_false z, decide_eq_false]
        intro w
        cases w with
        | head => exact e rfl
        | tail _ w => exact z w
theorem hs_orLt {c : Nat} (hc : c < 10) {m : Nat} (hm : m < 1024) : m ||| 2 ^ c < 1024 := by
  refine Nat.or_lt_two_pow (n := 10) hm ?_
  exact Nat.pow_lt_pow_right (by decide) hc
theorem hs_shl10 {c : Nat} (hc : c < 10) : (1 : Int32) <<< (nI c &&& 31) = nI (2 ^ c) := by
  have e : (1 : Int32) = nI 1 := rfl
  rw [e, pk_shlN (n := 1) _ c (s_l c (by omega)) (by rw [Nat.one_mul]; exact Nat.lt_of_lt_of_le (Nat.pow_lt_pow_right (by decide) hc) (by decide)), Nat.one_mul]
theorem hs_bit10 {m k : Nat} (hm : m < 1024) (hk : k < 10) : ((nI m >>> (nI k &&& 31)) &&& 1) = (if m.testBit k then 1 else 0) := by
  rw [pk_shrN (n := m) (by omega) _ k (s_l k (by omega)), pk_andN (n := m / 2 ^ k) (by have := Nat.div_le_self m (2 ^ k); omega) 1 (by decide)]
  rw [Nat.testBit_eq_decide_div_mod_eq]
  have := Nat.mod_two_eq_zero_or_one (m / 2 ^ k)
  rcases this with h | h
  · rw [h]; rfl
  · rw [h]; rfl
variable {ml : Nat → List Nat} {bs : List Nat} {cn t c nb : Nat} {oy le ba : Nat → Int32}
/-- what the reference's merge stands on -/
def hs_YM (cn : Nat) (ml : Nat → List Nat) (oy le ba : Nat → Int32) (bs : List Nat) : Prop := cn ≤ 10 ∧ hs_OY cn ml oy le ∧ (∀ c, c < cn → (ml c).length ≤ 10 ∧ ∀ x, x ∈ ml c → x < cn) ∧ bs.length ≤ 2 ∧ (∀ i b, bs[i]? = some b → b < cn ∧ ba i = nI b)
theorem hs_YLm (Y : hs_YM cn ml oy le ba bs) {l : List Nat} (hl : l ∈ hs_YL ml bs) : l.length ≤ 10 ∧ ∀ x, x ∈ l → x < cn := by
  obtain ⟨y1, y2, y3, y4, y5⟩ := Y
  have hb : ∀ b, b ∈ bs → b < cn := by
    intro b hb
    obtain ⟨i, hi⟩ := List.mem_iff_getElem?.mp hb
    exact (y5 i b hi).1
  rcases List.mem_append.mp hl with z | z
  · obtain ⟨b, b1, b2⟩ := List.mem_map.mp z
    rw [← b2]; exact y3 b (hb b b1)
  · have : l = bs := by simpa using z
    rw [this]; exact ⟨by omega, hb⟩
theorem hs_yAt {j k : Nat} {l : List Nat} (Y : hs_YM cn ml oy le ba bs) (hl : (hs_YL ml bs)[j]? = some l) (hk : k ≤ 10) {post : Int32 → Prop} (H : post (hs_gi l k)) : wpY_at post (y_maxObjects, y_maxSteps, y_maxDepth, y_kept, y_end, y_tokens, y_pending, y_lines, y_classes, y_prints, y_place, y_steps, y_d, y_valTop, y_opTop, y_opens, y_pos, y_tk, y_tv, y_stmt, y_target, y_err, y_code, y_outcome, y_result, y_dry, y_want, y_starting, y_ended, y_bad, y_hosted, y_sawSuper, y_text, y_numbers, y_globals, y_entries, y_attrs, y_classOf, y_alive, oy, le, y_letters, ba, y_vals, y_ops, y_locals, y_fRecv, y_fLine, y_fPos, y_fStmt, y_fTarget, y_fMask, y_fHome, y_fOps, y_fVals, y_fNew, y_out) (nI j) (nI bs.length) (nI k) := by
  obtain ⟨y1, y2, y3, y4, y5⟩ := Y
  unfold hs_YL at hl
  have jl : j < bs.length + 1 := by
    rcases Nat.lt_or_ge j (bs.length + 1) with z | z
    · exact z
    · rw [List.getElem?_eq_none (by rw [List.length_append, List.length_map, List.length_singleton]; exact z)] at hl; cases hl
  refine pk_le bs.length j (fun z => ?_) (fun z => ?_)
  · have ej : j = bs.length := by omega
    have el : l = bs := by
      rw [List.getElem?_append_right (by rw [List.length_map]; omega), List.length_map, ej, Nat.sub_self] at hl
      exact (Option.some.inj hl).symm
    subst el
    refine pk_le l.length k (fun w => ?_) (fun w => ?_)
    · rw [hs_giN w] at H; exact H
    · have hb : l[k]? = some l[k] := List.getElem?_eq_getElem w
      rw [hs_giS w] at H
      rw [nI_clamp (show k < 2 ^ 31 by omega), (y5 k _ hb).2]
      exact And.intro (vp_in_nI (by omega) (by decide)) H
  · have hb : bs[j]? = some bs[j] := List.getElem?_eq_getElem z
    obtain ⟨b1, b2⟩ := y5 j _ hb
    have el : l = ml bs[j] := by
      rw [List.getElem?_append_left (by rw [List.length_map]; exact z), List.getElem?_map, hb] at hl
      exact (Option.some.inj hl).symm
    subst el
    obtain ⟨o1, o2⟩ := y2 _ b1
    obtain ⟨p1, p2⟩ := y3 _ b1
    generalize bs[j] = b at *
    have eb : nI b * 10 + nI k = nI (b * 10 + k) := hs_ixMul b 10 k
    rw [nI_clamp (show j < 2 ^ 31 by omega), b2, nI_clamp (show b < 2 ^ 31 by omega), o1, eb, nI_clamp (show b * 10 + k < 2 ^ 31 by omega)]
    refine And.intro (vp_in_nI (by omega) (by decide)) (And.intro (vp_in_nI (by omega) (by decide)) (pk_le (ml b).length k (fun w => ?_) (fun w => ?_)))
    · rw [hs_giN w] at H; exact H
    · rw [← o2 k w] at H
      exact And.intro (vp_in_nI (by omega) (by decide)) (And.intro (vp_in_nI (by omega) (by decide)) H)
theorem hs_dropC {l r : List Nat} {k x : Nat} (e : l.drop k = x :: r) : k < l.length ∧ hs_gi l k = nI x ∧ l.drop (k + 1) = r ∧ x ∈ l := by
  have hk : k < l.length := by
    rcases Nat.lt_or_ge k l.length with z | z
    · exact z
    · rw [List.drop_eq_nil_of_le z] at e; cases e
  have e2 := List.drop_eq_getElem_cons hk
  rw [e] at e2
  injection e2 with e3 e4
  exact ⟨hk, by rw [hs_giS hk, ← e3], e4.symm, by rw [e3]; exact List.getElem_mem hk⟩
theorem hs_yFO {j : Nat} {l : List Nat} (Y : hs_YM cn ml oy le ba bs) (ht : t < 1024) (hl : (hs_YL ml bs)[j]? = some l) {post : Int32 → Prop} : ∀ (r : List Nat) (k : Nat), l.drop k = r → k ≤ 10 → post (hs_oI (hs_fl t r).head?) → wY_firstOf_13 post (nI j) (nI bs.length) (nI t) y_maxObjects y_maxSteps y_maxDepth y_kept y_end y_tokens y_pending y_lines y_classes y_prints y_place y_steps y_d y_valTop y_opTop y_opens y_pos y_tk y_tv y_stmt y_target y_err y_code y_outcome y_result y_dry y_want y_starting y_ended y_bad y_hosted y_sawSuper y_text y_numbers y_globals y_entries y_attrs y_classOf y_alive oy le y_letters ba y_vals y_ops y_locals y_fRecv y_fLine y_fPos y_fStmt y_fTarget y_fMask y_fHome y_fOps y_fVals y_fNew y_out (r.length + 1) (nI k) (hs_gi l k) := by
  obtain ⟨l1, l2⟩ := hs_YLm Y (List.mem_of_getElem? hl)
  have y1 := Y.1
  intro r
  induction r with
  | nil =>
    intro k e hk H
    have : l.length ≤ k := List.drop_eq_nil_iff.mp e
    rw [hs_giN this]
    exact br_t (by decide) H
  | cons x r ih =>
    intro k e hk H
    obtain ⟨k1, k2, k3, k4⟩ := hs_dropC e
    have x10 := l2 x k4
    rw [k2]
    refine br_f (nI_pos (by omega)) ?_
    rw [hs_bit10 ht (by omega)]
    unfold hs_fl at H
    rw [List.filter_cons] at H
    cases q : t.testBit x with
    | true =>
      rw [q, if_neg (by decide)] at H
      exact br_f (by decide) (nm_r (nI_1 k) (hs_yAt Y hl (by omega) (ih (k + 1) k3 (by omega) H)))
    | false =>
      rw [q, if_pos (by decide)] at H
      exact br_t rfl H
theorem hs_yFirst {j : Nat} {l : List Nat} (Y : hs_YM cn ml oy le ba bs) (ht : t < 1024) (hl : (hs_YL ml bs)[j]? = some l) {post : Int32 → Prop} (H : post (hs_oI (hs_fl t l).head?)) : wpY_firstOf post (y_maxObjects, y_maxSteps, y_maxDepth, y_kept, y_end, y_tokens, y_pending, y_lines, y_classes, y_prints, y_place, y_steps, y_d, y_valTop, y_opTop, y_opens, y_pos, y_tk, y_tv, y_stmt, y_target, y_err, y_code, y_outcome, y_result, y_dry, y_want, y_starting, y_ended, y_bad, y_hosted, y_sawSuper, y_text, y_numbers, y_globals, y_entries, y_attrs, y_classOf, y_alive, oy, le, y_letters, ba, y_vals, y_ops, y_locals, y_fRecv, y_fLine, y_fPos, y_fStmt, y_fTarget, y_fMask, y_fHome, y_fOps, y_fVals, y_fNew, y_out) (nI j) (nI bs.length) (nI t) := by
  unfold wpY_firstOf
  exact hs_yAt (k := 0) Y hl (Nat.zero_le _) ⟨l.length + 1, hs_yFO Y ht hl l 0 rfl (Nat.zero_le _) H⟩
def hs_fr (t c : Nat) : List Nat → Nat → Bool
  | [], _ => true
  | x :: r, left => if x = c ∧ 0 < left then false else hs_fr t c r (if t.testBit x = true then left else left + 1)
theorem hs_frP {t c : Nat} : ∀ (l : List Nat) (left : Nat), 0 < left → (hs_fr t c l left = true ↔ c ∉ l)
  | [], _, _ => ⟨fun _ z => (by cases z), fun _ => rfl⟩
  | x :: r, left, hl => by
    unfold hs_fr
    by_cases e : x = c
    · rw [if_pos ⟨e, hl⟩]
      exact ⟨fun z => (by cases z), fun z => absurd (show c ∈ x :: r by rw [e]; exact List.mem_cons_self ..) z⟩
    · rw [if_neg (fun z => e z.1), hs_frP r _ (by split <;> omega)]
      constructor
      · intro z w
        cases w with
        | head => exact e rfl
        | tail _ w => exact z w
      · intro z w
        exact z (List.mem_cons_of_mem _ w)
theorem hs_frT {t c : Nat} (ht : t.testBit c = false) : ∀ (l : List Nat), hs_fr t c l 0 = true ↔ c ∉ (hs_fl t l).tail
  | [] => ⟨fun _ z => (by cases z), fun _ => rfl⟩
  | x :: r => by
    unfold hs_fr
    rw [if_neg (fun z => by have := z.2; omega)]
    cases q : t.testBit x with
    | true =>
      rw [if_pos rfl]
      have e : hs_fl t (x :: r) = hs_fl t r := by unfold hs_fl; rw [List.filter_cons, q, if_neg (by decide)]
      rw [e]
      exact hs_frT ht r
    | false =>
      rw [if_neg (by decide), hs_frP r 1 (by omega)]
      have e : hs_fl t (x :: r) = x :: hs_fl t r := by unfold hs_fl; rw [List.filter_cons, q, if_pos (by decide)]
      rw [e]
      show c ∉ r ↔ c ∉ hs_fl t r
      constructor
      · intro z w; exact z (hs_flM.mp w).1
      · intro z w; exact z (hs_flM.mpr ⟨w, ht⟩)
theorem hs_yFr15 {j : Nat} {l : List Nat} (Y : hs_YM cn ml oy le ba bs) (ht : t < 1024) (hc : c < 10) (hl : (hs_YL ml bs)[j]? = some l) {post : Int32 → Prop} {J : Int32 → Prop} : ∀ (n k left : Nat), k + n = 10 → left ≤ k → (hs_fr t c (l.drop k) left = true → J (nI (j + 1))) → (hs_fr t c (l.drop k) left = false → post 0) → wY_free_15 post J (nI c) (nI bs.length) (nI t) (nI j) y_maxObjects y_maxSteps y_maxDepth y_kept y_end y_tokens y_pending y_lines y_classes y_prints y_place y_steps y_d y_valTop y_opTop y_opens y_pos y_tk y_tv y_stmt y_target y_err y_code y_outcome y_result y_dry y_want y_starting y_ended y_bad y_hosted y_sawSuper y_text y_numbers y_globals y_entries y_attrs y_classOf y_alive oy le y_letters ba y_vals y_ops y_locals y_fRecv y_fLine y_fPos y_fStmt y_fTarget y_fMask y_fHome y_fOps y_fVals y_fNew y_out (n + 1) (nI left) (nI k) := by
  obtain ⟨l1, l2⟩ := hs_YLm Y (List.mem_of_getElem? hl)
  have y1 := Y.1
  intro n
  induction n with
  | zero =>
    intro k left hk h1 H1 H0
    refine br_t (nI_le (a := 10) (by omega) (by omega)) (nm_r (nI_1 j) (H1 ?_))
    rw [List.drop_eq_nil_of_le (by omega)]; rfl
  | succ n ih =>
    intro k left hk h1 H1 H0
    refine br_f (nI_ge (b := 10) (by omega) (by decide)) (hs_yAt Y hl (by omega) ?_)
    cases e : l.drop k with
    | nil =>
      have hlk : l.length ≤ k := List.drop_eq_nil_iff.mp e
      have e2 : l.drop (k + 1) = [] := List.drop_eq_nil_of_le (by omega)
      rw [e] at H1
      rw [hs_giN hlk]
      refine br_f (fun z => hs_neM1 (a := c) (by omega) z.symm) ?_
      unfold wY_free_46
      exact br_t (by decide) (nm_r (nI_1 k) (ih (k + 1) left (by omega) (by omega) (fun _ => H1 rfl) (fun z => by rw [e2] at z; cases z)))
    | cons x r =>
      obtain ⟨k1, k2, k3, k4⟩ := hs_dropC e
      have x10 := l2 x k4
      rw [e] at H1 H0
      unfold hs_fr at H1 H0
      rw [k2]
      have w46 : ¬ (x = c ∧ 0 < left) → wY_free_46 post J (wY_free_15 post J (nI c) (nI bs.length) (nI t) (nI j) y_maxObjects y_maxSteps y_maxDepth y_kept y_end y_tokens y_pending y_lines y_classes y_prints y_place y_steps y_d y_valTop y_opTop y_opens y_pos y_tk y_tv y_stmt y_target y_err y_code y_outcome y_result y_dry y_want y_starting y_ended y_bad y_hosted y_sawSuper y_text y_numbers y_globals y_entries y_attrs y_classOf y_alive oy le y_letters ba y_vals y_ops y_locals y_fRecv y_fLine y_fPos y_fStmt y_fTarget y_fMask y_fHome y_fOps y_fVals y_fNew y_out (n + 1)) (nI c) (nI bs.length) (nI t) (nI j) (nI left) (nI k) (nI x) y_maxObjects y_maxSteps y_maxDepth y_kept y_end y_tokens y_pending y_lines y_classes y_prints y_place y_steps y_d y_valTop y_opTop y_opens y_pos y_tk y_tv y_stmt y_target y_err y_code y_outcome y_result y_dry y_want y_starting y_ended y_bad y_hosted y_sawSuper y_text y_numbers y_globals y_entries y_attrs y_classOf y_alive oy le y_letters ba y_vals y_ops y_locals y_fRecv y_fLine y_fPos y_fStmt y_fTarget y_fMask y_fHome y_fOps y_fVals y_fNew y_out := by
        intro nz
        rw [if_neg nz] at H1 H0
        unfold wY_free_46
        refine br_f (nI_pos (by omega)) ?_
        rw [hs_bit10 ht (by omega)]
        cases q : t.testBit x with
        | true =>
          rw [q, if_pos rfl] at H1 H0
          exact br_f (by decide) (nm_r (nI_1 k) (ih (k + 1) left (by omega) (by omega) (by rw [k3]; exact H1) (by rw [k3]; exact H0)))
        | false =>
          rw [q, if_neg (by decide)] at H1 H0
          exact br_t rfl (nm_r (nI_1 left) (nm_r (nI_1 k) (ih (k + 1) (left + 1) (by omega) (by omega) (by rw [k3]; exact H1) (by rw [k3]; exact H0))))
      refine pk_eq x c (fun z => pk_le left 0 (fun w => w46 (fun y => by omega)) (fun w => ?_)) (fun z => w46 (fun y => z y.1))
      rw [if_pos ⟨z, w⟩] at H0
      exact H0 rfl
theorem hs_yFree (Y : hs_YM cn ml oy le ba bs) (ht : t < 1024) (hc : c < 10) (htc : t.testBit c = false) {post : Int32 → Prop} (H1 : hs_beh ((hs_YL ml bs).map (hs_fl t)) c = false → post 1) (H0 : hs_beh ((hs_YL ml bs).map (hs_fl t)) c = true → post 0) : wpY_free post (y_maxObjects, y_maxSteps, y_maxDepth, y_kept, y_end, y_tokens, y_pending, y_lines, y_classes, y_prints, y_place, y_steps, y_d, y_valTop, y_opTop, y_opens, y_pos, y_tk, y_tv, y_stmt, y_target, y_err, y_code, y_outcome, y_result, y_dry, y_want, y_starting, y_ended, y_bad, y_hosted, y_sawSuper, y_text, y_numbers, y_globals, y_entries, y_attrs, y_classOf, y_alive, oy, le, y_letters, ba, y_vals, y_ops, y_locals, y_fRecv, y_fLine, y_fPos, y_fStmt, y_fTarget, y_fMask, y_fHome, y_fOps, y_fVals, y_fNew, y_out) (nI c) (nI bs.length) (nI t) := by
  have y4 := Y.2.2.2.1
  have ylen : (hs_YL ml bs).length = bs.length + 1 := by unfold hs_YL; rw [List.length_append, List.length_map, List.length_singleton]
  have main : ∀ (n j : Nat), j + n = bs.length + 1 → (∀ i l, i < j → (hs_YL ml bs)[i]? = some l → c ∉ (hs_fl t l).tail) → wY_free_3 post (nI c) (nI bs.length) (nI t) y_maxObjects y_maxSteps y_maxDepth y_kept y_end y_tokens y_pending y_lines y_classes y_prints y_place y_steps y_d y_valTop y_opTop y_opens y_pos y_tk y_tv y_stmt y_target y_err y_code y_outcome y_result y_dry y_want y_starting y_ended y_bad y_hosted y_sawSuper y_text y_numbers y_globals y_entries y_attrs y_classOf y_alive oy le y_letters ba y_vals y_ops y_locals y_fRecv y_fLine y_fPos y_fStmt y_fTarget y_fMask y_fHome y_fOps y_fVals y_fNew y_out (n + 1) (nI j) := by
    intro n
    induction n with
    | zero =>
      intro j hj hno
      refine br_t ((nI_ltI (by omega) (by omega)).mpr (by omega)) (H1 (hs_behT (fun l hl => ?_)))
      obtain ⟨l0, h1, h2⟩ := List.mem_map.mp hl
      obtain ⟨i, hi⟩ := List.mem_iff_getElem?.mp h1
      have : i < (hs_YL ml bs).length := by
        rcases Nat.lt_or_ge i (hs_YL ml bs).length with z | z
        · exact z
        · rw [List.getElem?_eq_none z] at hi; cases hi
      rw [← h2]
      exact hno i l0 (by omega) hi
    | succ n ih =>
      intro j hj hno
      have jl : j < (hs_YL ml bs).length := by omega
      have hl : (hs_YL ml bs)[j]? = some (hs_YL ml bs)[j] := List.getElem?_eq_getElem jl
      refine br_f (fun z => by have := (nI_ltI (a := bs.length) (b := j) (by omega) (by omega)).mp z; omega) ⟨11, hs_yFr15 Y ht hc hl 10 0 0 (by omega) (by omega) (fun z => ih (j + 1) (by omega) (fun i l i1 i2 => ?_)) (fun z => H0 ?_)⟩
      · rw [List.drop_zero] at z
        by_cases e : i = j
        · subst e
          rw [hl] at i2
          have := Option.some.inj i2
          rw [← this]
          exact (hs_frT htc _).mp z
        · exact hno i l (by omega) i2
      · rw [List.drop_zero] at z
        cases q : hs_beh ((hs_YL ml bs).map (hs_fl t)) c with
        | true => rfl
        | false =>
          have := (hs_frT htc _).mpr (hs_behF q (List.mem_map.mpr ⟨_, List.mem_of_getElem? hl, rfl⟩))
          rw [z] at this; cases this
  exact ⟨bs.length + 2, main (bs.length + 1) 0 (by omega) (fun i l hi => by omega)⟩
end
