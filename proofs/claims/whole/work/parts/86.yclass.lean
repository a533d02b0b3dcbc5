/-! the order of a sort, on the reference's side: the merge whole -/
section
variable {y_maxObjects y_maxSteps y_maxDepth y_kept y_end y_tokens y_pending y_lines y_classes y_prints y_place y_steps y_d y_valTop y_opTop y_opens y_pos y_tk y_tv y_stmt y_target y_err y_code y_outcome y_dry y_want y_starting y_ended y_bad y_hosted y_sawSuper : Int32} {y_result : Int64} {y_text y_numbers y_classOf y_alive y_orders y_lengths y_letters y_bases y_ops y_fLine y_fPos y_fStmt y_fTarget y_fMask y_fHome y_fOps y_fVals y_fNew y_out : Nat → Int32} {y_globals y_entries y_attrs y_vals y_locals y_fRecv : Nat → Int64}
variable {ml : Nat → List Nat} {bs : List Nat} {cn t c nb : Nat} {oy le ba lt tx LT : Nat → Int32}
theorem hs_L3Y (h2 : bs.length ≤ 2) (t : Nat) : (∀ B, hs_pick B ((hs_L3 (hs_Lo ml bs[0]? bs[1]?)).map (hs_fl t)) = hs_pick B ((hs_YL ml bs).map (hs_fl t))) ∧ hs_beh ((hs_L3 (hs_Lo ml bs[0]? bs[1]?)).map (hs_fl t)) = hs_beh ((hs_YL ml bs).map (hs_fl t)) ∧ ((hs_L3 (hs_Lo ml bs[0]? bs[1]?)).map (hs_fl t)).all (fun l => l.isEmpty) = ((hs_YL ml bs).map (hs_fl t)).all (fun l => l.isEmpty) := by
  match bs, h2 with
  | [], _ => exact ⟨fun B => rfl, rfl, rfl⟩
  | [a], _ =>
    refine ⟨fun B => ?_, rfl, rfl⟩
    show hs_pick B [hs_fl t (ml a), [], hs_fl t [a]] = hs_pick B [hs_fl t (ml a), hs_fl t [a]]
    cases hs_fl t (ml a) with
    | nil => rfl
    | cons x r => rfl
  | [a, b], _ => exact ⟨fun B => rfl, rfl, rfl⟩
  | _ :: _ :: _ :: _, h2 => exact absurd h2 (by simp)
theorem hs_mgY (h2 : bs.length ≤ 2) : ∀ (n t : Nat), hs_mg (hs_L3 (hs_Lo ml bs[0]? bs[1]?)) n t = hs_mg (hs_YL ml bs) n t
  | 0, _ => rfl
  | n + 1, t => by
    obtain ⟨e1, e2, e3⟩ := hs_L3Y (ml := ml) h2 t
    unfold hs_mg
    rw [e2, e1, e3]
    cases q : hs_pick (hs_beh ((hs_YL ml bs).map (hs_fl t))) ((hs_YL ml bs).map (hs_fl t)) with
    | none => rfl
    | some c =>
      show Option.map _ (hs_mg _ n _) = Option.map _ (hs_mg _ n _)
      rw [hs_mgY h2 n]
theorem hs_yM85 {x3 x4 : Int32} (Y : hs_YM cn ml oy le ba bs) (ht : t < 1024) {post : Int32 → SY → Prop} {J : Int32 → Int32 → (Nat → Int32) → (Nat → Int32) → (Nat → Int64) → (Nat → Int64) → (Nat → Int64) → (Nat → Int32) → (Nat → Int32) → (Nat → Int32) → (Nat → Int32) → (Nat → Int32) → (Nat → Int32) → (Nat → Int64) → (Nat → Int32) → (Nat → Int64) → (Nat → Int64) → (Nat → Int32) → (Nat → Int32) → (Nat → Int32) → (Nat → Int32) → (Nat → Int32) → (Nat → Int32) → (Nat → Int32) → (Nat → Int32) → (Nat → Int32) → (Nat → Int32) → Prop}
    (Hs : ∀ c, hs_pick (hs_beh ((hs_YL ml bs).map (hs_fl t))) ((hs_YL ml bs).map (hs_fl t)) = some c → ∀ x : Int32, x = nI t ||| ((1 : Int32) <<< (nI c &&& 31)) → ((10 ≤ nI cn → (∀ x3' : Int32, x3' = x3 + 1 → J x x3' y_text y_numbers y_globals y_entries y_attrs y_classOf y_alive oy le y_letters ba y_vals y_ops y_locals y_fRecv y_fLine y_fPos y_fStmt y_fTarget y_fMask y_fHome y_fOps y_fVals y_fNew y_out)) ∧ (¬ 10 ≤ nI cn → (vp_in ((nI cn * 10) + x3) 100 ∧ ∀ o9 : Nat → Int32, o9 = upd oy ((nI cn * 10) + x3).toNatClampNeg (nI c) → ∀ x3' : Int32, x3' = x3 + 1 → J x x3' y_text y_numbers y_globals y_entries y_attrs y_classOf y_alive o9 le y_letters ba y_vals y_ops y_locals y_fRecv y_fLine y_fPos y_fStmt y_fTarget y_fMask y_fHome y_fOps y_fVals y_fNew y_out))))
    (Hn : hs_pick (hs_beh ((hs_YL ml bs).map (hs_fl t))) ((hs_YL ml bs).map (hs_fl t)) = none → post (-1) (y_maxObjects, y_maxSteps, y_maxDepth, y_kept, y_end, y_tokens, y_pending, y_lines, nI cn, y_prints, y_place, y_steps, y_d, y_valTop, y_opTop, y_opens, y_pos, y_tk, y_tv, y_stmt, y_target, y_err, y_code, y_outcome, y_result, y_dry, y_want, y_starting, y_ended, y_bad, y_hosted, y_sawSuper, y_text, y_numbers, y_globals, y_entries, y_attrs, y_classOf, y_alive, oy, le, y_letters, ba, y_vals, y_ops, y_locals, y_fRecv, y_fLine, y_fPos, y_fStmt, y_fTarget, y_fMask, y_fHome, y_fOps, y_fVals, y_fNew, y_out)) :
    ∀ (j n : Nat), j ≤ bs.length + 1 → j < n → ∀ x5 x6 : Int32, x5 = hs_oI (hs_pick (hs_beh ((hs_YL ml bs).map (hs_fl t))) (((hs_YL ml bs).map (hs_fl t)).drop j)) → x6 = nI j - 1 → wY_merge_85 post J (nI bs.length) (nI t) x3 x4 y_maxObjects y_maxSteps y_maxDepth y_kept y_end y_tokens y_pending y_lines (nI cn) y_prints y_place y_steps y_d y_valTop y_opTop y_opens y_pos y_tk y_tv y_stmt y_target y_err y_code y_outcome y_result y_dry y_want y_starting y_ended y_bad y_hosted y_sawSuper y_text y_numbers y_globals y_entries y_attrs y_classOf y_alive oy le y_letters ba y_vals y_ops y_locals y_fRecv y_fLine y_fPos y_fStmt y_fTarget y_fMask y_fHome y_fOps y_fVals y_fNew y_out n x5 x6 := by
  have y4 := Y.2.2.2.1
  have y1 := Y.1
  have ylen : (hs_YL ml bs).length = bs.length + 1 := by unfold hs_YL; rw [List.length_append, List.length_map, List.length_singleton]
  have hL3 : ∀ l, l ∈ hs_YL ml bs → ∀ x, x ∈ l → x < cn := fun l hl => (hs_YLm Y hl).2
  intro j
  induction j with
  | zero =>
    intro n hj hn x5 x6 e5 e6
    obtain ⟨n', rfl⟩ : ∃ n', n = n' + 1 := ⟨n - 1, by omega⟩
    rw [List.drop_zero] at e5
    subst e5 e6
    refine br_t (by decide) ?_
    cases q : hs_pick (hs_beh ((hs_YL ml bs).map (hs_fl t))) ((hs_YL ml bs).map (hs_fl t)) with
    | none => exact br_f (show ¬ (0 : Int32) ≤ -1 by decide) (Hn q)
    | some c =>
      obtain ⟨c1, _, _⟩ := hs_pickT hL3 q
      exact br_t (show (0 : Int32) ≤ nI c from nI_pos' (by omega)) (Hs c q)
  | succ j ih =>
    intro n hj hn x5 x6 e5 e6
    obtain ⟨n', rfl⟩ : ∃ n', n = n' + 1 := ⟨n - 1, by omega⟩
    have jl : j < (hs_YL ml bs).length := by omega
    have hl : (hs_YL ml bs)[j]? = some (hs_YL ml bs)[j] := List.getElem?_eq_getElem jl
    obtain ⟨m1, m2⟩ := hs_YLm Y (List.mem_of_getElem? hl)
    have ed : ((hs_YL ml bs).map (hs_fl t)).drop j = hs_fl t (hs_YL ml bs)[j] :: ((hs_YL ml bs).map (hs_fl t)).drop (j + 1) := by
      rw [List.drop_eq_getElem_cons (by rw [List.length_map]; exact jl), List.getElem_map]
    have e6' : x6 = nI j := by rw [e6]; exact nI_pred j
    subst e6'
    have en : nI j + (-1) = nI j - 1 := by rw [Int32.sub_eq_add_neg]
    generalize (hs_YL ml bs)[j] = l at *
    refine br_f (nI_pos (by omega)) (hs_yFirst Y ht hl ?_)
    cases q : hs_fl t l with
    | nil =>
      rw [q] at ed
      refine br_t (show (-1 : Int32) < 0 by decide) (nm_r en (ih n' (by omega) (by omega) x5 _ ?_ rfl))
      rw [e5, ed]; rfl
    | cons f r =>
      rw [q] at ed
      have hf := hs_flM.mp (show f ∈ hs_fl t l by rw [q]; exact List.mem_cons_self ..)
      have f10 := m2 f hf.1
      show (nI f < 0 → _) ∧ _
      refine br_f (nI_pos (by omega)) (hs_yFree Y ht (by omega) hf.2 (fun z => br_f (by decide) (nm_r en (ih n' (by omega) (by omega) _ _ ?_ rfl))) (fun z => br_t rfl (nm_r en (ih n' (by omega) (by omega) x5 _ ?_ rfl))))
      · rw [ed]
        show nI f = hs_oI (if hs_beh ((hs_YL ml bs).map (hs_fl t)) f = true then _ else some f)
        rw [z, if_neg (by decide)]; rfl
      · rw [e5, ed]
        show _ = hs_oI (if hs_beh ((hs_YL ml bs).map (hs_fl t)) f = true then hs_pick _ _ else some f)
        rw [z, if_pos rfl]
theorem hs_allE {A : Nat} (hA : ∀ x, A.testBit x = true ↔ ∃ l, l ∈ hs_YL ml bs ∧ x ∈ l) (hs : ∀ x, t.testBit x = true → A.testBit x = true) : ((hs_YL ml bs).map (hs_fl t)).all (fun l => l.isEmpty) = true ↔ t = A := by
  rw [List.all_eq_true]
  constructor
  · intro h
    refine Nat.eq_of_testBit_eq (fun x => ?_)
    cases q : A.testBit x with
    | false =>
      cases q2 : t.testBit x with
      | false => rfl
      | true => rw [hs x q2] at q; cases q
    | true =>
      obtain ⟨l, h1, h2⟩ := (hA x).mp q
      have e := List.isEmpty_iff.mp (h _ (List.mem_map.mpr ⟨l, h1, rfl⟩))
      cases q2 : t.testBit x with
      | true => rfl
      | false =>
        have := hs_flM.mpr ⟨h2, q2⟩
        rw [e] at this; cases this
  · rintro rfl l hl
    obtain ⟨l0, h1, h2⟩ := List.mem_map.mp hl
    rw [List.isEmpty_iff]
    cases q : l with
    | nil => rfl
    | cons x r =>
      exfalso
      have hx : x ∈ hs_fl t l0 := by rw [h2, q]; exact List.mem_cons_self ..
      obtain ⟨x1, x2⟩ := hs_flM.mp hx
      have := (hA x).mpr ⟨l0, h1, x1⟩
      rw [this] at x2; cases x2
theorem hs_yM73 {A : Nat} {oy0 : Nat → Int32} (hA : ∀ x, A.testBit x = true ↔ ∃ l, l ∈ hs_YL ml bs ∧ x ∈ l) (hA10 : A < 1024) {post : Int32 → SY → Prop}
    (H1 : ∀ l oy', hs_mg (hs_YL ml bs) 11 0 = some l → (∀ j, (j < cn * 10 ∨ cn * 10 + 10 ≤ j) → oy' j = oy0 j) → (cn < 10 → ∀ k, k < l.length + 1 → oy' (cn * 10 + k) = hs_gi (cn :: l) k) → post (nI (l.length + 1)) (y_maxObjects, y_maxSteps, y_maxDepth, y_kept, y_end, y_tokens, y_pending, y_lines, nI cn, y_prints, y_place, y_steps, y_d, y_valTop, y_opTop, y_opens, y_pos, y_tk, y_tv, y_stmt, y_target, y_err, y_code, y_outcome, y_result, y_dry, y_want, y_starting, y_ended, y_bad, y_hosted, y_sawSuper, y_text, y_numbers, y_globals, y_entries, y_attrs, y_classOf, y_alive, oy', le, y_letters, ba, y_vals, y_ops, y_locals, y_fRecv, y_fLine, y_fPos, y_fStmt, y_fTarget, y_fMask, y_fHome, y_fOps, y_fVals, y_fNew, y_out))
    (H0 : hs_mg (hs_YL ml bs) 11 0 = none → ∀ oy', (∀ j, (j < cn * 10 ∨ cn * 10 + 10 ≤ j) → oy' j = oy0 j) → post (-1) (y_maxObjects, y_maxSteps, y_maxDepth, y_kept, y_end, y_tokens, y_pending, y_lines, nI cn, y_prints, y_place, y_steps, y_d, y_valTop, y_opTop, y_opens, y_pos, y_tk, y_tv, y_stmt, y_target, y_err, y_code, y_outcome, y_result, y_dry, y_want, y_starting, y_ended, y_bad, y_hosted, y_sawSuper, y_text, y_numbers, y_globals, y_entries, y_attrs, y_classOf, y_alive, oy', le, y_letters, ba, y_vals, y_ops, y_locals, y_fRecv, y_fLine, y_fPos, y_fStmt, y_fTarget, y_fMask, y_fHome, y_fOps, y_fVals, y_fNew, y_out)) :
    ∀ (n t : Nat) (pre : List Nat) (oy : Nat → Int32), hs_un cn t < n → t < 1024 → (∀ x, t.testBit x = true → A.testBit x = true) → hs_YM cn ml oy le ba bs → pre.length + hs_un cn t ≤ cn → hs_mg (hs_YL ml bs) 11 0 = (hs_mg (hs_YL ml bs) n t).map (fun l => pre ++ l) → (∀ j, (j < cn * 10 ∨ cn * 10 + 10 ≤ j) → oy j = oy0 j) → (cn < 10 → ∀ k, k < pre.length + 1 → oy (cn * 10 + k) = hs_gi (cn :: pre) k) → wY_merge_73 post (nI bs.length) (nI A) y_maxObjects y_maxSteps y_maxDepth y_kept y_end y_tokens y_pending y_lines (nI cn) y_prints y_place y_steps y_d y_valTop y_opTop y_opens y_pos y_tk y_tv y_stmt y_target y_err y_code y_outcome y_result y_dry y_want y_starting y_ended y_bad y_hosted y_sawSuper n (nI t) (nI (pre.length + 1)) y_text y_numbers y_globals y_entries y_attrs y_classOf y_alive oy le y_letters ba y_vals y_ops y_locals y_fRecv y_fLine y_fPos y_fStmt y_fTarget y_fMask y_fHome y_fOps y_fVals y_fNew y_out := by
  intro n
  induction n with
  | zero => intro t pre oy h1; omega
  | succ n ih =>
    intro t pre oy hu ht hs Y hp hm ho hr
    have y1 := Y.1
    have y4 := Y.2.2.2.1
    have hL3 : ∀ l, l ∈ hs_YL ml bs → ∀ x, x ∈ l → x < cn := fun l hl => (hs_YLm Y hl).2
    have ae := hs_allE (t := t) hA hs
    have em : hs_mg (hs_YL ml bs) (n + 1) t = match hs_pick (hs_beh ((hs_YL ml bs).map (hs_fl t))) ((hs_YL ml bs).map (hs_fl t)) with | some c => (hs_mg (hs_YL ml bs) n (t ||| 2 ^ c)).map (fun l => c :: l) | none => if ((hs_YL ml bs).map (hs_fl t)).all (fun l => l.isEmpty) = true then some [] else none := rfl
    rw [em] at hm
    refine pk_eq t A (fun z => ?_) (fun z => ⟨bs.length + 2, hs_yM85 Y ht (fun c q x ex => ?_) (fun q => ?_) (bs.length + 1) (bs.length + 2) (by omega) (by omega) (-1) (nI bs.length) ?_ ?_⟩)
    · have ae' := ae.mpr z
      have pn : hs_pick (hs_beh ((hs_YL ml bs).map (hs_fl t))) ((hs_YL ml bs).map (hs_fl t)) = none := by
        cases q : hs_pick (hs_beh ((hs_YL ml bs).map (hs_fl t))) ((hs_YL ml bs).map (hs_fl t)) with
        | none => rfl
        | some c =>
          obtain ⟨_, l, r, l1, l2⟩ := hs_pickM q
          rw [List.all_eq_true] at ae'
          have := ae' l l1
          rw [l2] at this; cases this
      rw [pn] at hm
      have hm2 : hs_mg (hs_YL ml bs) 11 0 = Option.map (fun l => pre ++ l) (if ((hs_YL ml bs).map (hs_fl t)).all (fun l => l.isEmpty) = true then some [] else none) := hm
      rw [if_pos ae'] at hm2
      have hm' : hs_mg (hs_YL ml bs) 11 0 = some pre := by rw [hm2]; exact congrArg some (List.append_nil pre)
      exact H1 pre oy hm' ho hr
    · rw [q] at hm
      obtain ⟨c1, c2, l, c3, c4⟩ := hs_pickT hL3 q
      have ul := hs_unLt c1 c2
      have ex' : x = nI (t ||| 2 ^ c) := by rw [ex, hs_shl10 (by omega), hs_nor]
      subst ex'
      have t' := hs_orLt (c := c) (by omega) ht
      have hs' : ∀ x, (t ||| 2 ^ c).testBit x = true → A.testBit x = true := by
        intro x hx
        rw [hs_tbOr, Bool.or_eq_true, decide_eq_true_eq] at hx
        rcases hx with w | w
        · exact hs x w
        · rw [← w]; exact (hA c).mpr ⟨l, c3, c4⟩
      have hm' : hs_mg (hs_YL ml bs) 11 0 = (hs_mg (hs_YL ml bs) n (t ||| 2 ^ c)).map (fun l => pre ++ [c] ++ l) := by
        rw [hm]
        show Option.map _ (Option.map _ (hs_mg (hs_YL ml bs) n (t ||| 2 ^ c))) = _
        cases hs_mg (hs_YL ml bs) n (t ||| 2 ^ c) with
        | none => rfl
        | some l =>
          show some (pre ++ c :: l) = some (pre ++ [c] ++ l)
          rw [List.append_assoc]; rfl
      have ln : (pre ++ [c]).length = pre.length + 1 := by rw [List.length_append, List.length_singleton]
      have en : nI (pre.length + 1) + 1 = nI ((pre ++ [c]).length + 1) := by rw [ln]; exact nI_1 _
      have ei : nI cn * 10 + nI (pre.length + 1) = nI (cn * 10 + (pre.length + 1)) := hs_ixMul cn 10 _
      refine pk_le 10 cn (fun w => nm_r en (ih (t ||| 2 ^ c) (pre ++ [c]) oy (by omega) t' hs' Y (by omega) hm' ho (fun y => by omega))) (fun w => ?_)
      rw [ei, nI_clamp (show cn * 10 + (pre.length + 1) < 2 ^ 31 by omega)]
      refine And.intro (vp_in_nI (by omega) (by decide)) (nm_e (nm_r en (ih (t ||| 2 ^ c) (pre ++ [c]) _ (by omega) t' hs' ?_ (by omega) hm' (fun j hj => ?_) (fun _ k hk => ?_))))
      · obtain ⟨y1, y2, y3, y4, y5⟩ := Y
        refine ⟨y1, fun c' hc' => ⟨(y2 c' hc').1, fun k hk => ?_⟩, y3, y4, y5⟩
        have := (y3 c' hc').1
        rw [pk_un (by omega)]
        exact (y2 c' hc').2 k hk
      · rw [pk_un (by omega)]; exact ho j hj
      · by_cases zk : k = pre.length + 1
        · subst zk
          rw [pk_us]
          have e : (cn :: (pre ++ [c]))[pre.length + 1]? = some c := by
            rw [List.getElem?_cons_succ, List.getElem?_append_right (Nat.le_refl _), Nat.sub_self]; rfl
          unfold hs_gi
          rw [e]
        · rw [pk_un (by omega), hr w k (by omega)]
          have e : (cn :: (pre ++ [c]))[k]? = (cn :: pre)[k]? := by
            rw [show cn :: (pre ++ [c]) = (cn :: pre) ++ [c] from rfl, List.getElem?_append_left (by rw [List.length_cons]; omega)]
          unfold hs_gi
          rw [e]
    · rw [q] at hm
      have hm2 : hs_mg (hs_YL ml bs) 11 0 = Option.map (fun l => pre ++ l) (if ((hs_YL ml bs).map (hs_fl t)).all (fun l => l.isEmpty) = true then some [] else none) := hm
      rw [if_neg (fun y => z (ae.mp y))] at hm2
      exact H0 hm2 oy ho
    · have : ((hs_YL ml bs).map (hs_fl t)).drop (bs.length + 1) = [] := by
        refine List.drop_eq_nil_of_le ?_
        rw [List.length_map]
        unfold hs_YL
        rw [List.length_append, List.length_map, List.length_singleton]
        exact Nat.le_refl _
      rw [this]; rfl
    · exact (nI_pred bs.length).symm
def hs_orA (ml : Nat → List Nat) : List Nat → Nat → Nat
  | [], m => m
  | b :: r, m => hs_orA ml r (hs_or (ml b) m)
theorem hs_orAT {x : Nat} : ∀ (l : List Nat) (m : Nat), (hs_orA ml l m).testBit x = true ↔ (m.testBit x = true ∨ ∃ b, b ∈ l ∧ x ∈ ml b)
  | [], m => ⟨fun z => Or.inl z, fun z => z.elim id (fun ⟨b, h1, _⟩ => by cases h1)⟩
  | b :: r, m => by
    show (hs_orA ml r (hs_or (ml b) m)).testBit x = true ↔ _
    rw [hs_orAT r, hs_orT, Bool.or_eq_true, decide_eq_true_eq]
    constructor
    · rintro ((z | z) | ⟨b', h1, h2⟩)
      · exact Or.inl z
      · exact Or.inr ⟨b, List.mem_cons_self .., z⟩
      · exact Or.inr ⟨b', List.mem_cons_of_mem _ h1, h2⟩
    · rintro (z | ⟨b', h1, h2⟩)
      · exact Or.inl (Or.inl z)
      · cases h1 with
        | head => exact Or.inl (Or.inr h2)
        | tail _ h1 => exact Or.inr ⟨b', h1, h2⟩
theorem hs_orLt2 : ∀ (l : List Nat) (m : Nat), (∀ x, x ∈ l → x < 10) → m < 1024 → hs_or l m < 1024
  | [], _, _, h => h
  | y :: l, m, hx, h => hs_orLt2 l _ (fun x hx' => hx x (List.mem_cons_of_mem _ hx')) (hs_orLt (hx y (List.mem_cons_self ..)) h)
theorem hs_dropE {l r : List Nat} {k x : Nat} (e : l.drop k = x :: r) : l[k]? = some x := by
  have h := congrArg (fun z : List Nat => z[0]?) e
  simpa using h
theorem hs_yM19 {j : Nat} {b : Nat} (Y : hs_YM cn ml oy le ba bs) (hb : bs[j]? = some b) {post : Int32 → SY → Prop} {J : Int32 → Int32 → Prop} {x1 x2 x3 : Int32} : ∀ (r : List Nat) (k m : Nat), (ml b).drop k = r → k ≤ 10 → m < 1024 → J (nI (hs_or r m)) (nI (j + 1)) → wY_merge_19 post J x1 x2 x3 (nI j) y_maxObjects y_maxSteps y_maxDepth y_kept y_end y_tokens y_pending y_lines y_classes y_prints y_place y_steps y_d y_valTop y_opTop y_opens y_pos y_tk y_tv y_stmt y_target y_err y_code y_outcome y_result y_dry y_want y_starting y_ended y_bad y_hosted y_sawSuper y_text y_numbers y_globals y_entries y_attrs y_classOf y_alive oy le y_letters ba y_vals y_ops y_locals y_fRecv y_fLine y_fPos y_fStmt y_fTarget y_fMask y_fHome y_fOps y_fVals y_fNew y_out (r.length + 1) (nI m) (nI k) := by
  obtain ⟨y1, y2, y3, y4, y5⟩ := Y
  obtain ⟨b1, b2⟩ := y5 j b hb
  obtain ⟨o1, o2⟩ := y2 b b1
  obtain ⟨p1, p2⟩ := y3 b b1
  have jl : j < bs.length := by
    rcases Nat.lt_or_ge j bs.length with z | z
    · exact z
    · rw [List.getElem?_eq_none z] at hb; cases hb
  intro r
  induction r with
  | nil =>
    intro k m e hk hm H
    have hkl : (ml b).length ≤ k := List.drop_eq_nil_iff.mp e
    refine And.intro (vp_in_nI (by omega) (by decide)) ?_
    rw [nI_clamp (show j < 2 ^ 31 by omega), b2, nI_clamp (show b < 2 ^ 31 by omega), o1]
    exact And.intro (vp_in_nI (by omega) (by decide)) (br_t (nI_le hkl (by omega)) (nm_r (nI_1 j) H))
  | cons x r ih =>
    intro k m e hk hm H
    obtain ⟨k1, k2, k3, k4⟩ := hs_dropC e
    have x10 := p2 x k4
    have eb : nI b * 10 + nI k = nI (b * 10 + k) := hs_ixMul b 10 k
    refine And.intro (vp_in_nI (by omega) (by decide)) ?_
    rw [nI_clamp (show j < 2 ^ 31 by omega), b2, nI_clamp (show b < 2 ^ 31 by omega), o1, eb, nI_clamp (show b * 10 + k < 2 ^ 31 by omega), o2 k k1, k2, hs_shl10 (by omega), hs_nor]
    refine And.intro (vp_in_nI (by omega) (by decide)) (br_f (nI_ge k1 (by omega)) (And.intro (vp_in_nI (by omega) (by decide)) (And.intro (vp_in_nI (by omega) (by decide)) (nm_e (nm_r (nI_1 k) (ih (k + 1) _ k3 (by omega) (hs_orLt (by omega) hm) H))))))
theorem hs_yM10 (Y : hs_YM cn ml oy le ba bs) {post : Int32 → SY → Prop} (H : ∃ n73 : Nat, wY_merge_73 post (nI bs.length) (nI (hs_orA ml bs 0)) y_maxObjects y_maxSteps y_maxDepth y_kept y_end y_tokens y_pending y_lines (nI cn) y_prints y_place y_steps y_d y_valTop y_opTop y_opens y_pos y_tk y_tv y_stmt y_target y_err y_code y_outcome y_result y_dry y_want y_starting y_ended y_bad y_hosted y_sawSuper n73 0 1 y_text y_numbers y_globals y_entries y_attrs y_classOf y_alive oy le y_letters ba y_vals y_ops y_locals y_fRecv y_fLine y_fPos y_fStmt y_fTarget y_fMask y_fHome y_fOps y_fVals y_fNew y_out) : ∀ (r : List Nat) (j m : Nat), bs.drop j = r → j ≤ 2 → m < 1024 → hs_orA ml r m = hs_orA ml bs 0 → wY_merge_10 post (nI bs.length) 0 1 y_maxObjects y_maxSteps y_maxDepth y_kept y_end y_tokens y_pending y_lines (nI cn) y_prints y_place y_steps y_d y_valTop y_opTop y_opens y_pos y_tk y_tv y_stmt y_target y_err y_code y_outcome y_result y_dry y_want y_starting y_ended y_bad y_hosted y_sawSuper y_text y_numbers y_globals y_entries y_attrs y_classOf y_alive oy le y_letters ba y_vals y_ops y_locals y_fRecv y_fLine y_fPos y_fStmt y_fTarget y_fMask y_fHome y_fOps y_fVals y_fNew y_out (r.length + 1) (nI m) (nI j) := by
  have y1 := Y.1
  have y4 := Y.2.2.2.1
  intro r
  induction r with
  | nil =>
    intro j m e hj hm he
    have hjl : bs.length ≤ j := List.drop_eq_nil_iff.mp e
    have he' : m = hs_orA ml bs 0 := he
    rw [he']
    exact br_t (nI_le hjl (by omega)) H
  | cons b r ih =>
    intro j m e hj hm he
    obtain ⟨k1, k2, k3, k4⟩ := hs_dropC e
    have hb := hs_dropE e
    have bc := (Y.2.2.2.2 j b hb).1
    have m' : hs_or (ml b) m < 1024 := hs_orLt2 (ml b) m (fun x hx => by have := (Y.2.2.1 b bc).2 x hx; omega) hm
    exact br_f (nI_ge k1 (by omega)) ⟨(ml b).length + 1, hs_yM19 Y hb (ml b) 0 m rfl (by omega) hm (ih (j + 1) _ k3 (by omega) m' he)⟩
theorem hs_yMerge (Y : hs_YM cn ml oy le ba bs) (MC : ∀ c, c < cn → c ∈ ml c) (h0 : cn < 10 → oy (cn * 10) = nI cn) {post : Int32 → SY → Prop}
    (H1 : ∀ l oy', hs_mg (hs_YL ml bs) 11 0 = some l → (∀ j, (j < cn * 10 ∨ cn * 10 + 10 ≤ j) → oy' j = oy j) → (cn < 10 → ∀ k, k < l.length + 1 → oy' (cn * 10 + k) = hs_gi (cn :: l) k) → post (nI (l.length + 1)) (y_maxObjects, y_maxSteps, y_maxDepth, y_kept, y_end, y_tokens, y_pending, y_lines, nI cn, y_prints, y_place, y_steps, y_d, y_valTop, y_opTop, y_opens, y_pos, y_tk, y_tv, y_stmt, y_target, y_err, y_code, y_outcome, y_result, y_dry, y_want, y_starting, y_ended, y_bad, y_hosted, y_sawSuper, y_text, y_numbers, y_globals, y_entries, y_attrs, y_classOf, y_alive, oy', le, y_letters, ba, y_vals, y_ops, y_locals, y_fRecv, y_fLine, y_fPos, y_fStmt, y_fTarget, y_fMask, y_fHome, y_fOps, y_fVals, y_fNew, y_out))
    (H0 : hs_mg (hs_YL ml bs) 11 0 = none → ∀ oy', (∀ j, (j < cn * 10 ∨ cn * 10 + 10 ≤ j) → oy' j = oy j) → post (-1) (y_maxObjects, y_maxSteps, y_maxDepth, y_kept, y_end, y_tokens, y_pending, y_lines, nI cn, y_prints, y_place, y_steps, y_d, y_valTop, y_opTop, y_opens, y_pos, y_tk, y_tv, y_stmt, y_target, y_err, y_code, y_outcome, y_result, y_dry, y_want, y_starting, y_ended, y_bad, y_hosted, y_sawSuper, y_text, y_numbers, y_globals, y_entries, y_attrs, y_classOf, y_alive, oy', le, y_letters, ba, y_vals, y_ops, y_locals, y_fRecv, y_fLine, y_fPos, y_fStmt, y_fTarget, y_fMask, y_fHome, y_fOps, y_fVals, y_fNew, y_out)) : wpY_merge post (y_maxObjects, y_maxSteps, y_maxDepth, y_kept, y_end, y_tokens, y_pending, y_lines, nI cn, y_prints, y_place, y_steps, y_d, y_valTop, y_opTop, y_opens, y_pos, y_tk, y_tv, y_stmt, y_target, y_err, y_code, y_outcome, y_result, y_dry, y_want, y_starting, y_ended, y_bad, y_hosted, y_sawSuper, y_text, y_numbers, y_globals, y_entries, y_attrs, y_classOf, y_alive, oy, le, y_letters, ba, y_vals, y_ops, y_locals, y_fRecv, y_fLine, y_fPos, y_fStmt, y_fTarget, y_fMask, y_fHome, y_fOps, y_fVals, y_fNew, y_out) (nI bs.length) := by
  have y1 := Y.1
  have hbs : ∀ b, b ∈ bs → b < cn := by
    intro b hb
    obtain ⟨i, hi⟩ := List.mem_iff_getElem?.mp hb
    exact (Y.2.2.2.2 i b hi).1
  have hA : ∀ x, (hs_orA ml bs 0).testBit x = true ↔ ∃ l, l ∈ hs_YL ml bs ∧ x ∈ l := by
    intro x
    rw [hs_orAT]
    constructor
    · rintro (z | ⟨b, h1, h2⟩)
      · rw [Nat.zero_testBit] at z; cases z
      · exact ⟨ml b, List.mem_append.mpr (Or.inl (List.mem_map.mpr ⟨b, h1, rfl⟩)), h2⟩
    · rintro ⟨l, h1, h2⟩
      rcases List.mem_append.mp h1 with z | z
      · obtain ⟨b, b1, b2⟩ := List.mem_map.mp z
        exact Or.inr ⟨b, b1, by rw [b2]; exact h2⟩
      · have : l = bs := by simpa using z
        subst this
        exact Or.inr ⟨x, h2, MC x (hbs x h2)⟩
  have hAl : hs_orA ml bs 0 < 1024 := by
    refine Nat.lt_pow_two_of_testBit (n := 10) _ (fun i hi => ?_)
    cases q : (hs_orA ml bs 0).testBit i with
    | false => rfl
    | true =>
      obtain ⟨l, h1, h2⟩ := (hA i).mp q
      have := (hs_YLm Y h1).2 i h2
      omega
  refine ⟨bs.length + 1, hs_yM10 Y ⟨11, ?_⟩ bs 0 0 rfl (by omega) (by omega) rfl⟩
  have ul : hs_un cn 0 ≤ cn := hs_unLe
  refine hs_yM73 (oy0 := oy) hA hAl H1 H0 11 0 [] oy (by omega) (by omega) (fun x hx => by rw [Nat.zero_testBit] at hx; cases hx) Y (by rw [List.length_nil]; omega) ?_ (fun _ _ => rfl) (fun w k hk => ?_)
  · cases hs_mg (hs_YL ml bs) 11 0 with
    | none => rfl
    | some l => rfl
  · have : k = 0 := by rw [List.length_nil] at hk; omega
    subst this
    rw [Nat.add_zero, h0 w]; rfl
end
