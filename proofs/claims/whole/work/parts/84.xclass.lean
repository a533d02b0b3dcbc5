/-! a sort is made, on the component's side -/
section
variable {x_objectLimit x_stepLimit x_depthLimit x_pendingCount x_keptTokens x_keptLines x_lineCount x_codeCount x_cursor x_stop x_waitingCount x_openCount x_classCount x_callCount x_operandCount x_stepsTaken x_error x_raisedCode x_printCount x_lastPlace : Int32} {x_lastResult : Int64} {x_pending x_lineTable x_orders x_merging x_letterClass x_objectClass x_calls x_lastPrints : Nat → Int32} {x_code x_waiting x_globals x_entries x_attributes x_held x_operands : Nat → Int64}
def hs_Lo (ml : Nat → List Nat) (fo so : Option Nat) : Nat → List Nat
  | 0 => match fo with
    | none => []
    | some a => ml a
  | 1 => match so with
    | none => []
    | some b => ml b
  | _ => fo.toList ++ so.toList
variable {ml : Nat → List Nat} {fo so : Option Nat} {cn : Nat} {ox lt LT : Nat → Int32}
theorem hs_giNil (k : Nat) : hs_gi [] k = -1 := rfl
theorem hs_xFill (hO : hs_OX cn ml ox) (hcn : cn ≤ 10) (hf : ∀ a, fo = some a → a < cn) (hs : ∀ b, so = some b → b < cn) (hfs : fo = none → so = none) {post : SX → Prop} (H : ∀ m', (∀ i k, i < 3 → k < 12 → m' (i * 12 + k) = hs_gi (hs_Lo ml fo so i) k) → post (x_objectLimit, x_stepLimit, x_depthLimit, x_pendingCount, x_keptTokens, x_keptLines, x_lineCount, x_codeCount, x_cursor, x_stop, x_waitingCount, x_openCount, x_classCount, x_callCount, x_operandCount, x_stepsTaken, x_error, x_raisedCode, x_printCount, x_lastResult, x_lastPlace, x_pending, x_lineTable, x_code, x_waiting, x_globals, x_entries, ox, m', x_letterClass, x_objectClass, x_attributes, x_calls, x_held, x_operands, x_lastPrints)) :
    ∀ (n k : Nat) (m' : Nat → Int32), k + n = 12 → (∀ i j, i < 3 → j < k → m' (i * 12 + j) = hs_gi (hs_Lo ml fo so i) j) → wX_fillMerge_2 post (hs_oI fo) (hs_oI so) x_objectLimit x_stepLimit x_depthLimit x_pendingCount x_keptTokens x_keptLines x_lineCount x_codeCount x_cursor x_stop x_waitingCount x_openCount x_classCount x_callCount x_operandCount x_stepsTaken x_error x_raisedCode x_printCount x_lastResult x_lastPlace (n + 1) (nI k) x_pending x_lineTable x_code x_waiting x_globals x_entries ox m' x_letterClass x_objectClass x_attributes x_calls x_held x_operands x_lastPrints := by
  intro n
  induction n with
  | zero =>
    intro k m' hk hm
    exact br_t (nI_le (a := 12) (by omega) (by omega)) (H m' (fun i j hi hj => hm i j hi (by omega)))
  | succ n ih =>
    intro k m' hk hm
    have e12 : (12 : Int32) + nI k = nI (12 + k) := nI_add 12 k
    have e24 : (24 : Int32) + nI k = nI (24 + k) := nI_add 24 k
    have nx : ∀ m2 : Nat → Int32, (∀ i, i < 3 → m2 (i * 12 + k) = hs_gi (hs_Lo ml fo so i) k) → (∀ j, j ≠ k → j ≠ 12 + k → j ≠ 24 + k → m2 j = m' j) → ∀ x : Int32, x = nI k + 1 → wX_fillMerge_2 post (hs_oI fo) (hs_oI so) x_objectLimit x_stepLimit x_depthLimit x_pendingCount x_keptTokens x_keptLines x_lineCount x_codeCount x_cursor x_stop x_waitingCount x_openCount x_classCount x_callCount x_operandCount x_stepsTaken x_error x_raisedCode x_printCount x_lastResult x_lastPlace (n + 1) x x_pending x_lineTable x_code x_waiting x_globals x_entries ox m2 x_letterClass x_objectClass x_attributes x_calls x_held x_operands x_lastPrints := by
      intro m2 h1 h2
      refine nm_r (nI_1 k) (ih (k + 1) m2 (by omega) (fun i j hi hj => ?_))
      by_cases z : j = k
      · subst z; exact h1 i hi
      · rw [h2 _ (by omega) (by omega) (by omega)]; exact hm i j hi (by omega)
    have h3 : ∀ (m1 : Nat → Int32) (v2 : Int32), m1 k = hs_gi (hs_Lo ml fo so 0) k → (∀ j, j ≠ k → m1 j = m' j) → v2 = hs_gi (fo.toList ++ so.toList) k → ∀ x : Int32, x = nI k + 1 → wX_fillMerge_2 post (hs_oI fo) (hs_oI so) x_objectLimit x_stepLimit x_depthLimit x_pendingCount x_keptTokens x_keptLines x_lineCount x_codeCount x_cursor x_stop x_waitingCount x_openCount x_classCount x_callCount x_operandCount x_stepsTaken x_error x_raisedCode x_printCount x_lastResult x_lastPlace (n + 1) x x_pending x_lineTable x_code x_waiting x_globals x_entries ox (upd (upd m1 (12 + k) (hs_gi (hs_Lo ml fo so 1) k)) (24 + k) v2) x_letterClass x_objectClass x_attributes x_calls x_held x_operands x_lastPrints := by
      intro m1 v2 h1 h2 h4
      refine nx _ (fun i hi => ?_) (fun j j1 j2 j3 => by rw [pk_un j3, pk_un j2]; exact h2 j j1)
      have : i = 0 ∨ i = 1 ∨ i = 2 := by omega
      rcases this with rfl | rfl | rfl
      · rw [pk_un (by omega), pk_un (by omega), Nat.zero_mul, Nat.zero_add]; exact h1
      · rw [pk_un (by omega), show 1 * 12 + k = 12 + k by omega, pk_us]
      · rw [show 2 * 12 + k = 24 + k by omega, pk_us, h4]; rfl
    have w60 : ∀ m1 : Nat → Int32, m1 k = hs_gi (hs_Lo ml fo so 0) k → (∀ j, j ≠ k → m1 j = m' j) → wX_fillMerge_60 post (wX_fillMerge_2 post (hs_oI fo) (hs_oI so) x_objectLimit x_stepLimit x_depthLimit x_pendingCount x_keptTokens x_keptLines x_lineCount x_codeCount x_cursor x_stop x_waitingCount x_openCount x_classCount x_callCount x_operandCount x_stepsTaken x_error x_raisedCode x_printCount x_lastResult x_lastPlace (n + 1)) (hs_oI fo) (hs_oI so) (nI k) (hs_gi (hs_Lo ml fo so 1) k) (nI (12 + k)) x_objectLimit x_stepLimit x_depthLimit x_pendingCount x_keptTokens x_keptLines x_lineCount x_codeCount x_cursor x_stop x_waitingCount x_openCount x_classCount x_callCount x_operandCount x_stepsTaken x_error x_raisedCode x_printCount x_lastResult x_lastPlace x_pending x_lineTable x_code x_waiting x_globals x_entries ox m1 x_letterClass x_objectClass x_attributes x_calls x_held x_operands x_lastPrints := by
      intro m1 h1 h2
      unfold wX_fillMerge_60
      rw [e24, nI_clamp (show 12 + k < 2 ^ 31 by omega), nI_clamp (show 24 + k < 2 ^ 31 by omega)]
      refine And.intro (vp_in_nI (by omega) (by decide)) (nm_e ?_)
      refine pk_eq k 0 (fun z => And.intro (vp_in_nI (by omega) (by decide)) (nm_e (h3 m1 _ h1 h2 ?_))) (fun z0 => pk_eq k 1 (fun z => And.intro (vp_in_nI (by omega) (by decide)) (nm_e (h3 m1 _ h1 h2 ?_))) (fun z1 => And.intro (vp_in_nI (by omega) (by decide)) (nm_e (h3 m1 _ h1 h2 ?_))))
      · rw [z]
        cases fo with
        | none => rw [hfs rfl]; rfl
        | some a => rfl
      · rw [z]
        cases fo with
        | none => rw [hfs rfl]; rfl
        | some a =>
          cases so with
          | none => rfl
          | some b => rfl
      · rw [hs_giN]
        rw [List.length_append]
        cases fo <;> cases so <;> simp <;> omega
    have w32 : wX_fillMerge_32 post (wX_fillMerge_2 post (hs_oI fo) (hs_oI so) x_objectLimit x_stepLimit x_depthLimit x_pendingCount x_keptTokens x_keptLines x_lineCount x_codeCount x_cursor x_stop x_waitingCount x_openCount x_classCount x_callCount x_operandCount x_stepsTaken x_error x_raisedCode x_printCount x_lastResult x_lastPlace (n + 1)) (hs_oI fo) (hs_oI so) (nI k) (hs_gi (hs_Lo ml fo so 0) k) (nI k) x_objectLimit x_stepLimit x_depthLimit x_pendingCount x_keptTokens x_keptLines x_lineCount x_codeCount x_cursor x_stop x_waitingCount x_openCount x_classCount x_callCount x_operandCount x_stepsTaken x_error x_raisedCode x_printCount x_lastResult x_lastPlace x_pending x_lineTable x_code x_waiting x_globals x_entries ox m' x_letterClass x_objectClass x_attributes x_calls x_held x_operands x_lastPrints := by
      unfold wX_fillMerge_32
      rw [e12, nI_clamp (show k < 2 ^ 31 by omega)]
      refine And.intro (vp_in_nI (by omega) (by decide)) (nm_e ?_)
      have w := w60 (upd m' k (hs_gi (hs_Lo ml fo so 0) k)) pk_us (fun j hj => pk_un hj)
      cases so with
      | none => exact br_f (show ¬ (0 : Int32) ≤ -1 by decide) w
      | some b =>
        have hb := hs b rfl
        have eb : nI b * 12 + nI k = nI (b * 12 + k) := hs_ixMul b 12 k
        have ev : ox (b * 12 + k) = hs_gi (ml b) k := (hO b hb).2.2.1 k (by omega)
        refine br_t (show (0 : Int32) ≤ nI b from nI_pos' (by omega)) ?_
        rw [show hs_oI (some b) = nI b from rfl] at w ⊢
        rw [eb, nI_clamp (show b * 12 + k < 2 ^ 31 by omega), ev]
        exact And.intro (vp_in_nI (by omega) (by decide)) w
    refine br_f (nI_ge (b := 12) (by omega) (by decide)) ?_
    cases fo with
    | none => exact br_f (show ¬ (0 : Int32) ≤ -1 by decide) w32
    | some a =>
      have ha := hf a rfl
      have ea : nI a * 12 + nI k = nI (a * 12 + k) := hs_ixMul a 12 k
      have ev : ox (a * 12 + k) = hs_gi (ml a) k := (hO a ha).2.2.1 k (by omega)
      refine br_t (show (0 : Int32) ≤ nI a from nI_pos' (by omega)) ?_
      rw [show hs_oI (some a) = nI a from rfl] at w32 ⊢
      rw [ea, nI_clamp (show a * 12 + k < 2 ^ 31 by omega), ev]
      exact And.intro (vp_in_nI (by omega) (by decide)) w32
theorem hs_LoOK (hO : hs_OX cn ml ox) (hf : ∀ a, fo = some a → a < cn) (hs : ∀ b, so = some b → b < cn) : ∀ i, i < 3 → (hs_Lo ml fo so i).length ≤ 10 ∧ ∀ x, x ∈ hs_Lo ml fo so i → x < cn := by
  intro i hi
  have : i = 0 ∨ i = 1 ∨ i = 2 := by omega
  rcases this with rfl | rfl | rfl
  · cases fo with
    | none => exact ⟨Nat.zero_le _, fun x hx => by cases hx⟩
    | some a =>
      obtain ⟨o1, o2, o3, o4⟩ := hO a (hf a rfl)
      exact ⟨o2, fun x hx => by have := o4 x hx; have := hf a rfl; omega⟩
  · cases so with
    | none => exact ⟨Nat.zero_le _, fun x hx => by cases hx⟩
    | some a =>
      obtain ⟨o1, o2, o3, o4⟩ := hO a (hs a rfl)
      exact ⟨o2, fun x hx => by have := o4 x hx; have := hs a rfl; omega⟩
  · show (fo.toList ++ so.toList).length ≤ 10 ∧ ∀ x, x ∈ fo.toList ++ so.toList → x < cn
    refine ⟨?_, fun x hx => ?_⟩
    · rw [List.length_append]
      cases fo <;> cases so <;> simp
    · rcases List.mem_append.mp hx with z | z
      · cases fo with
        | none => cases z
        | some a =>
          have : x = a := by simpa using z
          subst this; exact hf x rfl
      · cases so with
        | none => cases z
        | some a =>
          have : x = a := by simpa using z
          subst this; exact hs x rfl
theorem hs_skS {c : Nat} {l : List Nat} (hl : ∀ x, x ∈ l → x < 10) (hc : c < 10) : hs_sk (nI c) l = hs_strk c l := by
  unfold hs_sk
  cases l with
  | nil => rw [if_neg (fun z => hs_neM1 (a := c) (by omega) z.symm)]; rfl
  | cons x r =>
    have hx := hl x (List.mem_cons_self ..)
    show (if nI x = nI c then r else x :: r) = (if x = c then r else x :: r)
    by_cases z : x = c
    · rw [if_pos z, if_pos (by rw [z])]
    · rw [if_neg z, if_neg (fun y => z ((nI_eq (by omega) (by omega)).mp y))]
/-- all lists are empty: the order is filled up -/
theorem hs_xOMd {R : Nat} {L : Nat → List Nat} (hR : R + 12 ≤ 132) (hL : ∀ i, i < 3 → L i = []) {post : Int32 → SX → Prop} : ∀ (n p : Nat) (ox mg : Nat → Int32), p + n = 12 → hs_MR mg L → (∀ ox' mg', (∀ j, ox' j = if R + p ≤ j ∧ j < R + 12 then -1 else ox j) → post 1 (x_objectLimit, x_stepLimit, x_depthLimit, x_pendingCount, x_keptTokens, x_keptLines, x_lineCount, x_codeCount, x_cursor, x_stop, x_waitingCount, x_openCount, x_classCount, x_callCount, x_operandCount, x_stepsTaken, x_error, x_raisedCode, x_printCount, x_lastResult, x_lastPlace, x_pending, x_lineTable, x_code, x_waiting, x_globals, x_entries, ox', mg', x_letterClass, x_objectClass, x_attributes, x_calls, x_held, x_operands, x_lastPrints)) → wX_orderIsMade_27 post (nI R) (n + 1) (nI p) x_objectLimit x_stepLimit x_depthLimit x_pendingCount x_keptTokens x_keptLines x_lineCount x_codeCount x_cursor x_stop x_waitingCount x_openCount x_classCount x_callCount x_operandCount x_stepsTaken x_error x_raisedCode x_printCount x_lastResult x_lastPlace x_pending x_lineTable x_code x_waiting x_globals x_entries ox mg x_letterClass x_objectClass x_attributes x_calls x_held x_operands x_lastPrints := by
  intro n
  induction n with
  | zero =>
    intro p ox mg hp R1 H
    exact br_t (nI_le (a := 12) (by omega) (by omega)) (H ox mg (fun j => by rw [if_neg (by omega)]))
  | succ n ih =>
    intro p ox mg hp R1 H
    have er : nI R + nI p = nI (R + p) := nI_add _ _
    refine br_f (nI_ge (b := 12) (by omega) (by decide)) ⟨4, hs_xNM4 R1 3 0 (-1) (by omega) ?_⟩
    have en : hs_nm (hs_beh (hs_L3 L)) L 3 0 (-1) = -1 := by
      rw [hs_nmP]
      unfold hs_L3
      rw [hL 0 (by omega), hL 1 (by omega), hL 2 (by omega)]
      rfl
    rw [en]
    refine br_f (by decide) ?_
    rw [er, nI_clamp (show R + p < 2 ^ 31 by omega)]
    refine And.intro (vp_in_nI (by omega) (by decide)) (nm_e (hs_xStrike R1 (fun m' hm' => nm_r (nI_1 p) (ih (p + 1) _ m' (by omega) (fun i hi => ?_) (fun ox' mg' h1 => H ox' mg' (fun j => ?_))))))
    · have r := hm' i hi
      have e : hs_sk (-1) (L i) = L i := by
        unfold hs_sk
        rw [hL i hi]
        split <;> rfl
      dsimp only at r
      rw [e] at r
      exact r
    · rw [h1 j]
      by_cases z : j = R + p
      · rw [if_neg (by omega), if_pos (by omega), z, pk_us]
      · rw [pk_un z]
        by_cases y : R + p ≤ j ∧ j < R + 12
        · rw [if_pos (by omega), if_pos y]
        · rw [if_neg (by omega), if_neg y]
theorem hs_xOM {R : Nat} {Lo : Nat → List Nat} {ox0 : Nat → Int32} (hcn : cn ≤ 10) (hLo : ∀ i, i < 3 → (Lo i).length ≤ 10 ∧ ∀ x, x ∈ Lo i → x < cn) (hR : R + 12 ≤ 132) {post : Int32 → SX → Prop}
    (H1 : ∀ l ox' mg', hs_mg (hs_L3 Lo) 11 0 = some l → (∀ j, (j < R ∨ R + 12 ≤ j) → ox' j = ox0 j) → (∀ k, k < 12 → ox' (R + k) = hs_gi (cn :: l) k) → post 1 (x_objectLimit, x_stepLimit, x_depthLimit, x_pendingCount, x_keptTokens, x_keptLines, x_lineCount, x_codeCount, x_cursor, x_stop, x_waitingCount, x_openCount, x_classCount, x_callCount, x_operandCount, x_stepsTaken, x_error, x_raisedCode, x_printCount, x_lastResult, x_lastPlace, x_pending, x_lineTable, x_code, x_waiting, x_globals, x_entries, ox', mg', x_letterClass, x_objectClass, x_attributes, x_calls, x_held, x_operands, x_lastPrints))
    (H0 : hs_mg (hs_L3 Lo) 11 0 = none → ∀ ox' mg', (∀ j, (j < R ∨ R + 12 ≤ j) → ox' j = ox0 j) → post 0 (x_objectLimit, x_stepLimit, x_depthLimit, x_pendingCount, x_keptTokens, x_keptLines, x_lineCount, x_codeCount, x_cursor, x_stop, x_waitingCount, x_openCount, x_classCount, x_callCount, x_operandCount, x_stepsTaken, x_error, x_raisedCode, x_printCount, x_lastResult, x_lastPlace, x_pending, x_lineTable, x_code, x_waiting, x_globals, x_entries, ox', mg', x_letterClass, x_objectClass, x_attributes, x_calls, x_held, x_operands, x_lastPrints)) :
    ∀ (n p t : Nat) (pre : List Nat) (ox mg : Nat → Int32), p + n = 12 → pre.length + 1 = p → hs_MR mg (fun i => hs_fl t (Lo i)) → hs_mg (hs_L3 Lo) 11 0 = (hs_mg (hs_L3 Lo) n t).map (fun l => pre ++ l) → (∀ j, (j < R ∨ R + 12 ≤ j) → ox j = ox0 j) → (∀ k, k < p → ox (R + k) = hs_gi (cn :: pre) k) → wX_orderIsMade_27 post (nI R) (n + 1) (nI p) x_objectLimit x_stepLimit x_depthLimit x_pendingCount x_keptTokens x_keptLines x_lineCount x_codeCount x_cursor x_stop x_waitingCount x_openCount x_classCount x_callCount x_operandCount x_stepsTaken x_error x_raisedCode x_printCount x_lastResult x_lastPlace x_pending x_lineTable x_code x_waiting x_globals x_entries ox mg x_letterClass x_objectClass x_attributes x_calls x_held x_operands x_lastPrints := by
  intro n
  induction n with
  | zero =>
    intro p t pre ox mg hp hl R1 hm ho hr
    have e : hs_mg (hs_L3 Lo) 0 t = some [] := rfl
    rw [e] at hm
    have hm' : hs_mg (hs_L3 Lo) 11 0 = some pre := by rw [hm]; exact congrArg some (List.append_nil pre)
    exact br_t (nI_le (a := 12) (by omega) (by omega)) (H1 pre ox mg hm' ho (fun k hk => hr k (by omega)))
  | succ n ih =>
    intro p t pre ox mg hp hl R1 hm ho hr
    have er : nI R + nI p = nI (R + p) := nI_add _ _
    have el : hs_L3 (fun i => hs_fl t (Lo i)) = (hs_L3 Lo).map (hs_fl t) := rfl
    have hL3 : ∀ l, l ∈ hs_L3 Lo → ∀ x, x ∈ l → x < cn := by
      intro l hl' x hx
      unfold hs_L3 at hl'
      simp only [List.mem_cons, List.not_mem_nil, or_false] at hl'
      rcases hl' with e | e | e
      · exact (hLo 0 (by omega)).2 x (by rw [← e]; exact hx)
      · exact (hLo 1 (by omega)).2 x (by rw [← e]; exact hx)
      · exact (hLo 2 (by omega)).2 x (by rw [← e]; exact hx)
    refine br_f (nI_ge (b := 12) (by omega) (by decide)) ⟨4, hs_xNM4 R1 3 0 (-1) (by omega) ?_⟩
    rw [hs_nmP, el]
    have em : hs_mg (hs_L3 Lo) (n + 1) t = match hs_pick (hs_beh ((hs_L3 Lo).map (hs_fl t))) ((hs_L3 Lo).map (hs_fl t)) with | some c => (hs_mg (hs_L3 Lo) n (t ||| 2 ^ c)).map (fun l => c :: l) | none => if ((hs_L3 Lo).map (hs_fl t)).all (fun l => l.isEmpty) = true then some [] else none := rfl
    rw [em] at hm
    cases q : hs_pick (hs_beh ((hs_L3 Lo).map (hs_fl t))) ((hs_L3 Lo).map (hs_fl t)) with
    | some c =>
      rw [q] at hm
      obtain ⟨c1, c2, c3⟩ := hs_pickT hL3 q
      have nb := (hs_pickM q).1
      show (nI c = -2 → _) ∧ _
      refine br_f (fun z => ?_) ?_
      · have : nI c < 0 := by rw [z]; decide
        exact nI_pos (by omega) this
      rw [er, nI_clamp (show R + p < 2 ^ 31 by omega)]
      refine And.intro (vp_in_nI (by omega) (by decide)) (nm_e (hs_xStrike R1 (fun m' hm' => nm_r (nI_1 p) (ih (p + 1) (t ||| 2 ^ c) (pre ++ [c]) _ m' (by omega) ?_ (fun i hi => ?_) ?_ (fun j hj => ?_) (fun k hk => ?_)))))
      · rw [List.length_append, List.length_singleton]; omega
      · have r := hm' i hi
        have e : hs_sk (nI c) (hs_fl t (Lo i)) = hs_fl (t ||| 2 ^ c) (Lo i) := by
          rw [hs_skS (fun x hx => by have := (hLo i hi).2 x (hs_flM.mp hx).1; omega) (by omega)]
          refine hs_strkF (hs_behF nb (List.mem_map.mpr ⟨Lo i, ?_, rfl⟩))
          unfold hs_L3
          have : i = 0 ∨ i = 1 ∨ i = 2 := by omega
          rcases this with rfl | rfl | rfl <;> simp
        dsimp only at r
        rw [e] at r
        exact r
      · rw [hm]
        show Option.map _ (Option.map _ (hs_mg (hs_L3 Lo) n (t ||| 2 ^ c))) = _
        cases hs_mg (hs_L3 Lo) n (t ||| 2 ^ c) with
        | none => rfl
        | some l =>
          show some (pre ++ c :: l) = some (pre ++ [c] ++ l)
          rw [List.append_assoc]; rfl
      · rw [pk_un (by omega)]; exact ho j hj
      · by_cases z : k = p
        · subst z
          rw [pk_us]
          have e : (cn :: (pre ++ [c]))[k]? = some c := by
            rw [← hl, List.getElem?_cons_succ, List.getElem?_append_right (Nat.le_refl _), Nat.sub_self]; rfl
          unfold hs_gi
          rw [e]
        · rw [pk_un (by omega), hr k (by omega)]
          have e : (cn :: (pre ++ [c]))[k]? = (cn :: pre)[k]? := by
            rw [show cn :: (pre ++ [c]) = (cn :: pre) ++ [c] from rfl, List.getElem?_append_left (by rw [List.length_cons]; omega)]
          unfold hs_gi
          rw [e]
    | none =>
      rw [q] at hm
      have hm2 : hs_mg (hs_L3 Lo) 11 0 = Option.map (fun l => pre ++ l) (if ((hs_L3 Lo).map (hs_fl t)).all (fun l => l.isEmpty) = true then some [] else none) := hm
      by_cases ae : ((hs_L3 Lo).map (hs_fl t)).all (fun l => l.isEmpty) = true
      · rw [if_pos ae] at hm2
        have hm' : hs_mg (hs_L3 Lo) 11 0 = some pre := by rw [hm2]; exact congrArg some (List.append_nil pre)
        have hE : ∀ i, i < 3 → hs_fl t (Lo i) = [] := by
          intro i hi
          rw [List.all_eq_true] at ae
          have := ae (hs_fl t (Lo i)) (List.mem_map.mpr ⟨Lo i, by
            unfold hs_L3
            have : i = 0 ∨ i = 1 ∨ i = 2 := by omega
            rcases this with rfl | rfl | rfl <;> simp, rfl⟩)
          exact List.isEmpty_iff.mp this
        show ((if ((hs_L3 Lo).map (hs_fl t)).all (fun l => l.isEmpty) = true then (-1 : Int32) else -2) = -2 → _) ∧ _
        rw [if_pos ae]
        refine br_f (by decide) ?_
        rw [er, nI_clamp (show R + p < 2 ^ 31 by omega)]
        refine And.intro (vp_in_nI (by omega) (by decide)) (nm_e (hs_xStrike R1 (fun m' hm' => nm_r (nI_1 p) (hs_xOMd (L := fun i => hs_sk (-1) (hs_fl t (Lo i))) hR (fun i hi => ?_) n (p + 1) _ m' (by omega) hm' (fun ox' mg' h1 => H1 pre ox' mg' ‹_› (fun j hj => ?_) (fun k hk => ?_))))))
        · show hs_sk (-1) (hs_fl t (Lo i)) = []
          unfold hs_sk
          rw [hE i hi]
          split <;> rfl
        · rw [h1 j, if_neg (by omega), pk_un (by omega)]; exact ho j hj
        · rw [h1 (R + k)]
          by_cases z : k < p
          · rw [if_neg (by omega), pk_un (by omega)]; exact hr k z
          · rw [hs_giN (by rw [List.length_cons]; omega)]
            by_cases y : k = p
            · rw [if_neg (by omega), y, pk_us]
            · rw [if_pos (by omega)]
      · rw [if_neg ae] at hm2
        show ((if ((hs_L3 Lo).map (hs_fl t)).all (fun l => l.isEmpty) = true then (-1 : Int32) else -2) = -2 → _) ∧ _
        rw [if_neg ae]
        exact br_t rfl (H0 hm2 ox mg ho)
theorem hs_xOrder (hO : hs_OX cn ml ox) (hcn : cn ≤ 10) (hf : ∀ a, fo = some a → a < cn) (hs : ∀ b, so = some b → b < cn) (hfs : fo = none → so = none) {post : Int32 → SX → Prop}
    (H1 : ∀ l ox' mg', hs_mg (hs_L3 (hs_Lo ml fo so)) 11 0 = some l → (∀ j, (j < cn * 12 ∨ cn * 12 + 12 ≤ j) → ox' j = ox j) → (∀ k, k < 12 → ox' (cn * 12 + k) = hs_gi (cn :: l) k) → post 1 (x_objectLimit, x_stepLimit, x_depthLimit, x_pendingCount, x_keptTokens, x_keptLines, x_lineCount, x_codeCount, x_cursor, x_stop, x_waitingCount, x_openCount, nI cn, x_callCount, x_operandCount, x_stepsTaken, x_error, x_raisedCode, x_printCount, x_lastResult, x_lastPlace, x_pending, x_lineTable, x_code, x_waiting, x_globals, x_entries, ox', mg', x_letterClass, x_objectClass, x_attributes, x_calls, x_held, x_operands, x_lastPrints))
    (H0 : hs_mg (hs_L3 (hs_Lo ml fo so)) 11 0 = none → ∀ ox' mg', (∀ j, (j < cn * 12 ∨ cn * 12 + 12 ≤ j) → ox' j = ox j) → post 0 (x_objectLimit, x_stepLimit, x_depthLimit, x_pendingCount, x_keptTokens, x_keptLines, x_lineCount, x_codeCount, x_cursor, x_stop, x_waitingCount, x_openCount, nI cn, x_callCount, x_operandCount, x_stepsTaken, x_error, x_raisedCode, x_printCount, x_lastResult, x_lastPlace, x_pending, x_lineTable, x_code, x_waiting, x_globals, x_entries, ox', mg', x_letterClass, x_objectClass, x_attributes, x_calls, x_held, x_operands, x_lastPrints)) :
    wpX_orderIsMade post (x_objectLimit, x_stepLimit, x_depthLimit, x_pendingCount, x_keptTokens, x_keptLines, x_lineCount, x_codeCount, x_cursor, x_stop, x_waitingCount, x_openCount, nI cn, x_callCount, x_operandCount, x_stepsTaken, x_error, x_raisedCode, x_printCount, x_lastResult, x_lastPlace, x_pending, x_lineTable, x_code, x_waiting, x_globals, x_entries, ox, x_merging, x_letterClass, x_objectClass, x_attributes, x_calls, x_held, x_operands, x_lastPrints) (hs_oI fo) (hs_oI so) := by
  have ec : nI cn * 12 = nI (cn * 12) := pk_mul cn 12
  have hLo := hs_LoOK hO hf hs
  refine nm_r ec ⟨13, hs_xFill hO hcn hf hs hfs (fun m' hm' => ?_) 12 0 _ (by omega) (fun i j _ hj => by omega)⟩
  rw [nI_clamp (show cn * 12 < 2 ^ 31 by omega)]
  refine And.intro (vp_in_nI (by omega) (by decide)) (nm_e ⟨12, hs_xOM (R := cn * 12) (Lo := hs_Lo ml fo so) (ox0 := ox) hcn hLo (by omega) H1 H0 11 1 0 [] _ m' (by omega) rfl (fun i hi => ?_) ?_ (fun j hj => pk_un (by omega)) (fun k hk => ?_)⟩)
  · have e : hs_fl 0 (hs_Lo ml fo so i) = hs_Lo ml fo so i := by
      unfold hs_fl
      rw [List.filter_eq_self]
      intro x _
      rw [Nat.zero_testBit]; rfl
    show (hs_fl 0 (hs_Lo ml fo so i)).length ≤ 10 ∧ (∀ x, x ∈ hs_fl 0 (hs_Lo ml fo so i) → x < 10) ∧ ∀ k, k < 12 → m' (i * 12 + k) = hs_gi (hs_fl 0 (hs_Lo ml fo so i)) k
    rw [e]
    exact ⟨(hLo i hi).1, fun x hx => by have := (hLo i hi).2 x hx; omega, fun k hk => hm' i k hi hk⟩
  · cases hs_mg (hs_L3 (hs_Lo ml fo so)) 11 0 with
    | none => rfl
    | some l => rfl
  · have : k = 0 := by omega
    subst this
    rw [Nat.add_zero, pk_us]; rfl
/-- a base as the sort line names it -/
def hs_Bs (lt : Nat → Int32) (cn : Nat) (sL fo : Option Nat) : Prop := (sL = none ∧ fo = none) ∨ ∃ q c, sL = some q ∧ q < 26 ∧ c < cn ∧ lt q = nI c ∧ fo = some c
def hs_Bx (lt : Nat → Int32) (sL : Option Nat) : Prop := ∃ q, sL = some q ∧ q < 26 ∧ lt q = -1
theorem hs_xClass {l f : Nat} {sL tL : Option Nat} (hl : l < 405) (h5 : LT (l * 14 + 5) = nI f) (f26 : f < 26) (h6 : LT (l * 14 + 6) = hs_oI sL) (h7 : LT (l * 14 + 7) = hs_oI tL) (hst : sL = none → tL = none) (B1 : hs_Bx lt sL ∨ ∃ fo, hs_Bs lt cn sL fo) (B2 : hs_Bx lt tL ∨ ∃ so, hs_Bs lt cn tL so) (hO : hs_OX cn ml ox) (hcn : cn ≤ 10) {post : SX → Prop}
    (H2 : hs_Bx lt sL ∨ hs_Bx lt tL → post (x_objectLimit, x_stepLimit, x_depthLimit, x_pendingCount, x_keptTokens, x_keptLines, x_lineCount, x_codeCount, x_cursor, x_stop, x_waitingCount, x_openCount, nI cn, x_callCount, x_operandCount, x_stepsTaken, 2, x_raisedCode, x_printCount, x_lastResult, x_lastPlace, x_pending, LT, x_code, x_waiting, x_globals, x_entries, ox, x_merging, lt, x_objectClass, x_attributes, x_calls, x_held, x_operands, x_lastPrints))
    (H3 : ∀ fo so, hs_Bs lt cn sL fo → hs_Bs lt cn tL so → hs_mg (hs_L3 (hs_Lo ml fo so)) 11 0 = none → ∀ ox' mg', (∀ j, (j < cn * 12 ∨ cn * 12 + 12 ≤ j) → ox' j = ox j) → post (x_objectLimit, x_stepLimit, x_depthLimit, x_pendingCount, x_keptTokens, x_keptLines, x_lineCount, x_codeCount, x_cursor, x_stop, x_waitingCount, x_openCount, nI cn, x_callCount, x_operandCount, x_stepsTaken, 3, x_raisedCode, x_printCount, x_lastResult, x_lastPlace, x_pending, LT, x_code, x_waiting, x_globals, x_entries, ox', mg', lt, x_objectClass, x_attributes, x_calls, x_held, x_operands, x_lastPrints))
    (H7 : ∀ fo so l', hs_Bs lt cn sL fo → hs_Bs lt cn tL so → hs_mg (hs_L3 (hs_Lo ml fo so)) 11 0 = some l' → cn = 10 → ∀ ox' mg', (∀ j, (j < cn * 12 ∨ cn * 12 + 12 ≤ j) → ox' j = ox j) → post (x_objectLimit, x_stepLimit, x_depthLimit, x_pendingCount, x_keptTokens, x_keptLines, x_lineCount, x_codeCount, x_cursor, x_stop, x_waitingCount, x_openCount, nI cn, x_callCount, x_operandCount, x_stepsTaken, 7, x_raisedCode, x_printCount, x_lastResult, x_lastPlace, x_pending, LT, x_code, x_waiting, x_globals, x_entries, ox', mg', lt, x_objectClass, x_attributes, x_calls, x_held, x_operands, x_lastPrints))
    (Hok : ∀ fo so l', hs_Bs lt cn sL fo → hs_Bs lt cn tL so → hs_mg (hs_L3 (hs_Lo ml fo so)) 11 0 = some l' → cn < 10 → ∀ ox' mg', (∀ j, (j < cn * 12 ∨ cn * 12 + 12 ≤ j) → ox' j = ox j) → (∀ k, k < 12 → ox' (cn * 12 + k) = hs_gi (cn :: l') k) → wpX_reach (fun u => match u with | (x_objectLimitq, x_stepLimitq, x_depthLimitq, x_pendingCountq, x_keptTokensq, x_keptLinesq, x_lineCountq, x_codeCountq, x_cursorq, x_stopq, x_waitingCountq, x_openCountq, x_classCountq, x_callCountq, x_operandCountq, x_stepsTakenq, x_errorq, x_raisedCodeq, x_printCountq, x_lastResultq, x_lastPlaceq, x_pendingq, x_lineTableq, x_codeq, x_waitingq, x_globalsq, x_entriesq, x_ordersq, x_mergingq, x_letterClassq, x_objectClassq, x_attributesq, x_callsq, x_heldq, x_operandsq, x_lastPrintsq) => post (x_objectLimitq, x_stepLimitq, x_depthLimitq, x_pendingCountq, x_keptTokensq, x_keptLinesq, x_lineCountq, x_codeCountq, x_cursorq, x_stopq, x_waitingCountq, x_openCountq, x_classCountq, x_callCountq, x_operandCountq, x_stepsTakenq, x_errorq, x_raisedCodeq, x_printCountq, x_lastResultq, x_lastPlaceq, x_pendingq, x_lineTableq, x_codeq, x_waitingq, x_globalsq, x_entriesq, x_ordersq, x_mergingq, x_letterClassq, x_objectClassq, x_attributesq, x_callsq, x_heldq, x_operandsq, x_lastPrintsq)) (x_objectLimit, x_stepLimit, x_depthLimit, x_pendingCount, x_keptTokens, x_keptLines, x_lineCount, x_codeCount, x_cursor, x_stop, x_waitingCount, x_openCount, nI (cn + 1), x_callCount, x_operandCount, x_stepsTaken, x_error, x_raisedCode, x_printCount, x_lastResult, x_lastPlace, x_pending, LT, x_code, x_waiting, x_globals, x_entries, ox', mg', upd lt f (nI cn), x_objectClass, x_attributes, x_calls, x_held, x_operands, x_lastPrints) (nI (l + 1))) :
    wpX_makeClass post (x_objectLimit, x_stepLimit, x_depthLimit, x_pendingCount, x_keptTokens, x_keptLines, x_lineCount, x_codeCount, x_cursor, x_stop, x_waitingCount, x_openCount, nI cn, x_callCount, x_operandCount, x_stepsTaken, x_error, x_raisedCode, x_printCount, x_lastResult, x_lastPlace, x_pending, LT, x_code, x_waiting, x_globals, x_entries, ox, x_merging, lt, x_objectClass, x_attributes, x_calls, x_held, x_operands, x_lastPrints) (nI l) := by
  have e6 : nI (l * 14) + 6 = nI (l * 14 + 6) := nI_add _ 6
  have e7 : nI (l * 14) + 7 = nI (l * 14 + 7) := nI_add _ 7
  have e5 : nI (l * 14) + 5 = nI (l * 14 + 5) := nI_add _ 5
  have w87 : ∀ fo so, hs_Bs lt cn sL fo → hs_Bs lt cn tL so → wX_makeClass_87 post (nI l) (nI (l * 14)) (hs_oI fo) (hs_oI so) x_objectLimit x_stepLimit x_depthLimit x_pendingCount x_keptTokens x_keptLines x_lineCount x_codeCount x_cursor x_stop x_waitingCount x_openCount (nI cn) x_callCount x_operandCount x_stepsTaken x_error x_raisedCode x_printCount x_lastResult x_lastPlace x_pending LT x_code x_waiting x_globals x_entries ox x_merging lt x_objectClass x_attributes x_calls x_held x_operands x_lastPrints := by
    intro fo so b1 b2
    unfold wX_makeClass_87
    refine hs_xOrder hO hcn (fun a ea => ?_) (fun a ea => ?_) (fun ea => ?_) (fun l' ox' mg' q1 q2 q3 => br_f (by decide) ?_) (fun q1 ox' mg' q2 => br_t rfl (H3 fo so b1 b2 q1 ox' mg' q2))
    · rcases b1 with ⟨_, e⟩ | ⟨q, c, _, _, c1, _, e⟩
      · rw [e] at ea; cases ea
      · rw [e] at ea; have := Option.some.inj ea; omega
    · rcases b2 with ⟨_, e⟩ | ⟨q, c, _, _, c1, _, e⟩
      · rw [e] at ea; cases ea
      · rw [e] at ea; have := Option.some.inj ea; omega
    · rcases b1 with ⟨e, _⟩ | ⟨q, c, _, _, c1, _, e⟩
      · have e2 := hst e
        rcases b2 with ⟨_, e3⟩ | ⟨q, c, e3, _⟩
        · exact e3
        · rw [e2] at e3; cases e3
      · rw [e] at ea; cases ea
    · refine pk_lt cn 10 (fun z => ?_) (fun z => H7 fo so l' b1 b2 q1 (by omega) ox' mg' q2)
      rw [e5, nI_clamp (show l * 14 + 5 < 2 ^ 31 by omega), h5, nI_clamp (show f < 2 ^ 31 by omega)]
      refine And.intro (vp_in_nI (by omega) (by decide)) (And.intro (vp_in_nI f26 (by decide)) (nm_e (nm_r (nI_1 cn) ?_)))
      rw [nI_1]
      exact Hok fo so l' b1 b2 q1 z ox' mg' q2 q3
  have w69 : ∀ fo (x6 : Int32), hs_Bs lt cn sL fo → ((tL = none ∧ x6 = -1) ∨ ∃ q, tL = some q ∧ q < 26 ∧ x6 = lt q) → wX_makeClass_69 post (nI l) (nI (l * 14)) (hs_oI tL) (hs_oI fo) x6 x_objectLimit x_stepLimit x_depthLimit x_pendingCount x_keptTokens x_keptLines x_lineCount x_codeCount x_cursor x_stop x_waitingCount x_openCount (nI cn) x_callCount x_operandCount x_stepsTaken x_error x_raisedCode x_printCount x_lastResult x_lastPlace x_pending LT x_code x_waiting x_globals x_entries ox x_merging lt x_objectClass x_attributes x_calls x_held x_operands x_lastPrints := by
    intro fo x6 b1 hx
    unfold wX_makeClass_69
    rcases hx with ⟨e1, e2⟩ | ⟨q, e1, q26, e2⟩
    · rw [e1, e2]
      exact br_t (show (-1 : Int32) < 0 by decide) (w87 fo none b1 (Or.inl ⟨e1, rfl⟩))
    · rw [e1, e2]
      refine br_f (show ¬ nI q < 0 from nI_pos (by omega)) ?_
      rcases B2 with ⟨q', b, _, b'⟩ | ⟨so, b2⟩
      · rw [e1] at b
        have := Option.some.inj b
        subst this
        rw [b']
        exact br_f (by decide) (H2 (Or.inr ⟨q, e1, q26, b'⟩))
      · have b2' := b2
        rcases b2 with ⟨e, _⟩ | ⟨q', c, e, _, c1, c2, e3⟩
        · rw [e1] at e; cases e
        · rw [e1] at e
          have := Option.some.inj e
          subst this
          have w := w87 fo so b1 b2'
          rw [e3] at w
          rw [c2]
          exact br_t (nI_pos' (by omega)) w
  have w58 : ∀ (x5 x6 : Int32), ((sL = none ∧ x5 = -1) ∨ ∃ q, sL = some q ∧ q < 26 ∧ x5 = lt q) → ((tL = none ∧ x6 = -1) ∨ ∃ q, tL = some q ∧ q < 26 ∧ x6 = lt q) → wX_makeClass_58 post (nI l) (nI (l * 14)) (hs_oI sL) (hs_oI tL) x5 x6 x_objectLimit x_stepLimit x_depthLimit x_pendingCount x_keptTokens x_keptLines x_lineCount x_codeCount x_cursor x_stop x_waitingCount x_openCount (nI cn) x_callCount x_operandCount x_stepsTaken x_error x_raisedCode x_printCount x_lastResult x_lastPlace x_pending LT x_code x_waiting x_globals x_entries ox x_merging lt x_objectClass x_attributes x_calls x_held x_operands x_lastPrints := by
    intro x5 x6 hx5 hx6
    unfold wX_makeClass_58
    rcases hx5 with ⟨e1, e2⟩ | ⟨q, e1, q26, e2⟩
    · have w := w69 none x6 (Or.inl ⟨e1, rfl⟩) hx6
      rw [e1, e2]
      exact br_t (show (-1 : Int32) < 0 by decide) w
    · rw [e1, e2]
      refine br_f (show ¬ nI q < 0 from nI_pos (by omega)) ?_
      rcases B1 with ⟨q', b, _, b'⟩ | ⟨fo, b1⟩
      · rw [e1] at b
        have := Option.some.inj b
        subst this
        rw [b']
        exact br_t (by decide) (H2 (Or.inl ⟨q, e1, q26, b'⟩))
      · have b1' := b1
        rcases b1 with ⟨e, _⟩ | ⟨q', c, e, _, c1, c2, e3⟩
        · rw [e1] at e; cases e
        · rw [e1] at e
          have := Option.some.inj e
          subst this
          have w := w69 fo x6 b1' hx6
          rw [e3] at w
          rw [c2]
          exact br_f (nI_pos (by omega)) w
  have w40 : ∀ (x5 : Int32), ((sL = none ∧ x5 = -1) ∨ ∃ q, sL = some q ∧ q < 26 ∧ x5 = lt q) → wX_makeClass_40 post (nI l) (nI (l * 14)) (hs_oI sL) (hs_oI tL) x5 x_objectLimit x_stepLimit x_depthLimit x_pendingCount x_keptTokens x_keptLines x_lineCount x_codeCount x_cursor x_stop x_waitingCount x_openCount (nI cn) x_callCount x_operandCount x_stepsTaken x_error x_raisedCode x_printCount x_lastResult x_lastPlace x_pending LT x_code x_waiting x_globals x_entries ox x_merging lt x_objectClass x_attributes x_calls x_held x_operands x_lastPrints := by
    intro x5 hx5
    unfold wX_makeClass_40
    cases e : tL with
    | none =>
      have w := w58 x5 (-1) hx5 (Or.inl ⟨e, rfl⟩)
      rw [e] at w
      exact br_f (show ¬ (0 : Int32) ≤ -1 by decide) w
    | some q =>
      have q26 : q < 26 := by
        rcases B2 with ⟨q', b, b', _⟩ | ⟨so, b | ⟨q', c, b, b', _⟩⟩
        · rw [e] at b; have := Option.some.inj b; omega
        · rw [e] at b; cases b.1
        · rw [e] at b; have := Option.some.inj b; omega
      have w := w58 x5 (lt q) hx5 (Or.inr ⟨q, e, q26, rfl⟩)
      rw [e] at w
      rw [show hs_oI (some q) = nI q from rfl] at w ⊢
      refine br_t (nI_pos' (by omega)) ?_
      rw [nI_clamp (show q < 2 ^ 31 by omega)]
      exact And.intro (vp_in_nI q26 (by decide)) w
  refine nm_r (pk_mul l 14) ?_
  rw [e6, e7, nI_clamp (show l * 14 + 6 < 2 ^ 31 by omega), nI_clamp (show l * 14 + 7 < 2 ^ 31 by omega)]
  refine And.intro (vp_in_nI (by omega) (by decide)) (nm_r h6 (And.intro (vp_in_nI (by omega) (by decide)) (nm_r h7 ?_)))
  cases e : sL with
  | none =>
    have w := w40 (-1) (Or.inl ⟨e, rfl⟩)
    rw [e] at w
    exact br_f (show ¬ (0 : Int32) ≤ -1 by decide) w
  | some q =>
    have q26 : q < 26 := by
      rcases B1 with ⟨q', b, b', _⟩ | ⟨so, b | ⟨q', c, b, b', _⟩⟩
      · rw [e] at b; have := Option.some.inj b; omega
      · rw [e] at b; cases b.1
      · rw [e] at b; have := Option.some.inj b; omega
    have w := w40 (lt q) (Or.inr ⟨q, e, q26, rfl⟩)
    rw [e] at w
    rw [show hs_oI (some q) = nI q from rfl] at w ⊢
    refine br_t (nI_pos' (by omega)) ?_
    rw [nI_clamp (show q < 2 ^ 31 by omega)]
    exact And.intro (vp_in_nI q26 (by decide)) w
end
