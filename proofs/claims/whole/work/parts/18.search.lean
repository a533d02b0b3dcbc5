/-! the search for an entry -/
section
variable {x_objectLimit x_stepLimit x_depthLimit x_pendingCount x_keptTokens x_keptLines x_lineCount x_codeCount x_cursor x_stop x_waitingCount x_openCount x_classCount x_callCount x_operandCount x_stepsTaken x_error x_raisedCode x_printCount x_lastPlace : Int32} {x_lastResult : Int64} {x_pending x_lineTable x_orders x_merging x_letterClass x_objectClass x_calls x_lastPrints : Nat → Int32} {x_code x_waiting x_globals x_entries x_attributes x_held x_operands : Nat → Int64}
variable {y_maxObjects y_maxSteps y_maxDepth y_kept y_end y_tokens y_pending y_lines y_classes y_prints y_place y_steps y_d y_valTop y_opTop y_opens y_pos y_tk y_tv y_stmt y_target y_err y_code y_outcome y_dry y_want y_starting y_ended y_bad y_hosted y_sawSuper : Int32} {y_result : Int64} {y_text y_numbers y_classOf y_alive y_orders y_lengths y_letters y_bases y_ops y_fLine y_fPos y_fStmt y_fTarget y_fMask y_fHome y_fOps y_fVals y_fNew y_out : Nat → Int32} {y_globals y_entries y_attrs y_vals y_locals y_fRecv : Nat → Int64}
def hs_sea (ex : Nat → Int64) (name : Nat) (ms : List Nat) : Option Nat := if name = 19 ∧ 0 ∈ ms then some 0 else ms.find? (fun m => decide (ex (m * 26 + name) ≠ 0))
def hs_oI : Option Nat → Int32
  | none => -1
  | some m => nI m
def hs_oV (ey : Nat → Int64) (name : Nat) : Option Nat → Int64
  | none => 0
  | some m => ey (m * 26 + name)
theorem hs_giS {l : List Nat} {k : Nat} (h : k < l.length) : hs_gi l k = nI l[k] := by
  unfold hs_gi
  rw [List.getElem?_eq_getElem h]
theorem hs_ixMul (a b c : Nat) : nI a * nI b + nI c = nI (a * b + c) := by rw [pk_mul, nI_add]
theorem hs_xSea0 {ox : Nat → Int32} {ex : Nat → Int64} {c name : Nat} {l : List Nat} (hc : c < 10) (hn : name < 26) (hl : l.length ≤ 10) (ho : ∀ k, k < 12 → ox (c * 12 + k) = hs_gi l k) (hm : ∀ m, m ∈ l → m < 10) {post : Int32 → Prop} :
    ∀ (n k : Nat) (acc : Option Nat), (∀ a, acc = some a → a < 10) → 14 ≤ n + k → k ≤ 13 → post (hs_oI (if name = 19 ∧ 0 ∈ l.drop k then some 0 else acc.orElse (fun _ => (l.drop k).find? (fun m => decide (ex (m * 26 + name) ≠ 0))))) → wX_search_6 post (nI c) (nI name) x_objectLimit x_stepLimit x_depthLimit x_pendingCount x_keptTokens x_keptLines x_lineCount x_codeCount x_cursor x_stop x_waitingCount x_openCount x_classCount x_callCount x_operandCount x_stepsTaken x_error x_raisedCode x_printCount x_lastResult x_lastPlace x_pending x_lineTable x_code x_waiting x_globals ex ox x_merging x_letterClass x_objectClass x_attributes x_calls x_held x_operands x_lastPrints n (hs_oI acc) (nI k) := by
  intro n
  induction n with
  | zero => intro k acc _ h1 h2; omega
  | succ n ih =>
    intro k acc hacc h1 h2 hp
    refine pk_le 12 k (fun q => ?_) (fun q => ?_)
    · rw [List.drop_eq_nil_of_le (by omega)] at hp
      simp at hp
      exact hp
    · have ix : nI c * 12 + nI k = nI (c * 12 + k) := hs_ixMul c 12 k
      rw [ix, nI_clamp (show c * 12 + k < 2 ^ 31 by omega), ho k q]
      refine And.intro (vp_in_nI (by omega) (by decide)) ?_
      rcases Nat.lt_or_ge k l.length with kl | kl
      · have hmk := hm l[k] (List.getElem_mem kl)
        have hd : l.drop k = l[k] :: l.drop (k + 1) := List.drop_eq_getElem_cons kl
        rw [hd] at hp
        rw [hs_giS kl]
        generalize l[k] = m at *
        refine nm_e (br_t (nI_pos' (by omega)) ?_)
        have next : (¬ (name = 19 ∧ m = 0)) → wX_search_48 post (wX_search_6 post (nI c) (nI name) x_objectLimit x_stepLimit x_depthLimit x_pendingCount x_keptTokens x_keptLines x_lineCount x_codeCount x_cursor x_stop x_waitingCount x_openCount x_classCount x_callCount x_operandCount x_stepsTaken x_error x_raisedCode x_printCount x_lastResult x_lastPlace x_pending x_lineTable x_code x_waiting x_globals ex ox x_merging x_letterClass x_objectClass x_attributes x_calls x_held x_operands x_lastPrints n) (nI c) (nI name) (hs_oI acc) (nI k) (nI m) x_objectLimit x_stepLimit x_depthLimit x_pendingCount x_keptTokens x_keptLines x_lineCount x_codeCount x_cursor x_stop x_waitingCount x_openCount x_classCount x_callCount x_operandCount x_stepsTaken x_error x_raisedCode x_printCount x_lastResult x_lastPlace x_pending x_lineTable x_code x_waiting x_globals ex ox x_merging x_letterClass x_objectClass x_attributes x_calls x_held x_operands x_lastPrints := by
          intro hnm
          have hp0 : (if name = 19 ∧ 0 ∈ m :: l.drop (k + 1) then some 0 else acc.orElse (fun _ => (m :: l.drop (k + 1)).find? (fun m => decide (ex (m * 26 + name) ≠ 0)))) = (if name = 19 ∧ 0 ∈ l.drop (k + 1) then some 0 else (acc.orElse (fun _ => if ex (m * 26 + name) = 0 then none else some m)).orElse (fun _ => (l.drop (k + 1)).find? (fun m => decide (ex (m * 26 + name) ≠ 0)))) := by
            by_cases c1 : name = 19 ∧ 0 ∈ l.drop (k + 1)
            · rw [if_pos c1, if_pos ⟨c1.1, List.mem_cons_of_mem _ c1.2⟩]
            · rw [if_neg c1, if_neg]
              · cases acc with
                | some a => rfl
                | none =>
                  by_cases c2 : ex (m * 26 + name) = 0
                  · simp [c2]
                  · simp [c2]
              · rintro ⟨a, b⟩
                rcases List.mem_cons.mp b with b | b
                · exact hnm ⟨a, b.symm⟩
                · exact c1 ⟨a, b⟩
          rw [hp0] at hp
          unfold wX_search_48
          cases acc with
          | some a =>
            have ha := hacc a rfl
            exact br_t (nI_pos' (by omega)) (nm_r (nI_1 k) (ih (k + 1) (some a) hacc (by omega) (by omega) hp))
          | none =>
            have iy : nI m * 26 + nI name = nI (m * 26 + name) := hs_ixMul m 26 name
            rw [iy, nI_clamp (show m * 26 + name < 2 ^ 31 by omega)]
            refine br_f (by decide) (And.intro (vp_in_nI (by omega) (by decide)) ?_)
            by_cases c2 : ex (m * 26 + name) = 0
            · refine br_t c2 (nm_r (nI_1 k) (ih (k + 1) none hacc (by omega) (by omega) ?_))
              simp only [c2] at hp
              exact hp
            · refine br_f c2 (nm_r (nI_1 k) (ih (k + 1) (some m) (fun a e => by cases e; exact hmk) (by omega) (by omega) ?_))
              simp only [c2] at hp
              exact hp
        refine pk_eq m 0 (fun e0 => pk_eq name 19 (fun e1 => ?_) (fun e1 => next (fun y => e1 y.1))) (fun e0 => next (fun y => e0 y.2))
        rw [if_pos ⟨e1, by rw [e0]; simp⟩] at hp
        exact hp
      · rw [hs_giN kl]
        rw [List.drop_eq_nil_of_le kl] at hp
        simp at hp
        exact nm_e (br_f (by decide) hp)
theorem hs_xSea {ox : Nat → Int32} {ex : Nat → Int64} {c name k : Nat} {l : List Nat} (hc : c < 10) (hn : name < 26) (hl : l.length ≤ 10) (ho : ∀ k, k < 12 → ox (c * 12 + k) = hs_gi l k) (hm : ∀ m, m ∈ l → m < 10) (hk : k ≤ 13) {post : Int32 → Prop} (hp : post (hs_oI (hs_sea ex name (l.drop k)))) : wpX_search post (x_objectLimit, x_stepLimit, x_depthLimit, x_pendingCount, x_keptTokens, x_keptLines, x_lineCount, x_codeCount, x_cursor, x_stop, x_waitingCount, x_openCount, x_classCount, x_callCount, x_operandCount, x_stepsTaken, x_error, x_raisedCode, x_printCount, x_lastResult, x_lastPlace, x_pending, x_lineTable, x_code, x_waiting, x_globals, ex, ox, x_merging, x_letterClass, x_objectClass, x_attributes, x_calls, x_held, x_operands, x_lastPrints) (nI c) (nI k) (nI name) :=
  ⟨14, hs_xSea0 hc hn hl ho hm 14 k none (fun a e => by cases e) (by omega) hk hp⟩
theorem hs_ySea1 {oy le : Nat → Int32} {ey : Nat → Int64} {c name : Nat} {l : List Nat} (hc : c < 10) (hn : name < 26) (hl : l.length ≤ 10) (hle : le c = nI l.length) (ho : ∀ k, k < l.length → oy (c * 10 + k) = hs_gi l k) (hm : ∀ m, m ∈ l → m < 10) {post : Int64 → Prop} :
    ∀ (n k : Nat) (v : Int64), k ≤ 20 → l.length + 1 ≤ n + k → 1 ≤ n → post (if name = 19 ∧ 0 ∈ l.drop k then ey 19 else v) → wY_search_63 post (nI c) (nI name) y_maxObjects y_maxSteps y_maxDepth y_kept y_end y_tokens y_pending y_lines y_classes y_prints y_place y_steps y_d y_valTop y_opTop y_opens y_pos y_tk y_tv y_stmt y_target y_err y_code y_outcome y_result y_dry y_want y_starting y_ended y_bad y_hosted y_sawSuper y_text y_numbers y_globals ey y_attrs y_classOf y_alive oy le y_letters y_bases y_vals y_ops y_locals y_fRecv y_fLine y_fPos y_fStmt y_fTarget y_fMask y_fHome y_fOps y_fVals y_fNew y_out n v (nI k) := by
  intro n
  induction n with
  | zero => intro k v _ _ h; omega
  | succ n ih =>
    intro k v hk h1 _ hp
    refine And.intro (vp_in_nI hc (by decide)) ?_
    rw [nI_clamp (show c < 2 ^ 31 by omega), hle]
    refine pk_le l.length k (fun q => ?_) (fun q => ?_)
    · rw [List.drop_eq_nil_of_le q] at hp
      simp at hp
      exact hp
    · have hmk := hm l[k] (List.getElem_mem q)
      have hd : l.drop k = l[k] :: l.drop (k + 1) := List.drop_eq_getElem_cons q
      have ix : nI c * 10 + nI k = nI (c * 10 + k) := hs_ixMul c 10 k
      rw [ix, nI_clamp (show c * 10 + k < 2 ^ 31 by omega), ho k q, hs_giS q]
      rw [hd] at hp
      generalize l[k] = m at *
      refine And.intro (vp_in_nI (by omega) (by decide)) ?_
      have next : ∀ v', post (if name = 19 ∧ 0 ∈ l.drop (k + 1) then ey 19 else v') → wY_search_63 post (nI c) (nI name) y_maxObjects y_maxSteps y_maxDepth y_kept y_end y_tokens y_pending y_lines y_classes y_prints y_place y_steps y_d y_valTop y_opTop y_opens y_pos y_tk y_tv y_stmt y_target y_err y_code y_outcome y_result y_dry y_want y_starting y_ended y_bad y_hosted y_sawSuper y_text y_numbers y_globals ey y_attrs y_classOf y_alive oy le y_letters y_bases y_vals y_ops y_locals y_fRecv y_fLine y_fPos y_fStmt y_fTarget y_fMask y_fHome y_fOps y_fVals y_fNew y_out n v' (nI (k + 1)) := fun v' h => ih (k + 1) v' (by omega) (by omega) (by omega) h
      refine pk_eq m 0 (fun e0 => pk_eq name 19 (fun e1 => ?_) (fun e1 => ?_)) (fun e0 => ?_)
      · rw [if_pos ⟨e1, by rw [e0]; simp⟩] at hp
        refine nm_e (nm_r (nI_1 k) (next (ey 19) ?_))
        split <;> exact hp
      · rw [if_neg (fun y => e1 y.1)] at hp
        refine nm_r (nI_1 k) (next v ?_)
        rw [if_neg (fun y => e1 y.1)]
        exact hp
      · refine nm_r (nI_1 k) (next v ?_)
        by_cases c1 : name = 19 ∧ 0 ∈ l.drop (k + 1)
        · rw [if_pos ⟨c1.1, List.mem_cons_of_mem _ c1.2⟩] at hp
          rw [if_pos c1]; exact hp
        · rw [if_neg] at hp
          · rw [if_neg c1]; exact hp
          · rintro ⟨a, b⟩
            rcases List.mem_cons.mp b with b | b
            · exact e0 b.symm
            · exact c1 ⟨a, b⟩
def hs_fv (ey : Nat → Int64) (name : Nat) (ms : List Nat) : Int64 := hs_oV ey name (ms.find? (fun m => decide (ey (m * 26 + name) ≠ 0)))
theorem hs_fvZ {ey : Nat → Int64} {name a : Nat} {ms : List Nat} (z : ey (a * 26 + name) = 0) : hs_fv ey name (a :: ms) = hs_fv ey name ms := by
  unfold hs_fv
  simp [z]
theorem hs_fvN {ey : Nat → Int64} {name a : Nat} {ms : List Nat} (z : ¬ ey (a * 26 + name) = 0) : hs_fv ey name (a :: ms) = ey (a * 26 + name) := by
  unfold hs_fv
  simp [z, hs_oV]
theorem hs_ySea2 {oy le : Nat → Int32} {ey : Nat → Int64} {c name k : Nat} {l : List Nat} (hc : c < 10) (hn : name < 26) (hl : l.length ≤ 10) (hle : le c = nI l.length) (ho : ∀ k, k < l.length → oy (c * 10 + k) = hs_gi l k) (hm : ∀ m, m ∈ l → m < 10) (hk : k ≤ 20) {post : Int64 → Prop} (hp : post (if name = 19 ∧ 0 ∈ l.drop k then ey 19 else hs_fv ey name (l.drop k))) :
    ∀ (n u : Nat), u ≤ l.length → (k ≤ u ∨ u = l.length) → u < n → ∀ (i : Int32) (w : Int64), i = nI u - 1 → w = hs_fv ey name (l.drop u) → wY_search_13 post (nI c) (nI k) (nI name) y_maxObjects y_maxSteps y_maxDepth y_kept y_end y_tokens y_pending y_lines y_classes y_prints y_place y_steps y_d y_valTop y_opTop y_opens y_pos y_tk y_tv y_stmt y_target y_err y_code y_outcome y_result y_dry y_want y_starting y_ended y_bad y_hosted y_sawSuper y_text y_numbers y_globals ey y_attrs y_classOf y_alive oy le y_letters y_bases y_vals y_ops y_locals y_fRecv y_fLine y_fPos y_fStmt y_fTarget y_fMask y_fHome y_fOps y_fVals y_fNew y_out n w i := by
  intro n
  induction n with
  | zero => intro u _ _ h; omega
  | succ n ih =>
    intro u hu hku hn1 i w hi hw
    subst hw
    rcases Nat.lt_or_ge k u with q | q
    · obtain ⟨v, rfl⟩ : ∃ v, u = v + 1 := ⟨u - 1, by omega⟩
      have ei : i = nI v := by rw [hi, nI_pred]
      subst ei
      refine br_f (nI_nlt (by omega) (by omega)) ?_
      have vl : v < l.length := by omega
      have hmk := hm l[v] (List.getElem_mem vl)
      have ix : nI c * 10 + nI v = nI (c * 10 + v) := hs_ixMul c 10 v
      have iy : nI l[v] * 26 + nI name = nI (l[v] * 26 + name) := hs_ixMul _ 26 name
      rw [ix, nI_clamp (show c * 10 + v < 2 ^ 31 by omega), ho v vl, hs_giS vl, iy, nI_clamp (show l[v] * 26 + name < 2 ^ 31 by omega)]
      have hd : l.drop v = l[v] :: l.drop (v + 1) := List.drop_eq_getElem_cons vl
      have rc := ih v (by omega) (Or.inl (by omega)) (by omega)
      rw [hd] at rc
      refine And.intro (vp_in_nI (by omega) (by decide)) (And.intro (vp_in_nI (by omega) (by decide)) (nm_e ?_))
      have em : nI v + (-1) = nI v - 1 := by rw [Int32.sub_eq_add_neg]
      by_cases z : ey (l[v] * 26 + name) = 0
      · refine br_t z (nm_r em ?_)
        have e : hs_fv ey name (l[v] :: l.drop (v + 1)) = hs_fv ey name (l.drop (v + 1)) := by
          exact hs_fvZ z
        exact rc _ _ rfl e.symm
      · refine br_f z (nm_r em ?_)
        have e : hs_fv ey name (l[v] :: l.drop (v + 1)) = ey (l[v] * 26 + name) := by
          exact hs_fvN z
        exact rc _ _ rfl e.symm
    · refine br_t ?_ ⟨l.length + 2, ?_⟩
      · rw [hi]
        cases u with
        | zero =>
          have : nI 0 - 1 = -1 := by decide
          rw [this]
          exact Int32.lt_of_lt_of_le (by decide) (nI_pos' (show k < 2 ^ 31 by omega))
        | succ u => rw [nI_pred]; exact nI_lt (by omega) (by omega)
      · refine hs_ySea1 hc hn hl hle ho hm _ k _ hk (by omega) (by omega) ?_
        have e : l.drop u = l.drop k := by
          rcases hku with h | h
          · have : k = u := by omega
            rw [this]
          · rw [List.drop_eq_nil_of_le (by omega), List.drop_eq_nil_of_le (by omega)]
        rw [e]; exact hp
theorem hs_ySea {oy le : Nat → Int32} {ey : Nat → Int64} {c name k : Nat} {l : List Nat} (hc : c < 10) (hn : name < 26) (hl : l.length ≤ 10) (hle : le c = nI l.length) (ho : ∀ k, k < l.length → oy (c * 10 + k) = hs_gi l k) (hm : ∀ m, m ∈ l → m < 10) (hk : k ≤ 20) {post : Int64 → Prop} (hp : post (hs_oV ey name (hs_sea ey name (l.drop k)))) : wpY_search post (y_maxObjects, y_maxSteps, y_maxDepth, y_kept, y_end, y_tokens, y_pending, y_lines, y_classes, y_prints, y_place, y_steps, y_d, y_valTop, y_opTop, y_opens, y_pos, y_tk, y_tv, y_stmt, y_target, y_err, y_code, y_outcome, y_result, y_dry, y_want, y_starting, y_ended, y_bad, y_hosted, y_sawSuper, y_text, y_numbers, y_globals, ey, y_attrs, y_classOf, y_alive, oy, le, y_letters, y_bases, y_vals, y_ops, y_locals, y_fRecv, y_fLine, y_fPos, y_fStmt, y_fTarget, y_fMask, y_fHome, y_fOps, y_fVals, y_fNew, y_out) (nI c) (nI k) (nI name) := by
  refine And.intro (vp_in_nI hc (by decide)) ?_
  rw [nI_clamp (show c < 2 ^ 31 by omega), hle]
  refine nm_e ⟨l.length + 1, ?_⟩
  have e : hs_fv ey name (l.drop l.length) = 0 := by
    rw [List.drop_length]; rfl
  refine hs_ySea2 hc hn hl hle ho hm hk ?_ (l.length + 1) l.length (Nat.le_refl _) (Or.inr rfl) (by omega) _ _ rfl e.symm
  unfold hs_sea at hp
  by_cases z : name = 19 ∧ 0 ∈ l.drop k
  · rw [if_pos z] at hp ⊢
    have e : hs_oV ey name (some 0) = ey 19 := by
      show ey (0 * 26 + name) = ey 19
      rw [z.1]
    rw [e] at hp; exact hp
  · rw [if_neg z] at hp ⊢
    exact hp
theorem hs_seaC {ex ey : Nat → Int64} {name : Nat} {ms : List Nat} (h : ∀ m, m ∈ ms → (ex (m * 26 + name) = 0 ↔ ey (m * 26 + name) = 0)) : hs_sea ex name ms = hs_sea ey name ms := by
  unfold hs_sea
  split
  · rfl
  · induction ms with
    | nil => rfl
    | cons a ms ih =>
      have ha := h a (by simp)
      have := ih (fun m hm => h m (List.mem_cons_of_mem _ hm)) (by rename_i q; exact fun y => q ⟨y.1, List.mem_cons_of_mem _ y.2⟩)
      by_cases z : ex (a * 26 + name) = 0
      · have z' := ha.mp z
        simp only [List.find?_cons, z, z']
        simpa using this
      · have z' : ¬ ey (a * 26 + name) = 0 := fun y => z (ha.mpr y)
        simp [z, z']
end
