/-! X's tokens and small methods of the reader -/
section
variable {x_objectLimit x_stepLimit x_depthLimit x_pendingCount x_keptTokens x_keptLines x_lineCount x_codeCount x_cursor x_stop x_waitingCount x_openCount x_classCount x_callCount x_operandCount x_stepsTaken x_error x_raisedCode x_printCount x_lastPlace : Int32} {x_lastResult : Int64} {x_pending x_lineTable x_orders x_merging x_letterClass x_objectClass x_calls x_lastPrints : Nat → Int32} {x_code x_waiting x_globals x_entries x_attributes x_held x_operands : Nat → Int64}
variable {y_maxObjects y_maxSteps y_maxDepth y_kept y_end y_tokens y_pending y_lines y_classes y_prints y_place y_steps y_d y_valTop y_opTop y_opens y_pos y_tk y_tv y_stmt y_target y_err y_code y_outcome y_dry y_want y_starting y_ended y_bad y_hosted y_sawSuper : Int32} {y_result : Int64} {y_text y_numbers y_classOf y_alive y_orders y_lengths y_letters y_bases y_ops y_fLine y_fPos y_fStmt y_fTarget y_fMask y_fHome y_fOps y_fVals y_fNew y_out : Nat → Int32} {y_globals y_entries y_attrs y_vals y_locals y_fRecv : Nat → Int64}
/-- a raw token of X against the token of Y's text; 0: none -/
def hs_rx (x : Int32) (t : Nat) : Prop := (x = 0 ∧ t = 0) ∨ (x = nI t ∧ hs_vt t ∧ t ≠ 33 ∧ t < 2 ^ 31) ∨ (t = 33 ∧ ¬ hs_good x ∧ x ≠ 0)
theorem hs_nIle {a t : Nat} (h : a ≤ t) (ht : t < 2 ^ 31) : nI a ≤ nI t := nI_le h ht
theorem hs_goodN {t : Nat} (h : hs_vt t) (h3 : t ≠ 33) (ht : t < 2 ^ 31) : hs_good (nI t) := by
  rcases h with h | h | h | h | h
  · exact Or.inl ⟨hs_nIle (a := 1) (by omega) ht, nI_le (b := 13) (by omega) (by decide)⟩
  · exact Or.inr (Or.inl ⟨hs_nIle (a := 21) (by omega) ht, nI_le (b := 32) (by omega) (by decide)⟩)
  · have := hs_tkN h
    exact Or.inr (Or.inr (Or.inr (Or.inl ⟨hs_nIle (a := 100) (by omega) ht, nI_le (b := 125) (by omega) (by decide)⟩)))
  · have := hs_tkC h
    exact Or.inr (Or.inr (Or.inr (Or.inr (Or.inl ⟨hs_nIle (a := 130) (by omega) ht, nI_le (b := 155) (by omega) (by decide)⟩))))
  · exact Or.inr (Or.inr (Or.inr (Or.inr (Or.inr (hs_nIle (a := 1000) (by omega) ht)))))
theorem hs_rxE {x : Int32} {t k : Nat} (h : hs_rx x t) (hk : k = 0 ∨ (hs_vt k ∧ k ≠ 33)) (hk2 : k < 2 ^ 31) : x = nI k ↔ t = k := by
  rcases h with ⟨rfl, rfl⟩ | ⟨rfl, _, _, h⟩ | ⟨rfl, h1, h2⟩
  · constructor
    · intro e
      exact (nI_eq (a := 0) (by decide) hk2).mp e
    · rintro rfl; rfl
  · exact nI_eq h hk2
  · constructor
    · rintro rfl
      rcases hk with rfl | hk
      · exact absurd rfl h2
      · exact absurd (hs_goodN hk.1 hk.2 hk2) h1
    · rintro rfl
      rcases hk with hk | hk
      · cases hk
      · exact absurd rfl hk.2
theorem hs_i32 (n : Nat) (h : n < 2 ^ 31) : (nI n).toInt = n := nI_toInt h
theorem hs_lit (n : Nat) (h : n < 2 ^ 31) (x : Int32) (e : x = nI n) : x.toInt = n := by rw [e]; exact nI_toInt h
theorem hs_rxLt {x : Int32} {t : Nat} (h : hs_rx x t) : x < 1000 ↔ t < 1000 := by
  rcases h with ⟨rfl, rfl⟩ | ⟨rfl, _, _, h⟩ | ⟨rfl, h1, h2⟩
  · exact ⟨fun _ => by decide, fun _ => by decide⟩
  · exact nI_ltI h (by decide)
  · refine ⟨fun _ => by decide, fun _ => ?_⟩
    by_cases q : x < 1000
    · exact q
    · exact absurd (Or.inr (Or.inr (Or.inr (Or.inr (Or.inr (Int32.not_lt.mp q)))))) h1
theorem hs_xFrom {x : Int32} {t a : Nat} (ha : a = 100 ∨ a = 130) (h : hs_rx x t) {post : Int32 → Prop} (h1 : (a ≤ t ∧ t < a + 26) → x = nI t → post 1) (h0 : ¬ (a ≤ t ∧ t < a + 26) → post 0) : wpX_isFrom post x (nI a) := by
  unfold wpX_isFrom
  have e26 : nI a + 26 = nI (a + 26) := nI_add a 26
  rw [e26]
  rcases h with ⟨rfl, rfl⟩ | ⟨rfl, _, _, h⟩ | ⟨rfl, h2, h3⟩
  · exact br_t (nI_lt (a := 0) (by omega) (by omega)) (h0 (by omega))
  · exact pk_lt t a (fun q => h0 (by omega)) (fun q => pk_le (a + 26) t (fun q => h0 (by omega)) (fun q2 => h1 ⟨q, q2⟩ rfl))
  · by_cases q : x < nI a
    · exact br_t q (h0 (by omega))
    · refine br_f q (br_c (fun _ => h0 (by omega)) (fun q2 => absurd ?_ h2))
      have l1 := Int32.not_lt.mp q
      have t1 := hs_i32 a (by omega)
      have t2 := hs_i32 (a + 26) (by omega)
      have l2 : x.toInt < a + 26 := by
        rw [Int32.le_iff_toInt_le, t2] at q2
        omega
      rw [Int32.le_iff_toInt_le, t1] at l1
      rcases ha with rfl | rfl
      · refine Or.inr (Or.inr (Or.inr (Or.inl ⟨?_, ?_⟩)))
        · rw [Int32.le_iff_toInt_le]; exact l1
        · rw [Int32.le_iff_toInt_le, show (125 : Int32).toInt = 125 by decide]; omega
      · refine Or.inr (Or.inr (Or.inr (Or.inr (Or.inl ⟨?_, ?_⟩))))
        · rw [Int32.le_iff_toInt_le]; exact l1
        · rw [Int32.le_iff_toInt_le, show (155 : Int32).toInt = 155 by decide]; omega
theorem hs_isNi {t : Nat} : hs_isN t = true ↔ (100 ≤ t ∧ t < 100 + 26) := by
  unfold hs_isN
  rw [decide_eq_true_iff]
theorem hs_isCi {t : Nat} : hs_isC t = true ↔ (130 ≤ t ∧ t < 130 + 26) := by
  unfold hs_isC
  rw [decide_eq_true_iff]
theorem hs_xFromN {x : Int32} {t : Nat} (h : hs_rx x t) {post : Int32 → Prop} (h1 : hs_isN t = true → x = nI t → post 1) (h0 : hs_isN t = false → post 0) : wpX_isFrom post x 100 :=
  hs_xFrom (a := 100) (Or.inl rfl) h (fun q e => h1 (hs_isNi.mpr q) e) (fun q => h0 (by
    cases hh : hs_isN t with
    | false => rfl
    | true => exact absurd (hs_isNi.mp hh) q))
theorem hs_xFromC {x : Int32} {t : Nat} (h : hs_rx x t) {post : Int32 → Prop} (h1 : hs_isC t = true → x = nI t → post 1) (h0 : hs_isC t = false → post 0) : wpX_isFrom post x 130 :=
  hs_xFrom (a := 130) (Or.inr rfl) h (fun q e => h1 (hs_isCi.mpr q) e) (fun q => h0 (by
    cases hh : hs_isC t with
    | false => rfl
    | true => exact absurd (hs_isCi.mp hh) q))
theorem hs_xRankN {t : Nat} (ht : t < 2 ^ 31) {post : Int32 → Prop} (H : post (nI (hs_rank t))) : wpX_rankOf post (nI t) := by
  unfold hs_rank at H
  refine pk_lt t 27 (fun q => ?_) (fun q => pk_lt 32 t (fun q2 => ?_) (fun q2 => pk_eq t 27 (fun e => ?_) (fun a => pk_eq t 28 (fun e => ?_) (fun b => pk_eq t 29 (fun e => ?_) (fun c => pk_eq t 30 (fun e => ?_) (fun d => pk_eq t 31 (fun e => ?_) (fun f => pk_eq t 32 (fun e => ?_) (fun g => trivial))))))))
  · rw [if_neg (by omega), if_neg (by omega), if_neg (by omega)] at H; exact H
  · rw [if_neg (by omega), if_neg (by omega), if_neg (by omega)] at H; exact H
  · rw [if_pos (by omega)] at H; exact H
  · rw [if_pos (by omega)] at H; exact H
  · rw [if_neg (by omega), if_pos (by omega)] at H; exact H
  · rw [if_neg (by omega), if_pos (by omega)] at H; exact H
  · rw [if_neg (by omega), if_neg (by omega), if_pos (by omega)] at H; exact H
  · rw [if_neg (by omega), if_neg (by omega), if_pos (by omega)] at H; exact H
theorem hs_xRank {x : Int32} {t : Nat} (h : hs_rx x t) {post : Int32 → Prop} (H : post (nI (hs_rank t))) : wpX_rankOf post x := by
  rcases h with ⟨rfl, rfl⟩ | ⟨rfl, _, _, h⟩ | ⟨rfl, h2, h3⟩
  · exact hs_xRankN (t := 0) (by decide) H
  · exact hs_xRankN h H
  · unfold wpX_rankOf
    have H : post 0 := H
    by_cases q : x < 27
    · exact br_t q H
    · refine br_f q (br_c (fun _ => H) (fun q2 => absurd ?_ h2))
      refine Or.inr (Or.inl ⟨?_, Int32.not_lt.mp q2⟩)
      have l1 := Int32.not_lt.mp q
      exact Int32.le_trans (by decide) l1
/-- the tokens of X from c to stop -/
def hs_PA (pd : Nat → Int32) (stop : Nat) : Nat → List Nat → Prop
  | c, [] => c = stop
  | c, t :: r => hs_rx (pd c) t ∧ t ≠ 0 ∧ hs_PA pd stop (c + 1) r
theorem hs_PAlen {pd : Nat → Int32} {stop : Nat} : ∀ {ts : List Nat} {c : Nat}, hs_PA pd stop c ts → stop = c + ts.length
  | [], _, h => by simpa using h.symm
  | _ :: r, c, ⟨_, _, h⟩ => by have := hs_PAlen h; simp only [List.length_cons]; omega
theorem hs_PAat {pd : Nat → Int32} {stop : Nat} : ∀ {ts : List Nat} {c k : Nat}, hs_PA pd stop c ts → k < ts.length → hs_rx (pd (c + k)) (hs_hd (ts.drop k))
  | [], _, _, _, h => by simp at h
  | t :: r, c, 0, h, _ => h.1
  | t :: r, c, k + 1, h, hk => by
    have := hs_PAat (k := k) h.2.2 (by simp only [List.length_cons] at hk; omega)
    rw [show c + 1 + k = c + (k + 1) by omega] at this
    exact this
theorem hs_PAdrop {pd : Nat → Int32} {stop : Nat} : ∀ {k : Nat} {ts : List Nat} {c : Nat}, hs_PA pd stop c ts → k ≤ ts.length → hs_PA pd stop (c + k) (ts.drop k)
  | 0, _, _, h, _ => h
  | k + 1, [], _, _, h => by simp at h
  | k + 1, t :: r, c, h, hk => by
    have := hs_PAdrop (k := k) h.2.2 (by simp only [List.length_cons] at hk; omega)
    rw [show c + 1 + k = c + (k + 1) by omega] at this
    exact this
theorem hs_hdDrop {ts : List Nat} {k : Nat} (h : ts.length ≤ k) : hs_hd (ts.drop k) = 0 := by
  rw [List.drop_eq_nil_of_le h]; rfl
theorem hs_xPeek {pd : Nat → Int32} {stop c : Nat} {ts : List Nat} (k : Nat) (h : hs_PA pd stop c ts) (hs : stop ≤ 400) (hk : k < 1000) {post : Int32 → Prop} (H : ∀ x, hs_rx x (hs_hd (ts.drop k)) → post x) : wpX_peek post (x_objectLimit, x_stepLimit, x_depthLimit, x_pendingCount, x_keptTokens, x_keptLines, x_lineCount, x_codeCount, nI c, nI stop, x_waitingCount, x_openCount, x_classCount, x_callCount, x_operandCount, x_stepsTaken, x_error, x_raisedCode, x_printCount, x_lastResult, x_lastPlace, pd, x_lineTable, x_code, x_waiting, x_globals, x_entries, x_orders, x_merging, x_letterClass, x_objectClass, x_attributes, x_calls, x_held, x_operands, x_lastPrints) (nI k) := by
  have hl := hs_PAlen h
  refine nm_r (nI_add c k) (br_f (nI_pos (by omega)) ?_)
  refine pk_le stop (c + k) (fun q => H 0 ?_) (fun q => And.intro (vp_in_nI (by omega) (by decide)) ?_)
  · rw [hs_hdDrop (by omega)]; exact Or.inl ⟨rfl, rfl⟩
  · rw [nI_clamp (show c + k < 2 ^ 31 by omega)]
    exact H _ (hs_PAat h (by omega))
/-- an element of the code -/
def hs_ce (o q : Nat) : Int64 := lN (o * 4294967296 + q)
theorem hs_el {o q : Nat} (ho : o < 64) (hq : q < 2 ^ 31) : ((nI o).toInt64 <<< ((32 : Int32).toInt64 &&& 63)) ||| (nI q).toInt64 = hs_ce o q := by
  rw [nI_l (by omega), nI_l hq]
  have e := g_shl (a := o) (k := 32) (p := 4294967296) (y := (32 : Int32).toInt64 &&& 63) (by decide) (by decide) (by decide) (by omega)
  rw [e]
  exact g_or (k := 32) (p := 4294967296) (a := q) (b := o) (by decide) (by omega) (by omega)
theorem hs_ceOp {o q : Nat} (ho : o < 64) (hq : q < 2 ^ 31) : (hs_ce o q >>> ((32 : Int32).toInt64 &&& 63)) = lN o := by
  unfold hs_ce
  rw [hs_yk (by omega)]
  exact congrArg lN (by omega)
theorem hs_ceOp32 {o q : Nat} (ho : o < 64) (hq : q < 2 ^ 31) : (hs_ce o q >>> ((32 : Int32).toInt64 &&& 63)).toInt32 = nI o := by
  rw [hs_ceOp ho hq, lN_i]
theorem hs_cePart {o q : Nat} (hq : q < 2 ^ 31) : (hs_ce o q).toInt32 = nI q := by
  unfold hs_ce
  rw [lN_i, hs_mod32]
  exact congrArg nI (by omega)
/-- a stretch of the code -/
def hs_CA (cd : Nat → Int64) : Nat → List (Nat × Nat) → Nat → Prop
  | c, [], e => c = e
  | c, (o, q) :: r, e => cd c = hs_ce o q ∧ o < 64 ∧ q < 2 ^ 31 ∧ hs_CA cd (c + 1) r e
theorem hs_CAlen {cd : Nat → Int64} : ∀ {l : List (Nat × Nat)} {c e : Nat}, hs_CA cd c l e → e = c + l.length
  | [], _, _, h => by simpa using h.symm
  | (_, _) :: r, c, e, h => by have := hs_CAlen h.2.2.2; simp only [List.length_cons]; omega
theorem hs_CAupd {cd cd' : Nat → Int64} : ∀ {l : List (Nat × Nat)} {c e : Nat}, hs_CA cd c l e → (∀ k, c ≤ k → k < e → cd' k = cd k) → hs_CA cd' c l e
  | [], _, _, h, _ => h
  | (_, _) :: r, c, e, h, hk => by
    have hl := hs_CAlen h.2.2.2
    exact ⟨(hk c (Nat.le_refl _) (by omega)).trans h.1, h.2.1, h.2.2.1, hs_CAupd h.2.2.2 (fun k k1 k2 => hk k (by omega) k2)⟩
theorem hs_CAapp {cd : Nat → Int64} : ∀ {l l' : List (Nat × Nat)} {c m e : Nat}, hs_CA cd c l m → hs_CA cd m l' e → hs_CA cd c (l ++ l') e
  | [], _, _, _, _, h, h' => by have h : _ = _ := h; rw [h]; exact h'
  | (_, _) :: r, _, c, m, e, h, h' => ⟨h.1, h.2.1, h.2.2.1, hs_CAapp h.2.2.2 h'⟩
theorem hs_CAone {cd : Nat → Int64} {c o q : Nat} (ho : o < 64) (hq : q < 2 ^ 31) : hs_CA (vp_updL cd c (hs_ce o q)) c [(o, q)] (c + 1) := ⟨pk_uLs, ho, hq, rfl⟩
theorem hs_xAddOp {cc c o q n : Nat} (hc : cc < 443) (ho : o < 64) (hq : q < 2 ^ 31) {post : Int32 → SX → Prop} (H : post 2 (x_objectLimit, x_stepLimit, x_depthLimit, x_pendingCount, x_keptTokens, x_keptLines, x_lineCount, nI (cc + 1), nI (c + n), x_stop, x_waitingCount, x_openCount, x_classCount, x_callCount, x_operandCount, x_stepsTaken, x_error, x_raisedCode, x_printCount, x_lastResult, x_lastPlace, x_pending, x_lineTable, vp_updL x_code cc (hs_ce o q), x_waiting, x_globals, x_entries, x_orders, x_merging, x_letterClass, x_objectClass, x_attributes, x_calls, x_held, x_operands, x_lastPrints)) : wpX_addOperand post (x_objectLimit, x_stepLimit, x_depthLimit, x_pendingCount, x_keptTokens, x_keptLines, x_lineCount, nI cc, nI c, x_stop, x_waitingCount, x_openCount, x_classCount, x_callCount, x_operandCount, x_stepsTaken, x_error, x_raisedCode, x_printCount, x_lastResult, x_lastPlace, x_pending, x_lineTable, x_code, x_waiting, x_globals, x_entries, x_orders, x_merging, x_letterClass, x_objectClass, x_attributes, x_calls, x_held, x_operands, x_lastPrints) (nI o) (nI q) (nI n) := by
  refine br_f (nI_ge (b := 443) hc (by decide)) (And.intro (vp_in_nI hc (by decide)) ?_)
  rw [nI_clamp (show cc < 2 ^ 31 by omega), hs_el ho hq]
  exact nm_e (nm_r (nI_1 cc) (nm_r (nI_add c n) H))
theorem hs_xAddCode {cc : Nat} {v : Int64} (hc : cc < 443) {post : SX → Prop} (H : post (x_objectLimit, x_stepLimit, x_depthLimit, x_pendingCount, x_keptTokens, x_keptLines, x_lineCount, nI (cc + 1), x_cursor, x_stop, x_waitingCount, x_openCount, x_classCount, x_callCount, x_operandCount, x_stepsTaken, x_error, x_raisedCode, x_printCount, x_lastResult, x_lastPlace, x_pending, x_lineTable, vp_updL x_code cc v, x_waiting, x_globals, x_entries, x_orders, x_merging, x_letterClass, x_objectClass, x_attributes, x_calls, x_held, x_operands, x_lastPrints)) : wpX_addCode post (x_objectLimit, x_stepLimit, x_depthLimit, x_pendingCount, x_keptTokens, x_keptLines, x_lineCount, nI cc, x_cursor, x_stop, x_waitingCount, x_openCount, x_classCount, x_callCount, x_operandCount, x_stepsTaken, x_error, x_raisedCode, x_printCount, x_lastResult, x_lastPlace, x_pending, x_lineTable, x_code, x_waiting, x_globals, x_entries, x_orders, x_merging, x_letterClass, x_objectClass, x_attributes, x_calls, x_held, x_operands, x_lastPrints) v := by
  refine br_f (nI_ge (b := 443) hc (by decide)) (And.intro (vp_in_nI hc (by decide)) ?_)
  rw [nI_clamp (show cc < 2 ^ 31 by omega)]
  exact nm_e (nm_r (nI_1 cc) H)
theorem hs_xKeep {wc o q : Nat} (hc : wc < 40) (ho : o < 64) (hq : q < 2 ^ 31) {post : SX → Prop} (H : post (x_objectLimit, x_stepLimit, x_depthLimit, x_pendingCount, x_keptTokens, x_keptLines, x_lineCount, x_codeCount, x_cursor, x_stop, nI (wc + 1), x_openCount, x_classCount, x_callCount, x_operandCount, x_stepsTaken, x_error, x_raisedCode, x_printCount, x_lastResult, x_lastPlace, x_pending, x_lineTable, x_code, vp_updL x_waiting wc (hs_ce o q), x_globals, x_entries, x_orders, x_merging, x_letterClass, x_objectClass, x_attributes, x_calls, x_held, x_operands, x_lastPrints)) : wpX_keepWaiting post (x_objectLimit, x_stepLimit, x_depthLimit, x_pendingCount, x_keptTokens, x_keptLines, x_lineCount, x_codeCount, x_cursor, x_stop, nI wc, x_openCount, x_classCount, x_callCount, x_operandCount, x_stepsTaken, x_error, x_raisedCode, x_printCount, x_lastResult, x_lastPlace, x_pending, x_lineTable, x_code, x_waiting, x_globals, x_entries, x_orders, x_merging, x_letterClass, x_objectClass, x_attributes, x_calls, x_held, x_operands, x_lastPrints) (nI o) (nI q) := by
  refine br_f (nI_ge (b := 40) hc (by decide)) (And.intro (vp_in_nI hc (by decide)) ?_)
  rw [nI_clamp (show wc < 2 ^ 31 by omega), hs_el ho hq]
  exact nm_e (nm_r (nI_1 wc) H)
end
