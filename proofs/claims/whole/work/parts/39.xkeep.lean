/-! the loop of keepChunk: one line -/
section
variable {x_objectLimit x_stepLimit x_depthLimit x_pendingCount x_keptTokens x_keptLines x_lineCount x_codeCount x_cursor x_stop x_waitingCount x_openCount x_classCount x_callCount x_operandCount x_stepsTaken x_error x_raisedCode x_printCount x_lastPlace : Int32} {x_lastResult : Int64} {x_pending x_lineTable x_orders x_merging x_letterClass x_objectClass x_calls x_lastPrints : Nat → Int32} {x_code x_waiting x_globals x_entries x_attributes x_held x_operands : Nat → Int64}
variable {y_maxObjects y_maxSteps y_maxDepth y_kept y_end y_tokens y_pending y_lines y_classes y_prints y_place y_steps y_d y_valTop y_opTop y_opens y_pos y_tk y_tv y_stmt y_target y_err y_code y_outcome y_dry y_want y_starting y_ended y_bad y_hosted y_sawSuper : Int32} {y_result : Int64} {y_text y_numbers y_classOf y_alive y_orders y_lengths y_letters y_bases y_ops y_fLine y_fPos y_fStmt y_fTarget y_fMask y_fHome y_fOps y_fVals y_fNew y_out : Nat → Int32} {y_globals y_entries y_attrs y_vals y_locals y_fRecv : Nat → Int64}
/-- what has been done to the row of line i so far -/
def hs_rk (LT' LT : Nat → Int32) (i : Nat) : Prop := ∀ k, (k < i * 14 ∨ i * 14 + 14 ≤ k ∨ k = i * 14 + 1 ∨ k = i * 14 + 2 ∨ k = i * 14 + 11 ∨ k = i * 14 + 12) → LT' k = LT k
theorem hs_x196 {pd LT : Nat → Int32} {cd : Nat → Int64} {h ind : Nat → Nat} {tk : Nat → List Nat} {a b i c e cc pn kl num n : Nat} {x2 x3 : Int32} {post : Int32 → SX → Prop}
    (hai : a ≤ i) (hib : i < b) (hb : b ≤ 405) (K : hs_IK LT h ind a i) (Q : hs_PR LT ind a i) (hind : LT (i * 14 + 1) = nI (ind i) ∧ ind i ≤ 8) (hnum : LT (i * 14 + 2) = nI num) (hT : LT (i * 14 + 11) = nI c) (hE : LT (i * 14 + 12) = nI e) (he : e ≤ 400) (hPA : hs_PA pd e c (tk i)) (hh : h i = hs_hd (tk i))
    (Hgood : hs_lok tk h ind a i → ∀ (q1 q2 q3 q4 : Int32) (q5 : Nat → Int64) (LT' : Nat → Int32) (cd' : Nat → Int64) (em : List (Nat × Nat)), (∀ k, (k < i * 14 ∨ i * 14 + 14 ≤ k ∨ k = i * 14 + 1 ∨ k = i * 14 + 2 ∨ k = i * 14 + 11 ∨ k = i * 14 + 12) → LT' k = LT k) → LT' (i * 14 + 3) = hs_oI (hs_pa ind a i) → LT' (i * 14 + 9) = nI cc → LT' (i * 14 + 10) = nI (cc + em.length) → hs_LF (LT' (i * 14)) (LT' (i * 14 + 5)) (LT' (i * 14 + 6)) (LT' (i * 14 + 7)) em (tk i) → hs_CA cd' cc em (cc + em.length) → (∀ k, k < cc → cd' k = cd k) → em.length ≤ (tk i).length → wX_keepChunk_21 post (nI a) x2 x3 n 0 (nI (i + 1)) x_objectLimit x_stepLimit x_depthLimit (nI pn) x_keptTokens (nI kl) (nI b) (nI (cc + em.length)) q1 q2 q3 q4 x_classCount x_callCount x_operandCount x_stepsTaken x_error x_raisedCode x_printCount x_lastResult x_lastPlace pd LT' cd' q5 x_globals x_entries x_orders x_merging x_letterClass x_objectClass x_attributes x_calls x_held x_operands x_lastPrints)
    (Hbad : ¬ hs_lok tk h ind a i → ∀ (q1 q2 q3 q4 : Int32) (q5 : Nat → Int64) (q6 : Int32) (LT' : Nat → Int32) (cd' : Nat → Int64), (∀ k, k < i * 14 → LT' k = LT k) → (∀ k, k < cc → cd' k = cd k) → wX_keepChunk_21 post (nI a) x2 x3 n (nI num) (nI (i + 1)) x_objectLimit x_stepLimit x_depthLimit (nI pn) x_keptTokens (nI kl) (nI b) q6 q1 q2 q3 q4 x_classCount x_callCount x_operandCount x_stepsTaken x_error x_raisedCode x_printCount x_lastResult x_lastPlace pd LT' cd' q5 x_globals x_entries x_orders x_merging x_letterClass x_objectClass x_attributes x_calls x_held x_operands x_lastPrints) (hno : ¬ hs_lok tk h ind a i) (q1 q2 q3 q4 : Int32) (q5 : Nat → Int64) {q6 : Int32} {LT' : Nat → Int32} {cd' : Nat → Int64} (hk : hs_rk LT' LT i) (hcd : ∀ k, k < cc → cd' k = cd k) : wX_keepChunk_196 post (wX_keepChunk_21 post (nI a) x2 x3 n) (nI a) x2 x3 (nI i) (nI (i * 14)) x_objectLimit x_stepLimit x_depthLimit (nI pn) x_keptTokens (nI kl) (nI b) q6 q1 q2 q3 q4 x_classCount x_callCount x_operandCount x_stepsTaken x_error x_raisedCode x_printCount x_lastResult x_lastPlace pd LT' cd' q5 x_globals x_entries x_orders x_merging x_letterClass x_objectClass x_attributes x_calls x_held x_operands x_lastPrints := by
  unfold wX_keepChunk_196
  have e2 : nI (i * 14) + 2 = nI (i * 14 + 2) := nI_add _ 2
  rw [e2, nI_clamp (show i * 14 + 2 < 2 ^ 31 by omega), hk _ (by omega), hnum]
  exact And.intro (vp_in_nI (by omega) (by decide)) (nm_e (nm_r (nI_1 i) (Hbad hno q1 q2 q3 q4 q5 q6 LT' cd' (fun k hk' => hk k (by omega)) hcd)))
theorem hs_x167b {pd LT : Nat → Int32} {cd : Nat → Int64} {h ind : Nat → Nat} {tk : Nat → List Nat} {a b i c e cc pn kl num n : Nat} {x2 x3 : Int32} {post : Int32 → SX → Prop}
    (hai : a ≤ i) (hib : i < b) (hb : b ≤ 405) (K : hs_IK LT h ind a i) (Q : hs_PR LT ind a i) (hind : LT (i * 14 + 1) = nI (ind i) ∧ ind i ≤ 8) (hnum : LT (i * 14 + 2) = nI num) (hT : LT (i * 14 + 11) = nI c) (hE : LT (i * 14 + 12) = nI e) (he : e ≤ 400) (hPA : hs_PA pd e c (tk i)) (hh : h i = hs_hd (tk i))
    (Hgood : hs_lok tk h ind a i → ∀ (q1 q2 q3 q4 : Int32) (q5 : Nat → Int64) (LT' : Nat → Int32) (cd' : Nat → Int64) (em : List (Nat × Nat)), (∀ k, (k < i * 14 ∨ i * 14 + 14 ≤ k ∨ k = i * 14 + 1 ∨ k = i * 14 + 2 ∨ k = i * 14 + 11 ∨ k = i * 14 + 12) → LT' k = LT k) → LT' (i * 14 + 3) = hs_oI (hs_pa ind a i) → LT' (i * 14 + 9) = nI cc → LT' (i * 14 + 10) = nI (cc + em.length) → hs_LF (LT' (i * 14)) (LT' (i * 14 + 5)) (LT' (i * 14 + 6)) (LT' (i * 14 + 7)) em (tk i) → hs_CA cd' cc em (cc + em.length) → (∀ k, k < cc → cd' k = cd k) → em.length ≤ (tk i).length → wX_keepChunk_21 post (nI a) x2 x3 n 0 (nI (i + 1)) x_objectLimit x_stepLimit x_depthLimit (nI pn) x_keptTokens (nI kl) (nI b) (nI (cc + em.length)) q1 q2 q3 q4 x_classCount x_callCount x_operandCount x_stepsTaken x_error x_raisedCode x_printCount x_lastResult x_lastPlace pd LT' cd' q5 x_globals x_entries x_orders x_merging x_letterClass x_objectClass x_attributes x_calls x_held x_operands x_lastPrints)
    (Hbad : ¬ hs_lok tk h ind a i → ∀ (q1 q2 q3 q4 : Int32) (q5 : Nat → Int64) (q6 : Int32) (LT' : Nat → Int32) (cd' : Nat → Int64), (∀ k, k < i * 14 → LT' k = LT k) → (∀ k, k < cc → cd' k = cd k) → wX_keepChunk_21 post (nI a) x2 x3 n (nI num) (nI (i + 1)) x_objectLimit x_stepLimit x_depthLimit (nI pn) x_keptTokens (nI kl) (nI b) q6 q1 q2 q3 q4 x_classCount x_callCount x_operandCount x_stepsTaken x_error x_raisedCode x_printCount x_lastResult x_lastPlace pd LT' cd' q5 x_globals x_entries x_orders x_merging x_letterClass x_objectClass x_attributes x_calls x_held x_operands x_lastPrints) (hno : ¬ hs_lok tk h ind a i) (q1 q2 q3 q4 : Int32) (q5 : Nat → Int64) {q6 : Int32} {LT' : Nat → Int32} {cd' : Nat → Int64} (hk : hs_rk LT' LT i) (hcd : ∀ k, k < cc → cd' k = cd k) : wX_keepChunk_167 post (wX_keepChunk_21 post (nI a) x2 x3 n) (nI a) x2 x3 0 (nI i) (nI (i * 14)) 0 x_objectLimit x_stepLimit x_depthLimit (nI pn) x_keptTokens (nI kl) (nI b) q6 q1 q2 q3 q4 x_classCount x_callCount x_operandCount x_stepsTaken x_error x_raisedCode x_printCount x_lastResult x_lastPlace pd LT' cd' q5 x_globals x_entries x_orders x_merging x_letterClass x_objectClass x_attributes x_calls x_held x_operands x_lastPrints := by
  unfold wX_keepChunk_167
  have e10 : nI (i * 14) + 10 = nI (i * 14 + 10) := nI_add _ 10
  rw [e10, nI_clamp (show i * 14 + 10 < 2 ^ 31 by omega)]
  refine And.intro (vp_in_nI (by omega) (by decide)) (nm_e (br_t rfl ?_))
  exact hs_x196 hai hib hb K Q hind hnum hT hE he hPA hh Hgood Hbad hno q1 q2 q3 q4 q5 (fun k hk' => by rw [pk_un (by omega)]; exact hk k hk') hcd
theorem hs_x167g {pd LT : Nat → Int32} {cd : Nat → Int64} {h ind : Nat → Nat} {tk : Nat → List Nat} {a b i c e cc pn kl num n : Nat} {x2 x3 : Int32} {post : Int32 → SX → Prop}
    (hai : a ≤ i) (hib : i < b) (hb : b ≤ 405) (K : hs_IK LT h ind a i) (Q : hs_PR LT ind a i) (hind : LT (i * 14 + 1) = nI (ind i) ∧ ind i ≤ 8) (hnum : LT (i * 14 + 2) = nI num) (hT : LT (i * 14 + 11) = nI c) (hE : LT (i * 14 + 12) = nI e) (he : e ≤ 400) (hPA : hs_PA pd e c (tk i)) (hh : h i = hs_hd (tk i))
    (Hgood : hs_lok tk h ind a i → ∀ (q1 q2 q3 q4 : Int32) (q5 : Nat → Int64) (LT' : Nat → Int32) (cd' : Nat → Int64) (em : List (Nat × Nat)), (∀ k, (k < i * 14 ∨ i * 14 + 14 ≤ k ∨ k = i * 14 + 1 ∨ k = i * 14 + 2 ∨ k = i * 14 + 11 ∨ k = i * 14 + 12) → LT' k = LT k) → LT' (i * 14 + 3) = hs_oI (hs_pa ind a i) → LT' (i * 14 + 9) = nI cc → LT' (i * 14 + 10) = nI (cc + em.length) → hs_LF (LT' (i * 14)) (LT' (i * 14 + 5)) (LT' (i * 14 + 6)) (LT' (i * 14 + 7)) em (tk i) → hs_CA cd' cc em (cc + em.length) → (∀ k, k < cc → cd' k = cd k) → em.length ≤ (tk i).length → wX_keepChunk_21 post (nI a) x2 x3 n 0 (nI (i + 1)) x_objectLimit x_stepLimit x_depthLimit (nI pn) x_keptTokens (nI kl) (nI b) (nI (cc + em.length)) q1 q2 q3 q4 x_classCount x_callCount x_operandCount x_stepsTaken x_error x_raisedCode x_printCount x_lastResult x_lastPlace pd LT' cd' q5 x_globals x_entries x_orders x_merging x_letterClass x_objectClass x_attributes x_calls x_held x_operands x_lastPrints)
    (Hbad : ¬ hs_lok tk h ind a i → ∀ (q1 q2 q3 q4 : Int32) (q5 : Nat → Int64) (q6 : Int32) (LT' : Nat → Int32) (cd' : Nat → Int64), (∀ k, k < i * 14 → LT' k = LT k) → (∀ k, k < cc → cd' k = cd k) → wX_keepChunk_21 post (nI a) x2 x3 n (nI num) (nI (i + 1)) x_objectLimit x_stepLimit x_depthLimit (nI pn) x_keptTokens (nI kl) (nI b) q6 q1 q2 q3 q4 x_classCount x_callCount x_operandCount x_stepsTaken x_error x_raisedCode x_printCount x_lastResult x_lastPlace pd LT' cd' q5 x_globals x_entries x_orders x_merging x_letterClass x_objectClass x_attributes x_calls x_held x_operands x_lastPrints) (hl : (tk i).length ≤ 40) (q1 q2 q3 q4 : Int32) (q5 : Nat → Int64) {LT' : Nat → Int32} {cd' : Nat → Int64} {em : List (Nat × Nat)} (hk : hs_rk LT' LT i) (h9 : LT' (i * 14 + 9) = nI cc) (hL : hs_LF (LT' (i * 14)) (LT' (i * 14 + 5)) (LT' (i * 14 + 6)) (LT' (i * 14 + 7)) em (tk i)) (hC : hs_CA cd' cc em (cc + em.length)) (hcd : ∀ k, k < cc → cd' k = cd k) (hem : em.length ≤ (tk i).length) : wX_keepChunk_167 post (wX_keepChunk_21 post (nI a) x2 x3 n) (nI a) x2 x3 0 (nI i) (nI (i * 14)) 1 x_objectLimit x_stepLimit x_depthLimit (nI pn) x_keptTokens (nI kl) (nI b) (nI (cc + em.length)) q1 q2 q3 q4 x_classCount x_callCount x_operandCount x_stepsTaken x_error x_raisedCode x_printCount x_lastResult x_lastPlace pd LT' cd' q5 x_globals x_entries x_orders x_merging x_letterClass x_objectClass x_attributes x_calls x_held x_operands x_lastPrints := by
  unfold wX_keepChunk_167
  have e10 : nI (i * 14) + 10 = nI (i * 14 + 10) := nI_add _ 10
  rw [e10, nI_clamp (show i * 14 + 10 < 2 ^ 31 by omega)]
  refine And.intro (vp_in_nI (by omega) (by decide)) (nm_e (br_f (by decide) ?_))
  have U : ∀ k, k ≠ i * 14 + 10 → upd LT' (i * 14 + 10) (nI (cc + em.length)) k = LT' k := fun k hk => pk_un hk
  have hk2 : hs_rk (upd LT' (i * 14 + 10) (nI (cc + em.length))) LT i := fun k hk' => by rw [U _ (by omega)]; exact hk k hk'
  have K2 : hs_IK (upd LT' (i * 14 + 10) (nI (cc + em.length))) h ind a (i + 1) := by
    intro j j1 j2
    by_cases ej : j = i
    · subst ej
      refine ⟨?_, ?_, hind.2⟩
      · rw [hk2 _ (by omega)]; exact hind.1
      · rw [U _ (by omega), hh]; exact hs_LFkd hL
    · rw [hk2 _ (by omega), hk2 _ (by omega)]
      exact K j j1 (by omega)
  have Q2 : hs_PR (upd LT' (i * 14 + 10) (nI (cc + em.length))) ind a i := by
    intro j j1 j2
    rw [hk2 _ (by omega)]
    exact Q j j1 j2
  refine hs_xStands (h := h) (ind := ind) (ts := tk i) hai (by omega) K2 Q2 ?_ ?_ he hPA ?_ hh (fun w => br_f (by decide) (nm_r (nI_1 i) ?_)) (fun w => br_t rfl ?_)
  · rw [hk2 _ (by omega)]; exact hT
  · rw [hk2 _ (by omega)]; exact hE
  · rw [U _ (by omega)]; exact hs_LF15 hL
  · refine Hgood ⟨hl, ⟨_, _, _, _, _, hL⟩, w⟩ q1 q2 q3 q4 q5 _ cd' em (fun k hk' => ?_) pk_us ?_ ?_ ?_ hC hcd hem
    · rw [pk_un (by omega)]; exact hk2 k hk'
    · rw [pk_un (by omega), U _ (by omega)]; exact h9
    · rw [pk_un (by omega), pk_us]
    · rw [pk_un (by omega), pk_un (by omega), pk_un (by omega), pk_un (by omega), pk_un (by omega), pk_un (by omega), pk_un (by omega), pk_un (by omega)]; exact hL
  · exact hs_x196 hai hib hb K Q hind hnum hT hE he hPA hh Hgood Hbad (fun y => w y.2.2) q1 q2 q3 q4 q5 (fun k hk' => by rw [pk_un (by omega)]; exact hk2 k hk') hcd
/-- reading the expression [c1, e1) of line i; what is read so far is e0 -/
theorem hs_x143 {pd LT : Nat → Int32} {cd : Nat → Int64} {h ind : Nat → Nat} {tk : Nat → List Nat} {a b i c e cc pn kl num n : Nat} {x2 x3 : Int32} {post : Int32 → SX → Prop}
    (hai : a ≤ i) (hib : i < b) (hb : b ≤ 405) (K : hs_IK LT h ind a i) (Q : hs_PR LT ind a i) (hind : LT (i * 14 + 1) = nI (ind i) ∧ ind i ≤ 8) (hnum : LT (i * 14 + 2) = nI num) (hT : LT (i * 14 + 11) = nI c) (hE : LT (i * 14 + 12) = nI e) (he : e ≤ 400) (hPA : hs_PA pd e c (tk i)) (hh : h i = hs_hd (tk i))
    (Hgood : hs_lok tk h ind a i → ∀ (q1 q2 q3 q4 : Int32) (q5 : Nat → Int64) (LT' : Nat → Int32) (cd' : Nat → Int64) (em : List (Nat × Nat)), (∀ k, (k < i * 14 ∨ i * 14 + 14 ≤ k ∨ k = i * 14 + 1 ∨ k = i * 14 + 2 ∨ k = i * 14 + 11 ∨ k = i * 14 + 12) → LT' k = LT k) → LT' (i * 14 + 3) = hs_oI (hs_pa ind a i) → LT' (i * 14 + 9) = nI cc → LT' (i * 14 + 10) = nI (cc + em.length) → hs_LF (LT' (i * 14)) (LT' (i * 14 + 5)) (LT' (i * 14 + 6)) (LT' (i * 14 + 7)) em (tk i) → hs_CA cd' cc em (cc + em.length) → (∀ k, k < cc → cd' k = cd k) → em.length ≤ (tk i).length → wX_keepChunk_21 post (nI a) x2 x3 n 0 (nI (i + 1)) x_objectLimit x_stepLimit x_depthLimit (nI pn) x_keptTokens (nI kl) (nI b) (nI (cc + em.length)) q1 q2 q3 q4 x_classCount x_callCount x_operandCount x_stepsTaken x_error x_raisedCode x_printCount x_lastResult x_lastPlace pd LT' cd' q5 x_globals x_entries x_orders x_merging x_letterClass x_objectClass x_attributes x_calls x_held x_operands x_lastPrints)
    (Hbad : ¬ hs_lok tk h ind a i → ∀ (q1 q2 q3 q4 : Int32) (q5 : Nat → Int64) (q6 : Int32) (LT' : Nat → Int32) (cd' : Nat → Int64), (∀ k, k < i * 14 → LT' k = LT k) → (∀ k, k < cc → cd' k = cd k) → wX_keepChunk_21 post (nI a) x2 x3 n (nI num) (nI (i + 1)) x_objectLimit x_stepLimit x_depthLimit (nI pn) x_keptTokens (nI kl) (nI b) q6 q1 q2 q3 q4 x_classCount x_callCount x_operandCount x_stepsTaken x_error x_raisedCode x_printCount x_lastResult x_lastPlace pd LT' cd' q5 x_globals x_entries x_orders x_merging x_letterClass x_objectClass x_attributes x_calls x_held x_operands x_lastPrints) (hcc : cc + (tk i).length ≤ 443) {z0 : Int32} {c1 e1 : Nat} {E : List Nat} (hP1 : hs_PA pd e1 c1 E) (he1 : e1 ≤ 400) (hlE : E.length ≤ 40) (ez : nI e - z0 = nI e1) (q1 q2 q3 q4 : Int32) (q5 : Nat → Int64) {LT' : Nat → Int32} {cd' : Nat → Int64} {e0 : List (Nat × Nat)} (hk : hs_rk LT' LT i) (h9 : LT' (i * 14 + 9) = nI cc) (hC : hs_CA cd' cc e0 (cc + e0.length)) (hcd : ∀ k, k < cc → cd' k = cd k) (hle : e0.length + E.length ≤ (tk i).length) (hl : (tk i).length ≤ 40)
    (HL : ∀ em, hs_S false E true [] em [] [] → hs_LF (LT' (i * 14)) (LT' (i * 14 + 5)) (LT' (i * 14 + 6)) (LT' (i * 14 + 7)) (e0 ++ em) (tk i)) (HN : (∀ em, ¬ hs_S false E true [] em [] []) → ∀ k f s t cd, ¬ hs_LF k f s t cd (tk i)) : wX_keepChunk_143 post (wX_keepChunk_21 post (nI a) x2 x3 n) (nI a) x2 x3 0 (nI i) (nI (i * 14)) (nI c1) z0 x_objectLimit x_stepLimit x_depthLimit (nI pn) x_keptTokens (nI kl) (nI b) (nI (cc + e0.length)) q1 q2 q3 q4 x_classCount x_callCount x_operandCount x_stepsTaken x_error x_raisedCode x_printCount x_lastResult x_lastPlace pd LT' cd' q5 x_globals x_entries x_orders x_merging x_letterClass x_objectClass x_attributes x_calls x_held x_operands x_lastPrints := by
  unfold wX_keepChunk_143
  have e12 : nI (i * 14) + 12 = nI (i * 14 + 12) := nI_add _ 12
  rw [e12, nI_clamp (show i * 14 + 12 < 2 ^ 31 by omega), hk _ (by omega), hE, ez]
  refine And.intro (vp_in_nI (by omega) (by decide)) (hs_xReadE (z := false) (w := true) (T := []) (st := []) (ts := E) (Or.inl rfl) he1 (Or.inl ⟨rfl, rfl⟩) rfl rfl hP1 (fun y => absurd y (by decide)) hlE (by omega) ?_ ?_)
  · intro em ok r1 r2 r3 wt' cd2 hC2 hcd2 hle2
    have hS : hs_S false E true [] em [] [] := by
      rcases ok with ⟨_, fs, hS⟩ | ⟨h, _⟩
      · rcases (hs_gstS hS).2 with q | ⟨q, _⟩
        · rw [q] at hS; exact hS
        · cases q
      · exact absurd rfl h
    have ee : cc + e0.length + em.length = cc + (e0 ++ em).length := by rw [List.length_append]; omega
    rw [ee] at hC2 ⊢
    exact hs_x167g hai hib hb K Q hind hnum hT hE he hPA hh Hgood Hbad hl _ _ _ _ _ hk h9 (HL em hS) (hs_CAapp (hs_CAupd hC (fun k _ hk => hcd2 k hk)) hC2) (fun k hk => (hcd2 k (by omega)).trans (hcd k hk)) (by rw [List.length_append]; simp only [List.length_nil] at hle2; omega)
  · intro hno r1 r2 r3 r4 wt' cd2 hcd2
    refine hs_x167b hai hib hb K Q hind hnum hT hE he hPA hh Hgood Hbad (fun y => ?_) _ _ _ _ _ hk (fun k hk => (hcd2 k (by omega)).trans (hcd k hk))
    obtain ⟨k, f, s, t, cd3, hL⟩ := y.2.1
    refine HN (fun em hS => ?_) k f s t cd3 hL
    exact hno em [] (by rw [List.append_nil]; exact hS)
theorem hs_oneLine {pd LT : Nat → Int32} {cd : Nat → Int64} {h ind : Nat → Nat} {tk : Nat → List Nat} {a b i c e cc pn kl num n : Nat} {x2 x3 : Int32} {post : Int32 → SX → Prop}
    (hai : a ≤ i) (hib : i < b) (hb : b ≤ 405) (K : hs_IK LT h ind a i) (Q : hs_PR LT ind a i) (hind : LT (i * 14 + 1) = nI (ind i) ∧ ind i ≤ 8) (hnum : LT (i * 14 + 2) = nI num) (hT : LT (i * 14 + 11) = nI c) (hE : LT (i * 14 + 12) = nI e) (he : e ≤ 400) (hPA : hs_PA pd e c (tk i)) (hh : h i = hs_hd (tk i))
    (Hgood : hs_lok tk h ind a i → ∀ (q1 q2 q3 q4 : Int32) (q5 : Nat → Int64) (LT' : Nat → Int32) (cd' : Nat → Int64) (em : List (Nat × Nat)), (∀ k, (k < i * 14 ∨ i * 14 + 14 ≤ k ∨ k = i * 14 + 1 ∨ k = i * 14 + 2 ∨ k = i * 14 + 11 ∨ k = i * 14 + 12) → LT' k = LT k) → LT' (i * 14 + 3) = hs_oI (hs_pa ind a i) → LT' (i * 14 + 9) = nI cc → LT' (i * 14 + 10) = nI (cc + em.length) → hs_LF (LT' (i * 14)) (LT' (i * 14 + 5)) (LT' (i * 14 + 6)) (LT' (i * 14 + 7)) em (tk i) → hs_CA cd' cc em (cc + em.length) → (∀ k, k < cc → cd' k = cd k) → em.length ≤ (tk i).length → wX_keepChunk_21 post (nI a) x2 x3 n 0 (nI (i + 1)) x_objectLimit x_stepLimit x_depthLimit (nI pn) x_keptTokens (nI kl) (nI b) (nI (cc + em.length)) q1 q2 q3 q4 x_classCount x_callCount x_operandCount x_stepsTaken x_error x_raisedCode x_printCount x_lastResult x_lastPlace pd LT' cd' q5 x_globals x_entries x_orders x_merging x_letterClass x_objectClass x_attributes x_calls x_held x_operands x_lastPrints)
    (Hbad : ¬ hs_lok tk h ind a i → ∀ (q1 q2 q3 q4 : Int32) (q5 : Nat → Int64) (q6 : Int32) (LT' : Nat → Int32) (cd' : Nat → Int64), (∀ k, k < i * 14 → LT' k = LT k) → (∀ k, k < cc → cd' k = cd k) → wX_keepChunk_21 post (nI a) x2 x3 n (nI num) (nI (i + 1)) x_objectLimit x_stepLimit x_depthLimit (nI pn) x_keptTokens (nI kl) (nI b) q6 q1 q2 q3 q4 x_classCount x_callCount x_operandCount x_stepsTaken x_error x_raisedCode x_printCount x_lastResult x_lastPlace pd LT' cd' q5 x_globals x_entries x_orders x_merging x_letterClass x_objectClass x_attributes x_calls x_held x_operands x_lastPrints) (hc : c + (tk i).length = e) (hne : tk i ≠ []) (hz : ∀ x, x ∈ tk i → x ≠ 0) (hcc : cc + (tk i).length ≤ 443) (hprev : c = 0 ∨ ∃ t, 40 ≤ t ∧ t ≤ 48 ∧ pd (c - 1) = nI t) (q1 q2 q3 q4 : Int32) (q5 : Nat → Int64) : wX_keepChunk_21 post (nI a) x2 x3 (n + 1) 0 (nI i) x_objectLimit x_stepLimit x_depthLimit (nI pn) x_keptTokens (nI kl) (nI b) (nI cc) q1 q2 q3 q4 x_classCount x_callCount x_operandCount x_stepsTaken x_error x_raisedCode x_printCount x_lastResult x_lastPlace pd LT cd q5 x_globals x_entries x_orders x_merging x_letterClass x_objectClass x_attributes x_calls x_held x_operands x_lastPrints := by
  have em : nI i * 14 = nI (i * 14) := pk_mul i 14
  have e0 : nI (i * 14) + 0 = nI (i * 14) := Int32.add_zero _
  have e9 : nI (i * 14) + 9 = nI (i * 14 + 9) := nI_add _ 9
  have e11 : nI (i * 14) + 11 = nI (i * 14 + 11) := nI_add _ 11
  have e13 : nI (i * 14) + 13 = nI (i * 14 + 13) := nI_add _ 13
  refine br_f (nI_ge hib (by omega)) (br_t rfl (nm_r em ?_))
  refine hs_xForm (R := i * 14) hPA hne hz he (by omega) hT hE hprev ?_ ?_
  rotate_left
  · intro hno LT1 hk1
    rw [e0, e9, e13, nI_clamp (show i * 14 < 2 ^ 31 by omega), nI_clamp (show i * 14 + 9 < 2 ^ 31 by omega), nI_clamp (show i * 14 + 13 < 2 ^ 31 by omega)]
    refine And.intro (vp_in_nI (by omega) (by decide)) (nm_e (And.intro (vp_in_nI (by omega) (by decide)) (nm_e (And.intro (vp_in_nI (by omega) (by decide)) (nm_e (br_t rfl ?_))))))
    unfold wX_keepChunk_120
    refine br_t rfl (hs_x167b hai hib hb K Q hind hnum hT hE he hPA hh Hgood Hbad (fun y => hno ⟨y.1, y.2.1⟩) _ _ _ _ _ (fun k hk => ?_) (fun _ _ => rfl))
    rw [pk_un (by omega)]
    exact hk1 k (by omega)
  intro l40 LT1 hk1 hX
  rw [e0, e9, e11, e13, nI_clamp (show i * 14 < 2 ^ 31 by omega), nI_clamp (show i * 14 + 9 < 2 ^ 31 by omega), nI_clamp (show i * 14 + 11 < 2 ^ 31 by omega), nI_clamp (show i * 14 + 13 < 2 ^ 31 by omega)]
  refine And.intro (vp_in_nI (by omega) (by decide)) (nm_e (And.intro (vp_in_nI (by omega) (by decide)) (nm_e (And.intro (vp_in_nI (by omega) (by decide)) (nm_e (br_f (by decide) ?_))))))
  have U : ∀ k, k ≠ i * 14 + 9 → upd LT1 (i * 14 + 9) (nI cc) k = LT1 k := fun k hk => pk_un hk
  have hk2 : hs_rk (upd LT1 (i * 14 + 9) (nI cc)) LT i := fun k hk => by rw [U _ (by omega)]; exact hk1 k (by omega)
  have h9 : upd LT1 (i * 14 + 9) (nI cc) (i * 14 + 9) = nI cc := pk_us
  have u0 : upd LT1 (i * 14 + 9) (nI cc) (i * 14) = LT1 (i * 14) := U _ (by omega)
  have u5 : upd LT1 (i * 14 + 9) (nI cc) (i * 14 + 5) = LT1 (i * 14 + 5) := U _ (by omega)
  have u6 : upd LT1 (i * 14 + 9) (nI cc) (i * 14 + 6) = LT1 (i * 14 + 6) := U _ (by omega)
  have u7 : upd LT1 (i * 14 + 9) (nI cc) (i * 14 + 7) = LT1 (i * 14 + 7) := U _ (by omega)
  -- no expression
  have noEx : LT1 (i * 14 + 13) = -1 → hs_LF (LT1 (i * 14)) (LT1 (i * 14 + 5)) (LT1 (i * 14 + 6)) (LT1 (i * 14 + 7)) [] (tk i) → wX_keepChunk_120 post (wX_keepChunk_21 post (nI a) x2 x3 n) (nI a) x2 x3 0 (nI i) (nI (i * 14)) 1 (LT1 (i * 14 + 13)) (LT1 (i * 14)) x_objectLimit x_stepLimit x_depthLimit (nI pn) x_keptTokens (nI kl) (nI b) (nI cc) (nI c) (nI e) q3 q4 x_classCount x_callCount x_operandCount x_stepsTaken x_error x_raisedCode x_printCount x_lastResult x_lastPlace pd (upd LT1 (i * 14 + 9) (nI cc)) cd q5 x_globals x_entries x_orders x_merging x_letterClass x_objectClass x_attributes x_calls x_held x_operands x_lastPrints := by
    intro hx hL
    unfold wX_keepChunk_120
    rw [hx]
    exact br_f (by decide) (br_t (by decide) (hs_x167g hai hib hb K Q hind hnum hT hE he hPA hh Hgood Hbad l40 _ _ _ _ _ (em := []) hk2 h9 (by rw [u0, u5, u6, u7]; exact hL) rfl (fun _ _ => rfl) (by simp)))
  have exp : ∀ (c1 e1 : Nat) (E : List Nat) (e0 : List (Nat × Nat)) (cd' : Nat → Int64) (q1 q2 q3 q4 : Int32) (q5 : Nat → Int64), LT1 (i * 14 + 13) = nI c1 → c1 < 1000 → hs_kd (LT1 (i * 14)) (h i) → (hs_isOp (h i) → e1 + 1 = e) → (¬ hs_isOp (h i) → e1 = e) → hs_PA pd e1 c1 E → hs_CA cd' cc e0 (cc + e0.length) → (∀ k, k < cc → cd' k = cd k) → e0.length + E.length ≤ (tk i).length →
      (∀ em, hs_S false E true [] em [] [] → hs_LF (LT1 (i * 14)) (LT1 (i * 14 + 5)) (LT1 (i * 14 + 6)) (LT1 (i * 14 + 7)) (e0 ++ em) (tk i)) → ((∀ em, ¬ hs_S false E true [] em [] []) → ∀ k f s t cd, ¬ hs_LF k f s t cd (tk i)) →
      wX_keepChunk_120 post (wX_keepChunk_21 post (nI a) x2 x3 n) (nI a) x2 x3 0 (nI i) (nI (i * 14)) 1 (LT1 (i * 14 + 13)) (LT1 (i * 14)) x_objectLimit x_stepLimit x_depthLimit (nI pn) x_keptTokens (nI kl) (nI b) (nI (cc + e0.length)) q1 q2 q3 q4 x_classCount x_callCount x_operandCount x_stepsTaken x_error x_raisedCode x_printCount x_lastResult x_lastPlace pd (upd LT1 (i * 14 + 9) (nI cc)) cd' q5 x_globals x_entries x_orders x_merging x_letterClass x_objectClass x_attributes x_calls x_held x_operands x_lastPrints := by
    intro c1 e1 E e0 cd' q1 q2 q3 q4 q5 hx hc1 hkd ho1 ho0 hP1 hC hcd hle HL HN
    unfold wX_keepChunk_120
    rw [hx]
    refine br_f (by decide) (br_f (nI_pos (by omega)) (hs_xIsOp hkd (fun op => br_f (by decide) ?_) (fun op => br_t rfl ?_)))
    · have := ho1 op
      exact hs_x143 hai hib hb K Q hind hnum hT hE he hPA hh Hgood Hbad hcc hP1 (by omega) (by omega) (show nI e - 1 = nI e1 by rw [← this, nI_pred]) _ _ _ _ _ hk2 h9 hC hcd hle l40 (fun em hS => by rw [u0, u5, u6, u7]; exact HL em hS) HN
    · have := ho0 op
      exact hs_x143 hai hib hb K Q hind hnum hT hE he hPA hh Hgood Hbad hcc hP1 (by omega) (by omega) (show nI e - 0 = nI e1 by rw [this, Int32.sub_zero]) _ _ _ _ _ hk2 h9 hC hcd hle l40 (fun em hS => by rw [u0, u5, u6, u7]; exact HL em hS) HN
  have notOp : ∀ w : Nat, h i = w → ¬ hs_isOp w → ¬ hs_isOp (h i) := fun w e1 e2 => by rw [e1]; exact e2
  have bad0 : ¬ hs_lok tk h ind a i → ∀ (q1 q2 q3 q4 : Int32) (q5 : Nat → Int64) (q6 : Int32) (cd' : Nat → Int64), (∀ k, k < cc → cd' k = cd k) → wX_keepChunk_167 post (wX_keepChunk_21 post (nI a) x2 x3 n) (nI a) x2 x3 0 (nI i) (nI (i * 14)) 0 x_objectLimit x_stepLimit x_depthLimit (nI pn) x_keptTokens (nI kl) (nI b) q6 q1 q2 q3 q4 x_classCount x_callCount x_operandCount x_stepsTaken x_error x_raisedCode x_printCount x_lastResult x_lastPlace pd (upd LT1 (i * 14 + 9) (nI cc)) cd' q5 x_globals x_entries x_orders x_merging x_letterClass x_objectClass x_attributes x_calls x_held x_operands x_lastPrints := fun hno q1 q2 q3 q4 q5 q6 cd' hcd => hs_x167b hai hib hb K Q hind hnum hT hE he hPA hh Hgood Hbad hno q1 q2 q3 q4 q5 hk2 hcd
  generalize hts : tk i = ts at *
  cases ts with
  | nil => exact absurd rfl hne
  | cons w r =>
    have hhw : h i = w := hh
    have lenr : (w :: r).length = r.length + 1 := rfl
    have hP1 : hs_PA pd e (c + 1) r := hPA.2.2
    by_cases hw : 1 ≤ w ∧ w ≤ 11
    · have hwl : w = 1 ∨ w = 2 ∨ w = 3 ∨ w = 4 ∨ w = 5 ∨ w = 6 ∨ w = 7 ∨ w = 8 ∨ w = 9 ∨ w = 10 ∨ w = 11 := by omega
      rcases hwl with rfl | rfl | rfl | rfl | rfl | rfl | rfl | rfl | rfl | rfl | rfl
      · obtain ⟨k1, k2, k3⟩ : LT1 (i * 14) = 1 ∧ LT1 (i * 14 + 13) = -1 ∧ hs_CH (LT1 (i * 14 + 5)) (LT1 (i * 14 + 6)) (LT1 (i * 14 + 7)) r := hX
        exact br_f (by rw [k1]; decide) (noEx k2 ⟨k1, rfl, k3⟩)
      · obtain ⟨k1, k2, k3⟩ : LT1 (i * 14) = 2 ∧ LT1 (i * 14 + 13) = -1 ∧ hs_DH (LT1 (i * 14 + 5)) (LT1 (i * 14 + 6)) (LT1 (i * 14 + 7)) r := hX
        exact br_f (by rw [k1]; decide) (noEx k2 ⟨k1, rfl, k3⟩)
      · obtain ⟨k1, k2⟩ : LT1 (i * 14) = nI 3 ∧ LT1 (i * 14 + 13) = nI (c + 1) := hX
        have nop : ¬ hs_isOp (h i) := notOp 3 hhw (by rintro (q | q | q) <;> omega)
        refine br_f (by rw [k1]; decide) (exp (c + 1) e r [] cd _ _ _ _ _ k2 (by omega) (by rw [hhw, k1]; exact Or.inl ⟨by decide, by decide, rfl⟩) (fun y => absurd y nop) (fun _ => rfl) hP1 rfl (fun _ _ => rfl) (by rw [lenr]; simp) (fun em hS => ⟨k1, hS⟩) (fun hno k f s t cd hL => ?_))
        obtain ⟨_, hS⟩ : k = nI 3 ∧ hs_S false r true [] cd [] [] := hL
        exact hno _ hS
      · obtain ⟨k1, k2, r', er⟩ : LT1 (i * 14) = nI 4 ∧ LT1 (i * 14 + 13) = nI (c + 1) ∧ ∃ r', r = r' ++ [25] := hX
        have yop : hs_isOp (h i) := by rw [hhw]; exact Or.inr (Or.inr (by decide))
        rw [er] at hP1
        obtain ⟨hPa, hPb⟩ := hs_PAapp hP1
        have hPb : c + 1 + r'.length + 1 = e := hPb.2.2
        have lr : r.length = r'.length + 1 := by rw [er]; simp
        refine br_f (by rw [k1]; decide) (exp (c + 1) (c + 1 + r'.length) r' [] cd _ _ _ _ _ k2 (by omega) (by rw [hhw, k1]; exact Or.inl ⟨by decide, by decide, rfl⟩) (fun _ => hPb) (fun y => absurd yop y) hPa rfl (fun _ _ => rfl) (by rw [lenr, lr]; simp only [List.length_nil]; omega) (fun em hS => ⟨k1, r', er, hS⟩) (fun hno k f s t cd hL => ?_))
        obtain ⟨_, r2, er2, hS⟩ : k = nI 4 ∧ ∃ r', r = r' ++ [25] ∧ hs_S false r' true [] cd [] [] := hL
        have : r' = r2 := by
          rw [er] at er2
          exact List.append_cancel_right er2
        rw [← this] at hS
        exact hno _ hS
      · obtain ⟨k1, k2, k3⟩ : LT1 (i * 14) = nI 5 ∧ LT1 (i * 14 + 13) = -1 ∧ r = [25] := hX
        exact br_f (by rw [k1]; decide) (noEx k2 ⟨k1, k3, rfl⟩)
      · obtain ⟨k1, k2, r', er⟩ : LT1 (i * 14) = nI 6 ∧ LT1 (i * 14 + 13) = nI (c + 1) ∧ ∃ r', r = r' ++ [25] := hX
        have yop : hs_isOp (h i) := by rw [hhw]; exact Or.inr (Or.inr (by decide))
        rw [er] at hP1
        obtain ⟨hPa, hPb⟩ := hs_PAapp hP1
        have hPb : c + 1 + r'.length + 1 = e := hPb.2.2
        have lr : r.length = r'.length + 1 := by rw [er]; simp
        refine br_f (by rw [k1]; decide) (exp (c + 1) (c + 1 + r'.length) r' [] cd _ _ _ _ _ k2 (by omega) (by rw [hhw, k1]; exact Or.inl ⟨by decide, by decide, rfl⟩) (fun _ => hPb) (fun y => absurd yop y) hPa rfl (fun _ _ => rfl) (by rw [lenr, lr]; simp only [List.length_nil]; omega) (fun em hS => ⟨k1, r', er, hS⟩) (fun hno k f s t cd hL => ?_))
        obtain ⟨_, r2, er2, hS⟩ : k = nI 6 ∧ ∃ r', r = r' ++ [25] ∧ hs_S false r' true [] cd [] [] := hL
        have : r' = r2 := by
          rw [er] at er2
          exact List.append_cancel_right er2
        rw [← this] at hS
        exact hno _ hS
      · obtain ⟨k1, k2, k3⟩ : LT1 (i * 14) = nI 7 ∧ LT1 (i * 14 + 13) = -1 ∧ r = [25] := hX
        exact br_f (by rw [k1]; decide) (noEx k2 ⟨k1, k3, rfl⟩)
      · obtain ⟨k1, k2, k3⟩ : LT1 (i * 14) = 8 ∧ LT1 (i * 14 + 13) = -1 ∧ ∃ n, r = [n, 25] ∧ hs_isN n = true ∧ LT1 (i * 14 + 5) = nI (n - 100) := hX
        exact br_f (by rw [k1]; decide) (noEx k2 ⟨k1, rfl, k3⟩)
      · obtain ⟨k1, k2⟩ : LT1 (i * 14) = nI 9 ∧ LT1 (i * 14 + 13) = nI (c + 1) := hX
        have nop : ¬ hs_isOp (h i) := notOp 9 hhw (by rintro (q | q | q) <;> omega)
        refine br_f (by rw [k1]; decide) (exp (c + 1) e r [] cd _ _ _ _ _ k2 (by omega) (by rw [hhw, k1]; exact Or.inl ⟨by decide, by decide, rfl⟩) (fun y => absurd y nop) (fun _ => rfl) hP1 rfl (fun _ _ => rfl) (by rw [lenr]; simp) (fun em hS => ⟨k1, hS⟩) (fun hno k f s t cd hL => ?_))
        obtain ⟨_, hS⟩ : k = nI 9 ∧ hs_S false r true [] cd [] [] := hL
        exact hno _ hS
      · obtain ⟨k1, k2, k3⟩ : LT1 (i * 14) = 10 ∧ LT1 (i * 14 + 13) = -1 ∧ r = [] := hX
        exact br_f (by rw [k1]; decide) (noEx k2 ⟨k1, k3, rfl⟩)
      · obtain ⟨k1, k2⟩ : LT1 (i * 14) = nI 11 ∧ LT1 (i * 14 + 13) = nI (c + 1) := hX
        have nop : ¬ hs_isOp (h i) := notOp 11 hhw (by rintro (q | q | q) <;> omega)
        refine br_f (by rw [k1]; decide) (exp (c + 1) e r [] cd _ _ _ _ _ k2 (by omega) (by rw [hhw, k1]; exact Or.inl ⟨by decide, by decide, rfl⟩) (fun y => absurd y nop) (fun _ => rfl) hP1 rfl (fun _ _ => rfl) (by rw [lenr]; simp) (fun em hS => ⟨k1, hS⟩) (fun hno k f s t cd hL => ?_))
        obtain ⟨_, hS⟩ : k = nI 11 ∧ hs_S false r true [] cd [] [] := hL
        exact hno _ hS
    · have nop : ¬ hs_isOp (h i) := by rw [hhw]; rintro (q | q | q) <;> omega
      rw [hs_XFo hw] at hX
      rcases hX with ⟨k1, k2, k3⟩ | ⟨k1, k2, m, E, eE, hm, k3⟩ | ⟨k1, k2, q, m, E, eE, hq, hm, k3, k4⟩ | ⟨k1, A, m, E, eE, hA, hAn, hm, hno1, k3, k2⟩
      · have c1 : ¬ (hs_isN w = true ∧ hs_hd r = 26) := by
          rintro ⟨_, y⟩
          cases r with
          | nil => cases y
          | cons b2 r2 =>
            have y : b2 = 26 := y
            exact k3 (by rw [y]; simp)
        have c2 : ¬ (hs_isC w = true ∧ hs_hd r = 24 ∧ hs_isN (hs_hd r.tail) = true ∧ hs_hd r.tail.tail = 26) := by
          intro y
          obtain ⟨_, n', r1, er, _⟩ := hs_plainI.mpr y
          exact k3 (by rw [er]; simp)
        refine br_f (by rw [k1]; decide) (exp c e (w :: r) [] cd _ _ _ _ _ k2 (by omega) (by rw [hhw, k1]; exact Or.inr ⟨hw, Or.inl rfl⟩) (fun y => absurd y nop) (fun _ => rfl) hPA rfl (fun _ _ => rfl) (by simp) (fun em hS => ?_) (fun hno k f s t cd hL => ?_))
        · rw [hs_LFo hw, if_neg c1, if_neg c2]
          exact Or.inl ⟨k1, (hs_Sz k3).mpr hS⟩
        · rw [hs_LFo hw, if_neg c1, if_neg c2] at hL
          rcases hL with ⟨_, hS⟩ | ⟨_, n', hn', _, hS⟩
          · exact hno _ ((hs_Sz k3).mp hS)
          · have hS2 := (hs_Sz k3).mp hS
            rcases (hs_gstS hS2).2 with y | ⟨y, _⟩
            · cases y
            · cases y
      · have e1 := List.cons.inj eE
        have er := e1.2
        subst er
        have hwm : w = m := e1.1
        have hm' : hs_isN w = true := by rw [hwm]; exact hm
        refine br_f (by rw [k1]; decide) (exp (c + 2) e E [] cd _ _ _ _ _ k2 (by omega) (by rw [hhw, k1]; exact Or.inr ⟨hw, Or.inr (Or.inl rfl)⟩) (fun y => absurd y nop) (fun _ => rfl) hP1.2.2 rfl (fun _ _ => rfl) (by simp; omega) (fun em hS => ?_) (fun hno k f s t cd hL => ?_))
        · rw [hs_LFo hw, if_pos ⟨hm', rfl⟩]
          exact ⟨k1, by rw [k3, hwm], hS⟩
        · rw [hs_LFo hw, if_pos ⟨hm', rfl⟩] at hL
          exact hno _ hL.2.2
      · have e1 := List.cons.inj eE
        have er := e1.2
        subst er
        have hwq : w = q := e1.1
        have hq' : hs_isC w = true := by rw [hwq]; exact hq
        have c1 : ¬ (hs_isN w = true ∧ hs_hd (24 :: m :: 26 :: E) = 26) := fun y => by
          have : (24 : Nat) = 26 := y.2
          cases this
        refine br_f (by rw [k1]; decide) (exp (c + 4) e E [] cd _ _ _ _ _ k2 (by omega) (by rw [hhw, k1]; exact Or.inr ⟨hw, Or.inr (Or.inr (Or.inr rfl))⟩) (fun y => absurd y nop) (fun _ => rfl) hP1.2.2.2.2.2.2 rfl (fun _ _ => rfl) (by simp; omega) (fun em hS => ?_) (fun hno k f s t cd hL => ?_))
        · rw [hs_LFo hw, if_neg c1, if_pos ⟨hq', rfl, hm, rfl⟩]
          exact ⟨k1, k3, by rw [k4, hwq], hS⟩
        · rw [hs_LFo hw, if_neg c1, if_pos ⟨hq', rfl, hm, rfl⟩] at hL
          exact hno _ hL.2.2.2
      · -- an field is set: two readings
        have lA : (w :: r).length = A.length + 3 + E.length := by rw [eE]; simp; omega
        have c1 : ¬ (hs_isN w = true ∧ hs_hd r = 26) := by
          rintro ⟨_, y⟩
          cases A with
          | nil => exact hAn rfl
          | cons b1 A1 =>
            have e1 := (List.cons.inj eE).2
            rw [e1] at y
            cases A1 with
            | nil => have y : (24 : Nat) = 26 := y; cases y
            | cons b2 A2 =>
              have y : b2 = 26 := y
              exact hA (by rw [y]; simp)
        have c2 : ¬ (hs_isC w = true ∧ hs_hd r = 24 ∧ hs_isN (hs_hd r.tail) = true ∧ hs_hd r.tail.tail = 26) := by
          intro y
          obtain ⟨hc', n', r1, er, _⟩ := hs_plainI.mpr y
          refine hno1 ⟨?_, hc'⟩
          cases A with
          | nil => exact absurd rfl hAn
          | cons b1 A1 =>
            have e1 := (List.cons.inj eE).2
            rw [er] at e1
            cases A1 with
            | nil => rfl
            | cons b2 A2 =>
              exfalso
              have e2 := (List.cons.inj e1).2
              cases A2 with
              | nil =>
                have h1 := (List.cons.inj e2).1
                have h2 := (List.cons.inj (List.cons.inj e2).2).1
                have := hs_tkN hm
                omega
              | cons b3 A3 =>
                have e3 := (List.cons.inj e2).2
                cases A3 with
                | nil => have := (List.cons.inj e3).1; cases this
                | cons b4 A4 =>
                  have := (List.cons.inj e3).1
                  exact hA (by rw [← this]; simp)
        have hPX := hPA
        rw [eE] at hPX
        obtain ⟨hPa, hPb⟩ := hs_PAapp hPX
        have hPc : hs_PA pd e (c + A.length + 3) E := hPb.2.2.2.2.2.2
        have LFi : ∀ k f s t cd, hs_LF k f s t cd (w :: r) → ∃ fs, hs_S true (A ++ 24 :: m :: 26 :: E) true [] cd [] fs := by
          intro k f s t cd hL
          rw [hs_LFo hw, if_neg c1, if_neg c2, eE] at hL
          rcases hL with ⟨_, hS⟩ | ⟨_, n', _, _, hS⟩
          · exact ⟨_, hS⟩
          · exact ⟨_, hS⟩
        refine br_t k1 (And.intro (vp_in_nI (by omega) (by decide)) ?_)
        have eT : upd LT1 (i * 14 + 9) (nI cc) (i * 14 + 11) = nI c := by rw [hk2 _ (by omega)]; exact hT
        have e3 : nI (c + A.length + 3) - 3 = nI (c + A.length) := pk_sub (b := 3) (by omega)
        rw [eT, k2, e3, ← k2]
        refine hs_xReadE (z := true) (w := true) (T := 24 :: m :: 26 :: E) (st := []) (ts := A) (Or.inr ⟨m, E, rfl, hm⟩) (by omega) (Or.inr ⟨by decide, by simp⟩) rfl rfl hPa (fun _ => hA) (by omega) (by omega) ?_ ?_
        · intro e0 ok r1 r2 r3 wt' cd2 hC2 hcd2 hle2
          have hR : hs_Rr true (24 :: m :: 26 :: E) A true [] [] false [] e0 := by
            rcases ok with ⟨h, _⟩ | ⟨_, h⟩
            · cases h
            · exact h
          simp only [List.length_nil] at hle2
          refine exp (c + A.length + 3) e E e0 cd2 _ _ _ _ _ k2 (by omega) (by rw [hhw, k1]; exact Or.inr ⟨hw, Or.inr (Or.inr (Or.inl rfl))⟩) (fun y => absurd y nop) (fun _ => rfl) hPc hC2 hcd2 (by omega) (fun em hS => ?_) (fun hno k f s t cd hL => ?_)
          · rw [hs_LFo hw, if_neg c1, if_neg c2, eE]
            exact Or.inr ⟨k1, m, hm, k3, (hR _ _).mpr ⟨em, rfl, (hs_S5 hm).mpr ⟨rfl, hS⟩⟩⟩
          · obtain ⟨fs, hS⟩ := LFi k f s t cd hL
            obtain ⟨cd', _, hS2⟩ := (hR _ _).mp hS
            exact hno _ ((hs_S5 hm).mp hS2).2
        · intro hno r1 r2 r3 r4 wt' cd2 hcd2
          unfold wX_keepChunk_120
          refine br_t rfl (bad0 (fun y => ?_) _ _ _ _ _ _ _ hcd2)
          obtain ⟨k, f, s, t, cd3, hL⟩ := y.2.1
          rw [hts] at hL
          obtain ⟨fs, hS⟩ := LFi k f s t cd3 hL
          exact hno _ _ hS
end
