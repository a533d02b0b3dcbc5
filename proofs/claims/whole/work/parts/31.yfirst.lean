/-! the first wrong line on Y's side -/
section
variable {x_objectLimit x_stepLimit x_depthLimit x_pendingCount x_keptTokens x_keptLines x_lineCount x_codeCount x_cursor x_stop x_waitingCount x_openCount x_classCount x_callCount x_operandCount x_stepsTaken x_error x_raisedCode x_printCount x_lastPlace : Int32} {x_lastResult : Int64} {x_pending x_lineTable x_orders x_merging x_letterClass x_objectClass x_calls x_lastPrints : Nat → Int32} {x_code x_waiting x_globals x_entries x_attributes x_held x_operands : Nat → Int64}
variable {y_maxObjects y_maxSteps y_maxDepth y_kept y_end y_tokens y_pending y_lines y_classes y_prints y_place y_steps y_d y_valTop y_opTop y_opens y_pos y_tk y_tv y_stmt y_target y_err y_code y_outcome y_dry y_want y_starting y_ended y_bad y_hosted y_sawSuper : Int32} {y_result : Int64} {y_text y_numbers y_classOf y_alive y_orders y_lengths y_letters y_bases y_ops y_fLine y_fPos y_fStmt y_fTarget y_fMask y_fHome y_fOps y_fVals y_fNew y_out : Nat → Int32} {y_globals y_entries y_attrs y_vals y_locals y_fRecv : Nat → Int64}
/-- how many line ends stand from cs on before p -/
def hs_nE (tx : Nat → Int32) (cs : Nat) : Nat → Nat
  | 0 => 0
  | p + 1 => hs_nE tx cs p + (if cs ≤ p ∧ (hs_g tx p = 0 ∨ (40 ≤ hs_g tx p ∧ hs_g tx p ≤ 48)) then 1 else 0)
theorem hs_nE0 {tx : Nat → Int32} {cs : Nat} : ∀ p, p ≤ cs → hs_nE tx cs p = 0
  | 0, _ => rfl
  | p + 1, h => by
    show hs_nE tx cs p + _ = 0
    rw [hs_nE0 p (by omega), if_neg (by omega)]
theorem hs_nEs {tx : Nat → Int32} {cs q : Nat} : ∀ k, (∀ j, q ≤ j → j < q + k → ¬ hs_en (hs_g tx j)) → hs_nE tx cs (q + k) = hs_nE tx cs q
  | 0, _ => rfl
  | k + 1, h => by
    show hs_nE tx cs (q + k) + _ = _
    rw [hs_nEs k (fun j j1 j2 => h j j1 (by omega)), if_neg (fun y => h (q + k) (by omega) (by omega) y.2), Nat.add_zero]
theorem hs_nEnl {tx : Nat → Int32} {cs ce q q2 : Nat} (h1 : cs ≤ q) (h : hs_nl tx ce q q2) : hs_nE tx cs q2 = hs_nE tx cs q ∧ hs_nE tx cs (q2 + 1) = hs_nE tx cs q + 1 := by
  obtain ⟨a, b, c, d⟩ := h
  obtain ⟨k, rfl⟩ : ∃ k, q2 = q + k := ⟨q2 - q, by omega⟩
  have e := hs_nEs (cs := cs) (q := q) k d
  refine ⟨e, ?_⟩
  show hs_nE tx cs (q + k) + _ = _
  rw [e, if_pos ⟨by omega, c⟩]
theorem hs_nEle {tx : Nat → Int32} {cs : Nat} : ∀ p, hs_nE tx cs p ≤ p
  | 0 => Nat.le_refl _
  | p + 1 => by
    have := hs_nEle (tx := tx) (cs := cs) p
    show hs_nE tx cs p + _ ≤ p + 1
    split <;> omega
/-- the end of a chunk is right -/
def hs_eok (h ind : Nat → Nat) (a b : Nat) : Prop := (a < b → ¬ hs_isOp (h (b - 1))) ∧ ∀ m, a ≤ m → m < b → h m = 7 → hs_bk ind b m ≠ b
theorem hs_yFW {tx fo nu0 : Nat → Int32} {cs ce a b kl : Nat} {P ind h : Nat → Nat} {tk : Nat → List Nat} (hfo : fo 0 = nI 0) (hkl : kl < 100000) (C : hs_Ch tx cs ce a b P ind) (K : hs_TK tx a b P h tk) (hln : ∀ i, a ≤ i → i < b → (tk i).length < 1500) {post : Int32 → SY → Prop}
    (Hw : ∀ i, a ≤ i → i < b → ¬ hs_lok tk h ind a i → (∀ j, a ≤ j → j < i → hs_lok tk h ind a j) → ∀ nu, (∀ q, q < cs → nu q = nu0 q) → ∀ (q1 q2 q3 q4 sm q6 q7 q8 ss : Int32) (q9 : Nat → Int64) (q10 : Nat → Int32), post (nI (hs_nE tx cs (P i) + 1)) (y_maxObjects, y_maxSteps, y_maxDepth, y_kept, y_end, y_tokens, y_pending, nI kl, y_classes, y_prints, y_place, y_steps, 0, 0, 0, q1, q2, q3, q4, sm, q6, y_err, y_code, y_outcome, y_result, 0, q7, y_starting, y_ended, q8, y_hosted, ss, tx, nu, y_globals, y_entries, y_attrs, y_classOf, y_alive, y_orders, y_lengths, y_letters, y_bases, q9, q10, y_locals, y_fRecv, y_fLine, y_fPos, y_fStmt, y_fTarget, y_fMask, y_fHome, fo, y_fVals, y_fNew, y_out))
    (He : (∀ i, a ≤ i → i < b → hs_lok tk h ind a i) → ¬ hs_eok h ind a b → ∀ nu, (∀ q, q < cs → nu q = nu0 q) → ∀ (q1 q2 q3 q4 sm q6 q7 q8 ss : Int32) (q9 : Nat → Int64) (q10 : Nat → Int32), post (nI (hs_nE tx cs ce + 1 + 1)) (y_maxObjects, y_maxSteps, y_maxDepth, y_kept, y_end, y_tokens, y_pending, nI kl, y_classes, y_prints, y_place, y_steps, 0, 0, 0, q1, q2, q3, q4, sm, q6, y_err, y_code, y_outcome, y_result, 0, q7, y_starting, y_ended, q8, y_hosted, ss, tx, nu, y_globals, y_entries, y_attrs, y_classOf, y_alive, y_orders, y_lengths, y_letters, y_bases, q9, q10, y_locals, y_fRecv, y_fLine, y_fPos, y_fStmt, y_fTarget, y_fMask, y_fHome, fo, y_fVals, y_fNew, y_out))
    (Ho : (∀ i, a ≤ i → i < b → hs_lok tk h ind a i) → hs_eok h ind a b → ∀ nu, (∀ q, q < cs → nu q = nu0 q) → (∀ i, a ≤ i → i < b → nu (P i) = nI (kl + (hs_nE tx cs (P i) + 1))) → ∀ (q1 q2 q3 q4 sm q6 q7 q8 ss : Int32) (q9 : Nat → Int64) (q10 : Nat → Int32), post 0 (y_maxObjects, y_maxSteps, y_maxDepth, y_kept, y_end, y_tokens, y_pending, nI kl, y_classes, y_prints, y_place, y_steps, 0, 0, 0, q1, q2, q3, q4, sm, q6, y_err, y_code, y_outcome, y_result, 0, q7, y_starting, y_ended, q8, y_hosted, ss, tx, nu, y_globals, y_entries, y_attrs, y_classOf, y_alive, y_orders, y_lengths, y_letters, y_bases, q9, q10, y_locals, y_fRecv, y_fLine, y_fPos, y_fStmt, y_fTarget, y_fMask, y_fHome, fo, y_fVals, y_fNew, y_out)) :
    ∀ (n q m : Nat) (op : Bool) (nu : Nat → Int32), ce + 2 ≤ n + q → cs ≤ q → q ≤ ce → hs_ls tx cs q → a ≤ m → m ≤ b → (∀ j, a ≤ j → j < b → (j < m ↔ P j < q)) → (op = true ↔ ∃ k, a ≤ k ∧ k < m ∧ h k = 7 ∧ hs_bk ind b k = b) → (∀ j, a ≤ j → j < m → hs_lok tk h ind a j) → (∀ q', q' < cs → nu q' = nu0 q') → (∀ j, a ≤ j → j < m → nu (P j) = nI (kl + (hs_nE tx cs (P j) + 1))) → ∀ (q1 q2 q3 q4 sm q6 q7 q8 ss : Int32) (q9 : Nat → Int64) (q10 : Nat → Int32) (x2 : Int32), x2 = hs_pI P (if m = a then none else some (m - 1)) →
    wY_firstWrong_12 post n (nI (hs_nE tx cs q)) x2 (hs_b op) (nI q) y_maxObjects y_maxSteps y_maxDepth y_kept y_end y_tokens y_pending (nI kl) y_classes y_prints y_place y_steps 0 0 0 q1 q2 q3 q4 sm q6 y_err y_code y_outcome y_result 0 q7 y_starting y_ended q8 y_hosted ss tx nu y_globals y_entries y_attrs y_classOf y_alive y_orders y_lengths y_letters y_bases q9 q10 y_locals y_fRecv y_fLine y_fPos y_fStmt y_fTarget y_fMask y_fHome fo y_fVals y_fNew y_out := by
  have C' := C
  obtain ⟨⟨hc, h0, hok⟩, hnz, hcs, hP, hm, hall⟩ := C
  intro n
  induction n with
  | zero => intro q m op nu h1 h2 h3; omega
  | succ n ih =>
    intro q m op nu h1 h2 h3 hl hm1 hm2 hjm hop hlok hnu1 hnu2 q1 q2 q3 q4 sm q6 q7 q8 ss q9 q10 x2 ex2
    subst ex2
    have nq := hs_nEle (tx := tx) (cs := cs) q
    have step : ∀ (m' : Nat) (op' : Bool) (nu' : Nat → Int32), m ≤ m' → m' ≤ b → (∀ q', q < q' → (∀ j, a ≤ j → j < b → P j ≤ q ∨ q' ≤ P j) → ∀ j, a ≤ j → j < b → (j < m' ↔ P j < q')) → (op' = true ↔ ∃ k, a ≤ k ∧ k < m' ∧ h k = 7 ∧ hs_bk ind b k = b) → (∀ j, a ≤ j → j < m' → hs_lok tk h ind a j) → (∀ q', q' < cs → nu' q' = nu0 q') → (∀ j, a ≤ j → j < m' → nu' (P j) = nI (kl + (hs_nE tx cs (P j) + 1))) → ∀ (q1 q2 q3 q4 sm q6 q7 q8 ss : Int32) (q9 : Nat → Int64) (q10 : Nat → Int32) (x2 : Int32), x2 = hs_pI P (if m' = a then none else some (m' - 1)) →
        wY_firstWrong_85 post (wY_firstWrong_12 post n) (nI (hs_nE tx cs q + 1)) x2 (hs_b op') (nI q) y_maxObjects y_maxSteps y_maxDepth y_kept y_end y_tokens y_pending (nI kl) y_classes y_prints y_place y_steps 0 0 0 q1 q2 q3 q4 sm q6 y_err y_code y_outcome y_result 0 q7 y_starting y_ended q8 y_hosted ss tx nu' y_globals y_entries y_attrs y_classOf y_alive y_orders y_lengths y_letters y_bases q9 q10 y_locals y_fRecv y_fLine y_fPos y_fStmt y_fTarget y_fMask y_fHome fo y_fVals y_fNew y_out := by
      intro m' op' nu' mm1 mm2 hj' hop' hlok' hn1 hn2 q1 q2 q3 q4 sm q6 q7 q8 ss q9 q10 x2 ex2
      subst ex2
      obtain ⟨e2, hq2⟩ := hs_nlEx ⟨hc, h0, hok⟩ (p := q) h3
      have hnn := hs_nEnl h2 hq2
      unfold wY_firstWrong_85
      refine hs_yNL ⟨hc, h0, hok⟩ h2 hq2 ?_
      rcases hs_adv C' h2 hq2 with ⟨g0, g1, g2⟩ | ⟨g0, g1, g1', g2, g3⟩
      · have en : hs_nx tx e2 = -1 := if_pos g0
        rw [en]
        subst g1
        have emb : m' = b := by
          rcases Nat.lt_or_ge m' b with z | z
          · have w1 := g2 m' (by omega) z
            have w2 := (hj' (q + 1) (by omega) (fun j ja jb => Or.inl (g2 j ja jb)) m' (by omega) z).mpr (by omega)
            omega
          · omega
        subst emb
        obtain ⟨n, rfl⟩ : ∃ k, n = k + 1 := ⟨n - 1, by omega⟩
        refine br_t (by decide) ?_
        have enn : nI (hs_nE tx cs q + 1) = nI (hs_nE tx cs e2 + 1) := by rw [hnn.1]
        cases op' with
        | true =>
          obtain ⟨k, ka, kb, kc, kd⟩ := hop'.mp rfl
          refine br_f (by decide) ?_
          rw [nI_1, ← hnn.1]
          exact He hlok' (fun y => y.2 k ka kb kc kd) nu' hn1 _ _ _ _ _ _ _ _ _ _ _
        | false =>
          refine br_t rfl ?_
          have htry : ∀ k, a ≤ k → k < m' → h k = 7 → hs_bk ind m' k ≠ m' := fun k ka kb kc kd => by
            have := hop'.mpr ⟨k, ka, kb, kc, kd⟩
            cases this
          by_cases ea : m' = a
          · rw [if_pos ea]
            refine br_t (show hs_pI P none < 0 by show (-1 : Int32) < 0; decide) ?_
            exact Ho hlok' ⟨fun y => by omega, htry⟩ nu' hn1 hn2 _ _ _ _ _ _ _ _ _ _ _
          · rw [if_neg ea]
            have hv : a ≤ m' - 1 ∧ m' - 1 < m' := by omega
            obtain ⟨v1, v2, v3, v4, v5⟩ := hP (m' - 1) hv.1 hv.2
            obtain ⟨w1, w2, w3⟩ := hs_TKH K (m' - 1) hv.1 hv.2
            rw [show hs_pI P (some (m' - 1)) = nI (P (m' - 1)) from rfl]
            refine br_f (nI_pos (by omega)) (hs_yIsOp (by omega) w1 w3 (fun op => br_f (by decide) ?_) (fun op => br_t rfl ?_))
            · rw [nI_1, ← hnn.1]
              exact He hlok' (fun y => y.1 (by omega) op) nu' hn1 _ _ _ _ _ _ _ _ _ _ _
            · exact Ho hlok' ⟨fun _ => op, htry⟩ nu' hn1 hn2 _ _ _ _ _ _ _ _ _ _ _
      · have en : hs_nx tx e2 = nI (e2 + 1) := if_neg g0
        rw [en, ← hnn.2]
        exact ih (e2 + 1) m' op' nu' (by omega) (by omega) (by omega) g2 (by omega) mm2 (hj' (e2 + 1) (by omega) g3) hop' hlok' hn1 hn2 _ _ _ _ _ _ _ _ _ _ _ _ rfl
    refine br_f (nI_pos (by omega)) (nm_r (nI_1 _) (And.intro (vp_in_nI (by omega) (by decide)) ?_))
    rw [nI_clamp (show q < 2 ^ 31 by omega), nI_add]
    refine nm_e ?_
    have hnew : ∀ q', q' < cs → upd nu q (nI (kl + (hs_nE tx cs q + 1))) q' = nu0 q' := fun q' hq' => by rw [pk_un (by omega)]; exact hnu1 q' hq'
    by_cases he : hs_en (hs_g tx q)
    · -- a blank line
      refine hs_yLine0 ⟨hok q h2 h3, he, by omega⟩ (br_f (by decide) (And.intro (vp_in_nI (by omega) (by decide)) ?_))
      refine hs_yends (hok q h2 h3) (fun _ => br_f (by decide) ?_) (fun y => absurd he y)
      refine step m op _ (Nat.le_refl _) hm2 (fun q' q1 q3 j ja jb => ?_) hop hlok hnew (fun j ja jb => ?_) _ _ _ _ _ _ _ _ _ _ _ _ rfl
      · rw [hjm j ja jb]
        constructor
        · intro y; omega
        · intro y
          rcases q3 j ja jb with z | z
          · rcases Nat.lt_or_ge (P j) q with w | w
            · exact w
            · have ej : P j = q := by omega
              have := (hP j ja jb).2.2.1
              rw [ej] at this; exact absurd he this
          · omega
      · have hj := (hjm j ja (by omega)).mp jb
        rw [pk_un (by omega)]
        exact hnu2 j ja jb
    · have hqc : q < ce := by
        rcases Nat.lt_or_ge q ce with z | z
        · exact z
        · have z2 : q = ce := by omega
          subst z2
          exact absurd (Or.inl h0) he
      obtain ⟨j, ja, jb, rfl⟩ := hall q h2 hqc he hl
      have ejm : j = m := by
        rcases Nat.lt_trichotomy j m with z | z | z
        · have := (hjm j ja jb).mp z; omega
        · exact z
        · have := (hjm m hm1 (by omega)).mpr (hm m j hm1 z jb); omega
      subst ejm
      obtain ⟨k1, k2, k3⟩ := hs_TKH K j ja jb
      refine hs_yLine hfo C' K ja jb (hln j ja jb) (fun hg q1 q2 q3 q4 sm q6 q7 q8 ss q9 q10 => br_f (by decide) ?_) (fun hb q1 q2 q3 q4 sm q6 q7 q8 ss q9 q10 => br_t rfl (Hw j ja jb hb hlok _ hnew _ _ _ _ _ _ _ _ _ _ _))
      refine And.intro (vp_in_nI (by omega) (by decide)) ?_
      refine hs_yends (hok (P j) h2 h3) (fun y => absurd y he) (fun _ => br_t rfl (And.intro (vp_in_nI (by omega) (by decide)) ?_))
      have hcnt : ∀ q', P j < q' → (∀ j', a ≤ j' → j' < b → P j' ≤ P j ∨ q' ≤ P j') → ∀ j', a ≤ j' → j' < b → (j' < j + 1 ↔ P j' < q') := by
        intro q' q1 q3 j' ja' jb'
        constructor
        · intro y
          rcases Nat.lt_or_ge j' j with w | w
          · have := hm j' j ja' w jb; omega
          · have : j' = j := by omega
            subst this; exact q1
        · intro y
          rcases Nat.lt_or_ge j j' with w | w
          · have := hm j j' ja w jb'
            rcases q3 j' ja' jb' with z | z <;> omega
          · omega
      have lok1 : ∀ j', a ≤ j' → j' < j + 1 → hs_lok tk h ind a j' := fun j' ja' jb' => by
        by_cases e : j' = j
        · subst e; exact hg
        · exact hlok j' ja' (by omega)
      have num1 : ∀ j', a ≤ j' → j' < j + 1 → upd nu (P j) (nI (kl + (hs_nE tx cs (P j) + 1))) (P j') = nI (kl + (hs_nE tx cs (P j') + 1)) := fun j' ja' jb' => by
        by_cases e : j' = j
        · subst e; exact pk_us
        · have := hm j' j ja' (by omega) jb
          rw [pk_un (by omega)]
          exact hnu2 j' ja' (by omega)
      have e4 : nI (P j) = hs_pI P (if j + 1 = a then none else some (j + 1 - 1)) := by
        rw [if_neg (by omega)]; rfl
      have opn : ∀ op' : Bool, (op' = true ↔ (op = true ∨ (h j = 7 ∧ hs_bk ind b j = b))) → (op' = true ↔ ∃ k, a ≤ k ∧ k < j + 1 ∧ h k = 7 ∧ hs_bk ind b k = b) := by
        intro op' ho
        rw [ho, hop]
        constructor
        · rintro (⟨k, ka, kb, kc⟩ | kc)
          · exact ⟨k, ka, by omega, kc⟩
          · exact ⟨j, ja, by omega, kc⟩
        · rintro ⟨k, ka, kb, kc⟩
          by_cases e : k = j
          · subst e; exact Or.inr kc
          · exact Or.inl ⟨k, ka, by omega, kc⟩
      have go : ∀ op' : Bool, (op' = true ↔ (op = true ∨ (h j = 7 ∧ hs_bk ind b j = b))) → wY_firstWrong_85 post (wY_firstWrong_12 post n) (nI (hs_nE tx cs (P j) + 1)) (nI (P j)) (hs_b op') (nI (P j)) y_maxObjects y_maxSteps y_maxDepth y_kept y_end y_tokens y_pending (nI kl) y_classes y_prints y_place y_steps 0 0 0 q1 q2 q3 q4 sm q6 y_err y_code y_outcome y_result 0 q7 y_starting y_ended q8 y_hosted ss tx (upd nu (P j) (nI (kl + (hs_nE tx cs (P j) + 1)))) y_globals y_entries y_attrs y_classOf y_alive y_orders y_lengths y_letters y_bases q9 q10 y_locals y_fRecv y_fLine y_fPos y_fStmt y_fTarget y_fMask y_fHome fo y_fVals y_fNew y_out := fun op' ho => step (j + 1) op' _ (by omega) (by omega) hcnt (opn op' ho) lok1 hnew num1 _ _ _ _ _ _ _ _ _ _ _ _ e4
      rw [k1]
      refine pk_eq (h j) 7 (fun e7 => ?_) (fun e7 => go op ⟨Or.inl, fun y => y.elim id (fun z => absurd z.1 e7)⟩)
      have F := hs_bkFo (ind := ind) (b := b) (i := j) jb
      refine hs_yFollow C' ja jb F ?_
      by_cases lt : hs_bk ind b j < b
      · have e : hs_at P b (hs_bk ind b j) = nI (P (hs_bk ind b j)) := if_pos lt
        rw [e]
        have := (hP _ (by have := F.1; omega) lt).2.1
        exact br_t (nI_pos' (by omega)) (go op ⟨Or.inl, fun y => y.elim id (fun z => by omega)⟩)
      · have e : hs_at P b (hs_bk ind b j) = -1 := if_neg lt
        rw [e]
        exact br_f (by decide) (go true ⟨fun _ => Or.inr ⟨e7, by have := F.2.1; omega⟩, fun _ => rfl⟩)
end
