section
theorem pk_us {f : Nat → Int32} {k : Nat} {x : Int32} : upd f k x k = x := if_pos rfl
theorem pk_un {f : Nat → Int32} {k j : Nat} {x : Int32} (h : j ≠ k) : upd f k x j = f j := if_neg h
theorem pk_uLs {f : Nat → Int64} {k : Nat} {x : Int64} : vp_updL f k x k = x := if_pos rfl
theorem pk_uLn {f : Nat → Int64} {k j : Nat} {x : Int64} (h : j ≠ k) : vp_updL f k x j = f j := if_neg h
theorem pk_sub {a b : Nat} (h : b ≤ a) : nI a - nI b = nI (a - b) := by
  obtain ⟨c, rfl⟩ : ∃ c, a = c + b := ⟨a - b, by omega⟩
  rw [← nI_add, Int32.add_sub_cancel, Nat.add_sub_cancel]
theorem pk_m1 (n : Nat) : nI (n + 1) + (-1) = nI n := by
  rw [← nI_1, Int32.add_assoc, show (1 : Int32) + (-1) = 0 from rfl, Int32.add_zero]
theorem pk_mul (a b : Nat) : nI a * nI b = nI (a * b) := (Int32.ofNat_mul a b).symm
theorem pk_div {a d : Nat} (ha : a < 2 ^ 31) (h0 : 0 < d) (hd : d < 2 ^ 31) : nI a / nI d = nI (a / d) := by
  apply Int32.toInt_inj.mp
  rw [lg_idiv_nonneg (by rw [nI_toInt ha]; omega) (by rw [nI_toInt hd]; omega), nI_toInt ha, nI_toInt hd, nI_toInt (Nat.lt_of_le_of_lt (Nat.div_le_self a d) ha)]
  first | rfl | exact (Int.natCast_ediv _ _).symm
theorem pk_rem {a d : Nat} (ha : a < 2 ^ 31) (h0 : 0 < d) (hd : d < 2 ^ 31) : nI a - nI a / nI d * nI d = nI (a % d) := by
  rw [pk_div ha h0 hd, pk_mul, pk_sub (Nat.div_mul_le_self a d)]
  exact congrArg nI (by have := Nat.div_add_mod' a d; omega)
theorem pk_sub_toInt {a b : Nat} (ha : a < 2 ^ 30) (hb : b < 2 ^ 30) : (nI a - nI b).toInt = (a : Int) - b := by
  rw [Int32.toInt_sub, nI_toInt (by omega), nI_toInt (by omega)]
  exact Int.bmod_eq_of_le (by omega) (by omega)
theorem pk_sneg {a b : Nat} (hb : b < 2 ^ 30) (h : a < b) : nI a - nI b < 0 := by
  rw [Int32.lt_iff_toInt_lt, pk_sub_toInt (by omega) hb, show (0 : Int32).toInt = 0 from by decide]
  omega
theorem pk_ix (x : Int32) {n : Nat} (hn : n < 2 ^ 31) : x < 0 ∨ nI n ≤ x ∨ ∃ j : Nat, j < n ∧ x = nI j := by
  by_cases h : x < 0
  · exact Or.inl h
  · obtain ⟨j, hj, rfl⟩ := nI_of h
    by_cases h2 : j < n
    · exact Or.inr (Or.inr ⟨j, h2, rfl⟩)
    · exact Or.inr (Or.inl (nI_le (by omega) hj))
theorem pk_le {x y : Int32} {A B : Prop} (a b : Nat) (f : a ≤ b → A) (g : b < a → B) (hx : x = nI a := by rfl) (hy : y = nI b := by rfl) (ha : a < 2 ^ 31 := by omega) (hb : b < 2 ^ 31 := by omega) : (x ≤ y → A) ∧ (¬ x ≤ y → B) := by
  subst hx hy
  rw [nI_leI ha hb]
  exact ⟨f, fun z => g (by omega)⟩
theorem pk_lt {x y : Int32} {A B : Prop} (a b : Nat) (f : a < b → A) (g : b ≤ a → B) (hx : x = nI a := by rfl) (hy : y = nI b := by rfl) (ha : a < 2 ^ 31 := by omega) (hb : b < 2 ^ 31 := by omega) : (x < y → A) ∧ (¬ x < y → B) := by
  subst hx hy
  rw [nI_ltI ha hb]
  exact ⟨f, fun z => g (by omega)⟩
theorem pk_eq {x y : Int32} {A B : Prop} (a b : Nat) (f : a = b → A) (g : a ≠ b → B) (hx : x = nI a := by rfl) (hy : y = nI b := by rfl) (ha : a < 2 ^ 31 := by omega) (hb : b < 2 ^ 31 := by omega) : (x = y → A) ∧ (¬ x = y → B) := by
  subst hx hy
  rw [nI_eq ha hb]
  exact ⟨f, g⟩
theorem pk_in {x : Int32} (n N : Nat) (h : n < N) (hx : x = nI n := by rfl) (hN : N < 2 ^ 31 := by omega) : vp_in x N := by
  subst hx
  exact vp_in_nI h hN
theorem pk_cl {x : Int32} (n : Nat) (hx : x = nI n := by rfl) (h : n < 2 ^ 31 := by omega) : x.toNatClampNeg = n := by
  subst hx
  exact nI_clamp h
theorem pk_tn {n : Nat} (h : n < 2 ^ 32) : (nI n).toBitVec.toNat = n := Nat.mod_eq_of_lt h
theorem pk_and (x : Int32) {m : Int32} (k : Nat) (hm : m.toBitVec.toNat = 2 ^ k - 1) : x &&& m = nI (x.toBitVec.toNat % 2 ^ k) := by
  apply Int32.toBitVec_inj.mp
  apply BitVec.eq_of_toNat_eq
  rw [Int32.toBitVec_and, BitVec.toNat_and, hm, Nat.and_two_pow_sub_one_eq_mod]
  show _ = (BitVec.ofNat 32 _).toNat
  rw [BitVec.toNat_ofNat]
  exact (Nat.mod_eq_of_lt (Nat.lt_of_le_of_lt (Nat.mod_le _ _) x.toBitVec.isLt)).symm
theorem pk_andN {n : Nat} (h : n < 2 ^ 32) {m : Int32} (k : Nat) (hm : m.toBitVec.toNat = 2 ^ k - 1) : nI n &&& m = nI (n % 2 ^ k) := by
  rw [pk_and _ k hm, pk_tn h]
theorem pk_andE (x : Int32) {m : Int32} (k : Nat) (hm : m.toBitVec.toNat = 2 ^ k - 1) : ∃ j : Nat, j < 2 ^ k ∧ x &&& m = nI j := ⟨_, Nat.mod_lt _ (Nat.two_pow_pos k), pk_and x k hm⟩
theorem pk_andIn (x : Int32) {m : Int32} (k : Nat) (hm : m.toBitVec.toNat = 2 ^ k - 1) (hk : k ≤ 30) : vp_in (x &&& m) (2 ^ k) := by
  obtain ⟨j, hj, e⟩ := pk_andE x k hm
  rw [e]
  exact vp_in_nI hj (Nat.lt_of_le_of_lt (Nat.pow_le_pow_right (by decide) hk) (by decide))
theorem pk_shl (a s : Int32) (k : Nat) (hs : (s.toBitVec.smod 32).toNat = k) : (a <<< s).toBitVec.toNat = a.toBitVec.toNat * 2 ^ k % 2 ^ 32 := by
  show (a.toBitVec <<< (s.toBitVec.smod 32).toNat).toNat = _
  rw [hs, BitVec.toNat_shiftLeft, Nat.shiftLeft_eq]
theorem pk_shlN {n : Nat} (s : Int32) (k : Nat) (hs : (s.toBitVec.smod 32).toNat = k) (h : n * 2 ^ k < 2 ^ 32) : nI n <<< s = nI (n * 2 ^ k) := by
  apply Int32.toBitVec_inj.mp
  apply BitVec.eq_of_toNat_eq
  have hn : n < 2 ^ 32 := Nat.lt_of_le_of_lt (Nat.le_mul_of_pos_right n (Nat.two_pow_pos k)) h
  rw [pk_shl _ _ k hs, pk_tn hn, pk_tn h, Nat.mod_eq_of_lt h]
theorem pk_shr (a s : Int32) (k : Nat) (hs : (s.toBitVec.smod 32).toNat = k) : (a >>> s).toInt = a.toInt >>> k := by
  show (a.toBitVec.sshiftRight (s.toBitVec.smod 32).toNat).toInt = _
  rw [hs, BitVec.toInt_sshiftRight]
  rfl
theorem pk_shrN {n : Nat} (h : n < 2 ^ 31) (s : Int32) (k : Nat) (hs : (s.toBitVec.smod 32).toNat = k) : nI n >>> s = nI (n / 2 ^ k) := by
  apply Int32.toInt_inj.mp
  have h2 : n / 2 ^ k ≤ n := Nat.div_le_self _ _
  rw [pk_shr _ _ k hs, nI_toInt h, nI_toInt (by omega), Int.shiftRight_eq_div_pow]
  rfl
theorem pk_ushr (x s : Int32) (k : Nat) (hs : ((s.toUInt32 &&& Int32.toUInt32 31).toBitVec % 32).toNat = k) : (x.toUInt32 >>> (s.toUInt32 &&& Int32.toUInt32 31)).toInt32.toBitVec.toNat = x.toBitVec.toNat / 2 ^ k := by
  have e : (x.toUInt32 >>> (s.toUInt32 &&& Int32.toUInt32 31)).toInt32.toBitVec = x.toBitVec >>> k := by
    rw [← hs]
    exact UInt32.toBitVec_shiftRight _ _
  rw [e, BitVec.toNat_ushiftRight, Nat.shiftRight_eq_div_pow]
theorem pk_ushrN {n : Nat} (hn : n < 2 ^ 32) (s : Int32) (k : Nat) (hs : ((s.toUInt32 &&& Int32.toUInt32 31).toBitVec % 32).toNat = k) : ((nI n).toUInt32 >>> (s.toUInt32 &&& Int32.toUInt32 31)).toInt32 = nI (n / 2 ^ k) := by
  apply Int32.toBitVec_inj.mp
  apply BitVec.eq_of_toNat_eq
  rw [pk_ushr _ s k hs, pk_tn hn, pk_tn (Nat.lt_of_le_of_lt (Nat.div_le_self _ _) hn)]
theorem pk_nb (z : Int32) : narrow .byte (.int z.toInt8.toInt32) = .int z.toInt8.toInt32 := congrArg Value.int (by simp)
theorem pk_ns (z : Int32) : narrow .short (.int z.toInt16.toInt32) = .int z.toInt16.toInt32 := congrArg Value.int (by simp)
theorem pk_fb (r : Int32) : fits .byte (.int r.toInt8.toInt32) = true := by
  have ⟨a, b⟩ := lg_i2b_range r
  have h1 : (-128 : Int32).toInt = -128 := by decide
  have h2 : (127 : Int32).toInt = 127 := by decide
  simp only [fits, Bool.and_eq_true, decide_eq_true_eq, Int32.le_iff_toInt_le, h1, h2]
  omega
theorem pk_fs (r : Int32) : fits .short (.int r.toInt16.toInt32) = true := by
  have ⟨a, b⟩ := lg_i2s_range r
  have h1 : (-32768 : Int32).toInt = -32768 := by decide
  have h2 : (32767 : Int32).toInt = 32767 := by decide
  simp only [fits, Bool.and_eq_true, decide_eq_true_eq, Int32.le_iff_toInt_le, h1, h2]
  omega
theorem pk_charN {q : Nat} (hq : q < 65536) : narrow .char (.int (nI q)) = .int (nI q) ∧ fits .char (.int (nI q)) = true := by
  constructor
  · have e : (nI q).toUInt32.toUInt16.toUInt32.toInt32 = nI q := by
      apply Int32.toBitVec_inj.mp
      apply BitVec.eq_of_toNat_eq
      show (nI q).toUInt32.toUInt16.toUInt32.toNat = q % 2 ^ 32
      rw [UInt16.toNat_toUInt32, UInt32.toNat_toUInt16, show (nI q).toUInt32.toNat = q % 2 ^ 32 from rfl]
      omega
    exact congrArg Value.int e
  · have a : (0 : Int32) ≤ nI q := nI_pos' (by omega)
    have b : nI q ≤ 65535 := nI_le (b := 65535) (by omega) (by decide)
    show (decide ((0 : Int32) ≤ nI q) && decide (nI q ≤ 65535)) = true
    rw [decide_eq_true a, decide_eq_true b]
    rfl
theorem pk_char (x : Int32) : (x.toUInt32 % 65536).toInt32 = nI (x.toBitVec.toNat % 65536) := by
  apply Int32.toBitVec_inj.mp
  apply BitVec.eq_of_toNat_eq
  rw [pk_tn (by omega)]
  show (x.toUInt32 % 65536).toNat = _
  rw [UInt32.toNat_mod]
  rfl
theorem pk_nc (x : Int32) : narrow .char (.int (x.toUInt32 % 65536).toInt32) = .int (x.toUInt32 % 65536).toInt32 := by
  rw [pk_char]
  exact (pk_charN (Nat.mod_lt _ (by decide))).1
theorem pk_fc (x : Int32) : fits .char (.int (x.toUInt32 % 65536).toInt32) = true := by
  rw [pk_char]
  exact (pk_charN (Nat.mod_lt _ (by decide))).2
theorem pk_vb (z : Int32) : vp_nar .byte z.toInt8.toInt32 = z.toInt8.toInt32 := by rw [vp_nar_byte]; simp
theorem pk_vs (z : Int32) : vp_nar .short z.toInt16.toInt32 = z.toInt16.toInt32 := by rw [vp_nar_short]; simp
theorem pk_vc (z : Int32) : vp_nar .char (z.toUInt32 % 65536).toInt32 = (z.toUInt32 % 65536).toInt32 := Value.int.inj (pk_nc z)
theorem pk_lT {n : Nat} (h : n < 2 ^ 63) : (lN n).toInt = (n : Int) := lg_ofNat_toInt h
theorem pk_lLT {a b : Nat} (ha : a < 2 ^ 63) (hb : b < 2 ^ 63) : lN a < lN b ↔ a < b := by
  rw [Int64.lt_iff_toInt_lt, pk_lT ha, pk_lT hb]; omega
theorem pk_lLE {a b : Nat} (ha : a < 2 ^ 63) (hb : b < 2 ^ 63) : lN a ≤ lN b ↔ a ≤ b := by
  rw [Int64.le_iff_toInt_le, pk_lT ha, pk_lT hb]; omega
theorem pk_lEQ {a b : Nat} (ha : a < 2 ^ 63) (hb : b < 2 ^ 63) : lN a = lN b ↔ a = b := by
  rw [← Int64.toInt_inj, pk_lT ha, pk_lT hb]; omega
theorem pk_lOf {x : Int64} (h : ¬ x < 0) : ∃ k : Nat, k < 2 ^ 63 ∧ x = lN k := by
  rw [Int64.lt_iff_toInt_lt] at h
  have h0 : (0 : Int64).toInt = 0 := by decide
  have hx := Int64.toInt_lt x
  refine ⟨x.toInt.toNat, by omega, Int64.toInt_inj.mp ?_⟩
  rw [pk_lT (by omega)]
  omega
theorem pk_lDiv {a b : Nat} (ha : a < 2 ^ 63) (h0 : 0 < b) (hb : b < 2 ^ 63) : lN a / lN b = lN (a / b) := by
  apply Int64.toInt_inj.mp
  rw [lg_ldiv_nonneg (by rw [pk_lT ha]; omega) (by rw [pk_lT hb]; omega), pk_lT ha, pk_lT hb, pk_lT (Nat.lt_of_le_of_lt (Nat.div_le_self a b) ha)]
  rfl
theorem pk_lRem {a b : Nat} (ha : a < 2 ^ 63) (h0 : 0 < b) (hb : b < 2 ^ 63) : lN a - lN a / lN b * lN b = lN (a % b) := by
  rw [pk_lDiv ha h0 hb, lN_mul, lN_sub (Nat.div_mul_le_self a b)]
  exact congrArg lN (by have := Nat.div_add_mod' a b; omega)
theorem pk_loop {σ : Type} (W : Nat → Nat → σ → Prop) (I : Nat → σ → Prop) (e i0 : Nat) (s : σ) (hi : i0 ≤ e) (h0 : I i0 s) (hx : ∀ n s, I e s → W (n + 1) e s)
    (hs : ∀ n i s, i < e → I i s → (∀ s', I (i + 1) s' → W n (i + 1) s') → W (n + 1) i s) : ∃ n, W n i0 s :=
  ⟨e + 1, loop_i W I e hx hs (e + 1) i0 s hi (by omega) h0⟩
theorem pk_loopD {σ : Type} (W : Nat → Nat → σ → Prop) (I : Nat → σ → Prop) (hx : ∀ n s, I 0 s → W (n + 1) 0 s)
    (hs : ∀ n i s, I (i + 1) s → (∀ s', I i s' → W n i s') → W (n + 1) (i + 1) s) : ∀ (e : Nat) (s : σ), I e s → W (e + 1) e s := by
  intro e
  induction e with
  | zero => exact fun s h => hx 0 s h
  | succ e ih => exact fun s h => hs (e + 1) e s h (fun s' h' => ih s' h')
theorem lp1 {A1 : Type} (W : Nat → A1 → Prop) (I : A1 → Prop) (μ : A1 → Nat) (hs : ∀ (n : Nat) (a1 : A1), I a1 → (∀ (b1 : A1), I b1 → μ b1 < μ a1 → W n b1) → W (n + 1) a1) (a1 : A1) (h : I a1) : ∃ n, W n a1 :=
  loop_m (σ := A1) (fun n s => W n s) (fun s => I s) (fun s => μ s) (fun n s hI hk => hs n s hI (fun b1 h9 hm => hk b1 h9 hm)) a1 h
theorem lp2 {A1 A2 : Type} (W : Nat → A1 → A2 → Prop) (I : A1 → A2 → Prop) (μ : A1 → A2 → Nat) (hs : ∀ (n : Nat) (a1 : A1) (a2 : A2), I a1 a2 → (∀ (b1 : A1) (b2 : A2), I b1 b2 → μ b1 b2 < μ a1 a2 → W n b1 b2) → W (n + 1) a1 a2) (a1 : A1) (a2 : A2) (h : I a1 a2) : ∃ n, W n a1 a2 :=
  loop_m (σ := A1 × A2) (fun n s => W n s.1 s.2) (fun s => I s.1 s.2) (fun s => μ s.1 s.2) (fun n s hI hk => hs n s.1 s.2 hI (fun b1 b2 h9 hm => hk (b1, b2) h9 hm)) (a1, a2) h
theorem lp3 {A1 A2 A3 : Type} (W : Nat → A1 → A2 → A3 → Prop) (I : A1 → A2 → A3 → Prop) (μ : A1 → A2 → A3 → Nat) (hs : ∀ (n : Nat) (a1 : A1) (a2 : A2) (a3 : A3), I a1 a2 a3 → (∀ (b1 : A1) (b2 : A2) (b3 : A3), I b1 b2 b3 → μ b1 b2 b3 < μ a1 a2 a3 → W n b1 b2 b3) → W (n + 1) a1 a2 a3) (a1 : A1) (a2 : A2) (a3 : A3) (h : I a1 a2 a3) : ∃ n, W n a1 a2 a3 :=
  loop_m (σ := A1 × A2 × A3) (fun n s => W n s.1 s.2.1 s.2.2) (fun s => I s.1 s.2.1 s.2.2) (fun s => μ s.1 s.2.1 s.2.2) (fun n s hI hk => hs n s.1 s.2.1 s.2.2 hI (fun b1 b2 b3 h9 hm => hk (b1, b2, b3) h9 hm)) (a1, a2, a3) h
theorem lp4 {A1 A2 A3 A4 : Type} (W : Nat → A1 → A2 → A3 → A4 → Prop) (I : A1 → A2 → A3 → A4 → Prop) (μ : A1 → A2 → A3 → A4 → Nat) (hs : ∀ (n : Nat) (a1 : A1) (a2 : A2) (a3 : A3) (a4 : A4), I a1 a2 a3 a4 → (∀ (b1 : A1) (b2 : A2) (b3 : A3) (b4 : A4), I b1 b2 b3 b4 → μ b1 b2 b3 b4 < μ a1 a2 a3 a4 → W n b1 b2 b3 b4) → W (n + 1) a1 a2 a3 a4) (a1 : A1) (a2 : A2) (a3 : A3) (a4 : A4) (h : I a1 a2 a3 a4) : ∃ n, W n a1 a2 a3 a4 :=
  loop_m (σ := A1 × A2 × A3 × A4) (fun n s => W n s.1 s.2.1 s.2.2.1 s.2.2.2) (fun s => I s.1 s.2.1 s.2.2.1 s.2.2.2) (fun s => μ s.1 s.2.1 s.2.2.1 s.2.2.2) (fun n s hI hk => hs n s.1 s.2.1 s.2.2.1 s.2.2.2 hI (fun b1 b2 b3 b4 h9 hm => hk (b1, b2, b3, b4) h9 hm)) (a1, a2, a3, a4) h
theorem lp5 {A1 A2 A3 A4 A5 : Type} (W : Nat → A1 → A2 → A3 → A4 → A5 → Prop) (I : A1 → A2 → A3 → A4 → A5 → Prop) (μ : A1 → A2 → A3 → A4 → A5 → Nat) (hs : ∀ (n : Nat) (a1 : A1) (a2 : A2) (a3 : A3) (a4 : A4) (a5 : A5), I a1 a2 a3 a4 a5 → (∀ (b1 : A1) (b2 : A2) (b3 : A3) (b4 : A4) (b5 : A5), I b1 b2 b3 b4 b5 → μ b1 b2 b3 b4 b5 < μ a1 a2 a3 a4 a5 → W n b1 b2 b3 b4 b5) → W (n + 1) a1 a2 a3 a4 a5) (a1 : A1) (a2 : A2) (a3 : A3) (a4 : A4) (a5 : A5) (h : I a1 a2 a3 a4 a5) : ∃ n, W n a1 a2 a3 a4 a5 :=
  loop_m (σ := A1 × A2 × A3 × A4 × A5) (fun n s => W n s.1 s.2.1 s.2.2.1 s.2.2.2.1 s.2.2.2.2) (fun s => I s.1 s.2.1 s.2.2.1 s.2.2.2.1 s.2.2.2.2) (fun s => μ s.1 s.2.1 s.2.2.1 s.2.2.2.1 s.2.2.2.2) (fun n s hI hk => hs n s.1 s.2.1 s.2.2.1 s.2.2.2.1 s.2.2.2.2 hI (fun b1 b2 b3 b4 b5 h9 hm => hk (b1, b2, b3, b4, b5) h9 hm)) (a1, a2, a3, a4, a5) h
theorem lp6 {A1 A2 A3 A4 A5 A6 : Type} (W : Nat → A1 → A2 → A3 → A4 → A5 → A6 → Prop) (I : A1 → A2 → A3 → A4 → A5 → A6 → Prop) (μ : A1 → A2 → A3 → A4 → A5 → A6 → Nat) (hs : ∀ (n : Nat) (a1 : A1) (a2 : A2) (a3 : A3) (a4 : A4) (a5 : A5) (a6 : A6), I a1 a2 a3 a4 a5 a6 → (∀ (b1 : A1) (b2 : A2) (b3 : A3) (b4 : A4) (b5 : A5) (b6 : A6), I b1 b2 b3 b4 b5 b6 → μ b1 b2 b3 b4 b5 b6 < μ a1 a2 a3 a4 a5 a6 → W n b1 b2 b3 b4 b5 b6) → W (n + 1) a1 a2 a3 a4 a5 a6) (a1 : A1) (a2 : A2) (a3 : A3) (a4 : A4) (a5 : A5) (a6 : A6) (h : I a1 a2 a3 a4 a5 a6) : ∃ n, W n a1 a2 a3 a4 a5 a6 :=
  loop_m (σ := A1 × A2 × A3 × A4 × A5 × A6) (fun n s => W n s.1 s.2.1 s.2.2.1 s.2.2.2.1 s.2.2.2.2.1 s.2.2.2.2.2) (fun s => I s.1 s.2.1 s.2.2.1 s.2.2.2.1 s.2.2.2.2.1 s.2.2.2.2.2) (fun s => μ s.1 s.2.1 s.2.2.1 s.2.2.2.1 s.2.2.2.2.1 s.2.2.2.2.2) (fun n s hI hk => hs n s.1 s.2.1 s.2.2.1 s.2.2.2.1 s.2.2.2.2.1 s.2.2.2.2.2 hI (fun b1 b2 b3 b4 b5 b6 h9 hm => hk (b1, b2, b3, b4, b5, b6) h9 hm)) (a1, a2, a3, a4, a5, a6) h
theorem pk_least (P : Nat → Prop) (h : ∃ k, P k) : ∃ k, P k ∧ ∀ j, j < k → ¬ P j := by
  obtain ⟨k, hk⟩ := h
  induction k using Nat.strongRecOn with
  | ind k ih =>
    by_cases e : ∃ j, j < k ∧ P j
    · obtain ⟨j, hj, pj⟩ := e
      exact ih j hj pj
    · exact ⟨k, hk, fun j hj pj => e ⟨j, hj, pj⟩⟩
theorem rp1 {ρ A1 : Type} (W : Nat → (ρ → Prop) → A1 → Prop) (ok : A1 → Prop) (μ : A1 → Nat) (val : A1 → ρ)
    (hs : ∀ (d : Nat) (post : ρ → Prop) (a1 : A1), ok a1 → post (val a1) → (∀ (post' : ρ → Prop) (b1 : A1), ok b1 → μ b1 < μ a1 → post' (val b1) → W d post' b1) → W (d + 1) post a1) :
    ∀ (d : Nat) (post : ρ → Prop) (a1 : A1), ok a1 → μ a1 < d → post (val a1) → W d post a1 := by
  intro d
  induction d with
  | zero => intro post a1 _ h; omega
  | succ d ih =>
    intro post a1 ho hm hp
    exact hs d post a1 ho hp (fun post' b1 ho' hm' hp' => ih post' b1 ho' (by omega) hp')
theorem rp2 {ρ A1 A2 : Type} (W : Nat → (ρ → Prop) → A1 → A2 → Prop) (ok : A1 → A2 → Prop) (μ : A1 → A2 → Nat) (val : A1 → A2 → ρ)
    (hs : ∀ (d : Nat) (post : ρ → Prop) (a1 : A1) (a2 : A2), ok a1 a2 → post (val a1 a2) → (∀ (post' : ρ → Prop) (b1 : A1) (b2 : A2), ok b1 b2 → μ b1 b2 < μ a1 a2 → post' (val b1 b2) → W d post' b1 b2) → W (d + 1) post a1 a2) :
    ∀ (d : Nat) (post : ρ → Prop) (a1 : A1) (a2 : A2), ok a1 a2 → μ a1 a2 < d → post (val a1 a2) → W d post a1 a2 := by
  intro d
  induction d with
  | zero => intro post a1 a2 _ h; omega
  | succ d ih =>
    intro post a1 a2 ho hm hp
    exact hs d post a1 a2 ho hp (fun post' b1 b2 ho' hm' hp' => ih post' b1 b2 ho' (by omega) hp')
theorem rp3 {ρ A1 A2 A3 : Type} (W : Nat → (ρ → Prop) → A1 → A2 → A3 → Prop) (ok : A1 → A2 → A3 → Prop) (μ : A1 → A2 → A3 → Nat) (val : A1 → A2 → A3 → ρ)
    (hs : ∀ (d : Nat) (post : ρ → Prop) (a1 : A1) (a2 : A2) (a3 : A3), ok a1 a2 a3 → post (val a1 a2 a3) → (∀ (post' : ρ → Prop) (b1 : A1) (b2 : A2) (b3 : A3), ok b1 b2 b3 → μ b1 b2 b3 < μ a1 a2 a3 → post' (val b1 b2 b3) → W d post' b1 b2 b3) → W (d + 1) post a1 a2 a3) :
    ∀ (d : Nat) (post : ρ → Prop) (a1 : A1) (a2 : A2) (a3 : A3), ok a1 a2 a3 → μ a1 a2 a3 < d → post (val a1 a2 a3) → W d post a1 a2 a3 := by
  intro d
  induction d with
  | zero => intro post a1 a2 a3 _ h; omega
  | succ d ih =>
    intro post a1 a2 a3 ho hm hp
    exact hs d post a1 a2 a3 ho hp (fun post' b1 b2 b3 ho' hm' hp' => ih post' b1 b2 b3 ho' (by omega) hp')
theorem rp4 {ρ A1 A2 A3 A4 : Type} (W : Nat → (ρ → Prop) → A1 → A2 → A3 → A4 → Prop) (ok : A1 → A2 → A3 → A4 → Prop) (μ : A1 → A2 → A3 → A4 → Nat) (val : A1 → A2 → A3 → A4 → ρ)
    (hs : ∀ (d : Nat) (post : ρ → Prop) (a1 : A1) (a2 : A2) (a3 : A3) (a4 : A4), ok a1 a2 a3 a4 → post (val a1 a2 a3 a4) → (∀ (post' : ρ → Prop) (b1 : A1) (b2 : A2) (b3 : A3) (b4 : A4), ok b1 b2 b3 b4 → μ b1 b2 b3 b4 < μ a1 a2 a3 a4 → post' (val b1 b2 b3 b4) → W d post' b1 b2 b3 b4) → W (d + 1) post a1 a2 a3 a4) :
    ∀ (d : Nat) (post : ρ → Prop) (a1 : A1) (a2 : A2) (a3 : A3) (a4 : A4), ok a1 a2 a3 a4 → μ a1 a2 a3 a4 < d → post (val a1 a2 a3 a4) → W d post a1 a2 a3 a4 := by
  intro d
  induction d with
  | zero => intro post a1 a2 a3 a4 _ h; omega
  | succ d ih =>
    intro post a1 a2 a3 a4 ho hm hp
    exact hs d post a1 a2 a3 a4 ho hp (fun post' b1 b2 b3 b4 ho' hm' hp' => ih post' b1 b2 b3 b4 ho' (by omega) hp')
theorem rec_p {σ ρ : Type} (W : Nat → (ρ → Prop) → σ → Prop) (ok : σ → Prop) (μ : σ → Nat) (val : σ → ρ)
    (hs : ∀ d s post, ok s → post (val s) → (∀ s' post', ok s' → μ s' < μ s → post' (val s') → W d post' s') → W (d + 1) post s) :
    ∀ d s post, ok s → μ s < d → post (val s) → W d post s := by
  intro d
  induction d with
  | zero => intro s post _ h; omega
  | succ d ih =>
    intro s post ho hm hp
    exact hs d s post ho hp (fun s' post' ho' hm' hp' => ih s' post' ho' (by omega) hp')
theorem rec_q {σ ρ : Type} (W : Nat → (ρ → Prop) → σ → Prop) (ok : σ → Prop) (μ : σ → Nat) (Q : σ → ρ → Prop)
    (hs : ∀ d s post, ok s → (∀ r, Q s r → post r) → (∀ s' post', ok s' → μ s' < μ s → (∀ r, Q s' r → post' r) → W d post' s') → W (d + 1) post s) :
    ∀ d s post, ok s → μ s < d → (∀ r, Q s r → post r) → W d post s := by
  intro d
  induction d with
  | zero => intro s post _ h; omega
  | succ d ih =>
    intro s post ho hm hp
    exact hs d s post ho hp (fun s' post' ho' hm' hp' => ih s' post' ho' (by omega) hp')
theorem ek_u {A : Prop} {B : Nat → Prop} {k N : Nat} (hk : k < N) (h : B k) : (some k = none → A) ∧ (∀ y : Nat, some k = some y → (y < N ∧ B y)) :=
  ⟨fun z => absurd z (Option.some_ne_none k), fun _ e => (by cases e; exact ⟨hk, h⟩)⟩
theorem ek_nu {A : Prop} {B : Nat → Prop} (h : A) : ((none : Option Nat) = none → A) ∧ (∀ y : Nat, (none : Option Nat) = some y → B y) :=
  ⟨fun _ => h, fun _ e => (by cases e)⟩
theorem ek_if {c d A B : Prop} (e : c ↔ d) (f : d → A) (g : ¬ d → B) : (c → A) ∧ (¬ c → B) :=
  ⟨fun z => f (e.mp z), fun z => g (fun y => z (e.mpr y))⟩
theorem ek_v {α : Sort _} {P : α → Prop} {a b : α} (e : a = b) (h : P b) : P a := e ▸ h
theorem pk_mu {x : Int32} {L : Nat} (h0 : ¬ x < 0) (h : ¬ nI L ≤ x) (hL : L < 2 ^ 31) : ∃ j : Nat, j < L ∧ x = nI j ∧ x + 1 = nI (j + 1) ∧ x.toNatClampNeg = j ∧ L - (x + 1).toNatClampNeg < L - x.toNatClampNeg := by
  obtain ⟨j, hj, rfl⟩ := nI_of h0
  have hl : j < L := Nat.not_le.mp fun q => h (nI_le q hj)
  refine ⟨j, hl, rfl, nI_1 j, nI_clamp hj, ?_⟩
  rw [nI_1, nI_clamp (by omega), nI_clamp hj]
  omega
theorem sb_shr0 (x : Int32) : x >>> ((0 : Int32) &&& 31) = x := by
  rw [show ((0 : Int32) &&& 31) = 0 by decide]
  simp
theorem sb_shl0 (x : Int32) : x <<< ((0 : Int32) &&& 31) = x := by
  rw [show ((0 : Int32) &&& 31) = 0 by decide]
  simp
theorem sb_cl0 : (0 : Int32).toNatClampNeg = 0 := by decide
theorem sb_m1 {p : Nat} (h : 0 < p) : nI p + (-1) = nI (p - 1) := by
  obtain ⟨q, rfl⟩ : ∃ q, p = q + 1 := ⟨p - 1, by omega⟩
  exact pk_m1 q
def bt (x : Int32) (i : Nat) : Bool := x.toBitVec.getLsbD i
theorem b_ext {x y : Int32} (h : ∀ i, i < 32 → bt x i = bt y i) : x = y := Int32.toBitVec_inj.mp (BitVec.eq_of_getLsbD_eq (fun i hi => h i hi))
theorem b_or (x y : Int32) (i : Nat) : bt (x ||| y) i = (bt x i || bt y i) := by unfold bt; rw [Int32.toBitVec_or, BitVec.getLsbD_or]
theorem b_and (x y : Int32) (i : Nat) : bt (x &&& y) i = (bt x i && bt y i) := by unfold bt; rw [Int32.toBitVec_and, BitVec.getLsbD_and]
theorem b_xor (x y : Int32) (i : Nat) : bt (x ^^^ y) i = (bt x i ^^ bt y i) := by unfold bt; rw [Int32.toBitVec_xor, BitVec.getLsbD_xor]
theorem b_big {x : Int32} {i : Nat} (h : 32 ≤ i) : bt x i = false := BitVec.getLsbD_of_ge _ _ h
theorem b_255 (i : Nat) : bt 255 i = decide (i < 8) := by
  rcases Nat.lt_or_ge i 32 with h | h
  · exact (by decide +kernel : ∀ i, i < 32 → bt 255 i = decide (i < 8)) i h
  · rw [b_big h, decide_eq_false (by omega)]
theorem b_65535 (i : Nat) : bt 65535 i = decide (i < 16) := by
  rcases Nat.lt_or_ge i 32 with h | h
  · exact (by decide +kernel : ∀ i, i < 32 → bt 65535 i = decide (i < 16)) i h
  · rw [b_big h, decide_eq_false (by omega)]
theorem b_m1 : ∀ i, i < 32 → bt (-1) i = true := by decide +kernel
theorem b_0 (i : Nat) : bt 0 i = false := BitVec.getLsbD_zero
theorem s_l : ∀ n, n < 32 → ((nI n &&& 31).toBitVec.smod 32).toNat = n := by decide +kernel
theorem s_u : ∀ n, n < 32 → (((nI n).toUInt32 &&& Int32.toUInt32 31).toBitVec % 32).toNat = n := by decide +kernel
theorem b_shl (n : Nat) (hn : n < 32) (x : Int32) {i : Nat} (hi : i < 32) : bt (x <<< (nI n &&& 31)) i = (decide (n ≤ i) && bt x (i - n)) := by
  unfold bt
  rw [Int32.toBitVec_shiftLeft]
  show (x.toBitVec <<< ((nI n &&& 31).toBitVec.smod 32).toNat).getLsbD i = _
  rw [s_l n hn, BitVec.getLsbD_shiftLeft]
  rcases Nat.lt_or_ge i n with h | h
  · simp [h, Nat.not_le.mpr h]
  · simp [hi, h, Nat.not_lt.mpr h]
theorem b_ushr (n : Nat) (hn : n < 32) (x : Int32) (i : Nat) : bt ((x.toUInt32 >>> ((nI n).toUInt32 &&& Int32.toUInt32 31)).toInt32) i = bt x (n + i) := by
  show (x.toUInt32 >>> ((nI n).toUInt32 &&& Int32.toUInt32 31)).toBitVec.getLsbD i = x.toUInt32.toBitVec.getLsbD (n + i)
  rw [UInt32.toBitVec_shiftRight]
  show (x.toUInt32.toBitVec >>> (((nI n).toUInt32 &&& Int32.toUInt32 31).toBitVec % 32).toNat).getLsbD i = _
  rw [s_u n hn, BitVec.getLsbD_ushiftRight]
theorem b_sshr (n : Nat) (hn : n < 32) (x : Int32) {i : Nat} (hi : i < 32) : bt (x >>> (nI n &&& 31)) i = if n + i < 32 then bt x (n + i) else bt x 31 := by
  unfold bt
  rw [Int32.toBitVec_shiftRight]
  show (x.toBitVec.sshiftRight ((nI n &&& 31).toBitVec.smod 32).toNat).getLsbD i = _
  rw [s_l n hn, BitVec.getLsbD_sshiftRight, BitVec.msb_eq_getLsbD_last]
  simp [hi]
theorem b_shl8 (x : Int32) {i : Nat} (hi : i < 32) : bt (x <<< ((8 : Int32) &&& 31)) i = (decide (8 ≤ i) && bt x (i - 8)) := b_shl 8 (by omega) x hi
theorem b_shl16 (x : Int32) {i : Nat} (hi : i < 32) : bt (x <<< ((16 : Int32) &&& 31)) i = (decide (16 ≤ i) && bt x (i - 16)) := b_shl 16 (by omega) x hi
theorem b_shl24 (x : Int32) {i : Nat} (hi : i < 32) : bt (x <<< ((24 : Int32) &&& 31)) i = (decide (24 ≤ i) && bt x (i - 24)) := b_shl 24 (by omega) x hi
theorem b_sshr8 (x : Int32) {i : Nat} (hi : i < 32) : bt (x >>> ((8 : Int32) &&& 31)) i = if 8 + i < 32 then bt x (8 + i) else bt x 31 := b_sshr 8 (by omega) x hi
theorem nx_and (a b : Nat) : nI a &&& nI b = nI (a &&& b) := by
  apply Int32.toBitVec_inj.1
  show BitVec.ofNat 32 a &&& BitVec.ofNat 32 b = BitVec.ofNat 32 (a &&& b)
  apply BitVec.eq_of_getLsbD_eq
  intro i hi
  simp [hi]
theorem nx_xor (a b : Nat) : nI a ^^^ nI b = nI (a ^^^ b) := by
  apply Int32.toBitVec_inj.1
  show BitVec.ofNat 32 a ^^^ BitVec.ofNat 32 b = BitVec.ofNat 32 (a ^^^ b)
  apply BitVec.eq_of_getLsbD_eq
  intro i hi
  simp [hi]
theorem nx_cnt : ∀ j : Fin 32, (UInt32.ofNat j.val &&& Int32.toUInt32 31).toNat % 32 = j.val := by decide +kernel
theorem nx_ush {k j : Nat} (hk : k < 65536) (hj : j < 32) : ((nI k).toUInt32 >>> ((nI j).toUInt32 &&& Int32.toUInt32 31)).toInt32 = nI (k >>> j) := by
  have hs : k >>> j ≤ k := by
    rw [Nat.shiftRight_eq_div_pow]
    exact Nat.div_le_self _ _
  have e2 : UInt32.ofNat k >>> (UInt32.ofNat j &&& Int32.toUInt32 31) = UInt32.ofNat (k >>> j) := by
    apply UInt32.toNat_inj.1
    have h1 : (UInt32.ofNat k).toNat = k := Nat.mod_eq_of_lt (by omega)
    have h2 : (UInt32.ofNat (k >>> j)).toNat = k >>> j := Nat.mod_eq_of_lt (by omega)
    rw [UInt32.toNat_shiftRight, nx_cnt ⟨j, hj⟩, h1, h2]
  show (UInt32.ofNat k >>> (UInt32.ofNat j &&& Int32.toUInt32 31)).toInt32 = _
  rw [e2]
  rfl
theorem nx_bit {k j : Nat} (hk : k < 65536) (hj : j < 16) : (((nI k).toUInt32 >>> ((nI j).toUInt32 &&& Int32.toUInt32 31)).toInt32 &&& 1) = 0 ↔ k.testBit j = false := by
  rw [nx_ush hk (by omega)]
  show nI (k >>> j) &&& nI 1 = 0 ↔ _
  rw [nx_and, Nat.and_one_is_mod, ← nI_0, nI_eq (by omega) (by omega), Nat.testBit_eq_decide_div_mod_eq, Nat.shiftRight_eq_div_pow, decide_eq_false_iff_not]
  generalize k / 2 ^ j = z
  omega
theorem nx_mod (k : Nat) : nI k &&& 65535 = nI (k % 65536) := by
  show nI k &&& nI 65535 = _
  rw [nx_and, show (65535 : Nat) = 2 ^ 16 - 1 from rfl, Nat.and_two_pow_sub_one_eq_mod]
theorem nx_m16 {k : Nat} (h : k < 65536) : nI k &&& 65535 = nI k := by rw [nx_mod, Nat.mod_eq_of_lt h]
theorem nx_mask (x : Int32) : ∃ k, k < 65536 ∧ x &&& 65535 = nI k := by
  have e : x = nI x.toBitVec.toNat := by
    apply Int32.toBitVec_inj.1
    show x.toBitVec = BitVec.ofNat 32 x.toBitVec.toNat
    simp
  refine ⟨x.toBitVec.toNat % 65536, Nat.mod_lt _ (by omega), ?_⟩
  rw [← nx_mod, ← e]
def nf_M (m : Int32) : Nat := 4294967296 - m.toBitVec.toNat
theorem nf_sh : ∀ l, l < 32 → ((1 : Int32) <<< (nI l &&& 31)).toBitVec = BitVec.twoPow 32 l := by decide +kernel
theorem nf_sl : ∀ l, l < 32 → (((nI l).toUInt32 &&& Int32.toUInt32 31).toBitVec % 32).toNat = l := by decide +kernel
theorem nf_tp : ∀ l, l < 32 → BitVec.twoPow 32 l ≠ 0#32 := by decide +kernel
theorem nf_bit (m : Int32) (l : Nat) (hl : l < 32) : ((m.toUInt32 >>> ((nI l).toUInt32 &&& Int32.toUInt32 31)).toInt32 &&& 1) = 0 ↔ (m &&& ((1 : Int32) <<< (nI l &&& 31))) = 0 := by
  have e : ((m.toUInt32 >>> ((nI l).toUInt32 &&& Int32.toUInt32 31)).toInt32).toBitVec = m.toBitVec >>> l := by
    show m.toBitVec >>> (((nI l).toUInt32 &&& Int32.toUInt32 31).toBitVec % 32) = m.toBitVec >>> l
    rw [BitVec.ushiftRight_eq', nf_sl l hl]
  rw [← Int32.toBitVec_inj, ← Int32.toBitVec_inj, Int32.toBitVec_and, Int32.toBitVec_and, nf_sh l hl, e, BitVec.and_twoPow]
  show (m.toBitVec >>> l &&& 1#32) = 0#32 ↔ _ = 0#32
  rw [BitVec.and_one_eq_setWidth_ofBool_getLsbD, BitVec.getLsbD_ushiftRight, Nat.add_zero]
  cases hb : m.toBitVec.getLsbD l
  · exact ⟨fun _ => by simp, fun _ => by decide⟩
  · exact ⟨fun z => absurd z (by decide), fun z => absurd ((if_pos rfl).symm.trans z) (nf_tp l hl)⟩
theorem nf_gr (m k : Int32) (h : m &&& k = 0) (hk : k ≠ 0) : nf_M (m ||| k) < nf_M m := by
  have hm := m.toBitVec.isLt
  have hm' := (m ||| k).toBitVec.isLt
  have h1 : m.toBitVec.toNat ≤ (m ||| k).toBitVec.toNat := by
    rw [Int32.toBitVec_or, BitVec.toNat_or]
    exact Nat.left_le_or
  have h2 : m.toBitVec.toNat ≠ (m ||| k).toBitVec.toNat := by
    intro e
    have e2 : m = m ||| k := Int32.toBitVec_inj.mp (BitVec.eq_of_toNat_eq e)
    apply hk
    apply Int32.toBitVec_inj.mp
    show k.toBitVec = 0#32
    apply BitVec.eq_of_getLsbD_eq
    intro i hi
    have a : m.toBitVec.getLsbD i = (m.toBitVec.getLsbD i || k.toBitVec.getLsbD i) := by rw [← BitVec.getLsbD_or, ← Int32.toBitVec_or, ← e2]
    have b : (m.toBitVec.getLsbD i && k.toBitVec.getLsbD i) = false := by
      rw [← BitVec.getLsbD_and, ← Int32.toBitVec_and, h]
      exact BitVec.getLsbD_zero
    rw [BitVec.getLsbD_zero]
    revert a b
    cases m.toBitVec.getLsbD i <;> cases k.toBitVec.getLsbD i <;> simp
  unfold nf_M
  omega
theorem wb_tb (n : Nat) : (lN n).toBitVec = BitVec.ofNat 64 n := rfl
theorem wb_inj {a b : Int64} (h : a.toBitVec = b.toBitVec) : a = b := Int64.toBitVec_inj.mp h
theorem wb_tn {n : Nat} (h : n < 2 ^ 64) : (lN n).toBitVec.toNat = n := by rw [wb_tb, BitVec.toNat_ofNat, Nat.mod_eq_of_lt h]
theorem wb_of (x : Int64) : ∃ n, n < 2 ^ 64 ∧ x = lN n := ⟨x.toBitVec.toNat, x.toBitVec.isLt, wb_inj (by rw [wb_tb]; simp)⟩
theorem wb_of32 (x : Int32) : ∃ n, n < 2 ^ 32 ∧ x = nI n := ⟨x.toBitVec.toNat, x.toBitVec.isLt, Int32.toBitVec_inj.mp (by show _ = BitVec.ofNat 32 _; simp)⟩
theorem wb_c : ∀ k, k < 64 → ((nI k).toInt64 &&& 63) = lN k := by decide +kernel
theorem wb_cu : ∀ k, k < 64 → ((nI k).toInt64.toUInt64 &&& Int64.toUInt64 63) = UInt64.ofNat k := by decide +kernel
theorem wb_sm : ∀ k, k < 64 → (BitVec.ofNat 64 k).smod 64 = BitVec.ofNat 64 k := by decide +kernel
theorem wb_pw {a b : Nat} (h : a ≤ b) : 2 ^ b = 2 ^ a * 2 ^ (b - a) := by rw [← Nat.pow_add]; congr 1; omega
theorem wb_lt2 {a b : Nat} (h : a < b) : 2 ^ a < 2 ^ b := Nat.pow_lt_pow_right (by decide) h
theorem wb_mod (n : Nat) : lN n = lN (n % 2 ^ 64) := wb_inj (by rw [wb_tb, wb_tb]; apply BitVec.eq_of_toNat_eq; rw [BitVec.toNat_ofNat, BitVec.toNat_ofNat, Nat.mod_mod])
theorem wb_shr {n k : Nat} (hn : n < 2 ^ 64) (hk : k < 64) : ((lN n).toUInt64 >>> ((nI k).toInt64.toUInt64 &&& Int64.toUInt64 63)).toInt64 = lN (n / 2 ^ k) := by
  rw [wb_cu k hk]
  apply wb_inj
  apply BitVec.eq_of_toNat_eq
  show ((lN n).toUInt64 >>> UInt64.ofNat k).toNat = (BitVec.ofNat 64 _).toNat
  have h1 : (UInt64.ofNat k).toNat = k := by
    show (BitVec.ofNat 64 k).toNat = k
    rw [BitVec.toNat_ofNat, Nat.mod_eq_of_lt (by omega)]
  have h2 : (lN n).toUInt64.toNat = n := wb_tn hn
  rw [UInt64.toNat_shiftRight, h1, h2, Nat.mod_eq_of_lt hk, Nat.shiftRight_eq_div_pow, BitVec.toNat_ofNat, Nat.mod_eq_of_lt (Nat.lt_of_le_of_lt (Nat.div_le_self _ _) hn)]
theorem wb_shl (n : Nat) {k : Nat} (hk : k < 64) : lN n <<< ((nI k).toInt64 &&& 63) = lN (n * 2 ^ k) := by
  rw [wb_c k hk]
  apply wb_inj
  rw [Int64.toBitVec_shiftLeft, wb_tb, wb_tb, wb_tb, wb_sm k hk]
  apply BitVec.eq_of_toNat_eq
  rw [BitVec.shiftLeft_eq', BitVec.toNat_shiftLeft, BitVec.toNat_ofNat, BitVec.toNat_ofNat, BitVec.toNat_ofNat, Nat.mod_eq_of_lt (show k < 2 ^ 64 by omega), Nat.shiftLeft_eq, Nat.mul_mod, Nat.mod_mod, ← Nat.mul_mod]
theorem wb_and {a b : Nat} (ha : a < 2 ^ 64) (hb : b < 2 ^ 64) : lN a &&& lN b = lN (a &&& b) := by
  apply wb_inj
  rw [Int64.toBitVec_and, wb_tb, wb_tb, wb_tb]
  apply BitVec.eq_of_toNat_eq
  rw [BitVec.toNat_and, BitVec.toNat_ofNat, BitVec.toNat_ofNat, BitVec.toNat_ofNat, Nat.mod_eq_of_lt ha, Nat.mod_eq_of_lt hb, Nat.mod_eq_of_lt (Nat.and_lt_two_pow _ hb)]
theorem wb_or {a b : Nat} (ha : a < 2 ^ 64) (hb : b < 2 ^ 64) : lN a ||| lN b = lN (a ||| b) := by
  apply wb_inj
  rw [Int64.toBitVec_or, wb_tb, wb_tb, wb_tb]
  apply BitVec.eq_of_toNat_eq
  rw [BitVec.toNat_or, BitVec.toNat_ofNat, BitVec.toNat_ofNat, BitVec.toNat_ofNat, Nat.mod_eq_of_lt ha, Nat.mod_eq_of_lt hb, Nat.mod_eq_of_lt (Nat.or_lt_two_pow ha hb)]
theorem wb_mask {n k : Nat} (hn : n < 2 ^ 64) (hk : k < 64) : lN n &&& lN (2 ^ k - 1) = lN (n % 2 ^ k) := by
  rw [wb_and hn (by have := wb_lt2 hk; omega), Nat.and_two_pow_sub_one_eq_mod]
theorem wb_a1 {n : Nat} (hn : n < 2 ^ 64) : lN n &&& 1 = lN (n % 2) := wb_mask (k := 1) hn (by decide)
theorem wb_bit {n k : Nat} (hn : n < 2 ^ 64) (hk : k < 64) : ((lN n).toUInt64 >>> ((nI k).toInt64.toUInt64 &&& Int64.toUInt64 63)).toInt64 &&& 1 = lN (n / 2 ^ k % 2) := by
  rw [wb_shr hn hk, wb_a1 (Nat.lt_of_le_of_lt (Nat.div_le_self _ _) hn)]
theorem wb_xor {q k : Nat} (hk : k < 63) (h : 2 ^ k ≤ q) (h2 : q < 2 ^ (k + 1)) : lN q ^^^ lN (2 ^ k) = lN (q - 2 ^ k) := by
  obtain ⟨r, rfl⟩ : ∃ r, q = 2 ^ k + r := ⟨q - 2 ^ k, by omega⟩
  have hr : r < 2 ^ k := by rw [Nat.pow_succ] at h2; omega
  have hx : (2 ^ k + r) ^^^ 2 ^ k = r := by
    apply Nat.eq_of_testBit_eq
    intro i
    rw [Nat.testBit_xor, Nat.testBit_two_pow]
    rcases Nat.lt_trichotomy i k with h | h | h
    · rw [Nat.testBit_two_pow_add_gt h]
      simp [show ¬ k = i by omega]
    · subst h
      rw [Nat.testBit_two_pow_add_eq]
      simp
    · have a1 : 2 ^ (k + 1) ≤ 2 ^ i := Nat.pow_le_pow_right (by decide) h
      rw [Nat.testBit_lt_two_pow (show 2 ^ k + r < 2 ^ i by omega), Nat.testBit_lt_two_pow (show r < 2 ^ i by omega)]
      simp [show ¬ k = i by omega]
  have b1 := wb_lt2 (show k + 1 < 64 by omega)
  have b2 := wb_lt2 (show k < 64 by omega)
  apply wb_inj
  rw [Int64.toBitVec_xor, wb_tb, wb_tb, wb_tb]
  apply BitVec.eq_of_toNat_eq
  rw [BitVec.toNat_xor, BitVec.toNat_ofNat, BitVec.toNat_ofNat, BitVec.toNat_ofNat, Nat.mod_eq_of_lt (by omega : 2 ^ k + r < 2 ^ 64), Nat.mod_eq_of_lt b2, hx, Nat.add_sub_cancel_left, Nat.mod_eq_of_lt (by omega)]
theorem u_tn {n : Nat} (h : n < 2 ^ 64) : (UInt64.ofNat n).toNat = n := Nat.mod_eq_of_lt h
theorem g_and {a b c : Nat} (ha : a < 2 ^ 64) (hb : b < 2 ^ 64) (hc : a &&& b = c) : lN a &&& lN b = lN c := by
  subst hc
  have h : UInt64.ofNat a &&& UInt64.ofNat b = UInt64.ofNat (a &&& b) := UInt64.toNat_inj.mp (by rw [UInt64.toNat_and, u_tn ha, u_tn hb, u_tn (Nat.and_lt_two_pow a hb)])
  have h2 := congrArg UInt64.toInt64 h
  exact h2
theorem g_and1 {a : Nat} (ha : a < 2 ^ 64) : lN a &&& 1 = lN (a % 2) := g_and (b := 1) ha (by decide) (Nat.and_two_pow_sub_one_eq_mod a 1)
theorem g_mask {a s p : Nat} (hp : 2 ^ s = p) (hs : s < 64) (ha : a < 2 ^ 64) : lN a &&& lN (p - 1) = lN (a % p) := by
  subst hp
  have := Nat.pow_lt_pow_right (show 1 < 2 by decide) hs
  exact g_and ha (by omega) (Nat.and_two_pow_sub_one_eq_mod a s)
theorem g_or {k p a b : Nat} (hp : 2 ^ k = p) (ha : a < p) (h : b * p + a < 2 ^ 64) : lN (b * p) ||| lN a = lN (b * p + a) := by
  subst hp
  have h1 : b * 2 ^ k ||| a = b * 2 ^ k + a := by rw [← Nat.shiftLeft_eq, Nat.shiftLeft_add_eq_or_of_lt ha]
  have h3 : UInt64.ofNat (b * 2 ^ k) ||| UInt64.ofNat a = UInt64.ofNat (b * 2 ^ k + a) := UInt64.toNat_inj.mp (by rw [UInt64.toNat_or, u_tn (by omega), u_tn (by omega), u_tn h, h1])
  have h2 := congrArg UInt64.toInt64 h3
  exact h2
theorem g_or' {k p a b : Nat} (hp : 2 ^ k = p) (ha : a < p) (h : a + b * p < 2 ^ 64) : lN a ||| lN (b * p) = lN (a + b * p) := by
  rw [Int64.or_comm, g_or hp ha (by omega), Nat.add_comm]
theorem g_ushr {a k p : Nat} {y : UInt64} (hy : y = UInt64.ofNat k) (hk : k < 64) (hp : 2 ^ k = p) (ha : a < 2 ^ 64) : ((lN a).toUInt64 >>> y).toInt64 = lN (a / p) := by
  subst hy hp
  have h : UInt64.ofNat a >>> UInt64.ofNat k = UInt64.ofNat (a / 2 ^ k) := UInt64.toNat_inj.mp (by rw [UInt64.toNat_shiftRight, u_tn ha, u_tn (by omega), u_tn (Nat.lt_of_le_of_lt (Nat.div_le_self _ _) ha), Nat.mod_eq_of_lt hk, Nat.shiftRight_eq_div_pow])
  have h2 := congrArg UInt64.toInt64 h
  exact h2
theorem g_shl {a k p : Nat} {y : Int64} (hy : y.toBitVec.smod 64 = BitVec.ofNat 64 k) (hk : k < 64) (hp : 2 ^ k = p) (ha : a < 2 ^ 64) : lN a <<< y = lN (a * p) := by
  subst hp
  apply Int64.toBitVec_inj.mp
  rw [Int64.toBitVec_shiftLeft, hy]
  apply BitVec.eq_of_toNat_eq
  have hb : (lN a).toBitVec.toNat = a := Nat.mod_eq_of_lt ha
  have hk' : (BitVec.ofNat 64 k).toNat = k := Nat.mod_eq_of_lt (by omega)
  have h : ((lN a).toBitVec <<< BitVec.ofNat 64 k).toNat = (a * 2 ^ k) % 2 ^ 64 := by simp only [BitVec.shiftLeft_eq', BitVec.toNat_shiftLeft, hb, hk', Nat.shiftLeft_eq]
  exact h
theorem pf_lI {a : Nat} (h : a < 2 ^ 63) : (lN a).toInt = (a : Int) := lg_ofNat_toInt h
theorem pf_shr {a d : Nat} {D : Int64} (hD : (D.toBitVec.smod 64).toNat = d) (h : a < 2 ^ 62) : lN a >>> D = lN (a / 2 ^ d) := by
  have hd : a / 2 ^ d ≤ a := Nat.div_le_self _ _
  apply Int64.toInt_inj.mp
  have e : (lN a >>> D).toInt = (lN a).toInt >>> d := by
    rw [← hD]
    exact BitVec.toInt_sshiftRight ..
  rw [e, Int.shiftRight_eq_div_pow, pf_lI (by omega), pf_lI (by omega)]
  rfl
theorem pf_ushr {a d : Nat} {D : UInt64} (hD : D.toNat % 64 = d) (h : a < 2 ^ 62) : ((lN a).toUInt64 >>> D).toInt64 = lN (a / 2 ^ d) := by
  have hd : a / 2 ^ d ≤ a := Nat.div_le_self _ _
  have e : (lN a).toUInt64 >>> D = UInt64.ofNat (a / 2 ^ d) := UInt64.toNat_inj.mp (by
    rw [UInt64.toNat_shiftRight, hD, Nat.shiftRight_eq_div_pow, UInt64.toNat_ofNat']
    show (UInt64.ofNat a).toNat / 2 ^ d = _
    rw [UInt64.toNat_ofNat', Nat.mod_eq_of_lt (by omega), Nat.mod_eq_of_lt (by omega)])
  rw [e]
  rfl
theorem pf_andw (x : Int64) : ∃ m, m < 2 ^ 32 ∧ x &&& 4294967295 = lN m := ⟨x.toBitVec.toNat % 2 ^ 32, Nat.mod_lt _ (by decide), Int64.toBitVec_inj.mp (BitVec.eq_of_toNat_eq (by
  show (x.toBitVec &&& 4294967295#64).toNat = (BitVec.ofNat 64 (x.toBitVec.toNat % 2 ^ 32)).toNat
  rw [BitVec.toNat_and, show (4294967295#64).toNat = 2 ^ 32 - 1 from by decide, Nat.and_two_pow_sub_one_eq_mod, BitVec.toNat_ofNat]
  omega))⟩
end
section
/-! values: a long below 2^35 as lN m -/
def hs_vv (v : Int64) : Prop := ∃ m : Nat, v = lN m ∧ (m = 4294967296 ∨ (8589934592 ≤ m ∧ m < 12884901888) ∨ (12884901888 ≤ m ∧ m < 12884901896))
def hs_v0 (v : Int64) : Prop := v = 0 ∨ hs_vv v
def hs_int (p : Int32) : Int64 := 8589934592 ||| (p.toInt64 &&& 4294967295)
theorem hs_mod32 (n : Nat) : nI n = nI (n % 4294967296) := by
  apply Int32.toBitVec_inj.mp
  apply BitVec.eq_of_toNat_eq
  show (BitVec.ofNat 32 _).toNat = (BitVec.ofNat 32 _).toNat
  rw [BitVec.toNat_ofNat, BitVec.toNat_ofNat]
  omega
theorem hs_tnI (n : Nat) : (nI n).toBitVec.toNat = n % 4294967296 := by
  show (BitVec.ofNat 32 _).toNat = _
  rw [BitVec.toNat_ofNat]
theorem hs_and32 (p : Int32) : p.toInt64 &&& 4294967295 = lN p.toBitVec.toNat := by
  obtain ⟨n, hn, e⟩ := wb_of p.toInt64
  have h1 : p = nI n := by
    have := lN_i n
    rw [← e] at this
    rw [← this]
    simp
  rw [e]
  have h2 := wb_mask (n := n) (k := 32) hn (by decide)
  have h3 : (lN (2 ^ 32 - 1)) = (4294967295 : Int64) := by decide
  rw [h3] at h2
  rw [h2, h1, hs_tnI]
  
theorem hs_intN (p : Int32) : hs_int p = lN (8589934592 + p.toBitVec.toNat) := by
  unfold hs_int
  rw [hs_and32]
  have := g_or (k := 32) (p := 4294967296) (a := p.toBitVec.toNat) (b := 2) (by decide) p.toBitVec.isLt (by have := p.toBitVec.isLt; omega)
  exact this
theorem hs_intV (p : Int32) : hs_vv (hs_int p) := ⟨_, hs_intN p, Or.inr (Or.inl ⟨by omega, by have := p.toBitVec.isLt; omega⟩)⟩
theorem hs_ofBV (p : Int32) : nI p.toBitVec.toNat = p := by
  apply Int32.toBitVec_inj.mp
  apply BitVec.eq_of_toNat_eq
  rw [hs_tnI]
  have := p.toBitVec.isLt
  omega
theorem hs_intLow (p : Int32) : (hs_int p).toInt32 = p := by
  rw [hs_intN, lN_i, hs_mod32, show (8589934592 + p.toBitVec.toNat) % 4294967296 = p.toBitVec.toNat by have := p.toBitVec.isLt; omega, hs_ofBV]
theorem hs_intOf {m : Nat} (h1 : 8589934592 ≤ m) (h2 : m < 12884901888) : hs_int (nI m) = lN m := by
  rw [hs_intN, hs_tnI]
  exact congrArg lN (by omega)
theorem hs_objN {o : Nat} (h : o < 2 ^ 31) : (12884901888 : Int64) ||| (nI o).toInt64 = lN (12884901888 + o) := by
  rw [nI_l h]
  have := g_or (k := 32) (p := 4294967296) (a := o) (b := 3) (by decide) (by omega) (by omega)
  exact this
theorem hs_metN {o : Nat} (h : o < 2 ^ 31) : (17179869184 : Int64) ||| (nI o).toInt64 = lN (17179869184 + o) := by
  rw [nI_l h]
  have := g_or (k := 32) (p := 4294967296) (a := o) (b := 4) (by decide) (by omega) (by omega)
  exact this
theorem hs_yk {m : Nat} (hm : m < 2 ^ 62) : lN m >>> ((32 : Int32).toInt64 &&& 63) = lN (m / 4294967296) := by
  have := pf_shr (a := m) (d := 32) (D := (32 : Int32).toInt64 &&& 63) (by decide) hm
  exact this
theorem hs_xk {m : Nat} (hm : m < 2 ^ 62) : ((lN m).toUInt64 >>> ((32 : Int32).toInt64.toUInt64 &&& Int64.toUInt64 63)).toInt64 = lN (m / 4294967296) := by
  have := pf_ushr (a := m) (d := 32) (D := (32 : Int32).toInt64.toUInt64 &&& Int64.toUInt64 63) (by decide) hm
  exact this
theorem hs_ykq {m : Nat} (hm : m < 2 ^ 62) (K : Nat) (hK : K < 2 ^ 31) : lN m >>> ((32 : Int32).toInt64 &&& 63) = lN K ↔ m / 4294967296 = K := by
  rw [hs_yk hm, pk_lEQ (by omega) (by omega)]
theorem hs_hk {post : Int32 → Prop} {m : Nat} (hm : m < 2 ^ 62) {k : Nat} (hk : k < 2 ^ 29) (h1 : m / 4294967296 = k → post 1) (h0 : m / 4294967296 ≠ k → post 0) : wpX_hasKind post (lN m) (lN (k * 4294967296)) := by
  unfold wpX_hasKind
  rw [hs_xk hm, hs_xk (by omega), pk_lEQ (by omega) (by omega), Nat.mul_div_cancel _ (by decide)]
  exact ⟨h1, h0⟩
theorem hs_hk2 {post : Int32 → Prop} {m : Nat} (hm : m < 2 ^ 62) (h1 : m / 4294967296 = 2 → post 1) (h0 : m / 4294967296 ≠ 2 → post 0) : wpX_hasKind post (lN m) 8589934592 := hs_hk (k := 2) hm (by decide) h1 h0
theorem hs_hk3 {post : Int32 → Prop} {m : Nat} (hm : m < 2 ^ 62) (h1 : m / 4294967296 = 3 → post 1) (h0 : m / 4294967296 ≠ 3 → post 0) : wpX_hasKind post (lN m) 12884901888 := hs_hk (k := 3) hm (by decide) h1 h0
theorem hs_hk4 {post : Int32 → Prop} {m : Nat} (hm : m < 2 ^ 62) (h1 : m / 4294967296 = 4 → post 1) (h0 : m / 4294967296 ≠ 4 → post 0) : wpX_hasKind post (lN m) 17179869184 := hs_hk (k := 4) hm (by decide) h1 h0
theorem hs_yk2 {m : Nat} (hm : m < 2 ^ 62) : lN m >>> ((32 : Int32).toInt64 &&& 63) = 2 ↔ m / 4294967296 = 2 := hs_ykq hm 2 (by decide)
theorem hs_yk3 {m : Nat} (hm : m < 2 ^ 62) : lN m >>> ((32 : Int32).toInt64 &&& 63) = 3 ↔ m / 4294967296 = 3 := hs_ykq hm 3 (by decide)
theorem hs_yk4 {m : Nat} (hm : m < 2 ^ 62) : lN m >>> ((32 : Int32).toInt64 &&& 63) = 4 ↔ m / 4294967296 = 4 := hs_ykq hm 4 (by decide)
theorem hs_v0N {v : Int64} (h : hs_v0 v) : ∃ m : Nat, v = lN m ∧ (m = 0 ∨ m = 4294967296 ∨ (8589934592 ≤ m ∧ m < 12884901888) ∨ (12884901888 ≤ m ∧ m < 12884901896)) := by
  rcases h with h | ⟨m, e, h⟩
  · exact ⟨0, h, Or.inl rfl⟩
  · exact ⟨m, e, Or.inr h⟩
theorem hs_v0sm {v : Int64} (h : hs_v0 v) : ∃ m : Nat, m < 2 ^ 62 ∧ v = lN m ∧ (m / 4294967296 = 3 → m - 12884901888 < 8 ∧ nI m = nI (m - 12884901888)) := by
  obtain ⟨m, e, h⟩ := hs_v0N h
  refine ⟨m, by omega, e, fun h3 => ⟨by omega, ?_⟩⟩
  rw [hs_mod32]
  exact congrArg nI (by omega)
theorem hs_objV {o : Nat} (h : o < 8) : hs_vv (lN (12884901888 + o)) := ⟨_, rfl, Or.inr (Or.inr ⟨by omega, by omega⟩)⟩
theorem hs_objLow {o : Nat} (h : o < 8) : (lN (12884901888 + o)).toInt32 = nI o := by
  rw [lN_i, hs_mod32]
  exact congrArg nI (by omega)
theorem hs_noneV : hs_vv 4294967296 := ⟨4294967296, rfl, Or.inl rfl⟩
theorem hs_vvne {v : Int64} (h : hs_vv v) : v ≠ 0 := by
  obtain ⟨m, rfl, h⟩ := h
  intro e
  have := (pk_lEQ (a := m) (b := 0) (by omega) (by decide)).mp e
  omega
end
section
/-! Y's text: lines, indents, blocks -/
section
variable {x_objectLimit x_stepLimit x_depthLimit x_pendingCount x_keptTokens x_keptLines x_lineCount x_codeCount x_cursor x_stop x_waitingCount x_openCount x_classCount x_callCount x_operandCount x_stepsTaken x_error x_raisedCode x_printCount x_lastPlace : Int32} {x_lastResult : Int64} {x_pending x_lineTable x_orders x_merging x_letterClass x_objectClass x_calls x_lastPrints : Nat → Int32} {x_code x_waiting x_globals x_entries x_attributes x_held x_operands : Nat → Int64}
variable {y_maxObjects y_maxSteps y_maxDepth y_kept y_end y_tokens y_pending y_lines y_classes y_prints y_place y_steps y_d y_valTop y_opTop y_opens y_pos y_tk y_tv y_stmt y_target y_err y_code y_outcome y_dry y_want y_starting y_ended y_bad y_hosted y_sawSuper : Int32} {y_result : Int64} {y_text y_numbers y_classOf y_alive y_orders y_lengths y_letters y_bases y_ops y_fLine y_fPos y_fStmt y_fTarget y_fMask y_fHome y_fOps y_fVals y_fNew y_out : Nat → Int32} {y_globals y_entries y_attrs y_vals y_locals y_fRecv : Nat → Int64}
def hs_g (tx : Nat → Int32) (p : Nat) : Nat := (tx p).toNatClampNeg
def hs_en (t : Nat) : Prop := t = 0 ∨ (40 ≤ t ∧ t ≤ 48)
def hs_okc (x : Int32) : Prop := x = -1 ∨ ∃ t : Nat, 0 < t ∧ t < 2 ^ 31 ∧ x = nI t
theorem hs_m1c : (-1 : Int32).toNatClampNeg = 0 := by decide
theorem hs_okcE {x : Int32} (h : hs_okc x) : (x.toNatClampNeg = 0 ∧ x = -1) ∨ (0 < x.toNatClampNeg ∧ x.toNatClampNeg < 2 ^ 31 ∧ x = nI x.toNatClampNeg) := by
  rcases h with rfl | ⟨t, h0, h1, rfl⟩
  · exact Or.inl ⟨hs_m1c, rfl⟩
  · rw [nI_clamp h1]
    exact Or.inr ⟨h0, h1, rfl⟩
theorem hs_yends {post : Int32 → Prop} {x : Int32} (hx : hs_okc x) (h1 : hs_en x.toNatClampNeg → post 1) (h0 : ¬ hs_en x.toNatClampNeg → post 0) : wpY_ends post (y_maxObjects, y_maxSteps, y_maxDepth, y_kept, y_end, y_tokens, y_pending, y_lines, y_classes, y_prints, y_place, y_steps, y_d, y_valTop, y_opTop, y_opens, y_pos, y_tk, y_tv, y_stmt, y_target, y_err, y_code, y_outcome, y_result, y_dry, y_want, y_starting, y_ended, y_bad, y_hosted, y_sawSuper, y_text, y_numbers, y_globals, y_entries, y_attrs, y_classOf, y_alive, y_orders, y_lengths, y_letters, y_bases, y_vals, y_ops, y_locals, y_fRecv, y_fLine, y_fPos, y_fStmt, y_fTarget, y_fMask, y_fHome, y_fOps, y_fVals, y_fNew, y_out) x := by
  rcases hs_okcE hx with ⟨e0, rfl⟩ | ⟨p0, pl, e⟩
  · exact br_t (by decide) (h1 (by rw [hs_m1c]; exact Or.inl rfl))
  · generalize x.toNatClampNeg = t at *
    subst e
    refine br_f (nI_pos pl) ?_
    refine pk_lt t 40 (fun h => h0 ?_) (fun h => pk_lt 48 t (fun h' => h0 ?_) (fun h' => h1 ?_))
    · rintro (z | z) <;> omega
    · rintro (z | z) <;> omega
    · exact Or.inr ⟨h, h'⟩
def hs_nx (tx : Nat → Int32) (q : Nat) : Int32 := if hs_g tx q = 0 then -1 else nI (q + 1)
def hs_ok (tx : Nat → Int32) (cs ce : Nat) : Prop := ce < 1024 ∧ hs_g tx ce = 0 ∧ ∀ p, cs ≤ p → p ≤ ce → hs_okc (tx p)
def hs_nl (tx : Nat → Int32) (ce p q : Nat) : Prop := p ≤ q ∧ q ≤ ce ∧ hs_en (hs_g tx q) ∧ ∀ j, p ≤ j → j < q → ¬ hs_en (hs_g tx j)
theorem hs_nlEx {tx : Nat → Int32} {cs ce : Nat} (H : hs_ok tx cs ce) {p : Nat} (h2 : p ≤ ce) : ∃ q, hs_nl tx ce p q := by
  obtain ⟨hc, h0, hok⟩ := H
  obtain ⟨k, ⟨k1, k2⟩, k3⟩ := pk_least (fun q => p ≤ q ∧ hs_en (hs_g tx q)) ⟨ce, h2, Or.inl h0⟩
  refine ⟨k, k1, ?_, k2, fun j j1 j2 z => k3 j j2 ⟨j1, z⟩⟩
  rcases Nat.lt_or_ge ce k with z | z
  · exact absurd ⟨h2, Or.inl h0⟩ (k3 ce z)
  · exact z
theorem hs_yNL0 {tx : Nat → Int32} {cs ce q : Nat} (H : hs_ok tx cs ce) (hq : q ≤ ce) (he : hs_en (hs_g tx q)) {post : Int32 → Prop} (hpost : post (hs_nx tx q)) : ∀ k p, p + k = q → cs ≤ p → (∀ j, p ≤ j → j < q → ¬ hs_en (hs_g tx j)) → wY_nextLine_2 post y_maxObjects y_maxSteps y_maxDepth y_kept y_end y_tokens y_pending y_lines y_classes y_prints y_place y_steps y_d y_valTop y_opTop y_opens y_pos y_tk y_tv y_stmt y_target y_err y_code y_outcome y_result y_dry y_want y_starting y_ended y_bad y_hosted y_sawSuper tx y_numbers y_globals y_entries y_attrs y_classOf y_alive y_orders y_lengths y_letters y_bases y_vals y_ops y_locals y_fRecv y_fLine y_fPos y_fStmt y_fTarget y_fMask y_fHome y_fOps y_fVals y_fNew y_out (k + 1) (nI p) := by
  obtain ⟨hc, h0, hok⟩ := H
  intro k
  induction k with
  | zero =>
    intro p hp hcs _
    have e : p = q := by omega
    subst e
    refine And.intro (vp_in_nI (by omega) (by decide)) ?_
    rw [nI_clamp (show p < 2 ^ 31 by omega)]
    refine hs_yends (hok p hcs hq) (fun _ => br_f (by decide) (And.intro (vp_in_nI (by omega) (by decide)) ?_)) (fun z => absurd he z)
    rcases hs_okcE (hok p hcs (by omega)) with ⟨z, e⟩ | ⟨z, zl, e⟩
    · have h2 : hs_nx tx p = -1 := if_pos z
      rw [h2] at hpost
      rw [e]
      exact br_f (by decide) hpost
    · have h2 : hs_nx tx p = nI (p + 1) := if_neg (by unfold hs_g; omega)
      rw [h2] at hpost
      rw [e]
      refine br_t (nI_pos' zl) ?_
      rw [nI_1]
      exact hpost
  | succ k ih =>
    intro p hp hcs hj
    refine And.intro (vp_in_nI (by omega) (by decide)) ?_
    rw [nI_clamp (show p < 2 ^ 31 by omega)]
    exact hs_yends (hok p hcs (by omega)) (fun z => absurd z (hj p (Nat.le_refl _) (by omega))) (fun _ => br_t rfl (nm_r (nI_1 p) (ih (p + 1) (by omega) (by omega) (fun j j1 j2 => hj j (by omega) j2))))
theorem hs_yNL {tx : Nat → Int32} {cs ce p q : Nat} (H : hs_ok tx cs ce) (h1 : cs ≤ p) (hq : hs_nl tx ce p q) {post : Int32 → Prop} (hpost : post (hs_nx tx q)) : wpY_nextLine post (y_maxObjects, y_maxSteps, y_maxDepth, y_kept, y_end, y_tokens, y_pending, y_lines, y_classes, y_prints, y_place, y_steps, y_d, y_valTop, y_opTop, y_opens, y_pos, y_tk, y_tv, y_stmt, y_target, y_err, y_code, y_outcome, y_result, y_dry, y_want, y_starting, y_ended, y_bad, y_hosted, y_sawSuper, tx, y_numbers, y_globals, y_entries, y_attrs, y_classOf, y_alive, y_orders, y_lengths, y_letters, y_bases, y_vals, y_ops, y_locals, y_fRecv, y_fLine, y_fPos, y_fStmt, y_fTarget, y_fMask, y_fHome, y_fOps, y_fVals, y_fNew, y_out) (nI p) := by
  obtain ⟨a, b, c, d⟩ := hq
  exact ⟨_, hs_yNL0 H b c hpost (q - p) p (by omega) h1 d⟩
/-- a chunk of the text: [cs, ce) with its end at ce; lines a .. b - 1 at P -/
def hs_ind (tx : Nat → Int32) (cs p : Nat) : Nat := if p = cs then 0 else hs_g tx (p - 1) - 40
def hs_ls (tx : Nat → Int32) (cs p : Nat) : Prop := p = cs ∨ hs_en (hs_g tx (p - 1))
def hs_Ch (tx : Nat → Int32) (cs ce a b : Nat) (P ind : Nat → Nat) : Prop :=
  hs_ok tx cs ce ∧ (∀ p, cs ≤ p → p < ce → hs_g tx p ≠ 0) ∧ (cs = 0 ∨ tx (cs - 1) = -1) ∧
  (∀ i, a ≤ i → i < b → cs ≤ P i ∧ P i < ce ∧ ¬ hs_en (hs_g tx (P i)) ∧ hs_ls tx cs (P i) ∧ ind i = hs_ind tx cs (P i)) ∧
  (∀ i j, a ≤ i → i < j → j < b → P i < P j) ∧
  (∀ p, cs ≤ p → p < ce → ¬ hs_en (hs_g tx p) → hs_ls tx cs p → ∃ i, a ≤ i ∧ i < b ∧ P i = p)
theorem hs_adv {tx : Nat → Int32} {cs ce a b q q2 : Nat} {P ind : Nat → Nat} (C : hs_Ch tx cs ce a b P ind) (h1 : cs ≤ q) (hq : hs_nl tx ce q q2) :
    (hs_g tx q2 = 0 ∧ q2 = ce ∧ ∀ j, a ≤ j → j < b → P j ≤ q) ∨ (hs_g tx q2 ≠ 0 ∧ q2 < ce ∧ q ≤ q2 ∧ hs_ls tx cs (q2 + 1) ∧ ∀ j, a ≤ j → j < b → P j ≤ q ∨ q2 + 1 ≤ P j) := by
  obtain ⟨⟨hc, h0, hok⟩, hnz, hcs, hP, hm, hall⟩ := C
  obtain ⟨q1, q3, q4, q5⟩ := hq
  have key : ∀ j, a ≤ j → j < b → P j ≤ q ∨ q2 + 1 ≤ P j := by
    intro j ja jb
    obtain ⟨p1, p2, p3, p4, p5⟩ := hP j ja jb
    rcases Nat.lt_or_ge q (P j) with z | z
    · right
      rcases p4 with p4 | p4
      · omega
      · rcases Nat.lt_or_ge (P j - 1) q2 with y | y
        · exact absurd p4 (q5 (P j - 1) (by omega) y)
        · omega
    · exact Or.inl z
  by_cases hz : hs_g tx q2 = 0
  · left
    have e : q2 = ce := by
      rcases Nat.lt_or_ge q2 ce with z | z
      · exact absurd hz (hnz q2 (by omega) z)
      · omega
    refine ⟨hz, e, fun j ja jb => ?_⟩
    rcases key j ja jb with z | z
    · exact z
    · have := (hP j ja jb).2.1
      omega
  · right
    refine ⟨hz, ?_, q1, Or.inr ?_, key⟩
    · rcases Nat.lt_or_ge q2 ce with z | z
      · exact z
      · have e : q2 = ce := by omega
        subst e
        exact absurd h0 hz
    · rw [Nat.add_sub_cancel]
      exact q4
theorem hs_indLe {tx : Nat → Int32} {cs ce a b j : Nat} {P ind : Nat → Nat} (C : hs_Ch tx cs ce a b P ind) (ja : a ≤ j) (jb : j < b) : ind j ≤ 8 := by
  obtain ⟨⟨hc, h0, hok⟩, hnz, hcs, hP, hm, hall⟩ := C
  obtain ⟨p1, p2, p3, p4, p5⟩ := hP j ja jb
  rw [p5]
  unfold hs_ind
  split
  · omega
  · rename_i z
    have h1 := p4.resolve_left z
    have h2 := h1.resolve_left (hnz (P j - 1) (by omega) (by omega))
    omega
theorem hs_yIndent {tx : Nat → Int32} {cs ce a b p : Nat} {P ind : Nat → Nat} (C : hs_Ch tx cs ce a b P ind) (h1 : cs ≤ p) (h2 : p ≤ ce) (hl : hs_ls tx cs p) {post : Int32 → Prop} (hpost : post (nI (hs_ind tx cs p))) : wpY_indent post (y_maxObjects, y_maxSteps, y_maxDepth, y_kept, y_end, y_tokens, y_pending, y_lines, y_classes, y_prints, y_place, y_steps, y_d, y_valTop, y_opTop, y_opens, y_pos, y_tk, y_tv, y_stmt, y_target, y_err, y_code, y_outcome, y_result, y_dry, y_want, y_starting, y_ended, y_bad, y_hosted, y_sawSuper, tx, y_numbers, y_globals, y_entries, y_attrs, y_classOf, y_alive, y_orders, y_lengths, y_letters, y_bases, y_vals, y_ops, y_locals, y_fRecv, y_fLine, y_fPos, y_fStmt, y_fTarget, y_fMask, y_fHome, y_fOps, y_fVals, y_fNew, y_out) (nI p) := by
  obtain ⟨⟨hc, h0, hok⟩, hnz, hcs, hP, hm, hall⟩ := C
  by_cases ep : p = 0
  · subst ep
    have e : hs_ind tx cs 0 = 0 := if_pos (by omega)
    rw [e] at hpost
    exact br_t (by decide) hpost
  · obtain ⟨r, rfl⟩ : ∃ r, p = r + 1 := ⟨p - 1, by omega⟩
    refine br_f (nI_nle (by omega) (by omega)) ?_
    rw [nI_pred, nI_clamp (show r < 2 ^ 31 by omega)]
    refine And.intro (vp_in_nI (by omega) (by decide)) ?_
    by_cases e : r + 1 = cs
    · have e2 : hs_ind tx cs (r + 1) = 0 := if_pos e
      rw [e2] at hpost
      have e3 : tx r = -1 := by
        rcases hcs with z | z
        · omega
        · rw [← e] at z; exact z
      rw [e3]
      exact br_t (by decide) hpost
    · have e2 : hs_ind tx cs (r + 1) = hs_g tx r - 40 := if_neg e
      have hen : hs_en (hs_g tx r) := hl.resolve_left e
      have hne := hnz r (by omega) (by omega)
      have hr : 40 ≤ hs_g tx r ∧ hs_g tx r ≤ 48 := hen.resolve_left hne
      rw [e2] at hpost
      rcases hs_okcE (hok r (by omega) (by omega)) with ⟨z, _⟩ | ⟨z, zl, e4⟩
      · exact absurd z hne
      · refine br_f ?_ (And.intro (vp_in_nI (by omega) (by decide)) (hs_yends (hok r (by omega) (by omega)) (fun _ => br_f (by decide) (And.intro (vp_in_nI (by omega) (by decide)) ?_)) (fun y => absurd hen y)))
        · rw [e4]; exact nI_nle z zl
        · rw [e4]
          have e5 : nI (tx r).toNatClampNeg - 40 = nI ((tx r).toNatClampNeg - 40) := pk_sub (b := 40) hr.1
          rw [e5]
          exact hpost
/-- the first line behind i that is no deeper (out), or the next one -/
def hs_Fo (ind : Nat → Nat) (b : Nat) (out : Int32) (i e : Nat) : Prop := i < e ∧ e ≤ b ∧ (∀ j, i < j → j < e → out ≠ 0 ∧ ind i < ind j) ∧ (e < b → out = 0 ∨ ind e ≤ ind i)
def hs_at (P : Nat → Nat) (b e : Nat) : Int32 := if e < b then nI (P e) else -1
theorem hs_yFo0 {tx : Nat → Int32} {cs ce a b i e : Nat} {P ind : Nat → Nat} {out : Int32} (C : hs_Ch tx cs ce a b P ind) (hi : a ≤ i) (hib : i < b) (E : hs_Fo ind b out i e) {post : Int32 → Prop} (hpost : post (hs_at P b e)) :
    ∀ n q, ce + 2 ≤ n + q → P i < q → q ≤ ce → hs_ls tx cs q → (∀ j, i < j → j < b → e ≤ j → q ≤ P j) → wY_follow_6 post (nI (P i)) out y_maxObjects y_maxSteps y_maxDepth y_kept y_end y_tokens y_pending y_lines y_classes y_prints y_place y_steps y_d y_valTop y_opTop y_opens y_pos y_tk y_tv y_stmt y_target y_err y_code y_outcome y_result y_dry y_want y_starting y_ended y_bad y_hosted y_sawSuper tx y_numbers y_globals y_entries y_attrs y_classOf y_alive y_orders y_lengths y_letters y_bases y_vals y_ops y_locals y_fRecv y_fLine y_fPos y_fStmt y_fTarget y_fMask y_fHome y_fOps y_fVals y_fNew y_out n (nI q) := by
  have C' := C
  obtain ⟨⟨hc, h0, hok⟩, hnz, hcs, hP, hm, hall⟩ := C
  obtain ⟨E1, E2, E3, E4⟩ := E
  obtain ⟨pi1, pi2, pi3, pi4, pi5⟩ := hP i hi hib
  intro n
  induction n with
  | zero => intro q h1 h2 h3; omega
  | succ n ih =>
    intro q h1 h2 h3 hl hlow
    have step : ∀ (hne : ∀ j, i < j → j < b → e ≤ j → q ≠ P j), wY_follow_40 post (wY_follow_6 post (nI (P i)) out y_maxObjects y_maxSteps y_maxDepth y_kept y_end y_tokens y_pending y_lines y_classes y_prints y_place y_steps y_d y_valTop y_opTop y_opens y_pos y_tk y_tv y_stmt y_target y_err y_code y_outcome y_result y_dry y_want y_starting y_ended y_bad y_hosted y_sawSuper tx y_numbers y_globals y_entries y_attrs y_classOf y_alive y_orders y_lengths y_letters y_bases y_vals y_ops y_locals y_fRecv y_fLine y_fPos y_fStmt y_fTarget y_fMask y_fHome y_fOps y_fVals y_fNew y_out n) (nI (P i)) out (nI q) y_maxObjects y_maxSteps y_maxDepth y_kept y_end y_tokens y_pending y_lines y_classes y_prints y_place y_steps y_d y_valTop y_opTop y_opens y_pos y_tk y_tv y_stmt y_target y_err y_code y_outcome y_result y_dry y_want y_starting y_ended y_bad y_hosted y_sawSuper tx y_numbers y_globals y_entries y_attrs y_classOf y_alive y_orders y_lengths y_letters y_bases y_vals y_ops y_locals y_fRecv y_fLine y_fPos y_fStmt y_fTarget y_fMask y_fHome y_fOps y_fVals y_fNew y_out := by
      intro hne
      obtain ⟨q2, hq2⟩ := hs_nlEx ⟨hc, h0, hok⟩ (p := q) h3
      refine hs_yNL ⟨hc, h0, hok⟩ (by omega) hq2 ?_
      rcases hs_adv C' (by omega) hq2 with ⟨g0, g1, g2⟩ | ⟨g0, g1, g1', g2, g3⟩
      · have en : hs_nx tx q2 = -1 := if_pos g0
        rw [en]
        have eb : ¬ e < b := fun z => by
          have z1 := hlow e E1 z (Nat.le_refl _)
          have z2 := g2 e (by omega) z
          have z3 := hne e E1 z (Nat.le_refl _)
          omega
        have ea : hs_at P b e = -1 := if_neg eb
        rw [ea] at hpost
        obtain ⟨m, rfl⟩ : ∃ m, n = m + 1 := ⟨n - 1, by omega⟩
        exact br_t (by decide) hpost
      · have en : hs_nx tx q2 = nI (q2 + 1) := if_neg g0
        rw [en]
        refine ih (q2 + 1) (by omega) (by omega) (by omega) g2 (fun j j1 j2 j3 => ?_)
        have z1 := hlow j j1 j2 j3
        have z3 := hne j j1 j2 j3
        rcases g3 j (by omega) j2 with z | z
        · omega
        · exact z
    refine br_f (nI_pos (by omega)) (And.intro (vp_in_nI (by omega) (by decide)) ?_)
    rw [nI_clamp (show q < 2 ^ 31 by omega)]
    refine hs_yends (hok q (by omega) h3) (fun he => br_f (by decide) (step fun j j1 j2 _ z => ?_)) (fun he => br_t rfl ?_)
    · have := (hP j (by omega) j2).2.2.1
      rw [← z] at this
      exact this he
    · have hqc : q < ce := by
        rcases Nat.lt_or_ge q ce with z | z
        · exact z
        · have z2 : q = ce := by omega
          subst z2
          exact absurd (Or.inl h0) he
      obtain ⟨j, ja, jb, rfl⟩ := hall q (by omega) hqc he hl
      have hij : i < j := by
        rcases Nat.lt_or_ge i j with z | z
        · exact z
        · rcases Nat.lt_or_ge j i with y | y
          · have := hm j i ja y hib; omega
          · have y2 : j = i := by omega
            subst y2; omega
      rcases Nat.lt_or_ge j e with z | z
      · obtain ⟨o1, o2⟩ := E3 j hij z
        refine br_f o1 (hs_yIndent C' (by omega) h3 hl (hs_yIndent C' pi1 (by omega) pi4 ?_))
        rw [← pi5, ← (hP j ja jb).2.2.2.2]
        refine br_f (nI_ge o2 ?_) (step fun j' j1 j2 j3 y => ?_)
        · have := hs_indLe C' ja jb; omega
        · have := hm j j' ja (by omega) j2
          omega
      · have ej : j = e := by
          rcases Nat.lt_or_ge e j with y | y
          · have y1 := hlow e E1 (by omega) (Nat.le_refl _)
            have y2 := hm e j (by omega) y jb
            omega
          · omega
        subst ej
        have ea : hs_at P b j = nI (P j) := if_pos jb
        rw [ea] at hpost
        by_cases o : out = 0
        · exact br_t o hpost
        · have o2 := (E4 jb).resolve_left o
          refine br_f o (hs_yIndent C' (by omega) h3 hl (hs_yIndent C' pi1 (by omega) pi4 ?_))
          rw [← pi5, ← (hP j ja jb).2.2.2.2]
          exact br_t (nI_le o2 (by have := hs_indLe C' hi hib; omega)) hpost
theorem hs_yFollow {tx : Nat → Int32} {cs ce a b i e : Nat} {P ind : Nat → Nat} {out : Int32} (C : hs_Ch tx cs ce a b P ind) (hi : a ≤ i) (hib : i < b) (E : hs_Fo ind b out i e) {post : Int32 → Prop} (hpost : post (hs_at P b e)) : wpY_follow post (y_maxObjects, y_maxSteps, y_maxDepth, y_kept, y_end, y_tokens, y_pending, y_lines, y_classes, y_prints, y_place, y_steps, y_d, y_valTop, y_opTop, y_opens, y_pos, y_tk, y_tv, y_stmt, y_target, y_err, y_code, y_outcome, y_result, y_dry, y_want, y_starting, y_ended, y_bad, y_hosted, y_sawSuper, tx, y_numbers, y_globals, y_entries, y_attrs, y_classOf, y_alive, y_orders, y_lengths, y_letters, y_bases, y_vals, y_ops, y_locals, y_fRecv, y_fLine, y_fPos, y_fStmt, y_fTarget, y_fMask, y_fHome, y_fOps, y_fVals, y_fNew, y_out) (nI (P i)) out := by
  have C' := C
  obtain ⟨hok, hnz, hcs, hP, hm, hall⟩ := C
  obtain ⟨pi1, pi2, pi3, pi4, pi5⟩ := hP i hi hib
  obtain ⟨q2, hq2⟩ := hs_nlEx hok (p := P i) (by omega)
  refine hs_yNL hok pi1 hq2 ?_
  rcases hs_adv C' pi1 hq2 with ⟨g0, g1, g2⟩ | ⟨g0, g1, g1', g2, g3⟩
  · have en : hs_nx tx q2 = -1 := if_pos g0
    rw [en]
    have eb : ¬ e < b := fun z => by
      have z2 := g2 e (by have := E.1; omega) z
      have z3 := hm i e hi E.1 z
      omega
    have ea : hs_at P b e = -1 := if_neg eb
    rw [ea] at hpost
    exact ⟨1, br_t (by decide) hpost⟩
  · have en : hs_nx tx q2 = nI (q2 + 1) := if_neg g0
    rw [en]
    refine ⟨ce + 2, hs_yFo0 C' hi hib E hpost _ (q2 + 1) (by omega) (by omega) (by omega) g2 (fun j j1 j2 _ => ?_)⟩
    have := hm i j hi j1 j2
    rcases g3 j (by omega) j2 with z | z <;> omega
theorem hs_yCS0 {tx : Nat → Int32} {cs ce a b : Nat} {P ind : Nat → Nat} (C : hs_Ch tx cs ce a b P ind) {post : Int32 → Prop} (hpost : post (nI cs)) : ∀ k, cs + k ≤ ce → wY_chunkStart_2 post y_maxObjects y_maxSteps y_maxDepth y_kept y_end y_tokens y_pending y_lines y_classes y_prints y_place y_steps y_d y_valTop y_opTop y_opens y_pos y_tk y_tv y_stmt y_target y_err y_code y_outcome y_result y_dry y_want y_starting y_ended y_bad y_hosted y_sawSuper tx y_numbers y_globals y_entries y_attrs y_classOf y_alive y_orders y_lengths y_letters y_bases y_vals y_ops y_locals y_fRecv y_fLine y_fPos y_fStmt y_fTarget y_fMask y_fHome y_fOps y_fVals y_fNew y_out (k + 1) (nI (cs + k)) := by
  obtain ⟨⟨hc, h0, hok⟩, hnz, hcs, hP, hm, hall⟩ := C
  intro k
  induction k with
  | zero =>
    intro hk
    show wY_chunkStart_2 post y_maxObjects y_maxSteps y_maxDepth y_kept y_end y_tokens y_pending y_lines y_classes y_prints y_place y_steps y_d y_valTop y_opTop y_opens y_pos y_tk y_tv y_stmt y_target y_err y_code y_outcome y_result y_dry y_want y_starting y_ended y_bad y_hosted y_sawSuper tx y_numbers y_globals y_entries y_attrs y_classOf y_alive y_orders y_lengths y_letters y_bases y_vals y_ops y_locals y_fRecv y_fLine y_fPos y_fStmt y_fTarget y_fMask y_fHome y_fOps y_fVals y_fNew y_out (0 + 1) (nI cs)
    by_cases e : cs = 0
    · subst e; exact br_t (by decide) hpost
    · obtain ⟨r, rfl⟩ : ∃ r, cs = r + 1 := ⟨cs - 1, by omega⟩
      refine br_f (nI_nle (by omega) (by omega)) ?_
      rw [nI_pred, nI_clamp (show r < 2 ^ 31 by omega)]
      have e3 : tx r = -1 := hcs.resolve_left e
      rw [e3]
      exact And.intro (vp_in_nI (by omega) (by decide)) (br_t (by decide) hpost)
  | succ k ih =>
    intro hk
    have e : cs + (k + 1) = (cs + k) + 1 := by omega
    rw [e]
    refine br_f (nI_nle (by omega) (by omega)) ?_
    rw [nI_pred, nI_clamp (show cs + k < 2 ^ 31 by omega), pk_m1]
    refine And.intro (vp_in_nI (by omega) (by decide)) (br_f ?_ (nm_e (ih (by omega))))
    rcases hs_okcE (hok (cs + k) (by omega) (by omega)) with ⟨z, _⟩ | ⟨z, zl, e4⟩
    · exact absurd z (hnz (cs + k) (by omega) (by omega))
    · rw [e4]; exact nI_pos zl
theorem hs_yCS {tx : Nat → Int32} {cs ce a b p : Nat} {P ind : Nat → Nat} (C : hs_Ch tx cs ce a b P ind) (h1 : cs ≤ p) (h2 : p ≤ ce) {post : Int32 → Prop} (hpost : post (nI cs)) : wpY_chunkStart post (y_maxObjects, y_maxSteps, y_maxDepth, y_kept, y_end, y_tokens, y_pending, y_lines, y_classes, y_prints, y_place, y_steps, y_d, y_valTop, y_opTop, y_opens, y_pos, y_tk, y_tv, y_stmt, y_target, y_err, y_code, y_outcome, y_result, y_dry, y_want, y_starting, y_ended, y_bad, y_hosted, y_sawSuper, tx, y_numbers, y_globals, y_entries, y_attrs, y_classOf, y_alive, y_orders, y_lengths, y_letters, y_bases, y_vals, y_ops, y_locals, y_fRecv, y_fLine, y_fPos, y_fStmt, y_fTarget, y_fMask, y_fHome, y_fOps, y_fVals, y_fNew, y_out) (nI p) := by
  obtain ⟨k, rfl⟩ : ∃ k, p = cs + k := ⟨p - cs, by omega⟩
  exact ⟨_, hs_yCS0 C hpost k h2⟩
/-- the last line before i, from a on, that is less deep -/
def hs_Pa (ind : Nat → Nat) (a i : Nat) : Option Nat → Prop
  | none => ∀ j, a ≤ j → j < i → ind i ≤ ind j
  | some p => a ≤ p ∧ p < i ∧ ind p < ind i ∧ ∀ j, p < j → j < i → ind i ≤ ind j
theorem hs_PaU {ind : Nat → Nat} {a i : Nat} {o o' : Option Nat} (h : hs_Pa ind a i o) (h' : hs_Pa ind a i o') : o = o' := by
  cases o with
  | none =>
    cases o' with
    | none => rfl
    | some p => obtain ⟨a1, a2, a3, _⟩ := h'; have := h p a1 a2; omega
  | some p =>
    cases o' with
    | none => obtain ⟨a1, a2, a3, _⟩ := h; have := h' p a1 a2; omega
    | some p' =>
      obtain ⟨a1, a2, a3, a4⟩ := h
      obtain ⟨b1, b2, b3, b4⟩ := h'
      have e : p = p' := by
        rcases Nat.lt_trichotomy p p' with z | z | z
        · have := a4 p' z b2; omega
        · exact z
        · have := b4 p z a2; omega
      rw [e]
def hs_pI (P : Nat → Nat) : Option Nat → Int32
  | none => -1
  | some p => nI (P p)
/-- the same of the lines whose place is before q -/
def hs_PaQ (ind P : Nat → Nat) (a i q : Nat) : Option Nat → Prop
  | none => ∀ j, a ≤ j → j < i → P j < q → ind i ≤ ind j
  | some p => a ≤ p ∧ p < i ∧ P p < q ∧ ind p < ind i ∧ ∀ j, p < j → j < i → P j < q → ind i ≤ ind j
theorem hs_yOp0 {tx : Nat → Int32} {cs ce a b i : Nat} {P ind : Nat → Nat} (C : hs_Ch tx cs ce a b P ind) (hi : a ≤ i) (hib : i < b) {o : Option Nat} (O : hs_Pa ind a i o) {post : Int32 → Prop} (hpost : post (hs_pI P o)) :
    ∀ n q w, P i + 1 ≤ n + q → cs ≤ q → q ≤ P i → hs_ls tx cs q → hs_PaQ ind P a i q w → wY_opener_8 post (nI (P i)) y_maxObjects y_maxSteps y_maxDepth y_kept y_end y_tokens y_pending y_lines y_classes y_prints y_place y_steps y_d y_valTop y_opTop y_opens y_pos y_tk y_tv y_stmt y_target y_err y_code y_outcome y_result y_dry y_want y_starting y_ended y_bad y_hosted y_sawSuper tx y_numbers y_globals y_entries y_attrs y_classOf y_alive y_orders y_lengths y_letters y_bases y_vals y_ops y_locals y_fRecv y_fLine y_fPos y_fStmt y_fTarget y_fMask y_fHome y_fOps y_fVals y_fNew y_out n (hs_pI P w) (nI q) := by
  have C' := C
  obtain ⟨⟨hc, h0, hok⟩, hnz, hcs, hP, hm, hall⟩ := C
  obtain ⟨pi1, pi2, pi3, pi4, pi5⟩ := hP i hi hib
  intro n
  induction n with
  | zero => intro q w h1 h2 h3; omega
  | succ n ih =>
    intro q w h1 h2 h3 hl hw
    by_cases hq : q = P i
    · subst hq
      have e : w = o := hs_PaU (by
        cases w with
        | none => exact fun j j1 j2 => hw j j1 j2 (hm j i j1 j2 hib)
        | some p => exact ⟨hw.1, hw.2.1, hw.2.2.2.1, fun j j1 j2 => hw.2.2.2.2 j j1 j2 (hm j i (by have := hw.1; omega) j2 hib)⟩) O
      rw [e]
      exact br_t (nI_le (Nat.le_refl _) (by omega)) hpost
    · have step : ∀ w', (∀ q', q < q' → (∀ j, a ≤ j → j < b → P j ≤ q ∨ q' ≤ P j) → hs_PaQ ind P a i q' w') → wY_opener_41 post (wY_opener_8 post (nI (P i)) y_maxObjects y_maxSteps y_maxDepth y_kept y_end y_tokens y_pending y_lines y_classes y_prints y_place y_steps y_d y_valTop y_opTop y_opens y_pos y_tk y_tv y_stmt y_target y_err y_code y_outcome y_result y_dry y_want y_starting y_ended y_bad y_hosted y_sawSuper tx y_numbers y_globals y_entries y_attrs y_classOf y_alive y_orders y_lengths y_letters y_bases y_vals y_ops y_locals y_fRecv y_fLine y_fPos y_fStmt y_fTarget y_fMask y_fHome y_fOps y_fVals y_fNew y_out n) (nI (P i)) (hs_pI P w') (nI q) y_maxObjects y_maxSteps y_maxDepth y_kept y_end y_tokens y_pending y_lines y_classes y_prints y_place y_steps y_d y_valTop y_opTop y_opens y_pos y_tk y_tv y_stmt y_target y_err y_code y_outcome y_result y_dry y_want y_starting y_ended y_bad y_hosted y_sawSuper tx y_numbers y_globals y_entries y_attrs y_classOf y_alive y_orders y_lengths y_letters y_bases y_vals y_ops y_locals y_fRecv y_fLine y_fPos y_fStmt y_fTarget y_fMask y_fHome y_fOps y_fVals y_fNew y_out := by
        intro w' hw'
        obtain ⟨q2, hq2⟩ := hs_nlEx ⟨hc, h0, hok⟩ (p := q) (by omega)
        refine hs_yNL ⟨hc, h0, hok⟩ (by omega) hq2 ?_
        rcases hs_adv C' (by omega) hq2 with ⟨g0, g1, g2⟩ | ⟨g0, g1, g1', g2, g3⟩
        · have := g2 i hi hib; omega
        · have en : hs_nx tx q2 = nI (q2 + 1) := if_neg g0
          rw [en]
          refine ih (q2 + 1) w' (by omega) (by omega) ?_ g2 (hw' (q2 + 1) (by omega) g3)
          rcases g3 i hi hib with z | z <;> omega
      refine br_f (nI_ge (by omega) (by omega)) (And.intro (vp_in_nI (by omega) (by decide)) ?_)
      rw [nI_clamp (show q < 2 ^ 31 by omega)]
      refine hs_yends (hok q h2 (by omega)) (fun he => br_f (by decide) (step w fun q' q1 q3 => ?_)) (fun he => br_t rfl ?_)
      · have ne : ∀ j, a ≤ j → j < b → P j < q' → P j < q := by
          intro j ja jb jq
          have := (hP j ja jb).2.2.1
          rcases q3 j ja jb with z | z
          · rcases Nat.lt_or_ge (P j) q with y | y
            · exact y
            · have e : P j = q := by omega
              rw [e] at this; exact absurd he this
          · omega
        cases w with
        | none => exact fun j j1 j2 j3 => hw j j1 j2 (ne j j1 (by omega) j3)
        | some p =>
          obtain ⟨w1, w2, w3, w4, w5⟩ := hw
          exact ⟨w1, w2, by omega, w4, fun j j1 j2 j3 => w5 j j1 j2 (ne j (by omega) (by omega) j3)⟩
      · obtain ⟨j, ja, jb, rfl⟩ := hall q (by omega) (by omega) he hl
        have hji : j < i := by
          rcases Nat.lt_or_ge j i with z | z
          · exact z
          · rcases Nat.lt_or_ge i j with y | y
            · have := hm i j hi y jb; omega
            · have y2 : j = i := by omega
              subst y2; omega
        refine hs_yIndent C' (by omega) (by omega) hl (hs_yIndent C' pi1 (by omega) pi4 ?_)
        rw [← pi5, ← (hP j ja jb).2.2.2.2]
        have lj := hs_indLe C' ja jb
        have li := hs_indLe C' hi hib
        have only : ∀ q', (∀ j', a ≤ j' → j' < b → P j' ≤ P j ∨ q' ≤ P j') → ∀ j', a ≤ j' → j' < i → P j' < q' → P j' < P j ∨ j' = j := by
          intro q' q3 j' a1 a2 a3
          rcases Nat.lt_trichotomy j' j with z | z | z
          · exact Or.inl (hm j' j a1 z jb)
          · exact Or.inr z
          · have := hm j j' ja z (by omega)
            rcases q3 j' a1 (by omega) with y | y <;> omega
        by_cases hd : ind j < ind i
        · refine br_f (nI_ge hd (by omega)) (step (some j) fun q' q1 q3 => ⟨ja, hji, q1, hd, fun j' a1 a2 a3 => ?_⟩)
          rcases only q' q3 j' (by omega) a2 a3 with z | z
          · have := hm j j' ja a1 (by omega); omega
          · omega
        · refine br_t (nI_le (by omega) (by omega)) (step w fun q' q1 q3 => ?_)
          cases w with
          | none =>
            intro j' a1 a2 a3
            rcases only q' q3 j' a1 a2 a3 with z | z
            · exact hw j' a1 a2 z
            · subst z; omega
          | some p =>
            obtain ⟨w1, w2, w3, w4, w5⟩ := hw
            refine ⟨w1, w2, by omega, w4, fun j' a1 a2 a3 => ?_⟩
            rcases only q' q3 j' (by omega) a2 a3 with z | z
            · exact w5 j' a1 a2 z
            · subst z; omega
theorem hs_yOpener {tx : Nat → Int32} {cs ce a b i : Nat} {P ind : Nat → Nat} (C : hs_Ch tx cs ce a b P ind) (hi : a ≤ i) (hib : i < b) {o : Option Nat} (O : hs_Pa ind a i o) {post : Int32 → Prop} (hpost : post (hs_pI P o)) : wpY_opener post (y_maxObjects, y_maxSteps, y_maxDepth, y_kept, y_end, y_tokens, y_pending, y_lines, y_classes, y_prints, y_place, y_steps, y_d, y_valTop, y_opTop, y_opens, y_pos, y_tk, y_tv, y_stmt, y_target, y_err, y_code, y_outcome, y_result, y_dry, y_want, y_starting, y_ended, y_bad, y_hosted, y_sawSuper, tx, y_numbers, y_globals, y_entries, y_attrs, y_classOf, y_alive, y_orders, y_lengths, y_letters, y_bases, y_vals, y_ops, y_locals, y_fRecv, y_fLine, y_fPos, y_fStmt, y_fTarget, y_fMask, y_fHome, y_fOps, y_fVals, y_fNew, y_out) (nI (P i)) := by
  obtain ⟨pi1, pi2, pi3, pi4, pi5⟩ := C.2.2.2.1 i hi hib
  refine hs_yCS C pi1 (by omega) ⟨P i + 1, hs_yOp0 C hi hib O hpost _ cs none (by omega) (Nat.le_refl _) pi1 (Or.inl rfl) (fun j j1 j2 j3 => ?_)⟩
  have := (C.2.2.2.1 j j1 (by omega)).1
  omega
end
end
section
/-! the readers, over the parts of the relation that they touch -/
section
variable {x_objectLimit x_stepLimit x_depthLimit x_pendingCount x_keptTokens x_keptLines x_lineCount x_codeCount x_cursor x_stop x_waitingCount x_openCount x_classCount x_callCount x_operandCount x_stepsTaken x_error x_raisedCode x_printCount x_lastPlace : Int32} {x_lastResult : Int64} {x_pending x_lineTable x_orders x_merging x_letterClass x_objectClass x_calls x_lastPrints : Nat → Int32} {x_code x_waiting x_globals x_entries x_attributes x_held x_operands : Nat → Int64}
variable {y_maxObjects y_maxSteps y_maxDepth y_kept y_end y_tokens y_pending y_lines y_classes y_prints y_place y_steps y_d y_valTop y_opTop y_opens y_pos y_tk y_tv y_stmt y_target y_err y_code y_outcome y_dry y_want y_starting y_ended y_bad y_hosted y_sawSuper : Int32} {y_result : Int64} {y_text y_numbers y_classOf y_alive y_orders y_lengths y_letters y_bases y_ops y_fLine y_fPos y_fStmt y_fTarget y_fMask y_fHome y_fOps y_fVals y_fNew y_out : Nat → Int32} {y_globals y_entries y_attrs y_vals y_locals y_fRecv : Nat → Int64}
def hs_sh (oc : Nat → Int32) (v : Int64) : Int64 := if v >>> ((32 : Int32).toInt64 &&& 63) = 3 then 12884901888 ||| (oc v.toInt32.toNatClampNeg).toInt64 else if v >>> ((32 : Int32).toInt64 &&& 63) = 4 then 17179869184 else v
def hs_rv (v : Int64) : Prop := ∃ m : Nat, m < 2 ^ 62 ∧ v = lN m ∧ (m / 4294967296 = 3 → m - 12884901888 < 8 ∧ nI m = nI (m - 12884901888))
theorem hs_xShown {oc : Nat → Int32} {v : Int64} (hv : hs_rv v) {post : Int64 → Prop} (h : post (hs_sh oc v)) : wpX_shown post (x_objectLimit, x_stepLimit, x_depthLimit, x_pendingCount, x_keptTokens, x_keptLines, x_lineCount, x_codeCount, x_cursor, x_stop, x_waitingCount, x_openCount, x_classCount, x_callCount, x_operandCount, x_stepsTaken, x_error, x_raisedCode, x_printCount, x_lastResult, x_lastPlace, x_pending, x_lineTable, x_code, x_waiting, x_globals, x_entries, x_orders, x_merging, x_letterClass, oc, x_attributes, x_calls, x_held, x_operands, x_lastPrints) v := by
  obtain ⟨m, hm, rfl, h3⟩ := hv
  unfold hs_sh at h
  unfold wpX_shown
  refine hs_hk3 hm (fun k3 => br_f (by decide) ?_) (fun k3 => br_t rfl (hs_hk4 hm (fun k4 => br_f (by decide) ?_) (fun k4 => br_t rfl ?_)))
  · obtain ⟨a, e⟩ := h3 k3
    rw [if_pos ((hs_yk3 hm).mpr k3)] at h
    refine And.intro ?_ h
    rw [lN_i, e]
    exact vp_in_nI a (by decide)
  · rw [if_neg (fun y => k3 ((hs_yk3 hm).mp y)), if_pos ((hs_yk4 hm).mpr k4)] at h; exact h
  · rw [if_neg (fun y => k3 ((hs_yk3 hm).mp y)), if_neg (fun y => k4 ((hs_yk4 hm).mp y))] at h; exact h
theorem hs_yShown {oc : Nat → Int32} {v : Int64} (hv : hs_rv v) {post : Int64 → Prop} (h : post (hs_sh oc v)) : wpY_shown post (y_maxObjects, y_maxSteps, y_maxDepth, y_kept, y_end, y_tokens, y_pending, y_lines, y_classes, y_prints, y_place, y_steps, y_d, y_valTop, y_opTop, y_opens, y_pos, y_tk, y_tv, y_stmt, y_target, y_err, y_code, y_outcome, y_result, y_dry, y_want, y_starting, y_ended, y_bad, y_hosted, y_sawSuper, y_text, y_numbers, y_globals, y_entries, y_attrs, oc, y_alive, y_orders, y_lengths, y_letters, y_bases, y_vals, y_ops, y_locals, y_fRecv, y_fLine, y_fPos, y_fStmt, y_fTarget, y_fMask, y_fHome, y_fOps, y_fVals, y_fNew, y_out) v := by
  obtain ⟨m, hm, rfl, h3⟩ := hv
  unfold hs_sh at h
  by_cases k3 : lN m >>> ((32 : Int32).toInt64 &&& 63) = 3
  · rw [if_pos k3] at h
    refine br_t k3 (And.intro ?_ h)
    obtain ⟨a, e⟩ := h3 ((hs_yk3 hm).mp k3)
    rw [lN_i, e]
    exact vp_in_nI a (by decide)
  · rw [if_neg k3] at h
    by_cases k4 : lN m >>> ((32 : Int32).toInt64 &&& 63) = 4
    · rw [if_pos k4] at h; exact br_f k3 (br_t k4 h)
    · rw [if_neg k4] at h; exact br_f k3 (br_f k4 h)
theorem hs_xLet {post : Int32 → Prop} {n : Int32} (h1 : ∀ j : Nat, j < 26 → n = nI j → post 1) (h0 : (n < 0 ∨ 26 ≤ n) → post 0) : wpX_isLetter post n := by
  rcases pk_ix n (n := 26) (by decide) with h | h | ⟨j, hj, e⟩
  · exact br_t h (h0 (Or.inl h))
  · exact br_f (fun z => by subst_vars; exact absurd (Int32.lt_of_lt_of_le z (by decide : (0:Int32) ≤ nI 26)) (Int32.not_lt.mpr h)) (br_t h (h0 (Or.inr h)))
  · have := h1 j hj e
    subst e
    exact br_f (nI_pos (by omega)) (br_f (nI_ge (b := 26) hj (by decide)) this)
theorem hs_26 {n : Int32} (h : (26 : Int32) ≤ n) : ¬ n < 0 ∧ ¬ n ≤ 25 ∧ 25 < n := by
  have h1 : (26 : Int32).toInt = 26 := by decide
  have h2 : (25 : Int32).toInt = 25 := by decide
  have h3 : (0 : Int32).toInt = 0 := by decide
  simp only [Int32.le_iff_toInt_le, Int32.lt_iff_toInt_lt, h1, h2, h3] at *
  omega
theorem hs_rVariable {gl : Nat → Int64} {oc : Nat → Int32} (hg : ∀ j, j < 26 → hs_rv (gl j)) {Q : Prop} (hQ : Q) (v1 : Int32) : wpX_variable (fun r => wpY_variable (fun r' => r' = r ∧ Q) (y_maxObjects, y_maxSteps, y_maxDepth, y_kept, y_end, y_tokens, y_pending, y_lines, y_classes, y_prints, y_place, y_steps, y_d, y_valTop, y_opTop, y_opens, y_pos, y_tk, y_tv, y_stmt, y_target, y_err, y_code, y_outcome, y_result, y_dry, y_want, y_starting, y_ended, y_bad, y_hosted, y_sawSuper, y_text, y_numbers, gl, y_entries, y_attrs, oc, y_alive, y_orders, y_lengths, y_letters, y_bases, y_vals, y_ops, y_locals, y_fRecv, y_fLine, y_fPos, y_fStmt, y_fTarget, y_fMask, y_fHome, y_fOps, y_fVals, y_fNew, y_out) v1) (x_objectLimit, x_stepLimit, x_depthLimit, x_pendingCount, x_keptTokens, x_keptLines, x_lineCount, x_codeCount, x_cursor, x_stop, x_waitingCount, x_openCount, x_classCount, x_callCount, x_operandCount, x_stepsTaken, x_error, x_raisedCode, x_printCount, x_lastResult, x_lastPlace, x_pending, x_lineTable, x_code, x_waiting, gl, x_entries, x_orders, x_merging, x_letterClass, oc, x_attributes, x_calls, x_held, x_operands, x_lastPrints) v1 := by
  unfold wpX_variable
  refine hs_xLet (fun j hj e => br_f (by decide) ?_) (fun h => br_t rfl ?_)
  · subst e
    refine And.intro (vp_in_nI hj (by decide)) ?_
    rw [nI_clamp (show j < 2 ^ 31 by omega)]
    refine hs_xShown (hg j hj) ?_
    refine br_f (nI_pos (by omega)) (br_t (nI_le (b := 25) (by omega) (by decide)) (And.intro (vp_in_nI hj (by decide)) ?_))
    rw [nI_clamp (show j < 2 ^ 31 by omega)]
    exact hs_yShown (hg j hj) ⟨rfl, hQ⟩
  · rcases h with h | h
    · exact br_t h ⟨rfl, hQ⟩
    · obtain ⟨a, b, c⟩ := hs_26 h
      exact br_f a (br_f b ⟨rfl, hQ⟩)
theorem hs_rNamed {le : Nat → Int32} {Q : Prop} (hQ : Q) (v1 : Int32) : wpX_named (fun r => wpY_named (fun r' => r' = r ∧ Q) (y_maxObjects, y_maxSteps, y_maxDepth, y_kept, y_end, y_tokens, y_pending, y_lines, y_classes, y_prints, y_place, y_steps, y_d, y_valTop, y_opTop, y_opens, y_pos, y_tk, y_tv, y_stmt, y_target, y_err, y_code, y_outcome, y_result, y_dry, y_want, y_starting, y_ended, y_bad, y_hosted, y_sawSuper, y_text, y_numbers, y_globals, y_entries, y_attrs, y_classOf, y_alive, y_orders, y_lengths, le, y_bases, y_vals, y_ops, y_locals, y_fRecv, y_fLine, y_fPos, y_fStmt, y_fTarget, y_fMask, y_fHome, y_fOps, y_fVals, y_fNew, y_out) v1) (x_objectLimit, x_stepLimit, x_depthLimit, x_pendingCount, x_keptTokens, x_keptLines, x_lineCount, x_codeCount, x_cursor, x_stop, x_waitingCount, x_openCount, x_classCount, x_callCount, x_operandCount, x_stepsTaken, x_error, x_raisedCode, x_printCount, x_lastResult, x_lastPlace, x_pending, x_lineTable, x_code, x_waiting, x_globals, x_entries, x_orders, x_merging, le, x_objectClass, x_attributes, x_calls, x_held, x_operands, x_lastPrints) v1 := by
  unfold wpX_named
  refine hs_xLet (fun j hj e => br_f (by decide) ?_) (fun h => br_t rfl ?_)
  · subst e
    refine And.intro (vp_in_nI hj (by decide)) ?_
    exact br_f (nI_pos (by omega)) (br_t (nI_le (b := 25) (by omega) (by decide)) (And.intro (vp_in_nI hj (by decide)) ⟨rfl, hQ⟩))
  · rcases h with h | h
    · exact br_t h ⟨rfl, hQ⟩
    · obtain ⟨a, b, c⟩ := hs_26 h
      exact br_f a (br_f b ⟨rfl, hQ⟩)
theorem hs_rAttribute {gl aa_ : Nat → Int64} {oc : Nat → Int32} (hg : ∀ j, j < 26 → hs_rv (gl j)) (ha : ∀ j, j < 208 → hs_rv (aa_ j)) {Q : Prop} (hQ : Q) (v1 v2 : Int32) : wpX_attribute (fun r => wpY_attribute (fun r' => r' = r ∧ Q) (y_maxObjects, y_maxSteps, y_maxDepth, y_kept, y_end, y_tokens, y_pending, y_lines, y_classes, y_prints, y_place, y_steps, y_d, y_valTop, y_opTop, y_opens, y_pos, y_tk, y_tv, y_stmt, y_target, y_err, y_code, y_outcome, y_result, y_dry, y_want, y_starting, y_ended, y_bad, y_hosted, y_sawSuper, y_text, y_numbers, gl, y_entries, aa_, oc, y_alive, y_orders, y_lengths, y_letters, y_bases, y_vals, y_ops, y_locals, y_fRecv, y_fLine, y_fPos, y_fStmt, y_fTarget, y_fMask, y_fHome, y_fOps, y_fVals, y_fNew, y_out) v1 v2) (x_objectLimit, x_stepLimit, x_depthLimit, x_pendingCount, x_keptTokens, x_keptLines, x_lineCount, x_codeCount, x_cursor, x_stop, x_waitingCount, x_openCount, x_classCount, x_callCount, x_operandCount, x_stepsTaken, x_error, x_raisedCode, x_printCount, x_lastResult, x_lastPlace, x_pending, x_lineTable, x_code, x_waiting, gl, x_entries, x_orders, x_merging, x_letterClass, oc, aa_, x_calls, x_held, x_operands, x_lastPrints) v1 v2 := by
  unfold wpX_attribute
  refine hs_xLet (fun j hj e => br_f (by decide) ?_) (fun h => br_t rfl ?_)
  · subst e
    have a1 := nI_pos (n := j) (by omega)
    have a2 : ¬ 25 < nI j := nI_nlt (b := j) (a := 25) (by omega) (by decide)
    refine hs_xLet (fun j2 hj2 e => br_f (by decide) ?_) (fun h => br_t rfl ?_)
    · subst e
      have b1 := nI_pos (n := j2) (by omega)
      have b2 : ¬ 25 < nI j2 := nI_nlt (b := j2) (a := 25) (by omega) (by decide)
      have vin := vp_in_nI (n := j) (N := 26) hj (by decide)
      refine And.intro vin ?_
      rw [nI_clamp (show j < 2 ^ 31 by omega)]
      obtain ⟨m, hm, em, h3⟩ := hg j hj
      refine nm_r em (hs_hk3 hm (fun k3 => br_f (by decide) ?_) (fun k3 => br_t rfl ?_))
      · obtain ⟨o1, o2⟩ := h3 k3
        have ix : ((lN m).toInt32 * 26) + nI j2 = nI ((m - 12884901888) * 26 + j2) := by
          rw [lN_i, o2]
          show nI _ * nI 26 + _ = _
          rw [pk_mul, nI_add]
        have hx : (m - 12884901888) * 26 + j2 < 208 := by omega
        rw [ix, nI_clamp (show (m - 12884901888) * 26 + j2 < 2 ^ 31 by omega)]
        refine And.intro (vp_in_nI hx (by decide)) (hs_xShown (ha _ hx) ?_)
        refine br_f a1 (br_f a2 (br_f b1 (br_f b2 (And.intro vin ?_))))
        rw [nI_clamp (show j < 2 ^ 31 by omega), em]
        refine br_t ((hs_yk3 hm).mpr k3) (And.intro vin ?_)
        rw [ix, nI_clamp (show (m - 12884901888) * 26 + j2 < 2 ^ 31 by omega)]
        exact And.intro (vp_in_nI hx (by decide)) (hs_yShown (ha _ hx) ⟨rfl, hQ⟩)
      · refine br_f a1 (br_f a2 (br_f b1 (br_f b2 (And.intro vin ?_))))
        rw [nI_clamp (show j < 2 ^ 31 by omega), em]
        exact br_f (fun z => k3 ((hs_yk3 hm).mp z)) ⟨rfl, hQ⟩
    · rcases h with h | h
      · exact br_f a1 (br_f a2 (br_t h ⟨rfl, hQ⟩))
      · obtain ⟨a, b, c⟩ := hs_26 h
        exact br_f a1 (br_f a2 (br_f a (br_t c ⟨rfl, hQ⟩)))
  · rcases h with h | h
    · exact br_t h ⟨rfl, hQ⟩
    · obtain ⟨a, b, c⟩ := hs_26 h
      exact br_f a (br_t c ⟨rfl, hQ⟩)
/-- an entry of class c on both sides: the same value, or a method -/
def hs_ee (P : Nat → Nat) (df : Nat → Prop) (c : Nat) (e e' : Int64) : Prop := (e = e' ∧ hs_v0 e) ∨ ∃ l, df l ∧ l < 1024 ∧ P l < 1024 ∧ e = lN (17179869184 + l) ∧ e' = lN (17179869184 + (c * 4096 + P l))
theorem hs_rvV {v : Int64} (h : hs_v0 v) : hs_rv v := hs_v0sm h
theorem hs_rvM {m : Nat} (h : m < 2 ^ 20) : hs_rv (lN (17179869184 + m)) := ⟨_, by omega, rfl, fun z => by omega⟩
theorem hs_shM {oc : Nat → Int32} {m : Nat} (h : m < 2 ^ 20) : hs_sh oc (lN (17179869184 + m)) = 17179869184 := by
  unfold hs_sh
  rw [if_neg (fun y => by have := (hs_yk3 (by omega)).mp y; omega), if_pos ((hs_yk4 (by omega)).mpr (by omega))]
theorem hs_eeR {P : Nat → Nat} {df : Nat → Prop} {c : Nat} {e e' : Int64} {oc : Nat → Int32} (hc : c < 10) (h : hs_ee P df c e e') : hs_rv e ∧ hs_rv e' ∧ hs_sh oc e = hs_sh oc e' := by
  rcases h with ⟨rfl, h⟩ | ⟨l, _, h1, h2, rfl, rfl⟩
  · exact ⟨hs_rvV h, hs_rvV h, rfl⟩
  · exact ⟨hs_rvM (by omega), hs_rvM (by omega), by rw [hs_shM (by omega), hs_shM (by omega)]⟩
def hs_EE (P : Nat → Nat) (df : Nat → Prop) (ex ey : Nat → Int64) : Prop := ∀ c n, c < 10 → n < 26 → hs_ee P df c (ex (c * 26 + n)) (ey (c * 26 + n))
theorem hs_xCls {cn : Nat} (hc : cn ≤ 10) {post : Int32 → Prop} {n : Int32} (h1 : ∀ j : Nat, j < cn → n = nI j → post 1) (h0 : (n < 0 ∨ (¬ n < 0 ∧ nI cn ≤ n)) → post 0) : wpX_isClass post (x_objectLimit, x_stepLimit, x_depthLimit, x_pendingCount, x_keptTokens, x_keptLines, x_lineCount, x_codeCount, x_cursor, x_stop, x_waitingCount, x_openCount, nI cn, x_callCount, x_operandCount, x_stepsTaken, x_error, x_raisedCode, x_printCount, x_lastResult, x_lastPlace, x_pending, x_lineTable, x_code, x_waiting, x_globals, x_entries, x_orders, x_merging, x_letterClass, x_objectClass, x_attributes, x_calls, x_held, x_operands, x_lastPrints) n := by
  rcases pk_ix n (n := cn) (by omega) with h | h | ⟨j, hj, e⟩
  · exact br_t h (h0 (Or.inl h))
  · have h' : ¬ n < 0 := fun z => absurd (Int32.lt_of_lt_of_le z (nI_pos' (show cn < 2 ^ 31 by omega))) (Int32.not_lt.mpr h)
    exact br_f h' (br_t h (h0 (Or.inr ⟨h', h⟩)))
  · have := h1 j hj e
    subst e
    exact br_f (nI_pos (by omega)) (br_f (nI_ge hj (by omega)) this)
theorem hs_rEntry {P : Nat → Nat} {df : Nat → Prop} {ex ey : Nat → Int64} {oc : Nat → Int32} {cn : Nat} (hc : cn ≤ 10) (hE : hs_EE P df ex ey) {Q : Prop} (hQ : Q) (v1 v2 : Int32) : wpX_entry (fun r => wpY_entry (fun r' => r' = r ∧ Q) (y_maxObjects, y_maxSteps, y_maxDepth, y_kept, y_end, y_tokens, y_pending, y_lines, nI cn, y_prints, y_place, y_steps, y_d, y_valTop, y_opTop, y_opens, y_pos, y_tk, y_tv, y_stmt, y_target, y_err, y_code, y_outcome, y_result, y_dry, y_want, y_starting, y_ended, y_bad, y_hosted, y_sawSuper, y_text, y_numbers, y_globals, ey, y_attrs, oc, y_alive, y_orders, y_lengths, y_letters, y_bases, y_vals, y_ops, y_locals, y_fRecv, y_fLine, y_fPos, y_fStmt, y_fTarget, y_fMask, y_fHome, y_fOps, y_fVals, y_fNew, y_out) v1 v2) (x_objectLimit, x_stepLimit, x_depthLimit, x_pendingCount, x_keptTokens, x_keptLines, x_lineCount, x_codeCount, x_cursor, x_stop, x_waitingCount, x_openCount, nI cn, x_callCount, x_operandCount, x_stepsTaken, x_error, x_raisedCode, x_printCount, x_lastResult, x_lastPlace, x_pending, x_lineTable, x_code, x_waiting, x_globals, ex, x_orders, x_merging, x_letterClass, oc, x_attributes, x_calls, x_held, x_operands, x_lastPrints) v1 v2 := by
  unfold wpX_entry
  refine hs_xCls hc (fun j hj e => br_f (by decide) ?_) (fun h => br_t rfl ?_)
  · subst e
    have a1 := nI_pos (n := j) (by omega)
    have a2 : ¬ nI cn ≤ nI j := nI_ge hj (by omega)
    refine hs_xLet (fun j2 hj2 e => br_f (by decide) ?_) (fun h => br_t rfl ?_)
    · subst e
      have b1 := nI_pos (n := j2) (by omega)
      have ix : (nI j * 26) + nI j2 = nI (j * 26 + j2) := by
        show nI _ * nI 26 + _ = _
        rw [pk_mul, nI_add]
      have hx : j * 26 + j2 < 260 := by omega
      obtain ⟨r1, r2, r3⟩ := hs_eeR (oc := oc) (by omega) (hE j j2 (by omega) hj2)
      rw [ix, nI_clamp (show j * 26 + j2 < 2 ^ 31 by omega)]
      refine And.intro (vp_in_nI hx (by decide)) (hs_xShown r1 ?_)
      refine br_f a1 (br_f a2 (br_f b1 (br_t (nI_le (b := 25) (by omega) (by decide)) ?_)))
      rw [ix, nI_clamp (show j * 26 + j2 < 2 ^ 31 by omega)]
      exact And.intro (vp_in_nI hx (by decide)) (hs_yShown r2 ⟨r3.symm, hQ⟩)
    · rcases h with h | h
      · exact br_f a1 (br_f a2 (br_t h ⟨rfl, hQ⟩))
      · obtain ⟨a, b, c⟩ := hs_26 h
        exact br_f a1 (br_f a2 (br_f a (br_f b ⟨rfl, hQ⟩)))
  · rcases h with h | ⟨h', h⟩
    · exact br_t h ⟨rfl, hQ⟩
    · exact br_f h' (br_t h ⟨rfl, hQ⟩)
/-- the orders on both sides: rows of 12 ended by -1, rows of 10 with lengths -/
def hs_gi (l : List Nat) (k : Nat) : Int32 := match l[k]? with
  | some m => nI m
  | none => -1
def hs_OO (cn : Nat) (ox oy le : Nat → Int32) : Prop := ∀ c, c < cn → ∃ l : List Nat, le c = nI l.length ∧ 1 ≤ l.length ∧ l.length ≤ 10 ∧ (∀ k, k < 12 → ox (c * 12 + k) = hs_gi l k) ∧ (∀ k, k < l.length → oy (c * 10 + k) = hs_gi l k) ∧ ∀ m, m ∈ l → m ≤ c
theorem hs_giN {l : List Nat} {k : Nat} (h : l.length ≤ k) : hs_gi l k = -1 := by
  unfold hs_gi
  rw [List.getElem?_eq_none h]
theorem hs_rOrder {ox oy le : Nat → Int32} {cn : Nat} (hc : cn ≤ 10) (hO : hs_OO cn ox oy le) {Q : Prop} (hQ : Q) (v1 v2 : Int32) : wpX_order (fun r => wpY_order (fun r' => r' = r ∧ Q) (y_maxObjects, y_maxSteps, y_maxDepth, y_kept, y_end, y_tokens, y_pending, y_lines, nI cn, y_prints, y_place, y_steps, y_d, y_valTop, y_opTop, y_opens, y_pos, y_tk, y_tv, y_stmt, y_target, y_err, y_code, y_outcome, y_result, y_dry, y_want, y_starting, y_ended, y_bad, y_hosted, y_sawSuper, y_text, y_numbers, y_globals, y_entries, y_attrs, y_classOf, y_alive, oy, le, y_letters, y_bases, y_vals, y_ops, y_locals, y_fRecv, y_fLine, y_fPos, y_fStmt, y_fTarget, y_fMask, y_fHome, y_fOps, y_fVals, y_fNew, y_out) v1 v2) (x_objectLimit, x_stepLimit, x_depthLimit, x_pendingCount, x_keptTokens, x_keptLines, x_lineCount, x_codeCount, x_cursor, x_stop, x_waitingCount, x_openCount, nI cn, x_callCount, x_operandCount, x_stepsTaken, x_error, x_raisedCode, x_printCount, x_lastResult, x_lastPlace, x_pending, x_lineTable, x_code, x_waiting, x_globals, x_entries, ox, x_merging, x_letterClass, x_objectClass, x_attributes, x_calls, x_held, x_operands, x_lastPrints) v1 v2 := by
  unfold wpX_order
  refine hs_xCls hc (fun j hj e => br_f (by decide) ?_) (fun h => br_t rfl ?_)
  · subst e
    have a1 := nI_pos (n := j) (by omega)
    have a2 : ¬ nI cn ≤ nI j := nI_ge hj (by omega)
    obtain ⟨l', e1, l1, l2, h3, h4, _⟩ := hO j hj
    generalize hl : l'.length = l at *
    have yy : ∀ (r : Int32), ¬ v2 < 0 → ¬ v2 < nI l → r = -1 → wpY_order (fun r' => r' = r ∧ Q) (y_maxObjects, y_maxSteps, y_maxDepth, y_kept, y_end, y_tokens, y_pending, y_lines, nI cn, y_prints, y_place, y_steps, y_d, y_valTop, y_opTop, y_opens, y_pos, y_tk, y_tv, y_stmt, y_target, y_err, y_code, y_outcome, y_result, y_dry, y_want, y_starting, y_ended, y_bad, y_hosted, y_sawSuper, y_text, y_numbers, y_globals, y_entries, y_attrs, y_classOf, y_alive, oy, le, y_letters, y_bases, y_vals, y_ops, y_locals, y_fRecv, y_fLine, y_fPos, y_fStmt, y_fTarget, y_fMask, y_fHome, y_fOps, y_fVals, y_fNew, y_out) (nI j) v2 := by
      intro r z1 z2 er
      refine br_f a1 (br_f a2 (br_f z1 (And.intro (vp_in_nI (by omega) (by decide)) ?_)))
      rw [nI_clamp (show j < 2 ^ 31 by omega), e1]
      exact br_f z2 ⟨er.symm, hQ⟩
    rcases pk_ix v2 (n := 12) (by decide) with h | h | ⟨k, hk, e⟩
    · exact br_t h (br_f a1 (br_f a2 (br_t h ⟨rfl, hQ⟩)))
    · have h' : ¬ v2 < 0 := fun z => absurd (Int32.lt_of_lt_of_le z (by decide : (0 : Int32) ≤ nI 12)) (Int32.not_lt.mpr h)
      refine br_f h' (br_f (Int32.not_lt.mpr h) (yy _ h' (Int32.not_lt.mpr (Int32.le_trans (nI_le (show l ≤ 12 by omega) (by decide)) h)) rfl))
    · subst e
      have b1 := nI_pos (n := k) (by omega)
      refine br_f b1 (br_t (nI_lt (b := 12) hk (by decide)) ?_)
      have ix : (nI j * 12) + nI k = nI (j * 12 + k) := by
        show nI _ * nI 12 + _ = _
        rw [pk_mul, nI_add]
      rw [ix, nI_clamp (show j * 12 + k < 2 ^ 31 by omega)]
      refine And.intro (vp_in_nI (by omega) (by decide)) ?_
      rw [h3 k hk]
      by_cases z : k < l
      · rw [← h4 k z]
        refine br_f a1 (br_f a2 (br_f b1 (And.intro (vp_in_nI (by omega) (by decide)) ?_)))
        rw [nI_clamp (show j < 2 ^ 31 by omega), e1]
        refine br_t (nI_lt z (by omega)) ?_
        have iy : (nI j * 10) + nI k = nI (j * 10 + k) := by
          show nI _ * nI 10 + _ = _
          rw [pk_mul, nI_add]
        rw [iy, nI_clamp (show j * 10 + k < 2 ^ 31 by omega)]
        exact And.intro (vp_in_nI (by omega) (by decide)) ⟨rfl, hQ⟩
      · rw [hs_giN (by omega)]
        exact yy _ b1 (nI_nlt (by omega) (by omega)) rfl
  · rcases h with h | ⟨h', h⟩
    · exact br_t h ⟨rfl, hQ⟩
    · exact br_f h' (br_t h ⟨rfl, hQ⟩)
theorem hs_rPrinted {ou : Nat → Int32} {pc : Int32} {Q : Prop} (hQ : Q) (v1 : Int32) : wpX_printed (fun r => wpY_printed (fun r' => r' = r ∧ Q) (y_maxObjects, y_maxSteps, y_maxDepth, y_kept, y_end, y_tokens, y_pending, y_lines, y_classes, pc, y_place, y_steps, y_d, y_valTop, y_opTop, y_opens, y_pos, y_tk, y_tv, y_stmt, y_target, y_err, y_code, y_outcome, y_result, y_dry, y_want, y_starting, y_ended, y_bad, y_hosted, y_sawSuper, y_text, y_numbers, y_globals, y_entries, y_attrs, y_classOf, y_alive, y_orders, y_lengths, y_letters, y_bases, y_vals, y_ops, y_locals, y_fRecv, y_fLine, y_fPos, y_fStmt, y_fTarget, y_fMask, y_fHome, y_fOps, y_fVals, y_fNew, ou) v1) (x_objectLimit, x_stepLimit, x_depthLimit, x_pendingCount, x_keptTokens, x_keptLines, x_lineCount, x_codeCount, x_cursor, x_stop, x_waitingCount, x_openCount, x_classCount, x_callCount, x_operandCount, x_stepsTaken, x_error, x_raisedCode, pc, x_lastResult, x_lastPlace, x_pending, x_lineTable, x_code, x_waiting, x_globals, x_entries, x_orders, x_merging, x_letterClass, x_objectClass, x_attributes, x_calls, x_held, x_operands, ou) v1 := by
  rcases pk_ix v1 (n := 16) (by decide) with h | h | ⟨k, hk, e⟩
  · exact br_t h (br_t h ⟨rfl, hQ⟩)
  · have h1 : (16 : Int32).toInt = 16 := by decide
    have h2 : (15 : Int32).toInt = 15 := by decide
    have h0 : (0 : Int32).toInt = 0 := by decide
    have h' : ¬ v1 < 0 ∧ 15 < v1 := by
      have h : (16 : Int32) ≤ v1 := h
      simp only [Int32.le_iff_toInt_le, Int32.lt_iff_toInt_lt, h1, h2, h0] at *
      omega
    exact br_f h'.1 (br_t h (br_f h'.1 (br_t h'.2 ⟨rfl, hQ⟩)))
  · subst e
    have b1 := nI_pos (n := k) (by omega)
    refine br_f b1 (br_f (nI_ge (b := 16) hk (by decide)) ?_)
    have b2 : ¬ 15 < nI k := nI_nlt (b := k) (a := 15) (by omega) (by decide)
    by_cases z : nI k < pc
    · have vi := pk_andIn ((pc - 1) - nI k) (m := 15) 4 (by decide) (by decide)
      exact br_t z (And.intro vi (br_f b1 (br_f b2 (br_t z (And.intro vi ⟨rfl, hQ⟩)))))
    · exact br_f z (br_f b1 (br_f b2 (br_f z ⟨rfl, hQ⟩)))
end
end
section
/-! the automaton of an expression: tokens left, is an operand wanted, the operators that wait (top first) -/
def hs_rank (t : Nat) : Nat := if t = 27 ∨ t = 28 then 1 else if t = 29 ∨ t = 30 then 2 else if t = 31 ∨ t = 32 then 3 else 0
def hs_isN (t : Nat) : Bool := decide (100 ≤ t ∧ t < 126)
def hs_isC (t : Nat) : Bool := decide (130 ≤ t ∧ t < 156)
def hs_opn : List Nat → Nat
  | [] => 0
  | s :: r => (if 1 ≤ s % 64 ∧ s % 64 ≤ 4 then 1 else 0) + hs_opn r
abbrev hs_R : Type := Option (List Nat × Bool × List Nat × List (Nat × Nat))
def hs_psh (s : Nat) (r st : List Nat) : hs_R := if 4 ≤ hs_opn st then none else some (r, true, s :: st, [])
def hs_hd : List Nat → Nat
  | [] => 0
  | t :: _ => t
def hs_cls (t : Nat) (r st : List Nat) : hs_R :=
  match r with
  | k :: r1 => if k = 21 then hs_psh (4 + 64 * (t - 130)) r1 st else if k = 24 then
      (match r1 with
      | n :: r2 => if hs_isN n = true ∧ hs_hd r2 ≠ 21 then some (r2, false, st, [(5, (t - 130) * 26 + (n - 100))]) else none
      | [] => none) else none
  | [] => none
def hs_sup (r st : List Nat) : hs_R :=
  match r with
  | k :: n :: p :: r1 => if k = 24 ∧ hs_isN n = true ∧ p = 21 then hs_psh (3 + 64 * (n - 100)) r1 st else none
  | _ => none
def hs_cl0 (r st : List Nat) : hs_R :=
  match st with
  | s :: st1 => if 2 ≤ s % 64 ∧ s % 64 ≤ 4 then some (r, false, st1, [(2 * (s % 64) + 2, s / 64)]) else none
  | [] => none
def hs_opd (t : Nat) (r st : List Nat) : hs_R :=
  if 1000 ≤ t then some (r, false, st, [(1, t - 1000)])
  else if t = 12 then some (r, false, st, [(3, 0)])
  else if hs_isN t = true then some (r, false, st, [(2, t - 100)])
  else if t = 21 then hs_psh 1 r st
  else if hs_isC t = true then hs_cls t r st
  else if t = 13 then hs_sup r st
  else if t = 22 then hs_cl0 r st
  else none
def hs_dot (z : Bool) (r st : List Nat) : hs_R :=
  match r with
  | n :: r1 => if hs_isN n = true then
      (if hs_hd r1 = 21 then hs_psh (2 + 64 * (n - 100)) r1.tail st
      else if hs_hd r1 = 26 ∧ z = true ∧ st = [] then some (r1.tail, true, [5 + 64 * (n - 100)], [])
      else some (r1, false, st, [(4, n - 100)])) else none
  | [] => none
def hs_cl1 (r st : List Nat) : hs_R :=
  match st with
  | s :: st1 => if s % 64 = 1 then some (r, false, st1, []) else if 2 ≤ s % 64 ∧ s % 64 ≤ 4 then some (r, false, st1, [(2 * (s % 64) + 3, s / 64)]) else none
  | [] => none
def hs_opr1 (z : Bool) (t : Nat) (r st : List Nat) : hs_R :=
  if 0 < hs_rank t then (if hs_rank t = 1 ∧ hs_rank (hs_hd st % 64) = 1 then none else some (r, true, t :: st, []))
  else if t = 24 then hs_dot z r st
  else if t = 22 then hs_cl1 r st
  else none
def hs_opr (z : Bool) (ts st : List Nat) : hs_R :=
  if 27 ≤ hs_hd st % 64 ∧ hs_hd ts ≠ 24 ∧ hs_rank (hs_hd ts) ≤ hs_rank (hs_hd st % 64) ∧ ¬ (hs_rank (hs_hd ts) = 1 ∧ hs_rank (hs_hd st % 64) = 1) then some (ts, false, st.tail, [(hs_hd st % 64, 0)])
  else match ts with
  | [] => none
  | t :: r => hs_opr1 z t r st
def hs_step (z : Bool) (ts : List Nat) (w : Bool) (st : List Nat) : hs_R :=
  if w then (match ts with
    | [] => none
    | t :: r => hs_opd t r st)
  else hs_opr z ts st
def hs_fin (ts : List Nat) (w : Bool) (st : List Nat) : Prop := w = false ∧ (ts = [] ∨ hs_hd ts = 25) ∧ ¬ 27 ≤ hs_hd st % 64 ∧ ¬ (1 ≤ hs_hd st % 64 ∧ hs_hd st % 64 ≤ 4)
theorem hs_pshE {s : Nat} {r st : List Nat} {x : List Nat × Bool × List Nat × List (Nat × Nat)} (h : hs_psh s r st = some x) : hs_opn st < 4 ∧ x = (r, true, s :: st, []) := by
  unfold hs_psh at h
  split at h
  · cases h
  · cases h
    exact ⟨by omega, rfl⟩
/-- every step shortens -/
theorem hs_opdM {t : Nat} {r st ts' st' : List Nat} {w' : Bool} {e : List (Nat × Nat)} (h : hs_opd t r st = some (ts', w', st', e)) : 2 * ts'.length + st'.length < 2 * (t :: r).length + st.length ∧ st'.length + ts'.length + (if w' then 0 else 1) ≤ st.length + (t :: r).length := by
  unfold hs_opd hs_cls hs_sup hs_cl0 at h
  simp only [List.length_cons]
  repeat' split at h
  all_goals first
    | (cases h; done)
    | (cases h; constructor <;> (try simp) <;> (try omega); done)
    | (obtain ⟨_, e⟩ := hs_pshE h; cases e; constructor <;> (try simp) <;> (try omega); done)
theorem hs_oprM {z : Bool} {ts st ts' st' : List Nat} {w' : Bool} {e : List (Nat × Nat)} (h : hs_opr z ts st = some (ts', w', st', e)) : 2 * ts'.length + st'.length < 2 * ts.length + st.length ∧ st'.length + ts'.length + (if w' then 0 else 1) ≤ st.length + ts.length + 1 := by
  unfold hs_opr at h
  split at h
  · rename_i c
    cases h
    cases st with
    | nil => simp [hs_hd] at c
    | cons s r => constructor <;> (try simp) <;> (try omega)
  · split at h
    · cases h
    · rename_i r
      simp only [List.length_cons]
      unfold hs_opr1 hs_dot hs_cl1 at h
      split at h
      · split at h
        · cases h
        · cases h; constructor <;> (try simp) <;> (try omega)
      · split at h
        · split at h
          · rename_i r1
            have := List.length_tail (l := r1)
            split at h
            · split at h
              · obtain ⟨_, e⟩ := hs_pshE h; cases e; simp only [List.length_cons] at *; constructor <;> (try simp) <;> (try omega)
              · split at h
                · rename_i c
                  cases h; simp only [List.length_cons] at *; constructor <;> (try simp [c.2.2]) <;> (try omega)
                · cases h; constructor <;> (try simp) <;> (try omega)
            · cases h
          · cases h
        · split at h
          · split at h
            · split at h
              · cases h; constructor <;> (try simp) <;> (try omega)
              · split at h
                · cases h; constructor <;> (try simp) <;> (try omega)
                · cases h
            · cases h
          · cases h
theorem hs_stepM {z w w' : Bool} {ts st ts' st' : List Nat} {e : List (Nat × Nat)} (h : hs_step z ts w st = some (ts', w', st', e)) : 2 * ts'.length + st'.length < 2 * ts.length + st.length ∧ st'.length + ts'.length + (if w' then 0 else 1) ≤ st.length + ts.length + (if w then 0 else 1) := by
  unfold hs_step at h
  split at h
  · rename_i hw
    split at h
    · cases h
    · have := hs_opdM h
      rw [hw]
      simpa using this
  · rename_i hw
    have := hs_oprM h
    simp at hw
    rw [hw]
    simpa using this
/-- the automaton goes from a state to its end, and writes this code -/
def hs_run : Nat → Bool → List Nat → Bool → List Nat → List (Nat × Nat) → List Nat → List Nat → Prop
  | 0, _, _, _, _, _, _, _ => False
  | n + 1, z, ts, w, st, cd, rs, fs => (hs_fin ts w st ∧ cd = [] ∧ rs = ts ∧ fs = st) ∨ (¬ hs_fin ts w st ∧ ∃ ts' w' st' e cd', hs_step z ts w st = some (ts', w', st', e) ∧ cd = e ++ cd' ∧ hs_run n z ts' w' st' cd' rs fs)
theorem hs_runU : ∀ {n m : Nat} {z w : Bool} {ts st rs fs rs' fs' : List Nat} {cd cd' : List (Nat × Nat)}, hs_run n z ts w st cd rs fs → hs_run m z ts w st cd' rs' fs' → cd = cd' ∧ rs = rs' ∧ fs = fs' := by
  intro n
  induction n with
  | zero => intro m z w ts st rs fs rs' fs' cd cd' h; exact h.elim
  | succ n ih =>
    intro m z w ts st rs fs rs' fs' cd cd' h h'
    cases m with
    | zero => exact h'.elim
    | succ m =>
      rcases h with ⟨f, rfl, rfl, rfl⟩ | ⟨f, a, b, c, e, k, h1, rfl, h2⟩
      · rcases h' with ⟨f', rfl, rfl, rfl⟩ | ⟨f', _⟩
        · exact ⟨rfl, rfl, rfl⟩
        · exact absurd f f'
      · rcases h' with ⟨f', _⟩ | ⟨f', a', b', c', e', k', h1', rfl, h2'⟩
        · exact absurd f' f
        · rw [h1] at h1'
          cases h1'
          obtain ⟨rfl, rfl, rfl⟩ := ih h2 h2'
          exact ⟨rfl, rfl, rfl⟩
theorem hs_runMono : ∀ {n m : Nat} {z w : Bool} {ts st rs fs : List Nat} {cd : List (Nat × Nat)}, n ≤ m → hs_run n z ts w st cd rs fs → hs_run m z ts w st cd rs fs := by
  intro n
  induction n with
  | zero => intro m z w ts st rs fs cd _ h; exact h.elim
  | succ n ih =>
    intro m z w ts st rs fs cd hm h
    obtain ⟨m, rfl⟩ : ∃ k, m = k + 1 := ⟨m - 1, by omega⟩
    rcases h with h | ⟨f, a, b, c, e, k, h1, h2, h3⟩
    · exact Or.inl h
    · exact Or.inr ⟨f, a, b, c, e, k, h1, h2, ih (by omega) h3⟩
/-- the whole rest is read, and this is its code -/
def hs_S (z : Bool) (ts : List Nat) (w : Bool) (st : List Nat) (cd : List (Nat × Nat)) (rs fs : List Nat) : Prop := ∃ n, hs_run n z ts w st cd rs fs
theorem hs_Sfin {z w : Bool} {ts st rs fs : List Nat} {cd : List (Nat × Nat)} (h : hs_fin ts w st) : hs_S z ts w st cd rs fs ↔ cd = [] ∧ rs = ts ∧ fs = st := by
  constructor
  · rintro ⟨n, hn⟩
    cases n with
    | zero => exact hn.elim
    | succ n =>
      rcases hn with ⟨_, h2⟩ | ⟨h2, _⟩
      · exact h2
      · exact absurd h h2
  · exact fun h2 => ⟨1, Or.inl ⟨h, h2⟩⟩
theorem hs_Sstep {z w w' : Bool} {ts st ts' st' rs fs : List Nat} {e cd : List (Nat × Nat)} (h : ¬ hs_fin ts w st) (hs : hs_step z ts w st = some (ts', w', st', e)) : hs_S z ts w st cd rs fs ↔ ∃ cd', cd = e ++ cd' ∧ hs_S z ts' w' st' cd' rs fs := by
  constructor
  · rintro ⟨n, hn⟩
    cases n with
    | zero => exact hn.elim
    | succ n =>
      rcases hn with ⟨h2, _⟩ | ⟨_, a, b, c, k, cd', h1, h2, h3⟩
      · exact absurd h2 h
      · rw [hs] at h1
        cases h1
        exact ⟨cd', h2, n, h3⟩
  · rintro ⟨cd', h2, n, h3⟩
    exact ⟨n + 1, Or.inr ⟨h, _, _, _, _, cd', hs, h2, h3⟩⟩
theorem hs_Sbad {z w : Bool} {ts st rs fs : List Nat} {cd : List (Nat × Nat)} (h : ¬ hs_fin ts w st) (hs : hs_step z ts w st = none) : ¬ hs_S z ts w st cd rs fs := by
  rintro ⟨n, hn⟩
  cases n with
  | zero => exact hn.elim
  | succ n =>
    rcases hn with ⟨h2, _⟩ | ⟨_, a, b, c, k, cd', h1, h2, h3⟩
    · exact absurd h2 h
    · rw [hs] at h1; cases h1
end
section
/-! Y's tokens and small methods -/
section
variable {x_objectLimit x_stepLimit x_depthLimit x_pendingCount x_keptTokens x_keptLines x_lineCount x_codeCount x_cursor x_stop x_waitingCount x_openCount x_classCount x_callCount x_operandCount x_stepsTaken x_error x_raisedCode x_printCount x_lastPlace : Int32} {x_lastResult : Int64} {x_pending x_lineTable x_orders x_merging x_letterClass x_objectClass x_calls x_lastPrints : Nat → Int32} {x_code x_waiting x_globals x_entries x_attributes x_held x_operands : Nat → Int64}
variable {y_maxObjects y_maxSteps y_maxDepth y_kept y_end y_tokens y_pending y_lines y_classes y_prints y_place y_steps y_d y_valTop y_opTop y_opens y_pos y_tk y_tv y_stmt y_target y_err y_code y_outcome y_dry y_want y_starting y_ended y_bad y_hosted y_sawSuper : Int32} {y_result : Int64} {y_text y_numbers y_classOf y_alive y_orders y_lengths y_letters y_bases y_ops y_fLine y_fPos y_fStmt y_fTarget y_fMask y_fHome y_fOps y_fVals y_fNew y_out : Nat → Int32} {y_globals y_entries y_attrs y_vals y_locals y_fRecv : Nat → Int64}
def hs_TA (tx : Nat → Int32) : Nat → List Nat → Prop
  | p, [] => hs_okc (tx p) ∧ hs_en (hs_g tx p) ∧ p < 1024
  | p, t :: r => hs_g tx p = t ∧ hs_okc (tx p) ∧ ¬ hs_en t ∧ p < 1024 ∧ hs_TA tx (p + 1) r
def hs_tk (t : Nat) : Nat := if 1000 ≤ t then 1000 else if 130 ≤ t then 130 else if 100 ≤ t then 100 else t
theorem hs_tkLe (t : Nat) : hs_tk t ≤ 1000 ∧ hs_tk t ≤ t := by
  unfold hs_tk
  split
  · omega
  · split
    · omega
    · split <;> omega
theorem hs_TAc {tx : Nat → Int32} {p t : Nat} {r : List Nat} (h : hs_TA tx p (t :: r)) : tx p = nI t ∧ 0 < t ∧ t < 2 ^ 31 ∧ ¬ hs_en t ∧ p < 1024 ∧ hs_TA tx (p + 1) r := by
  obtain ⟨h1, h2, h3, h4, h5⟩ := h
  rcases hs_okcE h2 with ⟨z, _⟩ | ⟨z1, z2, z3⟩
  · exact absurd (Or.inl (h1.symm.trans z)) h3
  · have e : (tx p).toNatClampNeg = t := h1
    rw [e] at z1 z2 z3
    exact ⟨z3, z1, z2, h3, h4, h5⟩
theorem hs_TAlt {tx : Nat → Int32} : ∀ {ts : List Nat} {p : Nat}, hs_TA tx p ts → p < 1024
  | [], _, h => h.2.2
  | _ :: _, _, h => h.2.2.2.1
theorem hs_yTokE {tx : Nat → Int32} {p : Nat} (h : hs_TA tx p []) {post : SY → Prop} (hp : post (y_maxObjects, y_maxSteps, y_maxDepth, y_kept, y_end, y_tokens, y_pending, y_lines, y_classes, y_prints, y_place, y_steps, y_d, y_valTop, y_opTop, y_opens, nI p, 0, y_tv, y_stmt, y_target, y_err, y_code, y_outcome, y_result, y_dry, y_want, y_starting, y_ended, y_bad, y_hosted, y_sawSuper, tx, y_numbers, y_globals, y_entries, y_attrs, y_classOf, y_alive, y_orders, y_lengths, y_letters, y_bases, y_vals, y_ops, y_locals, y_fRecv, y_fLine, y_fPos, y_fStmt, y_fTarget, y_fMask, y_fHome, y_fOps, y_fVals, y_fNew, y_out)) : wpY_tok post (y_maxObjects, y_maxSteps, y_maxDepth, y_kept, y_end, y_tokens, y_pending, y_lines, y_classes, y_prints, y_place, y_steps, y_d, y_valTop, y_opTop, y_opens, nI p, y_tk, y_tv, y_stmt, y_target, y_err, y_code, y_outcome, y_result, y_dry, y_want, y_starting, y_ended, y_bad, y_hosted, y_sawSuper, tx, y_numbers, y_globals, y_entries, y_attrs, y_classOf, y_alive, y_orders, y_lengths, y_letters, y_bases, y_vals, y_ops, y_locals, y_fRecv, y_fLine, y_fPos, y_fStmt, y_fTarget, y_fMask, y_fHome, y_fOps, y_fVals, y_fNew, y_out) := by
  obtain ⟨h1, h2, h3⟩ := h
  refine And.intro (vp_in_nI h3 (by decide)) ?_
  rw [nI_clamp (show p < 2 ^ 31 by omega)]
  exact nm_e (hs_yends h1 (fun _ => br_f (by decide) hp) (fun z => absurd h2 z))
theorem hs_yTokC {tx : Nat → Int32} {p t : Nat} {r : List Nat} (h : hs_TA tx p (t :: r)) {post : SY → Prop} (hp : post (y_maxObjects, y_maxSteps, y_maxDepth, y_kept, y_end, y_tokens, y_pending, y_lines, y_classes, y_prints, y_place, y_steps, y_d, y_valTop, y_opTop, y_opens, nI (p + 1), nI (hs_tk t), nI (t - hs_tk t), y_stmt, y_target, y_err, y_code, y_outcome, y_result, y_dry, y_want, y_starting, y_ended, y_bad, y_hosted, y_sawSuper, tx, y_numbers, y_globals, y_entries, y_attrs, y_classOf, y_alive, y_orders, y_lengths, y_letters, y_bases, y_vals, y_ops, y_locals, y_fRecv, y_fLine, y_fPos, y_fStmt, y_fTarget, y_fMask, y_fHome, y_fOps, y_fVals, y_fNew, y_out)) : wpY_tok post (y_maxObjects, y_maxSteps, y_maxDepth, y_kept, y_end, y_tokens, y_pending, y_lines, y_classes, y_prints, y_place, y_steps, y_d, y_valTop, y_opTop, y_opens, nI p, y_tk, y_tv, y_stmt, y_target, y_err, y_code, y_outcome, y_result, y_dry, y_want, y_starting, y_ended, y_bad, y_hosted, y_sawSuper, tx, y_numbers, y_globals, y_entries, y_attrs, y_classOf, y_alive, y_orders, y_lengths, y_letters, y_bases, y_vals, y_ops, y_locals, y_fRecv, y_fLine, y_fPos, y_fStmt, y_fTarget, y_fMask, y_fHome, y_fOps, y_fVals, y_fNew, y_out) := by
  have h0 := h
  obtain ⟨h1, h2, h3, h4, h5, _⟩ := hs_TAc h
  refine And.intro (vp_in_nI h5 (by decide)) ?_
  rw [nI_clamp (show p < 2 ^ 31 by omega)]
  refine nm_r h1 (hs_yends ?_ (fun z => absurd ?_ h4) (fun _ => br_t rfl (nm_r (nI_1 p) ?_)))
  · exact Or.inr ⟨t, h2, h3, rfl⟩
  · rw [nI_clamp h3] at z; exact z
  · unfold hs_tk at hp
    refine pk_lt t 1000 (fun a => pk_lt t 130 (fun b => pk_lt t 100 (fun c => ?_) (fun c => ?_)) (fun b => ?_)) (fun a => ?_)
    · rw [if_neg (by omega), if_neg (by omega), if_neg (by omega)] at hp
      exact nm_r (pk_sub (Nat.le_refl t)) hp
    · rw [if_neg (by omega), if_neg (by omega), if_pos (by omega)] at hp
      exact nm_r (pk_sub (b := 100) c) hp
    · rw [if_neg (by omega), if_pos (by omega)] at hp
      exact nm_r (pk_sub (b := 130) b) hp
    · rw [if_pos (by omega)] at hp
      exact nm_r (pk_sub (b := 1000) a) hp
theorem hs_yIsE {tx : Nat → Int32} {p k : Nat} (h : hs_TA tx p []) (hk : k < 2 ^ 31) {post : Int32 → SY → Prop} (h1 : k = 0 → post 1 (y_maxObjects, y_maxSteps, y_maxDepth, y_kept, y_end, y_tokens, y_pending, y_lines, y_classes, y_prints, y_place, y_steps, y_d, y_valTop, y_opTop, y_opens, nI p, 0, y_tv, y_stmt, y_target, y_err, y_code, y_outcome, y_result, y_dry, y_want, y_starting, y_ended, y_bad, y_hosted, y_sawSuper, tx, y_numbers, y_globals, y_entries, y_attrs, y_classOf, y_alive, y_orders, y_lengths, y_letters, y_bases, y_vals, y_ops, y_locals, y_fRecv, y_fLine, y_fPos, y_fStmt, y_fTarget, y_fMask, y_fHome, y_fOps, y_fVals, y_fNew, y_out)) (h0 : k ≠ 0 → post 0 (y_maxObjects, y_maxSteps, y_maxDepth, y_kept, y_end, y_tokens, y_pending, y_lines, y_classes, y_prints, y_place, y_steps, y_d, y_valTop, y_opTop, y_opens, nI p, 0, y_tv, y_stmt, y_target, y_err, y_code, y_outcome, y_result, y_dry, y_want, y_starting, y_ended, y_bad, y_hosted, y_sawSuper, tx, y_numbers, y_globals, y_entries, y_attrs, y_classOf, y_alive, y_orders, y_lengths, y_letters, y_bases, y_vals, y_ops, y_locals, y_fRecv, y_fLine, y_fPos, y_fStmt, y_fTarget, y_fMask, y_fHome, y_fOps, y_fVals, y_fNew, y_out)) : wpY_is post (y_maxObjects, y_maxSteps, y_maxDepth, y_kept, y_end, y_tokens, y_pending, y_lines, y_classes, y_prints, y_place, y_steps, y_d, y_valTop, y_opTop, y_opens, nI p, y_tk, y_tv, y_stmt, y_target, y_err, y_code, y_outcome, y_result, y_dry, y_want, y_starting, y_ended, y_bad, y_hosted, y_sawSuper, tx, y_numbers, y_globals, y_entries, y_attrs, y_classOf, y_alive, y_orders, y_lengths, y_letters, y_bases, y_vals, y_ops, y_locals, y_fRecv, y_fLine, y_fPos, y_fStmt, y_fTarget, y_fMask, y_fHome, y_fOps, y_fVals, y_fNew, y_out) (nI k) := by
  unfold wpY_is
  refine hs_yTokE h ?_
  exact pk_eq 0 k (fun z => h1 z.symm) (fun z => h0 (Ne.symm z))
theorem hs_yIsC {tx : Nat → Int32} {p t k : Nat} {r : List Nat} (h : hs_TA tx p (t :: r)) (hk : k < 2 ^ 31) {post : Int32 → SY → Prop} (h1 : hs_tk t = k → post 1 (y_maxObjects, y_maxSteps, y_maxDepth, y_kept, y_end, y_tokens, y_pending, y_lines, y_classes, y_prints, y_place, y_steps, y_d, y_valTop, y_opTop, y_opens, nI (p + 1), nI (hs_tk t), nI (t - hs_tk t), y_stmt, y_target, y_err, y_code, y_outcome, y_result, y_dry, y_want, y_starting, y_ended, y_bad, y_hosted, y_sawSuper, tx, y_numbers, y_globals, y_entries, y_attrs, y_classOf, y_alive, y_orders, y_lengths, y_letters, y_bases, y_vals, y_ops, y_locals, y_fRecv, y_fLine, y_fPos, y_fStmt, y_fTarget, y_fMask, y_fHome, y_fOps, y_fVals, y_fNew, y_out)) (h0 : hs_tk t ≠ k → post 0 (y_maxObjects, y_maxSteps, y_maxDepth, y_kept, y_end, y_tokens, y_pending, y_lines, y_classes, y_prints, y_place, y_steps, y_d, y_valTop, y_opTop, y_opens, nI (p + 1), nI (hs_tk t), nI (t - hs_tk t), y_stmt, y_target, y_err, y_code, y_outcome, y_result, y_dry, y_want, y_starting, y_ended, y_bad, y_hosted, y_sawSuper, tx, y_numbers, y_globals, y_entries, y_attrs, y_classOf, y_alive, y_orders, y_lengths, y_letters, y_bases, y_vals, y_ops, y_locals, y_fRecv, y_fLine, y_fPos, y_fStmt, y_fTarget, y_fMask, y_fHome, y_fOps, y_fVals, y_fNew, y_out)) : wpY_is post (y_maxObjects, y_maxSteps, y_maxDepth, y_kept, y_end, y_tokens, y_pending, y_lines, y_classes, y_prints, y_place, y_steps, y_d, y_valTop, y_opTop, y_opens, nI p, y_tk, y_tv, y_stmt, y_target, y_err, y_code, y_outcome, y_result, y_dry, y_want, y_starting, y_ended, y_bad, y_hosted, y_sawSuper, tx, y_numbers, y_globals, y_entries, y_attrs, y_classOf, y_alive, y_orders, y_lengths, y_letters, y_bases, y_vals, y_ops, y_locals, y_fRecv, y_fLine, y_fPos, y_fStmt, y_fTarget, y_fMask, y_fHome, y_fOps, y_fVals, y_fNew, y_out) (nI k) := by
  unfold wpY_is
  refine hs_yTokC h ?_
  have := hs_tkLe t
  exact pk_eq (hs_tk t) k h1 h0
theorem hs_yRank {post : Int32 → Prop} {t : Nat} (ht : t < 2 ^ 31) (h : post (nI (hs_rank t))) : wpY_rankOf post (y_maxObjects, y_maxSteps, y_maxDepth, y_kept, y_end, y_tokens, y_pending, y_lines, y_classes, y_prints, y_place, y_steps, y_d, y_valTop, y_opTop, y_opens, y_pos, y_tk, y_tv, y_stmt, y_target, y_err, y_code, y_outcome, y_result, y_dry, y_want, y_starting, y_ended, y_bad, y_hosted, y_sawSuper, y_text, y_numbers, y_globals, y_entries, y_attrs, y_classOf, y_alive, y_orders, y_lengths, y_letters, y_bases, y_vals, y_ops, y_locals, y_fRecv, y_fLine, y_fPos, y_fStmt, y_fTarget, y_fMask, y_fHome, y_fOps, y_fVals, y_fNew, y_out) (nI t) := by
  unfold hs_rank at h
  refine pk_eq t 27 (fun e => ?_) (fun a => pk_eq t 28 (fun e => ?_) (fun b => pk_eq t 29 (fun e => ?_) (fun c => pk_eq t 30 (fun e => ?_) (fun d => pk_eq t 31 (fun e => ?_) (fun f => pk_eq t 32 (fun e => ?_) (fun g => ?_))))))
  · rw [if_pos (by omega)] at h; exact h
  · rw [if_pos (by omega)] at h; exact h
  · rw [if_neg (by omega), if_pos (by omega)] at h; exact h
  · rw [if_neg (by omega), if_pos (by omega)] at h; exact h
  · rw [if_neg (by omega), if_neg (by omega), if_pos (by omega)] at h; exact h
  · rw [if_neg (by omega), if_neg (by omega), if_pos (by omega)] at h; exact h
  · rw [if_neg (by omega), if_neg (by omega), if_neg (by omega)] at h; exact h
theorem hs_yValue {post : SY → Prop} {vt : Nat} (hv : vt < 320) {x : Int64} (h : post (y_maxObjects, y_maxSteps, y_maxDepth, y_kept, y_end, y_tokens, y_pending, y_lines, y_classes, y_prints, y_place, y_steps, y_d, nI (vt + 1), y_opTop, y_opens, y_pos, y_tk, y_tv, y_stmt, y_target, y_err, y_code, y_outcome, y_result, y_dry, 0, y_starting, y_ended, y_bad, y_hosted, y_sawSuper, y_text, y_numbers, y_globals, y_entries, y_attrs, y_classOf, y_alive, y_orders, y_lengths, y_letters, y_bases, vp_updL y_vals vt x, y_ops, y_locals, y_fRecv, y_fLine, y_fPos, y_fStmt, y_fTarget, y_fMask, y_fHome, y_fOps, y_fVals, y_fNew, y_out)) : wpY_value post (y_maxObjects, y_maxSteps, y_maxDepth, y_kept, y_end, y_tokens, y_pending, y_lines, y_classes, y_prints, y_place, y_steps, y_d, nI vt, y_opTop, y_opens, y_pos, y_tk, y_tv, y_stmt, y_target, y_err, y_code, y_outcome, y_result, y_dry, y_want, y_starting, y_ended, y_bad, y_hosted, y_sawSuper, y_text, y_numbers, y_globals, y_entries, y_attrs, y_classOf, y_alive, y_orders, y_lengths, y_letters, y_bases, y_vals, y_ops, y_locals, y_fRecv, y_fLine, y_fPos, y_fStmt, y_fTarget, y_fMask, y_fHome, y_fOps, y_fVals, y_fNew, y_out) x := by
  refine nm_r (nI_1 vt) (And.intro (vp_in_nI hv (by decide)) ?_)
  rw [nI_clamp (show vt < 2 ^ 31 by omega)]
  exact nm_e h
theorem hs_yValueInt {post : SY → Prop} {vt : Nat} (hv : vt < 320) {x : Int32} (h : post (y_maxObjects, y_maxSteps, y_maxDepth, y_kept, y_end, y_tokens, y_pending, y_lines, y_classes, y_prints, y_place, y_steps, y_d, nI (vt + 1), y_opTop, y_opens, y_pos, y_tk, y_tv, y_stmt, y_target, y_err, y_code, y_outcome, y_result, y_dry, 0, y_starting, y_ended, y_bad, y_hosted, y_sawSuper, y_text, y_numbers, y_globals, y_entries, y_attrs, y_classOf, y_alive, y_orders, y_lengths, y_letters, y_bases, vp_updL y_vals vt (hs_int x), y_ops, y_locals, y_fRecv, y_fLine, y_fPos, y_fStmt, y_fTarget, y_fMask, y_fHome, y_fOps, y_fVals, y_fNew, y_out)) : wpY_valueInt post (y_maxObjects, y_maxSteps, y_maxDepth, y_kept, y_end, y_tokens, y_pending, y_lines, y_classes, y_prints, y_place, y_steps, y_d, nI vt, y_opTop, y_opens, y_pos, y_tk, y_tv, y_stmt, y_target, y_err, y_code, y_outcome, y_result, y_dry, y_want, y_starting, y_ended, y_bad, y_hosted, y_sawSuper, y_text, y_numbers, y_globals, y_entries, y_attrs, y_classOf, y_alive, y_orders, y_lengths, y_letters, y_bases, y_vals, y_ops, y_locals, y_fRecv, y_fLine, y_fPos, y_fStmt, y_fTarget, y_fMask, y_fHome, y_fOps, y_fVals, y_fNew, y_out) x := by
  unfold wpY_valueInt wpY_int1
  exact hs_yValue hv h
theorem hs_yParenR {post : SY → Prop} {ot : Nat} (ho : ot < 320) {s : Int32} (h : post (y_maxObjects, y_maxSteps, y_maxDepth, y_kept, y_end, y_tokens, y_pending, y_lines, y_classes, y_prints, y_place, y_steps, y_d, y_valTop, nI (ot + 1), y_opens + 1, y_pos, y_tk, y_tv, y_stmt, y_target, y_err, y_code, y_outcome, y_result, 0, 1, y_starting, y_ended, y_bad, y_hosted, y_sawSuper, y_text, y_numbers, y_globals, y_entries, y_attrs, y_classOf, y_alive, y_orders, y_lengths, y_letters, y_bases, y_vals, upd y_ops ot s, y_locals, y_fRecv, y_fLine, y_fPos, y_fStmt, y_fTarget, y_fMask, y_fHome, y_fOps, y_fVals, y_fNew, y_out)) : wpY_paren post (y_maxObjects, y_maxSteps, y_maxDepth, y_kept, y_end, y_tokens, y_pending, y_lines, y_classes, y_prints, y_place, y_steps, y_d, y_valTop, nI ot, y_opens, y_pos, y_tk, y_tv, y_stmt, y_target, y_err, y_code, y_outcome, y_result, 0, y_want, y_starting, y_ended, y_bad, y_hosted, y_sawSuper, y_text, y_numbers, y_globals, y_entries, y_attrs, y_classOf, y_alive, y_orders, y_lengths, y_letters, y_bases, y_vals, y_ops, y_locals, y_fRecv, y_fLine, y_fPos, y_fStmt, y_fTarget, y_fMask, y_fHome, y_fOps, y_fVals, y_fNew, y_out) s := by
  refine nm_e (br_t rfl (nm_r (nI_1 ot) (And.intro (vp_in_nI ho (by decide)) ?_)))
  rw [nI_clamp (show ot < 2 ^ 31 by omega)]
  exact nm_e h
theorem hs_yParenD {post : SY → Prop} {ot on : Nat} (ho : ot < 320) (hn : on < 1000) {s : Int32} (h : on < 4 → post (y_maxObjects, y_maxSteps, y_maxDepth, y_kept, y_end, y_tokens, y_pending, y_lines, y_classes, y_prints, y_place, y_steps, y_d, y_valTop, nI (ot + 1), nI (on + 1), y_pos, y_tk, y_tv, y_stmt, y_target, y_err, y_code, y_outcome, y_result, 1, 1, y_starting, y_ended, y_bad, y_hosted, y_sawSuper, y_text, y_numbers, y_globals, y_entries, y_attrs, y_classOf, y_alive, y_orders, y_lengths, y_letters, y_bases, y_vals, upd y_ops ot s, y_locals, y_fRecv, y_fLine, y_fPos, y_fStmt, y_fTarget, y_fMask, y_fHome, y_fOps, y_fVals, y_fNew, y_out)) (hb : 4 ≤ on → post (y_maxObjects, y_maxSteps, y_maxDepth, y_kept, y_end, y_tokens, y_pending, y_lines, y_classes, y_prints, y_place, y_steps, y_d, y_valTop, nI (ot + 1), nI (on + 1), y_pos, y_tk, y_tv, y_stmt, y_target, y_err, y_code, y_outcome, y_result, 1, 1, y_starting, y_ended, 1, y_hosted, y_sawSuper, y_text, y_numbers, y_globals, y_entries, y_attrs, y_classOf, y_alive, y_orders, y_lengths, y_letters, y_bases, y_vals, upd y_ops ot s, y_locals, y_fRecv, y_fLine, y_fPos, y_fStmt, y_fTarget, y_fMask, y_fHome, y_fOps, y_fVals, y_fNew, y_out)) : wpY_paren post (y_maxObjects, y_maxSteps, y_maxDepth, y_kept, y_end, y_tokens, y_pending, y_lines, y_classes, y_prints, y_place, y_steps, y_d, y_valTop, nI ot, nI on, y_pos, y_tk, y_tv, y_stmt, y_target, y_err, y_code, y_outcome, y_result, 1, y_want, y_starting, y_ended, y_bad, y_hosted, y_sawSuper, y_text, y_numbers, y_globals, y_entries, y_attrs, y_classOf, y_alive, y_orders, y_lengths, y_letters, y_bases, y_vals, y_ops, y_locals, y_fRecv, y_fLine, y_fPos, y_fStmt, y_fTarget, y_fMask, y_fHome, y_fOps, y_fVals, y_fNew, y_out) s := by
  refine nm_r (nI_1 on) (br_f (by decide) (pk_le (on + 1) 4 (fun z => ?_) (fun z => ?_)))
  · refine nm_r (nI_1 ot) (And.intro (vp_in_nI ho (by decide)) ?_)
    rw [nI_clamp (show ot < 2 ^ 31 by omega)]
    exact nm_e (h (by omega))
  · refine nm_r (nI_1 ot) (And.intro (vp_in_nI ho (by decide)) ?_)
    rw [nI_clamp (show ot < 2 ^ 31 by omega)]
    exact nm_e (hb (by omega))
/-- the operators that wait, in Y's stack from base on -/
def hs_SA (ops : Nat → Int32) (base : Nat) : Nat → List Nat → Prop
  | top, [] => top = base
  | top, s :: r => ∃ t, top = t + 1 ∧ base ≤ t ∧ ops t = nI s ∧ s < 1048576 ∧ hs_SA ops base t r
theorem hs_SAlen {ops : Nat → Int32} {base : Nat} : ∀ {st : List Nat} {top : Nat}, hs_SA ops base top st → top = base + st.length
  | [], _, h => h
  | _ :: r, _, ⟨t, e, _, _, _, h⟩ => by have := hs_SAlen h; simp only [List.length_cons]; omega
theorem hs_SAupd {ops ops' : Nat → Int32} {base : Nat} : ∀ {st : List Nat} {top : Nat}, hs_SA ops base top st → (∀ k, base ≤ k → k < top → ops' k = ops k) → hs_SA ops' base top st
  | [], _, h, _ => h
  | _ :: r, _, ⟨t, e, e1, e2, e3, h⟩, hk => ⟨t, e, e1, (hk t e1 (by omega)).trans e2, e3, hs_SAupd h (fun k k1 k2 => hk k k1 (by omega))⟩
theorem hs_SApush {ops : Nat → Int32} {base top s : Nat} {st : List Nat} (h : hs_SA ops base top st) (hs : s < 1048576) : hs_SA (upd ops top (nI s)) base (top + 1) (s :: st) :=
  ⟨top, rfl, by have := hs_SAlen h; omega, pk_us, hs, hs_SAupd h (fun k _ k2 => pk_un (by omega))⟩
end
end
section
/-! put -/
section
variable {x_objectLimit x_stepLimit x_depthLimit x_pendingCount x_keptTokens x_keptLines x_lineCount x_codeCount x_cursor x_stop x_waitingCount x_openCount x_classCount x_callCount x_operandCount x_stepsTaken x_error x_raisedCode x_printCount x_lastPlace : Int32} {x_lastResult : Int64} {x_pending x_lineTable x_orders x_merging x_letterClass x_objectClass x_calls x_lastPrints : Nat → Int32} {x_code x_waiting x_globals x_entries x_attributes x_held x_operands : Nat → Int64}
variable {y_maxObjects y_maxSteps y_maxDepth y_kept y_end y_tokens y_pending y_lines y_classes y_prints y_place y_steps y_d y_valTop y_opTop y_opens y_pos y_tk y_tv y_stmt y_target y_err y_code y_outcome y_dry y_want y_starting y_ended y_bad y_hosted y_sawSuper : Int32} {y_result : Int64} {y_text y_numbers y_classOf y_alive y_orders y_lengths y_letters y_bases y_ops y_fLine y_fPos y_fStmt y_fTarget y_fMask y_fHome y_fOps y_fVals y_fNew y_out : Nat → Int32} {y_globals y_entries y_attrs y_vals y_locals y_fRecv : Nat → Int64}
def hs_nz (x : Int32) : Nat := if x = 0 then 0 else 1
def hs_good (x : Int32) : Prop := (1 ≤ x ∧ x ≤ 13) ∨ (21 ≤ x ∧ x ≤ 32) ∨ (40 ≤ x ∧ x ≤ 48) ∨ (100 ≤ x ∧ x ≤ 125) ∨ (130 ≤ x ∧ x ≤ 155) ∨ 1000 ≤ x
noncomputable def hs_norm (x : Int32) : Int32 := @ite Int32 (hs_good x) (Classical.propDecidable _) x 33
theorem hs_normT {x : Int32} (h : hs_good x) : hs_norm x = x := by unfold hs_norm; rw [if_pos h]
theorem hs_normF {x : Int32} (h : ¬ hs_good x) : hs_norm x = 33 := by unfold hs_norm; rw [if_neg h]
def hs_apd (pd : Nat → Int32) (pn : Nat) (x : Int32) : Nat → Int32 := if x = 0 then pd else upd pd pn x
noncomputable def hs_atx (tx : Nat → Int32) (e : Nat) (x : Int32) : Nat → Int32 := if x = 0 then tx else upd tx e (hs_norm x)
theorem hs_nzLe (x : Int32) : hs_nz x ≤ 1 := by unfold hs_nz; split <;> omega
theorem hs_xAdd {pd : Nat → Int32} {pn : Nat} {x : Int32} (hp : pn + hs_nz x ≤ 400) {post : SX → Prop} (h : post (x_objectLimit, x_stepLimit, x_depthLimit, nI (pn + hs_nz x), x_keptTokens, x_keptLines, x_lineCount, x_codeCount, x_cursor, x_stop, x_waitingCount, x_openCount, x_classCount, x_callCount, x_operandCount, x_stepsTaken, x_error, x_raisedCode, x_printCount, x_lastResult, x_lastPlace, hs_apd pd pn x, x_lineTable, x_code, x_waiting, x_globals, x_entries, x_orders, x_merging, x_letterClass, x_objectClass, x_attributes, x_calls, x_held, x_operands, x_lastPrints)) : wpX_addToken post (x_objectLimit, x_stepLimit, x_depthLimit, nI pn, x_keptTokens, x_keptLines, x_lineCount, x_codeCount, x_cursor, x_stop, x_waitingCount, x_openCount, x_classCount, x_callCount, x_operandCount, x_stepsTaken, x_error, x_raisedCode, x_printCount, x_lastResult, x_lastPlace, pd, x_lineTable, x_code, x_waiting, x_globals, x_entries, x_orders, x_merging, x_letterClass, x_objectClass, x_attributes, x_calls, x_held, x_operands, x_lastPrints) x := by
  unfold hs_apd at h
  unfold hs_nz at h hp
  by_cases e : x = 0
  · rw [if_pos e, if_pos e] at h; exact br_t e h
  · rw [if_neg e, if_neg e] at h
    rw [if_neg e] at hp
    refine br_f e (br_f (nI_ge (b := 400) (by omega) (by decide)) (And.intro (vp_in_nI (by omega) (by decide)) ?_))
    rw [nI_clamp (show pn < 2 ^ 31 by omega)]
    exact nm_e (nm_r (nI_1 pn) h)
theorem hs_yAdd78 {tx : Nat → Int32} {e : Nat} {x : Int32} (he : e < 1024) {post : SY → Prop} (b : Int32) (y : Int32) (hy : y = if b = 0 then 33 else x) (h : post (y_maxObjects, y_maxSteps, y_maxDepth, y_kept, nI (e + 1), y_tokens, y_pending, y_lines, y_classes, y_prints, y_place, y_steps, y_d, y_valTop, y_opTop, y_opens, y_pos, y_tk, y_tv, y_stmt, y_target, y_err, y_code, y_outcome, y_result, y_dry, y_want, y_starting, y_ended, y_bad, y_hosted, y_sawSuper, upd tx e y, y_numbers, y_globals, y_entries, y_attrs, y_classOf, y_alive, y_orders, y_lengths, y_letters, y_bases, y_vals, y_ops, y_locals, y_fRecv, y_fLine, y_fPos, y_fStmt, y_fTarget, y_fMask, y_fHome, y_fOps, y_fVals, y_fNew, y_out)) : wY_add_78 post x b y_maxObjects y_maxSteps y_maxDepth y_kept (nI e) y_tokens y_pending y_lines y_classes y_prints y_place y_steps y_d y_valTop y_opTop y_opens y_pos y_tk y_tv y_stmt y_target y_err y_code y_outcome y_result y_dry y_want y_starting y_ended y_bad y_hosted y_sawSuper tx y_numbers y_globals y_entries y_attrs y_classOf y_alive y_orders y_lengths y_letters y_bases y_vals y_ops y_locals y_fRecv y_fLine y_fPos y_fStmt y_fTarget y_fMask y_fHome y_fOps y_fVals y_fNew y_out := by
  refine nm_r (nI_1 e) ?_
  by_cases z : b = 0
  · rw [if_pos z] at hy
    subst hy
    refine br_t z (And.intro (vp_in_nI he (by decide)) ?_)
    rw [nI_clamp (show e < 2 ^ 31 by omega)]
    exact nm_e h
  · rw [if_neg z] at hy
    subst hy
    refine br_f z (And.intro (vp_in_nI he (by decide)) ?_)
    rw [nI_clamp (show e < 2 ^ 31 by omega)]
    exact nm_e h
theorem hs_yAdd {tx : Nat → Int32} {e : Nat} {x : Int32} (he : e < 1024) {post : SY → Prop} (h : post (y_maxObjects, y_maxSteps, y_maxDepth, y_kept, nI (e + hs_nz x), y_tokens, y_pending, y_lines, y_classes, y_prints, y_place, y_steps, y_d, y_valTop, y_opTop, y_opens, y_pos, y_tk, y_tv, y_stmt, y_target, y_err, y_code, y_outcome, y_result, y_dry, y_want, y_starting, y_ended, y_bad, y_hosted, y_sawSuper, hs_atx tx e x, y_numbers, y_globals, y_entries, y_attrs, y_classOf, y_alive, y_orders, y_lengths, y_letters, y_bases, y_vals, y_ops, y_locals, y_fRecv, y_fLine, y_fPos, y_fStmt, y_fTarget, y_fMask, y_fHome, y_fOps, y_fVals, y_fNew, y_out)) : wpY_add post (y_maxObjects, y_maxSteps, y_maxDepth, y_kept, nI e, y_tokens, y_pending, y_lines, y_classes, y_prints, y_place, y_steps, y_d, y_valTop, y_opTop, y_opens, y_pos, y_tk, y_tv, y_stmt, y_target, y_err, y_code, y_outcome, y_result, y_dry, y_want, y_starting, y_ended, y_bad, y_hosted, y_sawSuper, tx, y_numbers, y_globals, y_entries, y_attrs, y_classOf, y_alive, y_orders, y_lengths, y_letters, y_bases, y_vals, y_ops, y_locals, y_fRecv, y_fLine, y_fPos, y_fStmt, y_fTarget, y_fMask, y_fHome, y_fOps, y_fVals, y_fNew, y_out) x := by
  unfold hs_atx at h
  unfold hs_nz at h
  by_cases z : x = 0
  · rw [if_pos z, if_pos z] at h; exact br_t z h
  · rw [if_neg z, if_neg z] at h
    refine br_f z ?_
    by_cases g : hs_good x
    · rw [hs_normT g] at h
      have fin : wY_add_78 post x 1 y_maxObjects y_maxSteps y_maxDepth y_kept (nI e) y_tokens y_pending y_lines y_classes y_prints y_place y_steps y_d y_valTop y_opTop y_opens y_pos y_tk y_tv y_stmt y_target y_err y_code y_outcome y_result y_dry y_want y_starting y_ended y_bad y_hosted y_sawSuper tx y_numbers y_globals y_entries y_attrs y_classOf y_alive y_orders y_lengths y_letters y_bases y_vals y_ops y_locals y_fRecv y_fLine y_fPos y_fStmt y_fTarget y_fMask y_fHome y_fOps y_fVals y_fNew y_out := hs_yAdd78 he 1 x (by rw [if_neg (by decide)]) h
      by_cases g1 : x < 1
      · exfalso
        have h0 : (0 : Int32).toInt = 0 := by decide
        have h1 : (1 : Int32).toInt = 1 := by decide
        have h2 : (21 : Int32).toInt = 21 := by decide
        have h3 : (40 : Int32).toInt = 40 := by decide
        have h4 : (100 : Int32).toInt = 100 := by decide
        have h5 : (130 : Int32).toInt = 130 := by decide
        have h6 : (1000 : Int32).toInt = 1000 := by decide
        unfold hs_good at g
        simp only [Int32.le_iff_toInt_le, Int32.lt_iff_toInt_lt, h1, h2, h3, h4, h5, h6] at g g1
        omega
      · refine br_f g1 ?_
        have nl : ∀ {a b : Int32}, ¬ a < b → b ≤ a := fun h => Int32.not_lt.mp h
        have nt : ∀ {a b : Int32}, b ≤ a → ¬ a < b := fun h => Int32.not_lt.mpr h
        by_cases a1 : x ≤ 13
        · exact br_t a1 fin
        refine br_f a1 ?_
        have r66 : (x < 1000 → False) → wY_add_66 post x y_maxObjects y_maxSteps y_maxDepth y_kept (nI e) y_tokens y_pending y_lines y_classes y_prints y_place y_steps y_d y_valTop y_opTop y_opens y_pos y_tk y_tv y_stmt y_target y_err y_code y_outcome y_result y_dry y_want y_starting y_ended y_bad y_hosted y_sawSuper tx y_numbers y_globals y_entries y_attrs y_classOf y_alive y_orders y_lengths y_letters y_bases y_vals y_ops y_locals y_fRecv y_fLine y_fPos y_fStmt y_fTarget y_fMask y_fHome y_fOps y_fVals y_fNew y_out := fun k => br_f k fin
        have r52 : ((130 ≤ x ∧ x ≤ 155) ∨ 1000 ≤ x) → wY_add_52 post x y_maxObjects y_maxSteps y_maxDepth y_kept (nI e) y_tokens y_pending y_lines y_classes y_prints y_place y_steps y_d y_valTop y_opTop y_opens y_pos y_tk y_tv y_stmt y_target y_err y_code y_outcome y_result y_dry y_want y_starting y_ended y_bad y_hosted y_sawSuper tx y_numbers y_globals y_entries y_attrs y_classOf y_alive y_orders y_lengths y_letters y_bases y_vals y_ops y_locals y_fRecv y_fLine y_fPos y_fStmt y_fTarget y_fMask y_fHome y_fOps y_fVals y_fNew y_out := by
          intro k
          by_cases b1 : x < 130
          · refine br_t b1 (r66 ?_)
            rcases k with ⟨k, _⟩ | k
            · exact absurd b1 (nt k)
            · exact nt k
          · refine br_f b1 ?_
            by_cases b2 : x ≤ 155
            · exact br_t b2 fin
            · refine br_f b2 (r66 ?_)
              rcases k with ⟨_, k⟩ | k
              · exact absurd k b2
              · exact nt k
        have r40 : ((100 ≤ x ∧ x ≤ 125) ∨ (130 ≤ x ∧ x ≤ 155) ∨ 1000 ≤ x) → wY_add_40 post x y_maxObjects y_maxSteps y_maxDepth y_kept (nI e) y_tokens y_pending y_lines y_classes y_prints y_place y_steps y_d y_valTop y_opTop y_opens y_pos y_tk y_tv y_stmt y_target y_err y_code y_outcome y_result y_dry y_want y_starting y_ended y_bad y_hosted y_sawSuper tx y_numbers y_globals y_entries y_attrs y_classOf y_alive y_orders y_lengths y_letters y_bases y_vals y_ops y_locals y_fRecv y_fLine y_fPos y_fStmt y_fTarget y_fMask y_fHome y_fOps y_fVals y_fNew y_out := by
          intro k
          by_cases b1 : x < 100
          · exact br_t b1 (r52 (k.resolve_left fun q => nt q.1 b1))
          · refine br_f b1 ?_
            by_cases b2 : x ≤ 125
            · exact br_t b2 fin
            · exact br_f b2 (r52 (k.resolve_left fun q => b2 q.2))
        have r28 : ((40 ≤ x ∧ x ≤ 48) ∨ (100 ≤ x ∧ x ≤ 125) ∨ (130 ≤ x ∧ x ≤ 155) ∨ 1000 ≤ x) → wY_add_28 post x y_maxObjects y_maxSteps y_maxDepth y_kept (nI e) y_tokens y_pending y_lines y_classes y_prints y_place y_steps y_d y_valTop y_opTop y_opens y_pos y_tk y_tv y_stmt y_target y_err y_code y_outcome y_result y_dry y_want y_starting y_ended y_bad y_hosted y_sawSuper tx y_numbers y_globals y_entries y_attrs y_classOf y_alive y_orders y_lengths y_letters y_bases y_vals y_ops y_locals y_fRecv y_fLine y_fPos y_fStmt y_fTarget y_fMask y_fHome y_fOps y_fVals y_fNew y_out := by
          intro k
          by_cases b1 : x < 40
          · exact br_t b1 (r40 (k.resolve_left fun q => nt q.1 b1))
          · refine br_f b1 ?_
            by_cases b2 : x ≤ 48
            · exact br_t b2 fin
            · exact br_f b2 (r40 (k.resolve_left fun q => b2 q.2))
        have k := g.resolve_left (fun q => a1 q.2)
        by_cases b1 : x < 21
        · exact br_t b1 (r28 (k.resolve_left fun q => nt q.1 b1))
        · refine br_f b1 ?_
          by_cases b2 : x ≤ 32
          · exact br_t b2 fin
          · exact br_f b2 (r28 (k.resolve_left fun q => b2 q.2))
    · rw [hs_normF g] at h
      have fin : wY_add_78 post x 0 y_maxObjects y_maxSteps y_maxDepth y_kept (nI e) y_tokens y_pending y_lines y_classes y_prints y_place y_steps y_d y_valTop y_opTop y_opens y_pos y_tk y_tv y_stmt y_target y_err y_code y_outcome y_result y_dry y_want y_starting y_ended y_bad y_hosted y_sawSuper tx y_numbers y_globals y_entries y_attrs y_classOf y_alive y_orders y_lengths y_letters y_bases y_vals y_ops y_locals y_fRecv y_fLine y_fPos y_fStmt y_fTarget y_fMask y_fHome y_fOps y_fVals y_fNew y_out := hs_yAdd78 he 0 33 (by rw [if_pos rfl]) h
      unfold hs_good at g
      have nl : ∀ {a b : Int32}, ¬ a < b → b ≤ a := fun h => Int32.not_lt.mp h
      have r66 : wY_add_66 post x y_maxObjects y_maxSteps y_maxDepth y_kept (nI e) y_tokens y_pending y_lines y_classes y_prints y_place y_steps y_d y_valTop y_opTop y_opens y_pos y_tk y_tv y_stmt y_target y_err y_code y_outcome y_result y_dry y_want y_starting y_ended y_bad y_hosted y_sawSuper tx y_numbers y_globals y_entries y_attrs y_classOf y_alive y_orders y_lengths y_letters y_bases y_vals y_ops y_locals y_fRecv y_fLine y_fPos y_fStmt y_fTarget y_fMask y_fHome y_fOps y_fVals y_fNew y_out := by
        by_cases b1 : x < 1000
        · exact br_t b1 fin
        · exact absurd (Or.inr (Or.inr (Or.inr (Or.inr (Or.inr (nl b1)))))) g
      have r52 : wY_add_52 post x y_maxObjects y_maxSteps y_maxDepth y_kept (nI e) y_tokens y_pending y_lines y_classes y_prints y_place y_steps y_d y_valTop y_opTop y_opens y_pos y_tk y_tv y_stmt y_target y_err y_code y_outcome y_result y_dry y_want y_starting y_ended y_bad y_hosted y_sawSuper tx y_numbers y_globals y_entries y_attrs y_classOf y_alive y_orders y_lengths y_letters y_bases y_vals y_ops y_locals y_fRecv y_fLine y_fPos y_fStmt y_fTarget y_fMask y_fHome y_fOps y_fVals y_fNew y_out := by
        by_cases b1 : x < 130
        · exact br_t b1 r66
        · by_cases b2 : x ≤ 155
          · exact absurd (Or.inr (Or.inr (Or.inr (Or.inr (Or.inl ⟨nl b1, b2⟩))))) g
          · exact br_f b1 (br_f b2 r66)
      have r40 : wY_add_40 post x y_maxObjects y_maxSteps y_maxDepth y_kept (nI e) y_tokens y_pending y_lines y_classes y_prints y_place y_steps y_d y_valTop y_opTop y_opens y_pos y_tk y_tv y_stmt y_target y_err y_code y_outcome y_result y_dry y_want y_starting y_ended y_bad y_hosted y_sawSuper tx y_numbers y_globals y_entries y_attrs y_classOf y_alive y_orders y_lengths y_letters y_bases y_vals y_ops y_locals y_fRecv y_fLine y_fPos y_fStmt y_fTarget y_fMask y_fHome y_fOps y_fVals y_fNew y_out := by
        by_cases b1 : x < 100
        · exact br_t b1 r52
        · by_cases b2 : x ≤ 125
          · exact absurd (Or.inr (Or.inr (Or.inr (Or.inl ⟨nl b1, b2⟩)))) g
          · exact br_f b1 (br_f b2 r52)
      have r28 : wY_add_28 post x y_maxObjects y_maxSteps y_maxDepth y_kept (nI e) y_tokens y_pending y_lines y_classes y_prints y_place y_steps y_d y_valTop y_opTop y_opens y_pos y_tk y_tv y_stmt y_target y_err y_code y_outcome y_result y_dry y_want y_starting y_ended y_bad y_hosted y_sawSuper tx y_numbers y_globals y_entries y_attrs y_classOf y_alive y_orders y_lengths y_letters y_bases y_vals y_ops y_locals y_fRecv y_fLine y_fPos y_fStmt y_fTarget y_fMask y_fHome y_fOps y_fVals y_fNew y_out := by
        by_cases b1 : x < 40
        · exact br_t b1 r40
        · by_cases b2 : x ≤ 48
          · exact absurd (Or.inr (Or.inr (Or.inl ⟨nl b1, b2⟩))) g
          · exact br_f b1 (br_f b2 r40)
      have r16 : wY_add_16 post x y_maxObjects y_maxSteps y_maxDepth y_kept (nI e) y_tokens y_pending y_lines y_classes y_prints y_place y_steps y_d y_valTop y_opTop y_opens y_pos y_tk y_tv y_stmt y_target y_err y_code y_outcome y_result y_dry y_want y_starting y_ended y_bad y_hosted y_sawSuper tx y_numbers y_globals y_entries y_attrs y_classOf y_alive y_orders y_lengths y_letters y_bases y_vals y_ops y_locals y_fRecv y_fLine y_fPos y_fStmt y_fTarget y_fMask y_fHome y_fOps y_fVals y_fNew y_out := by
        by_cases b1 : x < 21
        · exact br_t b1 r28
        · by_cases b2 : x ≤ 32
          · exact absurd (Or.inr (Or.inl ⟨nl b1, b2⟩)) g
          · exact br_f b1 (br_f b2 r28)
      by_cases b1 : x < 1
      · exact br_t b1 r16
      · by_cases b2 : x ≤ 13
        · exact absurd (Or.inl ⟨nl b1, b2⟩) g
        · exact br_f b1 (br_f b2 r16)
def hs_ap4 (pd : Nat → Int32) (pn : Nat) (a b c d : Int32) : Nat → Int32 := hs_apd (hs_apd (hs_apd (hs_apd pd pn a) (pn + hs_nz a) b) (pn + hs_nz a + hs_nz b) c) (pn + hs_nz a + hs_nz b + hs_nz c) d
noncomputable def hs_at4 (pd : Nat → Int32) (pn : Nat) (a b c d : Int32) : Nat → Int32 := hs_atx (hs_atx (hs_atx (hs_atx pd pn a) (pn + hs_nz a) b) (pn + hs_nz a + hs_nz b) c) (pn + hs_nz a + hs_nz b + hs_nz c) d
theorem hs_nzB {x : Int32} {A B : Prop} (h0 : hs_nz x = 0 → A) (h1 : hs_nz x = 1 → B) : (x = 0 → A) ∧ (¬ x = 0 → B) := by
  unfold hs_nz at *
  by_cases e : x = 0
  · rw [if_pos e] at h0; exact br_t e (h0 rfl)
  · rw [if_neg e] at h1; exact br_f e (h1 rfl)
theorem hs_xPut39 {pd : Nat → Int32} {pn kt q z : Nat} {a b c d : Int32} (hq : q + z = hs_nz a + hs_nz b + hs_nz c + hs_nz d) (hp : kt + pn ≤ 400) {post : Int32 → SX → Prop}
    (h1 : kt + pn + hs_nz a + hs_nz b + hs_nz c + hs_nz d ≤ 400 → post (nI (kt + (pn + hs_nz a + hs_nz b + hs_nz c + hs_nz d))) (x_objectLimit, x_stepLimit, x_depthLimit, nI (pn + hs_nz a + hs_nz b + hs_nz c + hs_nz d), nI kt, x_keptLines, x_lineCount, x_codeCount, x_cursor, x_stop, x_waitingCount, x_openCount, x_classCount, x_callCount, x_operandCount, x_stepsTaken, x_error, x_raisedCode, x_printCount, x_lastResult, x_lastPlace, hs_ap4 pd pn a b c d, x_lineTable, x_code, x_waiting, x_globals, x_entries, x_orders, x_merging, x_letterClass, x_objectClass, x_attributes, x_calls, x_held, x_operands, x_lastPrints))
    (h0 : 400 < kt + pn + hs_nz a + hs_nz b + hs_nz c + hs_nz d → post (-1) (x_objectLimit, x_stepLimit, x_depthLimit, nI pn, nI kt, x_keptLines, x_lineCount, x_codeCount, x_cursor, x_stop, x_waitingCount, x_openCount, x_classCount, x_callCount, x_operandCount, x_stepsTaken, x_error, x_raisedCode, x_printCount, x_lastResult, x_lastPlace, pd, x_lineTable, x_code, x_waiting, x_globals, x_entries, x_orders, x_merging, x_letterClass, x_objectClass, x_attributes, x_calls, x_held, x_operands, x_lastPrints)) : wX_put_39 post a b c d (nI z) (nI q) x_objectLimit x_stepLimit x_depthLimit (nI pn) (nI kt) x_keptLines x_lineCount x_codeCount x_cursor x_stop x_waitingCount x_openCount x_classCount x_callCount x_operandCount x_stepsTaken x_error x_raisedCode x_printCount x_lastResult x_lastPlace pd x_lineTable x_code x_waiting x_globals x_entries x_orders x_merging x_letterClass x_objectClass x_attributes x_calls x_held x_operands x_lastPrints := by
  refine nm_r (nI_add q z) ?_
  rw [nI_add, nI_add]
  have := hs_nzLe a
  have := hs_nzLe b
  have := hs_nzLe c
  have := hs_nzLe d
  refine pk_le (kt + pn + (q + z)) 400 (fun le => ?_) (fun gt => h0 (by omega))
  refine hs_xAdd (by omega) (hs_xAdd (by omega) (hs_xAdd (by omega) (hs_xAdd (by omega) ?_)))
  show post (nI kt + nI _) _
  rw [nI_add]
  exact h1 (by omega)
theorem hs_xPut {pd : Nat → Int32} {pn kt : Nat} {a b c d : Int32} (hp : kt + pn ≤ 400) {post : Int32 → SX → Prop}
    (h1 : kt + pn + hs_nz a + hs_nz b + hs_nz c + hs_nz d ≤ 400 → post (nI (kt + (pn + hs_nz a + hs_nz b + hs_nz c + hs_nz d))) (x_objectLimit, x_stepLimit, x_depthLimit, nI (pn + hs_nz a + hs_nz b + hs_nz c + hs_nz d), nI kt, x_keptLines, x_lineCount, x_codeCount, x_cursor, x_stop, x_waitingCount, x_openCount, x_classCount, x_callCount, x_operandCount, x_stepsTaken, x_error, x_raisedCode, x_printCount, x_lastResult, x_lastPlace, hs_ap4 pd pn a b c d, x_lineTable, x_code, x_waiting, x_globals, x_entries, x_orders, x_merging, x_letterClass, x_objectClass, x_attributes, x_calls, x_held, x_operands, x_lastPrints))
    (h0 : 400 < kt + pn + hs_nz a + hs_nz b + hs_nz c + hs_nz d → post (-1) (x_objectLimit, x_stepLimit, x_depthLimit, nI pn, nI kt, x_keptLines, x_lineCount, x_codeCount, x_cursor, x_stop, x_waitingCount, x_openCount, x_classCount, x_callCount, x_operandCount, x_stepsTaken, x_error, x_raisedCode, x_printCount, x_lastResult, x_lastPlace, pd, x_lineTable, x_code, x_waiting, x_globals, x_entries, x_orders, x_merging, x_letterClass, x_objectClass, x_attributes, x_calls, x_held, x_operands, x_lastPrints)) : wpX_put post (x_objectLimit, x_stepLimit, x_depthLimit, nI pn, nI kt, x_keptLines, x_lineCount, x_codeCount, x_cursor, x_stop, x_waitingCount, x_openCount, x_classCount, x_callCount, x_operandCount, x_stepsTaken, x_error, x_raisedCode, x_printCount, x_lastResult, x_lastPlace, pd, x_lineTable, x_code, x_waiting, x_globals, x_entries, x_orders, x_merging, x_letterClass, x_objectClass, x_attributes, x_calls, x_held, x_operands, x_lastPrints) a b c d := by
  have L : ∀ q z : Nat, q + z = hs_nz a + hs_nz b + hs_nz c + hs_nz d → wX_put_39 post a b c d (nI z) (nI q) x_objectLimit x_stepLimit x_depthLimit (nI pn) (nI kt) x_keptLines x_lineCount x_codeCount x_cursor x_stop x_waitingCount x_openCount x_classCount x_callCount x_operandCount x_stepsTaken x_error x_raisedCode x_printCount x_lastResult x_lastPlace pd x_lineTable x_code x_waiting x_globals x_entries x_orders x_merging x_letterClass x_objectClass x_attributes x_calls x_held x_operands x_lastPrints := fun q z hq => hs_xPut39 hq hp h1 h0
  have L28 : ∀ q z : Nat, q + z = hs_nz a + hs_nz b + hs_nz c → wX_put_28 post a b c d (nI z) (nI q) x_objectLimit x_stepLimit x_depthLimit (nI pn) (nI kt) x_keptLines x_lineCount x_codeCount x_cursor x_stop x_waitingCount x_openCount x_classCount x_callCount x_operandCount x_stepsTaken x_error x_raisedCode x_printCount x_lastResult x_lastPlace pd x_lineTable x_code x_waiting x_globals x_entries x_orders x_merging x_letterClass x_objectClass x_attributes x_calls x_held x_operands x_lastPrints := fun q z hq => by
    unfold wX_put_28
    rw [nI_add]
    exact hs_nzB (fun e => L (q + z) 0 (by omega)) (fun e => L (q + z) 1 (by omega))
  have L18 : ∀ q z : Nat, q + z = hs_nz a + hs_nz b → wX_put_18 post a b c d (nI z) (nI q) x_objectLimit x_stepLimit x_depthLimit (nI pn) (nI kt) x_keptLines x_lineCount x_codeCount x_cursor x_stop x_waitingCount x_openCount x_classCount x_callCount x_operandCount x_stepsTaken x_error x_raisedCode x_printCount x_lastResult x_lastPlace pd x_lineTable x_code x_waiting x_globals x_entries x_orders x_merging x_letterClass x_objectClass x_attributes x_calls x_held x_operands x_lastPrints := fun q z hq => by
    unfold wX_put_18
    rw [nI_add]
    exact hs_nzB (fun e => L28 (q + z) 0 (by omega)) (fun e => L28 (q + z) 1 (by omega))
  have L9 : ∀ q : Nat, q = hs_nz a → wX_put_9 post a b c d (nI q) x_objectLimit x_stepLimit x_depthLimit (nI pn) (nI kt) x_keptLines x_lineCount x_codeCount x_cursor x_stop x_waitingCount x_openCount x_classCount x_callCount x_operandCount x_stepsTaken x_error x_raisedCode x_printCount x_lastResult x_lastPlace pd x_lineTable x_code x_waiting x_globals x_entries x_orders x_merging x_letterClass x_objectClass x_attributes x_calls x_held x_operands x_lastPrints := fun q hq => by
    exact hs_nzB (fun e => L18 q 0 (by omega)) (fun e => L18 q 1 (by omega))
  exact hs_nzB (fun e => L9 0 (by omega)) (fun e => L9 1 (by omega))
theorem hs_yPut39 {tx : Nat → Int32} {pn kt q z e : Nat} {a b c d : Int32} (hq : q + z = hs_nz a + hs_nz b + hs_nz c + hs_nz d) (hp : kt + pn ≤ 400) (he : e < 1000) {post : Int32 → SY → Prop}
    (h1 : kt + pn + hs_nz a + hs_nz b + hs_nz c + hs_nz d ≤ 400 → post (nI (kt + (pn + hs_nz a + hs_nz b + hs_nz c + hs_nz d))) (y_maxObjects, y_maxSteps, y_maxDepth, y_kept, nI (e + hs_nz a + hs_nz b + hs_nz c + hs_nz d), nI kt, nI (pn + hs_nz a + hs_nz b + hs_nz c + hs_nz d), y_lines, y_classes, y_prints, y_place, y_steps, y_d, y_valTop, y_opTop, y_opens, y_pos, y_tk, y_tv, y_stmt, y_target, y_err, y_code, y_outcome, y_result, y_dry, y_want, y_starting, y_ended, y_bad, y_hosted, y_sawSuper, hs_at4 tx e a b c d, y_numbers, y_globals, y_entries, y_attrs, y_classOf, y_alive, y_orders, y_lengths, y_letters, y_bases, y_vals, y_ops, y_locals, y_fRecv, y_fLine, y_fPos, y_fStmt, y_fTarget, y_fMask, y_fHome, y_fOps, y_fVals, y_fNew, y_out))
    (h0 : 400 < kt + pn + hs_nz a + hs_nz b + hs_nz c + hs_nz d → post (-1) (y_maxObjects, y_maxSteps, y_maxDepth, y_kept, nI e, nI kt, nI pn, y_lines, y_classes, y_prints, y_place, y_steps, y_d, y_valTop, y_opTop, y_opens, y_pos, y_tk, y_tv, y_stmt, y_target, y_err, y_code, y_outcome, y_result, y_dry, y_want, y_starting, y_ended, y_bad, y_hosted, y_sawSuper, tx, y_numbers, y_globals, y_entries, y_attrs, y_classOf, y_alive, y_orders, y_lengths, y_letters, y_bases, y_vals, y_ops, y_locals, y_fRecv, y_fLine, y_fPos, y_fStmt, y_fTarget, y_fMask, y_fHome, y_fOps, y_fVals, y_fNew, y_out)) : wY_put_39 post a b c d (nI z) (nI q) y_maxObjects y_maxSteps y_maxDepth y_kept (nI e) (nI kt) (nI pn) y_lines y_classes y_prints y_place y_steps y_d y_valTop y_opTop y_opens y_pos y_tk y_tv y_stmt y_target y_err y_code y_outcome y_result y_dry y_want y_starting y_ended y_bad y_hosted y_sawSuper tx y_numbers y_globals y_entries y_attrs y_classOf y_alive y_orders y_lengths y_letters y_bases y_vals y_ops y_locals y_fRecv y_fLine y_fPos y_fStmt y_fTarget y_fMask y_fHome y_fOps y_fVals y_fNew y_out := by
  refine nm_r (nI_add q z) ?_
  rw [nI_add, nI_add]
  have := hs_nzLe a
  have := hs_nzLe b
  have := hs_nzLe c
  have := hs_nzLe d
  refine pk_le (kt + pn + (q + z)) 400 (fun le => ?_) (fun gt => h0 (by omega))
  refine hs_yAdd (by omega) (hs_yAdd (by omega) (hs_yAdd (by omega) (hs_yAdd (by omega) ?_)))
  have e3 : pn + (q + z) = pn + hs_nz a + hs_nz b + hs_nz c + hs_nz d := by omega
  refine nm_r (nI_add pn (q + z)) ?_
  rw [nI_add, e3]
  exact h1 (by omega)
theorem hs_yPut {tx : Nat → Int32} {pn kt e : Nat} {a b c d : Int32} (hp : kt + pn ≤ 400) (he : e < 1000) {post : Int32 → SY → Prop}
    (h1 : kt + pn + hs_nz a + hs_nz b + hs_nz c + hs_nz d ≤ 400 → post (nI (kt + (pn + hs_nz a + hs_nz b + hs_nz c + hs_nz d))) (y_maxObjects, y_maxSteps, y_maxDepth, y_kept, nI (e + hs_nz a + hs_nz b + hs_nz c + hs_nz d), nI kt, nI (pn + hs_nz a + hs_nz b + hs_nz c + hs_nz d), y_lines, y_classes, y_prints, y_place, y_steps, y_d, y_valTop, y_opTop, y_opens, y_pos, y_tk, y_tv, y_stmt, y_target, y_err, y_code, y_outcome, y_result, y_dry, y_want, y_starting, y_ended, y_bad, y_hosted, y_sawSuper, hs_at4 tx e a b c d, y_numbers, y_globals, y_entries, y_attrs, y_classOf, y_alive, y_orders, y_lengths, y_letters, y_bases, y_vals, y_ops, y_locals, y_fRecv, y_fLine, y_fPos, y_fStmt, y_fTarget, y_fMask, y_fHome, y_fOps, y_fVals, y_fNew, y_out))
    (h0 : 400 < kt + pn + hs_nz a + hs_nz b + hs_nz c + hs_nz d → post (-1) (y_maxObjects, y_maxSteps, y_maxDepth, y_kept, nI e, nI kt, nI pn, y_lines, y_classes, y_prints, y_place, y_steps, y_d, y_valTop, y_opTop, y_opens, y_pos, y_tk, y_tv, y_stmt, y_target, y_err, y_code, y_outcome, y_result, y_dry, y_want, y_starting, y_ended, y_bad, y_hosted, y_sawSuper, tx, y_numbers, y_globals, y_entries, y_attrs, y_classOf, y_alive, y_orders, y_lengths, y_letters, y_bases, y_vals, y_ops, y_locals, y_fRecv, y_fLine, y_fPos, y_fStmt, y_fTarget, y_fMask, y_fHome, y_fOps, y_fVals, y_fNew, y_out)) : wpY_put post (y_maxObjects, y_maxSteps, y_maxDepth, y_kept, nI e, nI kt, nI pn, y_lines, y_classes, y_prints, y_place, y_steps, y_d, y_valTop, y_opTop, y_opens, y_pos, y_tk, y_tv, y_stmt, y_target, y_err, y_code, y_outcome, y_result, y_dry, y_want, y_starting, y_ended, y_bad, y_hosted, y_sawSuper, tx, y_numbers, y_globals, y_entries, y_attrs, y_classOf, y_alive, y_orders, y_lengths, y_letters, y_bases, y_vals, y_ops, y_locals, y_fRecv, y_fLine, y_fPos, y_fStmt, y_fTarget, y_fMask, y_fHome, y_fOps, y_fVals, y_fNew, y_out) a b c d := by
  have L : ∀ q z : Nat, q + z = hs_nz a + hs_nz b + hs_nz c + hs_nz d → wY_put_39 post a b c d (nI z) (nI q) y_maxObjects y_maxSteps y_maxDepth y_kept (nI e) (nI kt) (nI pn) y_lines y_classes y_prints y_place y_steps y_d y_valTop y_opTop y_opens y_pos y_tk y_tv y_stmt y_target y_err y_code y_outcome y_result y_dry y_want y_starting y_ended y_bad y_hosted y_sawSuper tx y_numbers y_globals y_entries y_attrs y_classOf y_alive y_orders y_lengths y_letters y_bases y_vals y_ops y_locals y_fRecv y_fLine y_fPos y_fStmt y_fTarget y_fMask y_fHome y_fOps y_fVals y_fNew y_out := fun q z hq => hs_yPut39 hq hp he h1 h0
  have L28 : ∀ q z : Nat, q + z = hs_nz a + hs_nz b + hs_nz c → wY_put_28 post a b c d (nI z) (nI q) y_maxObjects y_maxSteps y_maxDepth y_kept (nI e) (nI kt) (nI pn) y_lines y_classes y_prints y_place y_steps y_d y_valTop y_opTop y_opens y_pos y_tk y_tv y_stmt y_target y_err y_code y_outcome y_result y_dry y_want y_starting y_ended y_bad y_hosted y_sawSuper tx y_numbers y_globals y_entries y_attrs y_classOf y_alive y_orders y_lengths y_letters y_bases y_vals y_ops y_locals y_fRecv y_fLine y_fPos y_fStmt y_fTarget y_fMask y_fHome y_fOps y_fVals y_fNew y_out := fun q z hq => by
    unfold wY_put_28
    rw [nI_add]
    exact hs_nzB (fun e => L (q + z) 0 (by omega)) (fun e => L (q + z) 1 (by omega))
  have L18 : ∀ q z : Nat, q + z = hs_nz a + hs_nz b → wY_put_18 post a b c d (nI z) (nI q) y_maxObjects y_maxSteps y_maxDepth y_kept (nI e) (nI kt) (nI pn) y_lines y_classes y_prints y_place y_steps y_d y_valTop y_opTop y_opens y_pos y_tk y_tv y_stmt y_target y_err y_code y_outcome y_result y_dry y_want y_starting y_ended y_bad y_hosted y_sawSuper tx y_numbers y_globals y_entries y_attrs y_classOf y_alive y_orders y_lengths y_letters y_bases y_vals y_ops y_locals y_fRecv y_fLine y_fPos y_fStmt y_fTarget y_fMask y_fHome y_fOps y_fVals y_fNew y_out := fun q z hq => by
    unfold wY_put_18
    rw [nI_add]
    exact hs_nzB (fun e => L28 (q + z) 0 (by omega)) (fun e => L28 (q + z) 1 (by omega))
  have L9 : ∀ q : Nat, q = hs_nz a → wY_put_9 post a b c d (nI q) y_maxObjects y_maxSteps y_maxDepth y_kept (nI e) (nI kt) (nI pn) y_lines y_classes y_prints y_place y_steps y_d y_valTop y_opTop y_opens y_pos y_tk y_tv y_stmt y_target y_err y_code y_outcome y_result y_dry y_want y_starting y_ended y_bad y_hosted y_sawSuper tx y_numbers y_globals y_entries y_attrs y_classOf y_alive y_orders y_lengths y_letters y_bases y_vals y_ops y_locals y_fRecv y_fLine y_fPos y_fStmt y_fTarget y_fMask y_fHome y_fOps y_fVals y_fNew y_out := fun q hq => by
    exact hs_nzB (fun e => L18 q 0 (by omega)) (fun e => L18 q 1 (by omega))
  exact hs_nzB (fun e => L9 0 (by omega)) (fun e => L9 1 (by omega))
end
end
section
/-! Y's expression tokens, a theorem a rule -/
section
variable {x_objectLimit x_stepLimit x_depthLimit x_pendingCount x_keptTokens x_keptLines x_lineCount x_codeCount x_cursor x_stop x_waitingCount x_openCount x_classCount x_callCount x_operandCount x_stepsTaken x_error x_raisedCode x_printCount x_lastPlace : Int32} {x_lastResult : Int64} {x_pending x_lineTable x_orders x_merging x_letterClass x_objectClass x_calls x_lastPrints : Nat → Int32} {x_code x_waiting x_globals x_entries x_attributes x_held x_operands : Nat → Int64}
variable {y_maxObjects y_maxSteps y_maxDepth y_kept y_end y_tokens y_pending y_lines y_classes y_prints y_place y_steps y_d y_valTop y_opTop y_opens y_pos y_tk y_tv y_stmt y_target y_err y_code y_outcome y_dry y_want y_starting y_ended y_bad y_hosted y_sawSuper : Int32} {y_result : Int64} {y_text y_numbers y_classOf y_alive y_orders y_lengths y_letters y_bases y_ops y_fLine y_fPos y_fStmt y_fTarget y_fMask y_fHome y_fOps y_fVals y_fNew y_out : Nat → Int32} {y_globals y_entries y_attrs y_vals y_locals y_fRecv : Nat → Int64}
theorem hs_ne {a b : Nat} (h : a ≠ b) (ha : a < 2 ^ 31) (hb : b < 2 ^ 31) : ¬ nI a = nI b := fun e => h ((nI_eq ha hb).mp e)
theorem hs_yTokK {tx : Nat → Int32} {p t : Nat} {r : List Nat} (h : hs_TA tx p (t :: r)) (k : Nat) (hk : hs_tk t = k) {post : SY → Prop} (hp : post (y_maxObjects, y_maxSteps, y_maxDepth, y_kept, y_end, y_tokens, y_pending, y_lines, y_classes, y_prints, y_place, y_steps, y_d, y_valTop, y_opTop, y_opens, nI (p + 1), nI k, nI (t - k), y_stmt, y_target, y_err, y_code, y_outcome, y_result, y_dry, y_want, y_starting, y_ended, y_bad, y_hosted, y_sawSuper, tx, y_numbers, y_globals, y_entries, y_attrs, y_classOf, y_alive, y_orders, y_lengths, y_letters, y_bases, y_vals, y_ops, y_locals, y_fRecv, y_fLine, y_fPos, y_fStmt, y_fTarget, y_fMask, y_fHome, y_fOps, y_fVals, y_fNew, y_out)) : wpY_tok post (y_maxObjects, y_maxSteps, y_maxDepth, y_kept, y_end, y_tokens, y_pending, y_lines, y_classes, y_prints, y_place, y_steps, y_d, y_valTop, y_opTop, y_opens, nI p, y_tk, y_tv, y_stmt, y_target, y_err, y_code, y_outcome, y_result, y_dry, y_want, y_starting, y_ended, y_bad, y_hosted, y_sawSuper, tx, y_numbers, y_globals, y_entries, y_attrs, y_classOf, y_alive, y_orders, y_lengths, y_letters, y_bases, y_vals, y_ops, y_locals, y_fRecv, y_fLine, y_fPos, y_fStmt, y_fTarget, y_fMask, y_fHome, y_fOps, y_fVals, y_fNew, y_out) := by
  subst hk
  exact hs_yTokC h hp
theorem hs_tkN {t : Nat} (h : hs_isN t = true) : hs_tk t = 100 ∧ 100 ≤ t ∧ t < 126 := by
  unfold hs_isN at h
  have h := of_decide_eq_true h
  unfold hs_tk
  rw [if_neg (by omega), if_neg (by omega), if_pos (by omega)]
  exact ⟨rfl, h⟩
theorem hs_tkC {t : Nat} (h : hs_isC t = true) : hs_tk t = 130 ∧ 130 ≤ t ∧ t < 156 := by
  unfold hs_isC at h
  have h := of_decide_eq_true h
  unfold hs_tk
  rw [if_neg (by omega), if_pos (by omega)]
  exact ⟨rfl, h⟩
theorem hs_tkB {t : Nat} (h : 1000 ≤ t) : hs_tk t = 1000 := if_pos h
theorem hs_tkS {t : Nat} (h : t < 100) : hs_tk t = t := by
  unfold hs_tk
  rw [if_neg (by omega), if_neg (by omega), if_neg (by omega)]
/-- a token as put writes it -/
def hs_vt (t : Nat) : Prop := (1 ≤ t ∧ t ≤ 13) ∨ (21 ≤ t ∧ t ≤ 33) ∨ hs_isN t = true ∨ hs_isC t = true ∨ 1000 ≤ t
theorem hs_isNf {t : Nat} (hv : hs_vt t) (h : hs_isN t = false) : hs_tk t ≠ 100 := by
  unfold hs_isN at h
  have h1 := of_decide_eq_false h
  rcases hv with h2 | h2 | h2 | h2 | h2
  · rw [hs_tkS (by omega)]; omega
  · rw [hs_tkS (by omega)]; omega
  · unfold hs_isN at h2; rw [h] at h2; cases h2
  · have := hs_tkC h2; omega
  · rw [hs_tkB h2]; omega
-- operands
theorem hs_yNum {tx : Nat → Int32} {p t vt : Nat} {r : List Nat} (h : hs_TA tx p (t :: r)) (ht : 1000 ≤ t) (hv : vt < 320) {post : Int32 → SY → Prop} (H : post 0 (y_maxObjects, y_maxSteps, y_maxDepth, y_kept, y_end, y_tokens, y_pending, y_lines, y_classes, y_prints, y_place, y_steps, y_d, nI (vt + 1), y_opTop, y_opens, nI (p + 1), nI 1000, nI (t - 1000), y_stmt, y_target, y_err, y_code, y_outcome, y_result, y_dry, 0, y_starting, y_ended, y_bad, y_hosted, y_sawSuper, tx, y_numbers, y_globals, y_entries, y_attrs, y_classOf, y_alive, y_orders, y_lengths, y_letters, y_bases, vp_updL y_vals vt (hs_int (nI (t - 1000))), y_ops, y_locals, y_fRecv, y_fLine, y_fPos, y_fStmt, y_fTarget, y_fMask, y_fHome, y_fOps, y_fVals, y_fNew, y_out)) : wpY_expressionToken post (y_maxObjects, y_maxSteps, y_maxDepth, y_kept, y_end, y_tokens, y_pending, y_lines, y_classes, y_prints, y_place, y_steps, y_d, nI vt, y_opTop, y_opens, nI p, y_tk, y_tv, y_stmt, y_target, y_err, y_code, y_outcome, y_result, y_dry, 1, y_starting, y_ended, y_bad, y_hosted, y_sawSuper, tx, y_numbers, y_globals, y_entries, y_attrs, y_classOf, y_alive, y_orders, y_lengths, y_letters, y_bases, y_vals, y_ops, y_locals, y_fRecv, y_fLine, y_fPos, y_fStmt, y_fTarget, y_fMask, y_fHome, y_fOps, y_fVals, y_fNew, y_out) := by
  unfold wpY_expressionToken
  refine hs_yTokK h 1000 (hs_tkB ht) (br_f (by decide) ?_)
  unfold wpY_operand
  exact br_t rfl (hs_yValueInt hv H)
theorem hs_yNone {tx : Nat → Int32} {p vt : Nat} {r : List Nat} (h : hs_TA tx p (12 :: r)) (hv : vt < 320) {post : Int32 → SY → Prop} (H : post 0 (y_maxObjects, y_maxSteps, y_maxDepth, y_kept, y_end, y_tokens, y_pending, y_lines, y_classes, y_prints, y_place, y_steps, y_d, nI (vt + 1), y_opTop, y_opens, nI (p + 1), nI 12, nI (12 - 12), y_stmt, y_target, y_err, y_code, y_outcome, y_result, y_dry, 0, y_starting, y_ended, y_bad, y_hosted, y_sawSuper, tx, y_numbers, y_globals, y_entries, y_attrs, y_classOf, y_alive, y_orders, y_lengths, y_letters, y_bases, vp_updL y_vals vt 4294967296, y_ops, y_locals, y_fRecv, y_fLine, y_fPos, y_fStmt, y_fTarget, y_fMask, y_fHome, y_fOps, y_fVals, y_fNew, y_out)) : wpY_expressionToken post (y_maxObjects, y_maxSteps, y_maxDepth, y_kept, y_end, y_tokens, y_pending, y_lines, y_classes, y_prints, y_place, y_steps, y_d, nI vt, y_opTop, y_opens, nI p, y_tk, y_tv, y_stmt, y_target, y_err, y_code, y_outcome, y_result, y_dry, 1, y_starting, y_ended, y_bad, y_hosted, y_sawSuper, tx, y_numbers, y_globals, y_entries, y_attrs, y_classOf, y_alive, y_orders, y_lengths, y_letters, y_bases, y_vals, y_ops, y_locals, y_fRecv, y_fLine, y_fPos, y_fStmt, y_fTarget, y_fMask, y_fHome, y_fOps, y_fVals, y_fNew, y_out) := by
  unfold wpY_expressionToken
  refine hs_yTokK h 12 (hs_tkS (by decide)) (br_f (by decide) ?_)
  unfold wpY_operand
  exact br_f (hs_ne (a := 12) (b := 1000) (by decide) (by decide) (by decide)) (br_t rfl (hs_yValue hv H))
theorem hs_yNameD {tx : Nat → Int32} {p t vt : Nat} {r : List Nat} (h : hs_TA tx p (t :: r)) (ht : hs_isN t = true) (hv : vt < 320) {post : Int32 → SY → Prop} (H : post 0 (y_maxObjects, y_maxSteps, y_maxDepth, y_kept, y_end, y_tokens, y_pending, y_lines, y_classes, y_prints, y_place, y_steps, y_d, nI (vt + 1), y_opTop, y_opens, nI (p + 1), nI 100, nI (t - 100), y_stmt, y_target, y_err, y_code, y_outcome, y_result, 1, 0, y_starting, y_ended, y_bad, y_hosted, y_sawSuper, tx, y_numbers, y_globals, y_entries, y_attrs, y_classOf, y_alive, y_orders, y_lengths, y_letters, y_bases, vp_updL y_vals vt 1, y_ops, y_locals, y_fRecv, y_fLine, y_fPos, y_fStmt, y_fTarget, y_fMask, y_fHome, y_fOps, y_fVals, y_fNew, y_out)) : wpY_expressionToken post (y_maxObjects, y_maxSteps, y_maxDepth, y_kept, y_end, y_tokens, y_pending, y_lines, y_classes, y_prints, y_place, y_steps, y_d, nI vt, y_opTop, y_opens, nI p, y_tk, y_tv, y_stmt, y_target, y_err, y_code, y_outcome, y_result, 1, 1, y_starting, y_ended, y_bad, y_hosted, y_sawSuper, tx, y_numbers, y_globals, y_entries, y_attrs, y_classOf, y_alive, y_orders, y_lengths, y_letters, y_bases, y_vals, y_ops, y_locals, y_fRecv, y_fLine, y_fPos, y_fStmt, y_fTarget, y_fMask, y_fHome, y_fOps, y_fVals, y_fNew, y_out) := by
  unfold wpY_expressionToken
  refine hs_yTokK h 100 (hs_tkN ht).1 (br_f (by decide) ?_)
  unfold wpY_operand
  refine br_f (hs_ne (a := 100) (b := 1000) (by decide) (by decide) (by decide)) (br_f (hs_ne (a := 100) (b := 12) (by decide) (by decide) (by decide)) (br_t rfl (br_f (by decide) ?_)))
  unfold wY_operand_63 wY_operand_75
  exact br_f (by decide) (hs_yValue hv H)
theorem hs_yNameR {tx : Nat → Int32} {p t : Nat} {r : List Nat} (h : hs_TA tx p (t :: r)) (ht : hs_isN t = true) {post : Int32 → SY → Prop} (H : wpY_variableNow (fun x => wY_operand_63 (fun u => match u with | (y_maxObjectsq, y_maxStepsq, y_maxDepthq, y_keptq, y_endq, y_tokensq, y_pendingq, y_linesq, y_classesq, y_printsq, y_placeq, y_stepsq, y_dq, y_valTopq, y_opTopq, y_opensq, y_posq, y_tkq, y_tvq, y_stmtq, y_targetq, y_errq, y_codeq, y_outcomeq, y_resultq, y_dryq, y_wantq, y_startingq, y_endedq, y_badq, y_hostedq, y_sawSuperq, y_textq, y_numbersq, y_globalsq, y_entriesq, y_attrsq, y_classOfq, y_aliveq, y_ordersq, y_lengthsq, y_lettersq, y_basesq, y_valsq, y_opsq, y_localsq, y_fRecvq, y_fLineq, y_fPosq, y_fStmtq, y_fTargetq, y_fMaskq, y_fHomeq, y_fOpsq, y_fValsq, y_fNewq, y_outq) => post 0 (y_maxObjectsq, y_maxStepsq, y_maxDepthq, y_keptq, y_endq, y_tokensq, y_pendingq, y_linesq, y_classesq, y_printsq, y_placeq, y_stepsq, y_dq, y_valTopq, y_opTopq, y_opensq, y_posq, y_tkq, y_tvq, y_stmtq, y_targetq, y_errq, y_codeq, y_outcomeq, y_resultq, y_dryq, y_wantq, y_startingq, y_endedq, y_badq, y_hostedq, y_sawSuperq, y_textq, y_numbersq, y_globalsq, y_entriesq, y_attrsq, y_classOfq, y_aliveq, y_ordersq, y_lengthsq, y_lettersq, y_basesq, y_valsq, y_opsq, y_localsq, y_fRecvq, y_fLineq, y_fPosq, y_fStmtq, y_fTargetq, y_fMaskq, y_fHomeq, y_fOpsq, y_fValsq, y_fNewq, y_outq)) x y_maxObjects y_maxSteps y_maxDepth y_kept y_end y_tokens y_pending y_lines y_classes y_prints y_place y_steps y_d y_valTop y_opTop y_opens (nI (p + 1)) (nI 100) (nI (t - 100)) y_stmt y_target y_err y_code y_outcome y_result 0 1 y_starting y_ended y_bad y_hosted y_sawSuper tx y_numbers y_globals y_entries y_attrs y_classOf y_alive y_orders y_lengths y_letters y_bases y_vals y_ops y_locals y_fRecv y_fLine y_fPos y_fStmt y_fTarget y_fMask y_fHome y_fOps y_fVals y_fNew y_out) (y_maxObjects, y_maxSteps, y_maxDepth, y_kept, y_end, y_tokens, y_pending, y_lines, y_classes, y_prints, y_place, y_steps, y_d, y_valTop, y_opTop, y_opens, nI (p + 1), nI 100, nI (t - 100), y_stmt, y_target, y_err, y_code, y_outcome, y_result, 0, 1, y_starting, y_ended, y_bad, y_hosted, y_sawSuper, tx, y_numbers, y_globals, y_entries, y_attrs, y_classOf, y_alive, y_orders, y_lengths, y_letters, y_bases, y_vals, y_ops, y_locals, y_fRecv, y_fLine, y_fPos, y_fStmt, y_fTarget, y_fMask, y_fHome, y_fOps, y_fVals, y_fNew, y_out) (nI (t - 100))) : wpY_expressionToken post (y_maxObjects, y_maxSteps, y_maxDepth, y_kept, y_end, y_tokens, y_pending, y_lines, y_classes, y_prints, y_place, y_steps, y_d, y_valTop, y_opTop, y_opens, nI p, y_tk, y_tv, y_stmt, y_target, y_err, y_code, y_outcome, y_result, 0, 1, y_starting, y_ended, y_bad, y_hosted, y_sawSuper, tx, y_numbers, y_globals, y_entries, y_attrs, y_classOf, y_alive, y_orders, y_lengths, y_letters, y_bases, y_vals, y_ops, y_locals, y_fRecv, y_fLine, y_fPos, y_fStmt, y_fTarget, y_fMask, y_fHome, y_fOps, y_fVals, y_fNew, y_out) := by
  unfold wpY_expressionToken
  refine hs_yTokK h 100 (hs_tkN ht).1 (br_f (by decide) ?_)
  unfold wpY_operand
  exact br_f (hs_ne (a := 100) (b := 1000) (by decide) (by decide) (by decide)) (br_f (hs_ne (a := 100) (b := 12) (by decide) (by decide) (by decide)) (br_t rfl (br_t rfl H)))
theorem hs_yOpenR {tx : Nat → Int32} {p ot : Nat} {r : List Nat} (h : hs_TA tx p (21 :: r)) (ho : ot < 320) {post : Int32 → SY → Prop} (H : post 0 (y_maxObjects, y_maxSteps, y_maxDepth, y_kept, y_end, y_tokens, y_pending, y_lines, y_classes, y_prints, y_place, y_steps, y_d, y_valTop, nI (ot + 1), y_opens + 1, nI (p + 1), nI 21, nI (21 - 21), y_stmt, y_target, y_err, y_code, y_outcome, y_result, 0, 1, y_starting, y_ended, y_bad, y_hosted, y_sawSuper, tx, y_numbers, y_globals, y_entries, y_attrs, y_classOf, y_alive, y_orders, y_lengths, y_letters, y_bases, y_vals, upd y_ops ot 1, y_locals, y_fRecv, y_fLine, y_fPos, y_fStmt, y_fTarget, y_fMask, y_fHome, y_fOps, y_fVals, y_fNew, y_out)) : wpY_expressionToken post (y_maxObjects, y_maxSteps, y_maxDepth, y_kept, y_end, y_tokens, y_pending, y_lines, y_classes, y_prints, y_place, y_steps, y_d, y_valTop, nI ot, y_opens, nI p, y_tk, y_tv, y_stmt, y_target, y_err, y_code, y_outcome, y_result, 0, 1, y_starting, y_ended, y_bad, y_hosted, y_sawSuper, tx, y_numbers, y_globals, y_entries, y_attrs, y_classOf, y_alive, y_orders, y_lengths, y_letters, y_bases, y_vals, y_ops, y_locals, y_fRecv, y_fLine, y_fPos, y_fStmt, y_fTarget, y_fMask, y_fHome, y_fOps, y_fVals, y_fNew, y_out) := by
  unfold wpY_expressionToken
  refine hs_yTokK h 21 (hs_tkS (by decide)) (br_f (by decide) ?_)
  unfold wpY_operand
  exact br_f (hs_ne (a := 21) (b := 1000) (by decide) (by decide) (by decide)) (br_f (hs_ne (a := 21) (b := 12) (by decide) (by decide) (by decide)) (br_f (hs_ne (a := 21) (b := 100) (by decide) (by decide) (by decide)) (br_t rfl (hs_yParenR ho H))))
theorem hs_yOpenD {tx : Nat → Int32} {p ot on : Nat} {r : List Nat} (h : hs_TA tx p (21 :: r)) (ho : ot < 320) (hn : on < 1000) {post : Int32 → SY → Prop} (H : on < 4 → post 0 (y_maxObjects, y_maxSteps, y_maxDepth, y_kept, y_end, y_tokens, y_pending, y_lines, y_classes, y_prints, y_place, y_steps, y_d, y_valTop, nI (ot + 1), nI (on + 1), nI (p + 1), nI 21, nI (21 - 21), y_stmt, y_target, y_err, y_code, y_outcome, y_result, 1, 1, y_starting, y_ended, y_bad, y_hosted, y_sawSuper, tx, y_numbers, y_globals, y_entries, y_attrs, y_classOf, y_alive, y_orders, y_lengths, y_letters, y_bases, y_vals, upd y_ops ot 1, y_locals, y_fRecv, y_fLine, y_fPos, y_fStmt, y_fTarget, y_fMask, y_fHome, y_fOps, y_fVals, y_fNew, y_out)) (Hb : 4 ≤ on → post 0 (y_maxObjects, y_maxSteps, y_maxDepth, y_kept, y_end, y_tokens, y_pending, y_lines, y_classes, y_prints, y_place, y_steps, y_d, y_valTop, nI (ot + 1), nI (on + 1), nI (p + 1), nI 21, nI (21 - 21), y_stmt, y_target, y_err, y_code, y_outcome, y_result, 1, 1, y_starting, y_ended, 1, y_hosted, y_sawSuper, tx, y_numbers, y_globals, y_entries, y_attrs, y_classOf, y_alive, y_orders, y_lengths, y_letters, y_bases, y_vals, upd y_ops ot 1, y_locals, y_fRecv, y_fLine, y_fPos, y_fStmt, y_fTarget, y_fMask, y_fHome, y_fOps, y_fVals, y_fNew, y_out)) : wpY_expressionToken post (y_maxObjects, y_maxSteps, y_maxDepth, y_kept, y_end, y_tokens, y_pending, y_lines, y_classes, y_prints, y_place, y_steps, y_d, y_valTop, nI ot, nI on, nI p, y_tk, y_tv, y_stmt, y_target, y_err, y_code, y_outcome, y_result, 1, 1, y_starting, y_ended, y_bad, y_hosted, y_sawSuper, tx, y_numbers, y_globals, y_entries, y_attrs, y_classOf, y_alive, y_orders, y_lengths, y_letters, y_bases, y_vals, y_ops, y_locals, y_fRecv, y_fLine, y_fPos, y_fStmt, y_fTarget, y_fMask, y_fHome, y_fOps, y_fVals, y_fNew, y_out) := by
  unfold wpY_expressionToken
  refine hs_yTokK h 21 (hs_tkS (by decide)) (br_f (by decide) ?_)
  unfold wpY_operand
  exact br_f (hs_ne (a := 21) (b := 1000) (by decide) (by decide) (by decide)) (br_f (hs_ne (a := 21) (b := 12) (by decide) (by decide) (by decide)) (br_f (hs_ne (a := 21) (b := 100) (by decide) (by decide) (by decide)) (br_t rfl (hs_yParenD ho hn H Hb))))
theorem hs_TAh {tx : Nat → Int32} : ∀ {ts : List Nat} {p k : Nat}, hs_TA tx p ts → ¬ hs_en k → k < 2 ^ 31 → (tx p = nI k ↔ hs_hd ts = k)
  | [], p, k, h, h1, h2 => by
    refine ⟨fun e => absurd ?_ h1, fun e => absurd (Or.inl e.symm) h1⟩
    have := h.2.1
    unfold hs_g at this
    rw [e, nI_clamp h2] at this
    exact this
  | t :: r, p, k, h, h1, h2 => by
    obtain ⟨a, b, c, _⟩ := hs_TAc h
    rw [a, nI_eq c h2]
    rfl
theorem hs_op64 (c a : Nat) : nI c + 64 * nI a = nI (c + 64 * a) := by
  show nI c + nI 64 * nI a = _
  rw [pk_mul, nI_add]
theorem hs_notEn {k : Nat} (h : k ≠ 0) (h2 : k < 40 ∨ 48 < k) : ¬ hs_en k := by
  rintro (z | z) <;> omega
-- a class and its parenthesis
theorem hs_yNewR {tx : Nat → Int32} {p t ot : Nat} {r : List Nat} (h : hs_TA tx p (t :: 21 :: r)) (ht : hs_isC t = true) (ho : ot < 320) {post : Int32 → SY → Prop} (H : post 0 (y_maxObjects, y_maxSteps, y_maxDepth, y_kept, y_end, y_tokens, y_pending, y_lines, y_classes, y_prints, y_place, y_steps, y_d, y_valTop, nI (ot + 1), y_opens + 1, nI (p + 1 + 1), nI 21, nI (21 - 21), y_stmt, y_target, y_err, y_code, y_outcome, y_result, 0, 1, y_starting, y_ended, y_bad, y_hosted, y_sawSuper, tx, y_numbers, y_globals, y_entries, y_attrs, y_classOf, y_alive, y_orders, y_lengths, y_letters, y_bases, y_vals, upd y_ops ot (nI (4 + 64 * (t - 130))), y_locals, y_fRecv, y_fLine, y_fPos, y_fStmt, y_fTarget, y_fMask, y_fHome, y_fOps, y_fVals, y_fNew, y_out)) : wpY_expressionToken post (y_maxObjects, y_maxSteps, y_maxDepth, y_kept, y_end, y_tokens, y_pending, y_lines, y_classes, y_prints, y_place, y_steps, y_d, y_valTop, nI ot, y_opens, nI p, y_tk, y_tv, y_stmt, y_target, y_err, y_code, y_outcome, y_result, 0, 1, y_starting, y_ended, y_bad, y_hosted, y_sawSuper, tx, y_numbers, y_globals, y_entries, y_attrs, y_classOf, y_alive, y_orders, y_lengths, y_letters, y_bases, y_vals, y_ops, y_locals, y_fRecv, y_fLine, y_fPos, y_fStmt, y_fTarget, y_fMask, y_fHome, y_fOps, y_fVals, y_fNew, y_out) := by
  unfold wpY_expressionToken
  refine hs_yTokK h 130 (hs_tkC ht).1 (br_f (by decide) ?_)
  unfold wpY_operand
  refine br_f (hs_ne (a := 130) (b := 1000) (by decide) (by decide) (by decide)) (br_f (hs_ne (a := 130) (b := 12) (by decide) (by decide) (by decide)) (br_f (hs_ne (a := 130) (b := 100) (by decide) (by decide) (by decide)) (br_f (hs_ne (a := 130) (b := 21) (by decide) (by decide) (by decide)) (br_t rfl ?_))))
  unfold wpY_ofClass
  refine hs_yTokK (hs_TAc h).2.2.2.2.2 21 (hs_tkS (by decide)) (br_t rfl (hs_yParenR ho ?_))
  rw [show (4 : Int32) = nI 4 from rfl, hs_op64]
  exact H
theorem hs_yNewD {tx : Nat → Int32} {p t ot on : Nat} {r : List Nat} (h : hs_TA tx p (t :: 21 :: r)) (ht : hs_isC t = true) (ho : ot < 320) (hn : on < 1000) {post : Int32 → SY → Prop} (H : on < 4 → post 0 (y_maxObjects, y_maxSteps, y_maxDepth, y_kept, y_end, y_tokens, y_pending, y_lines, y_classes, y_prints, y_place, y_steps, y_d, y_valTop, nI (ot + 1), nI (on + 1), nI (p + 1 + 1), nI 21, nI (21 - 21), y_stmt, y_target, y_err, y_code, y_outcome, y_result, 1, 1, y_starting, y_ended, y_bad, y_hosted, y_sawSuper, tx, y_numbers, y_globals, y_entries, y_attrs, y_classOf, y_alive, y_orders, y_lengths, y_letters, y_bases, y_vals, upd y_ops ot (nI (4 + 64 * (t - 130))), y_locals, y_fRecv, y_fLine, y_fPos, y_fStmt, y_fTarget, y_fMask, y_fHome, y_fOps, y_fVals, y_fNew, y_out)) (Hb : 4 ≤ on → post 0 (y_maxObjects, y_maxSteps, y_maxDepth, y_kept, y_end, y_tokens, y_pending, y_lines, y_classes, y_prints, y_place, y_steps, y_d, y_valTop, nI (ot + 1), nI (on + 1), nI (p + 1 + 1), nI 21, nI (21 - 21), y_stmt, y_target, y_err, y_code, y_outcome, y_result, 1, 1, y_starting, y_ended, 1, y_hosted, y_sawSuper, tx, y_numbers, y_globals, y_entries, y_attrs, y_classOf, y_alive, y_orders, y_lengths, y_letters, y_bases, y_vals, upd y_ops ot (nI (4 + 64 * (t - 130))), y_locals, y_fRecv, y_fLine, y_fPos, y_fStmt, y_fTarget, y_fMask, y_fHome, y_fOps, y_fVals, y_fNew, y_out)) : wpY_expressionToken post (y_maxObjects, y_maxSteps, y_maxDepth, y_kept, y_end, y_tokens, y_pending, y_lines, y_classes, y_prints, y_place, y_steps, y_d, y_valTop, nI ot, nI on, nI p, y_tk, y_tv, y_stmt, y_target, y_err, y_code, y_outcome, y_result, 1, 1, y_starting, y_ended, y_bad, y_hosted, y_sawSuper, tx, y_numbers, y_globals, y_entries, y_attrs, y_classOf, y_alive, y_orders, y_lengths, y_letters, y_bases, y_vals, y_ops, y_locals, y_fRecv, y_fLine, y_fPos, y_fStmt, y_fTarget, y_fMask, y_fHome, y_fOps, y_fVals, y_fNew, y_out) := by
  unfold wpY_expressionToken
  refine hs_yTokK h 130 (hs_tkC ht).1 (br_f (by decide) ?_)
  unfold wpY_operand
  refine br_f (hs_ne (a := 130) (b := 1000) (by decide) (by decide) (by decide)) (br_f (hs_ne (a := 130) (b := 12) (by decide) (by decide) (by decide)) (br_f (hs_ne (a := 130) (b := 100) (by decide) (by decide) (by decide)) (br_f (hs_ne (a := 130) (b := 21) (by decide) (by decide) (by decide)) (br_t rfl ?_))))
  unfold wpY_ofClass
  refine hs_yTokK (hs_TAc h).2.2.2.2.2 21 (hs_tkS (by decide)) (br_t rfl ?_)
  rw [show (4 : Int32) = nI 4 from rfl, hs_op64]
  exact hs_yParenD ho hn H Hb
theorem hs_yGetD {tx : Nat → Int32} {p t n vt : Nat} {r : List Nat} (h : hs_TA tx p (t :: 24 :: n :: r)) (ht : hs_isC t = true) (hn : hs_isN n = true) (hr : hs_hd r ≠ 21) (hv : vt < 320) {post : Int32 → SY → Prop} (H : post 0 (y_maxObjects, y_maxSteps, y_maxDepth, y_kept, y_end, y_tokens, y_pending, y_lines, y_classes, y_prints, y_place, y_steps, y_d, nI (vt + 1), y_opTop, y_opens, nI (p + 1 + 1 + 1), nI 100, nI (n - 100), y_stmt, y_target, y_err, y_code, y_outcome, y_result, 1, 0, y_starting, y_ended, y_bad, y_hosted, y_sawSuper, tx, y_numbers, y_globals, y_entries, y_attrs, y_classOf, y_alive, y_orders, y_lengths, y_letters, y_bases, vp_updL y_vals vt 1, y_ops, y_locals, y_fRecv, y_fLine, y_fPos, y_fStmt, y_fTarget, y_fMask, y_fHome, y_fOps, y_fVals, y_fNew, y_out)) : wpY_expressionToken post (y_maxObjects, y_maxSteps, y_maxDepth, y_kept, y_end, y_tokens, y_pending, y_lines, y_classes, y_prints, y_place, y_steps, y_d, nI vt, y_opTop, y_opens, nI p, y_tk, y_tv, y_stmt, y_target, y_err, y_code, y_outcome, y_result, 1, 1, y_starting, y_ended, y_bad, y_hosted, y_sawSuper, tx, y_numbers, y_globals, y_entries, y_attrs, y_classOf, y_alive, y_orders, y_lengths, y_letters, y_bases, y_vals, y_ops, y_locals, y_fRecv, y_fLine, y_fPos, y_fStmt, y_fTarget, y_fMask, y_fHome, y_fOps, y_fVals, y_fNew, y_out) := by
  unfold wpY_expressionToken
  refine hs_yTokK h 130 (hs_tkC ht).1 (br_f (by decide) ?_)
  unfold wpY_operand
  refine br_f (hs_ne (a := 130) (b := 1000) (by decide) (by decide) (by decide)) (br_f (hs_ne (a := 130) (b := 12) (by decide) (by decide) (by decide)) (br_f (hs_ne (a := 130) (b := 100) (by decide) (by decide) (by decide)) (br_f (hs_ne (a := 130) (b := 21) (by decide) (by decide) (by decide)) (br_t rfl ?_))))
  unfold wpY_ofClass
  have h2 := (hs_TAc h).2.2.2.2.2
  have h3 := (hs_TAc h2).2.2.2.2.2
  have h4 := (hs_TAc h3).2.2.2.2.2
  refine hs_yTokK h2 24 (hs_tkS (by decide)) (br_f (hs_ne (a := 24) (b := 21) (by decide) (by decide) (by decide)) (br_t rfl ?_))
  unfold wpY_is
  refine hs_yTokK h3 100 (hs_tkN hn).1 (br_t rfl (br_f (by decide) (And.intro (vp_in_nI (hs_TAlt h4) (by decide)) ?_)))
  rw [nI_clamp (show p + 1 + 1 + 1 < 2 ^ 31 by have := hs_TAlt h4; omega)]
  exact br_f (fun z => hr ((hs_TAh h4 (hs_notEn (by decide) (by decide)) (by decide)).mp z)) (br_f (by decide) (hs_yValue hv H))
theorem hs_yGetR {tx : Nat → Int32} {p t n : Nat} {r : List Nat} (h : hs_TA tx p (t :: 24 :: n :: r)) (ht : hs_isC t = true) (hn : hs_isN n = true) (hr : hs_hd r ≠ 21) {post : Int32 → SY → Prop} {le : Nat → Int32}
    (H0 : ¬ 0 ≤ le (t - 130) → post 0 (y_maxObjects, y_maxSteps, y_maxDepth, y_kept, y_end, y_tokens, y_pending, y_lines, y_classes, y_prints, y_place, y_steps, y_d, y_valTop, y_opTop, y_opens, nI (p + 1 + 1 + 1), nI 100, nI (n - 100), y_stmt, y_target, 2, y_code, y_outcome, y_result, 0, 1, y_starting, y_ended, y_bad, y_hosted, y_sawSuper, tx, y_numbers, y_globals, y_entries, y_attrs, y_classOf, y_alive, y_orders, y_lengths, le, y_bases, y_vals, y_ops, y_locals, y_fRecv, y_fLine, y_fPos, y_fStmt, y_fTarget, y_fMask, y_fHome, y_fOps, y_fVals, y_fNew, y_out))
    (H1 : 0 ≤ le (t - 130) → wpY_search (fun e => wpY_read (fun u => match u with | (y_maxObjectsq, y_maxStepsq, y_maxDepthq, y_keptq, y_endq, y_tokensq, y_pendingq, y_linesq, y_classesq, y_printsq, y_placeq, y_stepsq, y_dq, y_valTopq, y_opTopq, y_opensq, y_posq, y_tkq, y_tvq, y_stmtq, y_targetq, y_errq, y_codeq, y_outcomeq, y_resultq, y_dryq, y_wantq, y_startingq, y_endedq, y_badq, y_hostedq, y_sawSuperq, y_textq, y_numbersq, y_globalsq, y_entriesq, y_attrsq, y_classOfq, y_aliveq, y_ordersq, y_lengthsq, y_lettersq, y_basesq, y_valsq, y_opsq, y_localsq, y_fRecvq, y_fLineq, y_fPosq, y_fStmtq, y_fTargetq, y_fMaskq, y_fHomeq, y_fOpsq, y_fValsq, y_fNewq, y_outq) => post 0 (y_maxObjectsq, y_maxStepsq, y_maxDepthq, y_keptq, y_endq, y_tokensq, y_pendingq, y_linesq, y_classesq, y_printsq, y_placeq, y_stepsq, y_dq, y_valTopq, y_opTopq, y_opensq, y_posq, y_tkq, y_tvq, y_stmtq, y_targetq, y_errq, y_codeq, y_outcomeq, y_resultq, y_dryq, y_wantq, y_startingq, y_endedq, y_badq, y_hostedq, y_sawSuperq, y_textq, y_numbersq, y_globalsq, y_entriesq, y_attrsq, y_classOfq, y_aliveq, y_ordersq, y_lengthsq, y_lettersq, y_basesq, y_valsq, y_opsq, y_localsq, y_fRecvq, y_fLineq, y_fPosq, y_fStmtq, y_fTargetq, y_fMaskq, y_fHomeq, y_fOpsq, y_fValsq, y_fNewq, y_outq)) (y_maxObjects, y_maxSteps, y_maxDepth, y_kept, y_end, y_tokens, y_pending, y_lines, y_classes, y_prints, y_place, y_steps, y_d, y_valTop, y_opTop, y_opens, nI (p + 1 + 1 + 1), nI 100, nI (n - 100), y_stmt, y_target, y_err, y_code, y_outcome, y_result, 0, 1, y_starting, y_ended, y_bad, y_hosted, y_sawSuper, tx, y_numbers, y_globals, y_entries, y_attrs, y_classOf, y_alive, y_orders, y_lengths, le, y_bases, y_vals, y_ops, y_locals, y_fRecv, y_fLine, y_fPos, y_fStmt, y_fTarget, y_fMask, y_fHome, y_fOps, y_fVals, y_fNew, y_out) e) (y_maxObjects, y_maxSteps, y_maxDepth, y_kept, y_end, y_tokens, y_pending, y_lines, y_classes, y_prints, y_place, y_steps, y_d, y_valTop, y_opTop, y_opens, nI (p + 1 + 1 + 1), nI 100, nI (n - 100), y_stmt, y_target, y_err, y_code, y_outcome, y_result, 0, 1, y_starting, y_ended, y_bad, y_hosted, y_sawSuper, tx, y_numbers, y_globals, y_entries, y_attrs, y_classOf, y_alive, y_orders, y_lengths, le, y_bases, y_vals, y_ops, y_locals, y_fRecv, y_fLine, y_fPos, y_fStmt, y_fTarget, y_fMask, y_fHome, y_fOps, y_fVals, y_fNew, y_out) (le (t - 130)) 0 (nI (n - 100))) : wpY_expressionToken post (y_maxObjects, y_maxSteps, y_maxDepth, y_kept, y_end, y_tokens, y_pending, y_lines, y_classes, y_prints, y_place, y_steps, y_d, y_valTop, y_opTop, y_opens, nI p, y_tk, y_tv, y_stmt, y_target, y_err, y_code, y_outcome, y_result, 0, 1, y_starting, y_ended, y_bad, y_hosted, y_sawSuper, tx, y_numbers, y_globals, y_entries, y_attrs, y_classOf, y_alive, y_orders, y_lengths, le, y_bases, y_vals, y_ops, y_locals, y_fRecv, y_fLine, y_fPos, y_fStmt, y_fTarget, y_fMask, y_fHome, y_fOps, y_fVals, y_fNew, y_out) := by
  unfold wpY_expressionToken
  refine hs_yTokK h 130 (hs_tkC ht).1 (br_f (by decide) ?_)
  unfold wpY_operand
  refine br_f (hs_ne (a := 130) (b := 1000) (by decide) (by decide) (by decide)) (br_f (hs_ne (a := 130) (b := 12) (by decide) (by decide) (by decide)) (br_f (hs_ne (a := 130) (b := 100) (by decide) (by decide) (by decide)) (br_f (hs_ne (a := 130) (b := 21) (by decide) (by decide) (by decide)) (br_t rfl ?_))))
  unfold wpY_ofClass
  have h2 := (hs_TAc h).2.2.2.2.2
  have h3 := (hs_TAc h2).2.2.2.2.2
  have h4 := (hs_TAc h3).2.2.2.2.2
  have hl : t - 130 < 26 := by have := hs_tkC ht; omega
  refine hs_yTokK h2 24 (hs_tkS (by decide)) (br_f (hs_ne (a := 24) (b := 21) (by decide) (by decide) (by decide)) (br_t rfl ?_))
  unfold wpY_is
  refine hs_yTokK h3 100 (hs_tkN hn).1 (br_t rfl (br_f (by decide) (And.intro (vp_in_nI (hs_TAlt h4) (by decide)) ?_)))
  rw [nI_clamp (show p + 1 + 1 + 1 < 2 ^ 31 by have := hs_TAlt h4; omega)]
  refine br_f (fun z => hr ((hs_TAh h4 (hs_notEn (by decide) (by decide)) (by decide)).mp z)) (br_t rfl (And.intro (vp_in_nI hl (by decide)) ?_))
  rw [nI_clamp (show t - 130 < 2 ^ 31 by omega)]
  by_cases z : 0 ≤ le (t - 130)
  · exact br_t z (And.intro (vp_in_nI hl (by decide)) (H1 z))
  · exact br_f z (H0 z)
theorem hs_yClsBad {tx : Nat → Int32} {p t ot on : Nat} {r : List Nat} (h : hs_TA tx p (t :: r)) (hvt : ∀ x, x ∈ r → hs_vt x) (ht : hs_isC t = true) {post : Int32 → SY → Prop} (h1 : hs_hd r ≠ 21) (h2 : hs_hd r ≠ 24 ∨ r.length < 2 ∨ hs_isN (hs_hd r.tail) = false ∨ hs_hd r.tail.tail = 21) (Hb : (∀ (q1 q2 q3 q4 q5 q6 q7 q8 : Int32) (q9 : Nat → Int64) (q10 : Nat → Int32), post 0 (y_maxObjects, y_maxSteps, y_maxDepth, y_kept, y_end, y_tokens, y_pending, y_lines, y_classes, y_prints, y_place, y_steps, y_d, q7, q8, q1, q2, q3, q4, y_stmt, y_target, y_err, y_code, y_outcome, y_result, 1, q5, y_starting, y_ended, 1, y_hosted, q6, tx, y_numbers, y_globals, y_entries, y_attrs, y_classOf, y_alive, y_orders, y_lengths, y_letters, y_bases, q9, q10, y_locals, y_fRecv, y_fLine, y_fPos, y_fStmt, y_fTarget, y_fMask, y_fHome, y_fOps, y_fVals, y_fNew, y_out))) : wpY_expressionToken post (y_maxObjects, y_maxSteps, y_maxDepth, y_kept, y_end, y_tokens, y_pending, y_lines, y_classes, y_prints, y_place, y_steps, y_d, y_valTop, nI ot, nI on, nI p, y_tk, y_tv, y_stmt, y_target, y_err, y_code, y_outcome, y_result, 1, 1, y_starting, y_ended, y_bad, y_hosted, y_sawSuper, tx, y_numbers, y_globals, y_entries, y_attrs, y_classOf, y_alive, y_orders, y_lengths, y_letters, y_bases, y_vals, y_ops, y_locals, y_fRecv, y_fLine, y_fPos, y_fStmt, y_fTarget, y_fMask, y_fHome, y_fOps, y_fVals, y_fNew, y_out) := by
  unfold wpY_expressionToken
  refine hs_yTokK h 130 (hs_tkC ht).1 (br_f (by decide) ?_)
  unfold wpY_operand
  refine br_f (hs_ne (a := 130) (b := 1000) (by decide) (by decide) (by decide)) (br_f (hs_ne (a := 130) (b := 12) (by decide) (by decide) (by decide)) (br_f (hs_ne (a := 130) (b := 100) (by decide) (by decide) (by decide)) (br_f (hs_ne (a := 130) (b := 21) (by decide) (by decide) (by decide)) (br_t rfl ?_))))
  unfold wpY_ofClass
  have k2 := (hs_TAc h).2.2.2.2.2
  cases r with
  | nil => exact hs_yTokE k2 (br_f (hs_ne (a := 0) (b := 21) (by decide) (by decide) (by decide)) (br_f (hs_ne (a := 0) (b := 24) (by decide) (by decide) (by decide)) (Hb _ _ _ _ _ _ _ _ _ _)))
  | cons a r =>
    have k3 := (hs_TAc k2).2.2.2.2.2
    have ta := hs_tkLe a
    by_cases e : a = 24
    · subst e
      refine hs_yTokK k2 24 (hs_tkS (by decide)) (br_f (hs_ne (a := 24) (b := 21) (by decide) (by decide) (by decide)) (br_t rfl ?_))
      unfold wpY_is
      cases r with
      | nil => exact hs_yTokE k3 (br_f (hs_ne (a := 0) (b := 100) (by decide) (by decide) (by decide)) (br_t rfl (Hb _ _ _ _ _ _ _ _ _ _)))
      | cons n r =>
        have k4 := (hs_TAc k3).2.2.2.2.2
        have tn := hs_tkLe n
        by_cases en : hs_isN n = true
        · refine hs_yTokK k3 100 (hs_tkN en).1 (br_t rfl (br_f (by decide) (And.intro (vp_in_nI (hs_TAlt k4) (by decide)) ?_)))
          rw [nI_clamp (show p + 1 + 1 + 1 < 2 ^ 31 by have := hs_TAlt k4; omega)]
          have : hs_hd r = 21 := by
            rcases h2 with z | z | z | z
            · exact absurd rfl z
            · simp only [List.length_cons] at z; omega
            · have z : hs_isN n = false := z
              rw [en] at z; cases z
            · exact z
          exact br_t ((hs_TAh k4 (hs_notEn (by decide) (by decide)) (by decide)).mpr this) (Hb _ _ _ _ _ _ _ _ _ _)
        · have hf : hs_tk n ≠ 100 := hs_isNf (hvt n (by simp)) (by simpa using en)
          exact hs_yTokC k3 (br_f (hs_ne hf (by omega) (by decide)) (br_t rfl (Hb _ _ _ _ _ _ _ _ _ _)))
    · have ha : hs_tk a ≠ 24 ∧ hs_tk a ≠ 21 := by
        have h1 : a ≠ 21 := h1
        unfold hs_tk
        split
        · omega
        · split
          · omega
          · split <;> omega
      exact hs_yTokC k2 (br_f (hs_ne ha.2 (by omega) (by decide)) (br_f (hs_ne ha.1 (by omega) (by decide)) (Hb _ _ _ _ _ _ _ _ _ _)))
theorem hs_ySupR {tx : Nat → Int32} {p n ot : Nat} {r : List Nat} (h : hs_TA tx p (13 :: 24 :: n :: 21 :: r)) (hn : hs_isN n = true) (ho : ot < 320) {post : Int32 → SY → Prop} (H : post 0 (y_maxObjects, y_maxSteps, y_maxDepth, y_kept, y_end, y_tokens, y_pending, y_lines, y_classes, y_prints, y_place, y_steps, y_d, y_valTop, nI (ot + 1), y_opens + 1, nI (p + 1 + 1 + 1 + 1), nI 21, nI (21 - 21), y_stmt, y_target, y_err, y_code, y_outcome, y_result, 0, 1, y_starting, y_ended, y_bad, y_hosted, 1, tx, y_numbers, y_globals, y_entries, y_attrs, y_classOf, y_alive, y_orders, y_lengths, y_letters, y_bases, y_vals, upd y_ops ot (nI (3 + 64 * (n - 100))), y_locals, y_fRecv, y_fLine, y_fPos, y_fStmt, y_fTarget, y_fMask, y_fHome, y_fOps, y_fVals, y_fNew, y_out)) : wpY_expressionToken post (y_maxObjects, y_maxSteps, y_maxDepth, y_kept, y_end, y_tokens, y_pending, y_lines, y_classes, y_prints, y_place, y_steps, y_d, y_valTop, nI ot, y_opens, nI p, y_tk, y_tv, y_stmt, y_target, y_err, y_code, y_outcome, y_result, 0, 1, y_starting, y_ended, y_bad, y_hosted, y_sawSuper, tx, y_numbers, y_globals, y_entries, y_attrs, y_classOf, y_alive, y_orders, y_lengths, y_letters, y_bases, y_vals, y_ops, y_locals, y_fRecv, y_fLine, y_fPos, y_fStmt, y_fTarget, y_fMask, y_fHome, y_fOps, y_fVals, y_fNew, y_out) := by
  unfold wpY_expressionToken
  refine hs_yTokK h 13 (hs_tkS (by decide)) (br_f (by decide) ?_)
  unfold wpY_operand
  refine br_f (hs_ne (a := 13) (b := 1000) (by decide) (by decide) (by decide)) (br_f (hs_ne (a := 13) (b := 12) (by decide) (by decide) (by decide)) (br_f (hs_ne (a := 13) (b := 100) (by decide) (by decide) (by decide)) (br_f (hs_ne (a := 13) (b := 21) (by decide) (by decide) (by decide)) (br_f (hs_ne (a := 13) (b := 130) (by decide) (by decide) (by decide)) (br_t rfl ?_)))))
  unfold wpY_is
  have h2 := (hs_TAc h).2.2.2.2.2
  have h3 := (hs_TAc h2).2.2.2.2.2
  have h4 := (hs_TAc h3).2.2.2.2.2
  refine hs_yTokK h2 24 (hs_tkS (by decide)) (br_t rfl (br_f (by decide) ?_))
  refine hs_yTokK h3 100 (hs_tkN hn).1 (br_t rfl (br_f (by decide) ?_))
  refine hs_yTokK h4 21 (hs_tkS (by decide)) (br_t rfl (br_f (by decide) ?_))
  rw [show (3 : Int32) = nI 3 from rfl, hs_op64]
  exact hs_yParenR ho H
theorem hs_ySupD {tx : Nat → Int32} {p n ot on : Nat} {r : List Nat} (h : hs_TA tx p (13 :: 24 :: n :: 21 :: r)) (hn : hs_isN n = true) (ho : ot < 320) (hon : on < 1000) {post : Int32 → SY → Prop} (H : on < 4 → post 0 (y_maxObjects, y_maxSteps, y_maxDepth, y_kept, y_end, y_tokens, y_pending, y_lines, y_classes, y_prints, y_place, y_steps, y_d, y_valTop, nI (ot + 1), nI (on + 1), nI (p + 1 + 1 + 1 + 1), nI 21, nI (21 - 21), y_stmt, y_target, y_err, y_code, y_outcome, y_result, 1, 1, y_starting, y_ended, y_bad, y_hosted, 1, tx, y_numbers, y_globals, y_entries, y_attrs, y_classOf, y_alive, y_orders, y_lengths, y_letters, y_bases, y_vals, upd y_ops ot (nI (3 + 64 * (n - 100))), y_locals, y_fRecv, y_fLine, y_fPos, y_fStmt, y_fTarget, y_fMask, y_fHome, y_fOps, y_fVals, y_fNew, y_out)) (Hb : 4 ≤ on → post 0 (y_maxObjects, y_maxSteps, y_maxDepth, y_kept, y_end, y_tokens, y_pending, y_lines, y_classes, y_prints, y_place, y_steps, y_d, y_valTop, nI (ot + 1), nI (on + 1), nI (p + 1 + 1 + 1 + 1), nI 21, nI (21 - 21), y_stmt, y_target, y_err, y_code, y_outcome, y_result, 1, 1, y_starting, y_ended, 1, y_hosted, 1, tx, y_numbers, y_globals, y_entries, y_attrs, y_classOf, y_alive, y_orders, y_lengths, y_letters, y_bases, y_vals, upd y_ops ot (nI (3 + 64 * (n - 100))), y_locals, y_fRecv, y_fLine, y_fPos, y_fStmt, y_fTarget, y_fMask, y_fHome, y_fOps, y_fVals, y_fNew, y_out)) : wpY_expressionToken post (y_maxObjects, y_maxSteps, y_maxDepth, y_kept, y_end, y_tokens, y_pending, y_lines, y_classes, y_prints, y_place, y_steps, y_d, y_valTop, nI ot, nI on, nI p, y_tk, y_tv, y_stmt, y_target, y_err, y_code, y_outcome, y_result, 1, 1, y_starting, y_ended, y_bad, y_hosted, y_sawSuper, tx, y_numbers, y_globals, y_entries, y_attrs, y_classOf, y_alive, y_orders, y_lengths, y_letters, y_bases, y_vals, y_ops, y_locals, y_fRecv, y_fLine, y_fPos, y_fStmt, y_fTarget, y_fMask, y_fHome, y_fOps, y_fVals, y_fNew, y_out) := by
  unfold wpY_expressionToken
  refine hs_yTokK h 13 (hs_tkS (by decide)) (br_f (by decide) ?_)
  unfold wpY_operand
  refine br_f (hs_ne (a := 13) (b := 1000) (by decide) (by decide) (by decide)) (br_f (hs_ne (a := 13) (b := 12) (by decide) (by decide) (by decide)) (br_f (hs_ne (a := 13) (b := 100) (by decide) (by decide) (by decide)) (br_f (hs_ne (a := 13) (b := 21) (by decide) (by decide) (by decide)) (br_f (hs_ne (a := 13) (b := 130) (by decide) (by decide) (by decide)) (br_t rfl ?_)))))
  unfold wpY_is
  have h2 := (hs_TAc h).2.2.2.2.2
  have h3 := (hs_TAc h2).2.2.2.2.2
  have h4 := (hs_TAc h3).2.2.2.2.2
  refine hs_yTokK h2 24 (hs_tkS (by decide)) (br_t rfl (br_f (by decide) ?_))
  refine hs_yTokK h3 100 (hs_tkN hn).1 (br_t rfl (br_f (by decide) ?_))
  refine hs_yTokK h4 21 (hs_tkS (by decide)) (br_t rfl (br_f (by decide) ?_))
  rw [show (3 : Int32) = nI 3 from rfl, hs_op64]
  exact hs_yParenD ho hon H Hb
theorem hs_tkK {a k : Nat} (h : a ≠ k) (hk : k < 100) : hs_tk a ≠ k := by
  unfold hs_tk
  split
  · omega
  · split
    · omega
    · split <;> omega
theorem hs_ySupBad {tx : Nat → Int32} {p : Nat} {r : List Nat} (h : hs_TA tx p (13 :: r)) (hvt : ∀ x, x ∈ r → hs_vt x) {post : Int32 → SY → Prop} (hr : ∀ n r1, r = 24 :: n :: 21 :: r1 → hs_isN n = false) (Hb : (∀ (q1 q2 q3 q4 q5 q6 q7 q8 : Int32) (q9 : Nat → Int64) (q10 : Nat → Int32), post 0 (y_maxObjects, y_maxSteps, y_maxDepth, y_kept, y_end, y_tokens, y_pending, y_lines, y_classes, y_prints, y_place, y_steps, y_d, q7, q8, q1, q2, q3, q4, y_stmt, y_target, y_err, y_code, y_outcome, y_result, 1, q5, y_starting, y_ended, 1, y_hosted, q6, tx, y_numbers, y_globals, y_entries, y_attrs, y_classOf, y_alive, y_orders, y_lengths, y_letters, y_bases, q9, q10, y_locals, y_fRecv, y_fLine, y_fPos, y_fStmt, y_fTarget, y_fMask, y_fHome, y_fOps, y_fVals, y_fNew, y_out))) : wpY_expressionToken post (y_maxObjects, y_maxSteps, y_maxDepth, y_kept, y_end, y_tokens, y_pending, y_lines, y_classes, y_prints, y_place, y_steps, y_d, y_valTop, y_opTop, y_opens, nI p, y_tk, y_tv, y_stmt, y_target, y_err, y_code, y_outcome, y_result, 1, 1, y_starting, y_ended, y_bad, y_hosted, y_sawSuper, tx, y_numbers, y_globals, y_entries, y_attrs, y_classOf, y_alive, y_orders, y_lengths, y_letters, y_bases, y_vals, y_ops, y_locals, y_fRecv, y_fLine, y_fPos, y_fStmt, y_fTarget, y_fMask, y_fHome, y_fOps, y_fVals, y_fNew, y_out) := by
  unfold wpY_expressionToken
  refine hs_yTokK h 13 (hs_tkS (by decide)) (br_f (by decide) ?_)
  unfold wpY_operand
  refine br_f (hs_ne (a := 13) (b := 1000) (by decide) (by decide) (by decide)) (br_f (hs_ne (a := 13) (b := 12) (by decide) (by decide) (by decide)) (br_f (hs_ne (a := 13) (b := 100) (by decide) (by decide) (by decide)) (br_f (hs_ne (a := 13) (b := 21) (by decide) (by decide) (by decide)) (br_f (hs_ne (a := 13) (b := 130) (by decide) (by decide) (by decide)) (br_t rfl ?_)))))
  unfold wpY_is
  have k2 := (hs_TAc h).2.2.2.2.2
  cases r with
  | nil => exact hs_yTokE k2 (br_f (hs_ne (a := 0) (b := 24) (by decide) (by decide) (by decide)) (br_t rfl (Hb _ _ _ _ _ _ _ _ _ _)))
  | cons a r =>
    have k3 := (hs_TAc k2).2.2.2.2.2
    have ta := hs_tkLe a
    by_cases e : a = 24
    · subst e
      refine hs_yTokK k2 24 (hs_tkS (by decide)) (br_t rfl (br_f (by decide) ?_))
      cases r with
      | nil => exact hs_yTokE k3 (br_f (hs_ne (a := 0) (b := 100) (by decide) (by decide) (by decide)) (br_t rfl (Hb _ _ _ _ _ _ _ _ _ _)))
      | cons n r =>
        have k4 := (hs_TAc k3).2.2.2.2.2
        have tn := hs_tkLe n
        by_cases en : hs_isN n = true
        · refine hs_yTokK k3 100 (hs_tkN en).1 (br_t rfl (br_f (by decide) ?_))
          cases r with
          | nil => exact hs_yTokE k4 (br_f (hs_ne (a := 0) (b := 21) (by decide) (by decide) (by decide)) (br_t rfl (Hb _ _ _ _ _ _ _ _ _ _)))
          | cons q r =>
            have tq := hs_tkLe q
            by_cases eq : q = 21
            · subst eq
              have := hr n r rfl
              rw [en] at this; cases this
            · exact hs_yTokC k4 (br_f (hs_ne (hs_tkK eq (by decide)) (by omega) (by decide)) (br_t rfl (Hb _ _ _ _ _ _ _ _ _ _)))
        · have hf : hs_tk n ≠ 100 := hs_isNf (hvt n (by simp)) (by simpa using en)
          exact hs_yTokC k3 (br_f (hs_ne hf (by omega) (by decide)) (br_t rfl (Hb _ _ _ _ _ _ _ _ _ _)))
    · exact hs_yTokC k2 (br_f (hs_ne (hs_tkK e (by decide)) (by omega) (by decide)) (br_t rfl (Hb _ _ _ _ _ _ _ _ _ _)))
theorem hs_and63 {s : Nat} (h : s < 1048576) : nI s &&& 63 = nI (s % 64) := pk_andN (n := s) (by omega) 6 (by decide)
theorem hs_shr6 {s : Nat} (h : s < 1048576) : nI s >>> ((6 : Int32) &&& 31) = nI (s / 64) := pk_shrN (n := s) (by omega) _ 6 (by decide)
theorem hs_yClose0 {n dd base ot s : Nat} {fo : Nat → Int32} (hd : dd < 7) (hf : fo dd = nI base) (hb : base ≤ ot) (ho : ot < 320) (hs : y_ops ot = nI s) {post : SY → Prop} (H : wY_close_31 post (nI n) (nI s) y_maxObjects y_maxSteps y_maxDepth y_kept y_end y_tokens y_pending y_lines y_classes y_prints y_place y_steps (nI dd) y_valTop (nI (ot + 1)) y_opens y_pos y_tk y_tv y_stmt y_target y_err y_code y_outcome y_result y_dry y_want y_starting y_ended y_bad y_hosted y_sawSuper y_text y_numbers y_globals y_entries y_attrs y_classOf y_alive y_orders y_lengths y_letters y_bases y_vals y_ops y_locals y_fRecv y_fLine y_fPos y_fStmt y_fTarget y_fMask y_fHome fo y_fVals y_fNew y_out) : wpY_close post (y_maxObjects, y_maxSteps, y_maxDepth, y_kept, y_end, y_tokens, y_pending, y_lines, y_classes, y_prints, y_place, y_steps, nI dd, y_valTop, nI (ot + 1), y_opens, y_pos, y_tk, y_tv, y_stmt, y_target, y_err, y_code, y_outcome, y_result, y_dry, y_want, y_starting, y_ended, y_bad, y_hosted, y_sawSuper, y_text, y_numbers, y_globals, y_entries, y_attrs, y_classOf, y_alive, y_orders, y_lengths, y_letters, y_bases, y_vals, y_ops, y_locals, y_fRecv, y_fLine, y_fPos, y_fStmt, y_fTarget, y_fMask, y_fHome, fo, y_fVals, y_fNew, y_out) (nI n) := by
  refine And.intro (vp_in_nI hd (by decide)) ?_
  rw [nI_clamp (show dd < 2 ^ 31 by omega), hf, nI_pred, nI_clamp (show ot < 2 ^ 31 by omega), hs]
  exact br_f (nI_ge (by omega) (by omega)) (And.intro (vp_in_nI ho (by decide)) H)
theorem hs_yCloseE {n dd base : Nat} {fo : Nat → Int32} (hd : dd < 7) (hf : fo dd = nI base) (ho : base < 1000) {post : SY → Prop} (H : post (y_maxObjects, y_maxSteps, y_maxDepth, y_kept, y_end, y_tokens, y_pending, y_lines, y_classes, y_prints, y_place, y_steps, nI dd, y_valTop, nI base, y_opens, y_pos, y_tk, y_tv, y_stmt, y_target, y_err, y_code, y_outcome, y_result, y_dry, y_want, y_starting, y_ended, 1, y_hosted, y_sawSuper, y_text, y_numbers, y_globals, y_entries, y_attrs, y_classOf, y_alive, y_orders, y_lengths, y_letters, y_bases, y_vals, y_ops, y_locals, y_fRecv, y_fLine, y_fPos, y_fStmt, y_fTarget, y_fMask, y_fHome, fo, y_fVals, y_fNew, y_out)) : wpY_close post (y_maxObjects, y_maxSteps, y_maxDepth, y_kept, y_end, y_tokens, y_pending, y_lines, y_classes, y_prints, y_place, y_steps, nI dd, y_valTop, nI base, y_opens, y_pos, y_tk, y_tv, y_stmt, y_target, y_err, y_code, y_outcome, y_result, y_dry, y_want, y_starting, y_ended, y_bad, y_hosted, y_sawSuper, y_text, y_numbers, y_globals, y_entries, y_attrs, y_classOf, y_alive, y_orders, y_lengths, y_letters, y_bases, y_vals, y_ops, y_locals, y_fRecv, y_fLine, y_fPos, y_fStmt, y_fTarget, y_fMask, y_fHome, fo, y_fVals, y_fNew, y_out) (nI n) := by
  refine And.intro (vp_in_nI hd (by decide)) ?_
  rw [nI_clamp (show dd < 2 ^ 31 by omega), hf]
  refine br_t (nI_le (Nat.le_refl _) (by omega)) ?_
  unfold wY_close_31
  exact nm_e (br_t (by decide) H)
theorem hs_yCloseB {n ot s : Nat} (hs2 : s < 1048576) (hty : ¬ (1 ≤ s % 64 ∧ s % 64 ≤ 4)) {post : SY → Prop} (H : post (y_maxObjects, y_maxSteps, y_maxDepth, y_kept, y_end, y_tokens, y_pending, y_lines, y_classes, y_prints, y_place, y_steps, y_d, y_valTop, nI (ot + 1), y_opens, y_pos, y_tk, y_tv, y_stmt, y_target, y_err, y_code, y_outcome, y_result, y_dry, y_want, y_starting, y_ended, 1, y_hosted, y_sawSuper, y_text, y_numbers, y_globals, y_entries, y_attrs, y_classOf, y_alive, y_orders, y_lengths, y_letters, y_bases, y_vals, y_ops, y_locals, y_fRecv, y_fLine, y_fPos, y_fStmt, y_fTarget, y_fMask, y_fHome, y_fOps, y_fVals, y_fNew, y_out)) : wY_close_31 post (nI n) (nI s) y_maxObjects y_maxSteps y_maxDepth y_kept y_end y_tokens y_pending y_lines y_classes y_prints y_place y_steps y_d y_valTop (nI (ot + 1)) y_opens y_pos y_tk y_tv y_stmt y_target y_err y_code y_outcome y_result y_dry y_want y_starting y_ended y_bad y_hosted y_sawSuper y_text y_numbers y_globals y_entries y_attrs y_classOf y_alive y_orders y_lengths y_letters y_bases y_vals y_ops y_locals y_fRecv y_fLine y_fPos y_fStmt y_fTarget y_fMask y_fHome y_fOps y_fVals y_fNew y_out := by
  unfold wY_close_31
  exact nm_r (hs_and63 hs2) (pk_lt (s % 64) 1 (fun _ => H) (fun a => br_f (nI_ge (a := 4) (by omega) (by omega)) H))
theorem hs_yCloseG {n ot s : Nat} (hs2 : s < 1048576) (hty : s % 64 = 1) {post : SY → Prop} (H : post (y_maxObjects, y_maxSteps, y_maxDepth, y_kept, y_end, y_tokens, y_pending, y_lines, y_classes, y_prints, y_place, y_steps, y_d, y_valTop, nI ot, y_opens - 1, y_pos, y_tk, y_tv, y_stmt, y_target, y_err, y_code, y_outcome, y_result, y_dry, 0, y_starting, y_ended, y_bad, y_hosted, y_sawSuper, y_text, y_numbers, y_globals, y_entries, y_attrs, y_classOf, y_alive, y_orders, y_lengths, y_letters, y_bases, y_vals, y_ops, y_locals, y_fRecv, y_fLine, y_fPos, y_fStmt, y_fTarget, y_fMask, y_fHome, y_fOps, y_fVals, y_fNew, y_out)) : wY_close_31 post (nI n) (nI s) y_maxObjects y_maxSteps y_maxDepth y_kept y_end y_tokens y_pending y_lines y_classes y_prints y_place y_steps y_d y_valTop (nI (ot + 1)) y_opens y_pos y_tk y_tv y_stmt y_target y_err y_code y_outcome y_result y_dry y_want y_starting y_ended y_bad y_hosted y_sawSuper y_text y_numbers y_globals y_entries y_attrs y_classOf y_alive y_orders y_lengths y_letters y_bases y_vals y_ops y_locals y_fRecv y_fLine y_fPos y_fStmt y_fTarget y_fMask y_fHome y_fOps y_fVals y_fNew y_out := by
  unfold wY_close_31
  rw [hs_and63 hs2, hty]
  exact nm_e (br_f (by decide) (br_t (by decide) (nm_r (nI_pred ot) (nm_e (br_t rfl H)))))
def hs_cn (ty n : Nat) : Nat := if ty = 2 then n + 1 else n
theorem hs_yCloseD {n ot s vt : Nat} (hs2 : s < 1048576) (hty : 2 ≤ s % 64 ∧ s % 64 ≤ 4) (hn : n ≤ 1) (hv : hs_cn (s % 64) n ≤ vt) (hv2 : vt < 320) {post : SY → Prop} (H : post (y_maxObjects, y_maxSteps, y_maxDepth, y_kept, y_end, y_tokens, y_pending, y_lines, y_classes, y_prints, y_place, y_steps, y_d, nI (vt - hs_cn (s % 64) n + 1), nI ot, y_opens - 1, y_pos, y_tk, y_tv, y_stmt, y_target, y_err, y_code, y_outcome, y_result, 1, 0, y_starting, y_ended, y_bad, y_hosted, y_sawSuper, y_text, y_numbers, y_globals, y_entries, y_attrs, y_classOf, y_alive, y_orders, y_lengths, y_letters, y_bases, vp_updL y_vals (vt - hs_cn (s % 64) n) 1, y_ops, y_locals, y_fRecv, y_fLine, y_fPos, y_fStmt, y_fTarget, y_fMask, y_fHome, y_fOps, y_fVals, y_fNew, y_out)) : wY_close_31 post (nI n) (nI s) y_maxObjects y_maxSteps y_maxDepth y_kept y_end y_tokens y_pending y_lines y_classes y_prints y_place y_steps y_d (nI vt) (nI (ot + 1)) y_opens y_pos y_tk y_tv y_stmt y_target y_err y_code y_outcome y_result 1 y_want y_starting y_ended y_bad y_hosted y_sawSuper y_text y_numbers y_globals y_entries y_attrs y_classOf y_alive y_orders y_lengths y_letters y_bases y_vals y_ops y_locals y_fRecv y_fLine y_fPos y_fStmt y_fTarget y_fMask y_fHome y_fOps y_fVals y_fNew y_out := by
  unfold wY_close_31
  rw [hs_and63 hs2]
  generalize s % 64 = ty at *
  refine nm_e (br_f (nI_nlt (b := 1) (by omega) (by omega)) (br_t (nI_le (b := 4) (by omega) (by decide)) (nm_r (nI_pred ot) (nm_e (br_f (hs_ne (b := 1) (by omega) (by omega) (by decide)) (br_f (by decide) ?_))))))
  unfold hs_cn at *
  refine pk_eq ty 2 (fun e => ?_) (fun e => ?_)
  · rw [if_pos e] at H hv
    unfold wY_close_108
    refine nm_r (show nI vt - (nI n + 1) = nI (vt - (n + 1)) by rw [nI_1, pk_sub hv]) (nm_r (nI_1 _) (And.intro (vp_in_nI (by omega) (by decide)) ?_))
    rw [nI_clamp (show vt - (n + 1) < 2 ^ 31 by omega)]
    exact nm_e H
  · rw [if_neg e] at H hv
    unfold wY_close_108
    refine nm_r (pk_sub hv) (nm_r (nI_1 _) (And.intro (vp_in_nI (by omega) (by decide)) ?_))
    rw [nI_clamp (show vt - n < 2 ^ 31 by omega)]
    exact nm_e H
theorem hs_yCloseR {n ot s vt : Nat} {arg : Int64} (hs2 : s < 1048576) (hty : 2 ≤ s % 64 ∧ s % 64 ≤ 4) (hn : n = 0 ∧ arg = 0 ∨ n = 1 ∧ 1 ≤ vt ∧ arg = y_vals (vt - 1)) (hv2 : vt < 320) {post : SY → Prop} (H : wY_close_149 post (nI n) (nI s) (nI (s % 64)) arg y_maxObjects y_maxSteps y_maxDepth y_kept y_end y_tokens y_pending y_lines y_classes y_prints y_place y_steps y_d (nI vt) (nI ot) (y_opens - 1) y_pos y_tk y_tv y_stmt y_target y_err y_code y_outcome y_result 0 0 y_starting y_ended y_bad y_hosted y_sawSuper y_text y_numbers y_globals y_entries y_attrs y_classOf y_alive y_orders y_lengths y_letters y_bases y_vals y_ops y_locals y_fRecv y_fLine y_fPos y_fStmt y_fTarget y_fMask y_fHome y_fOps y_fVals y_fNew y_out) : wY_close_31 post (nI n) (nI s) y_maxObjects y_maxSteps y_maxDepth y_kept y_end y_tokens y_pending y_lines y_classes y_prints y_place y_steps y_d (nI vt) (nI (ot + 1)) y_opens y_pos y_tk y_tv y_stmt y_target y_err y_code y_outcome y_result 0 y_want y_starting y_ended y_bad y_hosted y_sawSuper y_text y_numbers y_globals y_entries y_attrs y_classOf y_alive y_orders y_lengths y_letters y_bases y_vals y_ops y_locals y_fRecv y_fLine y_fPos y_fStmt y_fTarget y_fMask y_fHome y_fOps y_fVals y_fNew y_out := by
  unfold wY_close_31
  rw [hs_and63 hs2]
  generalize s % 64 = ty at *
  refine nm_e (br_f (nI_nlt (b := 1) (by omega) (by omega)) (br_t (nI_le (b := 4) (by omega) (by decide)) (nm_r (nI_pred ot) (nm_e (br_f (hs_ne (b := 1) (by omega) (by omega) (by decide)) (br_t rfl ?_))))))
  rcases hn with ⟨rfl, rfl⟩ | ⟨rfl, h1, rfl⟩
  · exact br_t (by decide) H
  · have e : nI vt - 1 = nI (vt - 1) := pk_sub (b := 1) h1
    rw [e, nI_clamp (show vt - 1 < 2 ^ 31 by omega)]
    exact br_f (by decide) (And.intro (vp_in_nI (by omega) (by decide)) H)
/-- 22 where an operand is wanted -/
theorem hs_yC0 {tx : Nat → Int32} {p dd base ot s : Nat} {r : List Nat} {fo : Nat → Int32} (h : hs_TA tx p (22 :: r)) (hd : dd < 7) (hf : fo dd = nI base) (hb : base ≤ ot) (ho : ot < 320) (hs : y_ops ot = nI s) (hs2 : s < 1048576) (hty : 2 ≤ s % 64 ∧ s % 64 ≤ 4) {post : Int32 → SY → Prop} (H : wpY_close (fun u => match u with | (y_maxObjectsq, y_maxStepsq, y_maxDepthq, y_keptq, y_endq, y_tokensq, y_pendingq, y_linesq, y_classesq, y_printsq, y_placeq, y_stepsq, y_dq, y_valTopq, y_opTopq, y_opensq, y_posq, y_tkq, y_tvq, y_stmtq, y_targetq, y_errq, y_codeq, y_outcomeq, y_resultq, y_dryq, y_wantq, y_startingq, y_endedq, y_badq, y_hostedq, y_sawSuperq, y_textq, y_numbersq, y_globalsq, y_entriesq, y_attrsq, y_classOfq, y_aliveq, y_ordersq, y_lengthsq, y_lettersq, y_basesq, y_valsq, y_opsq, y_localsq, y_fRecvq, y_fLineq, y_fPosq, y_fStmtq, y_fTargetq, y_fMaskq, y_fHomeq, y_fOpsq, y_fValsq, y_fNewq, y_outq) => post 0 (y_maxObjectsq, y_maxStepsq, y_maxDepthq, y_keptq, y_endq, y_tokensq, y_pendingq, y_linesq, y_classesq, y_printsq, y_placeq, y_stepsq, y_dq, y_valTopq, y_opTopq, y_opensq, y_posq, y_tkq, y_tvq, y_stmtq, y_targetq, y_errq, y_codeq, y_outcomeq, y_resultq, y_dryq, y_wantq, y_startingq, y_endedq, y_badq, y_hostedq, y_sawSuperq, y_textq, y_numbersq, y_globalsq, y_entriesq, y_attrsq, y_classOfq, y_aliveq, y_ordersq, y_lengthsq, y_lettersq, y_basesq, y_valsq, y_opsq, y_localsq, y_fRecvq, y_fLineq, y_fPosq, y_fStmtq, y_fTargetq, y_fMaskq, y_fHomeq, y_fOpsq, y_fValsq, y_fNewq, y_outq)) (y_maxObjects, y_maxSteps, y_maxDepth, y_kept, y_end, y_tokens, y_pending, y_lines, y_classes, y_prints, y_place, y_steps, nI dd, y_valTop, nI (ot + 1), y_opens, nI (p + 1), nI 22, nI (22 - 22), y_stmt, y_target, y_err, y_code, y_outcome, y_result, y_dry, 1, y_starting, y_ended, y_bad, y_hosted, y_sawSuper, tx, y_numbers, y_globals, y_entries, y_attrs, y_classOf, y_alive, y_orders, y_lengths, y_letters, y_bases, y_vals, y_ops, y_locals, y_fRecv, y_fLine, y_fPos, y_fStmt, y_fTarget, y_fMask, y_fHome, fo, y_fVals, y_fNew, y_out) (nI 0)) : wpY_expressionToken post (y_maxObjects, y_maxSteps, y_maxDepth, y_kept, y_end, y_tokens, y_pending, y_lines, y_classes, y_prints, y_place, y_steps, nI dd, y_valTop, nI (ot + 1), y_opens, nI p, y_tk, y_tv, y_stmt, y_target, y_err, y_code, y_outcome, y_result, y_dry, 1, y_starting, y_ended, y_bad, y_hosted, y_sawSuper, tx, y_numbers, y_globals, y_entries, y_attrs, y_classOf, y_alive, y_orders, y_lengths, y_letters, y_bases, y_vals, y_ops, y_locals, y_fRecv, y_fLine, y_fPos, y_fStmt, y_fTarget, y_fMask, y_fHome, fo, y_fVals, y_fNew, y_out) := by
  unfold wpY_expressionToken
  refine hs_yTokK h 22 (hs_tkS (by decide)) (br_f (by decide) ?_)
  unfold wpY_operand
  refine br_f (hs_ne (a := 22) (b := 1000) (by decide) (by decide) (by decide)) (br_f (hs_ne (a := 22) (b := 12) (by decide) (by decide) (by decide)) (br_f (hs_ne (a := 22) (b := 100) (by decide) (by decide) (by decide)) (br_f (hs_ne (a := 22) (b := 21) (by decide) (by decide) (by decide)) (br_f (hs_ne (a := 22) (b := 130) (by decide) (by decide) (by decide)) (br_f (hs_ne (a := 22) (b := 13) (by decide) (by decide) (by decide)) (br_t rfl (And.intro (vp_in_nI hd (by decide)) ?_)))))))
  rw [nI_clamp (show dd < 2 ^ 31 by omega), hf, nI_pred, nI_clamp (show ot < 2 ^ 31 by omega), hs, hs_and63 hs2]
  have vi : vp_in (nI ot) 320 := vp_in_nI ho (by decide)
  exact br_f (nI_ge (by omega) (by omega)) (And.intro vi (br_f (nI_nlt (b := 2) (by omega) (by omega)) (And.intro vi (br_f (nI_nlt (a := 4) (by omega) (by decide)) H))))
theorem hs_yC0bad {tx : Nat → Int32} {p dd base : Nat} {r st : List Nat} {fo : Nat → Int32} {ot : Nat} (h : hs_TA tx p (22 :: r)) (hd : dd < 7) (hf : fo dd = nI base) (hS : hs_SA y_ops base ot st) (ho : ot < 320) (hty : ¬ (2 ≤ hs_hd st % 64 ∧ hs_hd st % 64 ≤ 4)) {post : Int32 → SY → Prop} (Hb : (∀ (q1 q2 q3 q4 q5 q6 q7 q8 : Int32) (q9 : Nat → Int64) (q10 : Nat → Int32), post 0 (y_maxObjects, y_maxSteps, y_maxDepth, y_kept, y_end, y_tokens, y_pending, y_lines, y_classes, y_prints, y_place, y_steps, y_d, q7, q8, q1, q2, q3, q4, y_stmt, y_target, y_err, y_code, y_outcome, y_result, 1, q5, y_starting, y_ended, 1, y_hosted, q6, tx, y_numbers, y_globals, y_entries, y_attrs, y_classOf, y_alive, y_orders, y_lengths, y_letters, y_bases, q9, q10, y_locals, y_fRecv, y_fLine, y_fPos, y_fStmt, y_fTarget, y_fMask, y_fHome, y_fOps, y_fVals, y_fNew, y_out))) (Hb' : post 0 (y_maxObjects, y_maxSteps, y_maxDepth, y_kept, y_end, y_tokens, y_pending, y_lines, y_classes, y_prints, y_place, y_steps, nI dd, y_valTop, nI ot, y_opens, nI (p + 1), nI 22, nI (22 - 22), y_stmt, y_target, y_err, y_code, y_outcome, y_result, y_dry, 1, y_starting, y_ended, 1, y_hosted, y_sawSuper, tx, y_numbers, y_globals, y_entries, y_attrs, y_classOf, y_alive, y_orders, y_lengths, y_letters, y_bases, y_vals, y_ops, y_locals, y_fRecv, y_fLine, y_fPos, y_fStmt, y_fTarget, y_fMask, y_fHome, fo, y_fVals, y_fNew, y_out)) : wpY_expressionToken post (y_maxObjects, y_maxSteps, y_maxDepth, y_kept, y_end, y_tokens, y_pending, y_lines, y_classes, y_prints, y_place, y_steps, nI dd, y_valTop, nI ot, y_opens, nI p, y_tk, y_tv, y_stmt, y_target, y_err, y_code, y_outcome, y_result, y_dry, 1, y_starting, y_ended, y_bad, y_hosted, y_sawSuper, tx, y_numbers, y_globals, y_entries, y_attrs, y_classOf, y_alive, y_orders, y_lengths, y_letters, y_bases, y_vals, y_ops, y_locals, y_fRecv, y_fLine, y_fPos, y_fStmt, y_fTarget, y_fMask, y_fHome, fo, y_fVals, y_fNew, y_out) := by
  unfold wpY_expressionToken
  refine hs_yTokK h 22 (hs_tkS (by decide)) (br_f (by decide) ?_)
  unfold wpY_operand
  refine br_f (hs_ne (a := 22) (b := 1000) (by decide) (by decide) (by decide)) (br_f (hs_ne (a := 22) (b := 12) (by decide) (by decide) (by decide)) (br_f (hs_ne (a := 22) (b := 100) (by decide) (by decide) (by decide)) (br_f (hs_ne (a := 22) (b := 21) (by decide) (by decide) (by decide)) (br_f (hs_ne (a := 22) (b := 130) (by decide) (by decide) (by decide)) (br_f (hs_ne (a := 22) (b := 13) (by decide) (by decide) (by decide)) (br_t rfl (And.intro (vp_in_nI hd (by decide)) ?_)))))))
  rw [nI_clamp (show dd < 2 ^ 31 by omega), hf]
  cases st with
  | nil =>
    have e : ot = base := hS
    subst e
    exact br_t (nI_le (Nat.le_refl _) (by omega)) Hb'
  | cons s st =>
    obtain ⟨t, rfl, hb, hs, hs2, _⟩ := hS
    have hty : ¬ (2 ≤ s % 64 ∧ s % 64 ≤ 4) := hty
    rw [nI_pred, nI_clamp (show t < 2 ^ 31 by omega), hs, hs_and63 hs2]
    have vi : vp_in (nI t) 320 := vp_in_nI (by omega) (by decide)
    refine br_f (nI_ge (by omega) (by omega)) (And.intro vi ?_)
    refine pk_lt (s % 64) 2 (fun _ => Hb') (fun z => And.intro vi (pk_lt 4 (s % 64) (fun _ => Hb') (fun y => absurd ⟨z, y⟩ hty)))
theorem hs_yOpdBad {tx : Nat → Int32} {p t : Nat} {r : List Nat} (h : hs_TA tx p (t :: r)) (hv : hs_vt t) (h1 : ¬ 1000 ≤ t) (h2 : t ≠ 12) (h3 : hs_isN t = false) (h4 : t ≠ 21) (h5 : hs_isC t = false) (h6 : t ≠ 13) (h7 : t ≠ 22) {post : Int32 → SY → Prop} (H : post 0 (y_maxObjects, y_maxSteps, y_maxDepth, y_kept, y_end, y_tokens, y_pending, y_lines, y_classes, y_prints, y_place, y_steps, y_d, y_valTop, y_opTop, y_opens, nI (p + 1), nI t, nI (t - t), y_stmt, y_target, y_err, y_code, y_outcome, y_result, y_dry, 1, y_starting, y_ended, 1, y_hosted, y_sawSuper, tx, y_numbers, y_globals, y_entries, y_attrs, y_classOf, y_alive, y_orders, y_lengths, y_letters, y_bases, y_vals, y_ops, y_locals, y_fRecv, y_fLine, y_fPos, y_fStmt, y_fTarget, y_fMask, y_fHome, y_fOps, y_fVals, y_fNew, y_out)) : wpY_expressionToken post (y_maxObjects, y_maxSteps, y_maxDepth, y_kept, y_end, y_tokens, y_pending, y_lines, y_classes, y_prints, y_place, y_steps, y_d, y_valTop, y_opTop, y_opens, nI p, y_tk, y_tv, y_stmt, y_target, y_err, y_code, y_outcome, y_result, y_dry, 1, y_starting, y_ended, y_bad, y_hosted, y_sawSuper, tx, y_numbers, y_globals, y_entries, y_attrs, y_classOf, y_alive, y_orders, y_lengths, y_letters, y_bases, y_vals, y_ops, y_locals, y_fRecv, y_fLine, y_fPos, y_fStmt, y_fTarget, y_fMask, y_fHome, y_fOps, y_fVals, y_fNew, y_out) := by
  have ht : t < 100 := by
    rcases hv with z | z | z | z | z
    · omega
    · omega
    · rw [h3] at z; cases z
    · rw [h5] at z; cases z
    · omega
  unfold wpY_expressionToken
  refine hs_yTokK h t (hs_tkS ht) (br_f (by decide) ?_)
  unfold wpY_operand
  exact br_f (hs_ne (a := t) (b := 1000) (by omega) (by omega) (by omega)) (br_f (hs_ne (a := t) (b := 12) (by omega) (by omega) (by omega)) (br_f (hs_ne (a := t) (b := 100) (by omega) (by omega) (by omega)) (br_f (hs_ne (a := t) (b := 21) (by omega) (by omega) (by omega)) (br_f (hs_ne (a := t) (b := 130) (by omega) (by omega) (by omega)) (br_f (hs_ne (a := t) (b := 13) (by omega) (by omega) (by omega)) (br_f (hs_ne (a := t) (b := 22) (by omega) (by omega) (by omega)) H))))))
theorem hs_yOpdEnd {tx : Nat → Int32} {p : Nat} (h : hs_TA tx p []) {post : Int32 → SY → Prop} (H : post 0 (y_maxObjects, y_maxSteps, y_maxDepth, y_kept, y_end, y_tokens, y_pending, y_lines, y_classes, y_prints, y_place, y_steps, y_d, y_valTop, y_opTop, y_opens, nI p, 0, y_tv, y_stmt, y_target, y_err, y_code, y_outcome, y_result, y_dry, 1, y_starting, y_ended, 1, y_hosted, y_sawSuper, tx, y_numbers, y_globals, y_entries, y_attrs, y_classOf, y_alive, y_orders, y_lengths, y_letters, y_bases, y_vals, y_ops, y_locals, y_fRecv, y_fLine, y_fPos, y_fStmt, y_fTarget, y_fMask, y_fHome, y_fOps, y_fVals, y_fNew, y_out)) : wpY_expressionToken post (y_maxObjects, y_maxSteps, y_maxDepth, y_kept, y_end, y_tokens, y_pending, y_lines, y_classes, y_prints, y_place, y_steps, y_d, y_valTop, y_opTop, y_opens, nI p, y_tk, y_tv, y_stmt, y_target, y_err, y_code, y_outcome, y_result, y_dry, 1, y_starting, y_ended, y_bad, y_hosted, y_sawSuper, tx, y_numbers, y_globals, y_entries, y_attrs, y_classOf, y_alive, y_orders, y_lengths, y_letters, y_bases, y_vals, y_ops, y_locals, y_fRecv, y_fLine, y_fPos, y_fStmt, y_fTarget, y_fMask, y_fHome, y_fOps, y_fVals, y_fNew, y_out) := by
  unfold wpY_expressionToken
  refine hs_yTokE h (br_f (by decide) ?_)
  unfold wpY_operand
  exact br_f (hs_ne (a := 0) (b := 1000) (by decide) (by decide) (by decide)) (br_f (hs_ne (a := 0) (b := 12) (by decide) (by decide) (by decide)) (br_f (hs_ne (a := 0) (b := 100) (by decide) (by decide) (by decide)) (br_f (hs_ne (a := 0) (b := 21) (by decide) (by decide) (by decide)) (br_f (hs_ne (a := 0) (b := 130) (by decide) (by decide) (by decide)) (br_f (hs_ne (a := 0) (b := 13) (by decide) (by decide) (by decide)) (br_f (hs_ne (a := 0) (b := 22) (by decide) (by decide) (by decide)) H))))))
end
end
section
/-! Y's expression tokens where an operator is looked for -/
section
variable {x_objectLimit x_stepLimit x_depthLimit x_pendingCount x_keptTokens x_keptLines x_lineCount x_codeCount x_cursor x_stop x_waitingCount x_openCount x_classCount x_callCount x_operandCount x_stepsTaken x_error x_raisedCode x_printCount x_lastPlace : Int32} {x_lastResult : Int64} {x_pending x_lineTable x_orders x_merging x_letterClass x_objectClass x_calls x_lastPrints : Nat → Int32} {x_code x_waiting x_globals x_entries x_attributes x_held x_operands : Nat → Int64}
variable {y_maxObjects y_maxSteps y_maxDepth y_kept y_end y_tokens y_pending y_lines y_classes y_prints y_place y_steps y_d y_valTop y_opTop y_opens y_pos y_tk y_tv y_stmt y_target y_err y_code y_outcome y_dry y_want y_starting y_ended y_bad y_hosted y_sawSuper : Int32} {y_result : Int64} {y_text y_numbers y_classOf y_alive y_orders y_lengths y_letters y_bases y_ops y_fLine y_fPos y_fStmt y_fTarget y_fMask y_fHome y_fOps y_fVals y_fNew y_out : Nat → Int32} {y_globals y_entries y_attrs y_vals y_locals y_fRecv : Nat → Int64}
theorem hs_rankTk (t : Nat) : hs_rank (hs_tk t) = hs_rank t := by
  unfold hs_tk
  split
  · unfold hs_rank; rw [if_neg (by omega), if_neg (by omega), if_neg (by omega), if_neg (by omega), if_neg (by omega), if_neg (by omega)]
  · split
    · unfold hs_rank; rw [if_neg (by omega), if_neg (by omega), if_neg (by omega), if_neg (by omega), if_neg (by omega), if_neg (by omega)]
    · split
      · unfold hs_rank; rw [if_neg (by omega), if_neg (by omega), if_neg (by omega), if_neg (by omega), if_neg (by omega), if_neg (by omega)]
      · rfl
theorem hs_rankLe (t : Nat) : hs_rank t ≤ 3 := by
  unfold hs_rank
  split
  · omega
  · split
    · omega
    · split <;> omega
theorem hs_yN0C {tx : Nat → Int32} {p t k dd base ot : Nat} {r st : List Nat} {fo : Nat → Int32} (h : hs_TA tx p (t :: r)) (hk : hs_tk t = k) (hd : dd < 7) (hf : fo dd = nI base) (hS : hs_SA y_ops base ot st) (ho : ot < 320) {post : Int32 → SY → Prop} (H : wY_expressionToken_56 post (nI p) (nI (hs_hd st % 64)) y_maxObjects y_maxSteps y_maxDepth y_kept y_end y_tokens y_pending y_lines y_classes y_prints y_place y_steps (nI dd) y_valTop (nI ot) y_opens (nI (p + 1)) (nI k) (nI (t - k)) y_stmt y_target y_err y_code y_outcome y_result y_dry 0 y_starting y_ended y_bad y_hosted y_sawSuper tx y_numbers y_globals y_entries y_attrs y_classOf y_alive y_orders y_lengths y_letters y_bases y_vals y_ops y_locals y_fRecv y_fLine y_fPos y_fStmt y_fTarget y_fMask y_fHome fo y_fVals y_fNew y_out) : wpY_expressionToken post (y_maxObjects, y_maxSteps, y_maxDepth, y_kept, y_end, y_tokens, y_pending, y_lines, y_classes, y_prints, y_place, y_steps, nI dd, y_valTop, nI ot, y_opens, nI p, y_tk, y_tv, y_stmt, y_target, y_err, y_code, y_outcome, y_result, y_dry, 0, y_starting, y_ended, y_bad, y_hosted, y_sawSuper, tx, y_numbers, y_globals, y_entries, y_attrs, y_classOf, y_alive, y_orders, y_lengths, y_letters, y_bases, y_vals, y_ops, y_locals, y_fRecv, y_fLine, y_fPos, y_fStmt, y_fTarget, y_fMask, y_fHome, fo, y_fVals, y_fNew, y_out) := by
  unfold wpY_expressionToken
  refine hs_yTokK h k hk (br_t rfl (And.intro (vp_in_nI hd (by decide)) ?_))
  rw [nI_clamp (show dd < 2 ^ 31 by omega), hf]
  cases st with
  | nil =>
    have e : ot = base := hS
    subst e
    exact br_t (nI_le (Nat.le_refl _) (by omega)) H
  | cons s st =>
    obtain ⟨t, rfl, hb, hs, hs2, _⟩ := hS
    rw [nI_pred, nI_clamp (show t < 2 ^ 31 by omega), hs, hs_and63 hs2]
    exact br_f (nI_ge (by omega) (by omega)) (And.intro (vp_in_nI (by omega) (by decide)) H)
theorem hs_yN0E {tx : Nat → Int32} {p dd base ot : Nat} {st : List Nat} {fo : Nat → Int32} (h : hs_TA tx p []) (hd : dd < 7) (hf : fo dd = nI base) (hS : hs_SA y_ops base ot st) (ho : ot < 320) {post : Int32 → SY → Prop} (H : wY_expressionToken_56 post (nI p) (nI (hs_hd st % 64)) y_maxObjects y_maxSteps y_maxDepth y_kept y_end y_tokens y_pending y_lines y_classes y_prints y_place y_steps (nI dd) y_valTop (nI ot) y_opens (nI p) 0 y_tv y_stmt y_target y_err y_code y_outcome y_result y_dry 0 y_starting y_ended y_bad y_hosted y_sawSuper tx y_numbers y_globals y_entries y_attrs y_classOf y_alive y_orders y_lengths y_letters y_bases y_vals y_ops y_locals y_fRecv y_fLine y_fPos y_fStmt y_fTarget y_fMask y_fHome fo y_fVals y_fNew y_out) : wpY_expressionToken post (y_maxObjects, y_maxSteps, y_maxDepth, y_kept, y_end, y_tokens, y_pending, y_lines, y_classes, y_prints, y_place, y_steps, nI dd, y_valTop, nI ot, y_opens, nI p, y_tk, y_tv, y_stmt, y_target, y_err, y_code, y_outcome, y_result, y_dry, 0, y_starting, y_ended, y_bad, y_hosted, y_sawSuper, tx, y_numbers, y_globals, y_entries, y_attrs, y_classOf, y_alive, y_orders, y_lengths, y_letters, y_bases, y_vals, y_ops, y_locals, y_fRecv, y_fLine, y_fPos, y_fStmt, y_fTarget, y_fMask, y_fHome, fo, y_fVals, y_fNew, y_out) := by
  unfold wpY_expressionToken
  refine hs_yTokE h (br_t rfl (And.intro (vp_in_nI hd (by decide)) ?_))
  rw [nI_clamp (show dd < 2 ^ 31 by omega), hf]
  cases st with
  | nil =>
    have e : ot = base := hS
    subst e
    exact br_t (nI_le (Nat.le_refl _) (by omega)) H
  | cons s st =>
    obtain ⟨t, rfl, hb, hs, hs2, _⟩ := hS
    rw [nI_pred, nI_clamp (show t < 2 ^ 31 by omega), hs, hs_and63 hs2]
    exact br_f (nI_ge (by omega) (by omega)) (And.intro (vp_in_nI (by omega) (by decide)) H)
theorem hs_y56c {T k : Nat} {x1 : Int32} (hT : T < 64) (hk : k ≤ 1000) (c1 : 27 ≤ T) (c2 : k ≠ 24) (c3 : hs_rank k ≤ hs_rank T) (c4 : ¬ (hs_rank k = 1 ∧ hs_rank T = 1)) {post : Int32 → SY → Prop} (H : wpY_combine (fun u => match u with | (y_maxObjectsq, y_maxStepsq, y_maxDepthq, y_keptq, y_endq, y_tokensq, y_pendingq, y_linesq, y_classesq, y_printsq, y_placeq, y_stepsq, y_dq, y_valTopq, y_opTopq, y_opensq, y_posq, y_tkq, y_tvq, y_stmtq, y_targetq, y_errq, y_codeq, y_outcomeq, y_resultq, y_dryq, y_wantq, y_startingq, y_endedq, y_badq, y_hostedq, y_sawSuperq, y_textq, y_numbersq, y_globalsq, y_entriesq, y_attrsq, y_classOfq, y_aliveq, y_ordersq, y_lengthsq, y_lettersq, y_basesq, y_valsq, y_opsq, y_localsq, y_fRecvq, y_fLineq, y_fPosq, y_fStmtq, y_fTargetq, y_fMaskq, y_fHomeq, y_fOpsq, y_fValsq, y_fNewq, y_outq) => post 0 (y_maxObjectsq, y_maxStepsq, y_maxDepthq, y_keptq, y_endq, y_tokensq, y_pendingq, y_linesq, y_classesq, y_printsq, y_placeq, y_stepsq, y_dq, y_valTopq, y_opTopq, y_opensq, y_posq, y_tkq, y_tvq, y_stmtq, y_targetq, y_errq, y_codeq, y_outcomeq, y_resultq, y_dryq, y_wantq, y_startingq, y_endedq, y_badq, y_hostedq, y_sawSuperq, y_textq, y_numbersq, y_globalsq, y_entriesq, y_attrsq, y_classOfq, y_aliveq, y_ordersq, y_lengthsq, y_lettersq, y_basesq, y_valsq, y_opsq, y_localsq, y_fRecvq, y_fLineq, y_fPosq, y_fStmtq, y_fTargetq, y_fMaskq, y_fHomeq, y_fOpsq, y_fValsq, y_fNewq, y_outq)) (y_maxObjects, y_maxSteps, y_maxDepth, y_kept, y_end, y_tokens, y_pending, y_lines, y_classes, y_prints, y_place, y_steps, y_d, y_valTop, y_opTop, y_opens, x1, nI k, y_tv, y_stmt, y_target, y_err, y_code, y_outcome, y_result, y_dry, y_want, y_starting, y_ended, y_bad, y_hosted, y_sawSuper, y_text, y_numbers, y_globals, y_entries, y_attrs, y_classOf, y_alive, y_orders, y_lengths, y_letters, y_bases, y_vals, y_ops, y_locals, y_fRecv, y_fLine, y_fPos, y_fStmt, y_fTarget, y_fMask, y_fHome, y_fOps, y_fVals, y_fNew, y_out) (nI T)) : wY_expressionToken_56 post x1 (nI T) y_maxObjects y_maxSteps y_maxDepth y_kept y_end y_tokens y_pending y_lines y_classes y_prints y_place y_steps y_d y_valTop y_opTop y_opens y_pos (nI k) y_tv y_stmt y_target y_err y_code y_outcome y_result y_dry y_want y_starting y_ended y_bad y_hosted y_sawSuper y_text y_numbers y_globals y_entries y_attrs y_classOf y_alive y_orders y_lengths y_letters y_bases y_vals y_ops y_locals y_fRecv y_fLine y_fPos y_fStmt y_fTarget y_fMask y_fHome y_fOps y_fVals y_fNew y_out := by
  have rk := hs_rankLe k
  have rT := hs_rankLe T
  unfold wY_expressionToken_56
  refine hs_yRank (by omega) (br_f (nI_nlt (b := 27) c1 (by omega)) (br_f (hs_ne (b := 24) c2 (by omega) (by decide)) (hs_yRank (by omega) (br_f (nI_nlt c3 (by omega)) ?_))))
  unfold wY_expressionToken_104
  exact pk_eq (hs_rank k) 1 (fun e => hs_yRank (by omega) (br_f (hs_ne (b := 1) (fun z => c4 ⟨e, z⟩) (by omega) (by decide)) H)) (fun _ => H)
theorem hs_y56n {T k : Nat} {x1 : Int32} (hT : T < 64) (hk : k ≤ 1000) (c : ¬ (27 ≤ T ∧ k ≠ 24 ∧ hs_rank k ≤ hs_rank T ∧ ¬ (hs_rank k = 1 ∧ hs_rank T = 1))) {post : Int32 → SY → Prop} (H : wY_expressionToken_116 post (nI T) (nI (hs_rank k)) y_maxObjects y_maxSteps y_maxDepth y_kept y_end y_tokens y_pending y_lines y_classes y_prints y_place y_steps y_d y_valTop y_opTop y_opens y_pos (nI k) y_tv y_stmt y_target y_err y_code y_outcome y_result y_dry y_want y_starting y_ended y_bad y_hosted y_sawSuper y_text y_numbers y_globals y_entries y_attrs y_classOf y_alive y_orders y_lengths y_letters y_bases y_vals y_ops y_locals y_fRecv y_fLine y_fPos y_fStmt y_fTarget y_fMask y_fHome y_fOps y_fVals y_fNew y_out) : wY_expressionToken_56 post x1 (nI T) y_maxObjects y_maxSteps y_maxDepth y_kept y_end y_tokens y_pending y_lines y_classes y_prints y_place y_steps y_d y_valTop y_opTop y_opens y_pos (nI k) y_tv y_stmt y_target y_err y_code y_outcome y_result y_dry y_want y_starting y_ended y_bad y_hosted y_sawSuper y_text y_numbers y_globals y_entries y_attrs y_classOf y_alive y_orders y_lengths y_letters y_bases y_vals y_ops y_locals y_fRecv y_fLine y_fPos y_fStmt y_fTarget y_fMask y_fHome y_fOps y_fVals y_fNew y_out := by
  have rk := hs_rankLe k
  have rT := hs_rankLe T
  unfold wY_expressionToken_56
  refine hs_yRank (by omega) (pk_lt T 27 (fun _ => H) (fun a => pk_eq k 24 (fun _ => H) (fun b => hs_yRank (by omega) (pk_lt (hs_rank T) (hs_rank k) (fun _ => H) (fun d => pk_eq (hs_rank k) 1 (fun e => hs_yRank (by omega) (pk_eq (hs_rank T) 1 (fun _ => H) (fun f => ?_))) (fun e => ?_))))))
  · exact absurd ⟨a, b, d, fun z => f z.2⟩ c
  · exact absurd ⟨a, b, d, fun z => e z.1⟩ c
theorem hs_y116p {T k ot : Nat} (hT : T < 64) (hk : k ≤ 1000) (ho : ot < 320) (c1 : 0 < hs_rank k) {post : Int32 → SY → Prop} (H : ¬ (hs_rank k = 1 ∧ hs_rank T = 1) → post 0 (y_maxObjects, y_maxSteps, y_maxDepth, y_kept, y_end, y_tokens, y_pending, y_lines, y_classes, y_prints, y_place, y_steps, y_d, y_valTop, nI (ot + 1), y_opens, y_pos, nI k, y_tv, y_stmt, y_target, y_err, y_code, y_outcome, y_result, y_dry, 1, y_starting, y_ended, y_bad, y_hosted, y_sawSuper, y_text, y_numbers, y_globals, y_entries, y_attrs, y_classOf, y_alive, y_orders, y_lengths, y_letters, y_bases, y_vals, upd y_ops ot (nI k), y_locals, y_fRecv, y_fLine, y_fPos, y_fStmt, y_fTarget, y_fMask, y_fHome, y_fOps, y_fVals, y_fNew, y_out)) (Hb : (hs_rank k = 1 ∧ hs_rank T = 1) → post 0 (y_maxObjects, y_maxSteps, y_maxDepth, y_kept, y_end, y_tokens, y_pending, y_lines, y_classes, y_prints, y_place, y_steps, y_d, y_valTop, nI (ot + 1), y_opens, y_pos, nI k, y_tv, y_stmt, y_target, y_err, y_code, y_outcome, y_result, y_dry, 1, y_starting, y_ended, 1, y_hosted, y_sawSuper, y_text, y_numbers, y_globals, y_entries, y_attrs, y_classOf, y_alive, y_orders, y_lengths, y_letters, y_bases, y_vals, upd y_ops ot (nI k), y_locals, y_fRecv, y_fLine, y_fPos, y_fStmt, y_fTarget, y_fMask, y_fHome, y_fOps, y_fVals, y_fNew, y_out)) : wY_expressionToken_116 post (nI T) (nI (hs_rank k)) y_maxObjects y_maxSteps y_maxDepth y_kept y_end y_tokens y_pending y_lines y_classes y_prints y_place y_steps y_d y_valTop (nI ot) y_opens y_pos (nI k) y_tv y_stmt y_target y_err y_code y_outcome y_result y_dry y_want y_starting y_ended y_bad y_hosted y_sawSuper y_text y_numbers y_globals y_entries y_attrs y_classOf y_alive y_orders y_lengths y_letters y_bases y_vals y_ops y_locals y_fRecv y_fLine y_fPos y_fStmt y_fTarget y_fMask y_fHome y_fOps y_fVals y_fNew y_out := by
  have rk := hs_rankLe k
  have rT := hs_rankLe T
  unfold wY_expressionToken_116 wY_expressionToken_139
  refine br_f (nI_nle c1 (by omega)) (pk_eq (hs_rank k) 1 (fun e => hs_yRank (by omega) (pk_eq (hs_rank T) 1 (fun f => ?_) (fun f => ?_))) (fun e => ?_))
  · refine nm_r (nI_1 ot) (And.intro (vp_in_nI ho (by decide)) ?_)
    rw [nI_clamp (show ot < 2 ^ 31 by omega)]
    exact nm_e (Hb ⟨e, f⟩)
  · refine nm_r (nI_1 ot) (And.intro (vp_in_nI ho (by decide)) ?_)
    rw [nI_clamp (show ot < 2 ^ 31 by omega)]
    exact nm_e (H (fun z => f z.2))
  · refine nm_r (nI_1 ot) (And.intro (vp_in_nI ho (by decide)) ?_)
    rw [nI_clamp (show ot < 2 ^ 31 by omega)]
    exact nm_e (H (fun z => e z.1))
theorem hs_y116d {T : Nat} {post : Int32 → SY → Prop} (H : wpY_dot (fun u => match u with | (y_maxObjectsq, y_maxStepsq, y_maxDepthq, y_keptq, y_endq, y_tokensq, y_pendingq, y_linesq, y_classesq, y_printsq, y_placeq, y_stepsq, y_dq, y_valTopq, y_opTopq, y_opensq, y_posq, y_tkq, y_tvq, y_stmtq, y_targetq, y_errq, y_codeq, y_outcomeq, y_resultq, y_dryq, y_wantq, y_startingq, y_endedq, y_badq, y_hostedq, y_sawSuperq, y_textq, y_numbersq, y_globalsq, y_entriesq, y_attrsq, y_classOfq, y_aliveq, y_ordersq, y_lengthsq, y_lettersq, y_basesq, y_valsq, y_opsq, y_localsq, y_fRecvq, y_fLineq, y_fPosq, y_fStmtq, y_fTargetq, y_fMaskq, y_fHomeq, y_fOpsq, y_fValsq, y_fNewq, y_outq) => post 0 (y_maxObjectsq, y_maxStepsq, y_maxDepthq, y_keptq, y_endq, y_tokensq, y_pendingq, y_linesq, y_classesq, y_printsq, y_placeq, y_stepsq, y_dq, y_valTopq, y_opTopq, y_opensq, y_posq, y_tkq, y_tvq, y_stmtq, y_targetq, y_errq, y_codeq, y_outcomeq, y_resultq, y_dryq, y_wantq, y_startingq, y_endedq, y_badq, y_hostedq, y_sawSuperq, y_textq, y_numbersq, y_globalsq, y_entriesq, y_attrsq, y_classOfq, y_aliveq, y_ordersq, y_lengthsq, y_lettersq, y_basesq, y_valsq, y_opsq, y_localsq, y_fRecvq, y_fLineq, y_fPosq, y_fStmtq, y_fTargetq, y_fMaskq, y_fHomeq, y_fOpsq, y_fValsq, y_fNewq, y_outq)) (y_maxObjects, y_maxSteps, y_maxDepth, y_kept, y_end, y_tokens, y_pending, y_lines, y_classes, y_prints, y_place, y_steps, y_d, y_valTop, y_opTop, y_opens, y_pos, nI 24, y_tv, y_stmt, y_target, y_err, y_code, y_outcome, y_result, y_dry, y_want, y_starting, y_ended, y_bad, y_hosted, y_sawSuper, y_text, y_numbers, y_globals, y_entries, y_attrs, y_classOf, y_alive, y_orders, y_lengths, y_letters, y_bases, y_vals, y_ops, y_locals, y_fRecv, y_fLine, y_fPos, y_fStmt, y_fTarget, y_fMask, y_fHome, y_fOps, y_fVals, y_fNew, y_out)) : wY_expressionToken_116 post (nI T) (nI (hs_rank 24)) y_maxObjects y_maxSteps y_maxDepth y_kept y_end y_tokens y_pending y_lines y_classes y_prints y_place y_steps y_d y_valTop y_opTop y_opens y_pos (nI 24) y_tv y_stmt y_target y_err y_code y_outcome y_result y_dry y_want y_starting y_ended y_bad y_hosted y_sawSuper y_text y_numbers y_globals y_entries y_attrs y_classOf y_alive y_orders y_lengths y_letters y_bases y_vals y_ops y_locals y_fRecv y_fLine y_fPos y_fStmt y_fTarget y_fMask y_fHome y_fOps y_fVals y_fNew y_out := by
  unfold wY_expressionToken_116
  exact br_t (by decide) (br_t rfl H)
theorem hs_y116c {T : Nat} {post : Int32 → SY → Prop} (H : wpY_close (fun u => match u with | (y_maxObjectsq, y_maxStepsq, y_maxDepthq, y_keptq, y_endq, y_tokensq, y_pendingq, y_linesq, y_classesq, y_printsq, y_placeq, y_stepsq, y_dq, y_valTopq, y_opTopq, y_opensq, y_posq, y_tkq, y_tvq, y_stmtq, y_targetq, y_errq, y_codeq, y_outcomeq, y_resultq, y_dryq, y_wantq, y_startingq, y_endedq, y_badq, y_hostedq, y_sawSuperq, y_textq, y_numbersq, y_globalsq, y_entriesq, y_attrsq, y_classOfq, y_aliveq, y_ordersq, y_lengthsq, y_lettersq, y_basesq, y_valsq, y_opsq, y_localsq, y_fRecvq, y_fLineq, y_fPosq, y_fStmtq, y_fTargetq, y_fMaskq, y_fHomeq, y_fOpsq, y_fValsq, y_fNewq, y_outq) => post 0 (y_maxObjectsq, y_maxStepsq, y_maxDepthq, y_keptq, y_endq, y_tokensq, y_pendingq, y_linesq, y_classesq, y_printsq, y_placeq, y_stepsq, y_dq, y_valTopq, y_opTopq, y_opensq, y_posq, y_tkq, y_tvq, y_stmtq, y_targetq, y_errq, y_codeq, y_outcomeq, y_resultq, y_dryq, y_wantq, y_startingq, y_endedq, y_badq, y_hostedq, y_sawSuperq, y_textq, y_numbersq, y_globalsq, y_entriesq, y_attrsq, y_classOfq, y_aliveq, y_ordersq, y_lengthsq, y_lettersq, y_basesq, y_valsq, y_opsq, y_localsq, y_fRecvq, y_fLineq, y_fPosq, y_fStmtq, y_fTargetq, y_fMaskq, y_fHomeq, y_fOpsq, y_fValsq, y_fNewq, y_outq)) (y_maxObjects, y_maxSteps, y_maxDepth, y_kept, y_end, y_tokens, y_pending, y_lines, y_classes, y_prints, y_place, y_steps, y_d, y_valTop, y_opTop, y_opens, y_pos, nI 22, y_tv, y_stmt, y_target, y_err, y_code, y_outcome, y_result, y_dry, y_want, y_starting, y_ended, y_bad, y_hosted, y_sawSuper, y_text, y_numbers, y_globals, y_entries, y_attrs, y_classOf, y_alive, y_orders, y_lengths, y_letters, y_bases, y_vals, y_ops, y_locals, y_fRecv, y_fLine, y_fPos, y_fStmt, y_fTarget, y_fMask, y_fHome, y_fOps, y_fVals, y_fNew, y_out) (nI 1)) : wY_expressionToken_116 post (nI T) (nI (hs_rank 22)) y_maxObjects y_maxSteps y_maxDepth y_kept y_end y_tokens y_pending y_lines y_classes y_prints y_place y_steps y_d y_valTop y_opTop y_opens y_pos (nI 22) y_tv y_stmt y_target y_err y_code y_outcome y_result y_dry y_want y_starting y_ended y_bad y_hosted y_sawSuper y_text y_numbers y_globals y_entries y_attrs y_classOf y_alive y_orders y_lengths y_letters y_bases y_vals y_ops y_locals y_fRecv y_fLine y_fPos y_fStmt y_fTarget y_fMask y_fHome y_fOps y_fVals y_fNew y_out := by
  unfold wY_expressionToken_116
  exact br_t (by decide) (br_f (hs_ne (a := 22) (b := 24) (by decide) (by decide) (by decide)) (br_t rfl H))
theorem hs_y216 {T : Nat} (hT : T < 64) {post : Int32 → SY → Prop} (H : ¬ (1 ≤ T ∧ T ≤ 4) → post 1 (y_maxObjects, y_maxSteps, y_maxDepth, y_kept, y_end, y_tokens, y_pending, y_lines, y_classes, y_prints, y_place, y_steps, y_d, y_valTop, y_opTop, y_opens, y_pos, y_tk, y_tv, y_stmt, y_target, y_err, y_code, y_outcome, y_result, y_dry, y_want, y_starting, y_ended, y_bad, y_hosted, y_sawSuper, y_text, y_numbers, y_globals, y_entries, y_attrs, y_classOf, y_alive, y_orders, y_lengths, y_letters, y_bases, y_vals, y_ops, y_locals, y_fRecv, y_fLine, y_fPos, y_fStmt, y_fTarget, y_fMask, y_fHome, y_fOps, y_fVals, y_fNew, y_out)) (Hb : (1 ≤ T ∧ T ≤ 4) → post 1 (y_maxObjects, y_maxSteps, y_maxDepth, y_kept, y_end, y_tokens, y_pending, y_lines, y_classes, y_prints, y_place, y_steps, y_d, y_valTop, y_opTop, y_opens, y_pos, y_tk, y_tv, y_stmt, y_target, y_err, y_code, y_outcome, y_result, y_dry, y_want, y_starting, y_ended, 1, y_hosted, y_sawSuper, y_text, y_numbers, y_globals, y_entries, y_attrs, y_classOf, y_alive, y_orders, y_lengths, y_letters, y_bases, y_vals, y_ops, y_locals, y_fRecv, y_fLine, y_fPos, y_fStmt, y_fTarget, y_fMask, y_fHome, y_fOps, y_fVals, y_fNew, y_out)) : wY_expressionToken_216 post (nI T) y_maxObjects y_maxSteps y_maxDepth y_kept y_end y_tokens y_pending y_lines y_classes y_prints y_place y_steps y_d y_valTop y_opTop y_opens y_pos y_tk y_tv y_stmt y_target y_err y_code y_outcome y_result y_dry y_want y_starting y_ended y_bad y_hosted y_sawSuper y_text y_numbers y_globals y_entries y_attrs y_classOf y_alive y_orders y_lengths y_letters y_bases y_vals y_ops y_locals y_fRecv y_fLine y_fPos y_fStmt y_fTarget y_fMask y_fHome y_fOps y_fVals y_fNew y_out := by
  unfold wY_expressionToken_216
  exact pk_lt T 1 (fun a => H (by omega)) (fun a => pk_lt 4 T (fun b => H (by omega)) (fun b => Hb ⟨a, b⟩))
theorem hs_y116o {T k : Nat} (hT : T < 64) (hk : k = 0 ∨ k = 25) {post : Int32 → SY → Prop} (H : ¬ (1 ≤ T ∧ T ≤ 4) → post 1 (y_maxObjects, y_maxSteps, y_maxDepth, y_kept, y_end, y_tokens, y_pending, y_lines, y_classes, y_prints, y_place, y_steps, y_d, y_valTop, y_opTop, y_opens, y_pos, nI k, y_tv, y_stmt, y_target, y_err, y_code, y_outcome, y_result, y_dry, y_want, y_starting, y_ended, y_bad, y_hosted, y_sawSuper, y_text, y_numbers, y_globals, y_entries, y_attrs, y_classOf, y_alive, y_orders, y_lengths, y_letters, y_bases, y_vals, y_ops, y_locals, y_fRecv, y_fLine, y_fPos, y_fStmt, y_fTarget, y_fMask, y_fHome, y_fOps, y_fVals, y_fNew, y_out)) (Hb : (1 ≤ T ∧ T ≤ 4) → post 1 (y_maxObjects, y_maxSteps, y_maxDepth, y_kept, y_end, y_tokens, y_pending, y_lines, y_classes, y_prints, y_place, y_steps, y_d, y_valTop, y_opTop, y_opens, y_pos, nI k, y_tv, y_stmt, y_target, y_err, y_code, y_outcome, y_result, y_dry, y_want, y_starting, y_ended, 1, y_hosted, y_sawSuper, y_text, y_numbers, y_globals, y_entries, y_attrs, y_classOf, y_alive, y_orders, y_lengths, y_letters, y_bases, y_vals, y_ops, y_locals, y_fRecv, y_fLine, y_fPos, y_fStmt, y_fTarget, y_fMask, y_fHome, y_fOps, y_fVals, y_fNew, y_out)) : wY_expressionToken_116 post (nI T) (nI (hs_rank k)) y_maxObjects y_maxSteps y_maxDepth y_kept y_end y_tokens y_pending y_lines y_classes y_prints y_place y_steps y_d y_valTop y_opTop y_opens y_pos (nI k) y_tv y_stmt y_target y_err y_code y_outcome y_result y_dry y_want y_starting y_ended y_bad y_hosted y_sawSuper y_text y_numbers y_globals y_entries y_attrs y_classOf y_alive y_orders y_lengths y_letters y_bases y_vals y_ops y_locals y_fRecv y_fLine y_fPos y_fStmt y_fTarget y_fMask y_fHome y_fOps y_fVals y_fNew y_out := by
  unfold wY_expressionToken_116
  rcases hk with rfl | rfl
  · exact br_t (by decide) (br_f (hs_ne (a := 0) (b := 24) (by decide) (by decide) (by decide)) (br_f (hs_ne (a := 0) (b := 22) (by decide) (by decide) (by decide)) (br_t rfl (hs_y216 hT H Hb))))
  · exact br_t (by decide) (br_f (hs_ne (a := 25) (b := 24) (by decide) (by decide) (by decide)) (br_f (hs_ne (a := 25) (b := 22) (by decide) (by decide) (by decide)) (br_f (hs_ne (a := 25) (b := 0) (by decide) (by decide) (by decide)) (br_t rfl (hs_y216 hT H Hb)))))
theorem hs_y116b {T k : Nat} (hk : k ≤ 1000) (c0 : hs_rank k = 0) (c1 : k ≠ 24) (c2 : k ≠ 22) (c3 : k ≠ 0) (c4 : k ≠ 25) {post : Int32 → SY → Prop} (H : post 0 (y_maxObjects, y_maxSteps, y_maxDepth, y_kept, y_end, y_tokens, y_pending, y_lines, y_classes, y_prints, y_place, y_steps, y_d, y_valTop, y_opTop, y_opens, y_pos, nI k, y_tv, y_stmt, y_target, y_err, y_code, y_outcome, y_result, y_dry, y_want, y_starting, y_ended, 1, y_hosted, y_sawSuper, y_text, y_numbers, y_globals, y_entries, y_attrs, y_classOf, y_alive, y_orders, y_lengths, y_letters, y_bases, y_vals, y_ops, y_locals, y_fRecv, y_fLine, y_fPos, y_fStmt, y_fTarget, y_fMask, y_fHome, y_fOps, y_fVals, y_fNew, y_out)) : wY_expressionToken_116 post (nI T) (nI (hs_rank k)) y_maxObjects y_maxSteps y_maxDepth y_kept y_end y_tokens y_pending y_lines y_classes y_prints y_place y_steps y_d y_valTop y_opTop y_opens y_pos (nI k) y_tv y_stmt y_target y_err y_code y_outcome y_result y_dry y_want y_starting y_ended y_bad y_hosted y_sawSuper y_text y_numbers y_globals y_entries y_attrs y_classOf y_alive y_orders y_lengths y_letters y_bases y_vals y_ops y_locals y_fRecv y_fLine y_fPos y_fStmt y_fTarget y_fMask y_fHome y_fOps y_fVals y_fNew y_out := by
  unfold wY_expressionToken_116
  rw [c0]
  exact br_t (by decide) (br_f (hs_ne (b := 24) c1 (by omega) (by decide)) (br_f (hs_ne (b := 22) c2 (by omega) (by decide)) (br_f (hs_ne (b := 0) c3 (by omega) (by decide)) (br_f (hs_ne (b := 25) c4 (by omega) (by decide)) H))))
theorem hs_yCombD {vt ot : Nat} {T : Int32} (hv : 1 ≤ vt) {post : SY → Prop} (H : post (y_maxObjects, y_maxSteps, y_maxDepth, y_kept, y_end, y_tokens, y_pending, y_lines, y_classes, y_prints, y_place, y_steps, y_d, nI (vt - 1), nI ot, y_opens, y_pos, y_tk, y_tv, y_stmt, y_target, y_err, y_code, y_outcome, y_result, 1, y_want, y_starting, y_ended, y_bad, y_hosted, y_sawSuper, y_text, y_numbers, y_globals, y_entries, y_attrs, y_classOf, y_alive, y_orders, y_lengths, y_letters, y_bases, y_vals, y_ops, y_locals, y_fRecv, y_fLine, y_fPos, y_fStmt, y_fTarget, y_fMask, y_fHome, y_fOps, y_fVals, y_fNew, y_out)) : wpY_combine post (y_maxObjects, y_maxSteps, y_maxDepth, y_kept, y_end, y_tokens, y_pending, y_lines, y_classes, y_prints, y_place, y_steps, y_d, nI vt, nI (ot + 1), y_opens, y_pos, y_tk, y_tv, y_stmt, y_target, y_err, y_code, y_outcome, y_result, 1, y_want, y_starting, y_ended, y_bad, y_hosted, y_sawSuper, y_text, y_numbers, y_globals, y_entries, y_attrs, y_classOf, y_alive, y_orders, y_lengths, y_letters, y_bases, y_vals, y_ops, y_locals, y_fRecv, y_fLine, y_fPos, y_fStmt, y_fTarget, y_fMask, y_fHome, y_fOps, y_fVals, y_fNew, y_out) T := by
  refine nm_r (nI_pred ot) (br_f (by decide) (nm_r (pk_sub (b := 1) hv) H))
-- a dot
theorem hs_yDotCall {tx : Nat → Int32} {p n : Nat} {r : List Nat} (h : hs_TA tx p (n :: 21 :: r)) (hn : hs_isN n = true) {post : SY → Prop} (H : wpY_paren (fun u => match u with | (y_maxObjectsq, y_maxStepsq, y_maxDepthq, y_keptq, y_endq, y_tokensq, y_pendingq, y_linesq, y_classesq, y_printsq, y_placeq, y_stepsq, y_dq, y_valTopq, y_opTopq, y_opensq, y_posq, y_tkq, y_tvq, y_stmtq, y_targetq, y_errq, y_codeq, y_outcomeq, y_resultq, y_dryq, y_wantq, y_startingq, y_endedq, y_badq, y_hostedq, y_sawSuperq, y_textq, y_numbersq, y_globalsq, y_entriesq, y_attrsq, y_classOfq, y_aliveq, y_ordersq, y_lengthsq, y_lettersq, y_basesq, y_valsq, y_opsq, y_localsq, y_fRecvq, y_fLineq, y_fPosq, y_fStmtq, y_fTargetq, y_fMaskq, y_fHomeq, y_fOpsq, y_fValsq, y_fNewq, y_outq) => post (y_maxObjectsq, y_maxStepsq, y_maxDepthq, y_keptq, y_endq, y_tokensq, y_pendingq, y_linesq, y_classesq, y_printsq, y_placeq, y_stepsq, y_dq, y_valTopq, y_opTopq, y_opensq, y_posq, y_tkq, y_tvq, y_stmtq, y_targetq, y_errq, y_codeq, y_outcomeq, y_resultq, y_dryq, y_wantq, y_startingq, y_endedq, y_badq, y_hostedq, y_sawSuperq, y_textq, y_numbersq, y_globalsq, y_entriesq, y_attrsq, y_classOfq, y_aliveq, y_ordersq, y_lengthsq, y_lettersq, y_basesq, y_valsq, y_opsq, y_localsq, y_fRecvq, y_fLineq, y_fPosq, y_fStmtq, y_fTargetq, y_fMaskq, y_fHomeq, y_fOpsq, y_fValsq, y_fNewq, y_outq)) (y_maxObjects, y_maxSteps, y_maxDepth, y_kept, y_end, y_tokens, y_pending, y_lines, y_classes, y_prints, y_place, y_steps, y_d, y_valTop, y_opTop, y_opens, nI (p + 1 + 1), nI 100, nI (n - 100), y_stmt, y_target, y_err, y_code, y_outcome, y_result, y_dry, y_want, y_starting, y_ended, y_bad, y_hosted, y_sawSuper, tx, y_numbers, y_globals, y_entries, y_attrs, y_classOf, y_alive, y_orders, y_lengths, y_letters, y_bases, y_vals, y_ops, y_locals, y_fRecv, y_fLine, y_fPos, y_fStmt, y_fTarget, y_fMask, y_fHome, y_fOps, y_fVals, y_fNew, y_out) (nI (2 + 64 * (n - 100)))) : wpY_dot post (y_maxObjects, y_maxSteps, y_maxDepth, y_kept, y_end, y_tokens, y_pending, y_lines, y_classes, y_prints, y_place, y_steps, y_d, y_valTop, y_opTop, y_opens, nI p, y_tk, y_tv, y_stmt, y_target, y_err, y_code, y_outcome, y_result, y_dry, y_want, y_starting, y_ended, y_bad, y_hosted, y_sawSuper, tx, y_numbers, y_globals, y_entries, y_attrs, y_classOf, y_alive, y_orders, y_lengths, y_letters, y_bases, y_vals, y_ops, y_locals, y_fRecv, y_fLine, y_fPos, y_fStmt, y_fTarget, y_fMask, y_fHome, y_fOps, y_fVals, y_fNew, y_out) := by
  unfold wpY_dot wpY_is
  have h2 := (hs_TAc h).2.2.2.2.2
  refine hs_yTokK h 100 (hs_tkN hn).1 (br_t rfl (br_f (by decide) (And.intro (vp_in_nI (hs_TAlt h2) (by decide)) ?_)))
  rw [nI_clamp (show p + 1 < 2 ^ 31 by have := hs_TAlt h2; omega)]
  refine br_t (hs_TAc h2).1 (nm_r (nI_1 _) ?_)
  rw [show (2 : Int32) = nI 2 from rfl, hs_op64]
  exact H
theorem hs_yDotSet {tx : Nat → Int32} {p n dd ot : Nat} {r : List Nat} {fo : Nat → Int32} (h : hs_TA tx p (n :: 26 :: r)) (hn : hs_isN n = true) (hd : dd < 7) (hf : fo dd = nI ot) (ho : ot < 320) {post : SY → Prop} (H : post (y_maxObjects, y_maxSteps, y_maxDepth, y_kept, y_end, y_tokens, y_pending, y_lines, y_classes, y_prints, y_place, y_steps, nI dd, y_valTop, nI (ot + 1), y_opens, nI (p + 1 + 1), nI 100, nI (n - 100), 50, y_target, y_err, y_code, y_outcome, y_result, y_dry, 1, y_starting, y_ended, y_bad, y_hosted, y_sawSuper, tx, y_numbers, y_globals, y_entries, y_attrs, y_classOf, y_alive, y_orders, y_lengths, y_letters, y_bases, y_vals, upd y_ops ot (nI (5 + 64 * (n - 100))), y_locals, y_fRecv, y_fLine, y_fPos, y_fStmt, y_fTarget, y_fMask, y_fHome, fo, y_fVals, y_fNew, y_out)) : wpY_dot post (y_maxObjects, y_maxSteps, y_maxDepth, y_kept, y_end, y_tokens, y_pending, y_lines, y_classes, y_prints, y_place, y_steps, nI dd, y_valTop, nI ot, y_opens, nI p, y_tk, y_tv, 50, y_target, y_err, y_code, y_outcome, y_result, y_dry, y_want, y_starting, y_ended, y_bad, y_hosted, y_sawSuper, tx, y_numbers, y_globals, y_entries, y_attrs, y_classOf, y_alive, y_orders, y_lengths, y_letters, y_bases, y_vals, y_ops, y_locals, y_fRecv, y_fLine, y_fPos, y_fStmt, y_fTarget, y_fMask, y_fHome, fo, y_fVals, y_fNew, y_out) := by
  unfold wpY_dot wpY_is
  have h2 := (hs_TAc h).2.2.2.2.2
  have vi : vp_in (nI (p + 1)) 1024 := vp_in_nI (hs_TAlt h2) (by decide)
  refine hs_yTokK h 100 (hs_tkN hn).1 (br_t rfl (br_f (by decide) (And.intro vi ?_)))
  rw [nI_clamp (show p + 1 < 2 ^ 31 by have := hs_TAlt h2; omega), (hs_TAc h2).1]
  refine br_f (hs_ne (a := 26) (b := 21) (by decide) (by decide) (by decide)) (And.intro vi (br_t rfl (br_t rfl (And.intro (vp_in_nI hd (by decide)) ?_))))
  rw [nI_clamp (show dd < 2 ^ 31 by omega), hf]
  refine br_t rfl (nm_r (nI_1 _) (nm_r (nI_1 _) (And.intro (vp_in_nI ho (by decide)) ?_)))
  rw [nI_clamp (show ot < 2 ^ 31 by omega), show (5 : Int32) = nI 5 from rfl, hs_op64]
  exact nm_e H
theorem hs_yDotGet {tx : Nat → Int32} {p n dd ot base : Nat} {r : List Nat} {fo : Nat → Int32} (h : hs_TA tx p (n :: r)) (hn : hs_isN n = true) (hr : hs_hd r ≠ 21) (hc : hs_hd r ≠ 26 ∨ y_stmt ≠ 50 ∨ ot ≠ base) (hd : dd < 7) (hf : fo dd = nI base) (hb : base < 320) (ho : ot < 320) {post : SY → Prop} (H : wY_dot_136 post (nI (n - 100)) y_maxObjects y_maxSteps y_maxDepth y_kept y_end y_tokens y_pending y_lines y_classes y_prints y_place y_steps (nI dd) y_valTop (nI ot) y_opens (nI (p + 1)) (nI 100) (nI (n - 100)) y_stmt y_target y_err y_code y_outcome y_result y_dry y_want y_starting y_ended y_bad y_hosted y_sawSuper tx y_numbers y_globals y_entries y_attrs y_classOf y_alive y_orders y_lengths y_letters y_bases y_vals y_ops y_locals y_fRecv y_fLine y_fPos y_fStmt y_fTarget y_fMask y_fHome fo y_fVals y_fNew y_out) : wpY_dot post (y_maxObjects, y_maxSteps, y_maxDepth, y_kept, y_end, y_tokens, y_pending, y_lines, y_classes, y_prints, y_place, y_steps, nI dd, y_valTop, nI ot, y_opens, nI p, y_tk, y_tv, y_stmt, y_target, y_err, y_code, y_outcome, y_result, y_dry, y_want, y_starting, y_ended, y_bad, y_hosted, y_sawSuper, tx, y_numbers, y_globals, y_entries, y_attrs, y_classOf, y_alive, y_orders, y_lengths, y_letters, y_bases, y_vals, y_ops, y_locals, y_fRecv, y_fLine, y_fPos, y_fStmt, y_fTarget, y_fMask, y_fHome, fo, y_fVals, y_fNew, y_out) := by
  unfold wpY_dot wpY_is
  have h2 := (hs_TAc h).2.2.2.2.2
  have vi : vp_in (nI (p + 1)) 1024 := vp_in_nI (hs_TAlt h2) (by decide)
  refine hs_yTokK h 100 (hs_tkN hn).1 (br_t rfl (br_f (by decide) (And.intro vi ?_)))
  rw [nI_clamp (show p + 1 < 2 ^ 31 by have := hs_TAlt h2; omega)]
  refine br_f (fun z => hr ((hs_TAh h2 (hs_notEn (by decide) (by decide)) (by decide)).mp z)) (And.intro vi (br_c (fun z26 => br_c (fun z50 => And.intro (vp_in_nI hd (by decide)) ?_) (fun _ => H)) (fun _ => H)))
  rw [nI_clamp (show dd < 2 ^ 31 by omega), hf]
  refine pk_eq ot base (fun e => ?_) (fun _ => H)
  have := (hs_TAh h2 (k := 26) (hs_notEn (by decide) (by decide)) (by decide)).mp z26
  rcases hc with q | q | q
  · exact absurd this q
  · exact absurd z50 q
  · exact absurd e q
theorem hs_yDotBad {tx : Nat → Int32} {p : Nat} {r : List Nat} (h : hs_TA tx p r) (hv : ∀ x, x ∈ r → hs_vt x) (hn : hs_isN (hs_hd r) = false) {post : SY → Prop} (H : ∀ q1 q2 q3 : Int32, post (y_maxObjects, y_maxSteps, y_maxDepth, y_kept, y_end, y_tokens, y_pending, y_lines, y_classes, y_prints, y_place, y_steps, y_d, y_valTop, y_opTop, y_opens, q1, q2, q3, y_stmt, y_target, y_err, y_code, y_outcome, y_result, y_dry, y_want, y_starting, y_ended, 1, y_hosted, y_sawSuper, tx, y_numbers, y_globals, y_entries, y_attrs, y_classOf, y_alive, y_orders, y_lengths, y_letters, y_bases, y_vals, y_ops, y_locals, y_fRecv, y_fLine, y_fPos, y_fStmt, y_fTarget, y_fMask, y_fHome, y_fOps, y_fVals, y_fNew, y_out)) : wpY_dot post (y_maxObjects, y_maxSteps, y_maxDepth, y_kept, y_end, y_tokens, y_pending, y_lines, y_classes, y_prints, y_place, y_steps, y_d, y_valTop, y_opTop, y_opens, nI p, y_tk, y_tv, y_stmt, y_target, y_err, y_code, y_outcome, y_result, y_dry, y_want, y_starting, y_ended, y_bad, y_hosted, y_sawSuper, tx, y_numbers, y_globals, y_entries, y_attrs, y_classOf, y_alive, y_orders, y_lengths, y_letters, y_bases, y_vals, y_ops, y_locals, y_fRecv, y_fLine, y_fPos, y_fStmt, y_fTarget, y_fMask, y_fHome, y_fOps, y_fVals, y_fNew, y_out) := by
  unfold wpY_dot wpY_is
  cases r with
  | nil => exact hs_yTokE h (br_f (hs_ne (a := 0) (b := 100) (by decide) (by decide) (by decide)) (br_t rfl (H _ _ _)))
  | cons a r =>
    have := hs_tkLe a
    exact hs_yTokC h (br_f (hs_ne (b := 100) (hs_isNf (hv a (by simp)) hn) (by omega) (by decide)) (br_t rfl (H _ _ _)))
end
end
section
/-! Y's dry run is the automaton -/
section
variable {x_objectLimit x_stepLimit x_depthLimit x_pendingCount x_keptTokens x_keptLines x_lineCount x_codeCount x_cursor x_stop x_waitingCount x_openCount x_classCount x_callCount x_operandCount x_stepsTaken x_error x_raisedCode x_printCount x_lastPlace : Int32} {x_lastResult : Int64} {x_pending x_lineTable x_orders x_merging x_letterClass x_objectClass x_calls x_lastPrints : Nat → Int32} {x_code x_waiting x_globals x_entries x_attributes x_held x_operands : Nat → Int64}
variable {y_maxObjects y_maxSteps y_maxDepth y_kept y_end y_tokens y_pending y_lines y_classes y_prints y_place y_steps y_d y_valTop y_opTop y_opens y_pos y_tk y_tv y_stmt y_target y_err y_code y_outcome y_dry y_want y_starting y_ended y_bad y_hosted y_sawSuper : Int32} {y_result : Int64} {y_text y_numbers y_classOf y_alive y_orders y_lengths y_letters y_bases y_ops y_fLine y_fPos y_fStmt y_fTarget y_fMask y_fHome y_fOps y_fVals y_fNew y_out : Nat → Int32} {y_globals y_entries y_attrs y_vals y_locals y_fRecv : Nat → Int64}
def hs_nst : List Nat → Nat
  | [] => 0
  | s :: r => (if 27 ≤ s % 64 ∨ s % 64 = 2 ∨ s % 64 = 5 then 1 else 0) + hs_nst r
def hs_nv (st : List Nat) (w : Bool) : Nat := hs_nst st + (if w then 0 else 1)
def hs_b (w : Bool) : Int32 := if w then 1 else 0
theorem hs_nvF (st : List Nat) : hs_nv st false = hs_nv st true + 1 := rfl
theorem hs_nstLe : ∀ st : List Nat, hs_nst st ≤ st.length
  | [] => Nat.le_refl _
  | s :: r => by
    have := hs_nstLe r
    simp only [hs_nst, List.length_cons]
    split <;> omega
theorem hs_nvLe (st : List Nat) (w : Bool) : hs_nv st w ≤ st.length + 1 := by
  have := hs_nstLe st
  unfold hs_nv
  split <;> omega
theorem hs_opnLe : ∀ st : List Nat, hs_opn st ≤ st.length
  | [] => Nat.le_refl _
  | s :: r => by
    have := hs_opnLe r
    simp only [hs_opn, List.length_cons]
    split <;> omega
theorem hs_opn1 {s : Nat} {st : List Nat} (h : 1 ≤ s % 64 ∧ s % 64 ≤ 4) : hs_opn (s :: st) = hs_opn st + 1 := by
  simp only [hs_opn]; rw [if_pos h]; omega
theorem hs_opn0 {s : Nat} {st : List Nat} (h : ¬ (1 ≤ s % 64 ∧ s % 64 ≤ 4)) : hs_opn (s :: st) = hs_opn st := by
  simp only [hs_opn]; rw [if_neg h]; omega
theorem hs_nst1 {s : Nat} {st : List Nat} (h : 27 ≤ s % 64 ∨ s % 64 = 2 ∨ s % 64 = 5) : hs_nst (s :: st) = hs_nst st + 1 := by
  simp only [hs_nst]; rw [if_pos h]; omega
theorem hs_nst0 {s : Nat} {st : List Nat} (h : ¬ (27 ≤ s % 64 ∨ s % 64 = 2 ∨ s % 64 = 5)) : hs_nst (s :: st) = hs_nst st := by
  simp only [hs_nst]; rw [if_neg h]; omega
theorem hs_pshT {s : Nat} {r st : List Nat} (h : hs_opn st < 4) : hs_psh s r st = some (r, true, s :: st, []) := if_neg (by omega)
theorem hs_pshF {s : Nat} {r st : List Nat} (h : 4 ≤ hs_opn st) : hs_psh s r st = none := if_pos h
theorem hs_isNC {t : Nat} (h : hs_isC t = true) : hs_isN t = false := by
  have := hs_tkC h
  unfold hs_isN
  exact decide_eq_false (by omega)
theorem hs_nvC0 {s : Nat} {st : List Nat} (h : 2 ≤ s % 64 ∧ s % 64 ≤ 4) : hs_cn (s % 64) 0 ≤ hs_nv (s :: st) true ∧ hs_nv (s :: st) true - hs_cn (s % 64) 0 + 1 = hs_nv st false := by
  have e0 : hs_nv (s :: st) true = hs_nst (s :: st) := rfl
  have e1 : hs_nv st false = hs_nst st + 1 := rfl
  rw [e0, e1]
  unfold hs_cn
  by_cases c : s % 64 = 2
  · rw [if_pos c, hs_nst1 (Or.inr (Or.inl c))]; omega
  · rw [if_neg c, hs_nst0 (by omega)]; omega
theorem hs_nvC1 {s : Nat} {st : List Nat} (h : 2 ≤ s % 64 ∧ s % 64 ≤ 4) : hs_cn (s % 64) 1 ≤ hs_nv (s :: st) false ∧ hs_nv (s :: st) false - hs_cn (s % 64) 1 + 1 = hs_nv st false := by
  have e0 : hs_nv (s :: st) false = hs_nst (s :: st) + 1 := rfl
  have e1 : hs_nv st false = hs_nst st + 1 := rfl
  rw [e0, e1]
  unfold hs_cn
  by_cases c : s % 64 = 2
  · rw [if_pos c, hs_nst1 (Or.inr (Or.inl c))]; omega
  · rw [if_neg c, hs_nst0 (by omega)]; omega
theorem hs_mem13 {a : Nat} {l : List Nat} {P : Prop} (h : a ≠ 13) : (13 ∈ a :: l ∨ P) ↔ (13 ∈ l ∨ P) := by
  constructor
  · rintro (q | q)
    · rcases List.mem_cons.mp q with q | q
      · exact absurd q.symm h
      · exact Or.inl q
    · exact Or.inr q
  · rintro (q | q)
    · exact Or.inl (List.mem_cons_of_mem _ q)
    · exact Or.inr q
theorem hs_yDryW {tx : Nat → Int32} {fo : Nat → Int32} {sm tk tv : Int32} {z : Bool} {p t : Nat} {r st : List Nat} {w : Bool} {ts : List Nat} (ew : w = true) (ets : ts = t :: r) (hTA : hs_TA tx p ts) (hlen : st.length < 60) (hfo : fo 0 = nI 0) (hz : z = true ↔ sm = 50) (hv : ∀ x, x ∈ ts → hs_vt x) (hSA : hs_SA y_ops 0 st.length st)
    {post : Int32 → SY → Prop}
    (Hs : ∀ (ts' : List Nat) (w' : Bool) (st' : List Nat) (e : List (Nat × Nat)) (p' : Nat) (tk tv ss : Int32) (ops : Nat → Int32) (vals : Nat → Int64), hs_step z ts w st = some (ts', w', st', e) → hs_TA tx p' ts' → (∀ x, x ∈ ts' → hs_vt x) → hs_SA ops 0 st'.length st' → ((13 ∈ ts ∨ y_sawSuper = 1) ↔ (13 ∈ ts' ∨ ss = 1)) → (y_sawSuper = 0 ∨ y_sawSuper = 1 → ss = 0 ∨ ss = 1) → post 0 (y_maxObjects, y_maxSteps, y_maxDepth, y_kept, y_end, y_tokens, y_pending, y_lines, y_classes, y_prints, y_place, y_steps, nI 0, nI (hs_nv (st') (w')), nI (List.length (st')), nI (hs_opn (st')), nI (p'), tk, tv, sm, y_target, y_err, y_code, y_outcome, y_result, 1, hs_b (w'), y_starting, y_ended, 0, y_hosted, ss, tx, y_numbers, y_globals, y_entries, y_attrs, y_classOf, y_alive, y_orders, y_lengths, y_letters, y_bases, vals, ops, y_locals, y_fRecv, y_fLine, y_fPos, y_fStmt, y_fTarget, y_fMask, y_fHome, fo, y_fVals, y_fNew, y_out))
    (Hb : hs_step z ts w st = none →  ∀ (q1 q2 q3 q4 q5 q6 q7 q8 : Int32) (q9 : Nat → Int64) (q10 : Nat → Int32), post 0 (y_maxObjects, y_maxSteps, y_maxDepth, y_kept, y_end, y_tokens, y_pending, y_lines, y_classes, y_prints, y_place, y_steps, nI 0, q7, q8, q1, q2, q3, q4, sm, y_target, y_err, y_code, y_outcome, y_result, 1, q5, y_starting, y_ended, 1, y_hosted, q6, tx, y_numbers, y_globals, y_entries, y_attrs, y_classOf, y_alive, y_orders, y_lengths, y_letters, y_bases, q9, q10, y_locals, y_fRecv, y_fLine, y_fPos, y_fStmt, y_fTarget, y_fMask, y_fHome, fo, y_fVals, y_fNew, y_out)) : wpY_expressionToken post (y_maxObjects, y_maxSteps, y_maxDepth, y_kept, y_end, y_tokens, y_pending, y_lines, y_classes, y_prints, y_place, y_steps, nI 0, nI (hs_nv (st) (w)), nI (List.length (st)), nI (hs_opn (st)), nI (p), tk, tv, sm, y_target, y_err, y_code, y_outcome, y_result, 1, hs_b (w), y_starting, y_ended, 0, y_hosted, y_sawSuper, tx, y_numbers, y_globals, y_entries, y_attrs, y_classOf, y_alive, y_orders, y_lengths, y_letters, y_bases, y_vals, y_ops, y_locals, y_fRecv, y_fLine, y_fPos, y_fStmt, y_fTarget, y_fMask, y_fHome, fo, y_fVals, y_fNew, y_out) := by
  subst ew ets
  have n1 := hs_nvLe st true
  have n2 := hs_opnLe st
  have n3 := hs_nvF st
  have hvr : ∀ x, x ∈ r → hs_vt x := fun x hx => hv x (List.mem_cons_of_mem _ hx)
  have hTA' := (hs_TAc hTA).2.2.2.2.2
  have mem : t ≠ 13 → ((13 ∈ t :: r ∨ y_sawSuper = 1) ↔ (13 ∈ r ∨ y_sawSuper = 1)) := by
    intro h; exact hs_mem13 h
  by_cases c1 : 1000 ≤ t
  · have E : hs_step z (t :: r) true st = some (r, false, st, [(1, t - 1000)]) := if_pos c1
    refine hs_yNum hTA c1 (by omega) ?_
    have := Hs r false st _ (p + 1) (nI 1000) (nI (t - 1000)) y_sawSuper y_ops (vp_updL y_vals (hs_nv st true) (hs_int (nI (t - 1000)))) E hTA' hvr hSA (mem (by omega)) id
    rw [n3] at this
    exact this
  by_cases c2 : t = 12
  · subst c2
    have E : hs_step z (12 :: r) true st = some (r, false, st, [(3, 0)]) := rfl
    refine hs_yNone hTA (by omega) ?_
    have := Hs r false st _ (p + 1) (nI 12) (nI (12 - 12)) y_sawSuper y_ops (vp_updL y_vals (hs_nv st true) 4294967296) E hTA' hvr hSA (mem (by omega)) id
    rw [n3] at this
    exact this
  by_cases c3 : hs_isN t = true
  · have E : hs_step z (t :: r) true st = some (r, false, st, [(2, t - 100)]) := by
      show hs_opd t r st = _
      unfold hs_opd
      rw [if_neg c1, if_neg c2, if_pos c3]
    refine hs_yNameD hTA c3 (by omega) ?_
    have := Hs r false st _ (p + 1) (nI 100) (nI (t - 100)) y_sawSuper y_ops (vp_updL y_vals (hs_nv st true) 1) E hTA' hvr hSA (mem (by have := hs_tkN c3; omega)) id
    rw [n3] at this
    exact this
  have c3' : hs_isN t = false := by simpa using c3
  by_cases c4 : t = 21
  · subst c4
    have E : hs_step z (21 :: r) true st = hs_psh 1 r st := rfl
    refine hs_yOpenD hTA (by omega) (by omega) (fun q => ?_) (fun q => ?_)
    · have := Hs r true (1 :: st) _ (p + 1) (nI 21) (nI (21 - 21)) y_sawSuper _ y_vals (E.trans (hs_pshT q)) hTA' hvr (hs_SApush hSA (by decide)) (mem (by omega)) id
      rw [hs_opn1 (by decide)] at this
      have e2 : hs_nv (1 :: st) true = hs_nv st true := by
        unfold hs_nv; rw [hs_nst0 (by decide)]
      rw [e2] at this
      exact this
    · exact Hb (E.trans (hs_pshF q)) _ _ _ _ _ _ _ _ _ _
  by_cases c5 : hs_isC t = true
  · have hc := hs_tkC c5
    have E0 : hs_step z (t :: r) true st = hs_cls t r st := by
      show hs_opd t r st = _
      unfold hs_opd
      rw [if_neg c1, if_neg c2, if_neg c3, if_neg c4, if_pos c5]
    cases r with
    | nil => exact hs_yClsBad hTA hvr c5 (by decide) (Or.inl (by decide)) (Hb E0)
    | cons k r1 =>
      by_cases k1 : k = 21
      · subst k1
        have E : hs_step z (t :: 21 :: r1) true st = hs_psh (4 + 64 * (t - 130)) r1 st := E0
        refine hs_yNewD hTA c5 (by omega) (by omega) (fun q => ?_) (fun q => ?_)
        · have := Hs r1 true ((4 + 64 * (t - 130)) :: st) _ (p + 1 + 1) (nI 21) (nI (21 - 21)) y_sawSuper _ y_vals (E.trans (hs_pshT q)) (hs_TAc hTA').2.2.2.2.2 (fun x hx => hvr x (List.mem_cons_of_mem _ hx)) (hs_SApush hSA (by omega)) ((hs_mem13 (by omega)).trans (hs_mem13 (by decide))) id
          rw [hs_opn1 (by omega)] at this
          have e2 : hs_nv ((4 + 64 * (t - 130)) :: st) true = hs_nv st true := by
            unfold hs_nv; rw [hs_nst0 (by omega)]
          rw [e2] at this
          exact this
        · exact Hb (E.trans (hs_pshF q)) _ _ _ _ _ _ _ _ _ _
      · by_cases k2 : k = 24
        · subst k2
          cases r1 with
          | nil => exact hs_yClsBad hTA hvr c5 (by decide) (Or.inr (Or.inl (by decide))) (Hb E0)
          | cons n r2 =>
            by_cases k3 : hs_isN n = true ∧ hs_hd r2 ≠ 21
            · have E : hs_step z (t :: 24 :: n :: r2) true st = some (r2, false, st, [(5, (t - 130) * 26 + (n - 100))]) := E0.trans (if_pos k3)
              have hn := hs_tkN k3.1
              refine hs_yGetD hTA c5 k3.1 k3.2 (by omega) ?_
              have := Hs r2 false st _ (p + 1 + 1 + 1) (nI 100) (nI (n - 100)) y_sawSuper y_ops (vp_updL y_vals (hs_nv st true) 1) E (hs_TAc (hs_TAc hTA').2.2.2.2.2).2.2.2.2.2 (fun x hx => hvr x (List.mem_cons_of_mem _ (List.mem_cons_of_mem _ hx))) hSA ((hs_mem13 (by omega)).trans ((hs_mem13 (by decide)).trans (hs_mem13 (by omega)))) id
              rw [n3] at this
              exact this
            · refine hs_yClsBad hTA hvr c5 (by show 24 ≠ 21; decide) ?_ (Hb (E0.trans (if_neg k3)))
              by_cases k4 : hs_isN n = true
              · right; right; right
                show hs_hd r2 = 21
                exact Classical.byContradiction fun q => k3 ⟨k4, q⟩
              · right; right; left
                show hs_isN n = false
                simpa using k4
        · refine hs_yClsBad hTA hvr c5 k1 (Or.inl k2) (Hb (E0.trans ?_))
          show (if k = 21 then _ else if k = 24 then _ else none) = none
          rw [if_neg k1, if_neg k2]
  have c5' : hs_isC t = false := by simpa using c5
  by_cases c6 : t = 13
  · subst c6
    have bad : (∀ n r1, r = 24 :: n :: 21 :: r1 → hs_isN n = false) → hs_step z (13 :: r) true st = none := by
      intro hq
      show hs_sup r st = none
      unfold hs_sup
      split
      · rename_i k n q r1
        refine if_neg ?_
        rintro ⟨rfl, a, rfl⟩
        have := hq n r1 rfl
        rw [a] at this; cases this
      · rfl
    by_cases q : ∃ n r1, r = 24 :: n :: 21 :: r1 ∧ hs_isN n = true
    · obtain ⟨n, r1, rfl, hn⟩ := q
      have E : hs_step z (13 :: 24 :: n :: 21 :: r1) true st = hs_psh (3 + 64 * (n - 100)) r1 st := by
        show (if 24 = 24 ∧ hs_isN n ∧ 21 = 21 then hs_psh (3 + 64 * (n - 100)) r1 st else none) = _
        exact if_pos ⟨rfl, hn, rfl⟩
      have hn' := hs_tkN hn
      refine hs_ySupD hTA hn (by omega) (by omega) (fun q => ?_) (fun q => ?_)
      · have := Hs r1 true ((3 + 64 * (n - 100)) :: st) _ (p + 1 + 1 + 1 + 1) (nI 21) (nI (21 - 21)) 1 _ y_vals (E.trans (hs_pshT q)) (hs_TAc (hs_TAc (hs_TAc hTA').2.2.2.2.2).2.2.2.2.2).2.2.2.2.2 (fun x hx => hvr x (by simp [hx])) (hs_SApush hSA (by omega)) (by simp) (fun _ => Or.inr rfl)
        rw [hs_opn1 (by omega)] at this
        have e2 : hs_nv ((3 + 64 * (n - 100)) :: st) true = hs_nv st true := by
          unfold hs_nv; rw [hs_nst0 (by omega)]
        rw [e2] at this
        exact this
      · exact Hb (E.trans (hs_pshF q)) _ _ _ _ _ _ _ _ _ _
    · have q' : ∀ n r1, r = 24 :: n :: 21 :: r1 → hs_isN n = false := by
        intro n r1 e
        cases hh : hs_isN n with
        | false => rfl
        | true => exact absurd ⟨n, r1, e, hh⟩ q
      exact hs_ySupBad hTA hvr q' (Hb (bad q'))
  by_cases c7 : t = 22
  · subst c7
    have E0 : hs_step z (22 :: r) true st = hs_cl0 r st := rfl
    cases st with
    | nil => exact hs_yC0bad (dd := 0) (base := 0) hTA (by decide) hfo hSA (by decide) (by decide) (fun _ _ _ _ _ _ _ _ _ _ => Hb E0 _ _ _ _ _ _ _ _ _ _) (Hb E0 _ _ _ _ _ _ _ _ _ _)
    | cons s st1 =>
      by_cases hty : 2 ≤ s % 64 ∧ s % 64 ≤ 4
      · have E := E0.trans (if_pos hty)
        obtain ⟨tp, et, hb, hs, hs2, hSA1⟩ := hSA
        have et : st1.length = tp := by simp only [List.length_cons] at et; omega
        subst et
        simp only [List.length_cons] at hlen
        refine hs_yC0 (dd := 0) (base := 0) hTA (by decide) hfo (by omega) (by omega) hs hs2 hty (hs_yClose0 (n := 0) (by decide) hfo (by omega) (by omega) hs ?_)
        refine hs_yCloseD (n := 0) hs2 hty (by decide) (hs_nvC0 hty).1 (by omega) ?_
        have := Hs r false st1 _ (p + 1) (nI 22) (nI (22 - 22)) y_sawSuper y_ops (vp_updL y_vals (hs_nv (s :: st1) true - hs_cn (s % 64) 0) 1) E hTA' hvr hSA1 (mem (by omega)) id
        rw [hs_opn1 (by omega), nI_pred, (hs_nvC0 hty).2]
        exact this
      · have E := E0.trans (if_neg hty)
        exact hs_yC0bad (dd := 0) (base := 0) hTA (by decide) hfo hSA (by omega) hty (fun _ _ _ _ _ _ _ _ _ _ => Hb E _ _ _ _ _ _ _ _ _ _) (Hb E _ _ _ _ _ _ _ _ _ _)
  · have E : hs_step z (t :: r) true st = none := by
      show hs_opd t r st = _
      unfold hs_opd
      rw [if_neg c1, if_neg c2, if_neg c3, if_neg c4, if_neg c5, if_neg c6, if_neg c7]
    exact hs_yOpdBad hTA (hv t (by simp)) c1 c2 c3' c4 c5' c6 c7 (Hb E _ _ _ _ _ _ _ _ _ _)
theorem hs_hdLt (st : List Nat) : hs_hd st % 64 < 64 := Nat.mod_lt _ (by decide)
theorem hs_enD {t : Nat} (h : hs_vt t) : t ≠ 0 := by
  rcases h with h | h | h | h | h
  · omega
  · omega
  · have := hs_tkN h; omega
  · have := hs_tkC h; omega
  · omega
/-- the end of an expression: at the end of the line, or at a colon -/
theorem hs_yDryN {tx : Nat → Int32} {fo : Nat → Int32} {sm tk tv : Int32} {z : Bool} {p : Nat} {st : List Nat} {w : Bool} {ts : List Nat} (ew : w = false) (hTA : hs_TA tx p ts) (hlen : st.length < 60) (hfo : fo 0 = nI 0) (hz : z = true ↔ sm = 50) (hv : ∀ x, x ∈ ts → hs_vt x) (hSA : hs_SA y_ops 0 st.length st)
    {post : Int32 → SY → Prop}
    (Hs : ∀ (ts' : List Nat) (w' : Bool) (st' : List Nat) (e : List (Nat × Nat)) (p' : Nat) (tk tv ss : Int32) (ops : Nat → Int32) (vals : Nat → Int64), hs_step z ts w st = some (ts', w', st', e) → hs_TA tx p' ts' → (∀ x, x ∈ ts' → hs_vt x) → hs_SA ops 0 st'.length st' → ((13 ∈ ts ∨ y_sawSuper = 1) ↔ (13 ∈ ts' ∨ ss = 1)) → (y_sawSuper = 0 ∨ y_sawSuper = 1 → ss = 0 ∨ ss = 1) → post 0 (y_maxObjects, y_maxSteps, y_maxDepth, y_kept, y_end, y_tokens, y_pending, y_lines, y_classes, y_prints, y_place, y_steps, nI 0, nI (hs_nv (st') (w')), nI (List.length (st')), nI (hs_opn (st')), nI (p'), tk, tv, sm, y_target, y_err, y_code, y_outcome, y_result, 1, hs_b (w'), y_starting, y_ended, 0, y_hosted, ss, tx, y_numbers, y_globals, y_entries, y_attrs, y_classOf, y_alive, y_orders, y_lengths, y_letters, y_bases, vals, ops, y_locals, y_fRecv, y_fLine, y_fPos, y_fStmt, y_fTarget, y_fMask, y_fHome, fo, y_fVals, y_fNew, y_out))
    (Hb : hs_step z ts w st = none → ¬ hs_fin ts w st → ∀ (q1 q2 q3 q4 q5 q6 q7 q8 : Int32) (q9 : Nat → Int64) (q10 : Nat → Int32), post 0 (y_maxObjects, y_maxSteps, y_maxDepth, y_kept, y_end, y_tokens, y_pending, y_lines, y_classes, y_prints, y_place, y_steps, nI 0, q7, q8, q1, q2, q3, q4, sm, y_target, y_err, y_code, y_outcome, y_result, 1, q5, y_starting, y_ended, 1, y_hosted, q6, tx, y_numbers, y_globals, y_entries, y_attrs, y_classOf, y_alive, y_orders, y_lengths, y_letters, y_bases, q9, q10, y_locals, y_fRecv, y_fLine, y_fPos, y_fStmt, y_fTarget, y_fMask, y_fHome, fo, y_fVals, y_fNew, y_out))
    (Hf : hs_fin ts w st → ∀ (p' k : Nat) (tv : Int32), (ts = [] ∧ p' = p ∧ k = 0 ∨ ∃ r, ts = 25 :: r ∧ p' = p + 1 ∧ k = 25 ∧ hs_TA tx p' r) → post 1 (y_maxObjects, y_maxSteps, y_maxDepth, y_kept, y_end, y_tokens, y_pending, y_lines, y_classes, y_prints, y_place, y_steps, nI 0, nI (hs_nv (st) (w)), nI (List.length (st)), nI (hs_opn (st)), nI (p'), nI k, tv, sm, y_target, y_err, y_code, y_outcome, y_result, 1, hs_b (w), y_starting, y_ended, 0, y_hosted, y_sawSuper, tx, y_numbers, y_globals, y_entries, y_attrs, y_classOf, y_alive, y_orders, y_lengths, y_letters, y_bases, y_vals, y_ops, y_locals, y_fRecv, y_fLine, y_fPos, y_fStmt, y_fTarget, y_fMask, y_fHome, fo, y_fVals, y_fNew, y_out))
    (Hb1 : hs_step z ts w st = none → ¬ hs_fin ts w st → ∀ (q1 q2 q3 q4 q5 q6 q7 q8 : Int32) (q9 : Nat → Int64) (q10 : Nat → Int32), post 1 (y_maxObjects, y_maxSteps, y_maxDepth, y_kept, y_end, y_tokens, y_pending, y_lines, y_classes, y_prints, y_place, y_steps, nI 0, q7, q8, q1, q2, q3, q4, sm, y_target, y_err, y_code, y_outcome, y_result, 1, q5, y_starting, y_ended, 1, y_hosted, q6, tx, y_numbers, y_globals, y_entries, y_attrs, y_classOf, y_alive, y_orders, y_lengths, y_letters, y_bases, q9, q10, y_locals, y_fRecv, y_fLine, y_fPos, y_fStmt, y_fTarget, y_fMask, y_fHome, fo, y_fVals, y_fNew, y_out)) : wpY_expressionToken post (y_maxObjects, y_maxSteps, y_maxDepth, y_kept, y_end, y_tokens, y_pending, y_lines, y_classes, y_prints, y_place, y_steps, nI 0, nI (hs_nv (st) (w)), nI (List.length (st)), nI (hs_opn (st)), nI (p), tk, tv, sm, y_target, y_err, y_code, y_outcome, y_result, 1, hs_b (w), y_starting, y_ended, 0, y_hosted, y_sawSuper, tx, y_numbers, y_globals, y_entries, y_attrs, y_classOf, y_alive, y_orders, y_lengths, y_letters, y_bases, y_vals, y_ops, y_locals, y_fRecv, y_fLine, y_fPos, y_fStmt, y_fTarget, y_fMask, y_fHome, fo, y_fVals, y_fNew, y_out) := by
  subst ew
  have n1 := hs_nvLe st false
  have n2 := hs_opnLe st
  have n3 := hs_nvF st
  have hT := hs_hdLt st
  have hsa := hs_SAlen hSA
  -- what the token is
  by_cases cc : 27 ≤ hs_hd st % 64 ∧ hs_hd ts ≠ 24 ∧ hs_rank (hs_hd ts) ≤ hs_rank (hs_hd st % 64) ∧ ¬ (hs_rank (hs_hd ts) = 1 ∧ hs_rank (hs_hd st % 64) = 1)
  · have E : hs_step z ts false st = some (ts, false, st.tail, [(hs_hd st % 64, 0)]) := by
      show hs_opr z ts st = _
      unfold hs_opr
      exact if_pos cc
    cases st with
    | nil => simp [hs_hd] at cc
    | cons s st1 =>
      obtain ⟨tp, et, hb, hs, hs2, hSA1⟩ := hSA
      have et : st1.length = tp := by simp only [List.length_cons] at et; omega
      subst et
      have c27 : 27 ≤ s % 64 := cc.1
      have eo : hs_opn (s :: st1) = hs_opn st1 := hs_opn0 (by omega)
      have ev : hs_nv (s :: st1) false = hs_nv st1 false + 1 := by
        unfold hs_nv; rw [hs_nst1 (Or.inl c27)]; omega
      have go : ∀ (tk tv : Int32), post 0 (y_maxObjects, y_maxSteps, y_maxDepth, y_kept, y_end, y_tokens, y_pending, y_lines, y_classes, y_prints, y_place, y_steps, nI 0, nI (hs_nv (st1) (false)), nI (List.length (st1)), nI (hs_opn (st1)), nI (p), tk, tv, sm, y_target, y_err, y_code, y_outcome, y_result, 1, hs_b (false), y_starting, y_ended, 0, y_hosted, y_sawSuper, tx, y_numbers, y_globals, y_entries, y_attrs, y_classOf, y_alive, y_orders, y_lengths, y_letters, y_bases, y_vals, y_ops, y_locals, y_fRecv, y_fLine, y_fPos, y_fStmt, y_fTarget, y_fMask, y_fHome, fo, y_fVals, y_fNew, y_out) := fun tk tv => Hs ts false st1 _ p tk tv y_sawSuper y_ops y_vals E hTA hv hSA1 Iff.rfl id
      have cmb : ∀ (tk tv : Int32), wpY_combine (fun u => match u with | (y_maxObjectsq, y_maxStepsq, y_maxDepthq, y_keptq, y_endq, y_tokensq, y_pendingq, y_linesq, y_classesq, y_printsq, y_placeq, y_stepsq, y_dq, y_valTopq, y_opTopq, y_opensq, y_posq, y_tkq, y_tvq, y_stmtq, y_targetq, y_errq, y_codeq, y_outcomeq, y_resultq, y_dryq, y_wantq, y_startingq, y_endedq, y_badq, y_hostedq, y_sawSuperq, y_textq, y_numbersq, y_globalsq, y_entriesq, y_attrsq, y_classOfq, y_aliveq, y_ordersq, y_lengthsq, y_lettersq, y_basesq, y_valsq, y_opsq, y_localsq, y_fRecvq, y_fLineq, y_fPosq, y_fStmtq, y_fTargetq, y_fMaskq, y_fHomeq, y_fOpsq, y_fValsq, y_fNewq, y_outq) => post 0 (y_maxObjectsq, y_maxStepsq, y_maxDepthq, y_keptq, y_endq, y_tokensq, y_pendingq, y_linesq, y_classesq, y_printsq, y_placeq, y_stepsq, y_dq, y_valTopq, y_opTopq, y_opensq, y_posq, y_tkq, y_tvq, y_stmtq, y_targetq, y_errq, y_codeq, y_outcomeq, y_resultq, y_dryq, y_wantq, y_startingq, y_endedq, y_badq, y_hostedq, y_sawSuperq, y_textq, y_numbersq, y_globalsq, y_entriesq, y_attrsq, y_classOfq, y_aliveq, y_ordersq, y_lengthsq, y_lettersq, y_basesq, y_valsq, y_opsq, y_localsq, y_fRecvq, y_fLineq, y_fPosq, y_fStmtq, y_fTargetq, y_fMaskq, y_fHomeq, y_fOpsq, y_fValsq, y_fNewq, y_outq)) (y_maxObjects, y_maxSteps, y_maxDepth, y_kept, y_end, y_tokens, y_pending, y_lines, y_classes, y_prints, y_place, y_steps, nI 0, nI (hs_nv (s :: st1) (false)), nI (List.length (s :: st1)), nI (hs_opn (s :: st1)), nI (p), tk, tv, sm, y_target, y_err, y_code, y_outcome, y_result, 1, hs_b (false), y_starting, y_ended, 0, y_hosted, y_sawSuper, tx, y_numbers, y_globals, y_entries, y_attrs, y_classOf, y_alive, y_orders, y_lengths, y_letters, y_bases, y_vals, y_ops, y_locals, y_fRecv, y_fLine, y_fPos, y_fStmt, y_fTarget, y_fMask, y_fHome, fo, y_fVals, y_fNew, y_out) (nI (s % 64)) := by
        intro tk tv
        refine hs_yCombD (vt := hs_nv (s :: st1) false) (ot := st1.length) (by omega) ?_
        have := go tk tv
        rw [eo, ev]
        exact this
      cases ts with
      | nil =>
        refine hs_yN0E (dd := 0) (base := 0) (st := s :: st1) hTA (by decide) hfo ⟨st1.length, rfl, hb, hs, hs2, hSA1⟩ (by omega) ?_
        exact hs_y56c (k := 0) hT (by decide) cc.1 (by decide) cc.2.2.1 cc.2.2.2 (cmb _ _)
      | cons t r =>
        refine hs_yN0C (dd := 0) (base := 0) (k := hs_tk t) (st := s :: st1) hTA rfl (by decide) hfo ⟨st1.length, rfl, hb, hs, hs2, hSA1⟩ (by omega) ?_
        have e1 := hs_rankTk t
        have c2 : t ≠ 24 := cc.2.1
        have c3 : hs_rank t ≤ hs_rank (s % 64) := cc.2.2.1
        have c4 : ¬ (hs_rank t = 1 ∧ hs_rank (s % 64) = 1) := cc.2.2.2
        exact hs_y56c (k := hs_tk t) hT (hs_tkLe t).1 cc.1 (hs_tkK c2 (by decide)) (by rw [e1]; exact c3) (by rw [e1]; exact c4) (cmb _ _)
  · -- no combination
    cases ts with
    | nil =>
      refine hs_yN0E (dd := 0) (base := 0) hTA (by decide) hfo hSA (by omega) (hs_y56n (k := 0) hT (by decide) cc (hs_y116o hT (Or.inl rfl) (fun q => ?_) (fun q => ?_)))
      · refine Hf ⟨rfl, Or.inl rfl, fun c27 => cc ⟨c27, by decide, Nat.zero_le _, fun y => absurd y.1 (by decide)⟩, q⟩ p 0 tv (Or.inl ⟨rfl, rfl, rfl⟩)
      · refine Hb1 ?_ (fun y => y.2.2.2 q) _ _ _ _ _ _ _ _ _ _
        show hs_opr z [] st = none
        unfold hs_opr
        rw [if_neg cc]
    | cons t r =>
      have cc' : ¬ (27 ≤ hs_hd st % 64 ∧ t ≠ 24 ∧ hs_rank t ≤ hs_rank (hs_hd st % 64) ∧ ¬ (hs_rank t = 1 ∧ hs_rank (hs_hd st % 64) = 1)) := cc
      have hTA' := (hs_TAc hTA).2.2.2.2.2
      have hvr : ∀ x, x ∈ r → hs_vt x := fun x hx => hv x (List.mem_cons_of_mem _ hx)
      have mem : t ≠ 13 → ((13 ∈ t :: r ∨ y_sawSuper = 1) ↔ (13 ∈ r ∨ y_sawSuper = 1)) := by
        intro h; exact hs_mem13 h
      have Hb2 : t ≠ 25 → hs_step z (t :: r) false st = none → ∀ (q1 q2 q3 q4 q5 q6 q7 q8 : Int32) (q9 : Nat → Int64) (q10 : Nat → Int32), post 0 (y_maxObjects, y_maxSteps, y_maxDepth, y_kept, y_end, y_tokens, y_pending, y_lines, y_classes, y_prints, y_place, y_steps, nI 0, q7, q8, q1, q2, q3, q4, sm, y_target, y_err, y_code, y_outcome, y_result, 1, q5, y_starting, y_ended, 1, y_hosted, q6, tx, y_numbers, y_globals, y_entries, y_attrs, y_classOf, y_alive, y_orders, y_lengths, y_letters, y_bases, q9, q10, y_locals, y_fRecv, y_fLine, y_fPos, y_fStmt, y_fTarget, y_fMask, y_fHome, fo, y_fVals, y_fNew, y_out) := by
        intro h25 E
        refine Hb E (fun y => ?_)
        rcases y.2.1 with q | q
        · cases q
        · exact h25 q
      have e1 := hs_rankTk t
      have E0 : hs_step z (t :: r) false st = hs_opr1 z t r st := by
        show hs_opr z (t :: r) st = _
        unfold hs_opr
        exact if_neg cc'
      refine hs_yN0C (dd := 0) (base := 0) (k := hs_tk t) hTA rfl (by decide) hfo hSA (by omega) ?_
      have hcc : ¬ (27 ≤ hs_hd st % 64 ∧ hs_tk t ≠ 24 ∧ hs_rank (hs_tk t) ≤ hs_rank (hs_hd st % 64) ∧ ¬ (hs_rank (hs_tk t) = 1 ∧ hs_rank (hs_hd st % 64) = 1)) := by
        rw [e1]
        rintro ⟨a, b, c, d⟩
        refine cc' ⟨a, fun y => b ?_, c, d⟩
        rw [y]; rfl
      refine hs_y56n (k := hs_tk t) hT (hs_tkLe t).1 hcc ?_
      by_cases r0 : 0 < hs_rank t
      · have ht32 : 27 ≤ t ∧ t ≤ 32 := by
          unfold hs_rank at r0
          split at r0
          · omega
          · split at r0
            · omega
            · split at r0 <;> omega
        have etk : hs_tk t = t := hs_tkS (by omega)
        rw [etk]
        refine hs_y116p hT (by omega) (by omega) r0 (fun q => ?_) (fun q => ?_)
        · have := Hs r true (t :: st) [] (p + 1) (nI t) (nI (t - t)) y_sawSuper (upd y_ops st.length (nI t)) y_vals ((E0.trans (if_pos r0)).trans (if_neg q)) hTA' hvr (hs_SApush hSA (by omega)) (mem (by omega)) id
          rw [hs_opn0 (by omega)] at this
          have e2 : hs_nv (t :: st) true = hs_nv st false := by
            unfold hs_nv; rw [hs_nst1 (by omega)]; simp
          rw [e2] at this
          exact this
        · exact Hb2 (by omega) ((E0.trans (if_pos r0)).trans (if_pos q)) _ _ _ _ _ _ _ _ _ _
      · have E1 := E0.trans (if_neg r0)
        have r00 : hs_rank t = 0 := by omega
        by_cases t24 : t = 24
        · subst t24
          have E2 := E1.trans (if_pos rfl)
          refine hs_y116d ?_
          by_cases hn : hs_isN (hs_hd r) = true
          · cases r with
            | nil => simp [hs_hd, hs_isN] at hn
            | cons n r1 =>
              have hn : hs_isN n = true := hn
              have hn' := hs_tkN hn
              have hTA2 := (hs_TAc hTA').2.2.2.2.2
              have hvr1 : ∀ x, x ∈ r1 → hs_vt x := fun x hx => hvr x (List.mem_cons_of_mem _ hx)
              have E3 := E2.trans (if_pos hn)
              by_cases r21 : hs_hd r1 = 21
              · cases r1 with
                | nil => simp [hs_hd] at r21
                | cons q r2 =>
                  have r21 : q = 21 := r21
                  subst r21
                  have E4 : hs_step z (24 :: n :: 21 :: r2) false st = hs_psh (2 + 64 * (n - 100)) r2 st := E3.trans (if_pos rfl)
                  refine hs_yDotCall hTA' hn (hs_yParenD (by omega) (by omega) (fun q => ?_) (fun q => ?_))
                  · have := Hs r2 true ((2 + 64 * (n - 100)) :: st) [] (p + 1 + 1 + 1) (nI 100) (nI (n - 100)) y_sawSuper (upd y_ops st.length (nI (2 + 64 * (n - 100)))) y_vals (E4.trans (hs_pshT q)) (hs_TAc hTA2).2.2.2.2.2 (fun x hx => hvr1 x (List.mem_cons_of_mem _ hx)) (hs_SApush hSA (by omega)) ((hs_mem13 (by decide)).trans ((hs_mem13 (by omega)).trans (hs_mem13 (by decide)))) id
                    rw [hs_opn1 (by omega)] at this
                    have e2 : hs_nv ((2 + 64 * (n - 100)) :: st) true = hs_nv st false := by
                      unfold hs_nv; rw [hs_nst1 (by omega)]; simp
                    rw [e2] at this
                    exact this
                  · exact Hb2 (by omega) (E4.trans (hs_pshF q)) _ _ _ _ _ _ _ _ _ _
              · have E4 := E3.trans (if_neg r21)
                by_cases r26 : hs_hd r1 = 26 ∧ z = true ∧ st = []
                · obtain ⟨a26, az, rfl⟩ := r26
                  cases r1 with
                  | nil => simp [hs_hd] at a26
                  | cons q r2 =>
                    have a26 : q = 26 := a26
                    subst a26
                    have E5 := E4.trans (if_pos ⟨rfl, az, rfl⟩)
                    have e50 : sm = 50 := hz.mp az
                    subst e50
                    refine hs_yDotSet (dd := 0) hTA' hn (by decide) hfo (by decide) ?_
                    have := Hs r2 true [5 + 64 * (n - 100)] [] (p + 1 + 1 + 1) (nI 100) (nI (n - 100)) y_sawSuper (upd y_ops 0 (nI (5 + 64 * (n - 100)))) y_vals E5 (hs_TAc hTA2).2.2.2.2.2 (fun x hx => hvr1 x (List.mem_cons_of_mem _ hx)) (hs_SApush hSA (by omega)) ((hs_mem13 (by decide)).trans ((hs_mem13 (by omega)).trans (hs_mem13 (by decide)))) id
                    rw [hs_opn0 (by omega)] at this
                    have e2 : hs_nv [5 + 64 * (n - 100)] true = hs_nv [] false := by
                      unfold hs_nv; rw [hs_nst1 (by omega)]; simp
                    rw [e2] at this
                    exact this
                · have E5 := E4.trans (if_neg r26)
                  refine hs_yDotGet (dd := 0) (base := 0) hTA' hn r21 ?_ (by decide) hfo (by decide) (by omega) ?_
                  · by_cases a : hs_hd r1 = 26
                    · by_cases b : sm = 50
                      · right; right
                        intro hl
                        exact r26 ⟨a, hz.mpr b, List.length_eq_zero_iff.mp hl⟩
                      · exact Or.inr (Or.inl b)
                    · exact Or.inl a
                  · unfold wY_dot_136
                    refine br_f (by decide) ?_
                    exact Hs r1 false st _ (p + 1 + 1) (nI 100) (nI (n - 100)) y_sawSuper y_ops y_vals E5 hTA2 hvr1 hSA ((hs_mem13 (by decide)).trans (hs_mem13 (by omega))) id
          · have hn : hs_isN (hs_hd r) = false := by simpa using hn
            have E3 : hs_step z (24 :: r) false st = none := by
              rw [E2]
              cases r with
              | nil => rfl
              | cons n r1 =>
                have hn : hs_isN n = false := hn
                show (if hs_isN n = true then _ else none) = none
                rw [hn]; rfl
            exact hs_yDotBad hTA' hvr hn (fun _ _ _ => Hb2 (by omega) E3 _ _ _ _ _ _ _ _ _ _)
        · have E2 := E1.trans (if_neg t24)
          by_cases t22 : t = 22
          · subst t22
            have E3 := E2.trans (if_pos rfl)
            refine hs_y116c ?_
            cases st with
            | nil => exact hs_yCloseE (dd := 0) (base := 0) (by decide) hfo (by decide) (Hb2 (by omega) E3 _ _ _ _ _ _ _ _ _ _)
            | cons s st1 =>
              obtain ⟨tp, et, hb, hs, hs2, hSA1⟩ := hSA
              have et : st1.length = tp := by simp only [List.length_cons] at et; omega
              subst et
              simp only [List.length_cons] at hlen
              refine hs_yClose0 (n := 1) (dd := 0) (base := 0) (by decide) hfo (by omega) (by omega) hs ?_
              by_cases s1 : s % 64 = 1
              · have E4 := E3.trans (if_pos s1)
                refine hs_yCloseG hs2 s1 ?_
                have := Hs r false st1 _ (p + 1) (nI 22) (nI (22 - 22)) y_sawSuper y_ops y_vals E4 hTA' hvr hSA1 (mem (by omega)) id
                rw [hs_opn1 (by omega), nI_pred]
                have e2 : hs_nv (s :: st1) false = hs_nv st1 false := by
                  unfold hs_nv; rw [hs_nst0 (by omega)]
                rw [e2]
                exact this
              · have E4 := E3.trans (if_neg s1)
                by_cases hty : 2 ≤ s % 64 ∧ s % 64 ≤ 4
                · have E5 := E4.trans (if_pos hty)
                  refine hs_yCloseD (n := 1) hs2 hty (by decide) (hs_nvC1 hty).1 (by omega) ?_
                  have := Hs r false st1 _ (p + 1) (nI 22) (nI (22 - 22)) y_sawSuper y_ops (vp_updL y_vals (hs_nv (s :: st1) false - hs_cn (s % 64) 1) 1) E5 hTA' hvr hSA1 (mem (by omega)) id
                  rw [hs_opn1 (by omega), nI_pred, (hs_nvC1 hty).2]
                  exact this
                · have E5 := E4.trans (if_neg hty)
                  exact hs_yCloseB hs2 (by omega) (Hb2 (by omega) E5 _ _ _ _ _ _ _ _ _ _)
          · have E3 := E2.trans (if_neg t22)
            by_cases t25 : t = 25
            · subst t25
              refine hs_y116o hT (Or.inr rfl) (fun q => ?_) (fun q => ?_)
              · exact Hf ⟨rfl, Or.inr rfl, fun c27 => cc ⟨c27, by show 25 ≠ 24; decide, Nat.zero_le _, fun y => absurd y.1 (by show ¬ hs_rank 25 = 1; decide)⟩, q⟩ (p + 1) 25 _ (Or.inr ⟨r, rfl, rfl, rfl, hTA'⟩)
              · exact Hb1 E3 (fun y => y.2.2.2 q) _ _ _ _ _ _ _ _ _ _
            · have t0 : t ≠ 0 := by have := (hs_TAc hTA).2.1; omega
              have k0 : hs_tk t ≠ 0 := hs_tkK t0 (by decide)
              exact hs_y116b (hs_tkLe t).1 (by rw [e1]; exact r00) (hs_tkK t24 (by decide)) (hs_tkK t22 (by decide)) k0 (hs_tkK t25 (by decide)) (Hb2 (by omega) E3 _ _ _ _ _ _ _ _ _ _)
end
end
section
/-! Y's dry run, whole -/
section
variable {x_objectLimit x_stepLimit x_depthLimit x_pendingCount x_keptTokens x_keptLines x_lineCount x_codeCount x_cursor x_stop x_waitingCount x_openCount x_classCount x_callCount x_operandCount x_stepsTaken x_error x_raisedCode x_printCount x_lastPlace : Int32} {x_lastResult : Int64} {x_pending x_lineTable x_orders x_merging x_letterClass x_objectClass x_calls x_lastPrints : Nat → Int32} {x_code x_waiting x_globals x_entries x_attributes x_held x_operands : Nat → Int64}
variable {y_maxObjects y_maxSteps y_maxDepth y_kept y_end y_tokens y_pending y_lines y_classes y_prints y_place y_steps y_d y_valTop y_opTop y_opens y_pos y_tk y_tv y_stmt y_target y_err y_code y_outcome y_dry y_want y_starting y_ended y_bad y_hosted y_sawSuper : Int32} {y_result : Int64} {y_text y_numbers y_classOf y_alive y_orders y_lengths y_letters y_bases y_ops y_fLine y_fPos y_fStmt y_fTarget y_fMask y_fHome y_fOps y_fVals y_fNew y_out : Nat → Int32} {y_globals y_entries y_attrs y_vals y_locals y_fRecv : Nat → Int64}
theorem hs_yDryB {post : Int32 → SY → Prop} {n : Nat} {r : Int32} (H : post (-1) (y_maxObjects, y_maxSteps, y_maxDepth, y_kept, y_end, y_tokens, y_pending, y_lines, y_classes, y_prints, y_place, y_steps, y_d, 0, 0, y_opens, y_pos, y_tk, y_tv, y_stmt, y_target, y_err, y_code, y_outcome, y_result, 0, y_want, y_starting, y_ended, 1, y_hosted, y_sawSuper, y_text, y_numbers, y_globals, y_entries, y_attrs, y_classOf, y_alive, y_orders, y_lengths, y_letters, y_bases, y_vals, y_ops, y_locals, y_fRecv, y_fLine, y_fPos, y_fStmt, y_fTarget, y_fMask, y_fHome, y_fOps, y_fVals, y_fNew, y_out)) : wY_dryRun_37 post (n + 1) r y_maxObjects y_maxSteps y_maxDepth y_kept y_end y_tokens y_pending y_lines y_classes y_prints y_place y_steps y_d y_valTop y_opTop y_opens y_pos y_tk y_tv y_stmt y_target y_err y_code y_outcome y_result y_dry y_want y_starting y_ended 1 y_hosted y_sawSuper y_text y_numbers y_globals y_entries y_attrs y_classOf y_alive y_orders y_lengths y_letters y_bases y_vals y_ops y_locals y_fRecv y_fLine y_fPos y_fStmt y_fTarget y_fMask y_fHome y_fOps y_fVals y_fNew y_out := by
  by_cases e : r = 0
  · exact br_t e (br_f (by decide) (br_f (by decide) H))
  · exact br_f e (br_f (by decide) H)
theorem hs_yDryF {post : Int32 → SY → Prop} {n : Nat} (H : post y_tk (y_maxObjects, y_maxSteps, y_maxDepth, y_kept, y_end, y_tokens, y_pending, y_lines, y_classes, y_prints, y_place, y_steps, y_d, 0, 0, y_opens, y_pos, y_tk, y_tv, y_stmt, y_target, y_err, y_code, y_outcome, y_result, 0, y_want, y_starting, y_ended, 0, y_hosted, y_sawSuper, y_text, y_numbers, y_globals, y_entries, y_attrs, y_classOf, y_alive, y_orders, y_lengths, y_letters, y_bases, y_vals, y_ops, y_locals, y_fRecv, y_fLine, y_fPos, y_fStmt, y_fTarget, y_fMask, y_fHome, y_fOps, y_fVals, y_fNew, y_out)) : wY_dryRun_37 post (n + 1) 1 y_maxObjects y_maxSteps y_maxDepth y_kept y_end y_tokens y_pending y_lines y_classes y_prints y_place y_steps y_d y_valTop y_opTop y_opens y_pos y_tk y_tv y_stmt y_target y_err y_code y_outcome y_result y_dry y_want y_starting y_ended 0 y_hosted y_sawSuper y_text y_numbers y_globals y_entries y_attrs y_classOf y_alive y_orders y_lengths y_letters y_bases y_vals y_ops y_locals y_fRecv y_fLine y_fPos y_fStmt y_fTarget y_fMask y_fHome y_fOps y_fVals y_fNew y_out := by
  exact br_f (by decide) (br_t rfl H)
theorem hs_yDryL {tx : Nat → Int32} {fo : Nat → Int32} {sm : Int32} {z : Bool} (hfo : fo 0 = nI 0) (hz : z = true ↔ sm = 50) {post : Int32 → SY → Prop} : ∀ (n : Nat) (ts : List Nat) (w : Bool) (st : List Nat) (p : Nat) (tk tv ss : Int32) (ops : Nat → Int32) (vals : Nat → Int64),
    2 * ts.length + st.length + 2 ≤ n → hs_TA tx p ts → (∀ x, x ∈ ts → hs_vt x) → hs_SA ops 0 st.length st → st.length + ts.length + (if w then 0 else 1) ≤ 50 → (ss = 0 ∨ ss = 1) → (∀ (cd : List (Nat × Nat)) (rs fs : List Nat), hs_S z ts w st cd rs fs → ∀ (p' k : Nat) (q1 q4 q5 ss' : Int32) (q9 : Nat → Int64) (q10 : Nat → Int32), (rs = [] ∧ k = 0 ∧ hs_TA tx p' [] ∨ ∃ r, rs = 25 :: r ∧ k = 25 ∧ hs_TA tx p' r) → ((13 ∈ ts ∨ ss = 1) ↔ (13 ∈ rs ∨ ss' = 1)) → (ss' = 0 ∨ ss' = 1) → post (nI k) (y_maxObjects, y_maxSteps, y_maxDepth, y_kept, y_end, y_tokens, y_pending, y_lines, y_classes, y_prints, y_place, y_steps, nI 0, 0, 0, q1, nI p', nI k, q4, sm, y_target, y_err, y_code, y_outcome, y_result, 0, q5, y_starting, y_ended, 0, y_hosted, ss', tx, y_numbers, y_globals, y_entries, y_attrs, y_classOf, y_alive, y_orders, y_lengths, y_letters, y_bases, q9, q10, y_locals, y_fRecv, y_fLine, y_fPos, y_fStmt, y_fTarget, y_fMask, y_fHome, fo, y_fVals, y_fNew, y_out)) → ((∀ (cd : List (Nat × Nat)) (rs fs : List Nat), ¬ hs_S z ts w st cd rs fs) → ∀ (q1 q2 q3 q4 q5 q6 : Int32) (q9 : Nat → Int64) (q10 : Nat → Int32), post (-1) (y_maxObjects, y_maxSteps, y_maxDepth, y_kept, y_end, y_tokens, y_pending, y_lines, y_classes, y_prints, y_place, y_steps, nI 0, 0, 0, q1, q2, q3, q4, sm, y_target, y_err, y_code, y_outcome, y_result, 0, q5, y_starting, y_ended, 1, y_hosted, q6, tx, y_numbers, y_globals, y_entries, y_attrs, y_classOf, y_alive, y_orders, y_lengths, y_letters, y_bases, q9, q10, y_locals, y_fRecv, y_fLine, y_fPos, y_fStmt, y_fTarget, y_fMask, y_fHome, fo, y_fVals, y_fNew, y_out)) → wY_dryRun_37 post n 0 y_maxObjects y_maxSteps y_maxDepth y_kept y_end y_tokens y_pending y_lines y_classes y_prints y_place y_steps (nI 0) (nI (hs_nv (st) (w))) (nI (List.length (st))) (nI (hs_opn (st))) (nI (p)) tk tv sm y_target y_err y_code y_outcome y_result 1 (hs_b (w)) y_starting y_ended 0 y_hosted ss tx y_numbers y_globals y_entries y_attrs y_classOf y_alive y_orders y_lengths y_letters y_bases vals ops y_locals y_fRecv y_fLine y_fPos y_fStmt y_fTarget y_fMask y_fHome fo y_fVals y_fNew y_out := by
  intro n
  induction n with
  | zero => intro ts w st p tk tv ss ops vals h; omega
  | succ n ih =>
    intro ts w st p tk tv ss ops vals hn hTA hv hSA hlen hss HS HB
    obtain ⟨n, rfl⟩ : ∃ m, n = m + 1 := ⟨n - 1, by omega⟩
    refine br_t rfl (br_t rfl ?_)
    have step : ∀ (ts' : List Nat) (w' : Bool) (st' : List Nat) (e : List (Nat × Nat)) (p' : Nat) (tk tv ss' : Int32) (ops : Nat → Int32) (vals : Nat → Int64), hs_step z ts w st = some (ts', w', st', e) → ¬ hs_fin ts w st → hs_TA tx p' ts' → (∀ x, x ∈ ts' → hs_vt x) → hs_SA ops 0 st'.length st' → ((13 ∈ ts ∨ ss = 1) ↔ (13 ∈ ts' ∨ ss' = 1)) → (ss = 0 ∨ ss = 1 → ss' = 0 ∨ ss' = 1) → wY_dryRun_37 post (n + 1) 0 y_maxObjects y_maxSteps y_maxDepth y_kept y_end y_tokens y_pending y_lines y_classes y_prints y_place y_steps (nI 0) (nI (hs_nv (st') (w'))) (nI (List.length (st'))) (nI (hs_opn (st'))) (nI (p')) tk tv sm y_target y_err y_code y_outcome y_result 1 (hs_b (w')) y_starting y_ended 0 y_hosted ss' tx y_numbers y_globals y_entries y_attrs y_classOf y_alive y_orders y_lengths y_letters y_bases vals ops y_locals y_fRecv y_fLine y_fPos y_fStmt y_fTarget y_fMask y_fHome fo y_fVals y_fNew y_out := by
      intro ts' w' st' e p' tk tv ss' ops vals E nf hTA' hv' hSA' hm hss'
      obtain ⟨m1, m2⟩ := hs_stepM E
      refine ih ts' w' st' p' tk tv ss' ops vals (by omega) hTA' hv' hSA' (by omega) (hss' hss) ?_ ?_
      · intro cd rs fs hS p2 k q1 q4 q5 ss2 q9 q10 hr hm2 hs2
        exact HS (e ++ cd) rs fs ((hs_Sstep nf E).mpr ⟨cd, rfl, hS⟩) p2 k q1 q4 q5 ss2 q9 q10 hr (hm.trans hm2) hs2
      · intro hno
        refine HB (fun cd rs fs hS => ?_)
        obtain ⟨cd', _, h2⟩ := (hs_Sstep nf E).mp hS
        exact hno _ _ _ h2
    cases w with
    | true =>
      cases ts with
      | nil =>
        refine hs_yOpdEnd hTA ?_
        refine hs_yDryB (HB (fun cd rs fs => hs_Sbad (fun y => absurd y.1 (by decide)) rfl) _ _ _ _ _ _ _ _)
      | cons t r =>
        have nf : ¬ hs_fin (t :: r) true st := fun y => absurd y.1 (by decide)
        refine hs_yDryW (z := z) rfl rfl hTA (by simp at hlen; omega) hfo hz hv hSA (fun ts' w' st' e p' tk tv ss' ops vals E h1 h2 h3 h4 h5 => step ts' w' st' e p' tk tv ss' ops vals E nf h1 h2 h3 h4 h5) (fun E q1 q2 q3 q4 q5 q6 q7 q8 q9 q10 => ?_)
        exact hs_yDryB (HB (fun cd rs fs => hs_Sbad nf E) _ _ _ _ _ _ _ _)
    | false =>
      have nfs : ∀ x, hs_step z ts false st = some x → ¬ hs_fin ts false st := by
        intro x E hf
        obtain ⟨_, h1, h2, h3⟩ := hf
        have E : hs_opr z ts st = some x := E
        unfold hs_opr at E
        rw [if_neg (fun y => h2 y.1)] at E
        cases ts with
        | nil => cases E
        | cons t r =>
          have e25 : t = 25 := by
            rcases h1 with h1 | h1
            · cases h1
            · exact h1
          subst e25
          have E : hs_opr1 z 25 r st = some x := E
          unfold hs_opr1 at E
          rw [if_neg (by decide), if_neg (by decide), if_neg (by decide)] at E
          cases E
      have nfn : hs_step z ts false st = none → ∀ (q : ¬ hs_fin ts false st) (cd : List (Nat × Nat)) (rs fs : List Nat), ¬ hs_S z ts false st cd rs fs := fun E q cd rs fs => hs_Sbad q E
      refine hs_yDryN (z := z) rfl hTA (by simp at hlen; omega) hfo hz hv hSA (fun ts' w' st' e p' tk tv ss' ops vals E h1 h2 h3 h4 h5 => step ts' w' st' e p' tk tv ss' ops vals E (nfs _ E) h1 h2 h3 h4 h5) (fun E nf q1 q2 q3 q4 q5 q6 q7 q8 q9 q10 => ?_) (fun hf p' k tv hk => ?_) (fun E nf q1 q2 q3 q4 q5 q6 q7 q8 q9 q10 => ?_)
      · exact hs_yDryB (HB (nfn E nf) _ _ _ _ _ _ _ _)
      · refine hs_yDryF (HS [] ts st ((hs_Sfin hf).mpr ⟨rfl, rfl, rfl⟩) p' k _ _ _ ss _ _ ?_ Iff.rfl hss)
        rcases hk with ⟨rfl, rfl, rfl⟩ | ⟨r, rfl, rfl, rfl, h⟩
        · exact Or.inl ⟨rfl, rfl, hTA⟩
        · exact Or.inr ⟨r, rfl, rfl, h⟩
      · exact hs_yDryB (HB (nfn E nf) _ _ _ _ _ _ _ _)
theorem hs_yDryRun {tx : Nat → Int32} {fo : Nat → Int32} {sm : Int32} {z : Bool} (hfo : fo 0 = nI 0) (hz : z = true ↔ sm = 50) {post : Int32 → SY → Prop} {ts : List Nat} {p : Nat} {ss : Int32} (hTA : hs_TA tx p ts) (hv : ∀ x, x ∈ ts → hs_vt x) (hlen : ts.length ≤ 50) (hss : ss = 0 ∨ ss = 1) {w : Bool} {st : List Nat} (ew : w = true) (es : st = []) (HS : (∀ (cd : List (Nat × Nat)) (rs fs : List Nat), hs_S z ts w st cd rs fs → ∀ (p' k : Nat) (q1 q4 q5 ss' : Int32) (q9 : Nat → Int64) (q10 : Nat → Int32), (rs = [] ∧ k = 0 ∧ hs_TA tx p' [] ∨ ∃ r, rs = 25 :: r ∧ k = 25 ∧ hs_TA tx p' r) → ((13 ∈ ts ∨ ss = 1) ↔ (13 ∈ rs ∨ ss' = 1)) → (ss' = 0 ∨ ss' = 1) → post (nI k) (y_maxObjects, y_maxSteps, y_maxDepth, y_kept, y_end, y_tokens, y_pending, y_lines, y_classes, y_prints, y_place, y_steps, nI 0, 0, 0, q1, nI p', nI k, q4, sm, y_target, y_err, y_code, y_outcome, y_result, 0, q5, y_starting, y_ended, 0, y_hosted, ss', tx, y_numbers, y_globals, y_entries, y_attrs, y_classOf, y_alive, y_orders, y_lengths, y_letters, y_bases, q9, q10, y_locals, y_fRecv, y_fLine, y_fPos, y_fStmt, y_fTarget, y_fMask, y_fHome, fo, y_fVals, y_fNew, y_out))) (HB : ((∀ (cd : List (Nat × Nat)) (rs fs : List Nat), ¬ hs_S z ts w st cd rs fs) → ∀ (q1 q2 q3 q4 q5 q6 : Int32) (q9 : Nat → Int64) (q10 : Nat → Int32), post (-1) (y_maxObjects, y_maxSteps, y_maxDepth, y_kept, y_end, y_tokens, y_pending, y_lines, y_classes, y_prints, y_place, y_steps, nI 0, 0, 0, q1, q2, q3, q4, sm, y_target, y_err, y_code, y_outcome, y_result, 0, q5, y_starting, y_ended, 1, y_hosted, q6, tx, y_numbers, y_globals, y_entries, y_attrs, y_classOf, y_alive, y_orders, y_lengths, y_letters, y_bases, q9, q10, y_locals, y_fRecv, y_fLine, y_fPos, y_fStmt, y_fTarget, y_fMask, y_fHome, fo, y_fVals, y_fNew, y_out))) : wpY_dryRun post (y_maxObjects, y_maxSteps, y_maxDepth, y_kept, y_end, y_tokens, y_pending, y_lines, y_classes, y_prints, y_place, y_steps, y_d, y_valTop, y_opTop, y_opens, nI p, y_tk, y_tv, sm, y_target, y_err, y_code, y_outcome, y_result, y_dry, y_want, y_starting, y_ended, y_bad, y_hosted, ss, tx, y_numbers, y_globals, y_entries, y_attrs, y_classOf, y_alive, y_orders, y_lengths, y_letters, y_bases, y_vals, y_ops, y_locals, y_fRecv, y_fLine, y_fPos, y_fStmt, y_fTarget, y_fMask, y_fHome, fo, y_fVals, y_fNew, y_out) := by
  subst ew es
  exact ⟨2 * ts.length + 2, hs_yDryL hfo hz _ ts true [] p y_tk y_tv ss y_ops y_vals (by simp) hTA hv rfl (by simpa using hlen) hss HS HB⟩
end
end
section
/-! X's tokens and small methods of the reader -/
section
variable {x_objectLimit x_stepLimit x_depthLimit x_pendingCount x_keptTokens x_keptLines x_lineCount x_codeCount x_cursor x_stop x_waitingCount x_openCount x_classCount x_callCount x_operandCount x_stepsTaken x_error x_raisedCode x_printCount x_lastPlace : Int32} {x_lastResult : Int64} {x_pending x_lineTable x_orders x_merging x_letterClass x_objectClass x_calls x_lastPrints : Nat → Int32} {x_code x_waiting x_globals x_entries x_attributes x_held x_operands : Nat → Int64}
variable {y_maxObjects y_maxSteps y_maxDepth y_kept y_end y_tokens y_pending y_lines y_classes y_prints y_place y_steps y_d y_valTop y_opTop y_opens y_pos y_tk y_tv y_stmt y_target y_err y_code y_outcome y_dry y_want y_starting y_ended y_bad y_hosted y_sawSuper : Int32} {y_result : Int64} {y_text y_numbers y_classOf y_alive y_orders y_lengths y_letters y_bases y_ops y_fLine y_fPos y_fStmt y_fTarget y_fMask y_fHome y_fOps y_fVals y_fNew y_out : Nat → Int32} {y_globals y_entries y_attrs y_vals y_locals y_fRecv : Nat → Int64}
/-- a raw token of X against the token of Y's text; 0: none -/
def hs_rx (x : Int32) (t : Nat) : Prop := (x = 0 ∧ t = 0) ∨ (x = nI t ∧ hs_vt t ∧ t ≠ 33 ∧ t < 2 ^ 31) ∨ (t = 33 ∧ ¬ hs_good x ∧ x ≠ 0)
theorem hs_nIle {a t : Nat} (h : a ≤ t) (ht : t < 2 ^ 31) : nI a ≤ nI t := nI_le h ht
theorem hs_goodN {t : Nat} (h : hs_vt t) (h3 : t ≠ 33) (ht : t < 2 ^ 31) : hs_good (nI t) := by
  rcases h with h | h | h | h | h
  · exact Or.inl ⟨hs_nIle (a := 1) (by omega) ht, nI_le (b := 13) (by omega) (by decide)⟩
  · exact Or.inr (Or.inl ⟨hs_nIle (a := 21) (by omega) ht, nI_le (b := 32) (by omega) (by decide)⟩)
  · have := hs_tkN h
    exact Or.inr (Or.inr (Or.inr (Or.inl ⟨hs_nIle (a := 100) (by omega) ht, nI_le (b := 125) (by omega) (by decide)⟩)))
  · have := hs_tkC h
    exact Or.inr (Or.inr (Or.inr (Or.inr (Or.inl ⟨hs_nIle (a := 130) (by omega) ht, nI_le (b := 155) (by omega) (by decide)⟩))))
  · exact Or.inr (Or.inr (Or.inr (Or.inr (Or.inr (hs_nIle (a := 1000) (by omega) ht)))))
theorem hs_rxE {x : Int32} {t k : Nat} (h : hs_rx x t) (hk : k = 0 ∨ (hs_vt k ∧ k ≠ 33)) (hk2 : k < 2 ^ 31) : x = nI k ↔ t = k := by
  rcases h with ⟨rfl, rfl⟩ | ⟨rfl, _, _, h⟩ | ⟨rfl, h1, h2⟩
  · constructor
    · intro e
      exact (nI_eq (a := 0) (by decide) hk2).mp e
    · rintro rfl; rfl
  · exact nI_eq h hk2
  · constructor
    · rintro rfl
      rcases hk with rfl | hk
      · exact absurd rfl h2
      · exact absurd (hs_goodN hk.1 hk.2 hk2) h1
    · rintro rfl
      rcases hk with hk | hk
      · cases hk
      · exact absurd rfl hk.2
theorem hs_i32 (n : Nat) (h : n < 2 ^ 31) : (nI n).toInt = n := nI_toInt h
theorem hs_lit (n : Nat) (h : n < 2 ^ 31) (x : Int32) (e : x = nI n) : x.toInt = n := by rw [e]; exact nI_toInt h
theorem hs_rxLt {x : Int32} {t : Nat} (h : hs_rx x t) : x < 1000 ↔ t < 1000 := by
  rcases h with ⟨rfl, rfl⟩ | ⟨rfl, _, _, h⟩ | ⟨rfl, h1, h2⟩
  · exact ⟨fun _ => by decide, fun _ => by decide⟩
  · exact nI_ltI h (by decide)
  · refine ⟨fun _ => by decide, fun _ => ?_⟩
    by_cases q : x < 1000
    · exact q
    · exact absurd (Or.inr (Or.inr (Or.inr (Or.inr (Or.inr (Int32.not_lt.mp q)))))) h1
theorem hs_xFrom {x : Int32} {t a : Nat} (ha : a = 100 ∨ a = 130) (h : hs_rx x t) {post : Int32 → Prop} (h1 : (a ≤ t ∧ t < a + 26) → x = nI t → post 1) (h0 : ¬ (a ≤ t ∧ t < a + 26) → post 0) : wpX_isFrom post x (nI a) := by
  unfold wpX_isFrom
  have e26 : nI a + 26 = nI (a + 26) := nI_add a 26
  rw [e26]
  rcases h with ⟨rfl, rfl⟩ | ⟨rfl, _, _, h⟩ | ⟨rfl, h2, h3⟩
  · exact br_t (nI_lt (a := 0) (by omega) (by omega)) (h0 (by omega))
  · exact pk_lt t a (fun q => h0 (by omega)) (fun q => pk_le (a + 26) t (fun q => h0 (by omega)) (fun q2 => h1 ⟨q, q2⟩ rfl))
  · by_cases q : x < nI a
    · exact br_t q (h0 (by omega))
    · refine br_f q (br_c (fun _ => h0 (by omega)) (fun q2 => absurd ?_ h2))
      have l1 := Int32.not_lt.mp q
      have t1 := hs_i32 a (by omega)
      have t2 := hs_i32 (a + 26) (by omega)
      have l2 : x.toInt < a + 26 := by
        rw [Int32.le_iff_toInt_le, t2] at q2
        omega
      rw [Int32.le_iff_toInt_le, t1] at l1
      rcases ha with rfl | rfl
      · refine Or.inr (Or.inr (Or.inr (Or.inl ⟨?_, ?_⟩)))
        · rw [Int32.le_iff_toInt_le]; exact l1
        · rw [Int32.le_iff_toInt_le, show (125 : Int32).toInt = 125 by decide]; omega
      · refine Or.inr (Or.inr (Or.inr (Or.inr (Or.inl ⟨?_, ?_⟩))))
        · rw [Int32.le_iff_toInt_le]; exact l1
        · rw [Int32.le_iff_toInt_le, show (155 : Int32).toInt = 155 by decide]; omega
theorem hs_isNi {t : Nat} : hs_isN t = true ↔ (100 ≤ t ∧ t < 100 + 26) := by
  unfold hs_isN
  rw [decide_eq_true_iff]
theorem hs_isCi {t : Nat} : hs_isC t = true ↔ (130 ≤ t ∧ t < 130 + 26) := by
  unfold hs_isC
  rw [decide_eq_true_iff]
theorem hs_xFromN {x : Int32} {t : Nat} (h : hs_rx x t) {post : Int32 → Prop} (h1 : hs_isN t = true → x = nI t → post 1) (h0 : hs_isN t = false → post 0) : wpX_isFrom post x 100 :=
  hs_xFrom (a := 100) (Or.inl rfl) h (fun q e => h1 (hs_isNi.mpr q) e) (fun q => h0 (by
    cases hh : hs_isN t with
    | false => rfl
    | true => exact absurd (hs_isNi.mp hh) q))
theorem hs_xFromC {x : Int32} {t : Nat} (h : hs_rx x t) {post : Int32 → Prop} (h1 : hs_isC t = true → x = nI t → post 1) (h0 : hs_isC t = false → post 0) : wpX_isFrom post x 130 :=
  hs_xFrom (a := 130) (Or.inr rfl) h (fun q e => h1 (hs_isCi.mpr q) e) (fun q => h0 (by
    cases hh : hs_isC t with
    | false => rfl
    | true => exact absurd (hs_isCi.mp hh) q))
theorem hs_xRankN {t : Nat} (ht : t < 2 ^ 31) {post : Int32 → Prop} (H : post (nI (hs_rank t))) : wpX_rankOf post (nI t) := by
  unfold hs_rank at H
  refine pk_lt t 27 (fun q => ?_) (fun q => pk_lt 32 t (fun q2 => ?_) (fun q2 => pk_eq t 27 (fun e => ?_) (fun a => pk_eq t 28 (fun e => ?_) (fun b => pk_eq t 29 (fun e => ?_) (fun c => pk_eq t 30 (fun e => ?_) (fun d => pk_eq t 31 (fun e => ?_) (fun f => pk_eq t 32 (fun e => ?_) (fun g => trivial))))))))
  · rw [if_neg (by omega), if_neg (by omega), if_neg (by omega)] at H; exact H
  · rw [if_neg (by omega), if_neg (by omega), if_neg (by omega)] at H; exact H
  · rw [if_pos (by omega)] at H; exact H
  · rw [if_pos (by omega)] at H; exact H
  · rw [if_neg (by omega), if_pos (by omega)] at H; exact H
  · rw [if_neg (by omega), if_pos (by omega)] at H; exact H
  · rw [if_neg (by omega), if_neg (by omega), if_pos (by omega)] at H; exact H
  · rw [if_neg (by omega), if_neg (by omega), if_pos (by omega)] at H; exact H
theorem hs_xRank {x : Int32} {t : Nat} (h : hs_rx x t) {post : Int32 → Prop} (H : post (nI (hs_rank t))) : wpX_rankOf post x := by
  rcases h with ⟨rfl, rfl⟩ | ⟨rfl, _, _, h⟩ | ⟨rfl, h2, h3⟩
  · exact hs_xRankN (t := 0) (by decide) H
  · exact hs_xRankN h H
  · unfold wpX_rankOf
    have H : post 0 := H
    by_cases q : x < 27
    · exact br_t q H
    · refine br_f q (br_c (fun _ => H) (fun q2 => absurd ?_ h2))
      refine Or.inr (Or.inl ⟨?_, Int32.not_lt.mp q2⟩)
      have l1 := Int32.not_lt.mp q
      exact Int32.le_trans (by decide) l1
/-- the tokens of X from c to stop -/
def hs_PA (pd : Nat → Int32) (stop : Nat) : Nat → List Nat → Prop
  | c, [] => c = stop
  | c, t :: r => hs_rx (pd c) t ∧ t ≠ 0 ∧ hs_PA pd stop (c + 1) r
theorem hs_PAlen {pd : Nat → Int32} {stop : Nat} : ∀ {ts : List Nat} {c : Nat}, hs_PA pd stop c ts → stop = c + ts.length
  | [], _, h => by simpa using h.symm
  | _ :: r, c, ⟨_, _, h⟩ => by have := hs_PAlen h; simp only [List.length_cons]; omega
theorem hs_PAat {pd : Nat → Int32} {stop : Nat} : ∀ {ts : List Nat} {c k : Nat}, hs_PA pd stop c ts → k < ts.length → hs_rx (pd (c + k)) (hs_hd (ts.drop k))
  | [], _, _, _, h => by simp at h
  | t :: r, c, 0, h, _ => h.1
  | t :: r, c, k + 1, h, hk => by
    have := hs_PAat (k := k) h.2.2 (by simp only [List.length_cons] at hk; omega)
    rw [show c + 1 + k = c + (k + 1) by omega] at this
    exact this
theorem hs_PAdrop {pd : Nat → Int32} {stop : Nat} : ∀ {k : Nat} {ts : List Nat} {c : Nat}, hs_PA pd stop c ts → k ≤ ts.length → hs_PA pd stop (c + k) (ts.drop k)
  | 0, _, _, h, _ => h
  | k + 1, [], _, _, h => by simp at h
  | k + 1, t :: r, c, h, hk => by
    have := hs_PAdrop (k := k) h.2.2 (by simp only [List.length_cons] at hk; omega)
    rw [show c + 1 + k = c + (k + 1) by omega] at this
    exact this
theorem hs_hdDrop {ts : List Nat} {k : Nat} (h : ts.length ≤ k) : hs_hd (ts.drop k) = 0 := by
  rw [List.drop_eq_nil_of_le h]; rfl
theorem hs_xPeek {pd : Nat → Int32} {stop c : Nat} {ts : List Nat} (k : Nat) (h : hs_PA pd stop c ts) (hs : stop ≤ 400) (hk : k < 1000) {post : Int32 → Prop} (H : ∀ x, hs_rx x (hs_hd (ts.drop k)) → post x) : wpX_peek post (x_objectLimit, x_stepLimit, x_depthLimit, x_pendingCount, x_keptTokens, x_keptLines, x_lineCount, x_codeCount, nI c, nI stop, x_waitingCount, x_openCount, x_classCount, x_callCount, x_operandCount, x_stepsTaken, x_error, x_raisedCode, x_printCount, x_lastResult, x_lastPlace, pd, x_lineTable, x_code, x_waiting, x_globals, x_entries, x_orders, x_merging, x_letterClass, x_objectClass, x_attributes, x_calls, x_held, x_operands, x_lastPrints) (nI k) := by
  have hl := hs_PAlen h
  refine nm_r (nI_add c k) (br_f (nI_pos (by omega)) ?_)
  refine pk_le stop (c + k) (fun q => H 0 ?_) (fun q => And.intro (vp_in_nI (by omega) (by decide)) ?_)
  · rw [hs_hdDrop (by omega)]; exact Or.inl ⟨rfl, rfl⟩
  · rw [nI_clamp (show c + k < 2 ^ 31 by omega)]
    exact H _ (hs_PAat h (by omega))
/-- an element of the code -/
def hs_ce (o q : Nat) : Int64 := lN (o * 4294967296 + q)
theorem hs_el {o q : Nat} (ho : o < 64) (hq : q < 2 ^ 31) : ((nI o).toInt64 <<< ((32 : Int32).toInt64 &&& 63)) ||| (nI q).toInt64 = hs_ce o q := by
  rw [nI_l (by omega), nI_l hq]
  have e := g_shl (a := o) (k := 32) (p := 4294967296) (y := (32 : Int32).toInt64 &&& 63) (by decide) (by decide) (by decide) (by omega)
  rw [e]
  exact g_or (k := 32) (p := 4294967296) (a := q) (b := o) (by decide) (by omega) (by omega)
theorem hs_ceOp {o q : Nat} (ho : o < 64) (hq : q < 2 ^ 31) : (hs_ce o q >>> ((32 : Int32).toInt64 &&& 63)) = lN o := by
  unfold hs_ce
  rw [hs_yk (by omega)]
  exact congrArg lN (by omega)
theorem hs_ceOp32 {o q : Nat} (ho : o < 64) (hq : q < 2 ^ 31) : (hs_ce o q >>> ((32 : Int32).toInt64 &&& 63)).toInt32 = nI o := by
  rw [hs_ceOp ho hq, lN_i]
theorem hs_cePart {o q : Nat} (hq : q < 2 ^ 31) : (hs_ce o q).toInt32 = nI q := by
  unfold hs_ce
  rw [lN_i, hs_mod32]
  exact congrArg nI (by omega)
/-- a stretch of the code -/
def hs_CA (cd : Nat → Int64) : Nat → List (Nat × Nat) → Nat → Prop
  | c, [], e => c = e
  | c, (o, q) :: r, e => cd c = hs_ce o q ∧ o < 64 ∧ q < 2 ^ 31 ∧ hs_CA cd (c + 1) r e
theorem hs_CAlen {cd : Nat → Int64} : ∀ {l : List (Nat × Nat)} {c e : Nat}, hs_CA cd c l e → e = c + l.length
  | [], _, _, h => by simpa using h.symm
  | (_, _) :: r, c, e, h => by have := hs_CAlen h.2.2.2; simp only [List.length_cons]; omega
theorem hs_CAupd {cd cd' : Nat → Int64} : ∀ {l : List (Nat × Nat)} {c e : Nat}, hs_CA cd c l e → (∀ k, c ≤ k → k < e → cd' k = cd k) → hs_CA cd' c l e
  | [], _, _, h, _ => h
  | (_, _) :: r, c, e, h, hk => by
    have hl := hs_CAlen h.2.2.2
    exact ⟨(hk c (Nat.le_refl _) (by omega)).trans h.1, h.2.1, h.2.2.1, hs_CAupd h.2.2.2 (fun k k1 k2 => hk k (by omega) k2)⟩
theorem hs_CAapp {cd : Nat → Int64} : ∀ {l l' : List (Nat × Nat)} {c m e : Nat}, hs_CA cd c l m → hs_CA cd m l' e → hs_CA cd c (l ++ l') e
  | [], _, _, _, _, h, h' => by have h : _ = _ := h; rw [h]; exact h'
  | (_, _) :: r, _, c, m, e, h, h' => ⟨h.1, h.2.1, h.2.2.1, hs_CAapp h.2.2.2 h'⟩
theorem hs_CAone {cd : Nat → Int64} {c o q : Nat} (ho : o < 64) (hq : q < 2 ^ 31) : hs_CA (vp_updL cd c (hs_ce o q)) c [(o, q)] (c + 1) := ⟨pk_uLs, ho, hq, rfl⟩
theorem hs_xAddOp {cc c o q n : Nat} (hc : cc < 443) (ho : o < 64) (hq : q < 2 ^ 31) {post : Int32 → SX → Prop} (H : post 2 (x_objectLimit, x_stepLimit, x_depthLimit, x_pendingCount, x_keptTokens, x_keptLines, x_lineCount, nI (cc + 1), nI (c + n), x_stop, x_waitingCount, x_openCount, x_classCount, x_callCount, x_operandCount, x_stepsTaken, x_error, x_raisedCode, x_printCount, x_lastResult, x_lastPlace, x_pending, x_lineTable, vp_updL x_code cc (hs_ce o q), x_waiting, x_globals, x_entries, x_orders, x_merging, x_letterClass, x_objectClass, x_attributes, x_calls, x_held, x_operands, x_lastPrints)) : wpX_addOperand post (x_objectLimit, x_stepLimit, x_depthLimit, x_pendingCount, x_keptTokens, x_keptLines, x_lineCount, nI cc, nI c, x_stop, x_waitingCount, x_openCount, x_classCount, x_callCount, x_operandCount, x_stepsTaken, x_error, x_raisedCode, x_printCount, x_lastResult, x_lastPlace, x_pending, x_lineTable, x_code, x_waiting, x_globals, x_entries, x_orders, x_merging, x_letterClass, x_objectClass, x_attributes, x_calls, x_held, x_operands, x_lastPrints) (nI o) (nI q) (nI n) := by
  refine br_f (nI_ge (b := 443) hc (by decide)) (And.intro (vp_in_nI hc (by decide)) ?_)
  rw [nI_clamp (show cc < 2 ^ 31 by omega), hs_el ho hq]
  exact nm_e (nm_r (nI_1 cc) (nm_r (nI_add c n) H))
theorem hs_xAddCode {cc : Nat} {v : Int64} (hc : cc < 443) {post : SX → Prop} (H : post (x_objectLimit, x_stepLimit, x_depthLimit, x_pendingCount, x_keptTokens, x_keptLines, x_lineCount, nI (cc + 1), x_cursor, x_stop, x_waitingCount, x_openCount, x_classCount, x_callCount, x_operandCount, x_stepsTaken, x_error, x_raisedCode, x_printCount, x_lastResult, x_lastPlace, x_pending, x_lineTable, vp_updL x_code cc v, x_waiting, x_globals, x_entries, x_orders, x_merging, x_letterClass, x_objectClass, x_attributes, x_calls, x_held, x_operands, x_lastPrints)) : wpX_addCode post (x_objectLimit, x_stepLimit, x_depthLimit, x_pendingCount, x_keptTokens, x_keptLines, x_lineCount, nI cc, x_cursor, x_stop, x_waitingCount, x_openCount, x_classCount, x_callCount, x_operandCount, x_stepsTaken, x_error, x_raisedCode, x_printCount, x_lastResult, x_lastPlace, x_pending, x_lineTable, x_code, x_waiting, x_globals, x_entries, x_orders, x_merging, x_letterClass, x_objectClass, x_attributes, x_calls, x_held, x_operands, x_lastPrints) v := by
  refine br_f (nI_ge (b := 443) hc (by decide)) (And.intro (vp_in_nI hc (by decide)) ?_)
  rw [nI_clamp (show cc < 2 ^ 31 by omega)]
  exact nm_e (nm_r (nI_1 cc) H)
theorem hs_xKeep {wc o q : Nat} (hc : wc < 40) (ho : o < 64) (hq : q < 2 ^ 31) {post : SX → Prop} (H : post (x_objectLimit, x_stepLimit, x_depthLimit, x_pendingCount, x_keptTokens, x_keptLines, x_lineCount, x_codeCount, x_cursor, x_stop, nI (wc + 1), x_openCount, x_classCount, x_callCount, x_operandCount, x_stepsTaken, x_error, x_raisedCode, x_printCount, x_lastResult, x_lastPlace, x_pending, x_lineTable, x_code, vp_updL x_waiting wc (hs_ce o q), x_globals, x_entries, x_orders, x_merging, x_letterClass, x_objectClass, x_attributes, x_calls, x_held, x_operands, x_lastPrints)) : wpX_keepWaiting post (x_objectLimit, x_stepLimit, x_depthLimit, x_pendingCount, x_keptTokens, x_keptLines, x_lineCount, x_codeCount, x_cursor, x_stop, nI wc, x_openCount, x_classCount, x_callCount, x_operandCount, x_stepsTaken, x_error, x_raisedCode, x_printCount, x_lastResult, x_lastPlace, x_pending, x_lineTable, x_code, x_waiting, x_globals, x_entries, x_orders, x_merging, x_letterClass, x_objectClass, x_attributes, x_calls, x_held, x_operands, x_lastPrints) (nI o) (nI q) := by
  refine br_f (nI_ge (b := 40) hc (by decide)) (And.intro (vp_in_nI hc (by decide)) ?_)
  rw [nI_clamp (show wc < 2 ^ 31 by omega), hs_el ho hq]
  exact nm_e (nm_r (nI_1 wc) H)
end
end
section
/-! the automaton at X's grain -/
/-- what stands at A, then T: the same whole readings -/
def hs_Rr (z : Bool) (T ts : List Nat) (w : Bool) (st ts' : List Nat) (w' : Bool) (st' : List Nat) (e : List (Nat × Nat)) : Prop :=
  ∀ (cd : List (Nat × Nat)) (fs : List Nat), hs_S z (ts ++ T) w st cd [] fs ↔ ∃ cd', cd = e ++ cd' ∧ hs_S z (ts' ++ T) w' st' cd' [] fs
def hs_No (z : Bool) (T ts : List Nat) (w : Bool) (st : List Nat) : Prop := ∀ (cd : List (Nat × Nat)) (fs : List Nat), ¬ hs_S z (ts ++ T) w st cd [] fs
theorem hs_RrT {z w w1 w2 : Bool} {T ts st ts1 st1 ts2 st2 : List Nat} {e1 e2 : List (Nat × Nat)} (h1 : hs_Rr z T ts w st ts1 w1 st1 e1) (h2 : hs_Rr z T ts1 w1 st1 ts2 w2 st2 e2) : hs_Rr z T ts w st ts2 w2 st2 (e1 ++ e2) := by
  intro cd fs
  rw [h1 cd fs]
  constructor
  · rintro ⟨c1, rfl, h⟩
    obtain ⟨c2, rfl, h3⟩ := (h2 c1 fs).mp h
    exact ⟨c2, by rw [List.append_assoc], h3⟩
  · rintro ⟨c2, rfl, h⟩
    exact ⟨e2 ++ c2, by rw [List.append_assoc], (h2 _ fs).mpr ⟨c2, rfl, h⟩⟩
theorem hs_RrN {z w w1 : Bool} {T ts st ts1 st1 : List Nat} {e1 : List (Nat × Nat)} (h1 : hs_Rr z T ts w st ts1 w1 st1 e1) (h2 : hs_No z T ts1 w1 st1) : hs_No z T ts w st := by
  intro cd fs h
  obtain ⟨c1, _, h⟩ := (h1 cd fs).mp h
  exact h2 _ _ h
theorem hs_finW {ts st : List Nat} : ¬ hs_fin ts true st := fun y => absurd y.1 (by decide)
theorem hs_Rr1 {z w' : Bool} {T ts st ts' st' : List Nat} {w : Bool} {e : List (Nat × Nat)} (hf : ¬ hs_fin (ts ++ T) w st) (h : hs_step z (ts ++ T) w st = some (ts' ++ T, w', st', e)) : hs_Rr z T ts w st ts' w' st' e := fun cd fs => hs_Sstep hf h
theorem hs_No1 {z w : Bool} {T ts st : List Nat} (hf : ¬ hs_fin (ts ++ T) w st) (h : hs_step z (ts ++ T) w st = none) : hs_No z T ts w st := fun cd fs => hs_Sbad hf h
/-- a token that is no operator, where one is looked for -/
theorem hs_Sop {z : Bool} {t : Nat} {r : List Nat} (h0 : hs_rank t = 0) (h1 : t ≠ 24) (h2 : t ≠ 22) (h3 : t ≠ 25) : ∀ (st : List Nat) (cd : List (Nat × Nat)) (rs fs : List Nat), ¬ hs_S z (t :: r) false st cd rs fs := by
  have nf : ∀ st, ¬ hs_fin (t :: r) false st := by
    intro st y
    rcases y.2.1 with q | q
    · cases q
    · exact h3 q
  have step : ∀ st : List Nat, ¬ (27 ≤ hs_hd st % 64) → hs_step z (t :: r) false st = none := by
    intro st hc
    show hs_opr z (t :: r) st = none
    unfold hs_opr
    rw [if_neg (fun y => hc y.1)]
    show (if 0 < hs_rank t then _ else if t = 24 then _ else if t = 22 then _ else none) = none
    rw [if_neg (by omega), if_neg h1, if_neg h2]
  intro st
  induction st with
  | nil => intro cd rs fs; exact hs_Sbad (nf _) (step [] (by decide))
  | cons s st ih =>
    intro cd rs fs
    by_cases hc : 27 ≤ s % 64
    · have E : hs_step z (t :: r) false (s :: st) = some (t :: r, false, st, [(s % 64, 0)]) := by
        show hs_opr z (t :: r) (s :: st) = _
        unfold hs_opr
        have : 27 ≤ hs_hd (s :: st) % 64 ∧ hs_hd (t :: r) ≠ 24 ∧ hs_rank (hs_hd (t :: r)) ≤ hs_rank (hs_hd (s :: st) % 64) ∧ ¬ (hs_rank (hs_hd (t :: r)) = 1 ∧ hs_rank (hs_hd (s :: st) % 64) = 1) := by
          refine ⟨hc, h1, ?_, ?_⟩
          · show hs_rank t ≤ _; omega
          · show ¬ (hs_rank t = 1 ∧ _); omega
        rw [if_pos this]
        rfl
      intro h
      obtain ⟨cd', _, h⟩ := (hs_Sstep (nf _) E).mp h
      exact ih _ _ _ h
    · exact hs_Sbad (nf _) (step (s :: st) hc)
/-- what waits with this rank or more -/
def hs_stl (r : Nat) : List Nat → List (Nat × Nat) × List Nat
  | [] => ([], [])
  | s :: st => if r ≤ hs_rank (s % 64) then ((s % 64, 0) :: (hs_stl r st).1, (hs_stl r st).2) else ([], s :: st)
theorem hs_stlT {r s : Nat} {st : List Nat} (h : r ≤ hs_rank (s % 64)) : hs_stl r (s :: st) = ((s % 64, 0) :: (hs_stl r st).1, (hs_stl r st).2) := if_pos h
theorem hs_stlF {r s : Nat} {st : List Nat} (h : ¬ r ≤ hs_rank (s % 64)) : hs_stl r (s :: st) = ([], s :: st) := if_neg h
theorem hs_rank27 {t : Nat} (h : 1 ≤ hs_rank t) : 27 ≤ t ∧ t ≤ 32 := by
  unfold hs_rank at h
  split at h
  · omega
  · split at h
    · omega
    · split at h <;> omega
theorem hs_Sstl {z : Bool} {T ts : List Nat} {r : Nat} (hr : 1 ≤ r) (h24 : hs_hd (ts ++ T) ≠ 24) (hrk : hs_rank (hs_hd (ts ++ T)) = 1 ∧ r = 2 ∨ hs_rank (hs_hd (ts ++ T)) ≠ 1 ∧ hs_rank (hs_hd (ts ++ T)) ≤ r) : ∀ st : List Nat, hs_Rr z T ts false st ts false (hs_stl r st).2 (hs_stl r st).1 := by
  intro st
  induction st with
  | nil => exact fun cd fs => ⟨fun h => ⟨cd, rfl, h⟩, fun ⟨cd', e, h⟩ => by have e : cd = cd' := e; rw [e]; exact h⟩
  | cons s st ih =>
    by_cases h : r ≤ hs_rank (s % 64)
    · rw [hs_stlT h]
      have h27 := hs_rank27 (t := s % 64) (by omega)
      refine hs_RrT (e1 := [(s % 64, 0)]) (hs_Rr1 (fun y => y.2.2.1 h27.1) ?_) ih
      show hs_opr z (ts ++ T) (s :: st) = _
      unfold hs_opr
      rw [if_pos (by
        refine ⟨h27.1, h24, ?_, ?_⟩
        · show hs_rank (hs_hd (ts ++ T)) ≤ hs_rank (s % 64); omega
        · show ¬ (hs_rank (hs_hd (ts ++ T)) = 1 ∧ hs_rank (s % 64) = 1); omega)]
      rfl
    · rw [hs_stlF h]
      exact fun cd fs => ⟨fun h => ⟨cd, rfl, h⟩, fun ⟨cd', e, h⟩ => by have e : cd = cd' := e; rw [e]; exact h⟩
theorem hs_stlLen (r : Nat) : ∀ st : List Nat, (hs_stl r st).1.length + (hs_stl r st).2.length = st.length
  | [] => rfl
  | s :: st => by
    by_cases h : r ≤ hs_rank (s % 64)
    · rw [hs_stlT h]
      have := hs_stlLen r st
      simp only [List.length_cons]
      omega
    · rw [hs_stlF h]; simp
theorem hs_stlOpn {r : Nat} (hr : 1 ≤ r) : ∀ st : List Nat, hs_opn (hs_stl r st).2 = hs_opn st
  | [] => rfl
  | s :: st => by
    by_cases h : r ≤ hs_rank (s % 64)
    · rw [hs_stlT h]
      have h27 := hs_rank27 (t := s % 64) (by omega)
      rw [hs_opn0 (by omega)]
      exact hs_stlOpn hr st
    · rw [hs_stlF h]
theorem hs_stlTop (r : Nat) : ∀ st : List Nat, (hs_stl r st).2 = [] ∨ hs_rank (hs_hd (hs_stl r st).2 % 64) < r
  | [] => Or.inl rfl
  | s :: st => by
    by_cases h : r ≤ hs_rank (s % 64)
    · rw [hs_stlT h]
      exact hs_stlTop r st
    · rw [hs_stlF h]
      right
      show hs_rank (s % 64) < r
      omega
/-- X's stack of what waits -/
def hs_we (s : Nat) : Int64 := if s % 64 = 1 then hs_ce 0 0 else if 2 ≤ s % 64 ∧ s % 64 ≤ 4 then hs_ce (2 * (s % 64) + 3) (s / 64) else hs_ce s 0
def hs_ws (s : Nat) : Prop := s = 1 ∨ (2 ≤ s % 64 ∧ s % 64 ≤ 4 ∧ s / 64 < 26) ∨ (27 ≤ s ∧ s ≤ 32)
def hs_WA (wt : Nat → Int64) : List Nat → Prop
  | [] => True
  | s :: r => wt r.length = hs_we s ∧ hs_ws s ∧ hs_WA wt r
theorem hs_WAupd {wt wt' : Nat → Int64} : ∀ {st : List Nat}, hs_WA wt st → (∀ k, k < st.length → wt' k = wt k) → hs_WA wt' st
  | [], _, _ => trivial
  | s :: r, h, hk => ⟨(hk _ (by simp)).trans h.1, h.2.1, hs_WAupd h.2.2 (fun k k1 => hk k (by simp only [List.length_cons]; omega))⟩
theorem hs_WApush {wt : Nat → Int64} {st : List Nat} {s : Nat} (h : hs_WA wt st) (hs : hs_ws s) : hs_WA (vp_updL wt st.length (hs_we s)) (s :: st) := ⟨pk_uLs, hs, hs_WAupd h (fun k k1 => pk_uLn (by omega))⟩
theorem hs_WAstl {wt : Nat → Int64} {r : Nat} : ∀ {st : List Nat}, hs_WA wt st → hs_WA wt (hs_stl r st).2
  | [], _ => trivial
  | s :: st, h => by
    by_cases c : r ≤ hs_rank (s % 64)
    · rw [hs_stlT c]; exact hs_WAstl h.2.2
    · rw [hs_stlF c]; exact h
/-- the operation of what waits -/
theorem hs_weOp {s : Nat} (h : hs_ws s) : ∃ o q, hs_we s = hs_ce o q ∧ o < 64 ∧ q < 2 ^ 31 ∧ hs_rank o = hs_rank (s % 64) ∧ (o = 0 ↔ s % 64 = 1) ∧ (27 ≤ s % 64 → o = s % 64 ∧ q = 0) ∧ (2 ≤ s % 64 ∧ s % 64 ≤ 4 → o = 2 * (s % 64) + 3 ∧ q = s / 64) := by
  rcases h with rfl | ⟨h1, h2, h3⟩ | ⟨h1, h2⟩
  · exact ⟨0, 0, rfl, by decide, by decide, rfl, by decide, by decide, by decide⟩
  · refine ⟨2 * (s % 64) + 3, s / 64, ?_, by omega, by omega, ?_, by omega, by omega, by omega⟩
    · unfold hs_we; rw [if_neg (by omega), if_pos ⟨h1, h2⟩]
    · unfold hs_rank
      rw [if_neg (by omega), if_neg (by omega), if_neg (by omega), if_neg (by omega), if_neg (by omega), if_neg (by omega)]
  · have e : s % 64 = s := Nat.mod_eq_of_lt (by omega)
    refine ⟨s, 0, ?_, by omega, by decide, ?_, by omega, by omega, by omega⟩
    · unfold hs_we; rw [if_neg (by omega), if_neg (by omega)]
    · rw [e]
section
variable {x_objectLimit x_stepLimit x_depthLimit x_pendingCount x_keptTokens x_keptLines x_lineCount x_codeCount x_cursor x_stop x_waitingCount x_openCount x_classCount x_callCount x_operandCount x_stepsTaken x_error x_raisedCode x_printCount x_lastPlace : Int32} {x_lastResult : Int64} {x_pending x_lineTable x_orders x_merging x_letterClass x_objectClass x_calls x_lastPrints : Nat → Int32} {x_code x_waiting x_globals x_entries x_attributes x_held x_operands : Nat → Int64}
variable {y_maxObjects y_maxSteps y_maxDepth y_kept y_end y_tokens y_pending y_lines y_classes y_prints y_place y_steps y_d y_valTop y_opTop y_opens y_pos y_tk y_tv y_stmt y_target y_err y_code y_outcome y_dry y_want y_starting y_ended y_bad y_hosted y_sawSuper : Int32} {y_result : Int64} {y_text y_numbers y_classOf y_alive y_orders y_lengths y_letters y_bases y_ops y_fLine y_fPos y_fStmt y_fTarget y_fMask y_fHome y_fOps y_fVals y_fNew y_out : Nat → Int32} {y_globals y_entries y_attrs y_vals y_locals y_fRecv : Nat → Int64}
theorem hs_xSettle0 {r : Nat} (hr : 1 ≤ r) (hr3 : r ≤ 3) {post : SX → Prop} : ∀ (st : List Nat) (wt : Nat → Int64) (cc : Nat) (cd : Nat → Int64), hs_WA wt st → st.length ≤ 40 → cc + st.length ≤ 443 →
    (∀ cd' : Nat → Int64, hs_CA cd' cc (hs_stl r st).1 (cc + (hs_stl r st).1.length) → (∀ k, k < cc → cd' k = cd k) → post (x_objectLimit, x_stepLimit, x_depthLimit, x_pendingCount, x_keptTokens, x_keptLines, x_lineCount, nI (cc + (hs_stl r st).1.length), x_cursor, x_stop, nI (hs_stl r st).2.length, x_openCount, x_classCount, x_callCount, x_operandCount, x_stepsTaken, x_error, x_raisedCode, x_printCount, x_lastResult, x_lastPlace, x_pending, x_lineTable, cd', wt, x_globals, x_entries, x_orders, x_merging, x_letterClass, x_objectClass, x_attributes, x_calls, x_held, x_operands, x_lastPrints)) →
    ∀ i : Int32, i = nI st.length - 1 → wX_settle_7 post (nI r) (st.length + 1) i x_objectLimit x_stepLimit x_depthLimit x_pendingCount x_keptTokens x_keptLines x_lineCount (nI cc) x_cursor x_stop (nI st.length) x_openCount x_classCount x_callCount x_operandCount x_stepsTaken x_error x_raisedCode x_printCount x_lastResult x_lastPlace x_pending x_lineTable cd wt x_globals x_entries x_orders x_merging x_letterClass x_objectClass x_attributes x_calls x_held x_operands x_lastPrints := by
  intro st
  induction st with
  | nil =>
    intro wt cc cd hW hl hc H i hi
    subst hi
    exact br_t (by decide) (H cd rfl (fun _ _ => rfl))
  | cons s st ih =>
    intro wt cc cd hW hl hc H i hi
    obtain ⟨h1, h2, h3⟩ := hW
    simp only [List.length_cons] at hl hc hi
    have ei : i = nI st.length := by rw [hi, nI_pred]
    subst ei
    obtain ⟨o, q, e1, e2, e3, e4, e5, e6, e7⟩ := hs_weOp h2
    refine br_f (nI_pos (by omega)) (And.intro (vp_in_nI (by omega) (by decide)) ?_)
    rw [nI_clamp (show st.length < 2 ^ 31 by omega), h1, e1]
    refine nm_e (nm_r (hs_ceOp32 e2 e3) (hs_xRankN (by omega) ?_))
    rw [e4]
    have := hs_rankLe (s % 64)
    refine pk_le r (hs_rank (s % 64)) (fun c => ?_) (fun c => ?_)
    · have h27 := hs_rank27 (t := s % 64) (by omega)
      obtain ⟨rfl, rfl⟩ := e6 h27.1
      rw [hs_stlT c] at H
      refine hs_xAddCode (by omega) (nm_e ?_)
      refine ih wt (cc + 1) (vp_updL cd cc (hs_ce (s % 64) 0)) h3 (by omega) (by omega) (fun cd' c1 c2 => ?_) _ ?_
      · have hh := H cd' ⟨(c2 cc (by omega)).trans pk_uLs, by omega, by decide, by
          have : cc + 1 + (hs_stl r st).1.length = cc + ((hs_stl r st).1.length + 1) := by omega
          rw [this] at c1; exact c1⟩ (fun k hk => (c2 k (by omega)).trans (pk_uLn (by omega)))
        have : cc + 1 + (hs_stl r st).1.length = cc + ((hs_stl r st).1.length + 1) := by omega
        rw [this]
        exact hh
      · show nI st.length + (-1) = nI st.length - 1
        rw [Int32.sub_eq_add_neg]
    · rw [hs_stlF (by omega)] at H
      exact H cd rfl (fun _ _ => rfl)
theorem hs_xSettle {r cc : Nat} {st : List Nat} {wt cd : Nat → Int64} (hr : 1 ≤ r) (hr3 : r ≤ 3) (hW : hs_WA wt st) (hl : st.length ≤ 40) (hc : cc + st.length ≤ 443) {post : SX → Prop}
    (H : ∀ cd' : Nat → Int64, hs_CA cd' cc (hs_stl r st).1 (cc + (hs_stl r st).1.length) → (∀ k, k < cc → cd' k = cd k) → post (x_objectLimit, x_stepLimit, x_depthLimit, x_pendingCount, x_keptTokens, x_keptLines, x_lineCount, nI (cc + (hs_stl r st).1.length), x_cursor, x_stop, nI (hs_stl r st).2.length, x_openCount, x_classCount, x_callCount, x_operandCount, x_stepsTaken, x_error, x_raisedCode, x_printCount, x_lastResult, x_lastPlace, x_pending, x_lineTable, cd', wt, x_globals, x_entries, x_orders, x_merging, x_letterClass, x_objectClass, x_attributes, x_calls, x_held, x_operands, x_lastPrints)) : wpX_settle post (x_objectLimit, x_stepLimit, x_depthLimit, x_pendingCount, x_keptTokens, x_keptLines, x_lineCount, nI cc, x_cursor, x_stop, nI st.length, x_openCount, x_classCount, x_callCount, x_operandCount, x_stepsTaken, x_error, x_raisedCode, x_printCount, x_lastResult, x_lastPlace, x_pending, x_lineTable, cd, wt, x_globals, x_entries, x_orders, x_merging, x_letterClass, x_objectClass, x_attributes, x_calls, x_held, x_operands, x_lastPrints) (nI r) :=
  nm_e ⟨_, hs_xSettle0 hr hr3 st wt cc cd hW hl hc H _ rfl⟩
end
end
section
/-! X's reader of an expression, a turn at a time -/
section
variable {x_objectLimit x_stepLimit x_depthLimit x_pendingCount x_keptTokens x_keptLines x_lineCount x_codeCount x_cursor x_stop x_waitingCount x_openCount x_classCount x_callCount x_operandCount x_stepsTaken x_error x_raisedCode x_printCount x_lastPlace : Int32} {x_lastResult : Int64} {x_pending x_lineTable x_orders x_merging x_letterClass x_objectClass x_calls x_lastPrints : Nat → Int32} {x_code x_waiting x_globals x_entries x_attributes x_held x_operands : Nat → Int64}
variable {y_maxObjects y_maxSteps y_maxDepth y_kept y_end y_tokens y_pending y_lines y_classes y_prints y_place y_steps y_d y_valTop y_opTop y_opens y_pos y_tk y_tv y_stmt y_target y_err y_code y_outcome y_dry y_want y_starting y_ended y_bad y_hosted y_sawSuper : Int32} {y_result : Int64} {y_text y_numbers y_classOf y_alive y_orders y_lengths y_letters y_bases y_ops y_fLine y_fPos y_fStmt y_fTarget y_fMask y_fHome y_fOps y_fVals y_fNew y_out : Nat → Int32} {y_globals y_entries y_attrs y_vals y_locals y_fRecv : Nat → Int64}
def hs_bot : List Nat → Prop
  | [] => True
  | s :: r => (r = [] → 1 ≤ s % 64 ∧ s % 64 ≤ 4) ∧ hs_bot r
theorem hs_bot0 : ∀ {st : List Nat}, hs_bot st → hs_opn st = 0 → st = []
  | [], _, _ => rfl
  | s :: r, h, ho => by
    by_cases c : 1 ≤ s % 64 ∧ s % 64 ≤ 4
    · rw [hs_opn1 c] at ho; omega
    · rw [hs_opn0 c] at ho
      exact absurd (h.1 (hs_bot0 h.2 ho)) c
theorem hs_botStl {r : Nat} : ∀ {st : List Nat}, hs_bot st → hs_bot (hs_stl r st).2
  | [], _ => trivial
  | s :: st, h => by
    by_cases c : r ≤ hs_rank (s % 64)
    · rw [hs_stlT c]; exact hs_botStl h.2
    · rw [hs_stlF c]; exact h
def hs_xw (w : Bool) : Int32 := if w then 1 else 2
theorem hs_xOpenCall {pd : Nat → Int32} {wt cd : Nat → Int64} {stop c cc k o q on wc : Nat} {ts : List Nat} (hPA : hs_PA pd stop c ts) (hstop : stop ≤ 400) (hk : k ≤ 3) (ho : o < 60) (hq : q < 2 ^ 31) (hon : on ≤ 4) {post : Int32 → SX → Prop}
    (H2 : hs_hd (ts.drop k) = 21 → on < 4 → hs_hd (ts.drop (k + 1)) = 22 → cc < 443 ∧ post 2 (x_objectLimit, x_stepLimit, x_depthLimit, x_pendingCount, x_keptTokens, x_keptLines, x_lineCount, nI (cc + 1), nI (c + (k + 2)), nI stop, nI wc, nI on, x_classCount, x_callCount, x_operandCount, x_stepsTaken, x_error, x_raisedCode, x_printCount, x_lastResult, x_lastPlace, pd, x_lineTable, vp_updL cd cc (hs_ce o q), wt, x_globals, x_entries, x_orders, x_merging, x_letterClass, x_objectClass, x_attributes, x_calls, x_held, x_operands, x_lastPrints))
    (H1 : hs_hd (ts.drop k) = 21 → on < 4 → hs_hd (ts.drop (k + 1)) ≠ 22 → wc < 40 ∧ post 1 (x_objectLimit, x_stepLimit, x_depthLimit, x_pendingCount, x_keptTokens, x_keptLines, x_lineCount, nI cc, nI (c + (k + 1)), nI stop, nI (wc + 1), nI (on + 1), x_classCount, x_callCount, x_operandCount, x_stepsTaken, x_error, x_raisedCode, x_printCount, x_lastResult, x_lastPlace, pd, x_lineTable, cd, vp_updL wt wc (hs_ce (o + 1) q), x_globals, x_entries, x_orders, x_merging, x_letterClass, x_objectClass, x_attributes, x_calls, x_held, x_operands, x_lastPrints))
    (H0 : (hs_hd (ts.drop k) ≠ 21 ∨ on = 4) → post 0 (x_objectLimit, x_stepLimit, x_depthLimit, x_pendingCount, x_keptTokens, x_keptLines, x_lineCount, nI cc, nI c, nI stop, nI wc, nI on, x_classCount, x_callCount, x_operandCount, x_stepsTaken, x_error, x_raisedCode, x_printCount, x_lastResult, x_lastPlace, pd, x_lineTable, cd, wt, x_globals, x_entries, x_orders, x_merging, x_letterClass, x_objectClass, x_attributes, x_calls, x_held, x_operands, x_lastPrints)) :
    wpX_openCall post (x_objectLimit, x_stepLimit, x_depthLimit, x_pendingCount, x_keptTokens, x_keptLines, x_lineCount, nI cc, nI c, nI stop, nI wc, nI on, x_classCount, x_callCount, x_operandCount, x_stepsTaken, x_error, x_raisedCode, x_printCount, x_lastResult, x_lastPlace, pd, x_lineTable, cd, wt, x_globals, x_entries, x_orders, x_merging, x_letterClass, x_objectClass, x_attributes, x_calls, x_held, x_operands, x_lastPrints) (nI o) (nI q) (nI k) := by
  unfold wpX_openCall
  refine hs_xPeek k hPA hstop (by omega) (fun x hx => ?_)
  have e21 := hs_rxE (k := 21) hx (Or.inr ⟨Or.inr (Or.inl (by decide)), by decide⟩) (by decide)
  refine br_c (fun q1 => ?_) (fun q1 => H0 (Or.inl (fun y => q1 (e21.mpr y))))
  have h21 := e21.mp q1
  refine pk_eq on 4 (fun q2 => H0 (Or.inr q2)) (fun q2 => ?_)
  have ek : nI k + 1 = nI (k + 1) := nI_1 k
  have ek2 : nI k + 2 = nI (k + 2) := nI_add k 2
  rw [ek, ek2]
  refine hs_xPeek (k + 1) hPA hstop (by omega) (fun x2 hx2 => ?_)
  have e22 := hs_rxE (k := 22) hx2 (Or.inr ⟨Or.inr (Or.inl (by decide)), by decide⟩) (by decide)
  refine br_c (fun q3 => ?_) (fun q3 => ?_)
  · obtain ⟨a, b⟩ := H2 h21 (by omega) (e22.mp q3)
    exact hs_xAddOp a (by omega) hq b
  · obtain ⟨a, b⟩ := H1 h21 (by omega) (fun y => q3 (e22.mpr y))
    refine nm_r (nI_1 on) ?_
    have eo : nI o + 1 = nI (o + 1) := nI_1 o
    rw [eo]
    exact hs_xKeep a (by omega) hq (nm_r (nI_add c (k + 1)) b)
theorem hs_drop1 {t : Nat} {r : List Nat} : (t :: r).drop 1 = r := rfl
theorem hs_wsC {ty n : Nat} (h1 : 2 ≤ ty ∧ ty ≤ 4) (hn : n < 26) : hs_ws (ty + 64 * n) ∧ (ty + 64 * n) % 64 = ty ∧ (ty + 64 * n) / 64 = n := by
  have a : (ty + 64 * n) % 64 = ty := by omega
  have b : (ty + 64 * n) / 64 = n := by omega
  exact ⟨Or.inr (Or.inl ⟨by omega, by omega, by omega⟩), a, b⟩
theorem hs_weC {ty n : Nat} (h1 : 2 ≤ ty ∧ ty ≤ 4) (hn : n < 26) : hs_we (ty + 64 * n) = hs_ce (2 * ty + 3) n := by
  obtain ⟨_, a, b⟩ := hs_wsC h1 hn
  unfold hs_we
  rw [if_neg (by omega), if_pos (by omega), a, b]
/-- a call: the reader has seen what stands before its parenthesis (k tokens), the automaton goes by hs_psh -/
theorem hs_xCallS {pd : Nat → Int32} {pa : Int32} {wt cd : Nat → Int64} {stop c cc k ty n : Nat} {ts st T : List Nat} {w z : Bool} (hPA : hs_PA pd stop c ts) (hk : 1 ≤ k ∧ k ≤ 3) (hty : 2 ≤ ty ∧ ty ≤ 4) (hn : n < 26)
    (hR : ∀ r1, ts.drop k = 21 :: r1 → ¬ hs_fin (ts ++ T) w st ∧ hs_step z (ts ++ T) w st = hs_psh (ty + 64 * n) (r1 ++ T) st)
    (hN : hs_hd (ts.drop k) ≠ 21 → hs_No z T ts w st) (hT : T = [] ∨ ∃ n E, T = 24 :: n :: 26 :: E ∧ hs_isN n = true) (hstop : stop ≤ 400) (hWA : hs_WA wt st) (hon : hs_opn st ≤ 4) (hl : st.length + ts.length ≤ 40) (hc : cc + st.length + ts.length ≤ 443) (hi : w = true → hs_hd ts = 22 → ¬ (2 ≤ hs_hd st % 64 ∧ hs_hd st % 64 ≤ 4))
    {post : Int32 → SX → Prop}
    (Hs : ∀ (ts' : List Nat) (w' : Bool) (st' : List Nat) (e : List (Nat × Nat)) (c' cc' : Nat) (wt' cd' : Nat → Int64), hs_Rr z T ts w st ts' w' st' e → hs_PA pd stop c' ts' → hs_WA wt' st' → hs_opn st' ≤ 4 → cc' = cc + e.length → hs_CA cd' cc e cc' → (∀ k, k < cc → cd' k = cd k) → ts'.length < ts.length → st'.length + ts'.length ≤ st.length + ts.length → cc' + st'.length + ts'.length ≤ cc + st.length + ts.length → (pa ≠ 0 → hs_bot st → hs_bot st') → (w' = true → hs_hd ts' = 22 → ¬ (2 ≤ hs_hd st' % 64 ∧ hs_hd st' % 64 ≤ 4)) → post (hs_xw w') (x_objectLimit, x_stepLimit, x_depthLimit, x_pendingCount, x_keptTokens, x_keptLines, x_lineCount, nI (cc'), nI (c'), nI stop, nI (List.length (st')), nI (hs_opn (st')), x_classCount, x_callCount, x_operandCount, x_stepsTaken, x_error, x_raisedCode, x_printCount, x_lastResult, x_lastPlace, pd, x_lineTable, cd', wt', x_globals, x_entries, x_orders, x_merging, x_letterClass, x_objectClass, x_attributes, x_calls, x_held, x_operands, x_lastPrints))
    (Hb : hs_No z T ts w st → ∀ (q1 q2 q3 q4 : Int32) (wt' cd' : Nat → Int64), (∀ k, k < cc → cd' k = cd k) → post 0 (x_objectLimit, x_stepLimit, x_depthLimit, x_pendingCount, x_keptTokens, x_keptLines, x_lineCount, q4, q1, nI stop, q2, q3, x_classCount, x_callCount, x_operandCount, x_stepsTaken, x_error, x_raisedCode, x_printCount, x_lastResult, x_lastPlace, pd, x_lineTable, cd', wt', x_globals, x_entries, x_orders, x_merging, x_letterClass, x_objectClass, x_attributes, x_calls, x_held, x_operands, x_lastPrints)) :
    wpX_openCall post (x_objectLimit, x_stepLimit, x_depthLimit, x_pendingCount, x_keptTokens, x_keptLines, x_lineCount, nI (cc), nI (c), nI stop, nI (List.length (st)), nI (hs_opn (st)), x_classCount, x_callCount, x_operandCount, x_stepsTaken, x_error, x_raisedCode, x_printCount, x_lastResult, x_lastPlace, pd, x_lineTable, cd, wt, x_globals, x_entries, x_orders, x_merging, x_letterClass, x_objectClass, x_attributes, x_calls, x_held, x_operands, x_lastPrints) (nI (2 * ty + 2)) (nI n) (nI k) := by
  obtain ⟨ws, wm, wd⟩ := hs_wsC hty hn
  refine hs_xOpenCall hPA hstop hk.2 (by omega) (by omega) hon (fun a b d => ?_) (fun a b d => ?_) (fun a => ?_)
  · cases hd : ts.drop k with
    | nil => rw [hd] at a; simp [hs_hd] at a
    | cons y r1 =>
      rw [hd] at a
      have a : y = 21 := a
      subst a
      obtain ⟨nf, st1⟩ := hR r1 hd
      have d2 : ts.drop (k + 1) = r1 := by
        rw [← List.drop_drop, hd]; rfl
      rw [d2] at d
      cases r1 with
      | nil => simp [hs_hd] at d
      | cons y2 r2 =>
        have d : y2 = 22 := d
        subst d
        have hlen : ts.length = k + 2 + r2.length := by
          have := congrArg List.length hd
          rw [List.length_drop] at this
          simp only [List.length_cons] at this
          omega
        refine ⟨by omega, ?_⟩
        have hP2 : hs_PA pd stop (c + (k + 2)) r2 := by
          have := hs_PAdrop (k := k + 2) hPA (by omega)
          have e : ts.drop (k + 2) = r2 := by
            rw [show k + 2 = (k + 1) + 1 from rfl, ← List.drop_drop, d2]; rfl
          rw [e] at this
          exact this
        have e1 : hs_Rr z T ts w st (22 :: r2) true ((ty + 64 * n) :: st) [] := hs_Rr1 nf (st1.trans (hs_pshT b))
        have e2 : hs_Rr z T (22 :: r2) true ((ty + 64 * n) :: st) r2 false st [(2 * ty + 2, n)] := by
          refine hs_Rr1 hs_finW ?_
          show (if 2 ≤ (ty + 64 * n) % 64 ∧ (ty + 64 * n) % 64 ≤ 4 then some (r2 ++ T, false, st, [(2 * ((ty + 64 * n) % 64) + 2, (ty + 64 * n) / 64)]) else none) = _
          rw [wm, wd, if_pos hty]
        exact Hs r2 false st [(2 * ty + 2, n)] _ (cc + 1) wt _ (hs_RrT e1 e2) hP2 hWA hon rfl (hs_CAone (by omega) (by omega)) (fun k hk => pk_uLn (by omega)) (by omega) (by omega) (by omega) (fun _ h => h) (fun y => absurd y (by decide))
  · cases hd : ts.drop k with
    | nil => rw [hd] at a; simp [hs_hd] at a
    | cons y r1 =>
      rw [hd] at a
      have a : y = 21 := a
      subst a
      obtain ⟨nf, st1⟩ := hR r1 hd
      have hlen : ts.length = k + 1 + r1.length := by
        have := congrArg List.length hd
        rw [List.length_drop] at this
        simp only [List.length_cons] at this
        omega
      refine ⟨by omega, ?_⟩
      have d2 : ts.drop (k + 1) = r1 := by
        rw [← List.drop_drop, hd]; rfl
      have hP2 : hs_PA pd stop (c + (k + 1)) r1 := by
        have := hs_PAdrop (k := k + 1) hPA (by omega)
        have e : ts.drop (k + 1) = r1 := by
          rw [← List.drop_drop, hd]; rfl
        rw [e] at this
        exact this
      have e1 : hs_Rr z T ts w st r1 true ((ty + 64 * n) :: st) [] := hs_Rr1 nf (st1.trans (hs_pshT b))
      have := Hs r1 true ((ty + 64 * n) :: st) [] (c + (k + 1)) cc (vp_updL wt st.length (hs_we (ty + 64 * n))) cd e1 hP2 (hs_WApush hWA ws) (by rw [hs_opn1 (by omega)]; omega) rfl rfl (fun _ _ => rfl) (by omega) (by simp only [List.length_cons]; omega) (by simp only [List.length_cons]; omega) (fun _ h => ⟨fun _ => by omega, h⟩) (fun _ y => absurd y (by rw [d2] at d; exact d))
      rw [hs_opn1 (by omega), hs_weC hty hn] at this
      exact this
  · refine Hb ?_ _ _ _ _ _ _ (fun _ _ => rfl)
    by_cases q : hs_hd (ts.drop k) = 21
    · cases hd : ts.drop k with
      | nil => rw [hd] at q; simp [hs_hd] at q
      | cons y r1 =>
        rw [hd] at q
        have q : y = 21 := q
        subst q
        obtain ⟨nf, st1⟩ := hR r1 hd
        have h4 : hs_opn st = 4 := by
          rcases a with a | a
          · rw [hd] at a; exact absurd rfl a
          · exact a
        exact hs_No1 nf (st1.trans (hs_pshF (by omega)))
    · exact hN q
theorem hs_supN {k : Nat} {r st : List Nat} (h : k ≠ 24) : hs_sup (k :: r) st = none := by
  cases r with
  | nil => rfl
  | cons n r =>
    cases r with
    | nil => rfl
    | cons p r => exact if_neg (fun y => h y.1)
theorem hs_hdA {r T : List Nat} {k : Nat} (hT : T = [] ∨ ∃ n E, T = 24 :: n :: 26 :: E ∧ hs_isN n = true) (hk : k ≠ 0) (hk2 : k ≠ 24) : hs_hd (r ++ T) = k ↔ hs_hd r = k := by
  cases r with
  | nil =>
    rcases hT with rfl | ⟨n, E, rfl, _⟩
    · exact Iff.rfl
    · constructor
      · intro h; exact absurd h.symm hk2
      · intro h; exact absurd h.symm hk
  | cons a r => exact Iff.rfl
theorem hs_xOpd {pd : Nat → Int32} {pa : Int32} {wt cd : Nat → Int64} {stop c cc t : Nat} {r st T ts : List Nat} {w z : Bool} (ets : ts = t :: r) (ew : w = true) (hPA : hs_PA pd stop c ts) (htv : t ≠ 0) (hT : T = [] ∨ ∃ n E, T = 24 :: n :: 26 :: E ∧ hs_isN n = true) (hstop : stop ≤ 400) (hWA : hs_WA wt st) (hon : hs_opn st ≤ 4) (hl : st.length + ts.length ≤ 40) (hc : cc + st.length + ts.length ≤ 443) (hi : w = true → hs_hd ts = 22 → ¬ (2 ≤ hs_hd st % 64 ∧ hs_hd st % 64 ≤ 4))
    {post : Int32 → SX → Prop}
    (Hs : ∀ (ts' : List Nat) (w' : Bool) (st' : List Nat) (e : List (Nat × Nat)) (c' cc' : Nat) (wt' cd' : Nat → Int64), hs_Rr z T ts w st ts' w' st' e → hs_PA pd stop c' ts' → hs_WA wt' st' → hs_opn st' ≤ 4 → cc' = cc + e.length → hs_CA cd' cc e cc' → (∀ k, k < cc → cd' k = cd k) → ts'.length < ts.length → st'.length + ts'.length ≤ st.length + ts.length → cc' + st'.length + ts'.length ≤ cc + st.length + ts.length → (pa ≠ 0 → hs_bot st → hs_bot st') → (w' = true → hs_hd ts' = 22 → ¬ (2 ≤ hs_hd st' % 64 ∧ hs_hd st' % 64 ≤ 4)) → post (hs_xw w') (x_objectLimit, x_stepLimit, x_depthLimit, x_pendingCount, x_keptTokens, x_keptLines, x_lineCount, nI (cc'), nI (c'), nI stop, nI (List.length (st')), nI (hs_opn (st')), x_classCount, x_callCount, x_operandCount, x_stepsTaken, x_error, x_raisedCode, x_printCount, x_lastResult, x_lastPlace, pd, x_lineTable, cd', wt', x_globals, x_entries, x_orders, x_merging, x_letterClass, x_objectClass, x_attributes, x_calls, x_held, x_operands, x_lastPrints))
    (Hb : hs_No z T ts w st → ∀ (q1 q2 q3 q4 : Int32) (wt' cd' : Nat → Int64), (∀ k, k < cc → cd' k = cd k) → post 0 (x_objectLimit, x_stepLimit, x_depthLimit, x_pendingCount, x_keptTokens, x_keptLines, x_lineCount, q4, q1, nI stop, q2, q3, x_classCount, x_callCount, x_operandCount, x_stepsTaken, x_error, x_raisedCode, x_printCount, x_lastResult, x_lastPlace, pd, x_lineTable, cd', wt', x_globals, x_entries, x_orders, x_merging, x_letterClass, x_objectClass, x_attributes, x_calls, x_held, x_operands, x_lastPrints)) : wpX_readOperand post (x_objectLimit, x_stepLimit, x_depthLimit, x_pendingCount, x_keptTokens, x_keptLines, x_lineCount, nI (cc), nI (c), nI stop, nI (List.length (st)), nI (hs_opn (st)), x_classCount, x_callCount, x_operandCount, x_stepsTaken, x_error, x_raisedCode, x_printCount, x_lastResult, x_lastPlace, pd, x_lineTable, cd, wt, x_globals, x_entries, x_orders, x_merging, x_letterClass, x_objectClass, x_attributes, x_calls, x_held, x_operands, x_lastPrints) := by
  subst ets ew
  have hP1 : hs_PA pd stop (c + 1) r := hPA.2.2
  have hx0 := hPA.1
  unfold wpX_readOperand
  refine hs_xPeek 0 hPA hstop (by decide) (fun x hx => hs_xPeek 1 hPA hstop (by decide) (fun x1 hx1 => hs_xPeek 2 hPA hstop (by decide) (fun x2 hx2 => ?_)))
  have hx : hs_rx x t := hx
  have hx1 : hs_rx x1 (hs_hd r) := hx1
  have hx2 : hs_rx x2 (hs_hd r.tail) := by
    have e : hs_hd ((t :: r).drop 2) = hs_hd r.tail := by cases r <;> rfl
    rw [e] at hx2; exact hx2
  simp only [List.length_cons] at hl hc
  refine nm_e ?_
  have e21 := hs_rxE (k := 21) hx (Or.inr ⟨Or.inr (Or.inl (by decide)), by decide⟩) (by decide)
  have e12 := hs_rxE (k := 12) hx (Or.inr ⟨Or.inl (by decide), by decide⟩) (by decide)
  have e13 := hs_rxE (k := 13) hx (Or.inr ⟨Or.inl (by decide), by decide⟩) (by decide)
  have elt := hs_rxLt hx
  have e24 := hs_rxE (k := 24) hx1 (Or.inr ⟨Or.inr (Or.inl (by decide)), by decide⟩) (by decide)
  have opd : ∀ u, hs_step z ((t :: r) ++ T) true u = hs_opd t (r ++ T) u := fun u => rfl
  refine br_c (fun q1 => ?_) (fun q1 => ?_)
  · have et := e21.mp q1
    subst et
    unfold wpX_openGroup
    refine pk_eq (hs_opn st) 4 (fun h4 => ?_) (fun h4 => ?_)
    · exact Hb (hs_No1 hs_finW (hs_pshF (s := 1) (by omega))) _ _ _ _ _ _ (fun _ _ => rfl)
    · refine nm_r (nI_1 _) (hs_xKeep (o := 0) (q := 0) (by omega) (by decide) (by decide) (nm_r (nI_1 c) ?_))
      have := Hs r true (1 :: st) [] (c + 1) cc (vp_updL wt st.length (hs_we 1)) cd (hs_Rr1 hs_finW (hs_pshT (s := 1) (by omega))) hP1 (hs_WApush hWA (Or.inl rfl)) (by rw [hs_opn1 (by decide)]; omega) rfl rfl (fun _ _ => rfl) (by simp) (by simp only [List.length_cons]; omega) (by simp only [List.length_cons]; omega) (fun _ h => ⟨fun _ => by decide, h⟩) (fun _ _ => by show ¬ (2 ≤ 1 % 64 ∧ 1 % 64 ≤ 4); decide)
      rw [hs_opn1 (by decide)] at this
      exact this
  · have n21 : t ≠ 21 := fun y => q1 (e21.mpr y)
    refine br_c (fun q2 => ?_) (fun q2 => ?_)
    · have lt := elt.mp q2
      have nb : ¬ 1000 ≤ t := by omega
      refine br_c (fun q3 => ?_) (fun q3 => ?_)
      · have et := e12.mp q3
        subst et
        refine hs_xAddOp (o := 3) (q := 0) (n := 1) (by omega) (by decide) (by decide) ?_
        exact Hs r false st [(3, 0)] (c + 1) (cc + 1) wt _ (hs_Rr1 hs_finW rfl) hP1 hWA hon rfl (hs_CAone (by decide) (by decide)) (fun k hk => pk_uLn (by omega)) (by simp) (by simp only [List.length_cons]; omega) (by simp only [List.length_cons]; omega) (fun _ h => h) (fun y => absurd y (by decide))
      · have n12 : t ≠ 12 := fun y => q3 (e12.mpr y)
        refine hs_xFromN hx (fun hn ex => br_f (by decide) ?_) (fun hn => br_t rfl ?_)
        · have hn' := hs_tkN hn
          subst ex
          have e100 : nI t - 100 = nI (t - 100) := pk_sub (b := 100) (by omega)
          rw [e100]
          refine hs_xAddOp (o := 2) (q := t - 100) (n := 1) (by omega) (by decide) (by omega) ?_
          have E : hs_step z ((t :: r) ++ T) true st = some (r ++ T, false, st, [(2, t - 100)]) := by
            rw [opd]; unfold hs_opd
            rw [if_neg nb, if_neg n12, if_pos hn]
          exact Hs r false st [(2, t - 100)] (c + 1) (cc + 1) wt _ (hs_Rr1 hs_finW E) hP1 hWA hon rfl (hs_CAone (by decide) (by omega)) (fun k hk => pk_uLn (by omega)) (by simp) (by simp only [List.length_cons]; omega) (by simp only [List.length_cons]; omega) (fun _ h => h) (fun y => absurd y (by decide))
        · -- a class, or super, or nothing
          have cls : (t = 13 → hs_step z ((t :: r) ++ T) true st = none) → wX_readOperand_122 post x x1 x2 (x - 130) x_objectLimit x_stepLimit x_depthLimit x_pendingCount x_keptTokens x_keptLines x_lineCount (nI (cc)) (nI (c)) (nI stop) (nI (List.length (st))) (nI (hs_opn (st))) x_classCount x_callCount x_operandCount x_stepsTaken x_error x_raisedCode x_printCount x_lastResult x_lastPlace pd x_lineTable cd wt x_globals x_entries x_orders x_merging x_letterClass x_objectClass x_attributes x_calls x_held x_operands x_lastPrints := by
            intro n13
            unfold wX_readOperand_122
            refine hs_xFromC hx (fun hc1 ex => br_f (by decide) ?_) (fun hc1 => br_t rfl ?_)
            · have hc' := hs_tkC hc1
              subst ex
              have e130 : nI t - 130 = nI (t - 130) := pk_sub (b := 130) (by omega)
              rw [e130]
              have E0 : hs_step z ((t :: r) ++ T) true st = hs_cls t (r ++ T) st := by
                rw [opd]; unfold hs_opd
                rw [if_neg nb, if_neg n12, if_neg (by rw [hn]; decide), if_neg n21, if_pos hc1]
              have new : (hs_hd r ≠ 24 ∨ hs_isN (hs_hd r.tail) = false) → wX_readOperand_166 post (nI (t - 130)) x_objectLimit x_stepLimit x_depthLimit x_pendingCount x_keptTokens x_keptLines x_lineCount (nI (cc)) (nI (c)) (nI stop) (nI (List.length (st))) (nI (hs_opn (st))) x_classCount x_callCount x_operandCount x_stepsTaken x_error x_raisedCode x_printCount x_lastResult x_lastPlace pd x_lineTable cd wt x_globals x_entries x_orders x_merging x_letterClass x_objectClass x_attributes x_calls x_held x_operands x_lastPrints := by
                intro hcase
                unfold wX_readOperand_166
                refine hs_xCallS (k := 1) (ty := 4) (n := t - 130) (ts := t :: r) (w := true) (z := z) (T := T) (pa := pa) hPA (by decide) (by decide) (by omega) (fun r1 hd => ⟨hs_finW, ?_⟩) (fun hd => ?_) hT hstop hWA hon (by simp only [List.length_cons]; omega) (by simp only [List.length_cons]; omega) hi Hs Hb
                · have hd : r = 21 :: r1 := hd
                  subst hd
                  exact E0
                · have hd : hs_hd r ≠ 21 := hd
                  cases r with
                  | nil =>
                    rcases hT with rfl | ⟨n, E, rfl, hN⟩
                    · exact hs_No1 hs_finW E0
                    · have E1 : hs_step z ((t :: []) ++ 24 :: n :: 26 :: E) true st = some (26 :: E, false, st, [(5, (t - 130) * 26 + (n - 100))]) := E0.trans (if_pos ⟨hN, by show 26 ≠ 21; decide⟩)
                      intro cd fs h
                      obtain ⟨_, _, h⟩ := (hs_Sstep hs_finW E1).mp h
                      exact hs_Sop (by decide) (by decide) (by decide) (by decide) _ _ _ _ h
                  | cons k r1 =>
                    have hd : k ≠ 21 := hd
                    by_cases k24 : k = 24
                    · subst k24
                      have hnn : hs_isN (hs_hd r1) = false := by
                        rcases hcase with q | q
                        · exact absurd rfl q
                        · exact q
                      refine hs_No1 hs_finW (E0.trans ?_)
                      cases r1 with
                      | nil =>
                        rcases hT with rfl | ⟨n, E, rfl, hN⟩
                        · rfl
                        · show (if hs_isN 24 = true ∧ hs_hd (n :: 26 :: E) ≠ 21 then some (n :: 26 :: E, false, st, [(5, (t - 130) * 26 + (24 - 100))]) else none) = (none : hs_R)
                          exact if_neg (fun y => absurd y.1 (by decide))
                      | cons n r2 =>
                        have hnn : hs_isN n = false := hnn
                        exact if_neg (fun y => by rw [hnn] at y; exact absurd y.1 (by decide))
                    · refine hs_No1 hs_finW (E0.trans ?_)
                      show (if k = 21 then _ else if k = 24 then _ else none) = none
                      rw [if_neg hd, if_neg k24]
              refine br_c (fun q4 => ?_) (fun q4 => new (Or.inl (fun y => q4 (e24.mpr y))))
              have h24 := e24.mp q4
              refine hs_xFromN hx2 (fun hn2 ex2 => br_f (by decide) ?_) (fun hn2 => br_t rfl (new (Or.inr hn2)))
              cases r with
              | nil => simp [hs_hd] at h24
              | cons k r1 =>
                have h24 : k = 24 := h24
                subst h24
                cases r1 with
                | nil => simp [hs_hd, hs_isN] at hn2
                | cons n r2 =>
                  have hn2 : hs_isN n = true := hn2
                  have hn2' := hs_tkN hn2
                  have ex2 : x2 = nI n := ex2
                  subst ex2
                  have ep : nI (t - 130) * 26 + nI n - 100 = nI ((t - 130) * 26 + (n - 100)) := by
                    show nI (t - 130) * nI 26 + nI n - nI 100 = _
                    rw [pk_mul, nI_add, pk_sub (by omega)]
                    exact congrArg nI (by omega)
                  rw [ep]
                  simp only [List.length_cons] at hl hc
                  refine hs_xAddOp (o := 5) (q := (t - 130) * 26 + (n - 100)) (n := 3) (by omega) (by decide) (by omega) ?_
                  have hP3 : hs_PA pd stop (c + 3) r2 := hP1.2.2.2.2
                  refine Hs r2 false st [(5, (t - 130) * 26 + (n - 100))] (c + 3) (cc + 1) wt _ ?_ hP3 hWA hon rfl (hs_CAone (by decide) (by omega)) (fun k hk => pk_uLn (by omega)) (by simp only [List.length_cons]; omega) (by simp only [List.length_cons]; omega) (by simp only [List.length_cons]; omega) (fun _ h => h) (fun y => absurd y (by decide))
                  by_cases h21 : hs_hd (r2 ++ T) = 21
                  · -- the automaton stops here, the reader at the next turn
                    have E1 : hs_step z ((t :: 24 :: n :: r2) ++ T) true st = none := E0.trans (if_neg (fun y => y.2 h21))
                    have N1 : hs_No z T (t :: 24 :: n :: r2) true st := hs_No1 hs_finW E1
                    have N2 : hs_No z T r2 false st := by
                      have := (hs_hdA (r := r2) hT (k := 21) (by decide) (by decide)).mp h21
                      cases r2 with
                      | nil => simp [hs_hd] at this
                      | cons a r3 =>
                        have : a = 21 := this
                        subst this
                        intro cd fs
                        exact hs_Sop (by decide) (by decide) (by decide) (by decide) _ _ _ _
                    exact fun cd fs => ⟨fun h => absurd h (N1 _ _), fun ⟨_, _, h⟩ => absurd h (N2 _ _)⟩
                  · have E1 : hs_step z ((t :: 24 :: n :: r2) ++ T) true st = some (r2 ++ T, false, st, [(5, (t - 130) * 26 + (n - 100))]) := E0.trans (if_pos ⟨hn2, h21⟩)
                    exact hs_Rr1 hs_finW E1
            · refine Hb (hs_No1 hs_finW ?_) _ _ _ _ _ _ (fun _ _ => rfl)
              rw [opd]; unfold hs_opd
              by_cases t13 : t = 13
              · have := n13 t13
                rw [opd] at this; unfold hs_opd at this
                exact this
              rw [if_neg nb, if_neg n12, if_neg (by rw [hn]; decide), if_neg n21, if_neg (by rw [hc1]; decide), if_neg t13]
              by_cases t22 : t = 22
              · rw [if_pos t22]
                have hi := hi rfl t22
                cases st with
                | nil => rfl
                | cons s st1 => exact if_neg hi
              · rw [if_neg t22]
          refine br_c (fun q5 => ?_) (fun q5 => cls (fun y => absurd (e13.mpr y) q5))
          have et := e13.mp q5
          subst et
          have S0 : hs_step z ((13 :: r) ++ T) true st = hs_sup (r ++ T) st := rfl
          refine br_c (fun q6 => ?_) (fun q6 => cls (fun _ => S0.trans ?_))
          · have h24 := e24.mp q6
            refine hs_xFromN hx2 (fun hn2 ex2 => br_f (by decide) ?_) (fun hn2 => br_t rfl (cls (fun _ => S0.trans ?_)))
            · cases r with
              | nil => simp [hs_hd] at h24
              | cons k r1 =>
                have h24 : k = 24 := h24
                subst h24
                cases r1 with
                | nil => simp [hs_hd, hs_isN] at hn2
                | cons n r2 =>
                  have hn2 : hs_isN n = true := hn2
                  have hn2' := hs_tkN hn2
                  have ex2 : x2 = nI n := ex2
                  subst ex2
                  have ep : nI n - 100 = nI (n - 100) := pk_sub (b := 100) (by omega)
                  rw [ep]
                  refine hs_xCallS (k := 3) (ty := 3) (n := n - 100) (ts := 13 :: 24 :: n :: r2) (w := true) (z := z) (T := T) (pa := pa) hPA (by decide) (by decide) (by omega) (fun r1 hd => ⟨hs_finW, ?_⟩) (fun hd => hs_No1 hs_finW (S0.trans ?_)) hT hstop hWA hon (by simp only [List.length_cons] at *; omega) (by simp only [List.length_cons] at *; omega) hi Hs Hb
                  · have hd : r2 = 21 :: r1 := hd
                    subst hd
                    exact S0.trans (if_pos ⟨rfl, hn2, rfl⟩)
                  · have hd : hs_hd r2 ≠ 21 := hd
                    cases r2 with
                    | nil =>
                      rcases hT with rfl | ⟨m, E, rfl, hN⟩
                      · rfl
                      · exact if_neg (fun y => absurd y.2.2 (by decide))
                    | cons a r3 => exact if_neg (fun y => hd y.2.2)
            · cases r with
              | nil => simp [hs_hd] at h24
              | cons k r1 =>
                cases r1 with
                | nil =>
                  rcases hT with rfl | ⟨m, E, rfl, hN⟩
                  · rfl
                  · exact if_neg (fun y => absurd y.2.1 (by decide))
                | cons n r2 =>
                  have hn3 : hs_isN n = false := hn2
                  cases r2 with
                  | nil =>
                    rcases hT with rfl | ⟨m, E, rfl, hN⟩
                    · rfl
                    · exact if_neg (fun y => by rw [hn3] at y; exact absurd y.2.1 (by decide))
                  | cons a r3 => exact if_neg (fun y => by rw [hn3] at y; exact absurd y.2.1 (by decide))
          · have h24 : hs_hd r ≠ 24 := fun y => q6 (e24.mpr y)
            cases r with
            | nil =>
              rcases hT with rfl | ⟨m, E, rfl, hN⟩
              · rfl
              · cases E with
                | nil => exact if_neg (fun y => absurd y.2.2 (by decide))
                | cons a E => exact if_neg (fun y => absurd y.2.2 (by decide))
            | cons k r1 =>
              exact hs_supN (r := r1 ++ T) h24
    · have nb : 1000 ≤ t := by
        have : ¬ t < 1000 := fun y => q2 (elt.mpr y)
        omega
      have ex : x = nI t ∧ t < 2 ^ 31 := by
        rcases hx with ⟨_, h⟩ | ⟨h, _, _, h2⟩ | ⟨h, _, _⟩
        · omega
        · exact ⟨h, h2⟩
        · omega
      obtain ⟨rfl, h31⟩ := ex
      have e1000 : nI t - 1000 = nI (t - 1000) := pk_sub (b := 1000) nb
      rw [e1000]
      refine hs_xAddOp (o := 1) (q := t - 1000) (n := 1) (by omega) (by decide) (by omega) ?_
      exact Hs r false st [(1, t - 1000)] (c + 1) (cc + 1) wt _ (hs_Rr1 hs_finW (if_pos nb)) hP1 hWA hon rfl (hs_CAone (by decide) (by omega)) (fun k hk => pk_uLn (by omega)) (by simp) (by simp only [List.length_cons]; omega) (by simp only [List.length_cons]; omega) (fun _ h => h) (fun y => absurd y (by decide))
end
end
section
/-! X's reader where an operator is looked for; the whole expression -/
theorem hs_noSet {z : Bool} : ∀ (m : Nat) (ts : List Nat) (w : Bool) (st : List Nat), 26 ∈ ts → ((∃ s0 pre, st = pre ++ [s0] ∧ 27 ≤ s0 % 64) ∨ (w = false ∧ st = [] ∧ hs_hd ts ≠ 24)) → ∀ (cd : List (Nat × Nat)) (fs : List Nat), ¬ hs_run m z ts w st cd [] fs := by
  intro m
  induction m with
  | zero => intro ts w st _ _ cd fs h; exact h
  | succ m ih =>
    intro ts w st h26 J cd fs h
    rcases h with ⟨_, _, e, _⟩ | ⟨nf, ts', w', st', e, cd', E, _, h⟩
    · rw [← e] at h26; cases h26
    refine ih ts' w' st' ?_ ?_ cd' fs h
    all_goals clear ih h
    · cases w with
      | true =>
        cases ts with
        | nil => cases E
        | cons t r =>
          have E : hs_opd t r st = some (ts', w', st', e) := E
          have key : ∀ a l, 26 ∈ a :: l → a ≠ 26 → 26 ∈ l := by
            intro a l q1 q2
            rcases List.mem_cons.mp q1 with q | q
            · exact absurd q.symm q2
            · exact q
          unfold hs_opd hs_cls hs_sup hs_cl0 at E
          split at E
          · cases E; exact key _ _ h26 (by omega)
          split at E
          · cases E; exact key _ _ h26 (by omega)
          split at E
          · rename_i hn; cases E; exact key _ _ h26 (by have := hs_tkN hn; omega)
          split at E
          · obtain ⟨_, e'⟩ := hs_pshE E; cases e'; exact key _ _ h26 (by omega)
          split at E
          · rename_i hc
            have h1 := key _ _ h26 (by have := hs_tkC hc; omega)
            cases r with
            | nil => cases E
            | cons k r1 =>
              simp only at E
              split at E
              · obtain ⟨_, e'⟩ := hs_pshE E; cases e'; exact key _ _ h1 (by omega)
              split at E
              · cases r1 with
                | nil => cases E
                | cons n r2 =>
                  simp only at E
                  split at E
                  · rename_i hn; cases E; exact key _ _ (key _ _ h1 (by omega)) (by have := hs_tkN hn.1; omega)
                  · cases E
              · cases E
          split at E
          · have h1 := key _ _ h26 (by omega)
            split at E
            · split at E
              · rename_i hh
                obtain ⟨_, e'⟩ := hs_pshE E; cases e'; exact key _ _ (key _ _ (key _ _ h1 (by omega)) (by have := hs_tkN hh.2.1; omega)) (by omega)
              · cases E
            · cases E
          split at E
          · have h1 := key _ _ h26 (by omega)
            split at E
            · split at E
              · cases E; exact h1
              · cases E
            · cases E
          · cases E
      | false =>
        have E : hs_opr z ts st = some (ts', w', st', e) := E
        have key : ∀ a l, 26 ∈ a :: l → a ≠ 26 → 26 ∈ l := by
          intro a l q1 q2
          rcases List.mem_cons.mp q1 with q | q
          · exact absurd q.symm q2
          · exact q
        unfold hs_opr at E
        split at E
        · cases E; exact h26
        cases ts with
        | nil => cases E
        | cons t r =>
          simp only at E
          unfold hs_opr1 hs_dot hs_cl1 at E
          split at E
          · rename_i hr
            have := hs_rank27 hr
            split at E
            · cases E
            · cases E; exact key _ _ h26 (by omega)
          split at E
          · rename_i t24
            have h1 := key _ _ h26 (by omega)
            cases r with
            | nil => cases E
            | cons n r1 =>
              simp only at E
              split at E
              · rename_i hn
                have h2 := key _ _ h1 (by have := hs_tkN hn; omega)
                split at E
                · rename_i h21
                  obtain ⟨_, e'⟩ := hs_pshE E; cases e'
                  cases r1 with
                  | nil => cases h2
                  | cons a r2 => exact key _ _ h2 (by have : a = 21 := h21; omega)
                split at E
                · rename_i hs
                  exfalso
                  rcases J with ⟨s0, pre, e1, _⟩ | ⟨_, _, q⟩
                  · rw [hs.2.2] at e1
                    cases pre <;> cases e1
                  · exact q t24
                · cases E; exact h2
              · cases E
          split at E
          · have h1 := key _ _ h26 (by omega)
            split at E
            · split at E
              · cases E; exact h1
              split at E
              · cases E; exact h1
              · cases E
            · cases E
          · cases E
    · have bot : ∀ s : Nat, (∃ s0 pre, st = pre ++ [s0] ∧ 27 ≤ s0 % 64) → ∃ s0 pre, s :: st = pre ++ [s0] ∧ 27 ≤ s0 % 64 := by
        rintro s ⟨s0, pre, rfl, h⟩
        exact ⟨s0, s :: pre, rfl, h⟩
      have pop : ∀ s st1, st = s :: st1 → (∃ s0 pre, st = pre ++ [s0] ∧ 27 ≤ s0 % 64) → s % 64 < 27 → ∃ s0 pre, st1 = pre ++ [s0] ∧ 27 ≤ s0 % 64 := by
        rintro s st1 rfl ⟨s0, pre, e1, h⟩ hs
        cases pre with
        | nil =>
          cases e1
          omega
        | cons a pre =>
          cases e1
          exact ⟨s0, pre, rfl, h⟩
      cases w with
      | true =>
        have J1 : ∃ s0 pre, st = pre ++ [s0] ∧ 27 ≤ s0 % 64 := by
          rcases J with J | J
          · exact J
          · exact absurd J.1 (by decide)
        left
        cases ts with
        | nil => cases E
        | cons t r =>
          have E : hs_opd t r st = some (ts', w', st', e) := E
          unfold hs_opd hs_cls hs_sup hs_cl0 at E
          split at E
          · cases E; exact J1
          split at E
          · cases E; exact J1
          split at E
          · cases E; exact J1
          split at E
          · obtain ⟨_, e'⟩ := hs_pshE E; cases e'; exact bot _ J1
          split at E
          · cases r with
            | nil => cases E
            | cons k r1 =>
              simp only at E
              split at E
              · obtain ⟨_, e'⟩ := hs_pshE E; cases e'; exact bot _ J1
              split at E
              · cases r1 with
                | nil => cases E
                | cons n r2 =>
                  simp only at E
                  split at E
                  · cases E; exact J1
                  · cases E
              · cases E
          split at E
          · split at E
            · split at E
              · obtain ⟨_, e'⟩ := hs_pshE E; cases e'; exact bot _ J1
              · cases E
            · cases E
          split at E
          · split at E
            · split at E
              · cases E; exact pop _ _ rfl J1 (by omega)
              · cases E
            · cases E
          · cases E
      | false =>
        have E : hs_opr z ts st = some (ts', w', st', e) := E
        unfold hs_opr at E
        split at E
        · rename_i hc
          cases E
          cases st with
          | nil => simp [hs_hd] at hc
          | cons s st1 =>
            rcases J with ⟨s0, pre, e1, h⟩ | ⟨_, q, _⟩
            · cases pre with
              | nil =>
                cases e1
                exact Or.inr ⟨rfl, rfl, hc.2.1⟩
              | cons a pre =>
                cases e1
                exact Or.inl ⟨s0, pre, rfl, h⟩
            · cases q
        cases ts with
        | nil => cases E
        | cons t r =>
          simp only at E
          unfold hs_opr1 hs_dot hs_cl1 at E
          split at E
          · rename_i hr
            have h27 := hs_rank27 hr
            split at E
            · cases E
            · cases E
              rcases J with J | ⟨_, q, _⟩
              · exact Or.inl (bot _ J)
              · subst q
                exact Or.inl ⟨t, [], rfl, by omega⟩
          split at E
          · rename_i t24
            have J1 : ∃ s0 pre, st = pre ++ [s0] ∧ 27 ≤ s0 % 64 := by
              rcases J with J | ⟨_, _, q⟩
              · exact J
              · exact absurd t24 q
            left
            cases r with
            | nil => cases E
            | cons n r1 =>
              simp only at E
              split at E
              · split at E
                · obtain ⟨_, e'⟩ := hs_pshE E; cases e'; exact bot _ J1
                split at E
                · rename_i hs
                  obtain ⟨s0, pre, e1, _⟩ := J1
                  rw [hs.2.2] at e1
                  cases pre <;> cases e1
                · cases E; exact J1
              · cases E
          split at E
          · cases st with
            | nil => cases E
            | cons s st1 =>
              simp only at E
              have J1 : ∃ s0 pre, s :: st1 = pre ++ [s0] ∧ 27 ≤ s0 % 64 := by
                rcases J with J | ⟨_, q, _⟩
                · exact J
                · cases q
              split at E
              · cases E; exact Or.inl (pop _ _ rfl J1 (by omega))
              split at E
              · cases E; exact Or.inl (pop _ _ rfl J1 (by omega))
              · cases E
          · cases E
end
section
/-! X's reader: an operator's turn -/
section
variable {x_objectLimit x_stepLimit x_depthLimit x_pendingCount x_keptTokens x_keptLines x_lineCount x_codeCount x_cursor x_stop x_waitingCount x_openCount x_classCount x_callCount x_operandCount x_stepsTaken x_error x_raisedCode x_printCount x_lastPlace : Int32} {x_lastResult : Int64} {x_pending x_lineTable x_orders x_merging x_letterClass x_objectClass x_calls x_lastPrints : Nat → Int32} {x_code x_waiting x_globals x_entries x_attributes x_held x_operands : Nat → Int64}
variable {y_maxObjects y_maxSteps y_maxDepth y_kept y_end y_tokens y_pending y_lines y_classes y_prints y_place y_steps y_d y_valTop y_opTop y_opens y_pos y_tk y_tv y_stmt y_target y_err y_code y_outcome y_dry y_want y_starting y_ended y_bad y_hosted y_sawSuper : Int32} {y_result : Int64} {y_text y_numbers y_classOf y_alive y_orders y_lengths y_letters y_bases y_ops y_fLine y_fPos y_fStmt y_fTarget y_fMask y_fHome y_fOps y_fVals y_fNew y_out : Nat → Int32} {y_globals y_entries y_attrs y_vals y_locals y_fRecv : Nat → Int64}
theorem hs_step25 {z : Bool} {t : Nat} {r st : List Nat} (h : t ≠ 25) : ¬ hs_fin (t :: r) false st := by
  intro y
  rcases y.2.1 with q | q
  · cases q
  · exact h q
theorem hs_oprE {z : Bool} {t : Nat} {r st : List Nat} (c : ¬ (27 ≤ hs_hd st % 64 ∧ t ≠ 24 ∧ hs_rank t ≤ hs_rank (hs_hd st % 64) ∧ ¬ (hs_rank t = 1 ∧ hs_rank (hs_hd st % 64) = 1))) : hs_step z (t :: r) false st = hs_opr1 z t r st := by
  show hs_opr z (t :: r) st = _
  unfold hs_opr
  exact if_neg c
theorem hs_dotE {z : Bool} {r st : List Nat} : hs_step z (24 :: r) false st = hs_dot z r st := by
  rw [hs_oprE (fun y => y.2.1 rfl)]
  rfl
theorem hs_S25 {z : Bool} {r : List Nat} : ∀ (st : List Nat) (cd : List (Nat × Nat)) (fs : List Nat), ¬ hs_S z (25 :: r) false st cd [] fs := by
  intro st
  induction st with
  | nil =>
    intro cd fs h
    have := ((hs_Sfin (ts := 25 :: r) (w := false) (st := []) ⟨rfl, Or.inr rfl, by decide, by decide⟩).mp h).2.1
    cases this
  | cons s st ih =>
    intro cd fs h
    by_cases hc : 27 ≤ s % 64
    · have E : hs_step z (25 :: r) false (s :: st) = some (25 :: r, false, st, [(s % 64, 0)]) := by
        show hs_opr z (25 :: r) (s :: st) = _
        unfold hs_opr
        rw [if_pos (show 27 ≤ hs_hd (s :: st) % 64 ∧ hs_hd (25 :: r) ≠ 24 ∧ hs_rank (hs_hd (25 :: r)) ≤ hs_rank (hs_hd (s :: st) % 64) ∧ ¬ (hs_rank (hs_hd (25 :: r)) = 1 ∧ hs_rank (hs_hd (s :: st) % 64) = 1) from ⟨hc, by show 25 ≠ 24; decide, Nat.zero_le _, fun y => absurd y.1 (by show ¬ hs_rank 25 = 1; decide)⟩)]
        rfl
      obtain ⟨_, _, h⟩ := (hs_Sstep (ts := 25 :: r) (st := s :: st) (fun y => y.2.2.1 hc) E).mp h
      exact ih _ _ h
    · by_cases hf : hs_fin (25 :: r) false (s :: st)
      · have := ((hs_Sfin hf).mp h).2.1
        cases this
      · refine hs_Sbad hf ?_ h
        rw [hs_oprE (st := s :: st) (fun y => hc y.1)]
        unfold hs_opr1
        rw [if_neg (by decide), if_neg (by decide), if_neg (by decide)]
theorem hs_wsR {s : Nat} (h : hs_ws s) (h0 : hs_rank (s % 64) = 0) : 1 ≤ s % 64 ∧ s % 64 ≤ 4 := by
  rcases h with rfl | ⟨a, b, _⟩ | ⟨a, b⟩
  · decide
  · omega
  · have : s % 64 = s := Nat.mod_eq_of_lt (by omega)
    rw [this] at h0
    unfold hs_rank at h0
    split at h0
    · cases h0
    · split at h0
      · cases h0
      · split at h0
        · cases h0
        · omega
/-- no token 26 in the list (X has cut it off) -/
theorem hs_xOpr {pd : Nat → Int32} {wt cd : Nat → Int64} {stop c cc t : Nat} {r st T ts : List Nat} {w z : Bool} {pa : Int32} (ets : ts = t :: r) (ew : w = false) (hPA : hs_PA pd stop c ts) (h26 : z = true → 26 ∉ ts) (hpa : pa = 0 ∨ (T ≠ [] ∧ hs_bot st)) (hT : T = [] ∨ ∃ n E, T = 24 :: n :: 26 :: E ∧ hs_isN n = true) (hstop : stop ≤ 400) (hWA : hs_WA wt st) (hon : hs_opn st ≤ 4) (hl : st.length + ts.length ≤ 40) (hc : cc + st.length + ts.length ≤ 443) (hi : w = true → hs_hd ts = 22 → ¬ (2 ≤ hs_hd st % 64 ∧ hs_hd st % 64 ≤ 4))
    {post : Int32 → SX → Prop}
    (Hs : ∀ (ts' : List Nat) (w' : Bool) (st' : List Nat) (e : List (Nat × Nat)) (c' cc' : Nat) (wt' cd' : Nat → Int64), hs_Rr z T ts w st ts' w' st' e → hs_PA pd stop c' ts' → hs_WA wt' st' → hs_opn st' ≤ 4 → cc' = cc + e.length → hs_CA cd' cc e cc' → (∀ k, k < cc → cd' k = cd k) → ts'.length < ts.length → st'.length + ts'.length ≤ st.length + ts.length → cc' + st'.length + ts'.length ≤ cc + st.length + ts.length → (pa ≠ 0 → hs_bot st → hs_bot st') → (w' = true → hs_hd ts' = 22 → ¬ (2 ≤ hs_hd st' % 64 ∧ hs_hd st' % 64 ≤ 4)) → post (hs_xw w') (x_objectLimit, x_stepLimit, x_depthLimit, x_pendingCount, x_keptTokens, x_keptLines, x_lineCount, nI (cc'), nI (c'), nI stop, nI (List.length (st')), nI (hs_opn (st')), x_classCount, x_callCount, x_operandCount, x_stepsTaken, x_error, x_raisedCode, x_printCount, x_lastResult, x_lastPlace, pd, x_lineTable, cd', wt', x_globals, x_entries, x_orders, x_merging, x_letterClass, x_objectClass, x_attributes, x_calls, x_held, x_operands, x_lastPrints))
    (Hb : hs_No z T ts w st → ∀ (q1 q2 q3 q4 : Int32) (wt' cd' : Nat → Int64), (∀ k, k < cc → cd' k = cd k) → post 0 (x_objectLimit, x_stepLimit, x_depthLimit, x_pendingCount, x_keptTokens, x_keptLines, x_lineCount, q4, q1, nI stop, q2, q3, x_classCount, x_callCount, x_operandCount, x_stepsTaken, x_error, x_raisedCode, x_printCount, x_lastResult, x_lastPlace, pd, x_lineTable, cd', wt', x_globals, x_entries, x_orders, x_merging, x_letterClass, x_objectClass, x_attributes, x_calls, x_held, x_operands, x_lastPrints)) : wpX_readOperator post (x_objectLimit, x_stepLimit, x_depthLimit, x_pendingCount, x_keptTokens, x_keptLines, x_lineCount, nI (cc), nI (c), nI stop, nI (List.length (st)), nI (hs_opn (st)), x_classCount, x_callCount, x_operandCount, x_stepsTaken, x_error, x_raisedCode, x_printCount, x_lastResult, x_lastPlace, pd, x_lineTable, cd, wt, x_globals, x_entries, x_orders, x_merging, x_letterClass, x_objectClass, x_attributes, x_calls, x_held, x_operands, x_lastPrints) pa := by
  subst ets ew
  have hP1 : hs_PA pd stop (c + 1) r := hPA.2.2
  unfold wpX_readOperator
  refine hs_xPeek 0 hPA hstop (by decide) (fun x hx => hs_xPeek 1 hPA hstop (by decide) (fun x1 hx1 => ?_))
  have hx : hs_rx x t := hx
  have hx1 : hs_rx x1 (hs_hd r) := hx1
  simp only [List.length_cons] at hl hc
  have e24 := hs_rxE (k := 24) hx (Or.inr ⟨Or.inr (Or.inl (by decide)), by decide⟩) (by decide)
  have e22 := hs_rxE (k := 22) hx (Or.inr ⟨Or.inr (Or.inl (by decide)), by decide⟩) (by decide)
  -- not a dot with a name
  have rest : (t = 24 → hs_No z T (t :: r) false st) → wX_readOperator_62 post pa x x_objectLimit x_stepLimit x_depthLimit x_pendingCount x_keptTokens x_keptLines x_lineCount (nI (cc)) (nI (c)) (nI stop) (nI (List.length (st))) (nI (hs_opn (st))) x_classCount x_callCount x_operandCount x_stepsTaken x_error x_raisedCode x_printCount x_lastResult x_lastPlace pd x_lineTable cd wt x_globals x_entries x_orders x_merging x_letterClass x_objectClass x_attributes x_calls x_held x_operands x_lastPrints := by
    intro h24
    unfold wX_readOperator_62
    refine br_c (fun q1 => ?_) (fun q1 => ?_)
    · have et := e22.mp q1
      subst et
      refine hs_xSettle (r := 1) (by decide) (by decide) hWA (by omega) (by omega) (fun cd' c1 c2 => ?_)
      have R1 := hs_Sstl (z := z) (T := T) (ts := 22 :: r) (r := 1) (by decide) (by show 22 ≠ 24; decide) (Or.inr ⟨by show hs_rank 22 ≠ 1; decide, by show hs_rank 22 ≤ 1; decide⟩) st
      have W1 := hs_WAstl (r := 1) hWA
      have L1 := hs_stlLen 1 st
      have O1 := hs_stlOpn (r := 1) (by decide) st
      have T1 := hs_stlTop 1 st
      generalize hsr : hs_stl 1 st = sr at *
      obtain ⟨em, st2⟩ := sr
      simp only at *
      have hop := hs_oprE (z := z) (t := 22) (r := r ++ T) (st := st2) (fun y => by
        rcases T1 with q | q
        · rw [q] at y; exact absurd y.1 (by decide)
        · have w0 : hs_ws (hs_hd st2) := by
            cases st2 with
            | nil => exact absurd y.1 (by decide)
            | cons s r => exact W1.2.1
          have := hs_wsR w0 (by omega)
          omega)
      unfold wpX_closeParenthesis
      cases st2 with
      | nil =>
        refine br_t rfl (Hb (hs_RrN R1 (hs_No1 (hs_step25 (z := z) (by decide)) hop)) _ _ _ _ _ _ c2)
      | cons s st3 =>
        obtain ⟨w1, w2, w3⟩ := W1
        obtain ⟨o, q, e1, e2, e3, e4, e5, e6, e7⟩ := hs_weOp w2
        simp only [List.length_cons] at L1
        have hs0 : hs_rank (s % 64) = 0 := by
          rcases T1 with q | q
          · cases q
          · have : hs_rank (s % 64) < 1 := q
            omega
        have hty := hs_wsR w2 hs0
        have O2 : hs_opn (s :: st3) = hs_opn st3 + 1 := hs_opn1 hty
        refine br_f (nI_ne0 (by simp) (by simp only [List.length_cons]; omega)) (nm_r (nI_pred st3.length) (nm_r (show nI (hs_opn st) - 1 = nI (hs_opn st3) by rw [← O1, O2, nI_pred]) (And.intro (vp_in_nI (by omega) (by decide)) ?_)))
        rw [nI_clamp (show st3.length < 2 ^ 31 by omega), w1, e1]
        refine nm_e ?_
        rw [hs_ceOp e2 e3]
        by_cases g1 : s % 64 = 1
        · refine br_t (by rw [e5.mpr g1]; rfl) (nm_r (nI_1 c) ?_)
          have R2 : hs_Rr z T (22 :: r) false (s :: st3) r false st3 [] := hs_Rr1 (hs_step25 (z := z) (by decide)) (hop.trans (if_pos g1))
          have R3 := hs_RrT R1 R2
          rw [List.append_nil] at R3
          exact Hs r false st3 em (c + 1) (cc + em.length) wt cd' R3 hP1 w3 (by omega) rfl c1 c2 (by simp) (by simp only [List.length_cons]; omega) (by simp only [List.length_cons]; omega) (fun _ h => (hs_botStl (r := 1) h |> fun hb => by rw [hsr] at hb; exact hb.2)) (fun y => absurd y (by decide))
        · have hty2 : 2 ≤ s % 64 ∧ s % 64 ≤ 4 := by omega
          obtain ⟨rfl, rfl⟩ := e7 hty2
          refine br_f (fun y => g1 (e5.mp ((pk_lEQ (a := 2 * (s % 64) + 3) (b := 0) (by omega) (by decide)).mp y))) (hs_xAddCode (by omega) (nm_r (nI_1 c) ?_))
          have R2 : hs_Rr z T (22 :: r) false (s :: st3) r false st3 [(2 * (s % 64) + 3, s / 64)] := hs_Rr1 (hs_step25 (z := z) (by decide)) ((hop.trans (if_neg g1)).trans (if_pos hty2))
          have R3 := hs_RrT R1 R2
          have := Hs r false st3 (em ++ [(2 * (s % 64) + 3, s / 64)]) (c + 1) (cc + em.length + 1) wt (vp_updL cd' (cc + em.length) (hs_ce (2 * (s % 64) + 3) (s / 64))) R3 hP1 w3 (by omega) (by simp; omega) (hs_CAapp (hs_CAupd c1 (fun k _ hk => pk_uLn (by omega))) (hs_CAone e2 e3)) (fun k hk => (pk_uLn (by omega)).trans (c2 k hk)) (by simp) (by simp only [List.length_cons]; omega) (by simp only [List.length_cons]; omega) (fun _ h => (hs_botStl (r := 1) h |> fun hb => by rw [hsr] at hb; exact hb.2)) (fun y => absurd y (by decide))
          exact this
    · have t22 : t ≠ 22 := fun y => q1 (e22.mpr y)
      refine hs_xRank hx ?_
      have rl := hs_rankLe t
      refine pk_eq (hs_rank t) 0 (fun r0 => ?_) (fun r0 => ?_)
      · refine Hb ?_ _ _ _ _ _ _ (fun _ _ => rfl)
        by_cases t24 : t = 24
        · exact h24 t24
        · by_cases t25 : t = 25
          · subst t25
            exact fun cd fs => hs_S25 _ _ _
          · exact fun cd fs => hs_Sop r0 t24 t22 t25 _ _ _ _
      · have ht := hs_rank27 (t := t) (by omega)
        have ex : x = nI t := by
          rcases hx with ⟨_, h⟩ | ⟨h, _⟩ | ⟨h, _⟩
          · omega
          · exact h
          · omega
        subst ex
        -- the turn itself, where the operator may stand
        have go : (pa ≠ 0 → st ≠ []) → wX_readOperator_102 post (nI t) (nI (hs_rank t)) x_objectLimit x_stepLimit x_depthLimit x_pendingCount x_keptTokens x_keptLines x_lineCount (nI (cc)) (nI (c)) (nI stop) (nI (List.length (st))) (nI (hs_opn (st))) x_classCount x_callCount x_operandCount x_stepsTaken x_error x_raisedCode x_printCount x_lastResult x_lastPlace pd x_lineTable cd wt x_globals x_entries x_orders x_merging x_letterClass x_objectClass x_attributes x_calls x_held x_operands x_lastPrints := by
          intro hne
          have body : ∀ z0 : Nat, 1 ≤ z0 → z0 ≤ 3 → (hs_rank t = 1 ∧ z0 = 2 ∨ hs_rank t ≠ 1 ∧ hs_rank t ≤ z0) → z0 ≤ max 2 (hs_rank t) → wX_readOperator_115 post (nI t) (nI (hs_rank t)) (nI z0) x_objectLimit x_stepLimit x_depthLimit x_pendingCount x_keptTokens x_keptLines x_lineCount (nI (cc)) (nI (c)) (nI stop) (nI (List.length (st))) (nI (hs_opn (st))) x_classCount x_callCount x_operandCount x_stepsTaken x_error x_raisedCode x_printCount x_lastResult x_lastPlace pd x_lineTable cd wt x_globals x_entries x_orders x_merging x_letterClass x_objectClass x_attributes x_calls x_held x_operands x_lastPrints := by
            intro z0 z1 z3 zr zm
            unfold wX_readOperator_115
            refine hs_xSettle (r := z0) z1 z3 hWA (by omega) (by omega) (fun cd' c1 c2 => ?_)
            have R1 := hs_Sstl (z := z) (T := T) (ts := t :: r) (r := z0) z1 (by show t ≠ 24; omega) zr st
            have W1 := hs_WAstl (r := z0) hWA
            have L1 := hs_stlLen z0 st
            have O1 := hs_stlOpn (r := z0) z1 st
            have T1 := hs_stlTop z0 st
            have B1 : hs_bot st → hs_bot (hs_stl z0 st).2 := hs_botStl
            generalize hsr : hs_stl z0 st = sr at *
            obtain ⟨em, st2⟩ := sr
            simp only at *
            have push : ¬ (hs_rank t = 1 ∧ hs_rank (hs_hd st2 % 64) = 1) → wX_readOperator_155 post (nI t) x_objectLimit x_stepLimit x_depthLimit x_pendingCount x_keptTokens x_keptLines x_lineCount (nI (cc + em.length)) (nI c) (nI stop) (nI st2.length) (nI (hs_opn st)) x_classCount x_callCount x_operandCount x_stepsTaken x_error x_raisedCode x_printCount x_lastResult x_lastPlace pd x_lineTable cd' wt x_globals x_entries x_orders x_merging x_letterClass x_objectClass x_attributes x_calls x_held x_operands x_lastPrints := by
              intro hb
              unfold wX_readOperator_155
              refine hs_xKeep (o := t) (q := 0) (by omega) (by omega) (by decide) (nm_r (nI_1 c) ?_)
              have E : hs_step z ((t :: r) ++ T) false st2 = some (r ++ T, true, t :: st2, []) := by
                show hs_step z (t :: (r ++ T)) false st2 = _
                rw [hs_oprE (fun y => by
                  rcases T1 with q | q
                  · rw [q] at y; exact absurd y.1 (by decide)
                  · omega)]
                unfold hs_opr1
                rw [if_pos (by omega), if_neg hb]
              have R2 : hs_Rr z T (t :: r) false st2 r true (t :: st2) [] := hs_Rr1 (hs_step25 (z := z) (by omega)) E
              have R3 := hs_RrT R1 R2
              rw [List.append_nil] at R3
              have ews : hs_we t = hs_ce t 0 := by
                unfold hs_we; rw [if_neg (by omega), if_neg (by omega)]
              have := Hs r true (t :: st2) em (c + 1) (cc + em.length) (vp_updL wt st2.length (hs_we t)) cd' R3 hP1 (hs_WApush W1 (Or.inr (Or.inr ht))) (by rw [hs_opn0 (by omega)]; omega) rfl c1 c2 (by simp) (by simp only [List.length_cons]; omega) (by simp only [List.length_cons]; omega) (fun hp hbt => ⟨fun e2 => ?_, B1 hbt⟩) (fun _ _ => by show ¬ (2 ≤ t % 64 ∧ t % 64 ≤ 4); omega)
              · rw [hs_opn0 (by omega), O1, ews] at this
                exact this
              · -- nothing is left below, but then all of st was settled: its bottom would be an operator
                exfalso
                have hb0 := hs_bot0 hbt (by rw [← O1, e2]; rfl)
                exact hne hp hb0
            refine pk_eq (hs_rank t) 1 (fun k1 => ?_) (fun k1 => push (fun y => k1 y.1))
            refine pk_le st2.length 0 (fun k2 => push (fun y => ?_)) (fun k2 => ?_)
            · have e2 : st2 = [] := List.length_eq_zero_iff.mp (by omega)
              rw [e2] at y; exact absurd y.2 (by decide)
            · cases st2 with
              | nil => simp at k2
              | cons s st3 =>
                obtain ⟨w1, w2, w3⟩ := W1
                obtain ⟨o, q, e1, e2, e3, e4, e5, e6, e7⟩ := hs_weOp w2
                simp only [List.length_cons] at L1
                have ep : nI (s :: st3).length - 1 = nI st3.length := nI_pred st3.length
                rw [ep, nI_clamp (show st3.length < 2 ^ 31 by omega), w1, e1, hs_ceOp32 e2 e3]
                refine And.intro (vp_in_nI (by omega) (by decide)) (hs_xRankN (by omega) ?_)
                rw [e4]
                have := hs_rankLe (s % 64)
                refine pk_eq (hs_rank (s % 64)) 1 (fun k3 => ?_) (fun k3 => push (fun y => k3 y.2))
                refine Hb (hs_RrN R1 (hs_No1 (hs_step25 (z := z) (by omega)) ?_)) _ _ _ _ _ _ c2
                show hs_step z (t :: (r ++ T)) false (s :: st3) = _
                rw [hs_oprE (st := s :: st3) (fun y => y.2.2.2 ⟨k1, k3⟩)]
                unfold hs_opr1
                rw [if_pos (by omega), if_pos ⟨k1, k3⟩]
          unfold wX_readOperator_102
          refine pk_eq (hs_rank t) 1 (fun k => body 2 (by decide) (by decide) (Or.inl ⟨k, rfl⟩) (by omega)) (fun k => body (hs_rank t) (by omega) (by omega) (Or.inr ⟨k, Nat.le_refl _⟩) (by omega))
        rcases hpa with rfl | ⟨hT0, hbt⟩
        · exact br_t rfl (go (fun y => absurd rfl y))
        · refine br_c (fun p0 => go (fun y => absurd p0 y)) (fun p0 => pk_eq (hs_opn st) 0 (fun o0 => ?_) (fun o0 => go (fun _ y => o0 (by rw [y]; rfl))))
          · have e0 := hs_bot0 hbt o0
            subst e0
            refine Hb ?_ _ _ _ _ _ _ (fun _ _ => rfl)
            have E : hs_step z ((t :: r) ++ T) false [] = some (r ++ T, true, [t], []) := by
              show hs_step z (t :: (r ++ T)) false [] = _
              rw [hs_oprE (fun y => absurd y.1 (by decide))]
              unfold hs_opr1
              rw [if_pos (by omega), if_neg (fun y => absurd y.2 (by decide))]
            refine hs_RrN (hs_Rr1 (hs_step25 (z := z) (by omega)) E) ?_
            rintro cd fs ⟨m, hm⟩
            refine hs_noSet m (r ++ T) true [t] ?_ (Or.inl ⟨t, [], rfl, by omega⟩) cd fs hm
            rcases hT with q | ⟨n, E', q, _⟩
            · exact absurd q hT0
            · rw [q]; simp
  refine br_c (fun q1 => ?_) (fun q1 => rest (fun y => absurd (e24.mpr y) q1))
  have et := e24.mp q1
  subst et
  have nf : ¬ hs_fin ((24 :: r) ++ T) false st := hs_step25 (z := z) (by decide)
  have D0 : hs_step z ((24 :: r) ++ T) false st = hs_dot z (r ++ T) st := hs_dotE
  refine hs_xFromN hx1 (fun hn ex => br_f (by decide) ?_) (fun hn => br_t rfl (rest (fun _ => hs_No1 nf (D0.trans ?_))))
  · cases r with
    | nil => simp [hs_hd, hs_isN] at hn
    | cons n r1 =>
      have hn : hs_isN n = true := hn
      have hn' := hs_tkN hn
      have ex : x1 = nI n := ex
      subst ex
      have D1 : hs_step z ((24 :: n :: r1) ++ T) false st = (if hs_hd (r1 ++ T) = 21 then hs_psh (2 + 64 * (n - 100)) (r1 ++ T).tail st else if hs_hd (r1 ++ T) = 26 ∧ z = true ∧ st = [] then some ((r1 ++ T).tail, true, [5 + 64 * (n - 100)], []) else some (r1 ++ T, false, st, [(4, n - 100)])) := D0.trans (if_pos hn)
      have ep : nI n - 100 = nI (n - 100) := pk_sub (b := 100) (by omega)
      rw [ep]
      simp only [List.length_cons] at hl hc
      refine hs_xPeek 2 hPA hstop (by decide) (fun x2 hx2 => ?_)
      have hx2 : hs_rx x2 (hs_hd r1) := hx2
      have e21 := hs_rxE (k := 21) hx2 (Or.inr ⟨Or.inr (Or.inl (by decide)), by decide⟩) (by decide)
      have hA := hs_hdA (r := r1) hT (k := 21) (by decide) (by decide)
      refine br_c (fun q2 => ?_) (fun q2 => ?_)
      · have h21 := e21.mp q2
        refine hs_xCallS (k := 2) (ty := 2) (n := n - 100) (ts := 24 :: n :: r1) (w := false) (z := z) (T := T) (pa := pa) hPA (by decide) (by decide) (by omega) (fun r2 hd => ⟨nf, ?_⟩) (fun hd => absurd h21 hd) hT hstop hWA hon (by simp only [List.length_cons]; omega) (by simp only [List.length_cons]; omega) hi Hs Hb
        have hd : r1 = 21 :: r2 := hd
        subst hd
        exact D1.trans (if_pos rfl)
      · have h21 : hs_hd r1 ≠ 21 := fun y => q2 (e21.mpr y)
        refine hs_xAddOp (o := 4) (q := n - 100) (n := 2) (by omega) (by decide) (by omega) ?_
        have E : hs_step z ((24 :: n :: r1) ++ T) false st = some (r1 ++ T, false, st, [(4, n - 100)]) := by
          rw [D1, if_neg (fun y => h21 (hA.mp y)), if_neg]
          intro y
          have hA6 := (hs_hdA (r := r1) hT (k := 26) (by decide) (by decide)).mp y.1
          cases r1 with
          | nil => simp [hs_hd] at hA6
          | cons a r2 =>
            have hA6 : a = 26 := hA6
            exact h26 y.2.1 (by rw [hA6]; simp)
        exact Hs r1 false st [(4, n - 100)] (c + 2) (cc + 1) wt _ (hs_Rr1 nf E) hP1.2.2 hWA hon rfl (hs_CAone (by decide) (by omega)) (fun k hk => pk_uLn (by omega)) (by simp only [List.length_cons]; omega) (by simp only [List.length_cons]; omega) (by simp only [List.length_cons]; omega) (fun _ h => h) (fun y => absurd y (by decide))
  · cases r with
    | nil =>
      rcases hT with q | ⟨n, E, q, hN⟩
      · subst q; rfl
      · subst q
        rfl
    | cons n r1 =>
      have hn : hs_isN n = false := hn
      exact if_neg (by rw [hn]; decide)
end
end
section
/-! X's reader of a whole expression -/
section
variable {x_objectLimit x_stepLimit x_depthLimit x_pendingCount x_keptTokens x_keptLines x_lineCount x_codeCount x_cursor x_stop x_waitingCount x_openCount x_classCount x_callCount x_operandCount x_stepsTaken x_error x_raisedCode x_printCount x_lastPlace : Int32} {x_lastResult : Int64} {x_pending x_lineTable x_orders x_merging x_letterClass x_objectClass x_calls x_lastPrints : Nat → Int32} {x_code x_waiting x_globals x_entries x_attributes x_held x_operands : Nat → Int64}
variable {y_maxObjects y_maxSteps y_maxDepth y_kept y_end y_tokens y_pending y_lines y_classes y_prints y_place y_steps y_d y_valTop y_opTop y_opens y_pos y_tk y_tv y_stmt y_target y_err y_code y_outcome y_dry y_want y_starting y_ended y_bad y_hosted y_sawSuper : Int32} {y_result : Int64} {y_text y_numbers y_classOf y_alive y_orders y_lengths y_letters y_bases y_ops y_fLine y_fPos y_fStmt y_fTarget y_fMask y_fHome y_fOps y_fVals y_fNew y_out : Nat → Int32} {y_globals y_entries y_attrs y_vals y_locals y_fRecv : Nat → Int64}
theorem hs_Sopen {z : Bool} {wt : Nat → Int64} : ∀ (st : List Nat) (cd : List (Nat × Nat)) (fs : List Nat), hs_WA wt st → 0 < hs_opn st → ¬ hs_S z [] false st cd [] fs := by
  intro st
  induction st with
  | nil => intro cd fs _ h; exact absurd h (by decide)
  | cons s st ih =>
    intro cd fs hW h0 h
    by_cases hc : 27 ≤ s % 64
    · have E : hs_step z [] false (s :: st) = some ([], false, st, [(s % 64, 0)]) := by
        show hs_opr z [] (s :: st) = _
        unfold hs_opr
        rw [if_pos (show 27 ≤ hs_hd (s :: st) % 64 ∧ hs_hd [] ≠ 24 ∧ hs_rank (hs_hd []) ≤ hs_rank (hs_hd (s :: st) % 64) ∧ ¬ (hs_rank (hs_hd []) = 1 ∧ hs_rank (hs_hd (s :: st) % 64) = 1) from ⟨hc, by decide, Nat.zero_le _, fun y => absurd y.1 (by decide)⟩)]
        rfl
      obtain ⟨_, _, h⟩ := (hs_Sstep (ts := []) (st := s :: st) (fun y => y.2.2.1 hc) E).mp h
      rw [hs_opn0 (by omega)] at h0
      exact ih _ _ hW.2.2 h0 h
    · by_cases hf : hs_fin [] false (s :: st)
      · have h1 : ¬ (1 ≤ s % 64 ∧ s % 64 ≤ 4) := hf.2.2.2
        rcases hW.2.1 with q | q | q
        · subst q; exact h1 (by decide)
        · exact h1 ⟨by omega, q.2.1⟩
        · omega
      · refine hs_Sbad hf ?_ h
        show hs_opr z [] (s :: st) = none
        unfold hs_opr
        rw [if_neg (fun y => hc y.1)]
theorem hs_SallBin {z : Bool} : ∀ (st : List Nat), (∀ s, s ∈ st → 27 ≤ s ∧ s ≤ 32) → hs_stl 1 st = (st.map (fun s => (s, 0)), []) := by
  intro st
  induction st with
  | nil => intro _; rfl
  | cons s st ih =>
    intro h
    have hs := h s (by simp)
    have e : s % 64 = s := Nat.mod_eq_of_lt (by omega)
    have hr : 1 ≤ hs_rank (s % 64) := by
      rw [e]; unfold hs_rank
      split
      · omega
      · split
        · omega
        · split <;> omega
    rw [hs_stlT hr, ih (fun s' h' => h s' (List.mem_cons_of_mem _ h')), e]
    rfl
theorem hs_allBin {wt : Nat → Int64} : ∀ {st : List Nat}, hs_WA wt st → hs_opn st = 0 → ∀ s, s ∈ st → 27 ≤ s ∧ s ≤ 32
  | [], _, _, s, h => by cases h
  | a :: st, hW, h0, s, h => by
    have hc : ¬ (1 ≤ a % 64 ∧ a % 64 ≤ 4) := fun c => by rw [hs_opn1 c] at h0; omega
    rcases List.mem_cons.mp h with rfl | h
    · rcases hW.2.1 with q | q | q
      · subst q; exact absurd (by decide) hc
      · exact absurd ⟨by omega, q.2.1⟩ hc
      · exact q
    · rw [hs_opn0 hc] at h0
      exact hs_allBin hW.2.2 h0 s h
theorem hs_PA26 {pd : Nat → Int32} {stop : Nat} : ∀ {ts : List Nat} {c : Nat}, hs_PA pd stop c ts → (26 ∈ ts ↔ ∃ i, c ≤ i ∧ i < stop ∧ pd i = nI 26)
  | [], c, h => by
    have h : c = stop := h
    constructor
    · intro q; cases q
    · rintro ⟨i, a, b, _⟩; omega
  | t :: r, c, h => by
    have ih := hs_PA26 h.2.2
    have hl := hs_PAlen h.2.2
    have e := hs_rxE (k := 26) h.1 (Or.inr ⟨Or.inr (Or.inl (by decide)), by decide⟩) (by decide)
    constructor
    · intro q
      rcases List.mem_cons.mp q with q | q
      · exact ⟨c, Nat.le_refl _, by omega, e.mpr q.symm⟩
      · obtain ⟨i, a, b, d⟩ := ih.mp q
        exact ⟨i, by omega, b, d⟩
    · rintro ⟨i, a, b, d⟩
      by_cases hi : i = c
      · subst hi
        rw [e.mp d]; simp
      · exact List.mem_cons_of_mem _ (ih.mpr ⟨i, by omega, b, d⟩)
theorem hs_xReadL {pd : Nat → Int32} {stop : Nat} {z : Bool} {T : List Nat} {pa : Int32} (hT : T = [] ∨ ∃ n E, T = 24 :: n :: 26 :: E ∧ hs_isN n = true) (hstop : stop ≤ 400) (hpT : pa = 0 ∧ T = [] ∨ pa ≠ 0 ∧ T ≠ []) {post : Int32 → SX → Prop} : ∀ (n : Nat) (ts : List Nat) (w : Bool) (st : List Nat) (c cc k : Nat) (wt cd : Nat → Int64),
    ts.length + 1 ≤ n → k + ts.length ≤ 40 → hs_PA pd stop c ts → (z = true → 26 ∉ ts) → hs_WA wt st → hs_opn st ≤ 4 → st.length + ts.length ≤ 40 → cc + st.length + ts.length ≤ 443 → (w = true → hs_hd ts = 22 → ¬ (2 ≤ hs_hd st % 64 ∧ hs_hd st % 64 ≤ 4)) → (pa ≠ 0 → hs_bot st) → (∀ (e : List (Nat × Nat)), ((T = [] ∧ ∃ fs, hs_S z ts w st e [] fs) ∨ (T ≠ [] ∧ hs_Rr z T ts w st [] false [] e)) → ∀ (q1 q2 q3 : Int32) (wt' cd' : Nat → Int64), hs_CA cd' cc e (cc + e.length) → (∀ k, k < cc → cd' k = cd k) → cc + e.length ≤ cc + st.length + ts.length → post 1 (x_objectLimit, x_stepLimit, x_depthLimit, x_pendingCount, x_keptTokens, x_keptLines, x_lineCount, nI (cc + e.length), q1, nI stop, q2, q3, x_classCount, x_callCount, x_operandCount, x_stepsTaken, x_error, x_raisedCode, x_printCount, x_lastResult, x_lastPlace, pd, x_lineTable, cd', wt', x_globals, x_entries, x_orders, x_merging, x_letterClass, x_objectClass, x_attributes, x_calls, x_held, x_operands, x_lastPrints)) → (hs_No z T ts w st → ∀ (q1 q2 q3 q4 : Int32) (wt' cd' : Nat → Int64), (∀ k, k < cc → cd' k = cd k) → post 0 (x_objectLimit, x_stepLimit, x_depthLimit, x_pendingCount, x_keptTokens, x_keptLines, x_lineCount, q4, q1, nI stop, q2, q3, x_classCount, x_callCount, x_operandCount, x_stepsTaken, x_error, x_raisedCode, x_printCount, x_lastResult, x_lastPlace, pd, x_lineTable, cd', wt', x_globals, x_entries, x_orders, x_merging, x_letterClass, x_objectClass, x_attributes, x_calls, x_held, x_operands, x_lastPrints)) →
    wX_readExpression_26 post pa n (hs_xw w) (nI k) x_objectLimit x_stepLimit x_depthLimit x_pendingCount x_keptTokens x_keptLines x_lineCount (nI (cc)) (nI (c)) (nI stop) (nI (List.length (st))) (nI (hs_opn (st))) x_classCount x_callCount x_operandCount x_stepsTaken x_error x_raisedCode x_printCount x_lastResult x_lastPlace pd x_lineTable cd wt x_globals x_entries x_orders x_merging x_letterClass x_objectClass x_attributes x_calls x_held x_operands x_lastPrints := by
  intro n
  induction n with
  | zero => intro ts w st c cc k wt cd h; omega
  | succ n ih =>
    intro ts w st c cc k wt cd hn hk hPA h26 hWA hon hl hc hi hbt HS HN
    have hlen := hs_PAlen hPA
    cases ts with
    | nil =>
      have e : c = stop := hPA
      have last : wX_readExpression_75 post (hs_xw w) x_objectLimit x_stepLimit x_depthLimit x_pendingCount x_keptTokens x_keptLines x_lineCount (nI (cc)) (nI (c)) (nI stop) (nI (List.length (st))) (nI (hs_opn (st))) x_classCount x_callCount x_operandCount x_stepsTaken x_error x_raisedCode x_printCount x_lastResult x_lastPlace pd x_lineTable cd wt x_globals x_entries x_orders x_merging x_letterClass x_objectClass x_attributes x_calls x_held x_operands x_lastPrints := by
        unfold wX_readExpression_75
        cases w with
        | true =>
          refine br_f (by decide) (HN ?_ _ _ _ _ _ _ (fun _ _ => rfl))
          rcases hT with rfl | ⟨m, E, rfl, hN⟩
          · exact hs_No1 hs_finW rfl
          · exact hs_No1 hs_finW rfl
        | false =>
          refine br_t rfl (pk_le (hs_opn st) 0 (fun o0 => ?_) (fun o0 => ?_))
          · have o0 : hs_opn st = 0 := by omega
            refine hs_xSettle (r := 1) (by decide) (by decide) hWA (by omega) (by omega) (fun cd' c1 c2 => ?_)
            have L1 := hs_stlLen 1 st
            refine HS (hs_stl 1 st).1 ?_ _ _ _ _ _ c1 c2 (by omega)
            rcases hpT with ⟨_, hT0⟩ | ⟨hp, hT1⟩
            · left
              refine ⟨hT0, ?_⟩
              have R1 := hs_Sstl (z := z) (T := []) (ts := []) (r := 1) (by decide) (by decide) (Or.inr ⟨by decide, by decide⟩) st
              have e2 := hs_SallBin (z := z) st (hs_allBin hWA o0)
              rw [e2] at R1 ⊢
              refine ⟨[], (R1 _ []).mpr ⟨[], by rw [List.append_nil], ?_⟩⟩
              exact (hs_Sfin (ts := []) (w := false) (st := []) ⟨rfl, Or.inl rfl, by decide, by decide⟩).mpr ⟨rfl, rfl, rfl⟩
            · right
              have e0 := hs_bot0 (hbt hp) o0
              subst e0
              exact ⟨hT1, fun cd fs => ⟨fun h => ⟨cd, rfl, h⟩, fun ⟨cd', e, h⟩ => by have e : cd = cd' := e; rw [e]; exact h⟩⟩
          · refine HN ?_ _ _ _ _ _ _ (fun _ _ => rfl)
            rcases hT with rfl | ⟨m, E, rfl, hN⟩
            · exact fun cd fs => hs_Sopen st cd fs hWA o0
            · have E1 : hs_step z (([] : List Nat) ++ 24 :: m :: 26 :: E) false st = some (26 :: E, false, st, [(4, m - 100)]) := by
                show hs_step z (24 :: m :: 26 :: E) false st = _
                rw [hs_dotE]
                show (if hs_isN m = true then _ else none) = _
                rw [if_pos hN, if_neg (by show ¬ 26 = 21; decide), if_neg]
                intro y
                rw [y.2.2] at o0
                exact absurd o0 (by decide)
              intro cd fs h
              obtain ⟨_, _, h⟩ := (hs_Sstep (hs_step25 (z := z) (by decide)) E1).mp h
              exact hs_Sop (by decide) (by decide) (by decide) (by decide) _ _ _ _ h
      exact pk_le 40 k (fun _ => last) (fun _ => br_t (nI_le (by omega) (by omega)) last)
    | cons t r =>
      have hk2 : k < 40 := by simp only [List.length_cons] at hk; omega
      refine br_f (nI_ge (b := 40) hk2 (by decide)) (br_f (nI_ge (by simp only [List.length_cons] at hlen; omega) (by omega)) ?_)
      have cont : ∀ (ts' : List Nat) (w' : Bool) (st' : List Nat) (e : List (Nat × Nat)) (c' cc' : Nat) (wt' cd' : Nat → Int64), hs_Rr z T (t :: r) w st ts' w' st' e → hs_PA pd stop c' ts' → hs_WA wt' st' → hs_opn st' ≤ 4 → cc' = cc + e.length → hs_CA cd' cc e cc' → (∀ k, k < cc → cd' k = cd k) → ts'.length < (t :: r).length → st'.length + ts'.length ≤ st.length + (t :: r).length → cc' + st'.length + ts'.length ≤ cc + st.length + (t :: r).length → (pa ≠ 0 → hs_bot st → hs_bot st') → (w' = true → hs_hd ts' = 22 → ¬ (2 ≤ hs_hd st' % 64 ∧ hs_hd st' % 64 ≤ 4)) → (z = true → 26 ∉ ts') → wX_readExpression_26 post pa n (hs_xw w') (nI (k + 1)) x_objectLimit x_stepLimit x_depthLimit x_pendingCount x_keptTokens x_keptLines x_lineCount (nI (cc')) (nI (c')) (nI stop) (nI (List.length (st'))) (nI (hs_opn (st'))) x_classCount x_callCount x_operandCount x_stepsTaken x_error x_raisedCode x_printCount x_lastResult x_lastPlace pd x_lineTable cd' wt' x_globals x_entries x_orders x_merging x_letterClass x_objectClass x_attributes x_calls x_held x_operands x_lastPrints := by
        intro ts' w' st' e c' cc' wt' cd' R hP' hW' ho' ecc hC hcd hlt hl' hc' hb' hi' h26'
        subst ecc
        refine ih ts' w' st' c' (cc + e.length) (k + 1) wt' cd' (by omega) (by omega) hP' h26' hW' ho' (by omega) (by omega) hi' (fun hp => hb' hp (hbt hp)) ?_ ?_
        · intro e2 ok q1 q2 q3 wt2 cd2 hC2 hcd2 hle
          have el : cc + e.length + e2.length = cc + (e ++ e2).length := by rw [List.length_append]; omega
          rw [el] at hC2 ⊢
          refine HS (e ++ e2) ?_ q1 q2 q3 wt2 cd2 (hs_CAapp (hs_CAupd hC (fun k _ hk => hcd2 k hk)) hC2) (fun k hk => (hcd2 k (by omega)).trans (hcd k hk)) (by omega)
          rcases ok with ⟨hT0, fs, hS⟩ | ⟨hT1, hR⟩
          · refine Or.inl ⟨hT0, fs, ?_⟩
            have := (R (e ++ e2) fs)
            rw [hT0, List.append_nil, List.append_nil] at this
            exact this.mpr ⟨e2, rfl, hS⟩
          · exact Or.inr ⟨hT1, hs_RrT R hR⟩
        · intro hno q1 q2 q3 q4 wt2 cd2 hcd2
          exact HN (hs_RrN R hno) q1 q2 q3 q4 wt2 cd2 (fun k hk => (hcd2 k (by omega)).trans (hcd k hk))
      have bad : hs_No z T (t :: r) w st → ∀ (q1 q2 q3 q4 : Int32) (wt' cd' : Nat → Int64), (∀ k, k < cc → cd' k = cd k) → wX_readExpression_26 post pa n 0 (nI (k + 1)) x_objectLimit x_stepLimit x_depthLimit x_pendingCount x_keptTokens x_keptLines x_lineCount q4 q1 (nI stop) q2 q3 x_classCount x_callCount x_operandCount x_stepsTaken x_error x_raisedCode x_printCount x_lastResult x_lastPlace pd x_lineTable cd' wt' x_globals x_entries x_orders x_merging x_letterClass x_objectClass x_attributes x_calls x_held x_operands x_lastPrints := by
        intro hno q1 q2 q3 q4 wt' cd' hcd
        obtain ⟨n, rfl⟩ : ∃ m, n = m + 1 := ⟨n - 1, by simp only [List.length_cons] at hn; omega⟩
        have b := HN hno q1 q2 q3 q4 wt' cd' hcd
        have l : wX_readExpression_75 post 0 x_objectLimit x_stepLimit x_depthLimit x_pendingCount x_keptTokens x_keptLines x_lineCount q4 q1 (nI stop) q2 q3 x_classCount x_callCount x_operandCount x_stepsTaken x_error x_raisedCode x_printCount x_lastResult x_lastPlace pd x_lineTable cd' wt' x_globals x_entries x_orders x_merging x_letterClass x_objectClass x_attributes x_calls x_held x_operands x_lastPrints := br_f (by decide) b
        exact br_c (fun _ => l) (fun _ => br_c (fun _ => l) (fun _ => br_t rfl l))
      have sub26 : ∀ ts', (∃ c', hs_PA pd stop c' ts' ∧ ts'.length < (t :: r).length) → z = true → 26 ∉ ts' := by
        rintro ts' ⟨c', hP', hlt⟩ hz hm
        obtain ⟨i, i1, i2, i3⟩ := (hs_PA26 hP').mp hm
        have := hs_PAlen hP'
        exact h26 hz ((hs_PA26 hPA).mpr ⟨i, by omega, i2, i3⟩)
      cases w with
      | true =>
        refine br_f (by decide) (br_t rfl ?_)
        refine hs_xOpd (z := z) (T := T) (pa := pa) rfl rfl hPA hPA.2.1 hT hstop hWA hon hl hc hi (fun ts' w' st' e c' cc' wt' cd' a1 a2 a3 a4 a5 a6 a7 a8 a9 a10 a11 a12 => nm_r (nI_1 k) (cont ts' w' st' e c' cc' wt' cd' a1 a2 a3 a4 a5 a6 a7 a8 a9 a10 a11 a12 (sub26 ts' ⟨c', a2, a8⟩))) (fun hno q1 q2 q3 q4 wt' cd' hcd => nm_r (nI_1 k) (bad hno q1 q2 q3 q4 wt' cd' hcd))
      | false =>
        refine br_f (by decide) (br_f (by decide) ?_)
        refine hs_xOpr (z := z) (T := T) (pa := pa) rfl rfl hPA h26 (by
          rcases hpT with ⟨h, _⟩ | ⟨h, h'⟩
          · exact Or.inl h
          · exact Or.inr ⟨h', hbt h⟩) hT hstop hWA hon hl hc hi (fun ts' w' st' e c' cc' wt' cd' a1 a2 a3 a4 a5 a6 a7 a8 a9 a10 a11 a12 => nm_r (nI_1 k) (cont ts' w' st' e c' cc' wt' cd' a1 a2 a3 a4 a5 a6 a7 a8 a9 a10 a11 a12 (sub26 ts' ⟨c', a2, a8⟩))) (fun hno q1 q2 q3 q4 wt' cd' hcd => nm_r (nI_1 k) (bad hno q1 q2 q3 q4 wt' cd' hcd))
theorem hs_xReadE {pd : Nat → Int32} {stop c cc : Nat} {z w : Bool} {T ts st : List Nat} {pa : Int32} {cd : Nat → Int64} (hT : T = [] ∨ ∃ n E, T = 24 :: n :: 26 :: E ∧ hs_isN n = true) (hstop : stop ≤ 400) (hpT : pa = 0 ∧ T = [] ∨ pa ≠ 0 ∧ T ≠ []) (ew : w = true) (es : st = []) (hPA : hs_PA pd stop c ts) (h26 : z = true → 26 ∉ ts) (hl : ts.length ≤ 40) (hc : cc + ts.length ≤ 443) {post : Int32 → SX → Prop} (HS : (∀ (e : List (Nat × Nat)), ((T = [] ∧ ∃ fs, hs_S z ts w st e [] fs) ∨ (T ≠ [] ∧ hs_Rr z T ts w st [] false [] e)) → ∀ (q1 q2 q3 : Int32) (wt' cd' : Nat → Int64), hs_CA cd' cc e (cc + e.length) → (∀ k, k < cc → cd' k = cd k) → cc + e.length ≤ cc + st.length + ts.length → post 1 (x_objectLimit, x_stepLimit, x_depthLimit, x_pendingCount, x_keptTokens, x_keptLines, x_lineCount, nI (cc + e.length), q1, nI stop, q2, q3, x_classCount, x_callCount, x_operandCount, x_stepsTaken, x_error, x_raisedCode, x_printCount, x_lastResult, x_lastPlace, pd, x_lineTable, cd', wt', x_globals, x_entries, x_orders, x_merging, x_letterClass, x_objectClass, x_attributes, x_calls, x_held, x_operands, x_lastPrints))) (HN : (hs_No z T ts w st → ∀ (q1 q2 q3 q4 : Int32) (wt' cd' : Nat → Int64), (∀ k, k < cc → cd' k = cd k) → post 0 (x_objectLimit, x_stepLimit, x_depthLimit, x_pendingCount, x_keptTokens, x_keptLines, x_lineCount, q4, q1, nI stop, q2, q3, x_classCount, x_callCount, x_operandCount, x_stepsTaken, x_error, x_raisedCode, x_printCount, x_lastResult, x_lastPlace, pd, x_lineTable, cd', wt', x_globals, x_entries, x_orders, x_merging, x_letterClass, x_objectClass, x_attributes, x_calls, x_held, x_operands, x_lastPrints))) : wpX_readExpression post (x_objectLimit, x_stepLimit, x_depthLimit, x_pendingCount, x_keptTokens, x_keptLines, x_lineCount, nI cc, x_cursor, x_stop, x_waitingCount, x_openCount, x_classCount, x_callCount, x_operandCount, x_stepsTaken, x_error, x_raisedCode, x_printCount, x_lastResult, x_lastPlace, pd, x_lineTable, cd, x_waiting, x_globals, x_entries, x_orders, x_merging, x_letterClass, x_objectClass, x_attributes, x_calls, x_held, x_operands, x_lastPrints) (nI c) (nI stop) pa := by
  subst ew es
  exact ⟨ts.length + 1, hs_xReadL hT hstop hpT (ts.length + 1) ts true [] c cc 0 x_waiting cd (Nat.le_refl _) (by omega) hPA h26 trivial (by decide) (by simpa using hl) (by simpa using hc) (fun _ _ => by decide) (fun _ => trivial) HS HN⟩
end
end
section
/-! the search for an entry -/
section
variable {x_objectLimit x_stepLimit x_depthLimit x_pendingCount x_keptTokens x_keptLines x_lineCount x_codeCount x_cursor x_stop x_waitingCount x_openCount x_classCount x_callCount x_operandCount x_stepsTaken x_error x_raisedCode x_printCount x_lastPlace : Int32} {x_lastResult : Int64} {x_pending x_lineTable x_orders x_merging x_letterClass x_objectClass x_calls x_lastPrints : Nat → Int32} {x_code x_waiting x_globals x_entries x_attributes x_held x_operands : Nat → Int64}
variable {y_maxObjects y_maxSteps y_maxDepth y_kept y_end y_tokens y_pending y_lines y_classes y_prints y_place y_steps y_d y_valTop y_opTop y_opens y_pos y_tk y_tv y_stmt y_target y_err y_code y_outcome y_dry y_want y_starting y_ended y_bad y_hosted y_sawSuper : Int32} {y_result : Int64} {y_text y_numbers y_classOf y_alive y_orders y_lengths y_letters y_bases y_ops y_fLine y_fPos y_fStmt y_fTarget y_fMask y_fHome y_fOps y_fVals y_fNew y_out : Nat → Int32} {y_globals y_entries y_attrs y_vals y_locals y_fRecv : Nat → Int64}
def hs_sea (ex : Nat → Int64) (name : Nat) (ms : List Nat) : Option Nat := if name = 19 ∧ 0 ∈ ms then some 0 else ms.find? (fun m => decide (ex (m * 26 + name) ≠ 0))
def hs_oI : Option Nat → Int32
  | none => -1
  | some m => nI m
def hs_oV (ey : Nat → Int64) (name : Nat) : Option Nat → Int64
  | none => 0
  | some m => ey (m * 26 + name)
theorem hs_giS {l : List Nat} {k : Nat} (h : k < l.length) : hs_gi l k = nI l[k] := by
  unfold hs_gi
  rw [List.getElem?_eq_getElem h]
theorem hs_ixMul (a b c : Nat) : nI a * nI b + nI c = nI (a * b + c) := by rw [pk_mul, nI_add]
theorem hs_xSea0 {ox : Nat → Int32} {ex : Nat → Int64} {c name : Nat} {l : List Nat} (hc : c < 10) (hn : name < 26) (hl : l.length ≤ 10) (ho : ∀ k, k < 12 → ox (c * 12 + k) = hs_gi l k) (hm : ∀ m, m ∈ l → m < 10) {post : Int32 → Prop} :
    ∀ (n k : Nat) (acc : Option Nat), (∀ a, acc = some a → a < 10) → 14 ≤ n + k → k ≤ 13 → post (hs_oI (if name = 19 ∧ 0 ∈ l.drop k then some 0 else acc.orElse (fun _ => (l.drop k).find? (fun m => decide (ex (m * 26 + name) ≠ 0))))) → wX_search_6 post (nI c) (nI name) x_objectLimit x_stepLimit x_depthLimit x_pendingCount x_keptTokens x_keptLines x_lineCount x_codeCount x_cursor x_stop x_waitingCount x_openCount x_classCount x_callCount x_operandCount x_stepsTaken x_error x_raisedCode x_printCount x_lastResult x_lastPlace x_pending x_lineTable x_code x_waiting x_globals ex ox x_merging x_letterClass x_objectClass x_attributes x_calls x_held x_operands x_lastPrints n (hs_oI acc) (nI k) := by
  intro n
  induction n with
  | zero => intro k acc _ h1 h2; omega
  | succ n ih =>
    intro k acc hacc h1 h2 hp
    refine pk_le 12 k (fun q => ?_) (fun q => ?_)
    · rw [List.drop_eq_nil_of_le (by omega)] at hp
      simp at hp
      exact hp
    · have ix : nI c * 12 + nI k = nI (c * 12 + k) := hs_ixMul c 12 k
      rw [ix, nI_clamp (show c * 12 + k < 2 ^ 31 by omega), ho k q]
      refine And.intro (vp_in_nI (by omega) (by decide)) ?_
      rcases Nat.lt_or_ge k l.length with kl | kl
      · have hmk := hm l[k] (List.getElem_mem kl)
        have hd : l.drop k = l[k] :: l.drop (k + 1) := List.drop_eq_getElem_cons kl
        rw [hd] at hp
        rw [hs_giS kl]
        generalize l[k] = m at *
        refine nm_e (br_t (nI_pos' (by omega)) ?_)
        have next : (¬ (name = 19 ∧ m = 0)) → wX_search_48 post (wX_search_6 post (nI c) (nI name) x_objectLimit x_stepLimit x_depthLimit x_pendingCount x_keptTokens x_keptLines x_lineCount x_codeCount x_cursor x_stop x_waitingCount x_openCount x_classCount x_callCount x_operandCount x_stepsTaken x_error x_raisedCode x_printCount x_lastResult x_lastPlace x_pending x_lineTable x_code x_waiting x_globals ex ox x_merging x_letterClass x_objectClass x_attributes x_calls x_held x_operands x_lastPrints n) (nI c) (nI name) (hs_oI acc) (nI k) (nI m) x_objectLimit x_stepLimit x_depthLimit x_pendingCount x_keptTokens x_keptLines x_lineCount x_codeCount x_cursor x_stop x_waitingCount x_openCount x_classCount x_callCount x_operandCount x_stepsTaken x_error x_raisedCode x_printCount x_lastResult x_lastPlace x_pending x_lineTable x_code x_waiting x_globals ex ox x_merging x_letterClass x_objectClass x_attributes x_calls x_held x_operands x_lastPrints := by
          intro hnm
          have hp0 : (if name = 19 ∧ 0 ∈ m :: l.drop (k + 1) then some 0 else acc.orElse (fun _ => (m :: l.drop (k + 1)).find? (fun m => decide (ex (m * 26 + name) ≠ 0)))) = (if name = 19 ∧ 0 ∈ l.drop (k + 1) then some 0 else (acc.orElse (fun _ => if ex (m * 26 + name) = 0 then none else some m)).orElse (fun _ => (l.drop (k + 1)).find? (fun m => decide (ex (m * 26 + name) ≠ 0)))) := by
            by_cases c1 : name = 19 ∧ 0 ∈ l.drop (k + 1)
            · rw [if_pos c1, if_pos ⟨c1.1, List.mem_cons_of_mem _ c1.2⟩]
            · rw [if_neg c1, if_neg]
              · cases acc with
                | some a => rfl
                | none =>
                  by_cases c2 : ex (m * 26 + name) = 0
                  · simp [c2]
                  · simp [c2]
              · rintro ⟨a, b⟩
                rcases List.mem_cons.mp b with b | b
                · exact hnm ⟨a, b.symm⟩
                · exact c1 ⟨a, b⟩
          rw [hp0] at hp
          unfold wX_search_48
          cases acc with
          | some a =>
            have ha := hacc a rfl
            exact br_t (nI_pos' (by omega)) (nm_r (nI_1 k) (ih (k + 1) (some a) hacc (by omega) (by omega) hp))
          | none =>
            have iy : nI m * 26 + nI name = nI (m * 26 + name) := hs_ixMul m 26 name
            rw [iy, nI_clamp (show m * 26 + name < 2 ^ 31 by omega)]
            refine br_f (by decide) (And.intro (vp_in_nI (by omega) (by decide)) ?_)
            by_cases c2 : ex (m * 26 + name) = 0
            · refine br_t c2 (nm_r (nI_1 k) (ih (k + 1) none hacc (by omega) (by omega) ?_))
              simp only [c2] at hp
              exact hp
            · refine br_f c2 (nm_r (nI_1 k) (ih (k + 1) (some m) (fun a e => by cases e; exact hmk) (by omega) (by omega) ?_))
              simp only [c2] at hp
              exact hp
        refine pk_eq m 0 (fun e0 => pk_eq name 19 (fun e1 => ?_) (fun e1 => next (fun y => e1 y.1))) (fun e0 => next (fun y => e0 y.2))
        rw [if_pos ⟨e1, by rw [e0]; simp⟩] at hp
        exact hp
      · rw [hs_giN kl]
        rw [List.drop_eq_nil_of_le kl] at hp
        simp at hp
        exact nm_e (br_f (by decide) hp)
theorem hs_xSea {ox : Nat → Int32} {ex : Nat → Int64} {c name k : Nat} {l : List Nat} (hc : c < 10) (hn : name < 26) (hl : l.length ≤ 10) (ho : ∀ k, k < 12 → ox (c * 12 + k) = hs_gi l k) (hm : ∀ m, m ∈ l → m < 10) (hk : k ≤ 13) {post : Int32 → Prop} (hp : post (hs_oI (hs_sea ex name (l.drop k)))) : wpX_search post (x_objectLimit, x_stepLimit, x_depthLimit, x_pendingCount, x_keptTokens, x_keptLines, x_lineCount, x_codeCount, x_cursor, x_stop, x_waitingCount, x_openCount, x_classCount, x_callCount, x_operandCount, x_stepsTaken, x_error, x_raisedCode, x_printCount, x_lastResult, x_lastPlace, x_pending, x_lineTable, x_code, x_waiting, x_globals, ex, ox, x_merging, x_letterClass, x_objectClass, x_attributes, x_calls, x_held, x_operands, x_lastPrints) (nI c) (nI k) (nI name) :=
  ⟨14, hs_xSea0 hc hn hl ho hm 14 k none (fun a e => by cases e) (by omega) hk hp⟩
theorem hs_ySea1 {oy le : Nat → Int32} {ey : Nat → Int64} {c name : Nat} {l : List Nat} (hc : c < 10) (hn : name < 26) (hl : l.length ≤ 10) (hle : le c = nI l.length) (ho : ∀ k, k < l.length → oy (c * 10 + k) = hs_gi l k) (hm : ∀ m, m ∈ l → m < 10) {post : Int64 → Prop} :
    ∀ (n k : Nat) (v : Int64), k ≤ 20 → l.length + 1 ≤ n + k → 1 ≤ n → post (if name = 19 ∧ 0 ∈ l.drop k then ey 19 else v) → wY_search_63 post (nI c) (nI name) y_maxObjects y_maxSteps y_maxDepth y_kept y_end y_tokens y_pending y_lines y_classes y_prints y_place y_steps y_d y_valTop y_opTop y_opens y_pos y_tk y_tv y_stmt y_target y_err y_code y_outcome y_result y_dry y_want y_starting y_ended y_bad y_hosted y_sawSuper y_text y_numbers y_globals ey y_attrs y_classOf y_alive oy le y_letters y_bases y_vals y_ops y_locals y_fRecv y_fLine y_fPos y_fStmt y_fTarget y_fMask y_fHome y_fOps y_fVals y_fNew y_out n v (nI k) := by
  intro n
  induction n with
  | zero => intro k v _ _ h; omega
  | succ n ih =>
    intro k v hk h1 _ hp
    refine And.intro (vp_in_nI hc (by decide)) ?_
    rw [nI_clamp (show c < 2 ^ 31 by omega), hle]
    refine pk_le l.length k (fun q => ?_) (fun q => ?_)
    · rw [List.drop_eq_nil_of_le q] at hp
      simp at hp
      exact hp
    · have hmk := hm l[k] (List.getElem_mem q)
      have hd : l.drop k = l[k] :: l.drop (k + 1) := List.drop_eq_getElem_cons q
      have ix : nI c * 10 + nI k = nI (c * 10 + k) := hs_ixMul c 10 k
      rw [ix, nI_clamp (show c * 10 + k < 2 ^ 31 by omega), ho k q, hs_giS q]
      rw [hd] at hp
      generalize l[k] = m at *
      refine And.intro (vp_in_nI (by omega) (by decide)) ?_
      have next : ∀ v', post (if name = 19 ∧ 0 ∈ l.drop (k + 1) then ey 19 else v') → wY_search_63 post (nI c) (nI name) y_maxObjects y_maxSteps y_maxDepth y_kept y_end y_tokens y_pending y_lines y_classes y_prints y_place y_steps y_d y_valTop y_opTop y_opens y_pos y_tk y_tv y_stmt y_target y_err y_code y_outcome y_result y_dry y_want y_starting y_ended y_bad y_hosted y_sawSuper y_text y_numbers y_globals ey y_attrs y_classOf y_alive oy le y_letters y_bases y_vals y_ops y_locals y_fRecv y_fLine y_fPos y_fStmt y_fTarget y_fMask y_fHome y_fOps y_fVals y_fNew y_out n v' (nI (k + 1)) := fun v' h => ih (k + 1) v' (by omega) (by omega) (by omega) h
      refine pk_eq m 0 (fun e0 => pk_eq name 19 (fun e1 => ?_) (fun e1 => ?_)) (fun e0 => ?_)
      · rw [if_pos ⟨e1, by rw [e0]; simp⟩] at hp
        refine nm_e (nm_r (nI_1 k) (next (ey 19) ?_))
        split <;> exact hp
      · rw [if_neg (fun y => e1 y.1)] at hp
        refine nm_r (nI_1 k) (next v ?_)
        rw [if_neg (fun y => e1 y.1)]
        exact hp
      · refine nm_r (nI_1 k) (next v ?_)
        by_cases c1 : name = 19 ∧ 0 ∈ l.drop (k + 1)
        · rw [if_pos ⟨c1.1, List.mem_cons_of_mem _ c1.2⟩] at hp
          rw [if_pos c1]; exact hp
        · rw [if_neg] at hp
          · rw [if_neg c1]; exact hp
          · rintro ⟨a, b⟩
            rcases List.mem_cons.mp b with b | b
            · exact e0 b.symm
            · exact c1 ⟨a, b⟩
def hs_fv (ey : Nat → Int64) (name : Nat) (ms : List Nat) : Int64 := hs_oV ey name (ms.find? (fun m => decide (ey (m * 26 + name) ≠ 0)))
theorem hs_fvZ {ey : Nat → Int64} {name a : Nat} {ms : List Nat} (z : ey (a * 26 + name) = 0) : hs_fv ey name (a :: ms) = hs_fv ey name ms := by
  unfold hs_fv
  simp [z]
theorem hs_fvN {ey : Nat → Int64} {name a : Nat} {ms : List Nat} (z : ¬ ey (a * 26 + name) = 0) : hs_fv ey name (a :: ms) = ey (a * 26 + name) := by
  unfold hs_fv
  simp [z, hs_oV]
theorem hs_ySea2 {oy le : Nat → Int32} {ey : Nat → Int64} {c name k : Nat} {l : List Nat} (hc : c < 10) (hn : name < 26) (hl : l.length ≤ 10) (hle : le c = nI l.length) (ho : ∀ k, k < l.length → oy (c * 10 + k) = hs_gi l k) (hm : ∀ m, m ∈ l → m < 10) (hk : k ≤ 20) {post : Int64 → Prop} (hp : post (if name = 19 ∧ 0 ∈ l.drop k then ey 19 else hs_fv ey name (l.drop k))) :
    ∀ (n u : Nat), u ≤ l.length → (k ≤ u ∨ u = l.length) → u < n → ∀ (i : Int32) (w : Int64), i = nI u - 1 → w = hs_fv ey name (l.drop u) → wY_search_13 post (nI c) (nI k) (nI name) y_maxObjects y_maxSteps y_maxDepth y_kept y_end y_tokens y_pending y_lines y_classes y_prints y_place y_steps y_d y_valTop y_opTop y_opens y_pos y_tk y_tv y_stmt y_target y_err y_code y_outcome y_result y_dry y_want y_starting y_ended y_bad y_hosted y_sawSuper y_text y_numbers y_globals ey y_attrs y_classOf y_alive oy le y_letters y_bases y_vals y_ops y_locals y_fRecv y_fLine y_fPos y_fStmt y_fTarget y_fMask y_fHome y_fOps y_fVals y_fNew y_out n w i := by
  intro n
  induction n with
  | zero => intro u _ _ h; omega
  | succ n ih =>
    intro u hu hku hn1 i w hi hw
    subst hw
    rcases Nat.lt_or_ge k u with q | q
    · obtain ⟨v, rfl⟩ : ∃ v, u = v + 1 := ⟨u - 1, by omega⟩
      have ei : i = nI v := by rw [hi, nI_pred]
      subst ei
      refine br_f (nI_nlt (by omega) (by omega)) ?_
      have vl : v < l.length := by omega
      have hmk := hm l[v] (List.getElem_mem vl)
      have ix : nI c * 10 + nI v = nI (c * 10 + v) := hs_ixMul c 10 v
      have iy : nI l[v] * 26 + nI name = nI (l[v] * 26 + name) := hs_ixMul _ 26 name
      rw [ix, nI_clamp (show c * 10 + v < 2 ^ 31 by omega), ho v vl, hs_giS vl, iy, nI_clamp (show l[v] * 26 + name < 2 ^ 31 by omega)]
      have hd : l.drop v = l[v] :: l.drop (v + 1) := List.drop_eq_getElem_cons vl
      have rc := ih v (by omega) (Or.inl (by omega)) (by omega)
      rw [hd] at rc
      refine And.intro (vp_in_nI (by omega) (by decide)) (And.intro (vp_in_nI (by omega) (by decide)) (nm_e ?_))
      have em : nI v + (-1) = nI v - 1 := by rw [Int32.sub_eq_add_neg]
      by_cases z : ey (l[v] * 26 + name) = 0
      · refine br_t z (nm_r em ?_)
        have e : hs_fv ey name (l[v] :: l.drop (v + 1)) = hs_fv ey name (l.drop (v + 1)) := by
          exact hs_fvZ z
        exact rc _ _ rfl e.symm
      · refine br_f z (nm_r em ?_)
        have e : hs_fv ey name (l[v] :: l.drop (v + 1)) = ey (l[v] * 26 + name) := by
          exact hs_fvN z
        exact rc _ _ rfl e.symm
    · refine br_t ?_ ⟨l.length + 2, ?_⟩
      · rw [hi]
        cases u with
        | zero =>
          have : nI 0 - 1 = -1 := by decide
          rw [this]
          exact Int32.lt_of_lt_of_le (by decide) (nI_pos' (show k < 2 ^ 31 by omega))
        | succ u => rw [nI_pred]; exact nI_lt (by omega) (by omega)
      · refine hs_ySea1 hc hn hl hle ho hm _ k _ hk (by omega) (by omega) ?_
        have e : l.drop u = l.drop k := by
          rcases hku with h | h
          · have : k = u := by omega
            rw [this]
          · rw [List.drop_eq_nil_of_le (by omega), List.drop_eq_nil_of_le (by omega)]
        rw [e]; exact hp
theorem hs_ySea {oy le : Nat → Int32} {ey : Nat → Int64} {c name k : Nat} {l : List Nat} (hc : c < 10) (hn : name < 26) (hl : l.length ≤ 10) (hle : le c = nI l.length) (ho : ∀ k, k < l.length → oy (c * 10 + k) = hs_gi l k) (hm : ∀ m, m ∈ l → m < 10) (hk : k ≤ 20) {post : Int64 → Prop} (hp : post (hs_oV ey name (hs_sea ey name (l.drop k)))) : wpY_search post (y_maxObjects, y_maxSteps, y_maxDepth, y_kept, y_end, y_tokens, y_pending, y_lines, y_classes, y_prints, y_place, y_steps, y_d, y_valTop, y_opTop, y_opens, y_pos, y_tk, y_tv, y_stmt, y_target, y_err, y_code, y_outcome, y_result, y_dry, y_want, y_starting, y_ended, y_bad, y_hosted, y_sawSuper, y_text, y_numbers, y_globals, ey, y_attrs, y_classOf, y_alive, oy, le, y_letters, y_bases, y_vals, y_ops, y_locals, y_fRecv, y_fLine, y_fPos, y_fStmt, y_fTarget, y_fMask, y_fHome, y_fOps, y_fVals, y_fNew, y_out) (nI c) (nI k) (nI name) := by
  refine And.intro (vp_in_nI hc (by decide)) ?_
  rw [nI_clamp (show c < 2 ^ 31 by omega), hle]
  refine nm_e ⟨l.length + 1, ?_⟩
  have e : hs_fv ey name (l.drop l.length) = 0 := by
    rw [List.drop_length]; rfl
  refine hs_ySea2 hc hn hl hle ho hm hk ?_ (l.length + 1) l.length (Nat.le_refl _) (Or.inr rfl) (by omega) _ _ rfl e.symm
  unfold hs_sea at hp
  by_cases z : name = 19 ∧ 0 ∈ l.drop k
  · rw [if_pos z] at hp ⊢
    have e : hs_oV ey name (some 0) = ey 19 := by
      show ey (0 * 26 + name) = ey 19
      rw [z.1]
    rw [e] at hp; exact hp
  · rw [if_neg z] at hp ⊢
    exact hp
theorem hs_seaC {ex ey : Nat → Int64} {name : Nat} {ms : List Nat} (h : ∀ m, m ∈ ms → (ex (m * 26 + name) = 0 ↔ ey (m * 26 + name) = 0)) : hs_sea ex name ms = hs_sea ey name ms := by
  unfold hs_sea
  split
  · rfl
  · induction ms with
    | nil => rfl
    | cons a ms ih =>
      have ha := h a (by simp)
      have := ih (fun m hm => h m (List.mem_cons_of_mem _ hm)) (by rename_i q; exact fun y => q ⟨y.1, List.mem_cons_of_mem _ y.2⟩)
      by_cases z : ex (a * 26 + name) = 0
      · have z' := ha.mp z
        simp only [List.find?_cons, z, z']
        simpa using this
      · have z' : ¬ ey (a * 26 + name) = 0 := fun y => z (ha.mpr y)
        simp [z, z']
end
end
section
/-! the live objects: a mask on X's side, an array on Y's -/
section
variable {x_objectLimit x_stepLimit x_depthLimit x_pendingCount x_keptTokens x_keptLines x_lineCount x_codeCount x_cursor x_stop x_waitingCount x_openCount x_classCount x_callCount x_operandCount x_stepsTaken x_error x_raisedCode x_printCount x_lastPlace : Int32} {x_lastResult : Int64} {x_pending x_lineTable x_orders x_merging x_letterClass x_objectClass x_calls x_lastPrints : Nat → Int32} {x_code x_waiting x_globals x_entries x_attributes x_held x_operands : Nat → Int64}
variable {y_maxObjects y_maxSteps y_maxDepth y_kept y_end y_tokens y_pending y_lines y_classes y_prints y_place y_steps y_d y_valTop y_opTop y_opens y_pos y_tk y_tv y_stmt y_target y_err y_code y_outcome y_dry y_want y_starting y_ended y_bad y_hosted y_sawSuper : Int32} {y_result : Int64} {y_text y_numbers y_classOf y_alive y_orders y_lengths y_letters y_bases y_ops y_fLine y_fPos y_fStmt y_fTarget y_fMask y_fHome y_fOps y_fVals y_fNew y_out : Nat → Int32} {y_globals y_entries y_attrs y_vals y_locals y_fRecv : Nat → Int64}
/-- the object that a value is -/
def hs_ob (v : Int64) : Option Nat := if v >>> ((32 : Int32).toInt64 &&& 63) = 3 then some v.toInt32.toNatClampNeg else none
def hs_mk (m : Nat) (v : Int64) : Nat := match hs_ob v with
  | some o => m ||| 2 ^ o
  | none => m
theorem hs_obLt {v : Int64} (hv : hs_rv v) {o : Nat} (h : hs_ob v = some o) : o < 8 ∧ v.toInt32 = nI o ∧ v >>> ((32 : Int32).toInt64 &&& 63) = 3 ∧ ((v.toUInt64 >>> ((32 : Int32).toInt64.toUInt64 &&& Int64.toUInt64 63)).toInt64) = 3 := by
  obtain ⟨m, hm, rfl, h3⟩ := hv
  unfold hs_ob at h
  split at h
  · rename_i k
    cases h
    have k3 := (hs_yk3 hm).mp k
    obtain ⟨a, b⟩ := h3 k3
    rw [lN_i, b, nI_clamp (by omega)]
    refine ⟨a, rfl, k, ?_⟩
    rw [hs_xk hm, k3]; rfl
  · cases h
theorem hs_obN {v : Int64} (hv : hs_rv v) (h : hs_ob v = none) : ¬ v >>> ((32 : Int32).toInt64 &&& 63) = 3 ∧ ¬ ((v.toUInt64 >>> ((32 : Int32).toInt64.toUInt64 &&& Int64.toUInt64 63)).toInt64) = 3 := by
  obtain ⟨m, hm, rfl, h3⟩ := hv
  unfold hs_ob at h
  split at h
  · cases h
  · rename_i k
    refine ⟨k, fun e => k ?_⟩
    rw [hs_xk hm] at e
    rw [hs_yk hm]; exact e
theorem hs_nor (a b : Nat) : nI a ||| nI b = nI (a ||| b) := by
  apply Int32.toBitVec_inj.1
  show BitVec.ofNat 32 a ||| BitVec.ofNat 32 b = BitVec.ofNat 32 (a ||| b)
  apply BitVec.eq_of_getLsbD_eq
  intro i hi
  simp [BitVec.getLsbD_or, BitVec.getLsbD_ofNat, Nat.testBit_or, hi]
theorem hs_shl1 : ∀ o : Nat, o < 8 → (1 : Int32) <<< (nI o &&& 31) = nI (2 ^ o) := by
  intro o ho
  have := pk_shlN (n := 1) (nI o &&& 31) o (s_l o (by omega)) (by rw [Nat.one_mul]; exact Nat.pow_lt_pow_right (by decide) (by omega))
  rw [Nat.one_mul] at this
  exact this
theorem hs_mkLt {m : Nat} {v : Int64} (hv : hs_rv v) (h : m < 256) : hs_mk m v < 256 := by
  unfold hs_mk
  cases e : hs_ob v with
  | none => exact h
  | some o =>
    have := (hs_obLt hv e).1
    exact Nat.or_lt_two_pow (n := 8) h (Nat.pow_lt_pow_right (by decide) this)
theorem hs_xBit {v : Int64} (hv : hs_rv v) {m : Nat} {post : Int32 → Prop} (H : ∀ r, nI m ||| r = nI (hs_mk m v) → post r) : wpX_bitOf post v := by
  cases e : hs_ob v with
  | none =>
    refine br_f (hs_obN hv e).2 (H 0 ?_)
    unfold hs_mk
    rw [e]
    have := hs_nor m 0
    rw [Nat.or_zero] at this
    exact this
  | some o =>
    obtain ⟨a, b, c, d⟩ := hs_obLt hv e
    refine br_t d (H _ ?_)
    rw [b, hs_shl1 o a, hs_nor]
    unfold hs_mk
    rw [e]
def hs_mks (a : Nat → Int64) : Nat → Nat → Nat → Nat
  | 0, _, m => m
  | n + 1, i, m => hs_mks a n (i + 1) (hs_mk m (a i))
theorem hs_mksLt {a : Nat → Int64} : ∀ (n i m : Nat), (∀ j, i ≤ j → j < i + n → hs_rv (a j)) → m < 256 → hs_mks a n i m < 256
  | 0, _, _, _, h => h
  | n + 1, i, m, hv, h => hs_mksLt n (i + 1) _ (fun j j1 j2 => hv j (by omega) (by omega)) (hs_mkLt (hv i (by omega) (by omega)) h)
def hs_rd (a : Nat → Int64) : Nat → Nat → Nat → Nat
  | 0, _, m => m
  | n + 1, i, m => hs_rd a n (i + 1) (if m.testBit (i / 26) then hs_mk m (a i) else m)
def hs_rds (a : Nat → Int64) : Nat → Nat → Nat
  | 0, m => m
  | n + 1, m => hs_rds a n (hs_rd a 208 0 m)
theorem hs_rdLt {a : Nat → Int64} : ∀ (n i m : Nat), (∀ j, i ≤ j → j < i + n → hs_rv (a j)) → m < 256 → hs_rd a n i m < 256
  | 0, _, _, _, h => h
  | n + 1, i, m, hv, h => by
    refine hs_rdLt n (i + 1) _ (fun j j1 j2 => hv j (by omega) (by omega)) ?_
    split
    · exact hs_mkLt (hv i (by omega) (by omega)) h
    · exact h
theorem hs_bit {m k : Nat} (hm : m < 256) (hk : k < 8) : ((nI m >>> (nI k &&& 31)) &&& 1) = (if m.testBit k then 1 else 0) := by
  rw [pk_shrN (n := m) (by omega) _ k (s_l k (by omega)), pk_andN (n := m / 2 ^ k) (by have := Nat.div_le_self m (2 ^ k); omega) 1 (by decide)]
  rw [Nat.testBit_eq_decide_div_mod_eq]
  have := Nat.mod_two_eq_zero_or_one (m / 2 ^ k)
  rcases this with h | h
  · rw [h]; rfl
  · rw [h]; rfl
-- X
theorem hs_xL125 {at1 : Nat → Int64} (hv : ∀ j, j < 208 → hs_rv (at1 j)) {post : Int32 → Prop} {J : Int32 → Int32 → Prop} {x2 : Int32} : ∀ (n i m : Nat), i + n = 208 → m < 256 → J (nI (hs_rd at1 n i m)) (x2 + 1) → wX_liveObjects_125 post J x2 x_objectLimit x_stepLimit x_depthLimit x_pendingCount x_keptTokens x_keptLines x_lineCount x_codeCount x_cursor x_stop x_waitingCount x_openCount x_classCount x_callCount x_operandCount x_stepsTaken x_error x_raisedCode x_printCount x_lastResult x_lastPlace x_pending x_lineTable x_code x_waiting x_globals x_entries x_orders x_merging x_letterClass x_objectClass at1 x_calls x_held x_operands x_lastPrints (n + 1) (nI m) (nI i) := by
  intro n
  induction n with
  | zero =>
    intro i m hi hm H
    exact br_t (nI_le (a := 208) (by omega) (by omega)) (nm_e H)
  | succ n ih =>
    intro i m hi hm H
    refine br_f (nI_ge (b := 208) (by omega) (by decide)) (And.intro (by decide) ?_)
    have ed : nI i / 26 = nI (i / 26) := pk_div (d := 26) (by omega) (by decide) (by decide)
    rw [ed, hs_bit hm (by omega)]
    unfold hs_rd at H
    by_cases c : m.testBit (i / 26)
    · rw [if_pos c] at H
      rw [if_pos c]
      refine br_t rfl (And.intro (vp_in_nI (by omega) (by decide)) ?_)
      rw [nI_clamp (show i < 2 ^ 31 by omega)]
      exact hs_xBit (hv i (by omega)) (fun r hr => nm_r hr (nm_r (nI_1 i) (ih (i + 1) _ (by omega) (hs_mkLt (hv i (by omega)) hm) H)))
    · rw [if_neg c] at H
      rw [if_neg c]
      exact br_f (by decide) (nm_r (nI_1 i) (ih (i + 1) m (by omega) hm H))
theorem hs_xL117 {at1 : Nat → Int64} (hv : ∀ j, j < 208 → hs_rv (at1 j)) {post : Int32 → Prop} : ∀ (n i m : Nat), i + n = 8 → m < 256 → post (nI (hs_rds at1 n m)) → wX_liveObjects_117 post x_objectLimit x_stepLimit x_depthLimit x_pendingCount x_keptTokens x_keptLines x_lineCount x_codeCount x_cursor x_stop x_waitingCount x_openCount x_classCount x_callCount x_operandCount x_stepsTaken x_error x_raisedCode x_printCount x_lastResult x_lastPlace x_pending x_lineTable x_code x_waiting x_globals x_entries x_orders x_merging x_letterClass x_objectClass at1 x_calls x_held x_operands x_lastPrints (n + 1) (nI m) (nI i) := by
  intro n
  induction n with
  | zero =>
    intro i m hi hm H
    exact br_t (nI_le (a := 8) (by omega) (by omega)) H
  | succ n ih =>
    intro i m hi hm H
    refine br_f (nI_ge (b := 8) (by omega) (by decide)) ⟨209, hs_xL125 hv 208 0 m rfl hm ?_⟩
    rw [nI_1]
    exact ih (i + 1) _ (by omega) (hs_rdLt 208 0 m (fun j _ j2 => hv j (by omega)) hm) H
theorem hs_xL89 {at1 op : Nat → Int64} {on : Nat} (hon : on ≤ 280) (hv : ∀ j, j < 208 → hs_rv (at1 j)) (ho : ∀ j, j < on → hs_rv (op j)) {post : Int32 → Prop} : ∀ (n i m : Nat), i + n = on → m < 256 → post (nI (hs_rds at1 8 (hs_mks op n i m))) → wX_liveObjects_89 post x_objectLimit x_stepLimit x_depthLimit x_pendingCount x_keptTokens x_keptLines x_lineCount x_codeCount x_cursor x_stop x_waitingCount x_openCount x_classCount x_callCount (nI on) x_stepsTaken x_error x_raisedCode x_printCount x_lastResult x_lastPlace x_pending x_lineTable x_code x_waiting x_globals x_entries x_orders x_merging x_letterClass x_objectClass at1 x_calls x_held op x_lastPrints (n + 1) (nI m) (nI i) := by
  intro n
  induction n with
  | zero =>
    intro i m hi hm H
    exact br_t (nI_le (by omega) (by omega)) ⟨9, hs_xL117 hv 8 0 m rfl hm H⟩
  | succ n ih =>
    intro i m hi hm H
    refine br_f (nI_ge (by omega) (by omega)) (And.intro (vp_in_nI (by omega) (by decide)) ?_)
    rw [nI_clamp (show i < 2 ^ 31 by omega)]
    exact hs_xBit (ho i (by omega)) (fun r hr => nm_r hr (nm_r (nI_1 i) (ih (i + 1) _ (by omega) (hs_mkLt (ho i (by omega)) hm) H)))
theorem hs_xL58 {at1 op he : Nat → Int64} {on cl : Nat} (hcl : cl ≤ 7) (hon : on ≤ 280) (hv : ∀ j, j < 208 → hs_rv (at1 j)) (ho : ∀ j, j < on → hs_rv (op j)) (hh : ∀ j, j < cl * 27 → hs_rv (he j)) {post : Int32 → Prop} : ∀ (n i m : Nat), (i + n = cl * 27 ∨ (n = 0 ∧ cl * 27 ≤ i ∧ i < 1000)) → m < 256 → post (nI (hs_rds at1 8 (hs_mks op on 0 (hs_mks he n i m)))) → wX_liveObjects_58 post x_objectLimit x_stepLimit x_depthLimit x_pendingCount x_keptTokens x_keptLines x_lineCount x_codeCount x_cursor x_stop x_waitingCount x_openCount x_classCount (nI cl) (nI on) x_stepsTaken x_error x_raisedCode x_printCount x_lastResult x_lastPlace x_pending x_lineTable x_code x_waiting x_globals x_entries x_orders x_merging x_letterClass x_objectClass at1 x_calls he op x_lastPrints (n + 1) (nI m) (nI i) := by
  have ec : nI cl * 27 = nI (cl * 27) := pk_mul cl 27
  intro n
  induction n with
  | zero =>
    intro i m hi hm H
    refine br_t ?_ ⟨on + 1, hs_xL89 hon hv ho on 0 m (by omega) hm H⟩
    rw [ec]; exact nI_le (by omega) (by omega)
  | succ n ih =>
    intro i m hi hm H
    refine br_f ?_ (And.intro (vp_in_nI (by omega) (by decide)) ?_)
    · rw [ec]; exact nI_ge (by omega) (by omega)
    rw [nI_clamp (show i < 2 ^ 31 by omega)]
    exact hs_xBit (hh i (by omega)) (fun r hr => nm_r hr (nm_r (nI_1 i) (ih (i + 1) _ (by omega) (hs_mkLt (hh i (by omega)) hm) H)))
theorem hs_xL30 {at1 op he ex : Nat → Int64} {on cl : Nat} (hcl : cl ≤ 7) (hon : on ≤ 280) (hv : ∀ j, j < 208 → hs_rv (at1 j)) (ho : ∀ j, j < on → hs_rv (op j)) (hh : ∀ j, j < cl * 27 → hs_rv (he j)) (hx : ∀ j, j < 260 → hs_rv (ex j)) {post : Int32 → Prop} : ∀ (n i m : Nat), i + n = 260 → m < 256 → post (nI (hs_rds at1 8 (hs_mks op on 0 (hs_mks he (cl * 27 - 27) 27 (hs_mks ex n i m))))) → wX_liveObjects_30 post x_objectLimit x_stepLimit x_depthLimit x_pendingCount x_keptTokens x_keptLines x_lineCount x_codeCount x_cursor x_stop x_waitingCount x_openCount x_classCount (nI cl) (nI on) x_stepsTaken x_error x_raisedCode x_printCount x_lastResult x_lastPlace x_pending x_lineTable x_code x_waiting x_globals ex x_orders x_merging x_letterClass x_objectClass at1 x_calls he op x_lastPrints (n + 1) (nI m) (nI i) := by
  intro n
  induction n with
  | zero =>
    intro i m hi hm H
    refine br_t (nI_le (a := 260) (by omega) (by omega)) ⟨cl * 27 - 27 + 1, hs_xL58 hcl hon hv ho hh _ 27 m (by omega) hm H⟩
  | succ n ih =>
    intro i m hi hm H
    refine br_f (nI_ge (b := 260) (by omega) (by decide)) (And.intro (vp_in_nI (by omega) (by decide)) ?_)
    rw [nI_clamp (show i < 2 ^ 31 by omega)]
    exact hs_xBit (hx i (by omega)) (fun r hr => nm_r hr (nm_r (nI_1 i) (ih (i + 1) _ (by omega) (hs_mkLt (hx i (by omega)) hm) H)))
theorem hs_xL4 {at1 op he ex gl : Nat → Int64} {on cl : Nat} (hcl : cl ≤ 7) (hon : on ≤ 280) (hv : ∀ j, j < 208 → hs_rv (at1 j)) (ho : ∀ j, j < on → hs_rv (op j)) (hh : ∀ j, j < cl * 27 → hs_rv (he j)) (hx : ∀ j, j < 260 → hs_rv (ex j)) (hg : ∀ j, j < 26 → hs_rv (gl j)) {post : Int32 → Prop} : ∀ (n i m : Nat), i + n = 26 → m < 256 → post (nI (hs_rds at1 8 (hs_mks op on 0 (hs_mks he (cl * 27 - 27) 27 (hs_mks ex 260 0 (hs_mks gl n i m)))))) → wX_liveObjects_4 post x_objectLimit x_stepLimit x_depthLimit x_pendingCount x_keptTokens x_keptLines x_lineCount x_codeCount x_cursor x_stop x_waitingCount x_openCount x_classCount (nI cl) (nI on) x_stepsTaken x_error x_raisedCode x_printCount x_lastResult x_lastPlace x_pending x_lineTable x_code x_waiting gl ex x_orders x_merging x_letterClass x_objectClass at1 x_calls he op x_lastPrints (n + 1) (nI m) (nI i) := by
  intro n
  induction n with
  | zero =>
    intro i m hi hm H
    refine br_t (nI_le (a := 26) (by omega) (by omega)) ⟨261, hs_xL30 hcl hon hv ho hh hx 260 0 m rfl hm H⟩
  | succ n ih =>
    intro i m hi hm H
    refine br_f (nI_ge (b := 26) (by omega) (by decide)) (And.intro (vp_in_nI (by omega) (by decide)) ?_)
    rw [nI_clamp (show i < 2 ^ 31 by omega)]
    exact hs_xBit (hg i (by omega)) (fun r hr => nm_r hr (nm_r (nI_1 i) (ih (i + 1) _ (by omega) (hs_mkLt (hg i (by omega)) hm) H)))
/-- X's mask of the live objects -/
def hs_xm (gl ex he op at1 : Nat → Int64) (cl on : Nat) : Nat := hs_rds at1 8 (hs_mks op on 0 (hs_mks he (cl * 27 - 27) 27 (hs_mks ex 260 0 (hs_mks gl 26 0 0))))
theorem hs_xLive {at1 op he ex gl : Nat → Int64} {on cl : Nat} (hcl : cl ≤ 7) (hon : on ≤ 280) (hv : ∀ j, j < 208 → hs_rv (at1 j)) (ho : ∀ j, j < on → hs_rv (op j)) (hh : ∀ j, j < cl * 27 → hs_rv (he j)) (hx : ∀ j, j < 260 → hs_rv (ex j)) (hg : ∀ j, j < 26 → hs_rv (gl j)) {post : Int32 → Prop} (H : post (nI (hs_xm gl ex he op at1 cl on))) : wpX_liveObjects post (x_objectLimit, x_stepLimit, x_depthLimit, x_pendingCount, x_keptTokens, x_keptLines, x_lineCount, x_codeCount, x_cursor, x_stop, x_waitingCount, x_openCount, x_classCount, nI cl, nI on, x_stepsTaken, x_error, x_raisedCode, x_printCount, x_lastResult, x_lastPlace, x_pending, x_lineTable, x_code, x_waiting, gl, ex, x_orders, x_merging, x_letterClass, x_objectClass, at1, x_calls, he, op, x_lastPrints) :=
  ⟨27, hs_xL4 hcl hon hv ho hh hx hg 26 0 0 rfl (by decide) H⟩
def hs_cnt (m : Nat) : Nat → Nat → Nat
  | 0, _ => 0
  | n + 1, i => (if m.testBit i then 1 else 0) + hs_cnt m n (i + 1)
theorem hs_cntLe (m : Nat) : ∀ n i, hs_cnt m n i ≤ n
  | 0, _ => Nat.le_refl _
  | n + 1, i => by
    have := hs_cntLe m n (i + 1)
    unfold hs_cnt
    split <;> omega
theorem hs_xCount {m : Nat} (hm : m < 256) {post : Int32 → Prop} : ∀ (n i c : Nat), i + n = 8 → post (nI (c + hs_cnt m n i)) → wX_countBits_4 post (nI m) (n + 1) (nI c) (nI i) := by
  intro n
  induction n with
  | zero =>
    intro i c hi H
    exact br_t (nI_le (a := 8) (by omega) (by omega)) H
  | succ n ih =>
    intro i c hi H
    refine br_f (nI_ge (b := 8) (by omega) (by decide)) ?_
    rw [hs_bit hm (by omega)]
    unfold hs_cnt at H
    by_cases t : m.testBit i
    · rw [if_pos t] at H ⊢
      refine nm_r (nI_1 c) (nm_r (nI_1 i) (ih (i + 1) (c + 1) (by omega) ?_))
      rw [Nat.add_assoc]; exact H
    · rw [if_neg t] at H ⊢
      refine nm_r (Int32.add_zero _) (nm_r (nI_1 i) (ih (i + 1) c (by omega) ?_))
      rw [Nat.zero_add] at H; exact H
theorem hs_xCountBits {m : Nat} (hm : m < 256) {post : Int32 → Prop} (H : post (nI (hs_cnt m 8 0))) : wpX_countBits post (nI m) := by
  refine ⟨9, hs_xCount hm 8 0 0 rfl ?_⟩
  rw [Nat.zero_add]; exact H
theorem hs_xFree {m : Nat} (hm : m < 256) {post : Int32 → Prop} : ∀ (n i : Nat), i + n = 8 → (∃ o, i ≤ o ∧ o < 8 ∧ m.testBit o = false ∧ (∀ j, i ≤ j → j < o → m.testBit j = true) ∧ post (nI o)) → wX_freeObject_2 post (nI m) (n + 1) (nI i) := by
  intro n
  induction n with
  | zero => intro i hi ⟨o, a, b, _⟩; omega
  | succ n ih =>
    intro i hi ⟨o, a, b, c, d, H⟩
    refine br_f (nI_ge (b := 8) (by omega) (by decide)) ?_
    rw [hs_bit hm (by omega)]
    by_cases e : i = o
    · subst e
      rw [c]
      exact br_t rfl H
    · rw [d i (Nat.le_refl _) (by omega)]
      exact br_f (by decide) (nm_r (nI_1 i) (ih (i + 1) (by omega) ⟨o, by omega, b, c, fun j j1 j2 => d j (by omega) j2, H⟩))
end
end
section
/-! Y's live objects -/
section
variable {x_objectLimit x_stepLimit x_depthLimit x_pendingCount x_keptTokens x_keptLines x_lineCount x_codeCount x_cursor x_stop x_waitingCount x_openCount x_classCount x_callCount x_operandCount x_stepsTaken x_error x_raisedCode x_printCount x_lastPlace : Int32} {x_lastResult : Int64} {x_pending x_lineTable x_orders x_merging x_letterClass x_objectClass x_calls x_lastPrints : Nat → Int32} {x_code x_waiting x_globals x_entries x_attributes x_held x_operands : Nat → Int64}
variable {y_maxObjects y_maxSteps y_maxDepth y_kept y_end y_tokens y_pending y_lines y_classes y_prints y_place y_steps y_d y_valTop y_opTop y_opens y_pos y_tk y_tv y_stmt y_target y_err y_code y_outcome y_dry y_want y_starting y_ended y_bad y_hosted y_sawSuper : Int32} {y_result : Int64} {y_text y_numbers y_classOf y_alive y_orders y_lengths y_letters y_bases y_ops y_fLine y_fPos y_fStmt y_fTarget y_fMask y_fHome y_fOps y_fVals y_fNew y_out : Nat → Int32} {y_globals y_entries y_attrs y_vals y_locals y_fRecv : Nat → Int64}
def hs_AL (al : Nat → Int32) (m : Nat) : Prop := ∀ k, k < 8 → al k = (if m.testBit k then 1 else 0)
theorem hs_nar1 : vp_nar .boolean 1 = 1 := by decide
theorem hs_nar0 : vp_nar .boolean 0 = 0 := by decide
theorem hs_ALset {al : Nat → Int32} {m o : Nat} (h : hs_AL al m) (ho : o < 8) : hs_AL (upd al o 1) (m ||| 2 ^ o) := by
  intro k hk
  rw [Nat.testBit_or, Nat.testBit_two_pow]
  by_cases e : k = o
  · subst e
    rw [pk_us]; simp
  · rw [pk_un e, h k hk]
    simp [Ne.symm e]
theorem hs_yMark {al : Nat → Int32} {m : Nat} {v : Int64} (hv : hs_rv v) (hA : hs_AL al m) {post : SY → Prop} (H : ∀ al', hs_AL al' (hs_mk m v) → post (y_maxObjects, y_maxSteps, y_maxDepth, y_kept, y_end, y_tokens, y_pending, y_lines, y_classes, y_prints, y_place, y_steps, y_d, y_valTop, y_opTop, y_opens, y_pos, y_tk, y_tv, y_stmt, y_target, y_err, y_code, y_outcome, y_result, y_dry, y_want, y_starting, y_ended, y_bad, y_hosted, y_sawSuper, y_text, y_numbers, y_globals, y_entries, y_attrs, y_classOf, al', y_orders, y_lengths, y_letters, y_bases, y_vals, y_ops, y_locals, y_fRecv, y_fLine, y_fPos, y_fStmt, y_fTarget, y_fMask, y_fHome, y_fOps, y_fVals, y_fNew, y_out)) : wpY_mark post (y_maxObjects, y_maxSteps, y_maxDepth, y_kept, y_end, y_tokens, y_pending, y_lines, y_classes, y_prints, y_place, y_steps, y_d, y_valTop, y_opTop, y_opens, y_pos, y_tk, y_tv, y_stmt, y_target, y_err, y_code, y_outcome, y_result, y_dry, y_want, y_starting, y_ended, y_bad, y_hosted, y_sawSuper, y_text, y_numbers, y_globals, y_entries, y_attrs, y_classOf, al, y_orders, y_lengths, y_letters, y_bases, y_vals, y_ops, y_locals, y_fRecv, y_fLine, y_fPos, y_fStmt, y_fTarget, y_fMask, y_fHome, y_fOps, y_fVals, y_fNew, y_out) v := by
  unfold hs_mk at H
  cases e : hs_ob v with
  | none =>
    rw [e] at H
    exact br_f (hs_obN hv e).1 (H al hA)
  | some o =>
    rw [e] at H
    obtain ⟨a, b, c, d⟩ := hs_obLt hv e
    refine br_t c ?_
    rw [b, nI_clamp (show o < 2 ^ 31 by omega), hs_nar1]
    exact And.intro (vp_in_nI a (by decide)) (nm_e (H _ (hs_ALset hA a)))
theorem hs_yL209 {al : Nat → Int32} {m : Nat} (hA : hs_AL al m) {post : Int32 → SY → Prop} : ∀ (n i c : Nat), i + n = 8 → post (nI (c + hs_cnt m n i)) (y_maxObjects, y_maxSteps, y_maxDepth, y_kept, y_end, y_tokens, y_pending, y_lines, y_classes, y_prints, y_place, y_steps, y_d, y_valTop, y_opTop, y_opens, y_pos, y_tk, y_tv, y_stmt, y_target, y_err, y_code, y_outcome, y_result, y_dry, y_want, y_starting, y_ended, y_bad, y_hosted, y_sawSuper, y_text, y_numbers, y_globals, y_entries, y_attrs, y_classOf, al, y_orders, y_lengths, y_letters, y_bases, y_vals, y_ops, y_locals, y_fRecv, y_fLine, y_fPos, y_fStmt, y_fTarget, y_fMask, y_fHome, y_fOps, y_fVals, y_fNew, y_out) → wY_markLive_209 post y_maxObjects y_maxSteps y_maxDepth y_kept y_end y_tokens y_pending y_lines y_classes y_prints y_place y_steps y_d y_valTop y_opTop y_opens y_pos y_tk y_tv y_stmt y_target y_err y_code y_outcome y_result y_dry y_want y_starting y_ended y_bad y_hosted y_sawSuper y_text y_numbers y_globals y_entries y_attrs y_classOf al y_orders y_lengths y_letters y_bases y_vals y_ops y_locals y_fRecv y_fLine y_fPos y_fStmt y_fTarget y_fMask y_fHome y_fOps y_fVals y_fNew y_out (n + 1) (nI c) (nI i) := by
  intro n
  induction n with
  | zero =>
    intro i c hi H
    exact br_t (nI_le (a := 8) (by omega) (by omega)) H
  | succ n ih =>
    intro i c hi H
    refine br_f (nI_ge (b := 8) (by omega) (by decide)) (And.intro (vp_in_nI (by omega) (by decide)) ?_)
    rw [nI_clamp (show i < 2 ^ 31 by omega), hA i (by omega)]
    unfold hs_cnt at H
    by_cases t : m.testBit i
    · rw [if_pos t] at H ⊢
      refine br_f (by decide) (nm_r (nI_1 c) (nm_r (nI_1 i) (ih (i + 1) (c + 1) (by omega) ?_)))
      rw [Nat.add_assoc]; exact H
    · rw [if_neg t] at H ⊢
      refine br_t rfl (nm_r (nI_1 i) (ih (i + 1) c (by omega) ?_))
      rw [Nat.zero_add] at H; exact H
theorem hs_yL164 {at1 : Nat → Int64} (hv : ∀ j, j < 208 → hs_rv (at1 j)) {post : Int32 → SY → Prop} {J : Int32 → Int32 → Int32 → Int32 → Int32 → Int32 → Int32 → Int32 → Int32 → Int32 → Int32 → Int32 → Int32 → Int32 → Int32 → Int32 → Int32 → Int32 → Int32 → Int32 → Int32 → Int32 → Int32 → Int32 → Int32 → Int64 → Int32 → Int32 → Int32 → Int32 → Int32 → Int32 → Int32 → (Nat → Int32) → (Nat → Int32) → (Nat → Int64) → (Nat → Int64) → (Nat → Int64) → (Nat → Int32) → (Nat → Int32) → (Nat → Int32) → (Nat → Int32) → (Nat → Int32) → (Nat → Int32) → (Nat → Int64) → (Nat → Int32) → (Nat → Int64) → (Nat → Int64) → (Nat → Int32) → (Nat → Int32) → (Nat → Int32) → (Nat → Int32) → (Nat → Int32) → (Nat → Int32) → (Nat → Int32) → (Nat → Int32) → (Nat → Int32) → (Nat → Int32) → Prop} {x1 : Int32} : ∀ (n i m : Nat) (al : Nat → Int32), i + n = 208 → hs_AL al m → (∀ al', hs_AL al' (hs_rd at1 n i m) → J (x1 + 1) y_maxObjects y_maxSteps y_maxDepth y_kept y_end y_tokens y_pending y_lines y_classes y_prints y_place y_steps y_d y_valTop y_opTop y_opens y_pos y_tk y_tv y_stmt y_target y_err y_code y_outcome y_result y_dry y_want y_starting y_ended y_bad y_hosted y_sawSuper y_text y_numbers y_globals y_entries at1 y_classOf al' y_orders y_lengths y_letters y_bases y_vals y_ops y_locals y_fRecv y_fLine y_fPos y_fStmt y_fTarget y_fMask y_fHome y_fOps y_fVals y_fNew y_out) → wY_markLive_164 post J x1 (n + 1) (nI i) y_maxObjects y_maxSteps y_maxDepth y_kept y_end y_tokens y_pending y_lines y_classes y_prints y_place y_steps y_d y_valTop y_opTop y_opens y_pos y_tk y_tv y_stmt y_target y_err y_code y_outcome y_result y_dry y_want y_starting y_ended y_bad y_hosted y_sawSuper y_text y_numbers y_globals y_entries at1 y_classOf al y_orders y_lengths y_letters y_bases y_vals y_ops y_locals y_fRecv y_fLine y_fPos y_fStmt y_fTarget y_fMask y_fHome y_fOps y_fVals y_fNew y_out := by
  intro n
  induction n with
  | zero =>
    intro i m al hi hA H
    exact br_t (nI_le (a := 208) (by omega) (by omega)) (nm_e (H al hA))
  | succ n ih =>
    intro i m al hi hA H
    have ed : nI i / 26 = nI (i / 26) := pk_div (d := 26) (by omega) (by decide) (by decide)
    refine br_f (nI_ge (b := 208) (by omega) (by decide)) (And.intro (by decide) ?_)
    rw [ed, nI_clamp (show i / 26 < 2 ^ 31 by omega), hA (i / 26) (by omega)]
    refine And.intro (vp_in_nI (by omega) (by decide)) ?_
    unfold hs_rd at H
    by_cases c : m.testBit (i / 26)
    · rw [if_pos c] at H ⊢
      refine br_f (by decide) (And.intro (vp_in_nI (by omega) (by decide)) ?_)
      rw [nI_clamp (show i < 2 ^ 31 by omega)]
      exact hs_yMark (hv i (by omega)) hA (fun al' hA' => nm_r (nI_1 i) (ih (i + 1) _ al' (by omega) hA' H))
    · rw [if_neg c] at H ⊢
      exact br_t rfl (nm_r (nI_1 i) (ih (i + 1) m al (by omega) hA H))
theorem hs_yL156 {at1 : Nat → Int64} (hv : ∀ j, j < 208 → hs_rv (at1 j)) {post : Int32 → SY → Prop} : ∀ (n i m : Nat) (al : Nat → Int32), i + n = 8 → hs_AL al m → (∀ al', hs_AL al' (hs_rds at1 n m) → post (nI (hs_cnt (hs_rds at1 n m) 8 0)) (y_maxObjects, y_maxSteps, y_maxDepth, y_kept, y_end, y_tokens, y_pending, y_lines, y_classes, y_prints, y_place, y_steps, y_d, y_valTop, y_opTop, y_opens, y_pos, y_tk, y_tv, y_stmt, y_target, y_err, y_code, y_outcome, y_result, y_dry, y_want, y_starting, y_ended, y_bad, y_hosted, y_sawSuper, y_text, y_numbers, y_globals, y_entries, at1, y_classOf, al', y_orders, y_lengths, y_letters, y_bases, y_vals, y_ops, y_locals, y_fRecv, y_fLine, y_fPos, y_fStmt, y_fTarget, y_fMask, y_fHome, y_fOps, y_fVals, y_fNew, y_out)) → wY_markLive_156 post (n + 1) (nI i) y_maxObjects y_maxSteps y_maxDepth y_kept y_end y_tokens y_pending y_lines y_classes y_prints y_place y_steps y_d y_valTop y_opTop y_opens y_pos y_tk y_tv y_stmt y_target y_err y_code y_outcome y_result y_dry y_want y_starting y_ended y_bad y_hosted y_sawSuper y_text y_numbers y_globals y_entries at1 y_classOf al y_orders y_lengths y_letters y_bases y_vals y_ops y_locals y_fRecv y_fLine y_fPos y_fStmt y_fTarget y_fMask y_fHome y_fOps y_fVals y_fNew y_out := by
  intro n
  induction n with
  | zero =>
    intro i m al hi hA H
    refine br_t (nI_le (a := 8) (by omega) (by omega)) ⟨9, hs_yL209 hA 8 0 0 rfl ?_⟩
    rw [Nat.zero_add]; exact H al hA
  | succ n ih =>
    intro i m al hi hA H
    refine br_f (nI_ge (b := 8) (by omega) (by decide)) ⟨209, hs_yL164 hv 208 0 m al rfl hA (fun al' hA' => ?_)⟩
    rw [nI_1]
    exact ih (i + 1) _ al' (by omega) hA' H
theorem hs_yL130 {at1 fr : Nat → Int64} {dd : Nat} (hd : dd ≤ 6) (hv : ∀ j, j < 208 → hs_rv (at1 j)) (hr : ∀ j, 1 ≤ j → j ≤ dd → hs_rv (fr j)) {post : Int32 → SY → Prop} : ∀ (n i m : Nat) (al : Nat → Int32), i + n = dd + 1 → 1 ≤ i → hs_AL al m → (∀ al', hs_AL al' (hs_rds at1 8 (hs_mks fr n i m)) → post (nI (hs_cnt (hs_rds at1 8 (hs_mks fr n i m)) 8 0)) (y_maxObjects, y_maxSteps, y_maxDepth, y_kept, y_end, y_tokens, y_pending, y_lines, y_classes, y_prints, y_place, y_steps, nI dd, y_valTop, y_opTop, y_opens, y_pos, y_tk, y_tv, y_stmt, y_target, y_err, y_code, y_outcome, y_result, y_dry, y_want, y_starting, y_ended, y_bad, y_hosted, y_sawSuper, y_text, y_numbers, y_globals, y_entries, at1, y_classOf, al', y_orders, y_lengths, y_letters, y_bases, y_vals, y_ops, y_locals, fr, y_fLine, y_fPos, y_fStmt, y_fTarget, y_fMask, y_fHome, y_fOps, y_fVals, y_fNew, y_out)) → wY_markLive_130 post (n + 1) (nI i) y_maxObjects y_maxSteps y_maxDepth y_kept y_end y_tokens y_pending y_lines y_classes y_prints y_place y_steps (nI dd) y_valTop y_opTop y_opens y_pos y_tk y_tv y_stmt y_target y_err y_code y_outcome y_result y_dry y_want y_starting y_ended y_bad y_hosted y_sawSuper y_text y_numbers y_globals y_entries at1 y_classOf al y_orders y_lengths y_letters y_bases y_vals y_ops y_locals fr y_fLine y_fPos y_fStmt y_fTarget y_fMask y_fHome y_fOps y_fVals y_fNew y_out := by
  intro n
  induction n with
  | zero =>
    intro i m al hi h1 hA H
    exact br_t (nI_lt (by omega) (by omega)) ⟨9, hs_yL156 hv 8 0 m al rfl hA H⟩
  | succ n ih =>
    intro i m al hi h1 hA H
    refine br_f (nI_nlt (by omega) (by omega)) (And.intro (vp_in_nI (by omega) (by decide)) ?_)
    rw [nI_clamp (show i < 2 ^ 31 by omega)]
    exact hs_yMark (hr i h1 (by omega)) hA (fun al' hA' => nm_r (nI_1 i) (ih (i + 1) _ al' (by omega) (by omega) hA' H))
theorem hs_yL99 {at1 fr lo : Nat → Int64} {dd : Nat} (hd : dd ≤ 6) (hv : ∀ j, j < 208 → hs_rv (at1 j)) (hr : ∀ j, 1 ≤ j → j ≤ dd → hs_rv (fr j)) (hl : ∀ j, j < (dd + 1) * 26 → hs_rv (lo j)) {post : Int32 → SY → Prop} : ∀ (n i m : Nat) (al : Nat → Int32), i + n = (dd + 1) * 26 → hs_AL al m → (∀ al', hs_AL al' (hs_rds at1 8 (hs_mks fr dd 1 (hs_mks lo n i m))) → post (nI (hs_cnt (hs_rds at1 8 (hs_mks fr dd 1 (hs_mks lo n i m))) 8 0)) (y_maxObjects, y_maxSteps, y_maxDepth, y_kept, y_end, y_tokens, y_pending, y_lines, y_classes, y_prints, y_place, y_steps, nI dd, y_valTop, y_opTop, y_opens, y_pos, y_tk, y_tv, y_stmt, y_target, y_err, y_code, y_outcome, y_result, y_dry, y_want, y_starting, y_ended, y_bad, y_hosted, y_sawSuper, y_text, y_numbers, y_globals, y_entries, at1, y_classOf, al', y_orders, y_lengths, y_letters, y_bases, y_vals, y_ops, lo, fr, y_fLine, y_fPos, y_fStmt, y_fTarget, y_fMask, y_fHome, y_fOps, y_fVals, y_fNew, y_out)) → wY_markLive_99 post (n + 1) (nI i) y_maxObjects y_maxSteps y_maxDepth y_kept y_end y_tokens y_pending y_lines y_classes y_prints y_place y_steps (nI dd) y_valTop y_opTop y_opens y_pos y_tk y_tv y_stmt y_target y_err y_code y_outcome y_result y_dry y_want y_starting y_ended y_bad y_hosted y_sawSuper y_text y_numbers y_globals y_entries at1 y_classOf al y_orders y_lengths y_letters y_bases y_vals y_ops lo fr y_fLine y_fPos y_fStmt y_fTarget y_fMask y_fHome y_fOps y_fVals y_fNew y_out := by
  have ec : (nI dd + 1) * 26 = nI ((dd + 1) * 26) := by rw [nI_1]; exact pk_mul (dd + 1) 26
  intro n
  induction n with
  | zero =>
    intro i m al hi hA H
    refine br_t ?_ ⟨dd + 1, hs_yL130 hd hv hr dd 1 m al (by omega) (by omega) hA H⟩
    rw [ec]; exact nI_le (by omega) (by omega)
  | succ n ih =>
    intro i m al hi hA H
    refine br_f ?_ (And.intro (vp_in_nI (by omega) (by decide)) ?_)
    · rw [ec]; exact nI_ge (by omega) (by omega)
    rw [nI_clamp (show i < 2 ^ 31 by omega)]
    exact hs_yMark (hl i (by omega)) hA (fun al' hA' => nm_r (nI_1 i) (ih (i + 1) _ al' (by omega) hA' H))
theorem hs_yL72 {at1 fr lo va : Nat → Int64} {dd vn : Nat} (hd : dd ≤ 6) (hvn : vn ≤ 320) (hv : ∀ j, j < 208 → hs_rv (at1 j)) (hr : ∀ j, 1 ≤ j → j ≤ dd → hs_rv (fr j)) (hl : ∀ j, j < (dd + 1) * 26 → hs_rv (lo j)) (ha : ∀ j, j < vn → hs_rv (va j)) {post : Int32 → SY → Prop} : ∀ (n i m : Nat) (al : Nat → Int32), i + n = vn → hs_AL al m → (∀ al', hs_AL al' (hs_rds at1 8 (hs_mks fr dd 1 (hs_mks lo (dd * 26) 26 (hs_mks va n i m)))) → post (nI (hs_cnt (hs_rds at1 8 (hs_mks fr dd 1 (hs_mks lo (dd * 26) 26 (hs_mks va n i m)))) 8 0)) (y_maxObjects, y_maxSteps, y_maxDepth, y_kept, y_end, y_tokens, y_pending, y_lines, y_classes, y_prints, y_place, y_steps, nI dd, nI vn, y_opTop, y_opens, y_pos, y_tk, y_tv, y_stmt, y_target, y_err, y_code, y_outcome, y_result, y_dry, y_want, y_starting, y_ended, y_bad, y_hosted, y_sawSuper, y_text, y_numbers, y_globals, y_entries, at1, y_classOf, al', y_orders, y_lengths, y_letters, y_bases, va, y_ops, lo, fr, y_fLine, y_fPos, y_fStmt, y_fTarget, y_fMask, y_fHome, y_fOps, y_fVals, y_fNew, y_out)) → wY_markLive_72 post (n + 1) (nI i) y_maxObjects y_maxSteps y_maxDepth y_kept y_end y_tokens y_pending y_lines y_classes y_prints y_place y_steps (nI dd) (nI vn) y_opTop y_opens y_pos y_tk y_tv y_stmt y_target y_err y_code y_outcome y_result y_dry y_want y_starting y_ended y_bad y_hosted y_sawSuper y_text y_numbers y_globals y_entries at1 y_classOf al y_orders y_lengths y_letters y_bases va y_ops lo fr y_fLine y_fPos y_fStmt y_fTarget y_fMask y_fHome y_fOps y_fVals y_fNew y_out := by
  intro n
  induction n with
  | zero =>
    intro i m al hi hA H
    exact br_t (nI_le (by omega) (by omega)) ⟨dd * 26 + 1, hs_yL99 hd hv hr hl (dd * 26) 26 m al (by omega) hA H⟩
  | succ n ih =>
    intro i m al hi hA H
    refine br_f (nI_ge (by omega) (by omega)) (And.intro (vp_in_nI (by omega) (by decide)) ?_)
    rw [nI_clamp (show i < 2 ^ 31 by omega)]
    exact hs_yMark (ha i (by omega)) hA (fun al' hA' => nm_r (nI_1 i) (ih (i + 1) _ al' (by omega) hA' H))
theorem hs_yL47 {at1 fr lo va ey : Nat → Int64} {dd vn : Nat} (hd : dd ≤ 6) (hvn : vn ≤ 320) (hv : ∀ j, j < 208 → hs_rv (at1 j)) (hr : ∀ j, 1 ≤ j → j ≤ dd → hs_rv (fr j)) (hl : ∀ j, j < (dd + 1) * 26 → hs_rv (lo j)) (ha : ∀ j, j < vn → hs_rv (va j)) (hx : ∀ j, j < 260 → hs_rv (ey j)) {post : Int32 → SY → Prop} : ∀ (n i m : Nat) (al : Nat → Int32), i + n = 260 → hs_AL al m → (∀ al', hs_AL al' (hs_rds at1 8 (hs_mks fr dd 1 (hs_mks lo (dd * 26) 26 (hs_mks va vn 0 (hs_mks ey n i m))))) → post (nI (hs_cnt (hs_rds at1 8 (hs_mks fr dd 1 (hs_mks lo (dd * 26) 26 (hs_mks va vn 0 (hs_mks ey n i m))))) 8 0)) (y_maxObjects, y_maxSteps, y_maxDepth, y_kept, y_end, y_tokens, y_pending, y_lines, y_classes, y_prints, y_place, y_steps, nI dd, nI vn, y_opTop, y_opens, y_pos, y_tk, y_tv, y_stmt, y_target, y_err, y_code, y_outcome, y_result, y_dry, y_want, y_starting, y_ended, y_bad, y_hosted, y_sawSuper, y_text, y_numbers, y_globals, ey, at1, y_classOf, al', y_orders, y_lengths, y_letters, y_bases, va, y_ops, lo, fr, y_fLine, y_fPos, y_fStmt, y_fTarget, y_fMask, y_fHome, y_fOps, y_fVals, y_fNew, y_out)) → wY_markLive_47 post (n + 1) (nI i) y_maxObjects y_maxSteps y_maxDepth y_kept y_end y_tokens y_pending y_lines y_classes y_prints y_place y_steps (nI dd) (nI vn) y_opTop y_opens y_pos y_tk y_tv y_stmt y_target y_err y_code y_outcome y_result y_dry y_want y_starting y_ended y_bad y_hosted y_sawSuper y_text y_numbers y_globals ey at1 y_classOf al y_orders y_lengths y_letters y_bases va y_ops lo fr y_fLine y_fPos y_fStmt y_fTarget y_fMask y_fHome y_fOps y_fVals y_fNew y_out := by
  intro n
  induction n with
  | zero =>
    intro i m al hi hA H
    exact br_t (nI_le (a := 260) (by omega) (by omega)) ⟨vn + 1, hs_yL72 hd hvn hv hr hl ha vn 0 m al (by omega) hA H⟩
  | succ n ih =>
    intro i m al hi hA H
    refine br_f (nI_ge (b := 260) (by omega) (by decide)) (And.intro (vp_in_nI (by omega) (by decide)) ?_)
    rw [nI_clamp (show i < 2 ^ 31 by omega)]
    exact hs_yMark (hx i (by omega)) hA (fun al' hA' => nm_r (nI_1 i) (ih (i + 1) _ al' (by omega) hA' H))
def hs_ym (gl ey va lo fr at1 : Nat → Int64) (dd vn : Nat) : Nat := hs_rds at1 8 (hs_mks fr dd 1 (hs_mks lo (dd * 26) 26 (hs_mks va vn 0 (hs_mks ey 260 0 (hs_mks gl 26 0 0)))))
theorem hs_yL23 {at1 fr lo va ey gl : Nat → Int64} {dd vn : Nat} (hd : dd ≤ 6) (hvn : vn ≤ 320) (hv : ∀ j, j < 208 → hs_rv (at1 j)) (hr : ∀ j, 1 ≤ j → j ≤ dd → hs_rv (fr j)) (hl : ∀ j, j < (dd + 1) * 26 → hs_rv (lo j)) (ha : ∀ j, j < vn → hs_rv (va j)) (hx : ∀ j, j < 260 → hs_rv (ey j)) (hg : ∀ j, j < 26 → hs_rv (gl j)) {post : Int32 → SY → Prop} : ∀ (n i m : Nat) (al : Nat → Int32), i + n = 26 → hs_AL al m → (∀ al', hs_AL al' (hs_rds at1 8 (hs_mks fr dd 1 (hs_mks lo (dd * 26) 26 (hs_mks va vn 0 (hs_mks ey 260 0 (hs_mks gl n i m)))))) → post (nI (hs_cnt (hs_rds at1 8 (hs_mks fr dd 1 (hs_mks lo (dd * 26) 26 (hs_mks va vn 0 (hs_mks ey 260 0 (hs_mks gl n i m)))))) 8 0)) (y_maxObjects, y_maxSteps, y_maxDepth, y_kept, y_end, y_tokens, y_pending, y_lines, y_classes, y_prints, y_place, y_steps, nI dd, nI vn, y_opTop, y_opens, y_pos, y_tk, y_tv, y_stmt, y_target, y_err, y_code, y_outcome, y_result, y_dry, y_want, y_starting, y_ended, y_bad, y_hosted, y_sawSuper, y_text, y_numbers, gl, ey, at1, y_classOf, al', y_orders, y_lengths, y_letters, y_bases, va, y_ops, lo, fr, y_fLine, y_fPos, y_fStmt, y_fTarget, y_fMask, y_fHome, y_fOps, y_fVals, y_fNew, y_out)) → wY_markLive_23 post (n + 1) (nI i) y_maxObjects y_maxSteps y_maxDepth y_kept y_end y_tokens y_pending y_lines y_classes y_prints y_place y_steps (nI dd) (nI vn) y_opTop y_opens y_pos y_tk y_tv y_stmt y_target y_err y_code y_outcome y_result y_dry y_want y_starting y_ended y_bad y_hosted y_sawSuper y_text y_numbers gl ey at1 y_classOf al y_orders y_lengths y_letters y_bases va y_ops lo fr y_fLine y_fPos y_fStmt y_fTarget y_fMask y_fHome y_fOps y_fVals y_fNew y_out := by
  intro n
  induction n with
  | zero =>
    intro i m al hi hA H
    exact br_t (nI_le (a := 26) (by omega) (by omega)) ⟨261, hs_yL47 hd hvn hv hr hl ha hx 260 0 m al (by omega) hA H⟩
  | succ n ih =>
    intro i m al hi hA H
    refine br_f (nI_ge (b := 26) (by omega) (by decide)) (And.intro (vp_in_nI (by omega) (by decide)) ?_)
    rw [nI_clamp (show i < 2 ^ 31 by omega)]
    exact hs_yMark (hg i (by omega)) hA (fun al' hA' => nm_r (nI_1 i) (ih (i + 1) _ al' (by omega) hA' H))
theorem hs_yL2 {at1 fr lo va ey gl : Nat → Int64} {dd vn : Nat} (hd : dd ≤ 6) (hvn : vn ≤ 320) (hv : ∀ j, j < 208 → hs_rv (at1 j)) (hr : ∀ j, 1 ≤ j → j ≤ dd → hs_rv (fr j)) (hl : ∀ j, j < (dd + 1) * 26 → hs_rv (lo j)) (ha : ∀ j, j < vn → hs_rv (va j)) (hx : ∀ j, j < 260 → hs_rv (ey j)) (hg : ∀ j, j < 26 → hs_rv (gl j)) {post : Int32 → SY → Prop} (H : ∀ al', hs_AL al' (hs_ym gl ey va lo fr at1 dd vn) → post (nI (hs_cnt (hs_ym gl ey va lo fr at1 dd vn) 8 0)) (y_maxObjects, y_maxSteps, y_maxDepth, y_kept, y_end, y_tokens, y_pending, y_lines, y_classes, y_prints, y_place, y_steps, nI dd, nI vn, y_opTop, y_opens, y_pos, y_tk, y_tv, y_stmt, y_target, y_err, y_code, y_outcome, y_result, y_dry, y_want, y_starting, y_ended, y_bad, y_hosted, y_sawSuper, y_text, y_numbers, gl, ey, at1, y_classOf, al', y_orders, y_lengths, y_letters, y_bases, va, y_ops, lo, fr, y_fLine, y_fPos, y_fStmt, y_fTarget, y_fMask, y_fHome, y_fOps, y_fVals, y_fNew, y_out)) : ∀ (n i : Nat) (al : Nat → Int32), i + n = 8 → (∀ k, k < i → al k = 0) → wY_markLive_2 post y_maxObjects y_maxSteps y_maxDepth y_kept y_end y_tokens y_pending y_lines y_classes y_prints y_place y_steps (nI dd) (nI vn) y_opTop y_opens y_pos y_tk y_tv y_stmt y_target y_err y_code y_outcome y_result y_dry y_want y_starting y_ended y_bad y_hosted y_sawSuper (n + 1) (nI i) y_text y_numbers gl ey at1 y_classOf al y_orders y_lengths y_letters y_bases va y_ops lo fr y_fLine y_fPos y_fStmt y_fTarget y_fMask y_fHome y_fOps y_fVals y_fNew y_out := by
  intro n
  induction n with
  | zero =>
    intro i al hi h0
    refine br_t (nI_le (a := 8) (by omega) (by omega)) ⟨27, hs_yL23 hd hvn hv hr hl ha hx hg 26 0 0 al rfl (fun k hk => ?_) H⟩
    rw [h0 k (by omega)]; simp
  | succ n ih =>
    intro i al hi h0
    refine br_f (nI_ge (b := 8) (by omega) (by decide)) (And.intro (vp_in_nI (by omega) (by decide)) ?_)
    rw [nI_clamp (show i < 2 ^ 31 by omega), hs_nar0]
    refine nm_e (nm_r (nI_1 i) (ih (i + 1) _ (by omega) (fun k hk => ?_)))
    by_cases e : k = i
    · subst e; exact pk_us
    · rw [pk_un e]; exact h0 k (by omega)
theorem hs_yMarkLive {at1 fr lo va ey gl : Nat → Int64} {dd vn : Nat} (hd : dd ≤ 6) (hvn : vn ≤ 320) (hv : ∀ j, j < 208 → hs_rv (at1 j)) (hr : ∀ j, 1 ≤ j → j ≤ dd → hs_rv (fr j)) (hl : ∀ j, j < (dd + 1) * 26 → hs_rv (lo j)) (ha : ∀ j, j < vn → hs_rv (va j)) (hx : ∀ j, j < 260 → hs_rv (ey j)) (hg : ∀ j, j < 26 → hs_rv (gl j)) {post : Int32 → SY → Prop} (H : ∀ al', hs_AL al' (hs_ym gl ey va lo fr at1 dd vn) → post (nI (hs_cnt (hs_ym gl ey va lo fr at1 dd vn) 8 0)) (y_maxObjects, y_maxSteps, y_maxDepth, y_kept, y_end, y_tokens, y_pending, y_lines, y_classes, y_prints, y_place, y_steps, nI dd, nI vn, y_opTop, y_opens, y_pos, y_tk, y_tv, y_stmt, y_target, y_err, y_code, y_outcome, y_result, y_dry, y_want, y_starting, y_ended, y_bad, y_hosted, y_sawSuper, y_text, y_numbers, gl, ey, at1, y_classOf, al', y_orders, y_lengths, y_letters, y_bases, va, y_ops, lo, fr, y_fLine, y_fPos, y_fStmt, y_fTarget, y_fMask, y_fHome, y_fOps, y_fVals, y_fNew, y_out)) : wpY_markLive post (y_maxObjects, y_maxSteps, y_maxDepth, y_kept, y_end, y_tokens, y_pending, y_lines, y_classes, y_prints, y_place, y_steps, nI dd, nI vn, y_opTop, y_opens, y_pos, y_tk, y_tv, y_stmt, y_target, y_err, y_code, y_outcome, y_result, y_dry, y_want, y_starting, y_ended, y_bad, y_hosted, y_sawSuper, y_text, y_numbers, gl, ey, at1, y_classOf, y_alive, y_orders, y_lengths, y_letters, y_bases, va, y_ops, lo, fr, y_fLine, y_fPos, y_fStmt, y_fTarget, y_fMask, y_fHome, y_fOps, y_fVals, y_fNew, y_out) :=
  ⟨9, hs_yL2 hd hvn hv hr hl ha hx hg H 8 0 y_alive rfl (fun k hk => by omega)⟩
/-- the two masks -/
theorem hs_mkBit {m k : Nat} {v : Int64} : (hs_mk m v).testBit k = true ↔ (m.testBit k = true ∨ hs_ob v = some k) := by
  unfold hs_mk
  cases e : hs_ob v with
  | none => simp
  | some o =>
    rw [Nat.testBit_or, Nat.testBit_two_pow]
    simp
theorem hs_mksBit {a : Nat → Int64} {k : Nat} : ∀ (n i m : Nat), (hs_mks a n i m).testBit k = true ↔ (m.testBit k = true ∨ ∃ j, i ≤ j ∧ j < i + n ∧ hs_ob (a j) = some k)
  | 0, i, m => by
    constructor
    · exact Or.inl
    · rintro (h | ⟨j, a, b, _⟩)
      · exact h
      · omega
  | n + 1, i, m => by
    have ih := hs_mksBit (a := a) (k := k) n (i + 1) (hs_mk m (a i))
    show (hs_mks a n (i + 1) (hs_mk m (a i))).testBit k = true ↔ _
    rw [ih, hs_mkBit]
    constructor
    · rintro ((h | h) | ⟨j, j1, j2, j3⟩)
      · exact Or.inl h
      · exact Or.inr ⟨i, by omega, by omega, h⟩
      · exact Or.inr ⟨j, by omega, by omega, j3⟩
    · rintro (h | ⟨j, j1, j2, j3⟩)
      · exact Or.inl (Or.inl h)
      · by_cases e : j = i
        · subst e; exact Or.inl (Or.inr j3)
        · exact Or.inr ⟨j, by omega, by omega, j3⟩
theorem hs_xym {gl ex ey he op va lo fr at1 : Nat → Int64} {dd n : Nat} (hE : ∀ j k, j < 260 → (hs_ob (ex j) = some k ↔ hs_ob (ey j) = some k)) (hO : ∀ j, j < n → op j = va j) (hH : ∀ j c, 1 ≤ j → j ≤ dd → c < 26 → he (j * 27 + c) = lo (j * 26 + c)) (hF : ∀ j, 1 ≤ j → j ≤ dd → he (j * 27 + 26) = fr j) : hs_xm gl ex he op at1 (dd + 1) n = hs_ym gl ey va lo fr at1 dd n := by
  unfold hs_xm hs_ym
  refine congrArg (hs_rds at1 8) ?_
  apply Nat.eq_of_testBit_eq
  intro k
  rw [Bool.eq_iff_iff]
  generalize hs_mks gl 26 0 0 = g0
  rw [hs_mksBit, hs_mksBit, hs_mksBit, hs_mksBit, hs_mksBit, hs_mksBit, hs_mksBit]
  have eE : (∃ j, 0 ≤ j ∧ j < 0 + 260 ∧ hs_ob (ex j) = some k) ↔ (∃ j, 0 ≤ j ∧ j < 0 + 260 ∧ hs_ob (ey j) = some k) :=
    ⟨fun ⟨j, a, b, c⟩ => ⟨j, a, b, (hE j k (by omega)).mp c⟩, fun ⟨j, a, b, c⟩ => ⟨j, a, b, (hE j k (by omega)).mpr c⟩⟩
  have eO : (∃ j, 0 ≤ j ∧ j < 0 + n ∧ hs_ob (op j) = some k) ↔ (∃ j, 0 ≤ j ∧ j < 0 + n ∧ hs_ob (va j) = some k) :=
    ⟨fun ⟨j, a, b, c⟩ => ⟨j, a, b, by rw [← hO j (by omega)]; exact c⟩, fun ⟨j, a, b, c⟩ => ⟨j, a, b, by rw [hO j (by omega)]; exact c⟩⟩
  have eH : (∃ j, 27 ≤ j ∧ j < 27 + ((dd + 1) * 27 - 27) ∧ hs_ob (he j) = some k) ↔ ((∃ j, 26 ≤ j ∧ j < 26 + dd * 26 ∧ hs_ob (lo j) = some k) ∨ (∃ j, 1 ≤ j ∧ j < 1 + dd ∧ hs_ob (fr j) = some k)) := by
    constructor
    · rintro ⟨j, a, b, c⟩
      have e := Nat.div_add_mod j 27
      have m := Nat.mod_lt j (show 27 > 0 by decide)
      by_cases q : j % 27 = 26
      · right
        refine ⟨j / 27, by omega, by omega, ?_⟩
        rw [← hF (j / 27) (by omega) (by omega), show j / 27 * 27 + 26 = j by omega]
        exact c
      · left
        refine ⟨j / 27 * 26 + j % 27, by omega, by omega, ?_⟩
        rw [← hH (j / 27) (j % 27) (by omega) (by omega) (by omega), show j / 27 * 27 + j % 27 = j by omega]
        exact c
    · rintro (⟨j, a, b, c⟩ | ⟨j, a, b, c⟩)
      · have e := Nat.div_add_mod j 26
        have m := Nat.mod_lt j (show 26 > 0 by decide)
        refine ⟨j / 26 * 27 + j % 26, by omega, by omega, ?_⟩
        rw [hH (j / 26) (j % 26) (by omega) (by omega) (by omega), show j / 26 * 26 + j % 26 = j by omega]
        exact c
      · refine ⟨j * 27 + 26, by omega, by omega, ?_⟩
        rw [hF j a (by omega)]
        exact c
  rw [eE, eO, eH]
  constructor
  · rintro (((h | h) | (h | h)) | h)
    · exact Or.inl (Or.inl (Or.inl (Or.inl h)))
    · exact Or.inl (Or.inl (Or.inl (Or.inr h)))
    · exact Or.inl (Or.inr h)
    · exact Or.inr h
    · exact Or.inl (Or.inl (Or.inr h))
  · rintro ((((h | h) | h) | h) | h)
    · exact Or.inl (Or.inl (Or.inl h))
    · exact Or.inl (Or.inl (Or.inr h))
    · exact Or.inr h
    · exact Or.inl (Or.inr (Or.inl h))
    · exact Or.inl (Or.inr (Or.inr h))
end
end
section
/-! an expression before its colon -/
theorem hs_hd25 {r : List Nat} {k : Nat} (hk : k ≠ 0) (hk2 : k ≠ 25) : hs_hd (r ++ [25]) = k ↔ hs_hd r = k := by
  cases r with
  | nil => exact ⟨fun h => absurd h.symm hk2, fun h => absurd h.symm hk⟩
  | cons a r => exact Iff.rfl
theorem hs_rk25 {r : List Nat} : hs_rank (hs_hd (r ++ [25])) = hs_rank (hs_hd r) := by
  cases r with
  | nil => rfl
  | cons a r => rfl
def hs_ap25 : hs_R → hs_R
  | none => none
  | some (r, w, st, e) => some (r ++ [25], w, st, e)
theorem hs_psh25 {s : Nat} {r st : List Nat} : hs_psh s (r ++ [25]) st = hs_ap25 (hs_psh s r st) := by
  unfold hs_psh
  split <;> rfl
theorem hs_isN25 : hs_isN 25 = false := by decide
theorem hs_step25a {z w : Bool} {ts st : List Nat} (h : ts ≠ [] ∨ w = true ∨ 27 ≤ hs_hd st % 64) : hs_step z (ts ++ [25]) w st = hs_ap25 (hs_step z ts w st) := by
  cases w with
  | true =>
    cases ts with
    | nil => rfl
    | cons t r =>
      show hs_opd t (r ++ [25]) st = hs_ap25 (hs_opd t r st)
      unfold hs_opd
      split
      · rfl
      split
      · rfl
      split
      · rfl
      split
      · exact hs_psh25
      split
      · cases r with
        | nil => rfl
        | cons k r1 =>
          show (if k = 21 then hs_psh _ (r1 ++ [25]) st else if k = 24 then _ else none) = hs_ap25 (if k = 21 then hs_psh _ r1 st else if k = 24 then _ else none)
          split
          · exact hs_psh25
          split
          · cases r1 with
            | nil => rfl
            | cons n r2 =>
              show (if hs_isN n = true ∧ hs_hd (r2 ++ [25]) ≠ 21 then _ else none) = hs_ap25 (if hs_isN n = true ∧ hs_hd r2 ≠ 21 then _ else none)
              by_cases c : hs_isN n = true ∧ hs_hd r2 ≠ 21
              · rw [if_pos c, if_pos ⟨c.1, fun y => c.2 ((hs_hd25 (by decide) (by decide)).mp y)⟩]; rfl
              · rw [if_neg c, if_neg (fun y => c ⟨y.1, fun x => y.2 ((hs_hd25 (by decide) (by decide)).mpr x)⟩)]; rfl
          · rfl
      split
      · cases r with
        | nil => rfl
        | cons k r1 =>
          cases r1 with
          | nil => rfl
          | cons n r2 =>
            cases r2 with
            | nil =>
              show (if k = 24 ∧ hs_isN n = true ∧ 25 = 21 then _ else none) = _
              rw [if_neg (fun y => absurd y.2.2 (by decide))]; rfl
            | cons p r3 =>
              show (if k = 24 ∧ hs_isN n = true ∧ p = 21 then hs_psh _ (r3 ++ [25]) st else none) = hs_ap25 (if k = 24 ∧ hs_isN n = true ∧ p = 21 then hs_psh _ r3 st else none)
              split
              · exact hs_psh25
              · rfl
      split
      · cases st with
        | nil => rfl
        | cons s st1 =>
          show (if 2 ≤ s % 64 ∧ s % 64 ≤ 4 then _ else none) = hs_ap25 (if 2 ≤ s % 64 ∧ s % 64 ≤ 4 then _ else none)
          split <;> rfl
      · rfl
  | false =>
    show hs_opr z (ts ++ [25]) st = hs_ap25 (hs_opr z ts st)
    unfold hs_opr
    have ec : (27 ≤ hs_hd st % 64 ∧ hs_hd (ts ++ [25]) ≠ 24 ∧ hs_rank (hs_hd (ts ++ [25])) ≤ hs_rank (hs_hd st % 64) ∧ ¬ (hs_rank (hs_hd (ts ++ [25])) = 1 ∧ hs_rank (hs_hd st % 64) = 1)) ↔ (27 ≤ hs_hd st % 64 ∧ hs_hd ts ≠ 24 ∧ hs_rank (hs_hd ts) ≤ hs_rank (hs_hd st % 64) ∧ ¬ (hs_rank (hs_hd ts) = 1 ∧ hs_rank (hs_hd st % 64) = 1)) := by
      rw [hs_rk25]
      constructor
      · rintro ⟨a, b, c, d⟩; exact ⟨a, fun y => b ((hs_hd25 (by decide) (by decide)).mpr y), c, d⟩
      · rintro ⟨a, b, c, d⟩; exact ⟨a, fun y => b ((hs_hd25 (by decide) (by decide)).mp y), c, d⟩
    by_cases c : 27 ≤ hs_hd st % 64 ∧ hs_hd ts ≠ 24 ∧ hs_rank (hs_hd ts) ≤ hs_rank (hs_hd st % 64) ∧ ¬ (hs_rank (hs_hd ts) = 1 ∧ hs_rank (hs_hd st % 64) = 1)
    · rw [if_pos c, if_pos (ec.mpr c)]; rfl
    · rw [if_neg c, if_neg (fun y => c (ec.mp y))]
      cases ts with
      | nil =>
        exfalso
        rcases h with h | h | h
        · exact h rfl
        · cases h
        · exact c ⟨h, by decide, Nat.zero_le _, fun y => absurd y.1 (by decide)⟩
      | cons t r =>
        show (if 0 < hs_rank t then _ else if t = 24 then _ else if t = 22 then _ else none) = hs_ap25 (if 0 < hs_rank t then _ else if t = 24 then _ else if t = 22 then _ else none)
        split
        · split <;> rfl
        split
        · cases r with
          | nil => rfl
          | cons n r1 =>
            show (if hs_isN n = true then _ else none) = hs_ap25 (if hs_isN n = true then _ else none)
            split
            · have e21 : hs_hd (r1 ++ [25]) = 21 ↔ hs_hd r1 = 21 := hs_hd25 (by decide) (by decide)
              have e26 : hs_hd (r1 ++ [25]) = 26 ↔ hs_hd r1 = 26 := hs_hd25 (by decide) (by decide)
              simp only [List.append_eq]
              by_cases c1 : hs_hd r1 = 21
              · rw [if_pos c1, if_pos (e21.mpr c1)]
                cases r1 with
                | nil => simp [hs_hd] at c1
                | cons a r2 => exact hs_psh25
              · rw [if_neg c1, if_neg (fun y => c1 (e21.mp y))]
                by_cases c2 : hs_hd r1 = 26 ∧ z = true ∧ st = []
                · rw [if_pos c2, if_pos ⟨e26.mpr c2.1, c2.2⟩]
                  cases r1 with
                  | nil => simp [hs_hd] at c2
                  | cons a r2 => rfl
                · rw [if_neg c2, if_neg (fun y => c2 ⟨e26.mp y.1, y.2⟩)]; rfl
            · rfl
        split
        · cases st with
          | nil => rfl
          | cons s st1 =>
            show (if s % 64 = 1 then _ else if 2 ≤ s % 64 ∧ s % 64 ≤ 4 then _ else none) = hs_ap25 (if s % 64 = 1 then _ else if 2 ≤ s % 64 ∧ s % 64 ≤ 4 then _ else none)
            split
            · rfl
            split <;> rfl
        · rfl
theorem hs_run25 {z : Bool} : ∀ {n : Nat} {ts : List Nat} {w : Bool} {st : List Nat} {cd : List (Nat × Nat)} {fs : List Nat}, hs_run n z ts w st cd [] fs → hs_run n z (ts ++ [25]) w st cd [25] fs := by
  intro n
  induction n with
  | zero => intro ts w st cd fs h; exact h
  | succ n ih =>
    intro ts w st cd fs h
    rcases h with ⟨f, rfl, e, rfl⟩ | ⟨f, ts', w', st', e, cd', E, rfl, h⟩
    · subst e
      exact Or.inl ⟨⟨f.1, Or.inr rfl, f.2.2⟩, rfl, rfl, rfl⟩
    · have hne : ts ≠ [] ∨ w = true ∨ 27 ≤ hs_hd st % 64 := by
        cases w with
        | true => exact Or.inr (Or.inl rfl)
        | false =>
          cases ts with
          | cons a r => exact Or.inl (by simp)
          | nil =>
            right; right
            exact Classical.byContradiction fun q => by
              have E : hs_opr z [] st = some (ts', w', st', e) := E
              unfold hs_opr at E
              rw [if_neg (fun y => q y.1)] at E
              cases E
      refine Or.inr ⟨fun y => f ⟨y.1, ?_, y.2.2⟩, ts' ++ [25], w', st', e, cd', ?_, rfl, ih h⟩
      · rcases y.2.1 with q | q
        · simp at q
        · cases ts with
          | nil => exact Or.inl rfl
          | cons a r => exact Or.inr q
      · rw [hs_step25a hne, E]; rfl
theorem hs_run25b {z : Bool} : ∀ {n : Nat} {ts : List Nat} {w : Bool} {st : List Nat} {cd : List (Nat × Nat)} {fs : List Nat}, hs_run n z (ts ++ [25]) w st cd [25] fs → hs_run n z ts w st cd [] fs := by
  intro n
  induction n with
  | zero => intro ts w st cd fs h; exact h
  | succ n ih =>
    intro ts w st cd fs h
    rcases h with ⟨f, rfl, e, rfl⟩ | ⟨f, ts', w', st', e, cd', E, rfl, h⟩
    · have e0 : ts = [] := by
        have := congrArg List.length e
        simp at this
        exact this
      subst e0
      exact Or.inl ⟨⟨f.1, Or.inl rfl, f.2.2⟩, rfl, rfl, rfl⟩
    · by_cases hne : ts ≠ [] ∨ w = true ∨ 27 ≤ hs_hd st % 64
      · rw [hs_step25a hne] at E
        cases hs : hs_step z ts w st with
        | none => rw [hs] at E; cases E
        | some x =>
          obtain ⟨ts1, w1, st1, e1⟩ := x
          rw [hs] at E
          cases E
          refine Or.inr ⟨fun y => f ⟨y.1, ?_, y.2.2⟩, ts1, w', st', e, cd', hs, rfl, ih h⟩
          rcases y.2.1 with q | q
          · subst q; exact Or.inr rfl
          · cases ts with
            | nil => exact Or.inr rfl
            | cons a r => exact Or.inr q
      · exfalso
        have h1 : ts = [] := Classical.byContradiction fun q => hne (Or.inl q)
        have h2 : w = false := by
          cases w with
          | false => rfl
          | true => exact absurd (Or.inr (Or.inl rfl)) hne
        subst h1 h2
        have E : hs_opr z [25] st = some (ts', w', st', e) := E
        unfold hs_opr at E
        rw [if_neg (fun y => hne (Or.inr (Or.inr y.1)))] at E
        cases E
theorem hs_S25i {z w : Bool} {ts st fs : List Nat} {cd : List (Nat × Nat)} : hs_S z (ts ++ [25]) w st cd [25] fs ↔ hs_S z ts w st cd [] fs :=
  ⟨fun ⟨n, h⟩ => ⟨n, hs_run25b h⟩, fun ⟨n, h⟩ => ⟨n, hs_run25 h⟩⟩
end
section
/-! the head of a line on Y's side -/
section
variable {x_objectLimit x_stepLimit x_depthLimit x_pendingCount x_keptTokens x_keptLines x_lineCount x_codeCount x_cursor x_stop x_waitingCount x_openCount x_classCount x_callCount x_operandCount x_stepsTaken x_error x_raisedCode x_printCount x_lastPlace : Int32} {x_lastResult : Int64} {x_pending x_lineTable x_orders x_merging x_letterClass x_objectClass x_calls x_lastPrints : Nat → Int32} {x_code x_waiting x_globals x_entries x_attributes x_held x_operands : Nat → Int64}
variable {y_maxObjects y_maxSteps y_maxDepth y_kept y_end y_tokens y_pending y_lines y_classes y_prints y_place y_steps y_d y_valTop y_opTop y_opens y_pos y_tk y_tv y_stmt y_target y_err y_code y_outcome y_dry y_want y_starting y_ended y_bad y_hosted y_sawSuper : Int32} {y_result : Int64} {y_text y_numbers y_classOf y_alive y_orders y_lengths y_letters y_bases y_ops y_fLine y_fPos y_fStmt y_fTarget y_fMask y_fHome y_fOps y_fVals y_fNew y_out : Nat → Int32} {y_globals y_entries y_attrs y_vals y_locals y_fRecv : Nat → Int64}
def hs_plain (t : Nat) (r : List Nat) : Prop := ¬ (1 ≤ t ∧ t ≤ 11) ∧ ¬ (hs_isN t = true ∧ hs_hd r = 26) ∧ ¬ (hs_isC t = true ∧ ∃ n r1, r = 24 :: n :: 26 :: r1 ∧ hs_isN n = true)
theorem hs_yHeadW {tx : Nat → Int32} {p t : Nat} {r : List Nat} (h : hs_TA tx p (t :: r)) (ht : 1 ≤ t ∧ t ≤ 11) {post : SY → Prop} (H : post (y_maxObjects, y_maxSteps, y_maxDepth, y_kept, y_end, y_tokens, y_pending, y_lines, y_classes, y_prints, y_place, y_steps, y_d, y_valTop, y_opTop, y_opens, nI (p + 1), nI t, nI (t - t), nI t, y_target, y_err, y_code, y_outcome, y_result, y_dry, y_want, y_starting, y_ended, y_bad, y_hosted, y_sawSuper, tx, y_numbers, y_globals, y_entries, y_attrs, y_classOf, y_alive, y_orders, y_lengths, y_letters, y_bases, y_vals, y_ops, y_locals, y_fRecv, y_fLine, y_fPos, y_fStmt, y_fTarget, y_fMask, y_fHome, y_fOps, y_fVals, y_fNew, y_out)) : wpY_head post (y_maxObjects, y_maxSteps, y_maxDepth, y_kept, y_end, y_tokens, y_pending, y_lines, y_classes, y_prints, y_place, y_steps, y_d, y_valTop, y_opTop, y_opens, y_pos, y_tk, y_tv, y_stmt, y_target, y_err, y_code, y_outcome, y_result, y_dry, y_want, y_starting, y_ended, y_bad, y_hosted, y_sawSuper, tx, y_numbers, y_globals, y_entries, y_attrs, y_classOf, y_alive, y_orders, y_lengths, y_letters, y_bases, y_vals, y_ops, y_locals, y_fRecv, y_fLine, y_fPos, y_fStmt, y_fTarget, y_fMask, y_fHome, y_fOps, y_fVals, y_fNew, y_out) (nI p) := by
  unfold wpY_head
  refine hs_yTokK h t (hs_tkS (by omega)) (br_f (nI_nle (by omega) (by omega)) (br_f (nI_nlt (a := 11) (by omega) (by decide)) H))
theorem hs_yHeadN {tx : Nat → Int32} {p t : Nat} {r : List Nat} (h : hs_TA tx p (t :: 26 :: r)) (ht : hs_isN t = true) {post : SY → Prop} (H : post (y_maxObjects, y_maxSteps, y_maxDepth, y_kept, y_end, y_tokens, y_pending, y_lines, y_classes, y_prints, y_place, y_steps, y_d, y_valTop, y_opTop, y_opens, nI (p + 1 + 1), nI 100, nI (t - 100), 51, nI (t - 100), y_err, y_code, y_outcome, y_result, y_dry, y_want, y_starting, y_ended, y_bad, y_hosted, y_sawSuper, tx, y_numbers, y_globals, y_entries, y_attrs, y_classOf, y_alive, y_orders, y_lengths, y_letters, y_bases, y_vals, y_ops, y_locals, y_fRecv, y_fLine, y_fPos, y_fStmt, y_fTarget, y_fMask, y_fHome, y_fOps, y_fVals, y_fNew, y_out)) : wpY_head post (y_maxObjects, y_maxSteps, y_maxDepth, y_kept, y_end, y_tokens, y_pending, y_lines, y_classes, y_prints, y_place, y_steps, y_d, y_valTop, y_opTop, y_opens, y_pos, y_tk, y_tv, y_stmt, y_target, y_err, y_code, y_outcome, y_result, y_dry, y_want, y_starting, y_ended, y_bad, y_hosted, y_sawSuper, tx, y_numbers, y_globals, y_entries, y_attrs, y_classOf, y_alive, y_orders, y_lengths, y_letters, y_bases, y_vals, y_ops, y_locals, y_fRecv, y_fLine, y_fPos, y_fStmt, y_fTarget, y_fMask, y_fHome, y_fOps, y_fVals, y_fNew, y_out) (nI p) := by
  have h2 := (hs_TAc h).2.2.2.2.2
  unfold wpY_head
  refine hs_yTokK h 100 (hs_tkN ht).1 (br_f (nI_nle (by decide) (by decide)) (br_t (nI_lt (a := 11) (by decide) (by decide)) ?_))
  unfold wY_head_34
  refine br_t rfl (And.intro (vp_in_nI (hs_TAlt h2) (by decide)) ?_)
  rw [nI_clamp (show p + 1 < 2 ^ 31 by have := hs_TAlt h2; omega)]
  refine br_t (hs_TAc h2).1 (nm_r (nI_1 _) ?_)
  unfold wY_head_202
  exact br_f (hs_ne (a := 51) (b := 50) (by decide) (by decide) (by decide)) H
theorem hs_yHeadC {tx : Nat → Int32} {p t n : Nat} {r : List Nat} (h : hs_TA tx p (t :: 24 :: n :: 26 :: r)) (ht : hs_isC t = true) (hn : hs_isN n = true) {post : SY → Prop} (H : post (y_maxObjects, y_maxSteps, y_maxDepth, y_kept, y_end, y_tokens, y_pending, y_lines, y_classes, y_prints, y_place, y_steps, y_d, y_valTop, y_opTop, y_opens, nI (p + 1 + 1 + 1 + 1), nI 100, nI (n - 100), 52, nI ((t - 130) * 26 + (n - 100)), y_err, y_code, y_outcome, y_result, y_dry, y_want, y_starting, y_ended, y_bad, y_hosted, y_sawSuper, tx, y_numbers, y_globals, y_entries, y_attrs, y_classOf, y_alive, y_orders, y_lengths, y_letters, y_bases, y_vals, y_ops, y_locals, y_fRecv, y_fLine, y_fPos, y_fStmt, y_fTarget, y_fMask, y_fHome, y_fOps, y_fVals, y_fNew, y_out)) : wpY_head post (y_maxObjects, y_maxSteps, y_maxDepth, y_kept, y_end, y_tokens, y_pending, y_lines, y_classes, y_prints, y_place, y_steps, y_d, y_valTop, y_opTop, y_opens, y_pos, y_tk, y_tv, y_stmt, y_target, y_err, y_code, y_outcome, y_result, y_dry, y_want, y_starting, y_ended, y_bad, y_hosted, y_sawSuper, tx, y_numbers, y_globals, y_entries, y_attrs, y_classOf, y_alive, y_orders, y_lengths, y_letters, y_bases, y_vals, y_ops, y_locals, y_fRecv, y_fLine, y_fPos, y_fStmt, y_fTarget, y_fMask, y_fHome, y_fOps, y_fVals, y_fNew, y_out) (nI p) := by
  have h2 := (hs_TAc h).2.2.2.2.2
  have h3 := (hs_TAc h2).2.2.2.2.2
  have h4 := (hs_TAc h3).2.2.2.2.2
  have l2 := hs_TAlt h2
  have l3 := hs_TAlt h3
  have l4 := hs_TAlt h4
  have k3 := hs_TAc h3
  unfold wpY_head
  refine hs_yTokK h 130 (hs_tkC ht).1 (br_f (nI_nle (by decide) (by decide)) (br_t (nI_lt (a := 11) (by decide) (by decide)) ?_))
  unfold wY_head_34
  refine br_f (hs_ne (a := 130) (b := 100) (by decide) (by decide) (by decide)) ?_
  unfold wY_head_92
  have e1 : nI (p + 1) + 1 = nI (p + 1 + 1) := nI_1 _
  have e2 : nI (p + 1) + 2 = nI (p + 1 + 1 + 1) := nI_add (p + 1) 2
  rw [e1, e2, nI_clamp (show p + 1 < 2 ^ 31 by omega), nI_clamp (show p + 1 + 1 < 2 ^ 31 by omega), nI_clamp (show p + 1 + 1 + 1 < 2 ^ 31 by omega)]
  refine br_t rfl (And.intro (vp_in_nI l2 (by decide)) (br_t (hs_TAc h2).1 (And.intro (vp_in_nI l3 (by decide)) ?_)))
  refine hs_yends (h3.2.1) (fun y => absurd y ?_) (fun _ => br_t rfl (And.intro (vp_in_nI l4 (by decide)) (br_t (hs_TAc h4).1 (nm_e ?_))))
  · rw [k3.1, nI_clamp k3.2.2.1]; exact k3.2.2.2.1
  · refine hs_yTokK h3 100 (hs_tkN hn).1 (nm_r (nI_1 _) (nm_r (show nI (t - 130) * 26 + nI (n - 100) = nI ((t - 130) * 26 + (n - 100)) from hs_ixMul (t - 130) 26 (n - 100)) (br_t rfl ?_)))
    unfold wY_head_202
    exact br_f (hs_ne (a := 52) (b := 50) (by decide) (by decide) (by decide)) H
theorem hs_yHead202 {x1 : Int32} {post : SY → Prop} (H : post (y_maxObjects, y_maxSteps, y_maxDepth, y_kept, y_end, y_tokens, y_pending, y_lines, y_classes, y_prints, y_place, y_steps, y_d, y_valTop, y_opTop, y_opens, x1, y_tk, y_tv, 50, y_target, y_err, y_code, y_outcome, y_result, y_dry, y_want, y_starting, y_ended, y_bad, y_hosted, y_sawSuper, y_text, y_numbers, y_globals, y_entries, y_attrs, y_classOf, y_alive, y_orders, y_lengths, y_letters, y_bases, y_vals, y_ops, y_locals, y_fRecv, y_fLine, y_fPos, y_fStmt, y_fTarget, y_fMask, y_fHome, y_fOps, y_fVals, y_fNew, y_out)) : wY_head_202 post x1 y_maxObjects y_maxSteps y_maxDepth y_kept y_end y_tokens y_pending y_lines y_classes y_prints y_place y_steps y_d y_valTop y_opTop y_opens y_pos y_tk y_tv 50 y_target y_err y_code y_outcome y_result y_dry y_want y_starting y_ended y_bad y_hosted y_sawSuper y_text y_numbers y_globals y_entries y_attrs y_classOf y_alive y_orders y_lengths y_letters y_bases y_vals y_ops y_locals y_fRecv y_fLine y_fPos y_fStmt y_fTarget y_fMask y_fHome y_fOps y_fVals y_fNew y_out := br_t rfl H
theorem hs_yHeadP {tx : Nat → Int32} {p t : Nat} {r : List Nat} (h : hs_TA tx p (t :: r)) (hv : ∀ x, x ∈ t :: r → hs_vt x) (hp : hs_plain t r) {post : SY → Prop} (H : ∀ (k tv tg : Int32), post (y_maxObjects, y_maxSteps, y_maxDepth, y_kept, y_end, y_tokens, y_pending, y_lines, y_classes, y_prints, y_place, y_steps, y_d, y_valTop, y_opTop, y_opens, nI p, k, tv, 50, tg, y_err, y_code, y_outcome, y_result, y_dry, y_want, y_starting, y_ended, y_bad, y_hosted, y_sawSuper, tx, y_numbers, y_globals, y_entries, y_attrs, y_classOf, y_alive, y_orders, y_lengths, y_letters, y_bases, y_vals, y_ops, y_locals, y_fRecv, y_fLine, y_fPos, y_fStmt, y_fTarget, y_fMask, y_fHome, y_fOps, y_fVals, y_fNew, y_out)) : wpY_head post (y_maxObjects, y_maxSteps, y_maxDepth, y_kept, y_end, y_tokens, y_pending, y_lines, y_classes, y_prints, y_place, y_steps, y_d, y_valTop, y_opTop, y_opens, y_pos, y_tk, y_tv, y_stmt, y_target, y_err, y_code, y_outcome, y_result, y_dry, y_want, y_starting, y_ended, y_bad, y_hosted, y_sawSuper, tx, y_numbers, y_globals, y_entries, y_attrs, y_classOf, y_alive, y_orders, y_lengths, y_letters, y_bases, y_vals, y_ops, y_locals, y_fRecv, y_fLine, y_fPos, y_fStmt, y_fTarget, y_fMask, y_fHome, y_fOps, y_fVals, y_fNew, y_out) (nI p) := by
  obtain ⟨p1, p2, p3⟩ := hp
  have h2 := (hs_TAc h).2.2.2.2.2
  have l2 := hs_TAlt h2
  have tl := hs_tkLe t
  have hvt := hv t (by simp)
  have t0 := hs_enD hvt
  have k11 : 11 < hs_tk t := by
    rcases hvt with q | q | q | q | q
    · rw [hs_tkS (by omega)]; omega
    · rw [hs_tkS (by omega)]; omega
    · have := hs_tkN q; omega
    · have := hs_tkC q; omega
    · rw [hs_tkB q]; omega
  unfold wpY_head
  refine hs_yTokC h (br_f (nI_nle (by omega) (by omega)) (br_t (nI_lt (a := 11) k11 (by omega)) ?_))
  unfold wY_head_34
  have b92 : wY_head_92 post (nI p) (nI (t - hs_tk t)) y_maxObjects y_maxSteps y_maxDepth y_kept y_end y_tokens y_pending y_lines y_classes y_prints y_place y_steps y_d y_valTop y_opTop y_opens (nI (p + 1)) (nI (hs_tk t)) (nI (t - hs_tk t)) 50 y_target y_err y_code y_outcome y_result y_dry y_want y_starting y_ended y_bad y_hosted y_sawSuper tx y_numbers y_globals y_entries y_attrs y_classOf y_alive y_orders y_lengths y_letters y_bases y_vals y_ops y_locals y_fRecv y_fLine y_fPos y_fStmt y_fTarget y_fMask y_fHome y_fOps y_fVals y_fNew y_out := by
    unfold wY_head_92
    have e1 : nI (p + 1) + 1 = nI (p + 1 + 1) := nI_1 _
    have e2 : nI (p + 1) + 2 = nI (p + 1 + 1 + 1) := nI_add (p + 1) 2
    rw [e1, e2, nI_clamp (show p + 1 < 2 ^ 31 by omega), nI_clamp (show p + 1 + 1 < 2 ^ 31 by omega), nI_clamp (show p + 1 + 1 + 1 < 2 ^ 31 by omega)]
    refine br_c (fun q1 => And.intro (vp_in_nI l2 (by decide)) (br_c (fun q2 => ?_) (fun _ => hs_yHead202 (H _ _ _)))) (fun _ => hs_yHead202 (H _ _ _))
    have hc : hs_isC t = true := by
      have := (nI_eq (a := hs_tk t) (b := 130) (by omega) (by decide)).mp q1
      rcases hvt with q | q | q | q | q
      · rw [hs_tkS (by omega)] at this; omega
      · rw [hs_tkS (by omega)] at this; omega
      · have := hs_tkN q; omega
      · exact q
      · rw [hs_tkB q] at this; omega
    have r24 := (hs_TAh h2 (k := 24) (hs_notEn (by decide) (by decide)) (by decide)).mp q2
    cases r with
    | nil => simp [hs_hd] at r24
    | cons a r1 =>
      have r24 : a = 24 := r24
      subst r24
      have h3 := (hs_TAc h2).2.2.2.2.2
      have l3 := hs_TAlt h3
      refine And.intro (vp_in_nI l3 (by decide)) ?_
      cases r1 with
      | nil => exact hs_yends h3.1 (fun _ => br_f (by decide) (hs_yHead202 (H _ _ _))) (fun y => absurd h3.2.1 y)
      | cons n r2 =>
        have h4 := (hs_TAc h3).2.2.2.2.2
        have l4 := hs_TAlt h4
        have k3 := hs_TAc h3
        refine hs_yends (h3.2.1) (fun y => absurd y ?_) (fun _ => br_t rfl (And.intro (vp_in_nI l4 (by decide)) (br_c (fun q3 => nm_e ?_) (fun _ => hs_yHead202 (H _ _ _)))))
        · rw [k3.1, nI_clamp k3.2.2.1]; exact k3.2.2.2.1
        · have r26 := (hs_TAh h4 (k := 26) (hs_notEn (by decide) (by decide)) (by decide)).mp q3
          have nn : hs_isN n = false := by
            cases hh : hs_isN n with
            | false => rfl
            | true =>
              cases r2 with
              | nil => simp [hs_hd] at r26
              | cons b r3 =>
                have r26 : b = 26 := r26
                subst r26
                exact absurd ⟨hc, n, r3, rfl, hh⟩ p3
          have tn := hs_tkLe n
          refine hs_yTokC h3 (nm_e (nm_e (br_f (hs_ne (b := 100) (hs_isNf (hv n (by simp)) nn) (by omega) (by decide)) (hs_yHead202 (H _ _ _)))))
  refine br_c (fun q1 => And.intro (vp_in_nI l2 (by decide)) ?_) (fun _ => b92)
  rw [nI_clamp (show p + 1 < 2 ^ 31 by omega)]
  refine br_c (fun q2 => ?_) (fun _ => b92)
  exfalso
  have r26 := (hs_TAh h2 (k := 26) (hs_notEn (by decide) (by decide)) (by decide)).mp q2
  have hn : hs_isN t = true := by
    cases hh : hs_isN t with
    | true => rfl
    | false => exact absurd ((nI_eq (a := hs_tk t) (b := 100) (by omega) (by decide)).mp q1) (hs_isNf hvt hh)
  exact p2 ⟨hn, r26⟩
end
end
section
/-! the form of a line -/
section
variable {x_objectLimit x_stepLimit x_depthLimit x_pendingCount x_keptTokens x_keptLines x_lineCount x_codeCount x_cursor x_stop x_waitingCount x_openCount x_classCount x_callCount x_operandCount x_stepsTaken x_error x_raisedCode x_printCount x_lastPlace : Int32} {x_lastResult : Int64} {x_pending x_lineTable x_orders x_merging x_letterClass x_objectClass x_calls x_lastPrints : Nat → Int32} {x_code x_waiting x_globals x_entries x_attributes x_held x_operands : Nat → Int64}
variable {y_maxObjects y_maxSteps y_maxDepth y_kept y_end y_tokens y_pending y_lines y_classes y_prints y_place y_steps y_d y_valTop y_opTop y_opens y_pos y_tk y_tv y_stmt y_target y_err y_code y_outcome y_dry y_want y_starting y_ended y_bad y_hosted y_sawSuper : Int32} {y_result : Int64} {y_text y_numbers y_classOf y_alive y_orders y_lengths y_letters y_bases y_ops y_fLine y_fPos y_fStmt y_fTarget y_fMask y_fHome y_fOps y_fVals y_fNew y_out : Nat → Int32} {y_globals y_entries y_attrs y_vals y_locals y_fRecv : Nat → Int64}
/-- what follows the word class -/
def hs_CH (f s t : Int32) (r : List Nat) : Prop := ∃ c, hs_isC c = true ∧ f = nI (c - 130) ∧ ((r = [c, 25] ∧ s = -1 ∧ t = -1) ∨ (∃ a, hs_isC a = true ∧ r = [c, 21, a, 22, 25] ∧ s = nI (a - 130) ∧ t = -1) ∨ ∃ a b, hs_isC a = true ∧ hs_isC b = true ∧ r = [c, 21, a, 23, b, 22, 25] ∧ s = nI (a - 130) ∧ t = nI (b - 130))
/-- what follows the word def -/
def hs_DH (f s t : Int32) (r : List Nat) : Prop := ∃ n a, hs_isN n = true ∧ hs_isN a = true ∧ f = nI (n - 100) ∧ s = nI (a - 100) ∧ ((r = [n, 21, a, 22, 25] ∧ t = -1) ∨ ∃ b, hs_isN b = true ∧ b ≠ a ∧ r = [n, 21, a, 23, b, 22, 25] ∧ t = nI (b - 100))
def hs_LF (k f s t : Int32) (cd : List (Nat × Nat)) : List Nat → Prop
  | [] => False
  | h :: r =>
    if h = 10 then k = 10 ∧ r = [] ∧ cd = []
    else if h = 5 ∨ h = 7 then k = nI h ∧ r = [25] ∧ cd = []
    else if h = 8 then k = 8 ∧ cd = [] ∧ ∃ n, r = [n, 25] ∧ hs_isN n = true ∧ f = nI (n - 100)
    else if h = 1 then k = 1 ∧ cd = [] ∧ hs_CH f s t r
    else if h = 2 then k = 2 ∧ cd = [] ∧ hs_DH f s t r
    else if h = 4 ∨ h = 6 then k = nI h ∧ ∃ r', r = r' ++ [25] ∧ hs_S false r' true [] cd [] []
    else if h = 3 ∨ h = 9 ∨ h = 11 then k = nI h ∧ hs_S false r true [] cd [] []
    else if hs_isN h = true ∧ hs_hd r = 26 then k = 15 ∧ f = nI (h - 100) ∧ hs_S false r.tail true [] cd [] []
    else if hs_isC h = true ∧ hs_hd r = 24 ∧ hs_isN (hs_hd r.tail) = true ∧ hs_hd r.tail.tail = 26 then k = 17 ∧ f = nI (hs_hd r.tail - 100) ∧ s = nI (h - 130) ∧ hs_S false r.tail.tail.tail true [] cd [] []
    else (k = 14 ∧ hs_S true (h :: r) true [] cd [] []) ∨ (k = 16 ∧ ∃ n, hs_isN n = true ∧ f = nI (n - 100) ∧ hs_S true (h :: r) true [] cd [] [5 + 64 * (n - 100)])
theorem hs_yIs0 {tx : Nat → Int32} {p : Nat} {r : List Nat} (h : hs_TA tx p r) {post : Int32 → SY → Prop} (h1 : r = [] → post 1 (y_maxObjects, y_maxSteps, y_maxDepth, y_kept, y_end, y_tokens, y_pending, y_lines, y_classes, y_prints, y_place, y_steps, y_d, y_valTop, y_opTop, y_opens, nI p, 0, y_tv, y_stmt, y_target, y_err, y_code, y_outcome, y_result, y_dry, y_want, y_starting, y_ended, y_bad, y_hosted, y_sawSuper, tx, y_numbers, y_globals, y_entries, y_attrs, y_classOf, y_alive, y_orders, y_lengths, y_letters, y_bases, y_vals, y_ops, y_locals, y_fRecv, y_fLine, y_fPos, y_fStmt, y_fTarget, y_fMask, y_fHome, y_fOps, y_fVals, y_fNew, y_out)) (h0 : r ≠ [] → ∀ q1 q2 q3 : Int32, post 0 (y_maxObjects, y_maxSteps, y_maxDepth, y_kept, y_end, y_tokens, y_pending, y_lines, y_classes, y_prints, y_place, y_steps, y_d, y_valTop, y_opTop, y_opens, q1, q2, q3, y_stmt, y_target, y_err, y_code, y_outcome, y_result, y_dry, y_want, y_starting, y_ended, y_bad, y_hosted, y_sawSuper, tx, y_numbers, y_globals, y_entries, y_attrs, y_classOf, y_alive, y_orders, y_lengths, y_letters, y_bases, y_vals, y_ops, y_locals, y_fRecv, y_fLine, y_fPos, y_fStmt, y_fTarget, y_fMask, y_fHome, y_fOps, y_fVals, y_fNew, y_out)) : wpY_is post (y_maxObjects, y_maxSteps, y_maxDepth, y_kept, y_end, y_tokens, y_pending, y_lines, y_classes, y_prints, y_place, y_steps, y_d, y_valTop, y_opTop, y_opens, nI p, y_tk, y_tv, y_stmt, y_target, y_err, y_code, y_outcome, y_result, y_dry, y_want, y_starting, y_ended, y_bad, y_hosted, y_sawSuper, tx, y_numbers, y_globals, y_entries, y_attrs, y_classOf, y_alive, y_orders, y_lengths, y_letters, y_bases, y_vals, y_ops, y_locals, y_fRecv, y_fLine, y_fPos, y_fStmt, y_fTarget, y_fMask, y_fHome, y_fOps, y_fVals, y_fNew, y_out) 0 := by
  cases r with
  | nil => exact hs_yIsE (k := 0) h (by decide) (fun _ => h1 rfl) (fun q => absurd rfl q)
  | cons t r =>
    have t0 := (hs_TAc h).2.1
    exact hs_yIsC (k := 0) h (by decide) (fun q => absurd q (hs_tkK (by omega) (by decide))) (fun _ => h0 (by simp) _ _ _)
/-- is a token of this word (below 100) -/
theorem hs_yIsK {tx : Nat → Int32} {p : Nat} {r : List Nat} (h : hs_TA tx p r) (k : Nat) (hk : 0 < k ∧ k < 100) {post : Int32 → SY → Prop} (h1 : ∀ r', r = k :: r' → post 1 (y_maxObjects, y_maxSteps, y_maxDepth, y_kept, y_end, y_tokens, y_pending, y_lines, y_classes, y_prints, y_place, y_steps, y_d, y_valTop, y_opTop, y_opens, nI (p + 1), nI k, nI (k - k), y_stmt, y_target, y_err, y_code, y_outcome, y_result, y_dry, y_want, y_starting, y_ended, y_bad, y_hosted, y_sawSuper, tx, y_numbers, y_globals, y_entries, y_attrs, y_classOf, y_alive, y_orders, y_lengths, y_letters, y_bases, y_vals, y_ops, y_locals, y_fRecv, y_fLine, y_fPos, y_fStmt, y_fTarget, y_fMask, y_fHome, y_fOps, y_fVals, y_fNew, y_out)) (h0 : hs_hd r ≠ k → ∀ q1 q2 q3 : Int32, post 0 (y_maxObjects, y_maxSteps, y_maxDepth, y_kept, y_end, y_tokens, y_pending, y_lines, y_classes, y_prints, y_place, y_steps, y_d, y_valTop, y_opTop, y_opens, q1, q2, q3, y_stmt, y_target, y_err, y_code, y_outcome, y_result, y_dry, y_want, y_starting, y_ended, y_bad, y_hosted, y_sawSuper, tx, y_numbers, y_globals, y_entries, y_attrs, y_classOf, y_alive, y_orders, y_lengths, y_letters, y_bases, y_vals, y_ops, y_locals, y_fRecv, y_fLine, y_fPos, y_fStmt, y_fTarget, y_fMask, y_fHome, y_fOps, y_fVals, y_fNew, y_out)) : wpY_is post (y_maxObjects, y_maxSteps, y_maxDepth, y_kept, y_end, y_tokens, y_pending, y_lines, y_classes, y_prints, y_place, y_steps, y_d, y_valTop, y_opTop, y_opens, nI p, y_tk, y_tv, y_stmt, y_target, y_err, y_code, y_outcome, y_result, y_dry, y_want, y_starting, y_ended, y_bad, y_hosted, y_sawSuper, tx, y_numbers, y_globals, y_entries, y_attrs, y_classOf, y_alive, y_orders, y_lengths, y_letters, y_bases, y_vals, y_ops, y_locals, y_fRecv, y_fLine, y_fPos, y_fStmt, y_fTarget, y_fMask, y_fHome, y_fOps, y_fVals, y_fNew, y_out) (nI k) := by
  cases r with
  | nil => exact hs_yIsE h (by omega) (fun q => by omega) (fun _ => h0 (by show 0 ≠ k; omega) _ _ _)
  | cons t r =>
    by_cases e : t = k
    · subst e
      have e2 : hs_tk t = t := hs_tkS hk.2
      refine hs_yIsC (k := t) h (by omega) (fun _ => ?_) (fun q => absurd e2 q)
      rw [e2]; exact h1 r rfl
    · refine hs_yIsC h (by omega) (fun q => absurd q (hs_tkK e hk.2)) (fun _ => h0 e _ _ _)
theorem hs_yIsN {tx : Nat → Int32} {p : Nat} {r : List Nat} (h : hs_TA tx p r) (hv : ∀ x, x ∈ r → hs_vt x) {post : Int32 → SY → Prop} (h1 : ∀ n r', r = n :: r' → hs_isN n = true → post 1 (y_maxObjects, y_maxSteps, y_maxDepth, y_kept, y_end, y_tokens, y_pending, y_lines, y_classes, y_prints, y_place, y_steps, y_d, y_valTop, y_opTop, y_opens, nI (p + 1), nI 100, nI (n - 100), y_stmt, y_target, y_err, y_code, y_outcome, y_result, y_dry, y_want, y_starting, y_ended, y_bad, y_hosted, y_sawSuper, tx, y_numbers, y_globals, y_entries, y_attrs, y_classOf, y_alive, y_orders, y_lengths, y_letters, y_bases, y_vals, y_ops, y_locals, y_fRecv, y_fLine, y_fPos, y_fStmt, y_fTarget, y_fMask, y_fHome, y_fOps, y_fVals, y_fNew, y_out)) (h0 : hs_isN (hs_hd r) = false → ∀ q1 q2 q3 : Int32, post 0 (y_maxObjects, y_maxSteps, y_maxDepth, y_kept, y_end, y_tokens, y_pending, y_lines, y_classes, y_prints, y_place, y_steps, y_d, y_valTop, y_opTop, y_opens, q1, q2, q3, y_stmt, y_target, y_err, y_code, y_outcome, y_result, y_dry, y_want, y_starting, y_ended, y_bad, y_hosted, y_sawSuper, tx, y_numbers, y_globals, y_entries, y_attrs, y_classOf, y_alive, y_orders, y_lengths, y_letters, y_bases, y_vals, y_ops, y_locals, y_fRecv, y_fLine, y_fPos, y_fStmt, y_fTarget, y_fMask, y_fHome, y_fOps, y_fVals, y_fNew, y_out)) : wpY_is post (y_maxObjects, y_maxSteps, y_maxDepth, y_kept, y_end, y_tokens, y_pending, y_lines, y_classes, y_prints, y_place, y_steps, y_d, y_valTop, y_opTop, y_opens, nI p, y_tk, y_tv, y_stmt, y_target, y_err, y_code, y_outcome, y_result, y_dry, y_want, y_starting, y_ended, y_bad, y_hosted, y_sawSuper, tx, y_numbers, y_globals, y_entries, y_attrs, y_classOf, y_alive, y_orders, y_lengths, y_letters, y_bases, y_vals, y_ops, y_locals, y_fRecv, y_fLine, y_fPos, y_fStmt, y_fTarget, y_fMask, y_fHome, y_fOps, y_fVals, y_fNew, y_out) 100 := by
  cases r with
  | nil => exact hs_yIsE (k := 100) h (by omega) (fun q => by omega) (fun _ => h0 (by decide) _ _ _)
  | cons t r =>
    cases e : hs_isN t with
    | true =>
      have e2 := (hs_tkN e).1
      refine hs_yIsC (k := 100) h (by omega) (fun _ => ?_) (fun q => absurd e2 q)
      rw [e2]; exact h1 t r rfl e
    | false => exact hs_yIsC (k := 100) h (by omega) (fun q => absurd q (hs_isNf (hv t (by simp)) e)) (fun _ => h0 e _ _ _)
theorem hs_isCf {t : Nat} (hv : hs_vt t) (h : hs_isC t = false) : hs_tk t ≠ 130 := by
  rcases hv with h2 | h2 | h2 | h2 | h2
  · rw [hs_tkS (by omega)]; omega
  · rw [hs_tkS (by omega)]; omega
  · have := hs_tkN h2; omega
  · rw [h] at h2; cases h2
  · rw [hs_tkB h2]; omega
theorem hs_yIsC1 {tx : Nat → Int32} {p : Nat} {r : List Nat} (h : hs_TA tx p r) (hv : ∀ x, x ∈ r → hs_vt x) {post : Int32 → SY → Prop} (h1 : ∀ n r', r = n :: r' → hs_isC n = true → post 1 (y_maxObjects, y_maxSteps, y_maxDepth, y_kept, y_end, y_tokens, y_pending, y_lines, y_classes, y_prints, y_place, y_steps, y_d, y_valTop, y_opTop, y_opens, nI (p + 1), nI 130, nI (n - 130), y_stmt, y_target, y_err, y_code, y_outcome, y_result, y_dry, y_want, y_starting, y_ended, y_bad, y_hosted, y_sawSuper, tx, y_numbers, y_globals, y_entries, y_attrs, y_classOf, y_alive, y_orders, y_lengths, y_letters, y_bases, y_vals, y_ops, y_locals, y_fRecv, y_fLine, y_fPos, y_fStmt, y_fTarget, y_fMask, y_fHome, y_fOps, y_fVals, y_fNew, y_out)) (h0 : hs_isC (hs_hd r) = false → ∀ q1 q2 q3 : Int32, post 0 (y_maxObjects, y_maxSteps, y_maxDepth, y_kept, y_end, y_tokens, y_pending, y_lines, y_classes, y_prints, y_place, y_steps, y_d, y_valTop, y_opTop, y_opens, q1, q2, q3, y_stmt, y_target, y_err, y_code, y_outcome, y_result, y_dry, y_want, y_starting, y_ended, y_bad, y_hosted, y_sawSuper, tx, y_numbers, y_globals, y_entries, y_attrs, y_classOf, y_alive, y_orders, y_lengths, y_letters, y_bases, y_vals, y_ops, y_locals, y_fRecv, y_fLine, y_fPos, y_fStmt, y_fTarget, y_fMask, y_fHome, y_fOps, y_fVals, y_fNew, y_out)) : wpY_is post (y_maxObjects, y_maxSteps, y_maxDepth, y_kept, y_end, y_tokens, y_pending, y_lines, y_classes, y_prints, y_place, y_steps, y_d, y_valTop, y_opTop, y_opens, nI p, y_tk, y_tv, y_stmt, y_target, y_err, y_code, y_outcome, y_result, y_dry, y_want, y_starting, y_ended, y_bad, y_hosted, y_sawSuper, tx, y_numbers, y_globals, y_entries, y_attrs, y_classOf, y_alive, y_orders, y_lengths, y_letters, y_bases, y_vals, y_ops, y_locals, y_fRecv, y_fLine, y_fPos, y_fStmt, y_fTarget, y_fMask, y_fHome, y_fOps, y_fVals, y_fNew, y_out) 130 := by
  cases r with
  | nil => exact hs_yIsE (k := 130) h (by omega) (fun q => by omega) (fun _ => h0 (by decide) _ _ _)
  | cons t r =>
    cases e : hs_isC t with
    | true =>
      have e2 := (hs_tkC e).1
      refine hs_yIsC (k := 130) h (by omega) (fun _ => ?_) (fun q => absurd e2 q)
      rw [e2]; exact h1 t r rfl e
    | false => exact hs_yIsC (k := 130) h (by omega) (fun q => absurd q (hs_isCf (hv t (by simp)) e)) (fun _ => h0 e _ _ _)
theorem hs_yTok2 {tx : Nat → Int32} {p : Nat} {r : List Nat} (h : hs_TA tx p r) {post : SY → Prop} (H0 : r = [] → post (y_maxObjects, y_maxSteps, y_maxDepth, y_kept, y_end, y_tokens, y_pending, y_lines, y_classes, y_prints, y_place, y_steps, y_d, y_valTop, y_opTop, y_opens, nI p, nI 0, y_tv, y_stmt, y_target, y_err, y_code, y_outcome, y_result, y_dry, y_want, y_starting, y_ended, y_bad, y_hosted, y_sawSuper, tx, y_numbers, y_globals, y_entries, y_attrs, y_classOf, y_alive, y_orders, y_lengths, y_letters, y_bases, y_vals, y_ops, y_locals, y_fRecv, y_fLine, y_fPos, y_fStmt, y_fTarget, y_fMask, y_fHome, y_fOps, y_fVals, y_fNew, y_out)) (H1 : ∀ t r', r = t :: r' → hs_TA tx (p + 1) r' → 0 < t → post (y_maxObjects, y_maxSteps, y_maxDepth, y_kept, y_end, y_tokens, y_pending, y_lines, y_classes, y_prints, y_place, y_steps, y_d, y_valTop, y_opTop, y_opens, nI (p + 1), nI (hs_tk t), nI (t - hs_tk t), y_stmt, y_target, y_err, y_code, y_outcome, y_result, y_dry, y_want, y_starting, y_ended, y_bad, y_hosted, y_sawSuper, tx, y_numbers, y_globals, y_entries, y_attrs, y_classOf, y_alive, y_orders, y_lengths, y_letters, y_bases, y_vals, y_ops, y_locals, y_fRecv, y_fLine, y_fPos, y_fStmt, y_fTarget, y_fMask, y_fHome, y_fOps, y_fVals, y_fNew, y_out)) : wpY_tok post (y_maxObjects, y_maxSteps, y_maxDepth, y_kept, y_end, y_tokens, y_pending, y_lines, y_classes, y_prints, y_place, y_steps, y_d, y_valTop, y_opTop, y_opens, nI p, y_tk, y_tv, y_stmt, y_target, y_err, y_code, y_outcome, y_result, y_dry, y_want, y_starting, y_ended, y_bad, y_hosted, y_sawSuper, tx, y_numbers, y_globals, y_entries, y_attrs, y_classOf, y_alive, y_orders, y_lengths, y_letters, y_bases, y_vals, y_ops, y_locals, y_fRecv, y_fLine, y_fPos, y_fStmt, y_fTarget, y_fMask, y_fHome, y_fOps, y_fVals, y_fNew, y_out) := by
  cases r with
  | nil => exact hs_yTokE h (H0 rfl)
  | cons t r => exact hs_yTokC h (H1 t r rfl (hs_TAc h).2.2.2.2.2 (hs_TAc h).2.1)
theorem hs_yC81 {tx : Nat → Int32} {p t : Nat} {r : List Nat} (h : hs_TA tx p r) {post : Int32 → SY → Prop} (H1 : t = 25 → r = [] → ∀ q1 q2 q3 : Int32, post 1 (y_maxObjects, y_maxSteps, y_maxDepth, y_kept, y_end, y_tokens, y_pending, y_lines, y_classes, y_prints, y_place, y_steps, y_d, y_valTop, y_opTop, y_opens, q1, q2, q3, y_stmt, y_target, y_err, y_code, y_outcome, y_result, y_dry, y_want, y_starting, y_ended, y_bad, y_hosted, y_sawSuper, tx, y_numbers, y_globals, y_entries, y_attrs, y_classOf, y_alive, y_orders, y_lengths, y_letters, y_bases, y_vals, y_ops, y_locals, y_fRecv, y_fLine, y_fPos, y_fStmt, y_fTarget, y_fMask, y_fHome, y_fOps, y_fVals, y_fNew, y_out)) (H0 : ¬ (t = 25 ∧ r = []) → ∀ q1 q2 q3 : Int32, post 0 (y_maxObjects, y_maxSteps, y_maxDepth, y_kept, y_end, y_tokens, y_pending, y_lines, y_classes, y_prints, y_place, y_steps, y_d, y_valTop, y_opTop, y_opens, q1, q2, q3, y_stmt, y_target, y_err, y_code, y_outcome, y_result, y_dry, y_want, y_starting, y_ended, y_bad, y_hosted, y_sawSuper, tx, y_numbers, y_globals, y_entries, y_attrs, y_classOf, y_alive, y_orders, y_lengths, y_letters, y_bases, y_vals, y_ops, y_locals, y_fRecv, y_fLine, y_fPos, y_fStmt, y_fTarget, y_fMask, y_fHome, y_fOps, y_fVals, y_fNew, y_out)) : wY_classRight_81 post y_maxObjects y_maxSteps y_maxDepth y_kept y_end y_tokens y_pending y_lines y_classes y_prints y_place y_steps y_d y_valTop y_opTop y_opens (nI p) (nI (hs_tk t)) y_tv y_stmt y_target y_err y_code y_outcome y_result y_dry y_want y_starting y_ended y_bad y_hosted y_sawSuper tx y_numbers y_globals y_entries y_attrs y_classOf y_alive y_orders y_lengths y_letters y_bases y_vals y_ops y_locals y_fRecv y_fLine y_fPos y_fStmt y_fTarget y_fMask y_fHome y_fOps y_fVals y_fNew y_out := by
  unfold wY_classRight_81
  have tl := hs_tkLe t
  by_cases e : t = 25
  · subst e
    refine br_t rfl (hs_yIs0 h (fun q => br_f (by decide) (H1 rfl q _ _ _)) (fun q _ _ _ => br_t rfl (H0 (fun y => q y.2) _ _ _)))
  · exact br_f (hs_ne (b := 25) (hs_tkK e (by decide)) (by omega) (by decide)) (H0 (fun y => e y.1) _ _ _)
theorem hs_yC66 {tx : Nat → Int32} {p t : Nat} {r : List Nat} (h : hs_TA tx p r) {post : Int32 → SY → Prop} (H1 : t = 22 → r = [25] → ∀ q1 q2 q3 : Int32, post 1 (y_maxObjects, y_maxSteps, y_maxDepth, y_kept, y_end, y_tokens, y_pending, y_lines, y_classes, y_prints, y_place, y_steps, y_d, y_valTop, y_opTop, y_opens, q1, q2, q3, y_stmt, y_target, y_err, y_code, y_outcome, y_result, y_dry, y_want, y_starting, y_ended, y_bad, y_hosted, y_sawSuper, tx, y_numbers, y_globals, y_entries, y_attrs, y_classOf, y_alive, y_orders, y_lengths, y_letters, y_bases, y_vals, y_ops, y_locals, y_fRecv, y_fLine, y_fPos, y_fStmt, y_fTarget, y_fMask, y_fHome, y_fOps, y_fVals, y_fNew, y_out)) (H0 : ¬ (t = 22 ∧ r = [25]) → ∀ q1 q2 q3 : Int32, post 0 (y_maxObjects, y_maxSteps, y_maxDepth, y_kept, y_end, y_tokens, y_pending, y_lines, y_classes, y_prints, y_place, y_steps, y_d, y_valTop, y_opTop, y_opens, q1, q2, q3, y_stmt, y_target, y_err, y_code, y_outcome, y_result, y_dry, y_want, y_starting, y_ended, y_bad, y_hosted, y_sawSuper, tx, y_numbers, y_globals, y_entries, y_attrs, y_classOf, y_alive, y_orders, y_lengths, y_letters, y_bases, y_vals, y_ops, y_locals, y_fRecv, y_fLine, y_fPos, y_fStmt, y_fTarget, y_fMask, y_fHome, y_fOps, y_fVals, y_fNew, y_out)) : wY_classRight_66 post y_maxObjects y_maxSteps y_maxDepth y_kept y_end y_tokens y_pending y_lines y_classes y_prints y_place y_steps y_d y_valTop y_opTop y_opens (nI p) (nI (hs_tk t)) y_tv y_stmt y_target y_err y_code y_outcome y_result y_dry y_want y_starting y_ended y_bad y_hosted y_sawSuper tx y_numbers y_globals y_entries y_attrs y_classOf y_alive y_orders y_lengths y_letters y_bases y_vals y_ops y_locals y_fRecv y_fLine y_fPos y_fStmt y_fTarget y_fMask y_fHome y_fOps y_fVals y_fNew y_out := by
  unfold wY_classRight_66
  have tl := hs_tkLe t
  by_cases e : t = 22
  · subst e
    refine br_t rfl (hs_yTok2 h (fun q => ?_) (fun a r' q h' _ => hs_yC81 h' (fun a25 rn q1 q2 q3 => ?_) (fun hno q1 q2 q3 => ?_)))
    · exact hs_yC81 (t := 0) (by rw [q] at h; exact h) (fun y => absurd y (by decide)) (fun _ => H0 (by rw [q]; simp))
    · exact H1 rfl (by rw [q, a25, rn]) _ _ _
    · refine H0 (fun y => hno ?_) _ _ _
      rw [q] at y
      have := y.2
      cases this
      exact ⟨rfl, rfl⟩
  · exact br_f (hs_ne (b := 22) (hs_tkK e (by decide)) (by omega) (by decide)) (H0 (fun y => e y.1) _ _ _)
theorem hs_yClass {tx : Nat → Int32} {p : Nat} {r : List Nat} (h : hs_TA tx p r) (hv : ∀ x, x ∈ r → hs_vt x) {post : Int32 → SY → Prop} (H1 : ∀ f s t, hs_CH f s t r → ∀ q1 q2 q3 : Int32, post 1 (y_maxObjects, y_maxSteps, y_maxDepth, y_kept, y_end, y_tokens, y_pending, y_lines, y_classes, y_prints, y_place, y_steps, y_d, y_valTop, y_opTop, y_opens, q1, q2, q3, y_stmt, y_target, y_err, y_code, y_outcome, y_result, y_dry, y_want, y_starting, y_ended, y_bad, y_hosted, y_sawSuper, tx, y_numbers, y_globals, y_entries, y_attrs, y_classOf, y_alive, y_orders, y_lengths, y_letters, y_bases, y_vals, y_ops, y_locals, y_fRecv, y_fLine, y_fPos, y_fStmt, y_fTarget, y_fMask, y_fHome, y_fOps, y_fVals, y_fNew, y_out)) (H0 : (∀ f s t, ¬ hs_CH f s t r) → ∀ q1 q2 q3 : Int32, post 0 (y_maxObjects, y_maxSteps, y_maxDepth, y_kept, y_end, y_tokens, y_pending, y_lines, y_classes, y_prints, y_place, y_steps, y_d, y_valTop, y_opTop, y_opens, q1, q2, q3, y_stmt, y_target, y_err, y_code, y_outcome, y_result, y_dry, y_want, y_starting, y_ended, y_bad, y_hosted, y_sawSuper, tx, y_numbers, y_globals, y_entries, y_attrs, y_classOf, y_alive, y_orders, y_lengths, y_letters, y_bases, y_vals, y_ops, y_locals, y_fRecv, y_fLine, y_fPos, y_fStmt, y_fTarget, y_fMask, y_fHome, y_fOps, y_fVals, y_fNew, y_out)) : wpY_classRight post (y_maxObjects, y_maxSteps, y_maxDepth, y_kept, y_end, y_tokens, y_pending, y_lines, y_classes, y_prints, y_place, y_steps, y_d, y_valTop, y_opTop, y_opens, nI p, y_tk, y_tv, y_stmt, y_target, y_err, y_code, y_outcome, y_result, y_dry, y_want, y_starting, y_ended, y_bad, y_hosted, y_sawSuper, tx, y_numbers, y_globals, y_entries, y_attrs, y_classOf, y_alive, y_orders, y_lengths, y_letters, y_bases, y_vals, y_ops, y_locals, y_fRecv, y_fLine, y_fPos, y_fStmt, y_fTarget, y_fMask, y_fHome, y_fOps, y_fVals, y_fNew, y_out) := by
  unfold wpY_classRight
  refine hs_yIsC1 h hv (fun c r1 e hc => br_f (by decide) ?_) (fun hc q1 q2 q3 => br_t rfl (H0 (fun f s t hh => ?_) _ _ _))
  · subst e
    have h1 := (hs_TAc h).2.2.2.2.2
    have hv1 : ∀ x, x ∈ r1 → hs_vt x := fun x hx => hv x (List.mem_cons_of_mem _ hx)
    have t21 : hs_tk 21 = 21 := rfl
    refine hs_yTok2 h1 (fun q => ?_) (fun a r2 q h2 a0 => ?_)
    · refine br_f (hs_ne (a := 0) (b := 21) (by decide) (by decide) (by decide)) (hs_yC81 (t := 0) (by rw [q] at h1; exact h1) (fun y => absurd y (by decide)) (fun _ => H0 (fun f s t hh => ?_)))
      obtain ⟨c', _, _, hh⟩ := hh
      rw [q] at hh
      rcases hh with ⟨e, _⟩ | ⟨_, _, e, _⟩ | ⟨_, _, _, _, e, _⟩ <;> cases e
    · have al := hs_tkLe a
      by_cases a21 : a = 21
      · subst a21
        subst q
        have hv2 : ∀ x, x ∈ r2 → hs_vt x := fun x hx => hv1 x (List.mem_cons_of_mem _ hx)
        refine br_t rfl (hs_yIsC1 h2 hv2 (fun b r3 e hb => br_f (by decide) ?_) (fun hb q1 q2 q3 => br_t rfl (H0 (fun f s t hh => ?_) _ _ _)))
        · subst e
          have h3 := (hs_TAc h2).2.2.2.2.2
          have hv3 : ∀ x, x ∈ r3 → hs_vt x := fun x hx => hv2 x (List.mem_cons_of_mem _ hx)
          have no3 : (∀ t r4, r3 = t :: r4 → ¬ (t = 22 ∧ r4 = [25])) → (∀ b2 r4, r3 = 23 :: b2 :: r4 → ¬ (hs_isC b2 = true ∧ r4 = [22, 25])) → ∀ f s t, ¬ hs_CH f s t (c :: 21 :: b :: r3) := by
            intro n1 n2 f s t hh
            obtain ⟨c', _, _, hh⟩ := hh
            rcases hh with ⟨e, _⟩ | ⟨a', _, e, _⟩ | ⟨a', b', _, hb', e, _⟩
            · cases e
            · cases e
              exact n1 22 [25] rfl ⟨rfl, rfl⟩
            · cases e
              exact n2 b' [22, 25] rfl ⟨hb', rfl⟩
          refine hs_yTok2 h3 (fun q => ?_) (fun d r4 q h4 d0 => ?_)
          · refine br_f (hs_ne (a := 0) (b := 23) (by decide) (by decide) (by decide)) (hs_yC66 (t := 0) (by rw [q] at h3; exact h3) (fun y => absurd y (by decide)) (fun _ => H0 (no3 (fun t r4 e => ?_) (fun t r4 e => ?_))))
            · rw [q] at e; cases e
            · rw [q] at e; cases e
          · have dl := hs_tkLe d
            by_cases d23 : d = 23
            · subst d23
              subst q
              have hv4 : ∀ x, x ∈ r4 → hs_vt x := fun x hx => hv3 x (List.mem_cons_of_mem _ hx)
              refine br_t rfl (hs_yIsC1 h4 hv4 (fun b2 r5 e hb2 => br_f (by decide) ?_) (fun hb2 q1 q2 q3 => br_t rfl (H0 (no3 (fun t r4' e y => ?_) (fun t r4' e y => ?_)) _ _ _)))
              · subst e
                have h5 := (hs_TAc h4).2.2.2.2.2
                have no5 : (∀ t r6, r5 = t :: r6 → ¬ (t = 22 ∧ r6 = [25])) → ∀ f s t, ¬ hs_CH f s t (c :: 21 :: b :: 23 :: b2 :: r5) := by
                  intro n1
                  refine no3 (fun t r4' e y => ?_) (fun t r4' e y => ?_)
                  · cases e; cases y.1
                  · cases e
                    exact n1 22 [25] y.2 ⟨rfl, rfl⟩
                refine hs_yTok2 h5 (fun q => ?_) (fun g r6 q h6 g0 => ?_)
                · refine hs_yC66 (t := 0) (by rw [q] at h5; exact h5) (fun y => absurd y (by decide)) (fun _ => H0 (no5 (fun t r6 e => ?_)))
                  rw [q] at e; cases e
                · refine hs_yC66 h6 (fun g22 r25 => ?_) (fun hno => H0 (no5 (fun t r7 e y => hno ?_)))
                  · subst g22 r25 q
                    exact H1 _ _ _ ⟨c, hc, rfl, Or.inr (Or.inr ⟨b, b2, hb, hb2, rfl, rfl, rfl⟩)⟩
                  · rw [q] at e
                    cases e
                    exact y
              · cases e; cases y.1
              · cases e
                have hb2 : hs_isC t = false := hb2
                rw [y.1] at hb2; cases hb2
            · refine br_f (hs_ne (b := 23) (hs_tkK d23 (by decide)) (by omega) (by decide)) (hs_yC66 h4 (fun d22 r25 => ?_) (fun hno => H0 (no3 (fun t r5 e y => hno ?_) (fun t r5 e y => ?_))))
              · subst d22 r25 q
                exact H1 _ _ _ ⟨c, hc, rfl, Or.inr (Or.inl ⟨b, hb, rfl, rfl, rfl⟩)⟩
              · rw [q] at e; cases e; exact y
              · rw [q] at e; cases e; exact d23 rfl
        · obtain ⟨c', _, _, hh⟩ := hh
          rcases hh with ⟨e, _⟩ | ⟨a', ha', e, _⟩ | ⟨a', b', ha', hb', e, _⟩
          · cases e
          · cases e
            have hb : hs_isC a' = false := hb
            rw [ha'] at hb; cases hb
          · cases e
            have hb : hs_isC a' = false := hb
            rw [ha'] at hb; cases hb
      · refine br_f (hs_ne (b := 21) (hs_tkK a21 (by decide)) (by omega) (by decide)) (hs_yC81 h2 (fun a25 rn => ?_) (fun hno => H0 (fun f s t hh => ?_)))
        · subst a25 rn q
          exact H1 _ _ _ ⟨c, hc, rfl, Or.inl ⟨rfl, rfl, rfl⟩⟩
        · obtain ⟨c', _, _, hh⟩ := hh
          rw [q] at hh
          rcases hh with ⟨e, _⟩ | ⟨_, _, e, _⟩ | ⟨_, _, _, _, e, _⟩
          · cases e; exact hno ⟨rfl, rfl⟩
          · cases e; exact a21 rfl
          · cases e; exact a21 rfl
  · obtain ⟨c', hc', _, hh⟩ := hh
    have : hs_hd r = c' := by
      rcases hh with ⟨e, _⟩ | ⟨_, _, e, _⟩ | ⟨_, _, _, _, e, _⟩ <;> rw [e] <;> rfl
    rw [this, hc'] at hc
    cases hc
end
end
section
/-! lines with a sign =  -/
theorem hs_ncons {a : Nat} {l : List Nat} (h1 : a ≠ 26) (h2 : 26 ∉ l) : 26 ∉ a :: l := by
  intro h
  rcases List.mem_cons.mp h with h | h
  · exact h1 h.symm
  · exact h2 h
theorem hs_nnil : (26 : Nat) ∉ ([] : List Nat) := fun h => by cases h
theorem hs_stepSuf {z w w' : Bool} {ts st ts' st' : List Nat} {e : List (Nat × Nat)} (h : hs_step z ts w st = some (ts', w', st', e)) : (∃ pre, ts = pre ++ ts' ∧ 26 ∉ pre) ∨ (∃ n, ts = 24 :: n :: 26 :: ts' ∧ hs_isN n = true ∧ z = true ∧ st = [] ∧ w = false) := by
  cases w with
  | true =>
    left
    cases ts with
    | nil => cases h
    | cons t r =>
      have E : hs_opd t r st = some (ts', w', st', e) := h
      unfold hs_opd hs_cls hs_sup hs_cl0 at E
      split at E
      · cases E; exact ⟨[t], rfl, hs_ncons (by omega) hs_nnil⟩
      split at E
      · cases E; exact ⟨[t], rfl, hs_ncons (by omega) hs_nnil⟩
      split at E
      · rename_i hn; cases E; exact ⟨[t], rfl, hs_ncons (by have := hs_tkN hn; omega) hs_nnil⟩
      split at E
      · obtain ⟨_, e'⟩ := hs_pshE E; cases e'; exact ⟨[t], rfl, hs_ncons (by omega) hs_nnil⟩
      split at E
      · rename_i hc
        have tc := hs_tkC hc
        cases r with
        | nil => cases E
        | cons k r1 =>
          simp only at E
          split at E
          · obtain ⟨_, e'⟩ := hs_pshE E; cases e'; exact ⟨[t, k], rfl, hs_ncons (by omega) (hs_ncons (by omega) hs_nnil)⟩
          split at E
          · cases r1 with
            | nil => cases E
            | cons n r2 =>
              simp only at E
              split at E
              · rename_i hn; cases E; exact ⟨[t, k, n], rfl, hs_ncons (by omega) (hs_ncons (by omega) (hs_ncons (by have := hs_tkN hn.1; omega) hs_nnil))⟩
              · cases E
          · cases E
      split at E
      · split at E
        · split at E
          · rename_i k n p r1 hh
            obtain ⟨_, e'⟩ := hs_pshE E; cases e'
            exact ⟨[t, k, n, p], rfl, hs_ncons (by omega) (hs_ncons (by omega) (hs_ncons (by have := hs_tkN hh.2.1; omega) (hs_ncons (by omega) hs_nnil)))⟩
          · cases E
        · cases E
      split at E
      · split at E
        · split at E
          · cases E; exact ⟨[t], rfl, hs_ncons (by omega) hs_nnil⟩
          · cases E
        · cases E
      · cases E
  | false =>
    have E : hs_opr z ts st = some (ts', w', st', e) := h
    unfold hs_opr at E
    split at E
    · cases E; exact Or.inl ⟨[], rfl, hs_nnil⟩
    cases ts with
    | nil => cases E
    | cons t r =>
      simp only at E
      unfold hs_opr1 hs_dot hs_cl1 at E
      split at E
      · rename_i hr
        have := hs_rank27 hr
        split at E
        · cases E
        · cases E; exact Or.inl ⟨[t], rfl, hs_ncons (by omega) hs_nnil⟩
      split at E
      · rename_i t24
        cases r with
        | nil => cases E
        | cons n r1 =>
          simp only at E
          split at E
          · rename_i hn
            have nn := hs_tkN hn
            split at E
            · rename_i h21
              obtain ⟨_, e'⟩ := hs_pshE E; cases e'
              cases r1 with
              | nil => simp [hs_hd] at h21
              | cons a r2 => exact Or.inl ⟨[t, n, a], rfl, hs_ncons (by omega) (hs_ncons (by omega) (hs_ncons (by have : a = 21 := h21; omega) hs_nnil))⟩
            split at E
            · rename_i hs
              cases E
              cases r1 with
              | nil => simp [hs_hd] at hs
              | cons a r2 =>
                have ha : a = 26 := hs.1
                subst ha t24
                exact Or.inr ⟨n, rfl, hn, hs.2.1, hs.2.2, rfl⟩
            · cases E; exact Or.inl ⟨[t, n], rfl, hs_ncons (by omega) (hs_ncons (by omega) hs_nnil)⟩
          · cases E
      split at E
      · split at E
        · split at E
          · cases E; exact Or.inl ⟨[t], rfl, hs_ncons (by omega) hs_nnil⟩
          split at E
          · cases E; exact Or.inl ⟨[t], rfl, hs_ncons (by omega) hs_nnil⟩
          · cases E
        · cases E
      · cases E
/-- the first sign = of a line that is read whole stands behind a dot and a name -/
theorem hs_runSet {z : Bool} : ∀ {n : Nat} {B E : List Nat} {w : Bool} {st : List Nat} {cd : List (Nat × Nat)} {fs : List Nat}, hs_run n z (B ++ 26 :: E) w st cd [] fs → 26 ∉ B → ∃ A m, B = A ++ [24, m] ∧ hs_isN m = true := by
  intro n
  induction n with
  | zero => intro B E w st cd fs h; exact h.elim
  | succ n ih =>
    intro B E w st cd fs h hB
    rcases h with ⟨_, _, e, _⟩ | ⟨_, ts', w', st', e, cd', E1, _, h⟩
    · have := congrArg List.length e
      simp at this
    · rcases hs_stepSuf E1 with ⟨pre, e1, hp⟩ | ⟨m, e1, hm, _⟩
      · -- the prefix lies in B
        have key : ∀ (pre B ts' : List Nat), B ++ 26 :: E = pre ++ ts' → 26 ∉ pre → ∃ B', B = pre ++ B' ∧ ts' = B' ++ 26 :: E := by
          intro pre
          induction pre with
          | nil => intro B ts' e _; exact ⟨B, rfl, e.symm⟩
          | cons a pre ih2 =>
            intro B ts' e hp
            cases B with
            | nil =>
              have : 26 = a := (List.cons.inj e).1
              exact absurd (by rw [this]; simp) hp
            | cons b B =>
              have e' := List.cons.inj e
              obtain ⟨B', h1, h2⟩ := ih2 B ts' e'.2 (fun y => hp (List.mem_cons_of_mem _ y))
              exact ⟨B', by rw [e'.1, h1]; rfl, h2⟩
        obtain ⟨B', h1, h2⟩ := key pre B ts' e1 hp
        subst h1 h2
        obtain ⟨A, m, h3, h4⟩ := ih h (fun y => hB (List.mem_append.mpr (Or.inr y)))
        exact ⟨pre ++ A, m, by rw [h3, List.append_assoc], h4⟩
      · have e2 : B ++ 26 :: E = [24, m] ++ 26 :: ts' := e1
        have hm26 : 26 ∉ [24, m] := hs_ncons (by decide) (hs_ncons (by have := hs_tkN hm; omega) hs_nnil)
        have key : ∀ (B C : List Nat), B ++ 26 :: E = C ++ 26 :: ts' → 26 ∉ B → 26 ∉ C → B = C := by
          intro B
          induction B with
          | nil =>
            intro C e _ hC
            cases C with
            | nil => rfl
            | cons c C =>
              have : 26 = c := (List.cons.inj e).1
              exact absurd (by rw [this]; simp) hC
          | cons b B ih2 =>
            intro C e hB hC
            cases C with
            | nil =>
              have : b = 26 := (List.cons.inj e).1
              exact absurd (by rw [this]; simp) hB
            | cons c C =>
              have e' := List.cons.inj e
              rw [e'.1, ih2 C e'.2 (fun y => hB (List.mem_cons_of_mem _ y)) (fun y => hC (List.mem_cons_of_mem _ y))]
        exact ⟨[], m, key B [24, m] e2 hB hm26, hm⟩
/-- a 5 at the bottom of the stack changes nothing but the sign = -/
theorem hs_hdB {st : List Nat} {b : Nat} (hb : b % 64 = 5) : (27 ≤ hs_hd (st ++ [b]) % 64 ↔ 27 ≤ hs_hd st % 64) ∧ hs_rank (hs_hd (st ++ [b]) % 64) = hs_rank (hs_hd st % 64) := by
  cases st with
  | nil =>
    constructor
    · show 27 ≤ b % 64 ↔ 27 ≤ 0 % 64
      omega
    · show hs_rank (b % 64) = hs_rank (0 % 64)
      rw [hb]; rfl
  | cons s r => exact ⟨Iff.rfl, rfl⟩
theorem hs_opnB {b : Nat} (hb : b % 64 = 5) : ∀ st : List Nat, hs_opn (st ++ [b]) = hs_opn st
  | [] => by show hs_opn (b :: []) = _; rw [hs_opn0 (by omega)]
  | s :: r => by
    show (if 1 ≤ s % 64 ∧ s % 64 ≤ 4 then 1 else 0) + hs_opn (r ++ [b]) = (if 1 ≤ s % 64 ∧ s % 64 ≤ 4 then 1 else 0) + hs_opn r
    rw [hs_opnB hb r]
def hs_apB (b : Nat) : hs_R → hs_R
  | none => none
  | some (r, w, st, e) => some (r, w, st ++ [b], e)
theorem hs_pshB {b s : Nat} (hb : b % 64 = 5) {r st : List Nat} : hs_psh s r (st ++ [b]) = hs_apB b (hs_psh s r st) := by
  unfold hs_psh
  rw [hs_opnB hb]
  split <;> rfl
theorem hs_stepB {b : Nat} (hb : b % 64 = 5) {z w : Bool} {ts st : List Nat} : hs_step z ts w (st ++ [b]) = hs_apB b (hs_step false ts w st) := by
  cases w with
  | true =>
    cases ts with
    | nil => rfl
    | cons t r =>
      show hs_opd t r (st ++ [b]) = hs_apB b (hs_opd t r st)
      unfold hs_opd
      split
      · rfl
      split
      · rfl
      split
      · rfl
      split
      · exact hs_pshB hb
      split
      · cases r with
        | nil => rfl
        | cons k r1 =>
          show (if k = 21 then hs_psh _ r1 (st ++ [b]) else if k = 24 then _ else none) = hs_apB b (if k = 21 then hs_psh _ r1 st else if k = 24 then _ else none)
          split
          · exact hs_pshB hb
          split
          · cases r1 with
            | nil => rfl
            | cons n r2 =>
              show (if hs_isN n = true ∧ hs_hd r2 ≠ 21 then _ else none) = hs_apB b (if hs_isN n = true ∧ hs_hd r2 ≠ 21 then _ else none)
              split <;> rfl
          · rfl
      split
      · unfold hs_sup
        split
        · split
          · exact hs_pshB hb
          · rfl
        · rfl
      split
      · cases st with
        | nil =>
          show (if 2 ≤ b % 64 ∧ b % 64 ≤ 4 then _ else none) = none
          rw [if_neg (by omega)]
        | cons s st1 =>
          show (if 2 ≤ s % 64 ∧ s % 64 ≤ 4 then some (r, false, st1 ++ [b], _) else none) = hs_apB b (if 2 ≤ s % 64 ∧ s % 64 ≤ 4 then _ else none)
          split <;> rfl
      · rfl
  | false =>
    show hs_opr z ts (st ++ [b]) = hs_apB b (hs_opr false ts st)
    obtain ⟨e1, e2⟩ := hs_hdB (st := st) hb
    unfold hs_opr
    rw [e2]
    by_cases c : 27 ≤ hs_hd st % 64 ∧ hs_hd ts ≠ 24 ∧ hs_rank (hs_hd ts) ≤ hs_rank (hs_hd st % 64) ∧ ¬ (hs_rank (hs_hd ts) = 1 ∧ hs_rank (hs_hd st % 64) = 1)
    · rw [if_pos c, if_pos ⟨e1.mpr c.1, c.2⟩]
      cases st with
      | nil => exact absurd c.1 (by decide)
      | cons s st1 => rfl
    · rw [if_neg c, if_neg (fun y => c ⟨e1.mp y.1, y.2⟩)]
      cases ts with
      | nil => rfl
      | cons t r =>
        show (if 0 < hs_rank t then _ else if t = 24 then _ else if t = 22 then _ else none) = hs_apB b (if 0 < hs_rank t then _ else if t = 24 then _ else if t = 22 then _ else none)
        split
        · rw [e2]
          split <;> rfl
        split
        · cases r with
          | nil => rfl
          | cons n r1 =>
            show (if hs_isN n = true then _ else none) = hs_apB b (if hs_isN n = true then _ else none)
            split
            · split
              · exact hs_pshB hb
              · rw [if_neg (fun y => by have := y.2.2; simp at this), if_neg (fun y => by cases y.2.1)]
                rfl
            · rfl
        split
        · cases st with
          | nil =>
            show (if b % 64 = 1 then _ else if 2 ≤ b % 64 ∧ b % 64 ≤ 4 then _ else none) = none
            rw [if_neg (by omega), if_neg (by omega)]
          | cons s st1 =>
            show (if s % 64 = 1 then some (r, false, st1 ++ [b], []) else if 2 ≤ s % 64 ∧ s % 64 ≤ 4 then _ else none) = hs_apB b (if s % 64 = 1 then _ else if 2 ≤ s % 64 ∧ s % 64 ≤ 4 then _ else none)
            split
            · rfl
            split <;> rfl
        · rfl
theorem hs_finB {b : Nat} (hb : b % 64 = 5) {ts st : List Nat} {w : Bool} : hs_fin ts w (st ++ [b]) ↔ hs_fin ts w st := by
  unfold hs_fin
  cases st with
  | nil =>
    constructor
    · rintro ⟨h1, h2, _, _⟩; exact ⟨h1, h2, by decide, by decide⟩
    · rintro ⟨h1, h2, _, _⟩
      refine ⟨h1, h2, ?_, ?_⟩
      · show ¬ 27 ≤ b % 64; omega
      · show ¬ (1 ≤ b % 64 ∧ b % 64 ≤ 4); omega
  | cons s r => exact Iff.rfl
theorem hs_runB {b : Nat} (hb : b % 64 = 5) {z : Bool} : ∀ {n : Nat} {ts : List Nat} {w : Bool} {st : List Nat} {cd : List (Nat × Nat)} {rs fs : List Nat}, hs_run n z ts w (st ++ [b]) cd rs fs ↔ ∃ fs', fs = fs' ++ [b] ∧ hs_run n false ts w st cd rs fs' := by
  intro n
  induction n with
  | zero => intro ts w st cd rs fs; exact ⟨fun h => h.elim, fun ⟨_, _, h⟩ => h.elim⟩
  | succ n ih =>
    intro ts w st cd rs fs
    constructor
    · rintro (⟨f, rfl, rfl, rfl⟩ | ⟨f, ts', w', st', e, cd', E, rfl, h⟩)
      · exact ⟨st, rfl, Or.inl ⟨(hs_finB hb).mp f, rfl, rfl, rfl⟩⟩
      · rw [hs_stepB hb] at E
        cases hs : hs_step false ts w st with
        | none => rw [hs] at E; cases E
        | some x =>
          obtain ⟨ts1, w1, st1, e1⟩ := x
          rw [hs] at E
          cases E
          obtain ⟨fs', e2, h2⟩ := ih.mp h
          exact ⟨fs', e2, Or.inr ⟨fun y => f ((hs_finB hb).mpr y), _, _, _, _, cd', hs, rfl, h2⟩⟩
    · rintro ⟨fs', rfl, h⟩
      rcases h with ⟨f, rfl, rfl, rfl⟩ | ⟨f, ts', w', st', e, cd', E, rfl, h⟩
      · exact Or.inl ⟨(hs_finB hb).mpr f, rfl, rfl, rfl⟩
      · refine Or.inr ⟨fun y => f ((hs_finB hb).mp y), ts', w', st' ++ [b], e, cd', ?_, rfl, ih.mpr ⟨fs', rfl, h⟩⟩
        rw [hs_stepB hb, E]; rfl
end
section
/-! blocks: pure functions of the indents -/
/-- the last line before i, from a on, that is indented by no more than x -/
def hs_lf (ind : Nat → Nat) (x a : Nat) : Nat → Option Nat
  | 0 => none
  | i + 1 => if i < a then none else if ind i ≤ x then some i else hs_lf ind x a i
theorem hs_lfN {ind : Nat → Nat} {x a : Nat} : ∀ {i : Nat}, hs_lf ind x a i = none → ∀ j, a ≤ j → j < i → x < ind j
  | 0, _, j, _, h => by omega
  | i + 1, h, j, h1, h2 => by
    unfold hs_lf at h
    split at h
    · omega
    · split at h
      · cases h
      · by_cases e : j = i
        · subst e; omega
        · exact hs_lfN h j h1 (by omega)
theorem hs_lfS {ind : Nat → Nat} {x a : Nat} : ∀ {i u : Nat}, hs_lf ind x a i = some u → a ≤ u ∧ u < i ∧ ind u ≤ x ∧ ∀ j, u < j → j < i → x < ind j
  | 0, _, h => by cases h
  | i + 1, u, h => by
    unfold hs_lf at h
    split at h
    · cases h
    · split at h
      · cases h
        exact ⟨by omega, by omega, by assumption, fun j _ _ => by omega⟩
      · obtain ⟨h1, h2, h3, h4⟩ := hs_lfS h
        refine ⟨h1, by omega, h3, fun j j1 j2 => ?_⟩
        by_cases e : j = i
        · subst e; omega
        · exact h4 j j1 (by omega)
theorem hs_lfSucc {ind : Nat → Nat} {x a i : Nat} (h : a ≤ i) : hs_lf ind x a (i + 1) = if ind i ≤ x then some i else hs_lf ind x a i := by
  show (if i < a then none else if ind i ≤ x then some i else hs_lf ind x a i) = _
  rw [if_neg (by omega)]
theorem hs_lfA {ind : Nat → Nat} {x a : Nat} : hs_lf ind x a a = none := by
  cases a with
  | zero => rfl
  | succ a =>
    show (if a < a + 1 then none else _) = none
    rw [if_pos (by omega)]
/-- the line above, one block out -/
def hs_pa (ind : Nat → Nat) (a i : Nat) : Option Nat := if ind i = 0 then none else hs_lf ind (ind i - 1) a i
theorem hs_paOK {ind : Nat → Nat} {a i : Nat} : hs_Pa ind a i (hs_pa ind a i) := by
  unfold hs_pa
  split
  · intro j _ _; omega
  · cases e : hs_lf ind (ind i - 1) a i with
    | none =>
      intro j h1 h2
      have := hs_lfN e j h1 h2
      omega
    | some p =>
      obtain ⟨h1, h2, h3, h4⟩ := hs_lfS e
      exact ⟨h1, h2, by omega, fun j j1 j2 => by have := h4 j j1 j2; omega⟩
/-- the first line from j on, at most n lines further, that is indented by no more than x -/
def hs_ef (ind : Nat → Nat) (x : Nat) : Nat → Nat → Nat
  | 0, j => j
  | n + 1, j => if ind j ≤ x then j else hs_ef ind x n (j + 1)
theorem hs_efS {ind : Nat → Nat} {x : Nat} : ∀ (n j : Nat), j ≤ hs_ef ind x n j ∧ hs_ef ind x n j ≤ j + n ∧ (∀ k, j ≤ k → k < hs_ef ind x n j → x < ind k) ∧ (hs_ef ind x n j < j + n → ind (hs_ef ind x n j) ≤ x)
  | 0, j => ⟨Nat.le_refl _, Nat.le_refl _, fun k _ h => by have h : k < j := h; omega, fun h => by have h : j < j := h; omega⟩
  | n + 1, j => by
    unfold hs_ef
    split
    · exact ⟨Nat.le_refl _, by omega, fun k _ _ => by omega, fun _ => by assumption⟩
    · obtain ⟨h1, h2, h3, h4⟩ := hs_efS (ind := ind) (x := x) n (j + 1)
      refine ⟨by omega, by omega, fun k k1 k2 => ?_, fun h => h4 (by omega)⟩
      by_cases e : k = j
      · subst e; omega
      · exact h3 k (by omega) k2
/-- where the block of line i ends, in lines up to b -/
def hs_bk (ind : Nat → Nat) (b i : Nat) : Nat := hs_ef ind (ind i) (b - (i + 1)) (i + 1)
theorem hs_bkFo {ind : Nat → Nat} {b i : Nat} (h : i < b) : hs_Fo ind b 1 i (hs_bk ind b i) := by
  obtain ⟨h1, h2, h3, h4⟩ := hs_efS (ind := ind) (x := ind i) (b - (i + 1)) (i + 1)
  unfold hs_bk
  exact ⟨by omega, by omega, fun j j1 j2 => ⟨by decide, h3 j (by omega) j2⟩, fun q => Or.inr (h4 (by omega))⟩
theorem hs_nxFo {ind : Nat → Nat} {b i : Nat} (h : i < b) : hs_Fo ind b 0 i (i + 1) := ⟨by omega, by omega, fun j j1 j2 => by omega, fun _ => Or.inl rfl⟩
/-- the first words that begin a block -/
def hs_isOp (h : Nat) : Prop := h = 1 ∨ h = 2 ∨ (4 ≤ h ∧ h ≤ 8)
/-- a try line whose block would end at i without its except line -/
def hs_tb (h ind : Nat → Nat) (i m : Nat) : Prop := h m = 7 ∧ ind i ≤ ind m ∧ (∀ j, m < j → j < i → ind m < ind j) ∧ ¬ (h i = 8 ∧ ind i = ind m)
/-- the last line not deeper is on the same level -/
def hs_lv (ind : Nat → Nat) (a i : Nat) : Prop := ∃ u, hs_lf ind (ind i) a i = some u ∧ ind u = ind i
def hs_lvW (h ind : Nat → Nat) (a i w : Nat) : Prop := ∃ u, hs_lf ind (ind i) a i = some u ∧ ind u = ind i ∧ h u = w
def hs_ir (h ind : Nat → Nat) (a i : Nat) : Prop :=
  (i = a → ind i = 0) ∧ (a < i → hs_isOp (h (i - 1)) → ind (i - 1) < ind i) ∧ (a < i → ¬ hs_isOp (h (i - 1)) → ind i ≤ ind (i - 1) ∧ hs_lv ind a i) ∧
  (h i = 5 → hs_lvW h ind a i 4) ∧ (h i = 8 → hs_lvW h ind a i 7)
/-- is the line inside a block of this word -/
def hs_in (h ind : Nat → Nat) (a w : Nat) : Nat → Nat → Bool
  | 0, _ => false
  | n + 1, i => match hs_pa ind a i with
    | none => false
    | some p => decide (h p = w) || hs_in h ind a w n p
theorem hs_inF {h ind : Nat → Nat} {a w : Nat} : ∀ (n m i : Nat), ind i < n → ind i < m → hs_in h ind a w n i = hs_in h ind a w m i
  | 0, _, _, h1, _ => by omega
  | _, 0, _, _, h1 => by omega
  | n + 1, m + 1, i, h1, h2 => by
    unfold hs_in
    cases e : hs_pa ind a i with
    | none => rfl
    | some p =>
      have hp : hs_Pa ind a i (some p) := by rw [← e]; exact hs_paOK
      have := hp.2.2.1
      show (decide (h p = w) || hs_in h ind a w n p) = (decide (h p = w) || hs_in h ind a w m p)
      rw [hs_inF n m p (by omega) (by omega)]
def hs_dir (h ind : Nat → Nat) (a i : Nat) : Prop := ∃ p, hs_pa ind a i = some p ∧ h p = 1
/-- a line stands where it may (s15: it sets a name; sup: it has a super) -/
def hs_wr (h ind : Nat → Nat) (a i : Nat) (s15 sup : Prop) : Prop :=
  ¬ (h i = 1 ∧ hs_in h ind a 1 9 i = true) ∧ ((h i = 3 ∨ sup) → hs_in h ind a 2 9 i = true) ∧
  (hs_dir h ind a i → h i = 10 ∨ h i = 2 ∨ s15) ∧ (¬ hs_dir h ind a i → h i ≠ 2)
section
variable {x_objectLimit x_stepLimit x_depthLimit x_pendingCount x_keptTokens x_keptLines x_lineCount x_codeCount x_cursor x_stop x_waitingCount x_openCount x_classCount x_callCount x_operandCount x_stepsTaken x_error x_raisedCode x_printCount x_lastPlace : Int32} {x_lastResult : Int64} {x_pending x_lineTable x_orders x_merging x_letterClass x_objectClass x_calls x_lastPrints : Nat → Int32} {x_code x_waiting x_globals x_entries x_attributes x_held x_operands : Nat → Int64}
variable {y_maxObjects y_maxSteps y_maxDepth y_kept y_end y_tokens y_pending y_lines y_classes y_prints y_place y_steps y_d y_valTop y_opTop y_opens y_pos y_tk y_tv y_stmt y_target y_err y_code y_outcome y_dry y_want y_starting y_ended y_bad y_hosted y_sawSuper : Int32} {y_result : Int64} {y_text y_numbers y_classOf y_alive y_orders y_lengths y_letters y_bases y_ops y_fLine y_fPos y_fStmt y_fTarget y_fMask y_fHome y_fOps y_fVals y_fNew y_out : Nat → Int32} {y_globals y_entries y_attrs y_vals y_locals y_fRecv : Nat → Int64}
theorem hs_yIsOp {tx : Nat → Int32} {p t : Nat} (hp : p < 1024) (ht : tx p = nI t) (ht2 : t < 2 ^ 31) {post : Int32 → Prop} (H1 : hs_isOp t → post 1) (H0 : ¬ hs_isOp t → post 0) : wpY_isOpener post (y_maxObjects, y_maxSteps, y_maxDepth, y_kept, y_end, y_tokens, y_pending, y_lines, y_classes, y_prints, y_place, y_steps, y_d, y_valTop, y_opTop, y_opens, y_pos, y_tk, y_tv, y_stmt, y_target, y_err, y_code, y_outcome, y_result, y_dry, y_want, y_starting, y_ended, y_bad, y_hosted, y_sawSuper, tx, y_numbers, y_globals, y_entries, y_attrs, y_classOf, y_alive, y_orders, y_lengths, y_letters, y_bases, y_vals, y_ops, y_locals, y_fRecv, y_fLine, y_fPos, y_fStmt, y_fTarget, y_fMask, y_fHome, y_fOps, y_fVals, y_fNew, y_out) (nI p) := by
  refine And.intro (vp_in_nI hp (by decide)) ?_
  rw [nI_clamp (show p < 2 ^ 31 by omega)]
  refine nm_r ht (pk_eq t 1 (fun e => H1 (Or.inl e)) (fun a => pk_eq t 2 (fun e => H1 (Or.inr (Or.inl e))) (fun b => pk_lt t 4 (fun c => H0 ?_) (fun c => pk_lt 8 t (fun d => H0 ?_) (fun d => H1 (Or.inr (Or.inr ⟨c, d⟩)))))))
  · rintro (q | q | q) <;> omega
  · rintro (q | q | q) <;> omega
/-- the first token of each line of a chunk -/
def hs_H (tx : Nat → Int32) (a b : Nat) (P h : Nat → Nat) : Prop := ∀ i, a ≤ i → i < b → tx (P i) = nI (h i) ∧ 0 < h i ∧ h i < 2 ^ 31
theorem hs_yInL {tx : Nat → Int32} {cs ce a b : Nat} {P ind h : Nat → Nat} (C : hs_Ch tx cs ce a b P ind) (Hh : hs_H tx a b P h) {x2 x6 : Int32} {post : Int32 → Prop} :
    ∀ (n i : Nat) (c d : Bool), a ≤ i → i < b → ind i < n → wY_insideRight_35 post x2 x6 y_maxObjects y_maxSteps y_maxDepth y_kept y_end y_tokens y_pending y_lines y_classes y_prints y_place y_steps y_d y_valTop y_opTop y_opens y_pos y_tk y_tv y_stmt y_target y_err y_code y_outcome y_result y_dry y_want y_starting y_ended y_bad y_hosted y_sawSuper tx y_numbers y_globals y_entries y_attrs y_classOf y_alive y_orders y_lengths y_letters y_bases y_vals y_ops y_locals y_fRecv y_fLine y_fPos y_fStmt y_fTarget y_fMask y_fHome y_fOps y_fVals y_fNew y_out 1 (hs_b (c || hs_in h ind a 1 n i)) (hs_b (d || hs_in h ind a 2 n i)) (-1) → wY_insideRight_35 post x2 x6 y_maxObjects y_maxSteps y_maxDepth y_kept y_end y_tokens y_pending y_lines y_classes y_prints y_place y_steps y_d y_valTop y_opTop y_opens y_pos y_tk y_tv y_stmt y_target y_err y_code y_outcome y_result y_dry y_want y_starting y_ended y_bad y_hosted y_sawSuper tx y_numbers y_globals y_entries y_attrs y_classOf y_alive y_orders y_lengths y_letters y_bases y_vals y_ops y_locals y_fRecv y_fLine y_fPos y_fStmt y_fTarget y_fMask y_fHome y_fOps y_fVals y_fNew y_out (n + 1) (hs_b c) (hs_b d) (hs_pI P (hs_pa ind a i)) := by
  have C' := C
  obtain ⟨⟨hc, h0, hok⟩, hnz, hcs, hP, hm, hall⟩ := C
  intro n
  induction n with
  | zero => intro i c d _ _ h; omega
  | succ n ih =>
    intro i c d hi hib hn H
    unfold hs_in at H
    have hp := hs_paOK (ind := ind) (a := a) (i := i)
    cases e : hs_pa ind a i with
    | none =>
      rw [e] at H
      have H : wY_insideRight_35 post x2 x6 y_maxObjects y_maxSteps y_maxDepth y_kept y_end y_tokens y_pending y_lines y_classes y_prints y_place y_steps y_d y_valTop y_opTop y_opens y_pos y_tk y_tv y_stmt y_target y_err y_code y_outcome y_result y_dry y_want y_starting y_ended y_bad y_hosted y_sawSuper tx y_numbers y_globals y_entries y_attrs y_classOf y_alive y_orders y_lengths y_letters y_bases y_vals y_ops y_locals y_fRecv y_fLine y_fPos y_fStmt y_fTarget y_fMask y_fHome y_fOps y_fVals y_fNew y_out 1 (hs_b (c || false)) (hs_b (d || false)) (-1) := H
      rw [Bool.or_false, Bool.or_false] at H
      exact br_t (show hs_pI P none < 0 by show (-1 : Int32) < 0; decide) (H.1 (by decide))
    | some p =>
      rw [e] at H hp
      have H : wY_insideRight_35 post x2 x6 y_maxObjects y_maxSteps y_maxDepth y_kept y_end y_tokens y_pending y_lines y_classes y_prints y_place y_steps y_d y_valTop y_opTop y_opens y_pos y_tk y_tv y_stmt y_target y_err y_code y_outcome y_result y_dry y_want y_starting y_ended y_bad y_hosted y_sawSuper tx y_numbers y_globals y_entries y_attrs y_classOf y_alive y_orders y_lengths y_letters y_bases y_vals y_ops y_locals y_fRecv y_fLine y_fPos y_fStmt y_fTarget y_fMask y_fHome y_fOps y_fVals y_fNew y_out 1 (hs_b (c || (decide (h p = 1) || hs_in h ind a 1 n p))) (hs_b (d || (decide (h p = 2) || hs_in h ind a 2 n p))) (-1) := H
      obtain ⟨p1, p2, p3, p4⟩ := hp
      have hpb : p < b := by omega
      obtain ⟨k1, k2, k3⟩ := Hh p p1 hpb
      obtain ⟨q1, q2, q3, q4, q5⟩ := hP p p1 hpb
      show wY_insideRight_35 post x2 x6 y_maxObjects y_maxSteps y_maxDepth y_kept y_end y_tokens y_pending y_lines y_classes y_prints y_place y_steps y_d y_valTop y_opTop y_opens y_pos y_tk y_tv y_stmt y_target y_err y_code y_outcome y_result y_dry y_want y_starting y_ended y_bad y_hosted y_sawSuper tx y_numbers y_globals y_entries y_attrs y_classOf y_alive y_orders y_lengths y_letters y_bases y_vals y_ops y_locals y_fRecv y_fLine y_fPos y_fStmt y_fTarget y_fMask y_fHome y_fOps y_fVals y_fNew y_out (n + 1 + 1) (hs_b c) (hs_b d) (nI (P p))
      refine br_f (nI_pos (by omega)) (And.intro (vp_in_nI (by omega) (by decide)) ?_)
      rw [nI_clamp (show P p < 2 ^ 31 by omega), k1]
      rw [← Bool.or_assoc, ← Bool.or_assoc] at H
      have step : ∀ c' d' : Bool, wY_insideRight_35 post x2 x6 y_maxObjects y_maxSteps y_maxDepth y_kept y_end y_tokens y_pending y_lines y_classes y_prints y_place y_steps y_d y_valTop y_opTop y_opens y_pos y_tk y_tv y_stmt y_target y_err y_code y_outcome y_result y_dry y_want y_starting y_ended y_bad y_hosted y_sawSuper tx y_numbers y_globals y_entries y_attrs y_classOf y_alive y_orders y_lengths y_letters y_bases y_vals y_ops y_locals y_fRecv y_fLine y_fPos y_fStmt y_fTarget y_fMask y_fHome y_fOps y_fVals y_fNew y_out 1 (hs_b (c' || hs_in h ind a 1 n p)) (hs_b (d' || hs_in h ind a 2 n p)) (-1) → wY_insideRight_67 post (wY_insideRight_35 post x2 x6 y_maxObjects y_maxSteps y_maxDepth y_kept y_end y_tokens y_pending y_lines y_classes y_prints y_place y_steps y_d y_valTop y_opTop y_opens y_pos y_tk y_tv y_stmt y_target y_err y_code y_outcome y_result y_dry y_want y_starting y_ended y_bad y_hosted y_sawSuper tx y_numbers y_globals y_entries y_attrs y_classOf y_alive y_orders y_lengths y_letters y_bases y_vals y_ops y_locals y_fRecv y_fLine y_fPos y_fStmt y_fTarget y_fMask y_fHome y_fOps y_fVals y_fNew y_out (n + 1)) x2 (hs_b c') (hs_b d') (nI (P p)) x6 y_maxObjects y_maxSteps y_maxDepth y_kept y_end y_tokens y_pending y_lines y_classes y_prints y_place y_steps y_d y_valTop y_opTop y_opens y_pos y_tk y_tv y_stmt y_target y_err y_code y_outcome y_result y_dry y_want y_starting y_ended y_bad y_hosted y_sawSuper tx y_numbers y_globals y_entries y_attrs y_classOf y_alive y_orders y_lengths y_letters y_bases y_vals y_ops y_locals y_fRecv y_fLine y_fPos y_fStmt y_fTarget y_fMask y_fHome y_fOps y_fVals y_fNew y_out := by
        intro c' d' H'
        unfold wY_insideRight_67
        exact hs_yOpener C' p1 hpb hs_paOK (ih p c' d' p1 hpb (by omega) H')
      have s53 : ∀ c' : Bool, wY_insideRight_35 post x2 x6 y_maxObjects y_maxSteps y_maxDepth y_kept y_end y_tokens y_pending y_lines y_classes y_prints y_place y_steps y_d y_valTop y_opTop y_opens y_pos y_tk y_tv y_stmt y_target y_err y_code y_outcome y_result y_dry y_want y_starting y_ended y_bad y_hosted y_sawSuper tx y_numbers y_globals y_entries y_attrs y_classOf y_alive y_orders y_lengths y_letters y_bases y_vals y_ops y_locals y_fRecv y_fLine y_fPos y_fStmt y_fTarget y_fMask y_fHome y_fOps y_fVals y_fNew y_out 1 (hs_b (c' || hs_in h ind a 1 n p)) (hs_b ((d || decide (h p = 2)) || hs_in h ind a 2 n p)) (-1) → wY_insideRight_53 post (wY_insideRight_35 post x2 x6 y_maxObjects y_maxSteps y_maxDepth y_kept y_end y_tokens y_pending y_lines y_classes y_prints y_place y_steps y_d y_valTop y_opTop y_opens y_pos y_tk y_tv y_stmt y_target y_err y_code y_outcome y_result y_dry y_want y_starting y_ended y_bad y_hosted y_sawSuper tx y_numbers y_globals y_entries y_attrs y_classOf y_alive y_orders y_lengths y_letters y_bases y_vals y_ops y_locals y_fRecv y_fLine y_fPos y_fStmt y_fTarget y_fMask y_fHome y_fOps y_fVals y_fNew y_out (n + 1)) x2 (hs_b c') (hs_b d) (nI (P p)) x6 y_maxObjects y_maxSteps y_maxDepth y_kept y_end y_tokens y_pending y_lines y_classes y_prints y_place y_steps y_d y_valTop y_opTop y_opens y_pos y_tk y_tv y_stmt y_target y_err y_code y_outcome y_result y_dry y_want y_starting y_ended y_bad y_hosted y_sawSuper tx y_numbers y_globals y_entries y_attrs y_classOf y_alive y_orders y_lengths y_letters y_bases y_vals y_ops y_locals y_fRecv y_fLine y_fPos y_fStmt y_fTarget y_fMask y_fHome y_fOps y_fVals y_fNew y_out := by
        intro c' H'
        unfold wY_insideRight_53
        refine And.intro (vp_in_nI (by omega) (by decide)) ?_
        rw [nI_clamp (show P p < 2 ^ 31 by omega), k1]
        refine pk_eq (h p) 2 (fun e2 => ?_) (fun e2 => ?_)
        · rw [decide_eq_true e2, Bool.or_true] at H'
          exact step c' true H'
        · rw [decide_eq_false e2, Bool.or_false] at H'
          exact step c' d H'
      refine pk_eq (h p) 1 (fun e1 => ?_) (fun e1 => ?_)
      · rw [decide_eq_true e1, Bool.or_true] at H
        exact s53 true H
      · rw [decide_eq_false e1, Bool.or_false] at H
        exact s53 c H
theorem hs_b1 {c : Bool} : hs_b c = 0 ↔ c = false := by cases c <;> decide
theorem hs_yInside {tx : Nat → Int32} {cs ce a b i : Nat} {P ind h : Nat → Nat} {sm ss : Int32} (C : hs_Ch tx cs ce a b P ind) (Hh : hs_H tx a b P h) (hi : a ≤ i) (hib : i < b) (hss : ss = 0 ∨ ss = 1) {post : Int32 → Prop} (H1 : hs_wr h ind a i (sm = 51) (ss = 1) → post 1) (H0 : ¬ hs_wr h ind a i (sm = 51) (ss = 1) → post 0) : wpY_insideRight post (y_maxObjects, y_maxSteps, y_maxDepth, y_kept, y_end, y_tokens, y_pending, y_lines, y_classes, y_prints, y_place, y_steps, y_d, y_valTop, y_opTop, y_opens, y_pos, y_tk, y_tv, sm, y_target, y_err, y_code, y_outcome, y_result, y_dry, y_want, y_starting, y_ended, y_bad, y_hosted, ss, tx, y_numbers, y_globals, y_entries, y_attrs, y_classOf, y_alive, y_orders, y_lengths, y_letters, y_bases, y_vals, y_ops, y_locals, y_fRecv, y_fLine, y_fPos, y_fStmt, y_fTarget, y_fMask, y_fHome, y_fOps, y_fVals, y_fNew, y_out) (nI (P i)) (nI (h i)) := by
  have hi31 := (Hh i hi hib).2.2
  have li := hs_indLe C hi hib
  -- the end of the chain
  have fin : ∀ x6 : Int32, (x6 = 0 ↔ ¬ hs_dir h ind a i) → wY_insideRight_35 post (nI (h i)) x6 y_maxObjects y_maxSteps y_maxDepth y_kept y_end y_tokens y_pending y_lines y_classes y_prints y_place y_steps y_d y_valTop y_opTop y_opens y_pos y_tk y_tv sm y_target y_err y_code y_outcome y_result y_dry y_want y_starting y_ended y_bad y_hosted ss tx y_numbers y_globals y_entries y_attrs y_classOf y_alive y_orders y_lengths y_letters y_bases y_vals y_ops y_locals y_fRecv y_fLine y_fPos y_fStmt y_fTarget y_fMask y_fHome y_fOps y_fVals y_fNew y_out 1 (hs_b (false || hs_in h ind a 1 9 i)) (hs_b (false || hs_in h ind a 2 9 i)) (-1) := by
    intro x6 h6
    rw [Bool.false_or, Bool.false_or]
    refine br_t (by decide) ?_
    have f106 : (¬ (h i = 1 ∧ hs_in h ind a 1 9 i = true)) → ((h i = 3 ∨ ss = 1) → hs_in h ind a 2 9 i = true) → wY_insideRight_106 post (nI (h i)) x6 y_maxObjects y_maxSteps y_maxDepth y_kept y_end y_tokens y_pending y_lines y_classes y_prints y_place y_steps y_d y_valTop y_opTop y_opens y_pos y_tk y_tv sm y_target y_err y_code y_outcome y_result y_dry y_want y_starting y_ended y_bad y_hosted ss tx y_numbers y_globals y_entries y_attrs y_classOf y_alive y_orders y_lengths y_letters y_bases y_vals y_ops y_locals y_fRecv y_fLine y_fPos y_fStmt y_fTarget y_fMask y_fHome y_fOps y_fVals y_fNew y_out := by
      intro k1 k2
      unfold wY_insideRight_106
      refine br_c (fun q => ?_) (fun q => ?_)
      · have nd := h6.mp q
        refine pk_eq (h i) 2 (fun e => H0 (fun w => w.2.2.2 nd e)) (fun e => H1 ⟨k1, k2, fun y => absurd y nd, fun _ => e⟩)
      · have dd : hs_dir h ind a i := Classical.byContradiction fun y => q (h6.mpr y)
        refine pk_eq (h i) 10 (fun e => H1 ⟨k1, k2, fun _ => Or.inl e, fun y => absurd dd y⟩) (fun e10 => pk_eq (h i) 2 (fun e => H1 ⟨k1, k2, fun _ => Or.inr (Or.inl e), fun y => absurd dd y⟩) (fun e2 => br_c (fun e => H1 ⟨k1, k2, fun _ => Or.inr (Or.inr e), fun y => absurd dd y⟩) (fun e => H0 (fun w => ?_))))
        rcases w.2.2.1 dd with y | y | y
        · exact e10 y
        · exact e2 y
        · exact e y
    have f99 : (¬ (h i = 1 ∧ hs_in h ind a 1 9 i = true)) → (h i = 3 ∨ ss = 1) → wY_insideRight_99 post (nI (h i)) (hs_b (hs_in h ind a 2 9 i)) x6 y_maxObjects y_maxSteps y_maxDepth y_kept y_end y_tokens y_pending y_lines y_classes y_prints y_place y_steps y_d y_valTop y_opTop y_opens y_pos y_tk y_tv sm y_target y_err y_code y_outcome y_result y_dry y_want y_starting y_ended y_bad y_hosted ss tx y_numbers y_globals y_entries y_attrs y_classOf y_alive y_orders y_lengths y_letters y_bases y_vals y_ops y_locals y_fRecv y_fLine y_fPos y_fStmt y_fTarget y_fMask y_fHome y_fOps y_fVals y_fNew y_out := by
      intro k1 k2
      unfold wY_insideRight_99
      refine br_c (fun q => H0 (fun w => ?_)) (fun q => f106 k1 (fun _ => ?_))
      · have := w.2.1 k2
        rw [hs_b1.mp q] at this; cases this
      · cases hh : hs_in h ind a 2 9 i with
        | true => rfl
        | false => exact absurd (hs_b1.mpr hh) q
    have f87 : (¬ (h i = 1 ∧ hs_in h ind a 1 9 i = true)) → wY_insideRight_87 post (nI (h i)) (hs_b (hs_in h ind a 2 9 i)) x6 y_maxObjects y_maxSteps y_maxDepth y_kept y_end y_tokens y_pending y_lines y_classes y_prints y_place y_steps y_d y_valTop y_opTop y_opens y_pos y_tk y_tv sm y_target y_err y_code y_outcome y_result y_dry y_want y_starting y_ended y_bad y_hosted ss tx y_numbers y_globals y_entries y_attrs y_classOf y_alive y_orders y_lengths y_letters y_bases y_vals y_ops y_locals y_fRecv y_fLine y_fPos y_fStmt y_fTarget y_fMask y_fHome y_fOps y_fVals y_fNew y_out := by
      intro k1
      unfold wY_insideRight_87
      refine pk_eq (h i) 3 (fun e => f99 k1 (Or.inl e)) (fun e => br_c (fun q => f106 k1 (fun y => ?_)) (fun q => f99 k1 (Or.inr (hss.resolve_left q))))
      rcases y with y | y
      · exact absurd y e
      · rw [q] at y; cases y
    refine pk_eq (h i) 1 (fun e => br_c (fun q => f87 (fun y => ?_)) (fun q => H0 (fun w => w.1 ⟨e, ?_⟩))) (fun e => f87 (fun y => e y.1))
    · rw [hs_b1.mp q] at y; cases y.2
    · cases hh : hs_in h ind a 1 9 i with
      | true => rfl
      | false => exact absurd (hs_b1.mpr hh) q
  unfold wpY_insideRight
  refine hs_yOpener C hi hib hs_paOK ?_
  have lp : ∀ x6 : Int32, wY_insideRight_35 post (nI (h i)) x6 y_maxObjects y_maxSteps y_maxDepth y_kept y_end y_tokens y_pending y_lines y_classes y_prints y_place y_steps y_d y_valTop y_opTop y_opens y_pos y_tk y_tv sm y_target y_err y_code y_outcome y_result y_dry y_want y_starting y_ended y_bad y_hosted ss tx y_numbers y_globals y_entries y_attrs y_classOf y_alive y_orders y_lengths y_letters y_bases y_vals y_ops y_locals y_fRecv y_fLine y_fPos y_fStmt y_fTarget y_fMask y_fHome y_fOps y_fVals y_fNew y_out 1 (hs_b (false || hs_in h ind a 1 9 i)) (hs_b (false || hs_in h ind a 2 9 i)) (-1) → wY_insideRight_35 post (nI (h i)) x6 y_maxObjects y_maxSteps y_maxDepth y_kept y_end y_tokens y_pending y_lines y_classes y_prints y_place y_steps y_d y_valTop y_opTop y_opens y_pos y_tk y_tv sm y_target y_err y_code y_outcome y_result y_dry y_want y_starting y_ended y_bad y_hosted ss tx y_numbers y_globals y_entries y_attrs y_classOf y_alive y_orders y_lengths y_letters y_bases y_vals y_ops y_locals y_fRecv y_fLine y_fPos y_fStmt y_fTarget y_fMask y_fHome y_fOps y_fVals y_fNew y_out 10 (hs_b false) (hs_b false) (hs_pI P (hs_pa ind a i)) := fun x6 H => hs_yInL C Hh 9 i false false hi hib (by omega) H
  cases e : hs_pa ind a i with
  | none =>
    have nd : ¬ hs_dir h ind a i := by
      rintro ⟨p, e', _⟩
      rw [e] at e'; cases e'
    refine br_t (show hs_pI P none < 0 by show (-1 : Int32) < 0; decide) ⟨10, ?_⟩
    have := lp 0 (fin 0 ⟨fun _ => nd, fun _ => rfl⟩)
    rw [e] at this
    exact this
  | some p =>
    have hp := hs_paOK (ind := ind) (a := a) (i := i)
    rw [e] at hp
    obtain ⟨p1, p2, p3, p4⟩ := hp
    have hpb : p < b := by omega
    obtain ⟨k1, k2, k3⟩ := Hh p p1 hpb
    obtain ⟨q1, q2, q3, q4, q5⟩ := C.2.2.2.1 p p1 hpb
    have hc := C.1.1
    show (nI (P p) < 0 → _) ∧ _
    refine br_f (nI_pos (by omega)) (And.intro (vp_in_nI (by omega) (by decide)) ?_)
    rw [show hs_pI P (some p) = nI (P p) from rfl, nI_clamp (show P p < 2 ^ 31 by omega), k1]
    refine pk_eq (h p) 1 (fun e1 => ⟨10, ?_⟩) (fun e1 => ⟨10, ?_⟩)
    · have := lp 1 (fin 1 ⟨fun y => absurd y (by decide), fun y => absurd ⟨p, e, e1⟩ y⟩)
      rw [e] at this
      exact this
    · have nd : ¬ hs_dir h ind a i := by
        rintro ⟨p', e', h1⟩
        rw [e] at e'; cases e'
        exact e1 h1
      have := lp 0 (fin 0 ⟨fun _ => nd, fun _ => rfl⟩)
      rw [e] at this
      exact this
/-- the loop of placeRight over the lines before i -/
theorem hs_yPl {tx : Nat → Int32} {cs ce a b i : Nat} {P ind h : Nat → Nat} {sm ss : Int32} (C : hs_Ch tx cs ce a b P ind) (Hh : hs_H tx a b P h) (hi : a ≤ i) (hib : i < b) {post : Int32 → Prop}
    (Hb : (∃ m, a ≤ m ∧ m < i ∧ hs_tb h ind i m) → post 0)
    (Hx : (∀ m, a ≤ m → m < i → ¬ hs_tb h ind i m) → ∀ n, wY_placeRight_26 post (nI (P i)) (nI (ind i)) (nI (h i)) y_maxObjects y_maxSteps y_maxDepth y_kept y_end y_tokens y_pending y_lines y_classes y_prints y_place y_steps y_d y_valTop y_opTop y_opens y_pos y_tk y_tv sm y_target y_err y_code y_outcome y_result y_dry y_want y_starting y_ended y_bad y_hosted ss tx y_numbers y_globals y_entries y_attrs y_classOf y_alive y_orders y_lengths y_letters y_bases y_vals y_ops y_locals y_fRecv y_fLine y_fPos y_fStmt y_fTarget y_fMask y_fHome y_fOps y_fVals y_fNew y_out (n + 1) (hs_pI P (if i = a then none else some (i - 1))) (hs_pI P (hs_lf ind (ind i) a i)) (nI (P i))) :
    ∀ (n q m : Nat), P i + 1 ≤ n + q → cs ≤ q → q ≤ P i → hs_ls tx cs q → a ≤ m → m ≤ i → (∀ j, a ≤ j → j < b → (j < m ↔ P j < q)) → (∀ m', a ≤ m' → m' < m → ¬ hs_tb h ind i m') →
    ∀ x4 x5 : Int32, x4 = hs_pI P (if m = a then none else some (m - 1)) → x5 = hs_pI P (hs_lf ind (ind i) a m) → wY_placeRight_26 post (nI (P i)) (nI (ind i)) (nI (h i)) y_maxObjects y_maxSteps y_maxDepth y_kept y_end y_tokens y_pending y_lines y_classes y_prints y_place y_steps y_d y_valTop y_opTop y_opens y_pos y_tk y_tv sm y_target y_err y_code y_outcome y_result y_dry y_want y_starting y_ended y_bad y_hosted ss tx y_numbers y_globals y_entries y_attrs y_classOf y_alive y_orders y_lengths y_letters y_bases y_vals y_ops y_locals y_fRecv y_fLine y_fPos y_fStmt y_fTarget y_fMask y_fHome y_fOps y_fVals y_fNew y_out n x4 x5 (nI q) := by
  have C' := C
  obtain ⟨⟨hc, h0, hok⟩, hnz, hcs, hP, hm, hall⟩ := C
  obtain ⟨pi1, pi2, pi3, pi4, pi5⟩ := hP i hi hib
  have li := hs_indLe C' hi hib
  have hi31 := (Hh i hi hib).2.2
  intro n
  induction n with
  | zero => intro q m h1 _ h2; omega
  | succ n ih =>
    intro q m h1 h2 h3 hl hm1 hm2 hjm htb x4 x5 ex4 ex5
    subst ex4 ex5
    by_cases hq : q = P i
    · have em : m = i := by
        rcases Nat.lt_or_ge m i with z | z
        · have := (hjm m hm1 (by omega)).mpr (by rw [hq]; exact hm m i hm1 z hib)
          omega
        · omega
      subst em hq
      exact Hx htb n
    · have step : ∀ m', m ≤ m' → m' ≤ i → (∀ q', q < q' → (∀ j, a ≤ j → j < b → P j ≤ q ∨ q' ≤ P j) → ∀ j, a ≤ j → j < b → (j < m' ↔ P j < q')) → (∀ k, a ≤ k → k < m' → ¬ hs_tb h ind i k) → wY_placeRight_115 post (wY_placeRight_26 post (nI (P i)) (nI (ind i)) (nI (h i)) y_maxObjects y_maxSteps y_maxDepth y_kept y_end y_tokens y_pending y_lines y_classes y_prints y_place y_steps y_d y_valTop y_opTop y_opens y_pos y_tk y_tv sm y_target y_err y_code y_outcome y_result y_dry y_want y_starting y_ended y_bad y_hosted ss tx y_numbers y_globals y_entries y_attrs y_classOf y_alive y_orders y_lengths y_letters y_bases y_vals y_ops y_locals y_fRecv y_fLine y_fPos y_fStmt y_fTarget y_fMask y_fHome y_fOps y_fVals y_fNew y_out n) (nI (P i)) (nI (ind i)) (nI (h i)) (hs_pI P (if m' = a then none else some (m' - 1))) (hs_pI P (hs_lf ind (ind i) a m')) (nI q) y_maxObjects y_maxSteps y_maxDepth y_kept y_end y_tokens y_pending y_lines y_classes y_prints y_place y_steps y_d y_valTop y_opTop y_opens y_pos y_tk y_tv sm y_target y_err y_code y_outcome y_result y_dry y_want y_starting y_ended y_bad y_hosted ss tx y_numbers y_globals y_entries y_attrs y_classOf y_alive y_orders y_lengths y_letters y_bases y_vals y_ops y_locals y_fRecv y_fLine y_fPos y_fStmt y_fTarget y_fMask y_fHome y_fOps y_fVals y_fNew y_out := by
        intro m' mm1 mm2 hj' ht'
        obtain ⟨q2, hq2⟩ := hs_nlEx ⟨hc, h0, hok⟩ (p := q) (by omega)
        unfold wY_placeRight_115
        refine hs_yNL ⟨hc, h0, hok⟩ (by omega) hq2 ?_
        rcases hs_adv C' (by omega) hq2 with ⟨g0, g1, g2⟩ | ⟨g0, g1, g1', g2, g3⟩
        · have := g2 i hi hib; omega
        · have en : hs_nx tx q2 = nI (q2 + 1) := if_neg g0
          rw [en]
          refine ih (q2 + 1) m' (by omega) (by omega) ?_ g2 (by omega) mm2 (hj' (q2 + 1) (by omega) g3) ht' _ _ rfl rfl
          rcases g3 i hi hib with z | z <;> omega
      refine br_f (nI_ge (by omega) (by omega)) (And.intro (vp_in_nI (by omega) (by decide)) ?_)
      rw [nI_clamp (show q < 2 ^ 31 by omega)]
      refine hs_yends (hok q h2 (by omega)) (fun he => br_f (by decide) (step m (Nat.le_refl _) hm2 (fun q' q1 q3 j ja jb => ?_) htb)) (fun he => br_t rfl ?_)
      · rw [hjm j ja jb]
        constructor
        · intro y; omega
        · intro y
          rcases q3 j ja jb with z | z
          · rcases Nat.lt_or_ge (P j) q with w | w
            · exact w
            · have ej : P j = q := by omega
              have := (hP j ja jb).2.2.1
              rw [ej] at this; exact absurd he this
          · omega
      · obtain ⟨j, ja, jb, rfl⟩ := hall q (by omega) (by omega) he hl
        have hji : j < i := by
          rcases Nat.lt_or_ge j i with z | z
          · exact z
          · rcases Nat.lt_or_ge i j with y | y
            · have := hm i j hi y jb; omega
            · have y2 : j = i := by omega
              subst y2; omega
        have ejm : j = m := by
          rcases Nat.lt_trichotomy j m with z | z | z
          · have := (hjm j ja jb).mp z; omega
          · exact z
          · have := (hjm m hm1 (by omega)).mpr (hm m j hm1 z jb); omega
        subst ejm
        obtain ⟨k1, k2, k3⟩ := Hh j ja jb
        have lj := hs_indLe C' ja jb
        have hj5 := (hP j ja jb).2.2.2.2
        have hcnt : ∀ q', P j < q' → (∀ j', a ≤ j' → j' < b → P j' ≤ P j ∨ q' ≤ P j') → ∀ j', a ≤ j' → j' < b → (j' < j + 1 ↔ P j' < q') := by
          intro q' q1 q3 j' ja' jb'
          constructor
          · intro y
            rcases Nat.lt_or_ge j' j with w | w
            · have := hm j' j ja' w jb; omega
            · have : j' = j := by omega
              subst this; exact q1
          · intro y
            rcases Nat.lt_or_ge j j' with w | w
            · have := hm j j' ja w jb'
              rcases q3 j' ja' jb' with z | z <;> omega
            · omega
        refine hs_yIndent C' (by omega) (by omega) hl ?_
        rw [← hj5]
        have e4 : hs_pI P (if j + 1 = a then none else some (j + 1 - 1)) = nI (P j) := by
          rw [if_neg (by omega)]; rfl
        -- line j as a try line
        have s64 : wY_placeRight_64 post (wY_placeRight_26 post (nI (P i)) (nI (ind i)) (nI (h i)) y_maxObjects y_maxSteps y_maxDepth y_kept y_end y_tokens y_pending y_lines y_classes y_prints y_place y_steps y_d y_valTop y_opTop y_opens y_pos y_tk y_tv sm y_target y_err y_code y_outcome y_result y_dry y_want y_starting y_ended y_bad y_hosted ss tx y_numbers y_globals y_entries y_attrs y_classOf y_alive y_orders y_lengths y_letters y_bases y_vals y_ops y_locals y_fRecv y_fLine y_fPos y_fStmt y_fTarget y_fMask y_fHome y_fOps y_fVals y_fNew y_out n) (nI (P i)) (nI (ind i)) (nI (h i)) (nI (P j)) (hs_pI P (hs_lf ind (ind i) a (j + 1))) (nI (P j)) y_maxObjects y_maxSteps y_maxDepth y_kept y_end y_tokens y_pending y_lines y_classes y_prints y_place y_steps y_d y_valTop y_opTop y_opens y_pos y_tk y_tv sm y_target y_err y_code y_outcome y_result y_dry y_want y_starting y_ended y_bad y_hosted ss tx y_numbers y_globals y_entries y_attrs y_classOf y_alive y_orders y_lengths y_letters y_bases y_vals y_ops y_locals y_fRecv y_fLine y_fPos y_fStmt y_fTarget y_fMask y_fHome y_fOps y_fVals y_fNew y_out := by
          have go : ¬ hs_tb h ind i j → wY_placeRight_115 post (wY_placeRight_26 post (nI (P i)) (nI (ind i)) (nI (h i)) y_maxObjects y_maxSteps y_maxDepth y_kept y_end y_tokens y_pending y_lines y_classes y_prints y_place y_steps y_d y_valTop y_opTop y_opens y_pos y_tk y_tv sm y_target y_err y_code y_outcome y_result y_dry y_want y_starting y_ended y_bad y_hosted ss tx y_numbers y_globals y_entries y_attrs y_classOf y_alive y_orders y_lengths y_letters y_bases y_vals y_ops y_locals y_fRecv y_fLine y_fPos y_fStmt y_fTarget y_fMask y_fHome y_fOps y_fVals y_fNew y_out n) (nI (P i)) (nI (ind i)) (nI (h i)) (nI (P j)) (hs_pI P (hs_lf ind (ind i) a (j + 1))) (nI (P j)) y_maxObjects y_maxSteps y_maxDepth y_kept y_end y_tokens y_pending y_lines y_classes y_prints y_place y_steps y_d y_valTop y_opTop y_opens y_pos y_tk y_tv sm y_target y_err y_code y_outcome y_result y_dry y_want y_starting y_ended y_bad y_hosted ss tx y_numbers y_globals y_entries y_attrs y_classOf y_alive y_orders y_lengths y_letters y_bases y_vals y_ops y_locals y_fRecv y_fLine y_fPos y_fStmt y_fTarget y_fMask y_fHome y_fOps y_fVals y_fNew y_out := by
            intro hnb
            have := step (j + 1) (by omega) (by omega) hcnt (fun k ka kb => by
              by_cases ek : k = j
              · subst ek; exact hnb
              · exact htb k ka (by omega))
            rw [e4] at this
            exact this
          unfold wY_placeRight_64
          refine And.intro (vp_in_nI (by omega) (by decide)) ?_
          rw [nI_clamp (show P j < 2 ^ 31 by omega), k1]
          refine pk_eq (h j) 7 (fun e7 => ?_) (fun e7 => go (fun y => e7 y.1))
          refine hs_yIndent C' (by omega) (by omega) hl ?_
          rw [← hj5]
          refine pk_lt (ind j) (ind i) (fun z => go (fun y => by have := y.2.1; omega)) (fun z => ?_)
          have F := hs_bkFo (ind := ind) (b := b) (i := j) jb
          refine hs_yFollow C' ja jb F ?_
          obtain ⟨F1, F2, F3, F4⟩ := F
          have efi : hs_at P b (hs_bk ind b j) = nI (P i) ↔ hs_bk ind b j = i := by
            unfold hs_at
            constructor
            · intro y
              split at y
              · rename_i lt
                have y2 := (nI_eq (by have := (hP _ (by omega) lt).2.1; omega) (by omega)).mp y
                rcases Nat.lt_trichotomy (hs_bk ind b j) i with w | w | w
                · have := hm _ i (by omega) w hib; omega
                · exact w
                · have := hm i _ hi w lt; omega
              · exact absurd y.symm (fun y => by
                  have : nI (P i) < 0 := by rw [y]; decide
                  exact nI_pos (by omega) this)
            · rintro rfl
              rw [if_pos hib]
          have ebk : hs_bk ind b j = i ↔ ∀ k, j < k → k < i → ind j < ind k := by
            constructor
            · rintro rfl k kk1 kk2
              exact (F3 k kk1 kk2).2
            · intro hk
              rcases Nat.lt_trichotomy (hs_bk ind b j) i with w | w | w
              · have y1 := hk _ F1 w
                rcases F4 (by omega) with y2 | y2
                · exact absurd y2 (by decide)
                · omega
              · exact w
              · have := (F3 i hji w).2; omega
          refine br_c (fun q1 => ?_) (fun q1 => go (fun y => q1 (efi.mpr (ebk.mpr y.2.2.1))))
          have hk := ebk.mp (efi.mp q1)
          refine pk_eq (h i) 8 (fun e8 => ?_) (fun e8 => Hb ⟨j, ja, hji, e7, z, hk, fun y => e8 y.1⟩)
          refine hs_yIndent C' (by omega) (by omega) hl ?_
          rw [← hj5]
          exact pk_eq (ind i) (ind j) (fun ee => go (fun y => y.2.2.2 ⟨e8, ee⟩)) (fun ee => Hb ⟨j, ja, hji, e7, z, hk, fun y => ee y.2⟩)
        have es := hs_lfSucc (ind := ind) (x := ind i) ja
        refine pk_lt (ind i) (ind j) (fun z => ?_) (fun z => ?_)
        · rw [if_neg (by omega)] at es
          rw [es] at s64
          exact s64
        · rw [if_pos z] at es
          rw [es] at s64
          exact s64
end
end
section
/-! where a line may stand, on Y's side -/
section
variable {x_objectLimit x_stepLimit x_depthLimit x_pendingCount x_keptTokens x_keptLines x_lineCount x_codeCount x_cursor x_stop x_waitingCount x_openCount x_classCount x_callCount x_operandCount x_stepsTaken x_error x_raisedCode x_printCount x_lastPlace : Int32} {x_lastResult : Int64} {x_pending x_lineTable x_orders x_merging x_letterClass x_objectClass x_calls x_lastPrints : Nat → Int32} {x_code x_waiting x_globals x_entries x_attributes x_held x_operands : Nat → Int64}
variable {y_maxObjects y_maxSteps y_maxDepth y_kept y_end y_tokens y_pending y_lines y_classes y_prints y_place y_steps y_d y_valTop y_opTop y_opens y_pos y_tk y_tv y_stmt y_target y_err y_code y_outcome y_dry y_want y_starting y_ended y_bad y_hosted y_sawSuper : Int32} {y_result : Int64} {y_text y_numbers y_classOf y_alive y_orders y_lengths y_letters y_bases y_ops y_fLine y_fPos y_fStmt y_fTarget y_fMask y_fHome y_fOps y_fVals y_fNew y_out : Nat → Int32} {y_globals y_entries y_attrs y_vals y_locals y_fRecv : Nat → Int64}
theorem hs_narB {r : Int32} (h : r = 0 ∨ r = 1) : narrow .boolean (.int r) = .int r := by
  rcases h with rfl | rfl <;> rfl
theorem hs_y253 {tx : Nat → Int32} {cs ce a b i : Nat} {P ind h : Nat → Nat} {sm ss : Int32} (C : hs_Ch tx cs ce a b P ind) (Hh : hs_H tx a b P h) (hi : a ≤ i) (hib : i < b) (hss : ss = 0 ∨ ss = 1) {post : Int32 → Prop} (H1 : hs_wr h ind a i (sm = 51) (ss = 1) → post 1) (H0 : ¬ hs_wr h ind a i (sm = 51) (ss = 1) → post 0) : wY_placeRight_253 post (nI (P i)) (nI (h i)) y_maxObjects y_maxSteps y_maxDepth y_kept y_end y_tokens y_pending y_lines y_classes y_prints y_place y_steps y_d y_valTop y_opTop y_opens y_pos y_tk y_tv sm y_target y_err y_code y_outcome y_result y_dry y_want y_starting y_ended y_bad y_hosted ss tx y_numbers y_globals y_entries y_attrs y_classOf y_alive y_orders y_lengths y_letters y_bases y_vals y_ops y_locals y_fRecv y_fLine y_fPos y_fStmt y_fTarget y_fMask y_fHome y_fOps y_fVals y_fNew y_out := by
  unfold wY_placeRight_253
  exact hs_yInside C Hh hi hib hss (fun w => ⟨hs_narB (Or.inr rfl), H1 w⟩) (fun w => ⟨hs_narB (Or.inl rfl), H0 w⟩)
theorem hs_y185 {tx : Nat → Int32} {cs ce a b i : Nat} {P ind h : Nat → Nat} {sm ss : Int32} (C : hs_Ch tx cs ce a b P ind) (Hh : hs_H tx a b P h) (hi : a ≤ i) (hib : i < b) (hss : ss = 0 ∨ ss = 1) {post : Int32 → Prop}
    (H1 : (h i = 5 → hs_lvW h ind a i 4) → (h i = 8 → hs_lvW h ind a i 7) → hs_wr h ind a i (sm = 51) (ss = 1) → post 1) (H0 : ¬ ((h i = 5 → hs_lvW h ind a i 4) ∧ (h i = 8 → hs_lvW h ind a i 7) ∧ hs_wr h ind a i (sm = 51) (ss = 1)) → post 0) : wY_placeRight_185 post (nI (P i)) (nI (ind i)) (nI (h i)) (hs_pI P (hs_lf ind (ind i) a i)) y_maxObjects y_maxSteps y_maxDepth y_kept y_end y_tokens y_pending y_lines y_classes y_prints y_place y_steps y_d y_valTop y_opTop y_opens y_pos y_tk y_tv sm y_target y_err y_code y_outcome y_result y_dry y_want y_starting y_ended y_bad y_hosted ss tx y_numbers y_globals y_entries y_attrs y_classOf y_alive y_orders y_lengths y_letters y_bases y_vals y_ops y_locals y_fRecv y_fLine y_fPos y_fStmt y_fTarget y_fMask y_fHome y_fOps y_fVals y_fNew y_out := by
  have hi31 := (Hh i hi hib).2.2
  have li := hs_indLe C hi hib
  have last : (h i = 5 → hs_lvW h ind a i 4) → (h i = 8 → hs_lvW h ind a i 7) → wY_placeRight_253 post (nI (P i)) (nI (h i)) y_maxObjects y_maxSteps y_maxDepth y_kept y_end y_tokens y_pending y_lines y_classes y_prints y_place y_steps y_d y_valTop y_opTop y_opens y_pos y_tk y_tv sm y_target y_err y_code y_outcome y_result y_dry y_want y_starting y_ended y_bad y_hosted ss tx y_numbers y_globals y_entries y_attrs y_classOf y_alive y_orders y_lengths y_letters y_bases y_vals y_ops y_locals y_fRecv y_fLine y_fPos y_fStmt y_fTarget y_fMask y_fHome y_fOps y_fVals y_fNew y_out := fun k1 k2 => hs_y253 C Hh hi hib hss (fun w => H1 k1 k2 w) (fun w => H0 (fun y => w y.2.2))
  -- no line on the same level
  have no : ¬ hs_lv ind a i → ∀ x5 : Int32, wY_placeRight_204 post (nI (P i)) (nI (h i)) x5 y_maxObjects y_maxSteps y_maxDepth y_kept y_end y_tokens y_pending y_lines y_classes y_prints y_place y_steps y_d y_valTop y_opTop y_opens y_pos y_tk y_tv sm y_target y_err y_code y_outcome y_result y_dry y_want y_starting y_ended y_bad y_hosted ss tx y_numbers y_globals y_entries y_attrs y_classOf y_alive y_orders y_lengths y_letters y_bases y_vals y_ops y_locals y_fRecv y_fLine y_fPos y_fStmt y_fTarget y_fMask y_fHome y_fOps y_fVals y_fNew y_out := by
    intro hno x5
    have n5 : ∀ w, ¬ hs_lvW h ind a i w := fun w ⟨u, e1, e2, _⟩ => hno ⟨u, e1, e2⟩
    unfold wY_placeRight_204 wY_placeRight_205
    refine pk_eq (h i) 5 (fun e => br_t rfl (H0 (fun y => n5 4 (y.1 e)))) (fun e5 => ?_)
    unfold wY_placeRight_228
    exact pk_eq (h i) 8 (fun e => br_t rfl (H0 (fun y => n5 7 (y.2.1 e)))) (fun e8 => last (fun y => absurd y e5) (fun y => absurd y e8))
  unfold wY_placeRight_185
  cases e : hs_lf ind (ind i) a i with
  | none =>
    refine br_t (show hs_pI P none < 0 by show (-1 : Int32) < 0; decide) (no ?_ _)
    rintro ⟨u, e', _⟩
    rw [e] at e'; cases e'
  | some u =>
    obtain ⟨u1, u2, u3, u4⟩ := hs_lfS e
    have hub : u < b := by omega
    obtain ⟨p1, p2, p3, p4, p5⟩ := C.2.2.2.1 u u1 hub
    have hc := C.1.1
    obtain ⟨k1, k2, k3⟩ := Hh u u1 hub
    rw [show hs_pI P (some u) = nI (P u) from rfl]
    refine br_f (nI_pos (by omega)) (hs_yIndent C p1 (by omega) p4 ?_)
    rw [← p5]
    refine pk_eq (ind u) (ind i) (fun el => ?_) (fun el => no ?_ _)
    · have lw : ∀ w, h u = w → hs_lvW h ind a i w := fun w hw => ⟨u, e, el, hw⟩
      have nlw : ∀ w, h u ≠ w → ¬ hs_lvW h ind a i w := by
        rintro w hw ⟨u', e', _, hw'⟩
        rw [e] at e'; cases e'
        exact hw hw'
      have f228 : (h i = 5 → hs_lvW h ind a i 4) → wY_placeRight_228 post (nI (P i)) (nI (h i)) (nI (P u)) 1 y_maxObjects y_maxSteps y_maxDepth y_kept y_end y_tokens y_pending y_lines y_classes y_prints y_place y_steps y_d y_valTop y_opTop y_opens y_pos y_tk y_tv sm y_target y_err y_code y_outcome y_result y_dry y_want y_starting y_ended y_bad y_hosted ss tx y_numbers y_globals y_entries y_attrs y_classOf y_alive y_orders y_lengths y_letters y_bases y_vals y_ops y_locals y_fRecv y_fLine y_fPos y_fStmt y_fTarget y_fMask y_fHome y_fOps y_fVals y_fNew y_out := by
        intro k5
        unfold wY_placeRight_228
        refine pk_eq (h i) 8 (fun e8 => br_f (by decide) (And.intro (vp_in_nI (by omega) (by decide)) ?_)) (fun e8 => last k5 (fun y => absurd y e8))
        rw [nI_clamp (show P u < 2 ^ 31 by omega), k1]
        exact pk_eq (h u) 7 (fun e7 => last k5 (fun _ => lw 7 e7)) (fun e7 => H0 (fun y => nlw 7 e7 (y.2.1 e8)))
      unfold wY_placeRight_205
      refine pk_eq (h i) 5 (fun e5 => br_f (by decide) (And.intro (vp_in_nI (by show P u < 1024; omega) (by decide)) ?_)) (fun e5 => f228 (fun y => absurd y e5))
      rw [nI_clamp (show P u < 2 ^ 31 by omega), k1]
      exact pk_eq (h u) 4 (fun e4 => f228 (fun _ => lw 4 e4)) (fun e4 => H0 (fun y => nlw 4 e4 (y.1 e5)))
    · rintro ⟨u', e', h'⟩
      rw [e] at e'; cases e'
      exact el h'
/-- all that placeRight asks -/
def hs_pl (h ind : Nat → Nat) (a i : Nat) (s15 sup : Prop) : Prop := (∀ m, a ≤ m → m < i → ¬ hs_tb h ind i m) ∧ hs_ir h ind a i ∧ hs_wr h ind a i s15 sup
theorem hs_yPlace {tx : Nat → Int32} {cs ce a b i : Nat} {P ind h : Nat → Nat} {sm ss : Int32} (C : hs_Ch tx cs ce a b P ind) (Hh : hs_H tx a b P h) (hi : a ≤ i) (hib : i < b) (hss : ss = 0 ∨ ss = 1) {post : Int32 → Prop} (H1 : hs_pl h ind a i (sm = 51) (ss = 1) → post 1) (H0 : ¬ hs_pl h ind a i (sm = 51) (ss = 1) → post 0) : wpY_placeRight post (y_maxObjects, y_maxSteps, y_maxDepth, y_kept, y_end, y_tokens, y_pending, y_lines, y_classes, y_prints, y_place, y_steps, y_d, y_valTop, y_opTop, y_opens, y_pos, y_tk, y_tv, sm, y_target, y_err, y_code, y_outcome, y_result, y_dry, y_want, y_starting, y_ended, y_bad, y_hosted, ss, tx, y_numbers, y_globals, y_entries, y_attrs, y_classOf, y_alive, y_orders, y_lengths, y_letters, y_bases, y_vals, y_ops, y_locals, y_fRecv, y_fLine, y_fPos, y_fStmt, y_fTarget, y_fMask, y_fHome, y_fOps, y_fVals, y_fNew, y_out) (nI (P i)) := by
  obtain ⟨pi1, pi2, pi3, pi4, pi5⟩ := C.2.2.2.1 i hi hib
  have hc := C.1.1
  have li := hs_indLe C hi hib
  obtain ⟨k1, k2, k3⟩ := Hh i hi hib
  unfold wpY_placeRight
  refine hs_yIndent C pi1 (by omega) pi4 (And.intro (vp_in_nI (by omega) (by decide)) ?_)
  rw [nI_clamp (show P i < 2 ^ 31 by omega), ← pi5]
  refine nm_r k1 (hs_yCS C pi1 (by omega) ⟨P i + 1, hs_yPl C Hh hi hib (fun ⟨m, m1, m2, m3⟩ => H0 (fun y => y.1 m m1 m2 m3)) (fun ht n => ?_) (P i + 1) cs a (by omega) (Nat.le_refl _) pi1 (Or.inl rfl) (Nat.le_refl _) hi (fun j ja jb => ⟨fun y => by omega, fun y => by have := (C.2.2.2.1 j ja jb).1; omega⟩) (fun m m1 m2 => by omega) _ _ (by rw [if_pos rfl]; rfl) (by rw [hs_lfA]; rfl)⟩)
  refine br_t (nI_le (Nat.le_refl _) (by omega)) ?_
  -- what is left: the line above, and the last line not deeper
  have f185 : ((i = a → ind i = 0) ∧ (a < i → hs_isOp (h (i - 1)) → ind (i - 1) < ind i) ∧ (a < i → ¬ hs_isOp (h (i - 1)) → ind i ≤ ind (i - 1) ∧ hs_lv ind a i)) → wY_placeRight_185 post (nI (P i)) (nI (ind i)) (nI (h i)) (hs_pI P (hs_lf ind (ind i) a i)) y_maxObjects y_maxSteps y_maxDepth y_kept y_end y_tokens y_pending y_lines y_classes y_prints y_place y_steps y_d y_valTop y_opTop y_opens y_pos y_tk y_tv sm y_target y_err y_code y_outcome y_result y_dry y_want y_starting y_ended y_bad y_hosted ss tx y_numbers y_globals y_entries y_attrs y_classOf y_alive y_orders y_lengths y_letters y_bases y_vals y_ops y_locals y_fRecv y_fLine y_fPos y_fStmt y_fTarget y_fMask y_fHome y_fOps y_fVals y_fNew y_out := by
    intro hk
    exact hs_y185 C Hh hi hib hss (fun w1 w2 w3 => H1 ⟨ht, ⟨hk.1, hk.2.1, hk.2.2, w1, w2⟩, w3⟩) (fun w => H0 (fun y => w ⟨y.2.1.2.2.2.1, y.2.1.2.2.2.2, y.2.2⟩))
  by_cases ea : i = a
  · rw [if_pos ea]
    refine br_f (show ¬ 0 ≤ hs_pI P none by show ¬ (0 : Int32) ≤ -1; decide) ?_
    refine pk_le (ind i) 0 (fun z => f185 ⟨fun _ => by omega, fun y => by omega, fun y => by omega⟩) (fun z => H0 (fun y => ?_))
    have := y.2.1.1 ea; omega
  · have hv : a ≤ i - 1 ∧ i - 1 < b := by omega
    obtain ⟨v1, v2, v3, v4, v5⟩ := C.2.2.2.1 (i - 1) hv.1 hv.2
    obtain ⟨g1, g2, g3⟩ := Hh (i - 1) hv.1 hv.2
    have lv := hs_indLe C hv.1 hv.2
    rw [if_neg ea]
    show (0 ≤ nI (P (i - 1)) → _) ∧ _
    refine br_t (nI_pos' (by omega)) (hs_yIsOp (by omega) g1 g3 (fun op => br_f (by decide) ?_) (fun op => br_t rfl ?_))
    · refine hs_yIndent C v1 (by omega) v4 ?_
      rw [← v5]
      exact pk_lt (ind (i - 1)) (ind i) (fun z => f185 ⟨fun y => absurd y ea, fun _ _ => z, fun _ y => absurd op y⟩) (fun z => H0 (fun y => by have := y.2.1.2.1 (by omega) op; omega))
    · refine hs_yIndent C v1 (by omega) v4 ?_
      rw [← v5]
      refine pk_lt (ind (i - 1)) (ind i) (fun z => H0 (fun y => by have := (y.2.1.2.2.1 (by omega) op).1; omega)) (fun z => ?_)
      cases e : hs_lf ind (ind i) a i with
      | none =>
        refine br_t (show hs_pI P none < 0 by show (-1 : Int32) < 0; decide) (H0 (fun y => ?_))
        obtain ⟨u, e', _⟩ := (y.2.1.2.2.1 (by omega) op).2
        rw [e] at e'; cases e'
      | some u =>
        obtain ⟨u1, u2, u3, u4⟩ := hs_lfS e
        obtain ⟨p1, p2, p3, p4, p5⟩ := C.2.2.2.1 u u1 (by omega)
        show (nI (P u) < 0 → _) ∧ _
        refine br_f (nI_pos (by omega)) (hs_yIndent C p1 (by omega) p4 ?_)
        rw [← p5]
        refine pk_eq (ind u) (ind i) (fun el => ?_) (fun el => H0 (fun y => ?_))
        · have := f185 ⟨fun y => absurd y ea, fun _ y => absurd y op, fun _ _ => ⟨z, u, e, el⟩⟩
          rw [e] at this
          exact this
        · obtain ⟨u', e', el'⟩ := (y.2.1.2.2.1 (by omega) op).2
          rw [e] at e'; cases e'
          exact el el'
end
end
section
/-! the form of a line on Y's side -/
section
variable {x_objectLimit x_stepLimit x_depthLimit x_pendingCount x_keptTokens x_keptLines x_lineCount x_codeCount x_cursor x_stop x_waitingCount x_openCount x_classCount x_callCount x_operandCount x_stepsTaken x_error x_raisedCode x_printCount x_lastPlace : Int32} {x_lastResult : Int64} {x_pending x_lineTable x_orders x_merging x_letterClass x_objectClass x_calls x_lastPrints : Nat → Int32} {x_code x_waiting x_globals x_entries x_attributes x_held x_operands : Nat → Int64}
variable {y_maxObjects y_maxSteps y_maxDepth y_kept y_end y_tokens y_pending y_lines y_classes y_prints y_place y_steps y_d y_valTop y_opTop y_opens y_pos y_tk y_tv y_stmt y_target y_err y_code y_outcome y_dry y_want y_starting y_ended y_bad y_hosted y_sawSuper : Int32} {y_result : Int64} {y_text y_numbers y_classOf y_alive y_orders y_lengths y_letters y_bases y_ops y_fLine y_fPos y_fStmt y_fTarget y_fMask y_fHome y_fOps y_fVals y_fNew y_out : Nat → Int32} {y_globals y_entries y_attrs y_vals y_locals y_fRecv : Nat → Int64}
theorem hs_yD70 {tx : Nat → Int32} {p t : Nat} {r : List Nat} (h : hs_TA tx p r) {post : Int32 → SY → Prop} (H1 : t = 22 → r = [25] → ∀ q1 q2 q3 : Int32, post 1 (y_maxObjects, y_maxSteps, y_maxDepth, y_kept, y_end, y_tokens, y_pending, y_lines, y_classes, y_prints, y_place, y_steps, y_d, y_valTop, y_opTop, y_opens, q1, q2, q3, y_stmt, y_target, y_err, y_code, y_outcome, y_result, y_dry, y_want, y_starting, y_ended, y_bad, y_hosted, y_sawSuper, tx, y_numbers, y_globals, y_entries, y_attrs, y_classOf, y_alive, y_orders, y_lengths, y_letters, y_bases, y_vals, y_ops, y_locals, y_fRecv, y_fLine, y_fPos, y_fStmt, y_fTarget, y_fMask, y_fHome, y_fOps, y_fVals, y_fNew, y_out)) (H0 : ¬ (t = 22 ∧ r = [25]) → ∀ q1 q2 q3 : Int32, post 0 (y_maxObjects, y_maxSteps, y_maxDepth, y_kept, y_end, y_tokens, y_pending, y_lines, y_classes, y_prints, y_place, y_steps, y_d, y_valTop, y_opTop, y_opens, q1, q2, q3, y_stmt, y_target, y_err, y_code, y_outcome, y_result, y_dry, y_want, y_starting, y_ended, y_bad, y_hosted, y_sawSuper, tx, y_numbers, y_globals, y_entries, y_attrs, y_classOf, y_alive, y_orders, y_lengths, y_letters, y_bases, y_vals, y_ops, y_locals, y_fRecv, y_fLine, y_fPos, y_fStmt, y_fTarget, y_fMask, y_fHome, y_fOps, y_fVals, y_fNew, y_out)) : wY_defRight_70 post y_maxObjects y_maxSteps y_maxDepth y_kept y_end y_tokens y_pending y_lines y_classes y_prints y_place y_steps y_d y_valTop y_opTop y_opens (nI p) (nI (hs_tk t)) y_tv y_stmt y_target y_err y_code y_outcome y_result y_dry y_want y_starting y_ended y_bad y_hosted y_sawSuper tx y_numbers y_globals y_entries y_attrs y_classOf y_alive y_orders y_lengths y_letters y_bases y_vals y_ops y_locals y_fRecv y_fLine y_fPos y_fStmt y_fTarget y_fMask y_fHome y_fOps y_fVals y_fNew y_out := by
  unfold wY_defRight_70
  have tl := hs_tkLe t
  by_cases e : t = 22
  · subst e
    refine br_t rfl (hs_yIsK h 25 (by decide) (fun r' er => br_f (by decide) ?_) (fun hn _ _ _ => br_t rfl (H0 (fun y => hn (by rw [y.2]; rfl)) _ _ _)))
    subst er
    refine hs_yIs0 (hs_TAc h).2.2.2.2.2 (fun er => br_f (by decide) (H1 rfl (by rw [er]) _ _ _)) (fun er _ _ _ => br_t rfl (H0 (fun y => er ?_) _ _ _))
    have := y.2
    cases this
    rfl
  · exact br_f (hs_ne (b := 22) (hs_tkK e (by decide)) (by omega) (by decide)) (H0 (fun y => e y.1) _ _ _)
theorem hs_yDef {tx : Nat → Int32} {p : Nat} {r : List Nat} (h : hs_TA tx p r) (hv : ∀ x, x ∈ r → hs_vt x) {post : Int32 → SY → Prop} (H1 : ∀ f s t, hs_DH f s t r → ∀ q1 q2 q3 : Int32, post 1 (y_maxObjects, y_maxSteps, y_maxDepth, y_kept, y_end, y_tokens, y_pending, y_lines, y_classes, y_prints, y_place, y_steps, y_d, y_valTop, y_opTop, y_opens, q1, q2, q3, y_stmt, y_target, y_err, y_code, y_outcome, y_result, y_dry, y_want, y_starting, y_ended, y_bad, y_hosted, y_sawSuper, tx, y_numbers, y_globals, y_entries, y_attrs, y_classOf, y_alive, y_orders, y_lengths, y_letters, y_bases, y_vals, y_ops, y_locals, y_fRecv, y_fLine, y_fPos, y_fStmt, y_fTarget, y_fMask, y_fHome, y_fOps, y_fVals, y_fNew, y_out)) (H0 : (∀ f s t, ¬ hs_DH f s t r) → ∀ q1 q2 q3 : Int32, post 0 (y_maxObjects, y_maxSteps, y_maxDepth, y_kept, y_end, y_tokens, y_pending, y_lines, y_classes, y_prints, y_place, y_steps, y_d, y_valTop, y_opTop, y_opens, q1, q2, q3, y_stmt, y_target, y_err, y_code, y_outcome, y_result, y_dry, y_want, y_starting, y_ended, y_bad, y_hosted, y_sawSuper, tx, y_numbers, y_globals, y_entries, y_attrs, y_classOf, y_alive, y_orders, y_lengths, y_letters, y_bases, y_vals, y_ops, y_locals, y_fRecv, y_fLine, y_fPos, y_fStmt, y_fTarget, y_fMask, y_fHome, y_fOps, y_fVals, y_fNew, y_out)) : wpY_defRight post (y_maxObjects, y_maxSteps, y_maxDepth, y_kept, y_end, y_tokens, y_pending, y_lines, y_classes, y_prints, y_place, y_steps, y_d, y_valTop, y_opTop, y_opens, nI p, y_tk, y_tv, y_stmt, y_target, y_err, y_code, y_outcome, y_result, y_dry, y_want, y_starting, y_ended, y_bad, y_hosted, y_sawSuper, tx, y_numbers, y_globals, y_entries, y_attrs, y_classOf, y_alive, y_orders, y_lengths, y_letters, y_bases, y_vals, y_ops, y_locals, y_fRecv, y_fLine, y_fPos, y_fStmt, y_fTarget, y_fMask, y_fHome, y_fOps, y_fVals, y_fNew, y_out) := by
  unfold wpY_defRight
  refine hs_yIsN h hv (fun n r1 e hn => br_f (by decide) ?_) (fun hn q1 q2 q3 => br_t rfl (H0 (fun f s t hh => ?_) _ _ _))
  rotate_left
  · obtain ⟨n', a', hn', _, _, _, hh⟩ := hh
    have : hs_hd r = n' := by
      rcases hh with ⟨e, _⟩ | ⟨_, _, _, e, _⟩ <;> rw [e] <;> rfl
    rw [this, hn'] at hn
    cases hn
  subst e
  have h1 := (hs_TAc h).2.2.2.2.2
  have hv1 : ∀ x, x ∈ r1 → hs_vt x := fun x hx => hv x (List.mem_cons_of_mem _ hx)
  refine hs_yIsK h1 21 (by decide) (fun r2 e => br_f (by decide) ?_) (fun hn2 q1 q2 q3 => br_t rfl (H0 (fun f s t hh => hn2 ?_) _ _ _))
  rotate_left
  · obtain ⟨n', a', _, _, _, _, hh⟩ := hh
    rcases hh with ⟨e, _⟩ | ⟨_, _, _, e, _⟩ <;> cases e <;> rfl
  subst e
  have h2 := (hs_TAc h1).2.2.2.2.2
  have hv2 : ∀ x, x ∈ r2 → hs_vt x := fun x hx => hv1 x (List.mem_cons_of_mem _ hx)
  refine hs_yIsN h2 hv2 (fun a r3 e ha => br_f (by decide) ?_) (fun hn3 q1 q2 q3 => br_t rfl (H0 (fun f s t hh => ?_) _ _ _))
  rotate_left
  · obtain ⟨n', a', _, ha', _, _, hh⟩ := hh
    have : hs_hd r2 = a' := by
      rcases hh with ⟨e, _⟩ | ⟨_, _, _, e, _⟩ <;> cases e <;> rfl
    rw [this, ha'] at hn3
    cases hn3
  subst e
  have h3 := (hs_TAc h2).2.2.2.2.2
  have hv3 : ∀ x, x ∈ r3 → hs_vt x := fun x hx => hv2 x (List.mem_cons_of_mem _ hx)
  have na := hs_tkN ha
  have no3 : (∀ t r4, r3 = t :: r4 → ¬ (t = 22 ∧ r4 = [25])) → (∀ b r4, r3 = 23 :: b :: r4 → ¬ (hs_isN b = true ∧ b ≠ a ∧ r4 = [22, 25])) → ∀ f s t, ¬ hs_DH f s t (n :: 21 :: a :: r3) := by
    intro n1 n2 f s t hh
    obtain ⟨n', a', _, _, _, _, hh⟩ := hh
    rcases hh with ⟨e, _⟩ | ⟨b', hb', hne, e, _⟩
    · cases e
      exact n1 22 [25] rfl ⟨rfl, rfl⟩
    · cases e
      exact n2 b' [22, 25] rfl ⟨hb', hne, rfl⟩
  refine hs_yTok2 h3 (fun q => ?_) (fun d r4 q h4 d0 => ?_)
  · refine br_f (hs_ne (a := 0) (b := 23) (by decide) (by decide) (by decide)) (hs_yD70 (t := 0) (by rw [q] at h3; exact h3) (fun y => absurd y (by decide)) (fun _ => H0 (no3 (fun t r4 e => ?_) (fun t r4 e => ?_))))
    · rw [q] at e; cases e
    · rw [q] at e; cases e
  · have dl := hs_tkLe d
    by_cases d23 : d = 23
    · subst d23
      subst q
      have hv4 : ∀ x, x ∈ r4 → hs_vt x := fun x hx => hv3 x (List.mem_cons_of_mem _ hx)
      refine br_t rfl (hs_yIsN h4 hv4 (fun b r5 e hb => br_f (by decide) ?_) (fun hb q1 q2 q3 => br_t rfl (H0 (no3 (fun t r4' e y => ?_) (fun t r4' e y => ?_)) _ _ _)))
      · subst e
        have h5 := (hs_TAc h4).2.2.2.2.2
        have nb := hs_tkN hb
        refine pk_eq (b - 100) (a - 100) (fun eq => H0 (no3 (fun t r4' e y => ?_) (fun t r4' e y => ?_)) _ _ _) (fun ne => ?_)
        · cases e; cases y.1
        · cases e
          exact y.2.1 (by omega)
        · have no5 : (∀ t r6, r5 = t :: r6 → ¬ (t = 22 ∧ r6 = [25])) → ∀ f s t, ¬ hs_DH f s t (n :: 21 :: a :: 23 :: b :: r5) := by
            intro n1
            refine no3 (fun t r4' e y => ?_) (fun t r4' e y => ?_)
            · cases e; cases y.1
            · cases e
              exact n1 22 [25] y.2.2 ⟨rfl, rfl⟩
          refine hs_yTok2 h5 (fun q => ?_) (fun g r6 q h6 g0 => ?_)
          · refine hs_yD70 (t := 0) (by rw [q] at h5; exact h5) (fun y => absurd y (by decide)) (fun _ => H0 (no5 (fun t r6 e => ?_)))
            rw [q] at e; cases e
          · refine hs_yD70 h6 (fun g22 r25 => ?_) (fun hno => H0 (no5 (fun t r7 e y => hno ?_)))
            · subst g22 r25 q
              exact H1 _ _ _ ⟨n, a, hn, ha, rfl, rfl, Or.inr ⟨b, hb, by omega, rfl, rfl⟩⟩
            · rw [q] at e
              cases e
              exact y
      · cases e; cases y.1
      · cases e
        have hb : hs_isN t = false := hb
        rw [y.1] at hb; cases hb
    · refine br_f (hs_ne (b := 23) (hs_tkK d23 (by decide)) (by omega) (by decide)) (hs_yD70 h4 (fun d22 r25 => ?_) (fun hno => H0 (no3 (fun t r5 e y => hno ?_) (fun t r5 e y => ?_))))
      · subst d22 r25 q
        exact H1 _ _ _ ⟨n, a, hn, ha, rfl, rfl, Or.inl ⟨rfl, rfl⟩⟩
      · rw [q] at e; cases e; exact y
      · rw [q] at e; cases e; exact d23 rfl
/-- what stands in a stack that the automaton builds -/
def hs_gst (z : Bool) : List Nat → Prop
  | [] => True
  | s :: r => (hs_ws s ∧ hs_gst z r) ∨ (z = true ∧ r = [] ∧ ∃ m, hs_isN m = true ∧ s = 5 + 64 * (m - 100))
theorem hs_gstT {z : Bool} {s : Nat} {r : List Nat} (h : hs_gst z (s :: r)) : hs_gst z r := by
  rcases h with h | ⟨_, rfl, _⟩
  · exact h.2
  · trivial
theorem hs_gstStep {z w w' : Bool} {ts st ts' st' : List Nat} {e : List (Nat × Nat)} (hg : hs_gst z st) (h : hs_step z ts w st = some (ts', w', st', e)) : hs_gst z st' := by
  cases w with
  | true =>
    cases ts with
    | nil => cases h
    | cons t r =>
      have E : hs_opd t r st = some (ts', w', st', e) := h
      unfold hs_opd hs_cls hs_sup hs_cl0 at E
      split at E
      · cases E; exact hg
      split at E
      · cases E; exact hg
      split at E
      · cases E; exact hg
      split at E
      · obtain ⟨_, e'⟩ := hs_pshE E; cases e'; exact Or.inl ⟨Or.inl rfl, hg⟩
      split at E
      · rename_i hc
        have tc := hs_tkC hc
        split at E
        · split at E
          · obtain ⟨_, e'⟩ := hs_pshE E; cases e'; exact Or.inl ⟨(hs_wsC (ty := 4) (by decide) (by omega)).1, hg⟩
          split at E
          · split at E
            · split at E
              · cases E; exact hg
              · cases E
            · cases E
          · cases E
        · cases E
      split at E
      · split at E
        · split at E
          · rename_i hh
            have tn := hs_tkN hh.2.1
            obtain ⟨_, e'⟩ := hs_pshE E; cases e'; exact Or.inl ⟨(hs_wsC (ty := 3) (by decide) (by omega)).1, hg⟩
          · cases E
        · cases E
      split at E
      · split at E
        · split at E
          · cases E; exact hs_gstT hg
          · cases E
        · cases E
      · cases E
  | false =>
    have E : hs_opr z ts st = some (ts', w', st', e) := h
    unfold hs_opr at E
    split at E
    · cases E
      cases st with
      | nil => trivial
      | cons s r => exact hs_gstT hg
    cases ts with
    | nil => cases E
    | cons t r =>
      simp only at E
      unfold hs_opr1 hs_dot hs_cl1 at E
      split at E
      · rename_i hr
        have := hs_rank27 hr
        split at E
        · cases E
        · cases E; exact Or.inl ⟨Or.inr (Or.inr this), hg⟩
      split at E
      · split at E
        · split at E
          · rename_i hn
            have tn := hs_tkN hn
            split at E
            · obtain ⟨_, e'⟩ := hs_pshE E; cases e'; exact Or.inl ⟨(hs_wsC (ty := 2) (by decide) (by omega)).1, hg⟩
            split at E
            · rename_i hs
              cases E
              exact Or.inr ⟨hs.2.1, rfl, _, hn, rfl⟩
            · cases E; exact hg
          · cases E
        · cases E
      split at E
      · split at E
        · split at E
          · cases E; exact hs_gstT hg
          split at E
          · cases E; exact hs_gstT hg
          · cases E
        · cases E
      · cases E
theorem hs_gstRun {z : Bool} : ∀ {n : Nat} {ts : List Nat} {w : Bool} {st : List Nat} {cd : List (Nat × Nat)} {rs fs : List Nat}, hs_gst z st → hs_run n z ts w st cd rs fs → (rs = [] ∨ hs_hd rs = 25) ∧ (fs = [] ∨ (z = true ∧ ∃ m, hs_isN m = true ∧ fs = [5 + 64 * (m - 100)])) := by
  intro n
  induction n with
  | zero => intro ts w st cd rs fs _ h; exact h.elim
  | succ n ih =>
    intro ts w st cd rs fs hg h
    rcases h with ⟨f, rfl, rfl, rfl⟩ | ⟨f, ts', w', st', e, cd', E, rfl, h⟩
    · refine ⟨f.2.1, ?_⟩
      cases fs with
      | nil => exact Or.inl rfl
      | cons s r =>
        have f1 : ¬ 27 ≤ s % 64 := f.2.2.1
        have f2 : ¬ (1 ≤ s % 64 ∧ s % 64 ≤ 4) := f.2.2.2
        rcases hg with ⟨h, _⟩ | ⟨hz, rfl, m, hm, rfl⟩
        · exfalso
          rcases h with rfl | q | q
          · exact f2 (by decide)
          · exact f2 ⟨by omega, q.2.1⟩
          · omega
        · exact Or.inr ⟨hz, m, hm, rfl⟩
    · exact ih (hs_gstStep hg E) h
theorem hs_gstS {z : Bool} {ts rs fs : List Nat} {cd : List (Nat × Nat)} (h : hs_S z ts true [] cd rs fs) : (rs = [] ∨ hs_hd rs = 25) ∧ (fs = [] ∨ (z = true ∧ ∃ m, hs_isN m = true ∧ fs = [5 + 64 * (m - 100)])) := by
  obtain ⟨n, h⟩ := h
  exact hs_gstRun (z := z) (st := []) trivial h
end
end
section
/-! a line on Y's side, whole -/
section
variable {x_objectLimit x_stepLimit x_depthLimit x_pendingCount x_keptTokens x_keptLines x_lineCount x_codeCount x_cursor x_stop x_waitingCount x_openCount x_classCount x_callCount x_operandCount x_stepsTaken x_error x_raisedCode x_printCount x_lastPlace : Int32} {x_lastResult : Int64} {x_pending x_lineTable x_orders x_merging x_letterClass x_objectClass x_calls x_lastPrints : Nat → Int32} {x_code x_waiting x_globals x_entries x_attributes x_held x_operands : Nat → Int64}
variable {y_maxObjects y_maxSteps y_maxDepth y_kept y_end y_tokens y_pending y_lines y_classes y_prints y_place y_steps y_d y_valTop y_opTop y_opens y_pos y_tk y_tv y_stmt y_target y_err y_code y_outcome y_dry y_want y_starting y_ended y_bad y_hosted y_sawSuper : Int32} {y_result : Int64} {y_text y_numbers y_classOf y_alive y_orders y_lengths y_letters y_bases y_ops y_fLine y_fPos y_fStmt y_fTarget y_fMask y_fHome y_fOps y_fVals y_fNew y_out : Nat → Int32} {y_globals y_entries y_attrs y_vals y_locals y_fRecv : Nat → Int64}
theorem hs_runSuf {z : Bool} : ∀ {n : Nat} {ts : List Nat} {w : Bool} {st : List Nat} {cd : List (Nat × Nat)} {rs fs : List Nat}, hs_run n z ts w st cd rs fs → ∃ pre, ts = pre ++ rs := by
  intro n
  induction n with
  | zero => intro ts w st cd rs fs h; exact h.elim
  | succ n ih =>
    intro ts w st cd rs fs h
    rcases h with ⟨f, rfl, rfl, rfl⟩ | ⟨f, ts', w', st', e, cd', E, rfl, h⟩
    · exact ⟨[], rfl⟩
    · obtain ⟨pre, h1⟩ := ih h
      rcases hs_stepSuf E with ⟨q, h2, _⟩ | ⟨m, h2, _⟩
      · exact ⟨q ++ pre, by rw [h2, h1, List.append_assoc]⟩
      · exact ⟨24 :: m :: 26 :: pre, by rw [h2, h1]; rfl⟩
theorem hs_SU {z w : Bool} {ts st rs fs rs' fs' : List Nat} {cd cd' : List (Nat × Nat)} (h : hs_S z ts w st cd rs fs) (h' : hs_S z ts w st cd' rs' fs') : cd = cd' ∧ rs = rs' ∧ fs = fs' := by
  obtain ⟨n, h⟩ := h
  obtain ⟨m, h'⟩ := h'
  exact hs_runU h h'
/-- an expression up to the end of the line -/
theorem hs_yF158 {tx fo : Nat → Int32} {sm : Int32} {z : Bool} {p : Nat} {r : List Nat} (hfo : fo 0 = nI 0) (hz : z = true ↔ sm = 50) (hTA : hs_TA tx p r) (hv : ∀ x, x ∈ r → hs_vt x) (hl : r.length ≤ 50) {post : Int32 → SY → Prop}
    (H1 : ∀ cd fs, hs_S z r true [] cd [] fs → ∀ (q1 q2 q3 q4 q7 q8 ss : Int32) (q9 : Nat → Int64) (q10 : Nat → Int32), (13 ∈ r ↔ ss = 1) → (ss = 0 ∨ ss = 1) → post 1 (y_maxObjects, y_maxSteps, y_maxDepth, y_kept, y_end, y_tokens, y_pending, y_lines, y_classes, y_prints, y_place, y_steps, 0, 0, 0, q1, q2, q3, q4, sm, y_target, y_err, y_code, y_outcome, y_result, 0, q7, y_starting, y_ended, q8, y_hosted, ss, tx, y_numbers, y_globals, y_entries, y_attrs, y_classOf, y_alive, y_orders, y_lengths, y_letters, y_bases, q9, q10, y_locals, y_fRecv, y_fLine, y_fPos, y_fStmt, y_fTarget, y_fMask, y_fHome, fo, y_fVals, y_fNew, y_out))
    (H0 : (∀ cd fs, ¬ hs_S z r true [] cd [] fs) → ∀ (q1 q2 q3 q4 q7 q8 ss : Int32) (q9 : Nat → Int64) (q10 : Nat → Int32), post 0 (y_maxObjects, y_maxSteps, y_maxDepth, y_kept, y_end, y_tokens, y_pending, y_lines, y_classes, y_prints, y_place, y_steps, 0, 0, 0, q1, q2, q3, q4, sm, y_target, y_err, y_code, y_outcome, y_result, 0, q7, y_starting, y_ended, q8, y_hosted, ss, tx, y_numbers, y_globals, y_entries, y_attrs, y_classOf, y_alive, y_orders, y_lengths, y_letters, y_bases, q9, q10, y_locals, y_fRecv, y_fLine, y_fPos, y_fStmt, y_fTarget, y_fMask, y_fHome, fo, y_fVals, y_fNew, y_out)) : wY_formRight_158 post y_maxObjects y_maxSteps y_maxDepth y_kept y_end y_tokens y_pending y_lines y_classes y_prints y_place y_steps 0 0 0 y_opens (nI p) y_tk y_tv sm y_target y_err y_code y_outcome y_result 0 y_want y_starting y_ended y_bad y_hosted 0 tx y_numbers y_globals y_entries y_attrs y_classOf y_alive y_orders y_lengths y_letters y_bases y_vals y_ops y_locals y_fRecv y_fLine y_fPos y_fStmt y_fTarget y_fMask y_fHome fo y_fVals y_fNew y_out := by
  unfold wY_formRight_158
  refine hs_yDryRun hfo hz hTA hv hl (Or.inl rfl) (w := true) (st := []) rfl rfl ?_ ?_
  · intro cd rs fs hS p' k q1 q4 q5 ss' q9 q10 hr hm hs
    rcases hr with ⟨rfl, rfl, _⟩ | ⟨r', rfl, rfl, _⟩
    · refine br_t rfl (H1 cd fs hS _ _ _ _ _ _ ss' _ _ ?_ hs)
      constructor
      · intro y
        rcases hm.mp (Or.inl y) with q | q
        · cases q
        · exact q
      · intro y
        rcases hm.mpr (Or.inr y) with q | q
        · exact q
        · cases q
    · refine br_f (hs_ne (a := 25) (b := 0) (by decide) (by decide) (by decide)) (H0 (fun cd' fs' h' => ?_) _ _ _ _ _ _ _ _ _)
      have := (hs_SU hS h').2.1
      cases this
  · intro hno q1 q2 q3 q4 q5 q6 q9 q10
    exact br_f (by decide) (H0 (fun cd fs => hno cd [] fs) _ _ _ _ _ _ _ _ _)
/-- an expression up to the colon that ends the line -/
theorem hs_yF135 {tx fo : Nat → Int32} {sm : Int32} {p : Nat} {r : List Nat} (hfo : fo 0 = nI 0) (hz : sm ≠ 50) (hTA : hs_TA tx p r) (hv : ∀ x, x ∈ r → hs_vt x) (hl : r.length ≤ 50) {post : Int32 → SY → Prop}
    (H1 : ∀ cd r0, r = r0 ++ [25] → hs_S false r0 true [] cd [] [] → ∀ (q1 q2 q3 q4 q7 q8 ss : Int32) (q9 : Nat → Int64) (q10 : Nat → Int32), (13 ∈ r ↔ ss = 1) → (ss = 0 ∨ ss = 1) → post 1 (y_maxObjects, y_maxSteps, y_maxDepth, y_kept, y_end, y_tokens, y_pending, y_lines, y_classes, y_prints, y_place, y_steps, 0, 0, 0, q1, q2, q3, q4, sm, y_target, y_err, y_code, y_outcome, y_result, 0, q7, y_starting, y_ended, q8, y_hosted, ss, tx, y_numbers, y_globals, y_entries, y_attrs, y_classOf, y_alive, y_orders, y_lengths, y_letters, y_bases, q9, q10, y_locals, y_fRecv, y_fLine, y_fPos, y_fStmt, y_fTarget, y_fMask, y_fHome, fo, y_fVals, y_fNew, y_out))
    (H0 : (∀ cd r0, ¬ (r = r0 ++ [25] ∧ hs_S false r0 true [] cd [] [])) → ∀ (q1 q2 q3 q4 q7 q8 ss : Int32) (q9 : Nat → Int64) (q10 : Nat → Int32), post 0 (y_maxObjects, y_maxSteps, y_maxDepth, y_kept, y_end, y_tokens, y_pending, y_lines, y_classes, y_prints, y_place, y_steps, 0, 0, 0, q1, q2, q3, q4, sm, y_target, y_err, y_code, y_outcome, y_result, 0, q7, y_starting, y_ended, q8, y_hosted, ss, tx, y_numbers, y_globals, y_entries, y_attrs, y_classOf, y_alive, y_orders, y_lengths, y_letters, y_bases, q9, q10, y_locals, y_fRecv, y_fLine, y_fPos, y_fStmt, y_fTarget, y_fMask, y_fHome, fo, y_fVals, y_fNew, y_out)) : wY_formRight_135 post y_maxObjects y_maxSteps y_maxDepth y_kept y_end y_tokens y_pending y_lines y_classes y_prints y_place y_steps 0 0 0 y_opens (nI p) y_tk y_tv sm y_target y_err y_code y_outcome y_result 0 y_want y_starting y_ended y_bad y_hosted 0 tx y_numbers y_globals y_entries y_attrs y_classOf y_alive y_orders y_lengths y_letters y_bases y_vals y_ops y_locals y_fRecv y_fLine y_fPos y_fStmt y_fTarget y_fMask y_fHome fo y_fVals y_fNew y_out := by
  unfold wY_formRight_135
  refine hs_yDryRun (z := false) hfo ⟨fun y => absurd y (by decide), fun y => absurd y hz⟩ hTA hv hl (Or.inl rfl) (w := true) (st := []) rfl rfl ?_ ?_
  · intro cd rs fs hS p' k q1 q4 q5 ss' q9 q10 hr hm hs
    have hfs : fs = [] := by
      rcases (hs_gstS hS).2 with q | ⟨q, _⟩
      · exact q
      · cases q
    subst hfs
    rcases hr with ⟨rfl, rfl, _⟩ | ⟨r', rfl, rfl, hT'⟩
    · refine br_f (hs_ne (a := 0) (b := 25) (by decide) (by decide) (by decide)) (H0 (fun cd' r0 h' => ?_) _ _ _ _ _ _ _ _ _)
      have := (hs_SU hS (by rw [h'.1]; exact hs_S25i.mpr h'.2)).2.1
      cases this
    · refine br_t rfl (hs_yIs0 hT' (fun er => br_f (by decide) ?_) (fun er _ _ _ => br_t rfl (H0 (fun cd' r0 h' => ?_) _ _ _ _ _ _ _ _ _)))
      · subst er
        obtain ⟨n, hn⟩ := hS
        obtain ⟨pre, e⟩ := hs_runSuf hn
        subst e
        refine H1 cd pre rfl (hs_S25i.mp ⟨n, hn⟩) _ _ _ _ _ _ ss' _ _ ?_ hs
        constructor
        · intro y
          rcases hm.mp (Or.inl y) with q | q
          · simp at q
          · exact q
        · intro y
          rcases hm.mpr (Or.inr y) with q | q
          · exact q
          · cases q
      · have := (hs_SU hS (by rw [h'.1]; exact hs_S25i.mpr h'.2)).2.1
        cases this
        exact er rfl
  · intro hno q1 q2 q3 q4 q5 q6 q9 q10
    refine br_f (by decide) (H0 (fun cd r0 h => ?_) _ _ _ _ _ _ _ _ _)
    exact hno cd [25] [] (by rw [h.1]; exact hs_S25i.mpr h.2)
theorem hs_yF70 {tx : Nat → Int32} {p : Nat} {r : List Nat} (hTA : hs_TA tx p r) {post : Int32 → SY → Prop} (H1 : r = [25] → ∀ q1 q2 q3 : Int32, post 1 (y_maxObjects, y_maxSteps, y_maxDepth, y_kept, y_end, y_tokens, y_pending, y_lines, y_classes, y_prints, y_place, y_steps, y_d, y_valTop, y_opTop, y_opens, q1, q2, q3, y_stmt, y_target, y_err, y_code, y_outcome, y_result, y_dry, y_want, y_starting, y_ended, y_bad, y_hosted, y_sawSuper, tx, y_numbers, y_globals, y_entries, y_attrs, y_classOf, y_alive, y_orders, y_lengths, y_letters, y_bases, y_vals, y_ops, y_locals, y_fRecv, y_fLine, y_fPos, y_fStmt, y_fTarget, y_fMask, y_fHome, y_fOps, y_fVals, y_fNew, y_out)) (H0 : r ≠ [25] → ∀ q1 q2 q3 : Int32, post 0 (y_maxObjects, y_maxSteps, y_maxDepth, y_kept, y_end, y_tokens, y_pending, y_lines, y_classes, y_prints, y_place, y_steps, y_d, y_valTop, y_opTop, y_opens, q1, q2, q3, y_stmt, y_target, y_err, y_code, y_outcome, y_result, y_dry, y_want, y_starting, y_ended, y_bad, y_hosted, y_sawSuper, tx, y_numbers, y_globals, y_entries, y_attrs, y_classOf, y_alive, y_orders, y_lengths, y_letters, y_bases, y_vals, y_ops, y_locals, y_fRecv, y_fLine, y_fPos, y_fStmt, y_fTarget, y_fMask, y_fHome, y_fOps, y_fVals, y_fNew, y_out)) : wY_formRight_70 post y_maxObjects y_maxSteps y_maxDepth y_kept y_end y_tokens y_pending y_lines y_classes y_prints y_place y_steps y_d y_valTop y_opTop y_opens (nI p) y_tk y_tv y_stmt y_target y_err y_code y_outcome y_result y_dry y_want y_starting y_ended y_bad y_hosted y_sawSuper tx y_numbers y_globals y_entries y_attrs y_classOf y_alive y_orders y_lengths y_letters y_bases y_vals y_ops y_locals y_fRecv y_fLine y_fPos y_fStmt y_fTarget y_fMask y_fHome y_fOps y_fVals y_fNew y_out := by
  unfold wY_formRight_70
  refine hs_yIsK hTA 25 (by decide) (fun r' er => br_f (by decide) ?_) (fun hn _ _ _ => br_t rfl (H0 (fun y => hn (by rw [y]; rfl)) _ _ _))
  subst er
  refine hs_yIs0 (hs_TAc hTA).2.2.2.2.2 (fun er => br_f (by decide) (H1 (by rw [er]) _ _ _)) (fun er _ _ _ => br_t rfl (H0 (fun y => er ?_) _ _ _))
  cases y
  rfl
theorem hs_yFm1 {tx fo : Nat → Int32} {p : Nat} {r ts : List Nat} (ets : ts = 1 :: r) (hfo : fo 0 = nI 0) (hTA : hs_TA tx p ts) (hv : ∀ x, x ∈ ts → hs_vt x) (hl : ts.length ≤ 40) {post : Int32 → SY → Prop}
    (H1 : ∀ (k f s t : Int32) (cd : List (Nat × Nat)), hs_LF k f s t cd ts → ∀ (q1 q2 q3 q4 sm q6 q7 q8 ss : Int32) (q9 : Nat → Int64) (q10 : Nat → Int32), (13 ∈ ts ↔ ss = 1) → (ss = 0 ∨ ss = 1) → (sm = 51 ↔ k = 15) → post 1 (y_maxObjects, y_maxSteps, y_maxDepth, y_kept, y_end, y_tokens, y_pending, y_lines, y_classes, y_prints, y_place, y_steps, 0, 0, 0, q1, q2, q3, q4, sm, q6, y_err, y_code, y_outcome, y_result, 0, q7, y_starting, y_ended, q8, y_hosted, ss, tx, y_numbers, y_globals, y_entries, y_attrs, y_classOf, y_alive, y_orders, y_lengths, y_letters, y_bases, q9, q10, y_locals, y_fRecv, y_fLine, y_fPos, y_fStmt, y_fTarget, y_fMask, y_fHome, fo, y_fVals, y_fNew, y_out))
    (H0 : (∀ (k f s t : Int32) (cd : List (Nat × Nat)), ¬ hs_LF k f s t cd ts) → ∀ (q1 q2 q3 q4 sm q6 q7 q8 ss : Int32) (q9 : Nat → Int64) (q10 : Nat → Int32), post 0 (y_maxObjects, y_maxSteps, y_maxDepth, y_kept, y_end, y_tokens, y_pending, y_lines, y_classes, y_prints, y_place, y_steps, 0, 0, 0, q1, q2, q3, q4, sm, q6, y_err, y_code, y_outcome, y_result, 0, q7, y_starting, y_ended, q8, y_hosted, ss, tx, y_numbers, y_globals, y_entries, y_attrs, y_classOf, y_alive, y_orders, y_lengths, y_letters, y_bases, q9, q10, y_locals, y_fRecv, y_fLine, y_fPos, y_fStmt, y_fTarget, y_fMask, y_fHome, fo, y_fVals, y_fNew, y_out)) : wpY_formRight post (y_maxObjects, y_maxSteps, y_maxDepth, y_kept, y_end, y_tokens, y_pending, y_lines, y_classes, y_prints, y_place, y_steps, 0, 0, 0, y_opens, y_pos, y_tk, y_tv, y_stmt, y_target, y_err, y_code, y_outcome, y_result, 0, y_want, y_starting, y_ended, y_bad, y_hosted, 0, tx, y_numbers, y_globals, y_entries, y_attrs, y_classOf, y_alive, y_orders, y_lengths, y_letters, y_bases, y_vals, y_ops, y_locals, y_fRecv, y_fLine, y_fPos, y_fStmt, y_fTarget, y_fMask, y_fHome, fo, y_fVals, y_fNew, y_out) (nI p) := by
  subst ets
  have hT1 := (hs_TAc hTA).2.2.2.2.2
  have hv1 : ∀ x, x ∈ r → hs_vt x := fun x hx => hv x (List.mem_cons_of_mem _ hx)
  unfold wpY_formRight
  refine hs_yHeadW hTA (by decide) (br_f (nI_nlt (b := 1) (by decide) (by decide)) (br_f (nI_nlt (a := 10) (by decide) (by decide)) (br_t rfl (hs_yClass hT1 hv1 (fun f s t hC _ _ _ => ⟨hs_narB (Or.inr rfl), ?_⟩) (fun hC _ _ _ => ⟨hs_narB (Or.inl rfl), ?_⟩)))))
  · refine H1 1 f s t [] ⟨rfl, rfl, hC⟩ _ _ _ _ _ _ _ _ _ _ _ ⟨fun y => ?_, fun y => absurd y (by decide)⟩ (Or.inl rfl) ⟨fun y => absurd y (hs_ne (a := 1) (b := 51) (by decide) (by decide) (by decide)), fun y => absurd y (by decide)⟩
    exfalso
    obtain ⟨c, hc, _, hh⟩ := hC
    have tc := hs_tkC hc
    rcases hh with ⟨e, _⟩ | ⟨a, ha, e, _⟩ | ⟨a, b, ha, hb, e, _⟩
    · subst e; simp at y; omega
    · have ta := hs_tkC ha
      subst e; simp at y; omega
    · have ta := hs_tkC ha
      have tb := hs_tkC hb
      subst e; simp at y; omega
  · refine H0 (fun k f s t cd hL => ?_) _ _ _ _ _ _ _ _ _ _ _
    have hL : k = 1 ∧ cd = [] ∧ hs_CH f s t r := hL
    exact hC f s t hL.2.2
theorem hs_yFm2 {tx fo : Nat → Int32} {p : Nat} {r ts : List Nat} (ets : ts = 2 :: r) (hfo : fo 0 = nI 0) (hTA : hs_TA tx p ts) (hv : ∀ x, x ∈ ts → hs_vt x) (hl : ts.length ≤ 40) {post : Int32 → SY → Prop}
    (H1 : ∀ (k f s t : Int32) (cd : List (Nat × Nat)), hs_LF k f s t cd ts → ∀ (q1 q2 q3 q4 sm q6 q7 q8 ss : Int32) (q9 : Nat → Int64) (q10 : Nat → Int32), (13 ∈ ts ↔ ss = 1) → (ss = 0 ∨ ss = 1) → (sm = 51 ↔ k = 15) → post 1 (y_maxObjects, y_maxSteps, y_maxDepth, y_kept, y_end, y_tokens, y_pending, y_lines, y_classes, y_prints, y_place, y_steps, 0, 0, 0, q1, q2, q3, q4, sm, q6, y_err, y_code, y_outcome, y_result, 0, q7, y_starting, y_ended, q8, y_hosted, ss, tx, y_numbers, y_globals, y_entries, y_attrs, y_classOf, y_alive, y_orders, y_lengths, y_letters, y_bases, q9, q10, y_locals, y_fRecv, y_fLine, y_fPos, y_fStmt, y_fTarget, y_fMask, y_fHome, fo, y_fVals, y_fNew, y_out))
    (H0 : (∀ (k f s t : Int32) (cd : List (Nat × Nat)), ¬ hs_LF k f s t cd ts) → ∀ (q1 q2 q3 q4 sm q6 q7 q8 ss : Int32) (q9 : Nat → Int64) (q10 : Nat → Int32), post 0 (y_maxObjects, y_maxSteps, y_maxDepth, y_kept, y_end, y_tokens, y_pending, y_lines, y_classes, y_prints, y_place, y_steps, 0, 0, 0, q1, q2, q3, q4, sm, q6, y_err, y_code, y_outcome, y_result, 0, q7, y_starting, y_ended, q8, y_hosted, ss, tx, y_numbers, y_globals, y_entries, y_attrs, y_classOf, y_alive, y_orders, y_lengths, y_letters, y_bases, q9, q10, y_locals, y_fRecv, y_fLine, y_fPos, y_fStmt, y_fTarget, y_fMask, y_fHome, fo, y_fVals, y_fNew, y_out)) : wpY_formRight post (y_maxObjects, y_maxSteps, y_maxDepth, y_kept, y_end, y_tokens, y_pending, y_lines, y_classes, y_prints, y_place, y_steps, 0, 0, 0, y_opens, y_pos, y_tk, y_tv, y_stmt, y_target, y_err, y_code, y_outcome, y_result, 0, y_want, y_starting, y_ended, y_bad, y_hosted, 0, tx, y_numbers, y_globals, y_entries, y_attrs, y_classOf, y_alive, y_orders, y_lengths, y_letters, y_bases, y_vals, y_ops, y_locals, y_fRecv, y_fLine, y_fPos, y_fStmt, y_fTarget, y_fMask, y_fHome, fo, y_fVals, y_fNew, y_out) (nI p) := by
  subst ets
  have hT1 := (hs_TAc hTA).2.2.2.2.2
  have hv1 : ∀ x, x ∈ r → hs_vt x := fun x hx => hv x (List.mem_cons_of_mem _ hx)
  unfold wpY_formRight
  refine hs_yHeadW hTA (by decide) (br_f (nI_nlt (b := 1) (by decide) (by decide)) (br_f (nI_nlt (a := 10) (by decide) (by decide)) (br_f (hs_ne (a := 2) (b := 1) (by decide) (by decide) (by decide)) (br_t rfl (hs_yDef hT1 hv1 (fun f s t hC _ _ _ => ⟨hs_narB (Or.inr rfl), ?_⟩) (fun hC _ _ _ => ⟨hs_narB (Or.inl rfl), ?_⟩))))))
  · refine H1 2 f s t [] ⟨rfl, rfl, hC⟩ _ _ _ _ _ _ _ _ _ _ _ ⟨fun y => ?_, fun y => absurd y (by decide)⟩ (Or.inl rfl) ⟨fun y => absurd y (hs_ne (a := 2) (b := 51) (by decide) (by decide) (by decide)), fun y => absurd y (by decide)⟩
    exfalso
    obtain ⟨n, a, hn, ha, _, _, hh⟩ := hC
    have tn := hs_tkN hn
    have ta := hs_tkN ha
    rcases hh with ⟨e, _⟩ | ⟨b, hb, _, e, _⟩
    · subst e; simp at y; omega
    · have tb := hs_tkN hb
      subst e; simp at y; omega
  · refine H0 (fun k f s t cd hL => ?_) _ _ _ _ _ _ _ _ _ _ _
    have hL : k = 2 ∧ cd = [] ∧ hs_DH f s t r := hL
    exact hC f s t hL.2.2
theorem hs_yFm3 {tx fo : Nat → Int32} {p : Nat} {r ts : List Nat} (ets : ts = 3 :: r) (hfo : fo 0 = nI 0) (hTA : hs_TA tx p ts) (hv : ∀ x, x ∈ ts → hs_vt x) (hl : ts.length ≤ 40) {post : Int32 → SY → Prop}
    (H1 : ∀ (k f s t : Int32) (cd : List (Nat × Nat)), hs_LF k f s t cd ts → ∀ (q1 q2 q3 q4 sm q6 q7 q8 ss : Int32) (q9 : Nat → Int64) (q10 : Nat → Int32), (13 ∈ ts ↔ ss = 1) → (ss = 0 ∨ ss = 1) → (sm = 51 ↔ k = 15) → post 1 (y_maxObjects, y_maxSteps, y_maxDepth, y_kept, y_end, y_tokens, y_pending, y_lines, y_classes, y_prints, y_place, y_steps, 0, 0, 0, q1, q2, q3, q4, sm, q6, y_err, y_code, y_outcome, y_result, 0, q7, y_starting, y_ended, q8, y_hosted, ss, tx, y_numbers, y_globals, y_entries, y_attrs, y_classOf, y_alive, y_orders, y_lengths, y_letters, y_bases, q9, q10, y_locals, y_fRecv, y_fLine, y_fPos, y_fStmt, y_fTarget, y_fMask, y_fHome, fo, y_fVals, y_fNew, y_out))
    (H0 : (∀ (k f s t : Int32) (cd : List (Nat × Nat)), ¬ hs_LF k f s t cd ts) → ∀ (q1 q2 q3 q4 sm q6 q7 q8 ss : Int32) (q9 : Nat → Int64) (q10 : Nat → Int32), post 0 (y_maxObjects, y_maxSteps, y_maxDepth, y_kept, y_end, y_tokens, y_pending, y_lines, y_classes, y_prints, y_place, y_steps, 0, 0, 0, q1, q2, q3, q4, sm, q6, y_err, y_code, y_outcome, y_result, 0, q7, y_starting, y_ended, q8, y_hosted, ss, tx, y_numbers, y_globals, y_entries, y_attrs, y_classOf, y_alive, y_orders, y_lengths, y_letters, y_bases, q9, q10, y_locals, y_fRecv, y_fLine, y_fPos, y_fStmt, y_fTarget, y_fMask, y_fHome, fo, y_fVals, y_fNew, y_out)) : wpY_formRight post (y_maxObjects, y_maxSteps, y_maxDepth, y_kept, y_end, y_tokens, y_pending, y_lines, y_classes, y_prints, y_place, y_steps, 0, 0, 0, y_opens, y_pos, y_tk, y_tv, y_stmt, y_target, y_err, y_code, y_outcome, y_result, 0, y_want, y_starting, y_ended, y_bad, y_hosted, 0, tx, y_numbers, y_globals, y_entries, y_attrs, y_classOf, y_alive, y_orders, y_lengths, y_letters, y_bases, y_vals, y_ops, y_locals, y_fRecv, y_fLine, y_fPos, y_fStmt, y_fTarget, y_fMask, y_fHome, fo, y_fVals, y_fNew, y_out) (nI p) := by
  subst ets
  have hT1 := (hs_TAc hTA).2.2.2.2.2
  have hv1 : ∀ x, x ∈ r → hs_vt x := fun x hx => hv x (List.mem_cons_of_mem _ hx)
  unfold wpY_formRight
  have m13 : 13 ∈ 3 :: r ↔ 13 ∈ r := by
    constructor
    · intro y
      rcases List.mem_cons.mp y with q | q
      · cases q
      · exact q
    · exact List.mem_cons_of_mem _
  refine hs_yHeadW hTA (by decide) (br_f (nI_nlt (b := 1) (by decide) (by decide)) (br_f (nI_nlt (a := 10) (by decide) (by decide)) (br_f (hs_ne (a := 3) (b := 1) (by decide) (by decide) (by decide)) (br_f (hs_ne (a := 3) (b := 2) (by decide) (by decide) (by decide)) (br_t rfl (hs_yF158 (z := false) hfo ⟨fun y => absurd y (by decide), fun y => absurd y (hs_ne (a := 3) (b := 50) (by decide) (by decide) (by decide))⟩ hT1 hv1 (by simp only [List.length_cons] at hl; omega) (fun cd fs hS q1 q2 q3 q4 q7 q8 ss q9 q10 hm hs => ?_) (fun hno q1 q2 q3 q4 q7 q8 ss q9 q10 => ?_)))))))
  · have hfs : fs = [] := by
      rcases (hs_gstS hS).2 with q | ⟨q, _⟩
      · exact q
      · cases q
    subst hfs
    exact H1 (nI 3) 0 0 0 cd ⟨rfl, hS⟩ _ _ _ _ _ _ _ _ _ _ _ (m13.trans hm) hs ⟨fun y => absurd y (hs_ne (a := 3) (b := 51) (by decide) (by decide) (by decide)), fun y => absurd y (hs_ne (a := 3) (b := 15) (by decide) (by decide) (by decide))⟩
  · refine H0 (fun k f s t cd hL => ?_) _ _ _ _ _ _ _ _ _ _ _
    obtain ⟨_, hS⟩ : k = nI 3 ∧ hs_S false r true [] cd [] [] := hL
    exact hno cd [] hS
theorem hs_yFm4 {tx fo : Nat → Int32} {p : Nat} {r ts : List Nat} (ets : ts = 4 :: r) (hfo : fo 0 = nI 0) (hTA : hs_TA tx p ts) (hv : ∀ x, x ∈ ts → hs_vt x) (hl : ts.length ≤ 40) {post : Int32 → SY → Prop}
    (H1 : ∀ (k f s t : Int32) (cd : List (Nat × Nat)), hs_LF k f s t cd ts → ∀ (q1 q2 q3 q4 sm q6 q7 q8 ss : Int32) (q9 : Nat → Int64) (q10 : Nat → Int32), (13 ∈ ts ↔ ss = 1) → (ss = 0 ∨ ss = 1) → (sm = 51 ↔ k = 15) → post 1 (y_maxObjects, y_maxSteps, y_maxDepth, y_kept, y_end, y_tokens, y_pending, y_lines, y_classes, y_prints, y_place, y_steps, 0, 0, 0, q1, q2, q3, q4, sm, q6, y_err, y_code, y_outcome, y_result, 0, q7, y_starting, y_ended, q8, y_hosted, ss, tx, y_numbers, y_globals, y_entries, y_attrs, y_classOf, y_alive, y_orders, y_lengths, y_letters, y_bases, q9, q10, y_locals, y_fRecv, y_fLine, y_fPos, y_fStmt, y_fTarget, y_fMask, y_fHome, fo, y_fVals, y_fNew, y_out))
    (H0 : (∀ (k f s t : Int32) (cd : List (Nat × Nat)), ¬ hs_LF k f s t cd ts) → ∀ (q1 q2 q3 q4 sm q6 q7 q8 ss : Int32) (q9 : Nat → Int64) (q10 : Nat → Int32), post 0 (y_maxObjects, y_maxSteps, y_maxDepth, y_kept, y_end, y_tokens, y_pending, y_lines, y_classes, y_prints, y_place, y_steps, 0, 0, 0, q1, q2, q3, q4, sm, q6, y_err, y_code, y_outcome, y_result, 0, q7, y_starting, y_ended, q8, y_hosted, ss, tx, y_numbers, y_globals, y_entries, y_attrs, y_classOf, y_alive, y_orders, y_lengths, y_letters, y_bases, q9, q10, y_locals, y_fRecv, y_fLine, y_fPos, y_fStmt, y_fTarget, y_fMask, y_fHome, fo, y_fVals, y_fNew, y_out)) : wpY_formRight post (y_maxObjects, y_maxSteps, y_maxDepth, y_kept, y_end, y_tokens, y_pending, y_lines, y_classes, y_prints, y_place, y_steps, 0, 0, 0, y_opens, y_pos, y_tk, y_tv, y_stmt, y_target, y_err, y_code, y_outcome, y_result, 0, y_want, y_starting, y_ended, y_bad, y_hosted, 0, tx, y_numbers, y_globals, y_entries, y_attrs, y_classOf, y_alive, y_orders, y_lengths, y_letters, y_bases, y_vals, y_ops, y_locals, y_fRecv, y_fLine, y_fPos, y_fStmt, y_fTarget, y_fMask, y_fHome, fo, y_fVals, y_fNew, y_out) (nI p) := by
  subst ets
  have hT1 := (hs_TAc hTA).2.2.2.2.2
  have hv1 : ∀ x, x ∈ r → hs_vt x := fun x hx => hv x (List.mem_cons_of_mem _ hx)
  unfold wpY_formRight
  have m13 : 13 ∈ 4 :: r ↔ 13 ∈ r := by
    constructor
    · intro y
      rcases List.mem_cons.mp y with q | q
      · cases q
      · exact q
    · exact List.mem_cons_of_mem _
  refine hs_yHeadW hTA (by decide) (br_f (nI_nlt (b := 1) (by decide) (by decide)) (br_f (nI_nlt (a := 10) (by decide) (by decide)) (br_f (hs_ne (a := 4) (b := 1) (by decide) (by decide) (by decide)) (br_f (hs_ne (a := 4) (b := 2) (by decide) (by decide) (by decide)) (br_f (hs_ne (a := 4) (b := 3) (by decide) (by decide) (by decide)) (br_t rfl (hs_yF135 hfo (hs_ne (a := 4) (b := 50) (by decide) (by decide) (by decide)) hT1 hv1 (by simp only [List.length_cons] at hl; omega) (fun cd r0 er hS q1 q2 q3 q4 q7 q8 ss q9 q10 hm hs => ?_) (fun hno q1 q2 q3 q4 q7 q8 ss q9 q10 => ?_))))))))
  · exact H1 (nI 4) 0 0 0 cd ⟨rfl, r0, er, hS⟩ _ _ _ _ _ _ _ _ _ _ _ (m13.trans hm) hs ⟨fun y => absurd y (hs_ne (a := 4) (b := 51) (by decide) (by decide) (by decide)), fun y => absurd y (hs_ne (a := 4) (b := 15) (by decide) (by decide) (by decide))⟩
  · refine H0 (fun k f s t cd hL => ?_) _ _ _ _ _ _ _ _ _ _ _
    obtain ⟨_, r', e, hS⟩ : k = nI 4 ∧ ∃ r', r = r' ++ [25] ∧ hs_S false r' true [] cd [] [] := hL
    exact hno cd r' ⟨e, hS⟩
theorem hs_yFm5 {tx fo : Nat → Int32} {p : Nat} {r ts : List Nat} (ets : ts = 5 :: r) (hfo : fo 0 = nI 0) (hTA : hs_TA tx p ts) (hv : ∀ x, x ∈ ts → hs_vt x) (hl : ts.length ≤ 40) {post : Int32 → SY → Prop}
    (H1 : ∀ (k f s t : Int32) (cd : List (Nat × Nat)), hs_LF k f s t cd ts → ∀ (q1 q2 q3 q4 sm q6 q7 q8 ss : Int32) (q9 : Nat → Int64) (q10 : Nat → Int32), (13 ∈ ts ↔ ss = 1) → (ss = 0 ∨ ss = 1) → (sm = 51 ↔ k = 15) → post 1 (y_maxObjects, y_maxSteps, y_maxDepth, y_kept, y_end, y_tokens, y_pending, y_lines, y_classes, y_prints, y_place, y_steps, 0, 0, 0, q1, q2, q3, q4, sm, q6, y_err, y_code, y_outcome, y_result, 0, q7, y_starting, y_ended, q8, y_hosted, ss, tx, y_numbers, y_globals, y_entries, y_attrs, y_classOf, y_alive, y_orders, y_lengths, y_letters, y_bases, q9, q10, y_locals, y_fRecv, y_fLine, y_fPos, y_fStmt, y_fTarget, y_fMask, y_fHome, fo, y_fVals, y_fNew, y_out))
    (H0 : (∀ (k f s t : Int32) (cd : List (Nat × Nat)), ¬ hs_LF k f s t cd ts) → ∀ (q1 q2 q3 q4 sm q6 q7 q8 ss : Int32) (q9 : Nat → Int64) (q10 : Nat → Int32), post 0 (y_maxObjects, y_maxSteps, y_maxDepth, y_kept, y_end, y_tokens, y_pending, y_lines, y_classes, y_prints, y_place, y_steps, 0, 0, 0, q1, q2, q3, q4, sm, q6, y_err, y_code, y_outcome, y_result, 0, q7, y_starting, y_ended, q8, y_hosted, ss, tx, y_numbers, y_globals, y_entries, y_attrs, y_classOf, y_alive, y_orders, y_lengths, y_letters, y_bases, q9, q10, y_locals, y_fRecv, y_fLine, y_fPos, y_fStmt, y_fTarget, y_fMask, y_fHome, fo, y_fVals, y_fNew, y_out)) : wpY_formRight post (y_maxObjects, y_maxSteps, y_maxDepth, y_kept, y_end, y_tokens, y_pending, y_lines, y_classes, y_prints, y_place, y_steps, 0, 0, 0, y_opens, y_pos, y_tk, y_tv, y_stmt, y_target, y_err, y_code, y_outcome, y_result, 0, y_want, y_starting, y_ended, y_bad, y_hosted, 0, tx, y_numbers, y_globals, y_entries, y_attrs, y_classOf, y_alive, y_orders, y_lengths, y_letters, y_bases, y_vals, y_ops, y_locals, y_fRecv, y_fLine, y_fPos, y_fStmt, y_fTarget, y_fMask, y_fHome, fo, y_fVals, y_fNew, y_out) (nI p) := by
  subst ets
  have hT1 := (hs_TAc hTA).2.2.2.2.2
  have hv1 : ∀ x, x ∈ r → hs_vt x := fun x hx => hv x (List.mem_cons_of_mem _ hx)
  unfold wpY_formRight
  refine hs_yHeadW hTA (by decide) (br_f (nI_nlt (b := 1) (by decide) (by decide)) (br_f (nI_nlt (a := 10) (by decide) (by decide)) (br_f (hs_ne (a := 5) (b := 1) (by decide) (by decide) (by decide)) (br_f (hs_ne (a := 5) (b := 2) (by decide) (by decide) (by decide)) (br_f (hs_ne (a := 5) (b := 3) (by decide) (by decide) (by decide)) (br_f (hs_ne (a := 5) (b := 4) (by decide) (by decide) (by decide)) (br_t rfl (hs_yF70 hT1 (fun er _ _ _ => ?_) (fun er _ _ _ => ?_)))))))))
  · exact H1 (nI 5) 0 0 0 [] ⟨rfl, er, rfl⟩ _ _ _ _ _ _ _ _ _ _ _ (by subst er; decide) (Or.inl rfl) ⟨fun y => absurd y (hs_ne (a := 5) (b := 51) (by decide) (by decide) (by decide)), fun y => absurd y (hs_ne (a := 5) (b := 15) (by decide) (by decide) (by decide))⟩
  · refine H0 (fun k f s t cd hL => er ?_) _ _ _ _ _ _ _ _ _ _ _
    have hL : k = nI 5 ∧ r = [25] ∧ cd = [] := hL
    exact hL.2.1
theorem hs_yFm6 {tx fo : Nat → Int32} {p : Nat} {r ts : List Nat} (ets : ts = 6 :: r) (hfo : fo 0 = nI 0) (hTA : hs_TA tx p ts) (hv : ∀ x, x ∈ ts → hs_vt x) (hl : ts.length ≤ 40) {post : Int32 → SY → Prop}
    (H1 : ∀ (k f s t : Int32) (cd : List (Nat × Nat)), hs_LF k f s t cd ts → ∀ (q1 q2 q3 q4 sm q6 q7 q8 ss : Int32) (q9 : Nat → Int64) (q10 : Nat → Int32), (13 ∈ ts ↔ ss = 1) → (ss = 0 ∨ ss = 1) → (sm = 51 ↔ k = 15) → post 1 (y_maxObjects, y_maxSteps, y_maxDepth, y_kept, y_end, y_tokens, y_pending, y_lines, y_classes, y_prints, y_place, y_steps, 0, 0, 0, q1, q2, q3, q4, sm, q6, y_err, y_code, y_outcome, y_result, 0, q7, y_starting, y_ended, q8, y_hosted, ss, tx, y_numbers, y_globals, y_entries, y_attrs, y_classOf, y_alive, y_orders, y_lengths, y_letters, y_bases, q9, q10, y_locals, y_fRecv, y_fLine, y_fPos, y_fStmt, y_fTarget, y_fMask, y_fHome, fo, y_fVals, y_fNew, y_out))
    (H0 : (∀ (k f s t : Int32) (cd : List (Nat × Nat)), ¬ hs_LF k f s t cd ts) → ∀ (q1 q2 q3 q4 sm q6 q7 q8 ss : Int32) (q9 : Nat → Int64) (q10 : Nat → Int32), post 0 (y_maxObjects, y_maxSteps, y_maxDepth, y_kept, y_end, y_tokens, y_pending, y_lines, y_classes, y_prints, y_place, y_steps, 0, 0, 0, q1, q2, q3, q4, sm, q6, y_err, y_code, y_outcome, y_result, 0, q7, y_starting, y_ended, q8, y_hosted, ss, tx, y_numbers, y_globals, y_entries, y_attrs, y_classOf, y_alive, y_orders, y_lengths, y_letters, y_bases, q9, q10, y_locals, y_fRecv, y_fLine, y_fPos, y_fStmt, y_fTarget, y_fMask, y_fHome, fo, y_fVals, y_fNew, y_out)) : wpY_formRight post (y_maxObjects, y_maxSteps, y_maxDepth, y_kept, y_end, y_tokens, y_pending, y_lines, y_classes, y_prints, y_place, y_steps, 0, 0, 0, y_opens, y_pos, y_tk, y_tv, y_stmt, y_target, y_err, y_code, y_outcome, y_result, 0, y_want, y_starting, y_ended, y_bad, y_hosted, 0, tx, y_numbers, y_globals, y_entries, y_attrs, y_classOf, y_alive, y_orders, y_lengths, y_letters, y_bases, y_vals, y_ops, y_locals, y_fRecv, y_fLine, y_fPos, y_fStmt, y_fTarget, y_fMask, y_fHome, fo, y_fVals, y_fNew, y_out) (nI p) := by
  subst ets
  have hT1 := (hs_TAc hTA).2.2.2.2.2
  have hv1 : ∀ x, x ∈ r → hs_vt x := fun x hx => hv x (List.mem_cons_of_mem _ hx)
  unfold wpY_formRight
  have m13 : 13 ∈ 6 :: r ↔ 13 ∈ r := by
    constructor
    · intro y
      rcases List.mem_cons.mp y with q | q
      · cases q
      · exact q
    · exact List.mem_cons_of_mem _
  refine hs_yHeadW hTA (by decide) (br_f (nI_nlt (b := 1) (by decide) (by decide)) (br_f (nI_nlt (a := 10) (by decide) (by decide)) (br_f (hs_ne (a := 6) (b := 1) (by decide) (by decide) (by decide)) (br_f (hs_ne (a := 6) (b := 2) (by decide) (by decide) (by decide)) (br_f (hs_ne (a := 6) (b := 3) (by decide) (by decide) (by decide)) (br_f (hs_ne (a := 6) (b := 4) (by decide) (by decide) (by decide)) (br_f (hs_ne (a := 6) (b := 5) (by decide) (by decide) (by decide)) (br_t rfl (hs_yF135 hfo (hs_ne (a := 6) (b := 50) (by decide) (by decide) (by decide)) hT1 hv1 (by simp only [List.length_cons] at hl; omega) (fun cd r0 er hS q1 q2 q3 q4 q7 q8 ss q9 q10 hm hs => ?_) (fun hno q1 q2 q3 q4 q7 q8 ss q9 q10 => ?_))))))))))
  · exact H1 (nI 6) 0 0 0 cd ⟨rfl, r0, er, hS⟩ _ _ _ _ _ _ _ _ _ _ _ (m13.trans hm) hs ⟨fun y => absurd y (hs_ne (a := 6) (b := 51) (by decide) (by decide) (by decide)), fun y => absurd y (hs_ne (a := 6) (b := 15) (by decide) (by decide) (by decide))⟩
  · refine H0 (fun k f s t cd hL => ?_) _ _ _ _ _ _ _ _ _ _ _
    obtain ⟨_, r', e, hS⟩ : k = nI 6 ∧ ∃ r', r = r' ++ [25] ∧ hs_S false r' true [] cd [] [] := hL
    exact hno cd r' ⟨e, hS⟩
theorem hs_yFm7 {tx fo : Nat → Int32} {p : Nat} {r ts : List Nat} (ets : ts = 7 :: r) (hfo : fo 0 = nI 0) (hTA : hs_TA tx p ts) (hv : ∀ x, x ∈ ts → hs_vt x) (hl : ts.length ≤ 40) {post : Int32 → SY → Prop}
    (H1 : ∀ (k f s t : Int32) (cd : List (Nat × Nat)), hs_LF k f s t cd ts → ∀ (q1 q2 q3 q4 sm q6 q7 q8 ss : Int32) (q9 : Nat → Int64) (q10 : Nat → Int32), (13 ∈ ts ↔ ss = 1) → (ss = 0 ∨ ss = 1) → (sm = 51 ↔ k = 15) → post 1 (y_maxObjects, y_maxSteps, y_maxDepth, y_kept, y_end, y_tokens, y_pending, y_lines, y_classes, y_prints, y_place, y_steps, 0, 0, 0, q1, q2, q3, q4, sm, q6, y_err, y_code, y_outcome, y_result, 0, q7, y_starting, y_ended, q8, y_hosted, ss, tx, y_numbers, y_globals, y_entries, y_attrs, y_classOf, y_alive, y_orders, y_lengths, y_letters, y_bases, q9, q10, y_locals, y_fRecv, y_fLine, y_fPos, y_fStmt, y_fTarget, y_fMask, y_fHome, fo, y_fVals, y_fNew, y_out))
    (H0 : (∀ (k f s t : Int32) (cd : List (Nat × Nat)), ¬ hs_LF k f s t cd ts) → ∀ (q1 q2 q3 q4 sm q6 q7 q8 ss : Int32) (q9 : Nat → Int64) (q10 : Nat → Int32), post 0 (y_maxObjects, y_maxSteps, y_maxDepth, y_kept, y_end, y_tokens, y_pending, y_lines, y_classes, y_prints, y_place, y_steps, 0, 0, 0, q1, q2, q3, q4, sm, q6, y_err, y_code, y_outcome, y_result, 0, q7, y_starting, y_ended, q8, y_hosted, ss, tx, y_numbers, y_globals, y_entries, y_attrs, y_classOf, y_alive, y_orders, y_lengths, y_letters, y_bases, q9, q10, y_locals, y_fRecv, y_fLine, y_fPos, y_fStmt, y_fTarget, y_fMask, y_fHome, fo, y_fVals, y_fNew, y_out)) : wpY_formRight post (y_maxObjects, y_maxSteps, y_maxDepth, y_kept, y_end, y_tokens, y_pending, y_lines, y_classes, y_prints, y_place, y_steps, 0, 0, 0, y_opens, y_pos, y_tk, y_tv, y_stmt, y_target, y_err, y_code, y_outcome, y_result, 0, y_want, y_starting, y_ended, y_bad, y_hosted, 0, tx, y_numbers, y_globals, y_entries, y_attrs, y_classOf, y_alive, y_orders, y_lengths, y_letters, y_bases, y_vals, y_ops, y_locals, y_fRecv, y_fLine, y_fPos, y_fStmt, y_fTarget, y_fMask, y_fHome, fo, y_fVals, y_fNew, y_out) (nI p) := by
  subst ets
  have hT1 := (hs_TAc hTA).2.2.2.2.2
  have hv1 : ∀ x, x ∈ r → hs_vt x := fun x hx => hv x (List.mem_cons_of_mem _ hx)
  unfold wpY_formRight
  refine hs_yHeadW hTA (by decide) (br_f (nI_nlt (b := 1) (by decide) (by decide)) (br_f (nI_nlt (a := 10) (by decide) (by decide)) (br_f (hs_ne (a := 7) (b := 1) (by decide) (by decide) (by decide)) (br_f (hs_ne (a := 7) (b := 2) (by decide) (by decide) (by decide)) (br_f (hs_ne (a := 7) (b := 3) (by decide) (by decide) (by decide)) (br_f (hs_ne (a := 7) (b := 4) (by decide) (by decide) (by decide)) (br_f (hs_ne (a := 7) (b := 5) (by decide) (by decide) (by decide)) (br_f (hs_ne (a := 7) (b := 6) (by decide) (by decide) (by decide)) (br_t rfl (hs_yF70 hT1 (fun er _ _ _ => ?_) (fun er _ _ _ => ?_)))))))))))
  · exact H1 (nI 7) 0 0 0 [] ⟨rfl, er, rfl⟩ _ _ _ _ _ _ _ _ _ _ _ (by subst er; decide) (Or.inl rfl) ⟨fun y => absurd y (hs_ne (a := 7) (b := 51) (by decide) (by decide) (by decide)), fun y => absurd y (hs_ne (a := 7) (b := 15) (by decide) (by decide) (by decide))⟩
  · refine H0 (fun k f s t cd hL => er ?_) _ _ _ _ _ _ _ _ _ _ _
    have hL : k = nI 7 ∧ r = [25] ∧ cd = [] := hL
    exact hL.2.1
theorem hs_yFm8 {tx fo : Nat → Int32} {p : Nat} {r ts : List Nat} (ets : ts = 8 :: r) (hfo : fo 0 = nI 0) (hTA : hs_TA tx p ts) (hv : ∀ x, x ∈ ts → hs_vt x) (hl : ts.length ≤ 40) {post : Int32 → SY → Prop}
    (H1 : ∀ (k f s t : Int32) (cd : List (Nat × Nat)), hs_LF k f s t cd ts → ∀ (q1 q2 q3 q4 sm q6 q7 q8 ss : Int32) (q9 : Nat → Int64) (q10 : Nat → Int32), (13 ∈ ts ↔ ss = 1) → (ss = 0 ∨ ss = 1) → (sm = 51 ↔ k = 15) → post 1 (y_maxObjects, y_maxSteps, y_maxDepth, y_kept, y_end, y_tokens, y_pending, y_lines, y_classes, y_prints, y_place, y_steps, 0, 0, 0, q1, q2, q3, q4, sm, q6, y_err, y_code, y_outcome, y_result, 0, q7, y_starting, y_ended, q8, y_hosted, ss, tx, y_numbers, y_globals, y_entries, y_attrs, y_classOf, y_alive, y_orders, y_lengths, y_letters, y_bases, q9, q10, y_locals, y_fRecv, y_fLine, y_fPos, y_fStmt, y_fTarget, y_fMask, y_fHome, fo, y_fVals, y_fNew, y_out))
    (H0 : (∀ (k f s t : Int32) (cd : List (Nat × Nat)), ¬ hs_LF k f s t cd ts) → ∀ (q1 q2 q3 q4 sm q6 q7 q8 ss : Int32) (q9 : Nat → Int64) (q10 : Nat → Int32), post 0 (y_maxObjects, y_maxSteps, y_maxDepth, y_kept, y_end, y_tokens, y_pending, y_lines, y_classes, y_prints, y_place, y_steps, 0, 0, 0, q1, q2, q3, q4, sm, q6, y_err, y_code, y_outcome, y_result, 0, q7, y_starting, y_ended, q8, y_hosted, ss, tx, y_numbers, y_globals, y_entries, y_attrs, y_classOf, y_alive, y_orders, y_lengths, y_letters, y_bases, q9, q10, y_locals, y_fRecv, y_fLine, y_fPos, y_fStmt, y_fTarget, y_fMask, y_fHome, fo, y_fVals, y_fNew, y_out)) : wpY_formRight post (y_maxObjects, y_maxSteps, y_maxDepth, y_kept, y_end, y_tokens, y_pending, y_lines, y_classes, y_prints, y_place, y_steps, 0, 0, 0, y_opens, y_pos, y_tk, y_tv, y_stmt, y_target, y_err, y_code, y_outcome, y_result, 0, y_want, y_starting, y_ended, y_bad, y_hosted, 0, tx, y_numbers, y_globals, y_entries, y_attrs, y_classOf, y_alive, y_orders, y_lengths, y_letters, y_bases, y_vals, y_ops, y_locals, y_fRecv, y_fLine, y_fPos, y_fStmt, y_fTarget, y_fMask, y_fHome, fo, y_fVals, y_fNew, y_out) (nI p) := by
  subst ets
  have hT1 := (hs_TAc hTA).2.2.2.2.2
  have hv1 : ∀ x, x ∈ r → hs_vt x := fun x hx => hv x (List.mem_cons_of_mem _ hx)
  unfold wpY_formRight
  refine hs_yHeadW hTA (by decide) (br_f (nI_nlt (b := 1) (by decide) (by decide)) (br_f (nI_nlt (a := 10) (by decide) (by decide)) (br_f (hs_ne (a := 8) (b := 1) (by decide) (by decide) (by decide)) (br_f (hs_ne (a := 8) (b := 2) (by decide) (by decide) (by decide)) (br_f (hs_ne (a := 8) (b := 3) (by decide) (by decide) (by decide)) (br_f (hs_ne (a := 8) (b := 4) (by decide) (by decide) (by decide)) (br_f (hs_ne (a := 8) (b := 5) (by decide) (by decide) (by decide)) (br_f (hs_ne (a := 8) (b := 6) (by decide) (by decide) (by decide)) (br_f (hs_ne (a := 8) (b := 7) (by decide) (by decide) (by decide)) (br_t rfl (hs_yIsN hT1 hv1 (fun n r1 er hn => br_f (by decide) ?_) (fun hn _ _ _ => br_t rfl ?_))))))))))))
  · subst er
    have hT2 := (hs_TAc hT1).2.2.2.2.2
    have hn' := hs_tkN hn
    refine hs_yIsK hT2 25 (by decide) (fun r2 er => br_f (by decide) ?_) (fun h25 _ _ _ => br_t rfl ?_)
    · subst er
      refine hs_yIs0 (hs_TAc hT2).2.2.2.2.2 (fun er => br_f (by decide) ?_) (fun er _ _ _ => br_t rfl ?_)
      · subst er
        exact H1 8 (nI (n - 100)) 0 0 [] ⟨rfl, rfl, n, rfl, hn, rfl⟩ _ _ _ _ _ _ _ _ _ _ _ ⟨fun y => by simp at y; omega, fun y => absurd y (by decide)⟩ (Or.inl rfl) ⟨fun y => absurd y (hs_ne (a := 8) (b := 51) (by decide) (by decide) (by decide)), fun y => absurd y (by decide)⟩
      · refine H0 (fun k f s t cd hL => er ?_) _ _ _ _ _ _ _ _ _ _ _
        obtain ⟨_, _, n', e, _⟩ : k = 8 ∧ cd = [] ∧ ∃ n', n :: 25 :: r2 = [n', 25] ∧ hs_isN n' = true ∧ f = nI (n' - 100) := hL
        cases e; rfl
    · refine H0 (fun k f s t cd hL => h25 ?_) _ _ _ _ _ _ _ _ _ _ _
      obtain ⟨_, _, n', e, _⟩ : k = 8 ∧ cd = [] ∧ ∃ n', n :: r1 = [n', 25] ∧ hs_isN n' = true ∧ f = nI (n' - 100) := hL
      cases e; rfl
  · refine H0 (fun k f s t cd hL => ?_) _ _ _ _ _ _ _ _ _ _ _
    obtain ⟨_, _, n', e, hn', _⟩ : k = 8 ∧ cd = [] ∧ ∃ n', r = [n', 25] ∧ hs_isN n' = true ∧ f = nI (n' - 100) := hL
    subst e
    have hn : hs_isN n' = false := hn
    rw [hn'] at hn; cases hn
theorem hs_yFm9 {tx fo : Nat → Int32} {p : Nat} {r ts : List Nat} (ets : ts = 9 :: r) (hfo : fo 0 = nI 0) (hTA : hs_TA tx p ts) (hv : ∀ x, x ∈ ts → hs_vt x) (hl : ts.length ≤ 40) {post : Int32 → SY → Prop}
    (H1 : ∀ (k f s t : Int32) (cd : List (Nat × Nat)), hs_LF k f s t cd ts → ∀ (q1 q2 q3 q4 sm q6 q7 q8 ss : Int32) (q9 : Nat → Int64) (q10 : Nat → Int32), (13 ∈ ts ↔ ss = 1) → (ss = 0 ∨ ss = 1) → (sm = 51 ↔ k = 15) → post 1 (y_maxObjects, y_maxSteps, y_maxDepth, y_kept, y_end, y_tokens, y_pending, y_lines, y_classes, y_prints, y_place, y_steps, 0, 0, 0, q1, q2, q3, q4, sm, q6, y_err, y_code, y_outcome, y_result, 0, q7, y_starting, y_ended, q8, y_hosted, ss, tx, y_numbers, y_globals, y_entries, y_attrs, y_classOf, y_alive, y_orders, y_lengths, y_letters, y_bases, q9, q10, y_locals, y_fRecv, y_fLine, y_fPos, y_fStmt, y_fTarget, y_fMask, y_fHome, fo, y_fVals, y_fNew, y_out))
    (H0 : (∀ (k f s t : Int32) (cd : List (Nat × Nat)), ¬ hs_LF k f s t cd ts) → ∀ (q1 q2 q3 q4 sm q6 q7 q8 ss : Int32) (q9 : Nat → Int64) (q10 : Nat → Int32), post 0 (y_maxObjects, y_maxSteps, y_maxDepth, y_kept, y_end, y_tokens, y_pending, y_lines, y_classes, y_prints, y_place, y_steps, 0, 0, 0, q1, q2, q3, q4, sm, q6, y_err, y_code, y_outcome, y_result, 0, q7, y_starting, y_ended, q8, y_hosted, ss, tx, y_numbers, y_globals, y_entries, y_attrs, y_classOf, y_alive, y_orders, y_lengths, y_letters, y_bases, q9, q10, y_locals, y_fRecv, y_fLine, y_fPos, y_fStmt, y_fTarget, y_fMask, y_fHome, fo, y_fVals, y_fNew, y_out)) : wpY_formRight post (y_maxObjects, y_maxSteps, y_maxDepth, y_kept, y_end, y_tokens, y_pending, y_lines, y_classes, y_prints, y_place, y_steps, 0, 0, 0, y_opens, y_pos, y_tk, y_tv, y_stmt, y_target, y_err, y_code, y_outcome, y_result, 0, y_want, y_starting, y_ended, y_bad, y_hosted, 0, tx, y_numbers, y_globals, y_entries, y_attrs, y_classOf, y_alive, y_orders, y_lengths, y_letters, y_bases, y_vals, y_ops, y_locals, y_fRecv, y_fLine, y_fPos, y_fStmt, y_fTarget, y_fMask, y_fHome, fo, y_fVals, y_fNew, y_out) (nI p) := by
  subst ets
  have hT1 := (hs_TAc hTA).2.2.2.2.2
  have hv1 : ∀ x, x ∈ r → hs_vt x := fun x hx => hv x (List.mem_cons_of_mem _ hx)
  unfold wpY_formRight
  have m13 : 13 ∈ 9 :: r ↔ 13 ∈ r := by
    constructor
    · intro y
      rcases List.mem_cons.mp y with q | q
      · cases q
      · exact q
    · exact List.mem_cons_of_mem _
  refine hs_yHeadW hTA (by decide) (br_f (nI_nlt (b := 1) (by decide) (by decide)) (br_f (nI_nlt (a := 10) (by decide) (by decide)) (br_f (hs_ne (a := 9) (b := 1) (by decide) (by decide) (by decide)) (br_f (hs_ne (a := 9) (b := 2) (by decide) (by decide) (by decide)) (br_f (hs_ne (a := 9) (b := 3) (by decide) (by decide) (by decide)) (br_f (hs_ne (a := 9) (b := 4) (by decide) (by decide) (by decide)) (br_f (hs_ne (a := 9) (b := 5) (by decide) (by decide) (by decide)) (br_f (hs_ne (a := 9) (b := 6) (by decide) (by decide) (by decide)) (br_f (hs_ne (a := 9) (b := 7) (by decide) (by decide) (by decide)) (br_f (hs_ne (a := 9) (b := 8) (by decide) (by decide) (by decide)) (br_t rfl (hs_yF158 (z := false) hfo ⟨fun y => absurd y (by decide), fun y => absurd y (hs_ne (a := 9) (b := 50) (by decide) (by decide) (by decide))⟩ hT1 hv1 (by simp only [List.length_cons] at hl; omega) (fun cd fs hS q1 q2 q3 q4 q7 q8 ss q9 q10 hm hs => ?_) (fun hno q1 q2 q3 q4 q7 q8 ss q9 q10 => ?_)))))))))))))
  · have hfs : fs = [] := by
      rcases (hs_gstS hS).2 with q | ⟨q, _⟩
      · exact q
      · cases q
    subst hfs
    exact H1 (nI 9) 0 0 0 cd ⟨rfl, hS⟩ _ _ _ _ _ _ _ _ _ _ _ (m13.trans hm) hs ⟨fun y => absurd y (hs_ne (a := 9) (b := 51) (by decide) (by decide) (by decide)), fun y => absurd y (hs_ne (a := 9) (b := 15) (by decide) (by decide) (by decide))⟩
  · refine H0 (fun k f s t cd hL => ?_) _ _ _ _ _ _ _ _ _ _ _
    obtain ⟨_, hS⟩ : k = nI 9 ∧ hs_S false r true [] cd [] [] := hL
    exact hno cd [] hS
theorem hs_yFm10 {tx fo : Nat → Int32} {p : Nat} {r ts : List Nat} (ets : ts = 10 :: r) (hfo : fo 0 = nI 0) (hTA : hs_TA tx p ts) (hv : ∀ x, x ∈ ts → hs_vt x) (hl : ts.length ≤ 40) {post : Int32 → SY → Prop}
    (H1 : ∀ (k f s t : Int32) (cd : List (Nat × Nat)), hs_LF k f s t cd ts → ∀ (q1 q2 q3 q4 sm q6 q7 q8 ss : Int32) (q9 : Nat → Int64) (q10 : Nat → Int32), (13 ∈ ts ↔ ss = 1) → (ss = 0 ∨ ss = 1) → (sm = 51 ↔ k = 15) → post 1 (y_maxObjects, y_maxSteps, y_maxDepth, y_kept, y_end, y_tokens, y_pending, y_lines, y_classes, y_prints, y_place, y_steps, 0, 0, 0, q1, q2, q3, q4, sm, q6, y_err, y_code, y_outcome, y_result, 0, q7, y_starting, y_ended, q8, y_hosted, ss, tx, y_numbers, y_globals, y_entries, y_attrs, y_classOf, y_alive, y_orders, y_lengths, y_letters, y_bases, q9, q10, y_locals, y_fRecv, y_fLine, y_fPos, y_fStmt, y_fTarget, y_fMask, y_fHome, fo, y_fVals, y_fNew, y_out))
    (H0 : (∀ (k f s t : Int32) (cd : List (Nat × Nat)), ¬ hs_LF k f s t cd ts) → ∀ (q1 q2 q3 q4 sm q6 q7 q8 ss : Int32) (q9 : Nat → Int64) (q10 : Nat → Int32), post 0 (y_maxObjects, y_maxSteps, y_maxDepth, y_kept, y_end, y_tokens, y_pending, y_lines, y_classes, y_prints, y_place, y_steps, 0, 0, 0, q1, q2, q3, q4, sm, q6, y_err, y_code, y_outcome, y_result, 0, q7, y_starting, y_ended, q8, y_hosted, ss, tx, y_numbers, y_globals, y_entries, y_attrs, y_classOf, y_alive, y_orders, y_lengths, y_letters, y_bases, q9, q10, y_locals, y_fRecv, y_fLine, y_fPos, y_fStmt, y_fTarget, y_fMask, y_fHome, fo, y_fVals, y_fNew, y_out)) : wpY_formRight post (y_maxObjects, y_maxSteps, y_maxDepth, y_kept, y_end, y_tokens, y_pending, y_lines, y_classes, y_prints, y_place, y_steps, 0, 0, 0, y_opens, y_pos, y_tk, y_tv, y_stmt, y_target, y_err, y_code, y_outcome, y_result, 0, y_want, y_starting, y_ended, y_bad, y_hosted, 0, tx, y_numbers, y_globals, y_entries, y_attrs, y_classOf, y_alive, y_orders, y_lengths, y_letters, y_bases, y_vals, y_ops, y_locals, y_fRecv, y_fLine, y_fPos, y_fStmt, y_fTarget, y_fMask, y_fHome, fo, y_fVals, y_fNew, y_out) (nI p) := by
  subst ets
  have hT1 := (hs_TAc hTA).2.2.2.2.2
  have hv1 : ∀ x, x ∈ r → hs_vt x := fun x hx => hv x (List.mem_cons_of_mem _ hx)
  unfold wpY_formRight
  refine hs_yHeadW hTA (by decide) (br_f (nI_nlt (b := 1) (by decide) (by decide)) (br_f (nI_nlt (a := 10) (by decide) (by decide)) (br_f (hs_ne (a := 10) (b := 1) (by decide) (by decide) (by decide)) (br_f (hs_ne (a := 10) (b := 2) (by decide) (by decide) (by decide)) (br_f (hs_ne (a := 10) (b := 3) (by decide) (by decide) (by decide)) (br_f (hs_ne (a := 10) (b := 4) (by decide) (by decide) (by decide)) (br_f (hs_ne (a := 10) (b := 5) (by decide) (by decide) (by decide)) (br_f (hs_ne (a := 10) (b := 6) (by decide) (by decide) (by decide)) (br_f (hs_ne (a := 10) (b := 7) (by decide) (by decide) (by decide)) (br_f (hs_ne (a := 10) (b := 8) (by decide) (by decide) (by decide)) (br_f (hs_ne (a := 10) (b := 9) (by decide) (by decide) (by decide)) (br_t rfl (hs_yIs0 hT1 (fun er => ⟨hs_narB (Or.inr rfl), ?_⟩) (fun er _ _ _ => ⟨hs_narB (Or.inl rfl), ?_⟩))))))))))))))
  · exact H1 10 0 0 0 [] ⟨rfl, er, rfl⟩ _ _ _ _ _ _ _ _ _ _ _ (by subst er; decide) (Or.inl rfl) ⟨fun y => absurd y (hs_ne (a := 10) (b := 51) (by decide) (by decide) (by decide)), fun y => absurd y (by decide)⟩
  · refine H0 (fun k f s t cd hL => er ?_) _ _ _ _ _ _ _ _ _ _ _
    have hL : k = 10 ∧ r = [] ∧ cd = [] := hL
    exact hL.2.1
theorem hs_yFm11 {tx fo : Nat → Int32} {p : Nat} {r ts : List Nat} (ets : ts = 11 :: r) (hfo : fo 0 = nI 0) (hTA : hs_TA tx p ts) (hv : ∀ x, x ∈ ts → hs_vt x) (hl : ts.length ≤ 40) {post : Int32 → SY → Prop}
    (H1 : ∀ (k f s t : Int32) (cd : List (Nat × Nat)), hs_LF k f s t cd ts → ∀ (q1 q2 q3 q4 sm q6 q7 q8 ss : Int32) (q9 : Nat → Int64) (q10 : Nat → Int32), (13 ∈ ts ↔ ss = 1) → (ss = 0 ∨ ss = 1) → (sm = 51 ↔ k = 15) → post 1 (y_maxObjects, y_maxSteps, y_maxDepth, y_kept, y_end, y_tokens, y_pending, y_lines, y_classes, y_prints, y_place, y_steps, 0, 0, 0, q1, q2, q3, q4, sm, q6, y_err, y_code, y_outcome, y_result, 0, q7, y_starting, y_ended, q8, y_hosted, ss, tx, y_numbers, y_globals, y_entries, y_attrs, y_classOf, y_alive, y_orders, y_lengths, y_letters, y_bases, q9, q10, y_locals, y_fRecv, y_fLine, y_fPos, y_fStmt, y_fTarget, y_fMask, y_fHome, fo, y_fVals, y_fNew, y_out))
    (H0 : (∀ (k f s t : Int32) (cd : List (Nat × Nat)), ¬ hs_LF k f s t cd ts) → ∀ (q1 q2 q3 q4 sm q6 q7 q8 ss : Int32) (q9 : Nat → Int64) (q10 : Nat → Int32), post 0 (y_maxObjects, y_maxSteps, y_maxDepth, y_kept, y_end, y_tokens, y_pending, y_lines, y_classes, y_prints, y_place, y_steps, 0, 0, 0, q1, q2, q3, q4, sm, q6, y_err, y_code, y_outcome, y_result, 0, q7, y_starting, y_ended, q8, y_hosted, ss, tx, y_numbers, y_globals, y_entries, y_attrs, y_classOf, y_alive, y_orders, y_lengths, y_letters, y_bases, q9, q10, y_locals, y_fRecv, y_fLine, y_fPos, y_fStmt, y_fTarget, y_fMask, y_fHome, fo, y_fVals, y_fNew, y_out)) : wpY_formRight post (y_maxObjects, y_maxSteps, y_maxDepth, y_kept, y_end, y_tokens, y_pending, y_lines, y_classes, y_prints, y_place, y_steps, 0, 0, 0, y_opens, y_pos, y_tk, y_tv, y_stmt, y_target, y_err, y_code, y_outcome, y_result, 0, y_want, y_starting, y_ended, y_bad, y_hosted, 0, tx, y_numbers, y_globals, y_entries, y_attrs, y_classOf, y_alive, y_orders, y_lengths, y_letters, y_bases, y_vals, y_ops, y_locals, y_fRecv, y_fLine, y_fPos, y_fStmt, y_fTarget, y_fMask, y_fHome, fo, y_fVals, y_fNew, y_out) (nI p) := by
  subst ets
  have hT1 := (hs_TAc hTA).2.2.2.2.2
  have hv1 : ∀ x, x ∈ r → hs_vt x := fun x hx => hv x (List.mem_cons_of_mem _ hx)
  unfold wpY_formRight
  have m13 : 13 ∈ 11 :: r ↔ 13 ∈ r := by
    constructor
    · intro y
      rcases List.mem_cons.mp y with q | q
      · cases q
      · exact q
    · exact List.mem_cons_of_mem _
  refine hs_yHeadW hTA (by decide) (br_f (nI_nlt (b := 1) (by decide) (by decide)) (br_t (nI_lt (a := 10) (by decide) (by decide)) (hs_yF158 (z := false) hfo ⟨fun y => absurd y (by decide), fun y => absurd y (hs_ne (a := 11) (b := 50) (by decide) (by decide) (by decide))⟩ hT1 hv1 (by simp only [List.length_cons] at hl; omega) (fun cd fs hS q1 q2 q3 q4 q7 q8 ss q9 q10 hm hs => ?_) (fun hno q1 q2 q3 q4 q7 q8 ss q9 q10 => ?_))))
  · have hfs : fs = [] := by
      rcases (hs_gstS hS).2 with q | ⟨q, _⟩
      · exact q
      · cases q
    subst hfs
    exact H1 (nI 11) 0 0 0 cd ⟨rfl, hS⟩ _ _ _ _ _ _ _ _ _ _ _ (m13.trans hm) hs ⟨fun y => absurd y (hs_ne (a := 11) (b := 51) (by decide) (by decide) (by decide)), fun y => absurd y (hs_ne (a := 11) (b := 15) (by decide) (by decide) (by decide))⟩
  · refine H0 (fun k f s t cd hL => ?_) _ _ _ _ _ _ _ _ _ _ _
    obtain ⟨_, hS⟩ : k = nI 11 ∧ hs_S false r true [] cd [] [] := hL
    exact hno cd [] hS
end
end
section
/-! a line on Y's side: the lines that begin with no word; the whole check of a line -/
section
variable {x_objectLimit x_stepLimit x_depthLimit x_pendingCount x_keptTokens x_keptLines x_lineCount x_codeCount x_cursor x_stop x_waitingCount x_openCount x_classCount x_callCount x_operandCount x_stepsTaken x_error x_raisedCode x_printCount x_lastPlace : Int32} {x_lastResult : Int64} {x_pending x_lineTable x_orders x_merging x_letterClass x_objectClass x_calls x_lastPrints : Nat → Int32} {x_code x_waiting x_globals x_entries x_attributes x_held x_operands : Nat → Int64}
variable {y_maxObjects y_maxSteps y_maxDepth y_kept y_end y_tokens y_pending y_lines y_classes y_prints y_place y_steps y_d y_valTop y_opTop y_opens y_pos y_tk y_tv y_stmt y_target y_err y_code y_outcome y_dry y_want y_starting y_ended y_bad y_hosted y_sawSuper : Int32} {y_result : Int64} {y_text y_numbers y_classOf y_alive y_orders y_lengths y_letters y_bases y_ops y_fLine y_fPos y_fStmt y_fTarget y_fMask y_fHome y_fOps y_fVals y_fNew y_out : Nat → Int32} {y_globals y_entries y_attrs y_vals y_locals y_fRecv : Nat → Int64}
theorem hs_LFo {k f s t : Int32} {cd : List (Nat × Nat)} {h : Nat} {r : List Nat} (hw : ¬ (1 ≤ h ∧ h ≤ 11)) : hs_LF k f s t cd (h :: r) ↔ (if hs_isN h = true ∧ hs_hd r = 26 then k = 15 ∧ f = nI (h - 100) ∧ hs_S false r.tail true [] cd [] []
    else if hs_isC h = true ∧ hs_hd r = 24 ∧ hs_isN (hs_hd r.tail) = true ∧ hs_hd r.tail.tail = 26 then k = 17 ∧ f = nI (hs_hd r.tail - 100) ∧ s = nI (h - 130) ∧ hs_S false r.tail.tail.tail true [] cd [] []
    else (k = 14 ∧ hs_S true (h :: r) true [] cd [] []) ∨ (k = 16 ∧ ∃ n, hs_isN n = true ∧ f = nI (n - 100) ∧ hs_S true (h :: r) true [] cd [] [5 + 64 * (n - 100)])) := by
  by_cases h0 : h = 0
  · subst h0; exact Iff.rfl
  show (if h = 10 then _ else if h = 5 ∨ h = 7 then _ else if h = 8 then _ else if h = 1 then _ else if h = 2 then _ else if h = 4 ∨ h = 6 then _ else if h = 3 ∨ h = 9 ∨ h = 11 then _ else _) ↔ _
  rw [if_neg (by omega), if_neg (by omega), if_neg (by omega), if_neg (by omega), if_neg (by omega), if_neg (by omega), if_neg (by omega)]
theorem hs_plainI {h : Nat} {r : List Nat} : (hs_isC h = true ∧ ∃ n r1, r = 24 :: n :: 26 :: r1 ∧ hs_isN n = true) ↔ (hs_isC h = true ∧ hs_hd r = 24 ∧ hs_isN (hs_hd r.tail) = true ∧ hs_hd r.tail.tail = 26) := by
  constructor
  · rintro ⟨hc, n, r1, rfl, hn⟩
    exact ⟨hc, rfl, hn, rfl⟩
  · rintro ⟨hc, h24, hn, h26⟩
    refine ⟨hc, ?_⟩
    cases r with
    | nil => cases h24
    | cons a r1 =>
      have h24 : a = 24 := h24
      subst h24
      cases r1 with
      | nil => exact absurd hn (by decide)
      | cons n r2 =>
        cases r2 with
        | nil => cases h26
        | cons b r3 =>
          have h26 : b = 26 := h26
          subst h26
          exact ⟨n, r3, rfl, hn⟩
theorem hs_m13 {a : Nat} {l : List Nat} (h : a ≠ 13) : 13 ∈ a :: l ↔ 13 ∈ l := by
  constructor
  · intro y
    rcases List.mem_cons.mp y with q | q
    · exact absurd q.symm h
    · exact q
  · exact List.mem_cons_of_mem _
theorem hs_isNC2 {t : Nat} (h : hs_isN t = true) : hs_isC t = false := by
  have := hs_tkN h
  unfold hs_isC
  exact decide_eq_false (by omega)
theorem hs_yFmO {tx fo : Nat → Int32} {p h : Nat} {r ts : List Nat} (ets : ts = h :: r) (hw : ¬ (1 ≤ h ∧ h ≤ 11)) (hfo : fo 0 = nI 0) (hTA : hs_TA tx p ts) (hv : ∀ x, x ∈ ts → hs_vt x) (hl : ts.length ≤ 40) {post : Int32 → SY → Prop}
    (H1 : ∀ (k f s t : Int32) (cd : List (Nat × Nat)), hs_LF k f s t cd ts → ∀ (q1 q2 q3 q4 sm q6 q7 q8 ss : Int32) (q9 : Nat → Int64) (q10 : Nat → Int32), (13 ∈ ts ↔ ss = 1) → (ss = 0 ∨ ss = 1) → (sm = 51 ↔ k = 15) → post 1 (y_maxObjects, y_maxSteps, y_maxDepth, y_kept, y_end, y_tokens, y_pending, y_lines, y_classes, y_prints, y_place, y_steps, 0, 0, 0, q1, q2, q3, q4, sm, q6, y_err, y_code, y_outcome, y_result, 0, q7, y_starting, y_ended, q8, y_hosted, ss, tx, y_numbers, y_globals, y_entries, y_attrs, y_classOf, y_alive, y_orders, y_lengths, y_letters, y_bases, q9, q10, y_locals, y_fRecv, y_fLine, y_fPos, y_fStmt, y_fTarget, y_fMask, y_fHome, fo, y_fVals, y_fNew, y_out))
    (H0 : (∀ (k f s t : Int32) (cd : List (Nat × Nat)), ¬ hs_LF k f s t cd ts) → ∀ (q1 q2 q3 q4 sm q6 q7 q8 ss : Int32) (q9 : Nat → Int64) (q10 : Nat → Int32), post 0 (y_maxObjects, y_maxSteps, y_maxDepth, y_kept, y_end, y_tokens, y_pending, y_lines, y_classes, y_prints, y_place, y_steps, 0, 0, 0, q1, q2, q3, q4, sm, q6, y_err, y_code, y_outcome, y_result, 0, q7, y_starting, y_ended, q8, y_hosted, ss, tx, y_numbers, y_globals, y_entries, y_attrs, y_classOf, y_alive, y_orders, y_lengths, y_letters, y_bases, q9, q10, y_locals, y_fRecv, y_fLine, y_fPos, y_fStmt, y_fTarget, y_fMask, y_fHome, fo, y_fVals, y_fNew, y_out)) : wpY_formRight post (y_maxObjects, y_maxSteps, y_maxDepth, y_kept, y_end, y_tokens, y_pending, y_lines, y_classes, y_prints, y_place, y_steps, 0, 0, 0, y_opens, y_pos, y_tk, y_tv, y_stmt, y_target, y_err, y_code, y_outcome, y_result, 0, y_want, y_starting, y_ended, y_bad, y_hosted, 0, tx, y_numbers, y_globals, y_entries, y_attrs, y_classOf, y_alive, y_orders, y_lengths, y_letters, y_bases, y_vals, y_ops, y_locals, y_fRecv, y_fLine, y_fPos, y_fStmt, y_fTarget, y_fMask, y_fHome, fo, y_fVals, y_fNew, y_out) (nI p) := by
  subst ets
  have hT1 := (hs_TAc hTA).2.2.2.2.2
  simp only [List.length_cons] at hl
  unfold wpY_formRight
  by_cases c1 : hs_isN h = true ∧ hs_hd r = 26
  · have E : ∀ k f s t cd, hs_LF k f s t cd (h :: r) ↔ (k = 15 ∧ f = nI (h - 100) ∧ hs_S false r.tail true [] cd [] []) := fun k f s t cd => by rw [hs_LFo hw, if_pos c1]
    cases r with
    | nil => exact absurd c1.2 (by decide)
    | cons a r1 =>
      have ha : a = 26 := c1.2
      subst ha
      have tn := hs_tkN c1.1
      have hT2 := (hs_TAc hT1).2.2.2.2.2
      refine hs_yHeadN hTA c1.1 (br_f (nI_nlt (b := 1) (by decide) (by decide)) (br_t (nI_lt (a := 10) (by decide) (by decide)) (hs_yF158 (z := false) hfo ⟨fun y => absurd y (by decide), fun y => absurd y (hs_ne (a := 51) (b := 50) (by decide) (by decide) (by decide))⟩ hT2 (fun x hx => hv x (by simp [hx])) (by simp only [List.length_cons] at hl; omega) (fun cd fs hS q1 q2 q3 q4 q7 q8 ss q9 q10 hm hs => ?_) (fun hno q1 q2 q3 q4 q7 q8 ss q9 q10 => ?_))))
      · have hfs : fs = [] := by
          rcases (hs_gstS hS).2 with q | ⟨q, _⟩
          · exact q
          · cases q
        subst hfs
        exact H1 15 (nI (h - 100)) 0 0 cd ((E _ _ _ _ _).mpr ⟨rfl, rfl, hS⟩) _ _ _ _ _ _ _ _ _ _ _ (((hs_m13 (by omega)).trans (hs_m13 (by decide))).trans hm) hs ⟨fun _ => rfl, fun _ => rfl⟩
      · exact H0 (fun k f s t cd hL => hno cd [] ((E _ _ _ _ _).mp hL).2.2) _ _ _ _ _ _ _ _ _ _ _
  by_cases c2 : hs_isC h = true ∧ hs_hd r = 24 ∧ hs_isN (hs_hd r.tail) = true ∧ hs_hd r.tail.tail = 26
  · have E : ∀ k f s t cd, hs_LF k f s t cd (h :: r) ↔ (k = 17 ∧ f = nI (hs_hd r.tail - 100) ∧ s = nI (h - 130) ∧ hs_S false r.tail.tail.tail true [] cd [] []) := fun k f s t cd => by rw [hs_LFo hw, if_neg c1, if_pos c2]
    obtain ⟨hc, n, r1, er, hn⟩ := hs_plainI.mpr c2
    subst er
    have tc := hs_tkC hc
    have tn := hs_tkN hn
    have hT4 := (hs_TAc (hs_TAc (hs_TAc hT1).2.2.2.2.2).2.2.2.2.2).2.2.2.2.2
    refine hs_yHeadC hTA hc hn (br_f (nI_nlt (b := 1) (by decide) (by decide)) (br_t (nI_lt (a := 10) (by decide) (by decide)) (hs_yF158 (z := false) hfo ⟨fun y => absurd y (by decide), fun y => absurd y (hs_ne (a := 52) (b := 50) (by decide) (by decide) (by decide))⟩ hT4 (fun x hx => hv x (by simp [hx])) (by simp only [List.length_cons] at hl; omega) (fun cd fs hS q1 q2 q3 q4 q7 q8 ss q9 q10 hm hs => ?_) (fun hno q1 q2 q3 q4 q7 q8 ss q9 q10 => ?_))))
    · have hfs : fs = [] := by
        rcases (hs_gstS hS).2 with q | ⟨q, _⟩
        · exact q
        · cases q
      subst hfs
      exact H1 17 (nI (n - 100)) (nI (h - 130)) 0 cd ((E _ _ _ _ _).mpr ⟨rfl, rfl, rfl, hS⟩) _ _ _ _ _ _ _ _ _ _ _ (((hs_m13 (by omega)).trans ((hs_m13 (by decide)).trans ((hs_m13 (by omega)).trans (hs_m13 (by decide))))).trans hm) hs ⟨fun y => absurd y (hs_ne (a := 52) (b := 51) (by decide) (by decide) (by decide)), fun y => absurd y (by decide)⟩
    · exact H0 (fun k f s t cd hL => hno cd [] ((E _ _ _ _ _).mp hL).2.2.2) _ _ _ _ _ _ _ _ _ _ _
  · have E : ∀ k f s t cd, hs_LF k f s t cd (h :: r) ↔ ((k = 14 ∧ hs_S true (h :: r) true [] cd [] []) ∨ (k = 16 ∧ ∃ n, hs_isN n = true ∧ f = nI (n - 100) ∧ hs_S true (h :: r) true [] cd [] [5 + 64 * (n - 100)])) := fun k f s t cd => by rw [hs_LFo hw, if_neg c1, if_neg c2]
    refine hs_yHeadP hTA hv ⟨hw, c1, fun y => c2 (hs_plainI.mp y)⟩ (fun k0 tv0 tg => br_f (nI_nlt (b := 1) (by decide) (by decide)) (br_t (nI_lt (a := 10) (by decide) (by decide)) (hs_yF158 (z := true) hfo ⟨fun _ => rfl, fun _ => rfl⟩ hTA hv (by simp only [List.length_cons]; omega) (fun cd fs hS q1 q2 q3 q4 q7 q8 ss q9 q10 hm hs => ?_) (fun hno q1 q2 q3 q4 q7 q8 ss q9 q10 => ?_))))
    · rcases (hs_gstS hS).2 with q | ⟨_, m, hm', q⟩
      · subst q
        exact H1 14 0 0 0 cd ((E _ _ _ _ _).mpr (Or.inl ⟨rfl, hS⟩)) _ _ _ _ _ _ _ _ _ _ _ hm hs ⟨fun y => absurd y (hs_ne (a := 50) (b := 51) (by decide) (by decide) (by decide)), fun y => absurd y (by decide)⟩
      · subst q
        exact H1 16 (nI (m - 100)) 0 0 cd ((E _ _ _ _ _).mpr (Or.inr ⟨rfl, m, hm', rfl, hS⟩)) _ _ _ _ _ _ _ _ _ _ _ hm hs ⟨fun y => absurd y (hs_ne (a := 50) (b := 51) (by decide) (by decide) (by decide)), fun y => absurd y (by decide)⟩
    · refine H0 (fun k f s t cd hL => ?_) _ _ _ _ _ _ _ _ _ _ _
      rcases (E _ _ _ _ _).mp hL with ⟨_, hS⟩ | ⟨_, n, _, _, hS⟩
      · exact hno _ _ hS
      · exact hno _ _ hS
theorem hs_yForm {tx fo : Nat → Int32} {p : Nat} {ts : List Nat} (hfo : fo 0 = nI 0) (hTA : hs_TA tx p ts) (hne : ts ≠ []) (hv : ∀ x, x ∈ ts → hs_vt x) (hl : ts.length ≤ 40) {post : Int32 → SY → Prop}
    (H1 : ∀ (k f s t : Int32) (cd : List (Nat × Nat)), hs_LF k f s t cd ts → ∀ (q1 q2 q3 q4 sm q6 q7 q8 ss : Int32) (q9 : Nat → Int64) (q10 : Nat → Int32), (13 ∈ ts ↔ ss = 1) → (ss = 0 ∨ ss = 1) → (sm = 51 ↔ k = 15) → post 1 (y_maxObjects, y_maxSteps, y_maxDepth, y_kept, y_end, y_tokens, y_pending, y_lines, y_classes, y_prints, y_place, y_steps, 0, 0, 0, q1, q2, q3, q4, sm, q6, y_err, y_code, y_outcome, y_result, 0, q7, y_starting, y_ended, q8, y_hosted, ss, tx, y_numbers, y_globals, y_entries, y_attrs, y_classOf, y_alive, y_orders, y_lengths, y_letters, y_bases, q9, q10, y_locals, y_fRecv, y_fLine, y_fPos, y_fStmt, y_fTarget, y_fMask, y_fHome, fo, y_fVals, y_fNew, y_out))
    (H0 : (∀ (k f s t : Int32) (cd : List (Nat × Nat)), ¬ hs_LF k f s t cd ts) → ∀ (q1 q2 q3 q4 sm q6 q7 q8 ss : Int32) (q9 : Nat → Int64) (q10 : Nat → Int32), post 0 (y_maxObjects, y_maxSteps, y_maxDepth, y_kept, y_end, y_tokens, y_pending, y_lines, y_classes, y_prints, y_place, y_steps, 0, 0, 0, q1, q2, q3, q4, sm, q6, y_err, y_code, y_outcome, y_result, 0, q7, y_starting, y_ended, q8, y_hosted, ss, tx, y_numbers, y_globals, y_entries, y_attrs, y_classOf, y_alive, y_orders, y_lengths, y_letters, y_bases, q9, q10, y_locals, y_fRecv, y_fLine, y_fPos, y_fStmt, y_fTarget, y_fMask, y_fHome, fo, y_fVals, y_fNew, y_out)) : wpY_formRight post (y_maxObjects, y_maxSteps, y_maxDepth, y_kept, y_end, y_tokens, y_pending, y_lines, y_classes, y_prints, y_place, y_steps, 0, 0, 0, y_opens, y_pos, y_tk, y_tv, y_stmt, y_target, y_err, y_code, y_outcome, y_result, 0, y_want, y_starting, y_ended, y_bad, y_hosted, 0, tx, y_numbers, y_globals, y_entries, y_attrs, y_classOf, y_alive, y_orders, y_lengths, y_letters, y_bases, y_vals, y_ops, y_locals, y_fRecv, y_fLine, y_fPos, y_fStmt, y_fTarget, y_fMask, y_fHome, fo, y_fVals, y_fNew, y_out) (nI p) := by
  cases ts with
  | nil => exact absurd rfl hne
  | cons h r =>
    by_cases hw : 1 ≤ h ∧ h ≤ 11
    · have : h = 1 ∨ h = 2 ∨ h = 3 ∨ h = 4 ∨ h = 5 ∨ h = 6 ∨ h = 7 ∨ h = 8 ∨ h = 9 ∨ h = 10 ∨ h = 11 := by omega
      rcases this with rfl | rfl | rfl | rfl | rfl | rfl | rfl | rfl | rfl | rfl | rfl
      · exact hs_yFm1 rfl hfo hTA hv hl H1 H0
      · exact hs_yFm2 rfl hfo hTA hv hl H1 H0
      · exact hs_yFm3 rfl hfo hTA hv hl H1 H0
      · exact hs_yFm4 rfl hfo hTA hv hl H1 H0
      · exact hs_yFm5 rfl hfo hTA hv hl H1 H0
      · exact hs_yFm6 rfl hfo hTA hv hl H1 H0
      · exact hs_yFm7 rfl hfo hTA hv hl H1 H0
      · exact hs_yFm8 rfl hfo hTA hv hl H1 H0
      · exact hs_yFm9 rfl hfo hTA hv hl H1 H0
      · exact hs_yFm10 rfl hfo hTA hv hl H1 H0
      · exact hs_yFm11 rfl hfo hTA hv hl H1 H0
    · exact hs_yFmO rfl hw hfo hTA hv hl H1 H0
end
end
section
/-! the check of a chunk on Y's side -/
section
variable {x_objectLimit x_stepLimit x_depthLimit x_pendingCount x_keptTokens x_keptLines x_lineCount x_codeCount x_cursor x_stop x_waitingCount x_openCount x_classCount x_callCount x_operandCount x_stepsTaken x_error x_raisedCode x_printCount x_lastPlace : Int32} {x_lastResult : Int64} {x_pending x_lineTable x_orders x_merging x_letterClass x_objectClass x_calls x_lastPrints : Nat → Int32} {x_code x_waiting x_globals x_entries x_attributes x_held x_operands : Nat → Int64}
variable {y_maxObjects y_maxSteps y_maxDepth y_kept y_end y_tokens y_pending y_lines y_classes y_prints y_place y_steps y_d y_valTop y_opTop y_opens y_pos y_tk y_tv y_stmt y_target y_err y_code y_outcome y_dry y_want y_starting y_ended y_bad y_hosted y_sawSuper : Int32} {y_result : Int64} {y_text y_numbers y_classOf y_alive y_orders y_lengths y_letters y_bases y_ops y_fLine y_fPos y_fStmt y_fTarget y_fMask y_fHome y_fOps y_fVals y_fNew y_out : Nat → Int32} {y_globals y_entries y_attrs y_vals y_locals y_fRecv : Nat → Int64}
def hs_s15 : List Nat → Prop
  | [] => False
  | h :: r => hs_isN h = true ∧ hs_hd r = 26
theorem hs_LF15 {k f s t : Int32} {cd : List (Nat × Nat)} : ∀ {ts : List Nat}, hs_LF k f s t cd ts → (k = 15 ↔ hs_s15 ts)
  | [], h => h.elim
  | h :: r, hL => by
    by_cases hw : 1 ≤ h ∧ h ≤ 11
    · have n15 : ¬ hs_s15 (h :: r) := by
        rintro ⟨y, _⟩
        have := hs_tkN y
        omega
      refine ⟨fun e => ?_, fun y => absurd y n15⟩
      exfalso
      have : h = 1 ∨ h = 2 ∨ h = 3 ∨ h = 4 ∨ h = 5 ∨ h = 6 ∨ h = 7 ∨ h = 8 ∨ h = 9 ∨ h = 10 ∨ h = 11 := by omega
      rcases this with rfl | rfl | rfl | rfl | rfl | rfl | rfl | rfl | rfl | rfl | rfl
      · have hk : k = 1 := hL.1
        rw [hk] at e
        exact absurd e (by decide)
      · have hk : k = 2 := hL.1
        rw [hk] at e
        exact absurd e (by decide)
      · have hk : k = nI 3 := hL.1
        rw [hk] at e
        exact absurd e (by decide)
      · have hk : k = nI 4 := hL.1
        rw [hk] at e
        exact absurd e (by decide)
      · have hk : k = nI 5 := hL.1
        rw [hk] at e
        exact absurd e (by decide)
      · have hk : k = nI 6 := hL.1
        rw [hk] at e
        exact absurd e (by decide)
      · have hk : k = nI 7 := hL.1
        rw [hk] at e
        exact absurd e (by decide)
      · have hk : k = 8 := hL.1
        rw [hk] at e
        exact absurd e (by decide)
      · have hk : k = nI 9 := hL.1
        rw [hk] at e
        exact absurd e (by decide)
      · have hk : k = 10 := hL.1
        rw [hk] at e
        exact absurd e (by decide)
      · have hk : k = nI 11 := hL.1
        rw [hk] at e
        exact absurd e (by decide)
    · rw [hs_LFo hw] at hL
      by_cases c1 : hs_isN h = true ∧ hs_hd r = 26
      · rw [if_pos c1] at hL
        exact ⟨fun _ => c1, fun _ => hL.1⟩
      · rw [if_neg c1] at hL
        refine ⟨fun e => ?_, fun y => absurd y c1⟩
        exfalso
        split at hL
        · have hk := hL.1
          rw [hk] at e; exact absurd e (by decide)
        · rcases hL with ⟨hk, _⟩ | ⟨hk, _⟩
          · rw [hk] at e; exact absurd e (by decide)
          · rw [hk] at e; exact absurd e (by decide)
/-- a line of a chunk is right -/
def hs_lok (tk : Nat → List Nat) (h ind : Nat → Nat) (a i : Nat) : Prop := (tk i).length ≤ 40 ∧ (∃ k f s t cd, hs_LF k f s t cd (tk i)) ∧ hs_pl h ind a i (hs_s15 (tk i)) (13 ∈ tk i)
/-- the tokens of each line of a chunk -/
def hs_TK (tx : Nat → Int32) (a b : Nat) (P h : Nat → Nat) (tk : Nat → List Nat) : Prop := ∀ i, a ≤ i → i < b → hs_TA tx (P i) (tk i) ∧ tk i ≠ [] ∧ (∀ x, x ∈ tk i → hs_vt x) ∧ h i = hs_hd (tk i)
theorem hs_TKH {tx : Nat → Int32} {a b : Nat} {P h : Nat → Nat} {tk : Nat → List Nat} (H : hs_TK tx a b P h tk) : hs_H tx a b P h := by
  intro i hi hib
  obtain ⟨h1, h2, h3, h4⟩ := H i hi hib
  cases e : tk i with
  | nil => exact absurd e h2
  | cons t r =>
    rw [e] at h1 h4
    obtain ⟨k1, k2, k3, _⟩ := hs_TAc h1
    rw [h4]
    exact ⟨k1, k2, k3⟩
theorem hs_yLn {tx : Nat → Int32} {p : Nat} {post : Int32 → SY → Prop} : ∀ (ts : List Nat) (k : Nat), k + ts.length < 2000 → hs_TA tx (p + k) ts →
    (k + ts.length ≤ 40 → k + ts.length = 0 → post 1 (y_maxObjects, y_maxSteps, y_maxDepth, y_kept, y_end, y_tokens, y_pending, y_lines, y_classes, y_prints, y_place, y_steps, y_d, y_valTop, y_opTop, y_opens, y_pos, y_tk, y_tv, y_stmt, y_target, y_err, y_code, y_outcome, y_result, y_dry, y_want, y_starting, y_ended, y_bad, y_hosted, y_sawSuper, tx, y_numbers, y_globals, y_entries, y_attrs, y_classOf, y_alive, y_orders, y_lengths, y_letters, y_bases, y_vals, y_ops, y_locals, y_fRecv, y_fLine, y_fPos, y_fStmt, y_fTarget, y_fMask, y_fHome, y_fOps, y_fVals, y_fNew, y_out)) → (40 < k + ts.length → post 0 (y_maxObjects, y_maxSteps, y_maxDepth, y_kept, y_end, y_tokens, y_pending, y_lines, y_classes, y_prints, y_place, y_steps, y_d, y_valTop, y_opTop, y_opens, y_pos, y_tk, y_tv, y_stmt, y_target, y_err, y_code, y_outcome, y_result, y_dry, y_want, y_starting, y_ended, y_bad, y_hosted, y_sawSuper, tx, y_numbers, y_globals, y_entries, y_attrs, y_classOf, y_alive, y_orders, y_lengths, y_letters, y_bases, y_vals, y_ops, y_locals, y_fRecv, y_fLine, y_fPos, y_fStmt, y_fTarget, y_fMask, y_fHome, y_fOps, y_fVals, y_fNew, y_out)) →
    (k + ts.length ≤ 40 → k + ts.length ≠ 0 → wpY_formRight (fun r u => match u with | (y_maxObjectsq, y_maxStepsq, y_maxDepthq, y_keptq, y_endq, y_tokensq, y_pendingq, y_linesq, y_classesq, y_printsq, y_placeq, y_stepsq, y_dq, y_valTopq, y_opTopq, y_opensq, y_posq, y_tkq, y_tvq, y_stmtq, y_targetq, y_errq, y_codeq, y_outcomeq, y_resultq, y_dryq, y_wantq, y_startingq, y_endedq, y_badq, y_hostedq, y_sawSuperq, y_textq, y_numbersq, y_globalsq, y_entriesq, y_attrsq, y_classOfq, y_aliveq, y_ordersq, y_lengthsq, y_lettersq, y_basesq, y_valsq, y_opsq, y_localsq, y_fRecvq, y_fLineq, y_fPosq, y_fStmtq, y_fTargetq, y_fMaskq, y_fHomeq, y_fOpsq, y_fValsq, y_fNewq, y_outq) => ((r = 0 → post 0 (y_maxObjectsq, y_maxStepsq, y_maxDepthq, y_keptq, y_endq, y_tokensq, y_pendingq, y_linesq, y_classesq, y_printsq, y_placeq, y_stepsq, y_dq, y_valTopq, y_opTopq, y_opensq, y_posq, y_tkq, y_tvq, y_stmtq, y_targetq, y_errq, y_codeq, y_outcomeq, y_resultq, y_dryq, y_wantq, y_startingq, y_endedq, y_badq, y_hostedq, y_sawSuperq, y_textq, y_numbersq, y_globalsq, y_entriesq, y_attrsq, y_classOfq, y_aliveq, y_ordersq, y_lengthsq, y_lettersq, y_basesq, y_valsq, y_opsq, y_localsq, y_fRecvq, y_fLineq, y_fPosq, y_fStmtq, y_fTargetq, y_fMaskq, y_fHomeq, y_fOpsq, y_fValsq, y_fNewq, y_outq)) ∧ (¬ r = 0 → wpY_placeRight (fun r2 => ((r2 = 0 → post 0 (y_maxObjectsq, y_maxStepsq, y_maxDepthq, y_keptq, y_endq, y_tokensq, y_pendingq, y_linesq, y_classesq, y_printsq, y_placeq, y_stepsq, y_dq, y_valTopq, y_opTopq, y_opensq, y_posq, y_tkq, y_tvq, y_stmtq, y_targetq, y_errq, y_codeq, y_outcomeq, y_resultq, y_dryq, y_wantq, y_startingq, y_endedq, y_badq, y_hostedq, y_sawSuperq, y_textq, y_numbersq, y_globalsq, y_entriesq, y_attrsq, y_classOfq, y_aliveq, y_ordersq, y_lengthsq, y_lettersq, y_basesq, y_valsq, y_opsq, y_localsq, y_fRecvq, y_fLineq, y_fPosq, y_fStmtq, y_fTargetq, y_fMaskq, y_fHomeq, y_fOpsq, y_fValsq, y_fNewq, y_outq)) ∧ (¬ r2 = 0 → post 1 (y_maxObjectsq, y_maxStepsq, y_maxDepthq, y_keptq, y_endq, y_tokensq, y_pendingq, y_linesq, y_classesq, y_printsq, y_placeq, y_stepsq, y_dq, y_valTopq, y_opTopq, y_opensq, y_posq, y_tkq, y_tvq, y_stmtq, y_targetq, y_errq, y_codeq, y_outcomeq, y_resultq, y_dryq, y_wantq, y_startingq, y_endedq, y_badq, y_hostedq, y_sawSuperq, y_textq, y_numbersq, y_globalsq, y_entriesq, y_attrsq, y_classOfq, y_aliveq, y_ordersq, y_lengthsq, y_lettersq, y_basesq, y_valsq, y_opsq, y_localsq, y_fRecvq, y_fLineq, y_fPosq, y_fStmtq, y_fTargetq, y_fMaskq, y_fHomeq, y_fOpsq, y_fValsq, y_fNewq, y_outq)))) (y_maxObjectsq, y_maxStepsq, y_maxDepthq, y_keptq, y_endq, y_tokensq, y_pendingq, y_linesq, y_classesq, y_printsq, y_placeq, y_stepsq, y_dq, y_valTopq, y_opTopq, y_opensq, y_posq, y_tkq, y_tvq, y_stmtq, y_targetq, y_errq, y_codeq, y_outcomeq, y_resultq, y_dryq, y_wantq, y_startingq, y_endedq, y_badq, y_hostedq, y_sawSuperq, y_textq, y_numbersq, y_globalsq, y_entriesq, y_attrsq, y_classOfq, y_aliveq, y_ordersq, y_lengthsq, y_lettersq, y_basesq, y_valsq, y_opsq, y_localsq, y_fRecvq, y_fLineq, y_fPosq, y_fStmtq, y_fTargetq, y_fMaskq, y_fHomeq, y_fOpsq, y_fValsq, y_fNewq, y_outq) (nI p)))) (y_maxObjects, y_maxSteps, y_maxDepth, y_kept, y_end, y_tokens, y_pending, y_lines, y_classes, y_prints, y_place, y_steps, y_d, y_valTop, y_opTop, y_opens, y_pos, y_tk, y_tv, y_stmt, y_target, y_err, y_code, y_outcome, y_result, y_dry, y_want, y_starting, y_ended, y_bad, y_hosted, 0, tx, y_numbers, y_globals, y_entries, y_attrs, y_classOf, y_alive, y_orders, y_lengths, y_letters, y_bases, y_vals, y_ops, y_locals, y_fRecv, y_fLine, y_fPos, y_fStmt, y_fTarget, y_fMask, y_fHome, y_fOps, y_fVals, y_fNew, y_out) (nI p)) →
    wY_lineRight_2 post (nI p) y_maxObjects y_maxSteps y_maxDepth y_kept y_end y_tokens y_pending y_lines y_classes y_prints y_place y_steps y_d y_valTop y_opTop y_opens y_pos y_tk y_tv y_stmt y_target y_err y_code y_outcome y_result y_dry y_want y_starting y_ended y_bad y_hosted y_sawSuper tx y_numbers y_globals y_entries y_attrs y_classOf y_alive y_orders y_lengths y_letters y_bases y_vals y_ops y_locals y_fRecv y_fLine y_fPos y_fStmt y_fTarget y_fMask y_fHome y_fOps y_fVals y_fNew y_out (ts.length + 1) (nI k) := by
  intro ts
  induction ts with
  | nil =>
    intro k hk h H1 H0 HF
    have hp := hs_TAlt h
    simp only [List.length_nil, Nat.add_zero] at H1 H0 HF
    have e : nI p + nI k = nI (p + k) := nI_add p k
    rw [show ([] : List Nat).length + 1 = 0 + 1 from rfl]
    refine And.intro (by rw [e]; exact vp_in_nI hp (by decide)) ?_
    rw [e, nI_clamp (show p + k < 2 ^ 31 by omega)]
    exact hs_yends h.1 (fun _ => br_f (by decide) (pk_le k 40 (fun a => pk_eq k 0 (fun b => H1 a b) (fun b => HF a b)) (fun a => H0 a))) (fun y => absurd h.2.1 y)
  | cons t r ih =>
    intro k hk h H1 H0 HF
    have hp := hs_TAlt h
    obtain ⟨k1, k2, k3, k4, k5, k6⟩ := hs_TAc h
    simp only [List.length_cons] at H1 H0 HF hk
    have e : nI p + nI k = nI (p + k) := nI_add p k
    refine And.intro (by rw [e]; exact vp_in_nI hp (by decide)) ?_
    rw [e, nI_clamp (show p + k < 2 ^ 31 by omega), k1]
    have ek : k + (r.length + 1) = (k + 1) + r.length := by omega
    rw [ek] at H1 H0 HF
    refine hs_yends (Or.inr ⟨t, k2, k3, rfl⟩) (fun y => absurd y ?_) (fun _ => br_t rfl (nm_r (nI_1 k) (ih (k + 1) (by omega) k6 H1 H0 HF)))
    rw [nI_clamp k3]; exact k4
theorem hs_yLine0 {tx : Nat → Int32} {p : Nat} (h : hs_TA tx p []) {post : Int32 → SY → Prop} (H : post 1 (y_maxObjects, y_maxSteps, y_maxDepth, y_kept, y_end, y_tokens, y_pending, y_lines, y_classes, y_prints, y_place, y_steps, y_d, y_valTop, y_opTop, y_opens, y_pos, y_tk, y_tv, y_stmt, y_target, y_err, y_code, y_outcome, y_result, y_dry, y_want, y_starting, y_ended, y_bad, y_hosted, y_sawSuper, tx, y_numbers, y_globals, y_entries, y_attrs, y_classOf, y_alive, y_orders, y_lengths, y_letters, y_bases, y_vals, y_ops, y_locals, y_fRecv, y_fLine, y_fPos, y_fStmt, y_fTarget, y_fMask, y_fHome, y_fOps, y_fVals, y_fNew, y_out)) : wpY_lineRight post (y_maxObjects, y_maxSteps, y_maxDepth, y_kept, y_end, y_tokens, y_pending, y_lines, y_classes, y_prints, y_place, y_steps, y_d, y_valTop, y_opTop, y_opens, y_pos, y_tk, y_tv, y_stmt, y_target, y_err, y_code, y_outcome, y_result, y_dry, y_want, y_starting, y_ended, y_bad, y_hosted, y_sawSuper, tx, y_numbers, y_globals, y_entries, y_attrs, y_classOf, y_alive, y_orders, y_lengths, y_letters, y_bases, y_vals, y_ops, y_locals, y_fRecv, y_fLine, y_fPos, y_fStmt, y_fTarget, y_fMask, y_fHome, y_fOps, y_fVals, y_fNew, y_out) (nI p) :=
  ⟨1, hs_yLn [] 0 (by decide) h (fun _ _ => H) (fun y => absurd y (by decide)) (fun _ y => absurd rfl y)⟩
theorem hs_yLine {tx fo : Nat → Int32} {cs ce a b i : Nat} {P ind h : Nat → Nat} {tk : Nat → List Nat} (hfo : fo 0 = nI 0) (C : hs_Ch tx cs ce a b P ind) (K : hs_TK tx a b P h tk) (hi : a ≤ i) (hib : i < b) (hl : (tk i).length < 1500) {post : Int32 → SY → Prop}
    (H1 : hs_lok tk h ind a i → ∀ (q1 q2 q3 q4 sm q6 q7 q8 ss : Int32) (q9 : Nat → Int64) (q10 : Nat → Int32), post 1 (y_maxObjects, y_maxSteps, y_maxDepth, y_kept, y_end, y_tokens, y_pending, y_lines, y_classes, y_prints, y_place, y_steps, 0, 0, 0, q1, q2, q3, q4, sm, q6, y_err, y_code, y_outcome, y_result, 0, q7, y_starting, y_ended, q8, y_hosted, ss, tx, y_numbers, y_globals, y_entries, y_attrs, y_classOf, y_alive, y_orders, y_lengths, y_letters, y_bases, q9, q10, y_locals, y_fRecv, y_fLine, y_fPos, y_fStmt, y_fTarget, y_fMask, y_fHome, fo, y_fVals, y_fNew, y_out)) (H0 : ¬ hs_lok tk h ind a i → ∀ (q1 q2 q3 q4 sm q6 q7 q8 ss : Int32) (q9 : Nat → Int64) (q10 : Nat → Int32), post 0 (y_maxObjects, y_maxSteps, y_maxDepth, y_kept, y_end, y_tokens, y_pending, y_lines, y_classes, y_prints, y_place, y_steps, 0, 0, 0, q1, q2, q3, q4, sm, q6, y_err, y_code, y_outcome, y_result, 0, q7, y_starting, y_ended, q8, y_hosted, ss, tx, y_numbers, y_globals, y_entries, y_attrs, y_classOf, y_alive, y_orders, y_lengths, y_letters, y_bases, q9, q10, y_locals, y_fRecv, y_fLine, y_fPos, y_fStmt, y_fTarget, y_fMask, y_fHome, fo, y_fVals, y_fNew, y_out)) : wpY_lineRight post (y_maxObjects, y_maxSteps, y_maxDepth, y_kept, y_end, y_tokens, y_pending, y_lines, y_classes, y_prints, y_place, y_steps, 0, 0, 0, y_opens, y_pos, y_tk, y_tv, y_stmt, y_target, y_err, y_code, y_outcome, y_result, 0, y_want, y_starting, y_ended, y_bad, y_hosted, y_sawSuper, tx, y_numbers, y_globals, y_entries, y_attrs, y_classOf, y_alive, y_orders, y_lengths, y_letters, y_bases, y_vals, y_ops, y_locals, y_fRecv, y_fLine, y_fPos, y_fStmt, y_fTarget, y_fMask, y_fHome, fo, y_fVals, y_fNew, y_out) (nI (P i)) := by
  obtain ⟨hTA, hne, hv, hh⟩ := K i hi hib
  have hpos : 0 < (tk i).length := List.length_pos_iff.mpr hne
  refine ⟨(tk i).length + 1, hs_yLn (tk i) 0 (by omega) hTA (fun _ y => by omega) (fun y => H0 (fun z => by have := z.1; omega) _ _ _ _ _ _ _ _ _ _ _) (fun l40 _ => ?_)⟩
  have l40 : (tk i).length ≤ 40 := by omega
  refine hs_yForm hfo hTA hne hv l40 ?_ ?_
  · intro k f s t cd hL q1 q2 q3 q4 sm q6 q7 q8 ss q9 q10 hm hs hk
    have e1 : (sm = 51) = hs_s15 (tk i) := propext (hk.trans (hs_LF15 hL))
    have e2 : (ss = 1) = (13 ∈ tk i) := propext hm.symm
    refine br_f (by decide) (hs_yPlace C (hs_TKH K) hi hib hs (fun w => br_f (by decide) ?_) (fun w => br_t rfl ?_))
    · rw [e1, e2] at w
      exact H1 ⟨l40, ⟨k, f, s, t, cd, hL⟩, w⟩ _ _ _ _ _ _ _ _ _ _ _
    · rw [e1, e2] at w
      exact H0 (fun z => w z.2.2) _ _ _ _ _ _ _ _ _ _ _
  · intro hno q1 q2 q3 q4 sm q6 q7 q8 ss q9 q10
    refine br_t rfl (H0 (fun z => ?_) _ _ _ _ _ _ _ _ _ _ _)
    obtain ⟨k, f, s, t, cd, hL⟩ := z.2.1
    exact hno k f s t cd hL
end
end
section
/-! the first wrong line on Y's side -/
section
variable {x_objectLimit x_stepLimit x_depthLimit x_pendingCount x_keptTokens x_keptLines x_lineCount x_codeCount x_cursor x_stop x_waitingCount x_openCount x_classCount x_callCount x_operandCount x_stepsTaken x_error x_raisedCode x_printCount x_lastPlace : Int32} {x_lastResult : Int64} {x_pending x_lineTable x_orders x_merging x_letterClass x_objectClass x_calls x_lastPrints : Nat → Int32} {x_code x_waiting x_globals x_entries x_attributes x_held x_operands : Nat → Int64}
variable {y_maxObjects y_maxSteps y_maxDepth y_kept y_end y_tokens y_pending y_lines y_classes y_prints y_place y_steps y_d y_valTop y_opTop y_opens y_pos y_tk y_tv y_stmt y_target y_err y_code y_outcome y_dry y_want y_starting y_ended y_bad y_hosted y_sawSuper : Int32} {y_result : Int64} {y_text y_numbers y_classOf y_alive y_orders y_lengths y_letters y_bases y_ops y_fLine y_fPos y_fStmt y_fTarget y_fMask y_fHome y_fOps y_fVals y_fNew y_out : Nat → Int32} {y_globals y_entries y_attrs y_vals y_locals y_fRecv : Nat → Int64}
/-- how many line ends stand from cs on before p -/
def hs_nE (tx : Nat → Int32) (cs : Nat) : Nat → Nat
  | 0 => 0
  | p + 1 => hs_nE tx cs p + (if cs ≤ p ∧ (hs_g tx p = 0 ∨ (40 ≤ hs_g tx p ∧ hs_g tx p ≤ 48)) then 1 else 0)
theorem hs_nE0 {tx : Nat → Int32} {cs : Nat} : ∀ p, p ≤ cs → hs_nE tx cs p = 0
  | 0, _ => rfl
  | p + 1, h => by
    show hs_nE tx cs p + _ = 0
    rw [hs_nE0 p (by omega), if_neg (by omega)]
theorem hs_nEs {tx : Nat → Int32} {cs q : Nat} : ∀ k, (∀ j, q ≤ j → j < q + k → ¬ hs_en (hs_g tx j)) → hs_nE tx cs (q + k) = hs_nE tx cs q
  | 0, _ => rfl
  | k + 1, h => by
    show hs_nE tx cs (q + k) + _ = _
    rw [hs_nEs k (fun j j1 j2 => h j j1 (by omega)), if_neg (fun y => h (q + k) (by omega) (by omega) y.2), Nat.add_zero]
theorem hs_nEnl {tx : Nat → Int32} {cs ce q q2 : Nat} (h1 : cs ≤ q) (h : hs_nl tx ce q q2) : hs_nE tx cs q2 = hs_nE tx cs q ∧ hs_nE tx cs (q2 + 1) = hs_nE tx cs q + 1 := by
  obtain ⟨a, b, c, d⟩ := h
  obtain ⟨k, rfl⟩ : ∃ k, q2 = q + k := ⟨q2 - q, by omega⟩
  have e := hs_nEs (cs := cs) (q := q) k d
  refine ⟨e, ?_⟩
  show hs_nE tx cs (q + k) + _ = _
  rw [e, if_pos ⟨by omega, c⟩]
theorem hs_nEle {tx : Nat → Int32} {cs : Nat} : ∀ p, hs_nE tx cs p ≤ p
  | 0 => Nat.le_refl _
  | p + 1 => by
    have := hs_nEle (tx := tx) (cs := cs) p
    show hs_nE tx cs p + _ ≤ p + 1
    split <;> omega
/-- the end of a chunk is right -/
def hs_eok (h ind : Nat → Nat) (a b : Nat) : Prop := (a < b → ¬ hs_isOp (h (b - 1))) ∧ ∀ m, a ≤ m → m < b → h m = 7 → hs_bk ind b m ≠ b
theorem hs_yFW {tx fo nu0 : Nat → Int32} {cs ce a b kl : Nat} {P ind h : Nat → Nat} {tk : Nat → List Nat} (hfo : fo 0 = nI 0) (hkl : kl < 100000) (C : hs_Ch tx cs ce a b P ind) (K : hs_TK tx a b P h tk) (hln : ∀ i, a ≤ i → i < b → (tk i).length < 1500) {post : Int32 → SY → Prop}
    (Hw : ∀ i, a ≤ i → i < b → ¬ hs_lok tk h ind a i → (∀ j, a ≤ j → j < i → hs_lok tk h ind a j) → ∀ nu, (∀ q, q < cs → nu q = nu0 q) → ∀ (q1 q2 q3 q4 sm q6 q7 q8 ss : Int32) (q9 : Nat → Int64) (q10 : Nat → Int32), post (nI (hs_nE tx cs (P i) + 1)) (y_maxObjects, y_maxSteps, y_maxDepth, y_kept, y_end, y_tokens, y_pending, nI kl, y_classes, y_prints, y_place, y_steps, 0, 0, 0, q1, q2, q3, q4, sm, q6, y_err, y_code, y_outcome, y_result, 0, q7, y_starting, y_ended, q8, y_hosted, ss, tx, nu, y_globals, y_entries, y_attrs, y_classOf, y_alive, y_orders, y_lengths, y_letters, y_bases, q9, q10, y_locals, y_fRecv, y_fLine, y_fPos, y_fStmt, y_fTarget, y_fMask, y_fHome, fo, y_fVals, y_fNew, y_out))
    (He : (∀ i, a ≤ i → i < b → hs_lok tk h ind a i) → ¬ hs_eok h ind a b → ∀ nu, (∀ q, q < cs → nu q = nu0 q) → ∀ (q1 q2 q3 q4 sm q6 q7 q8 ss : Int32) (q9 : Nat → Int64) (q10 : Nat → Int32), post (nI (hs_nE tx cs ce + 1 + 1)) (y_maxObjects, y_maxSteps, y_maxDepth, y_kept, y_end, y_tokens, y_pending, nI kl, y_classes, y_prints, y_place, y_steps, 0, 0, 0, q1, q2, q3, q4, sm, q6, y_err, y_code, y_outcome, y_result, 0, q7, y_starting, y_ended, q8, y_hosted, ss, tx, nu, y_globals, y_entries, y_attrs, y_classOf, y_alive, y_orders, y_lengths, y_letters, y_bases, q9, q10, y_locals, y_fRecv, y_fLine, y_fPos, y_fStmt, y_fTarget, y_fMask, y_fHome, fo, y_fVals, y_fNew, y_out))
    (Ho : (∀ i, a ≤ i → i < b → hs_lok tk h ind a i) → hs_eok h ind a b → ∀ nu, (∀ q, q < cs → nu q = nu0 q) → (∀ i, a ≤ i → i < b → nu (P i) = nI (kl + (hs_nE tx cs (P i) + 1))) → ∀ (q1 q2 q3 q4 sm q6 q7 q8 ss : Int32) (q9 : Nat → Int64) (q10 : Nat → Int32), post 0 (y_maxObjects, y_maxSteps, y_maxDepth, y_kept, y_end, y_tokens, y_pending, nI kl, y_classes, y_prints, y_place, y_steps, 0, 0, 0, q1, q2, q3, q4, sm, q6, y_err, y_code, y_outcome, y_result, 0, q7, y_starting, y_ended, q8, y_hosted, ss, tx, nu, y_globals, y_entries, y_attrs, y_classOf, y_alive, y_orders, y_lengths, y_letters, y_bases, q9, q10, y_locals, y_fRecv, y_fLine, y_fPos, y_fStmt, y_fTarget, y_fMask, y_fHome, fo, y_fVals, y_fNew, y_out)) :
    ∀ (n q m : Nat) (op : Bool) (nu : Nat → Int32), ce + 2 ≤ n + q → cs ≤ q → q ≤ ce → hs_ls tx cs q → a ≤ m → m ≤ b → (∀ j, a ≤ j → j < b → (j < m ↔ P j < q)) → (op = true ↔ ∃ k, a ≤ k ∧ k < m ∧ h k = 7 ∧ hs_bk ind b k = b) → (∀ j, a ≤ j → j < m → hs_lok tk h ind a j) → (∀ q', q' < cs → nu q' = nu0 q') → (∀ j, a ≤ j → j < m → nu (P j) = nI (kl + (hs_nE tx cs (P j) + 1))) → ∀ (q1 q2 q3 q4 sm q6 q7 q8 ss : Int32) (q9 : Nat → Int64) (q10 : Nat → Int32) (x2 : Int32), x2 = hs_pI P (if m = a then none else some (m - 1)) →
    wY_firstWrong_12 post n (nI (hs_nE tx cs q)) x2 (hs_b op) (nI q) y_maxObjects y_maxSteps y_maxDepth y_kept y_end y_tokens y_pending (nI kl) y_classes y_prints y_place y_steps 0 0 0 q1 q2 q3 q4 sm q6 y_err y_code y_outcome y_result 0 q7 y_starting y_ended q8 y_hosted ss tx nu y_globals y_entries y_attrs y_classOf y_alive y_orders y_lengths y_letters y_bases q9 q10 y_locals y_fRecv y_fLine y_fPos y_fStmt y_fTarget y_fMask y_fHome fo y_fVals y_fNew y_out := by
  have C' := C
  obtain ⟨⟨hc, h0, hok⟩, hnz, hcs, hP, hm, hall⟩ := C
  intro n
  induction n with
  | zero => intro q m op nu h1 h2 h3; omega
  | succ n ih =>
    intro q m op nu h1 h2 h3 hl hm1 hm2 hjm hop hlok hnu1 hnu2 q1 q2 q3 q4 sm q6 q7 q8 ss q9 q10 x2 ex2
    subst ex2
    have nq := hs_nEle (tx := tx) (cs := cs) q
    have step : ∀ (m' : Nat) (op' : Bool) (nu' : Nat → Int32), m ≤ m' → m' ≤ b → (∀ q', q < q' → (∀ j, a ≤ j → j < b → P j ≤ q ∨ q' ≤ P j) → ∀ j, a ≤ j → j < b → (j < m' ↔ P j < q')) → (op' = true ↔ ∃ k, a ≤ k ∧ k < m' ∧ h k = 7 ∧ hs_bk ind b k = b) → (∀ j, a ≤ j → j < m' → hs_lok tk h ind a j) → (∀ q', q' < cs → nu' q' = nu0 q') → (∀ j, a ≤ j → j < m' → nu' (P j) = nI (kl + (hs_nE tx cs (P j) + 1))) → ∀ (q1 q2 q3 q4 sm q6 q7 q8 ss : Int32) (q9 : Nat → Int64) (q10 : Nat → Int32) (x2 : Int32), x2 = hs_pI P (if m' = a then none else some (m' - 1)) →
        wY_firstWrong_85 post (wY_firstWrong_12 post n) (nI (hs_nE tx cs q + 1)) x2 (hs_b op') (nI q) y_maxObjects y_maxSteps y_maxDepth y_kept y_end y_tokens y_pending (nI kl) y_classes y_prints y_place y_steps 0 0 0 q1 q2 q3 q4 sm q6 y_err y_code y_outcome y_result 0 q7 y_starting y_ended q8 y_hosted ss tx nu' y_globals y_entries y_attrs y_classOf y_alive y_orders y_lengths y_letters y_bases q9 q10 y_locals y_fRecv y_fLine y_fPos y_fStmt y_fTarget y_fMask y_fHome fo y_fVals y_fNew y_out := by
      intro m' op' nu' mm1 mm2 hj' hop' hlok' hn1 hn2 q1 q2 q3 q4 sm q6 q7 q8 ss q9 q10 x2 ex2
      subst ex2
      obtain ⟨e2, hq2⟩ := hs_nlEx ⟨hc, h0, hok⟩ (p := q) h3
      have hnn := hs_nEnl h2 hq2
      unfold wY_firstWrong_85
      refine hs_yNL ⟨hc, h0, hok⟩ h2 hq2 ?_
      rcases hs_adv C' h2 hq2 with ⟨g0, g1, g2⟩ | ⟨g0, g1, g1', g2, g3⟩
      · have en : hs_nx tx e2 = -1 := if_pos g0
        rw [en]
        subst g1
        have emb : m' = b := by
          rcases Nat.lt_or_ge m' b with z | z
          · have w1 := g2 m' (by omega) z
            have w2 := (hj' (q + 1) (by omega) (fun j ja jb => Or.inl (g2 j ja jb)) m' (by omega) z).mpr (by omega)
            omega
          · omega
        subst emb
        obtain ⟨n, rfl⟩ : ∃ k, n = k + 1 := ⟨n - 1, by omega⟩
        refine br_t (by decide) ?_
        have enn : nI (hs_nE tx cs q + 1) = nI (hs_nE tx cs e2 + 1) := by rw [hnn.1]
        cases op' with
        | true =>
          obtain ⟨k, ka, kb, kc, kd⟩ := hop'.mp rfl
          refine br_f (by decide) ?_
          rw [nI_1, ← hnn.1]
          exact He hlok' (fun y => y.2 k ka kb kc kd) nu' hn1 _ _ _ _ _ _ _ _ _ _ _
        | false =>
          refine br_t rfl ?_
          have htry : ∀ k, a ≤ k → k < m' → h k = 7 → hs_bk ind m' k ≠ m' := fun k ka kb kc kd => by
            have := hop'.mpr ⟨k, ka, kb, kc, kd⟩
            cases this
          by_cases ea : m' = a
          · rw [if_pos ea]
            refine br_t (show hs_pI P none < 0 by show (-1 : Int32) < 0; decide) ?_
            exact Ho hlok' ⟨fun y => by omega, htry⟩ nu' hn1 hn2 _ _ _ _ _ _ _ _ _ _ _
          · rw [if_neg ea]
            have hv : a ≤ m' - 1 ∧ m' - 1 < m' := by omega
            obtain ⟨v1, v2, v3, v4, v5⟩ := hP (m' - 1) hv.1 hv.2
            obtain ⟨w1, w2, w3⟩ := hs_TKH K (m' - 1) hv.1 hv.2
            rw [show hs_pI P (some (m' - 1)) = nI (P (m' - 1)) from rfl]
            refine br_f (nI_pos (by omega)) (hs_yIsOp (by omega) w1 w3 (fun op => br_f (by decide) ?_) (fun op => br_t rfl ?_))
            · rw [nI_1, ← hnn.1]
              exact He hlok' (fun y => y.1 (by omega) op) nu' hn1 _ _ _ _ _ _ _ _ _ _ _
            · exact Ho hlok' ⟨fun _ => op, htry⟩ nu' hn1 hn2 _ _ _ _ _ _ _ _ _ _ _
      · have en : hs_nx tx e2 = nI (e2 + 1) := if_neg g0
        rw [en, ← hnn.2]
        exact ih (e2 + 1) m' op' nu' (by omega) (by omega) (by omega) g2 (by omega) mm2 (hj' (e2 + 1) (by omega) g3) hop' hlok' hn1 hn2 _ _ _ _ _ _ _ _ _ _ _ _ rfl
    refine br_f (nI_pos (by omega)) (nm_r (nI_1 _) (And.intro (vp_in_nI (by omega) (by decide)) ?_))
    rw [nI_clamp (show q < 2 ^ 31 by omega), nI_add]
    refine nm_e ?_
    have hnew : ∀ q', q' < cs → upd nu q (nI (kl + (hs_nE tx cs q + 1))) q' = nu0 q' := fun q' hq' => by rw [pk_un (by omega)]; exact hnu1 q' hq'
    by_cases he : hs_en (hs_g tx q)
    · -- a blank line
      refine hs_yLine0 ⟨hok q h2 h3, he, by omega⟩ (br_f (by decide) (And.intro (vp_in_nI (by omega) (by decide)) ?_))
      refine hs_yends (hok q h2 h3) (fun _ => br_f (by decide) ?_) (fun y => absurd he y)
      refine step m op _ (Nat.le_refl _) hm2 (fun q' q1 q3 j ja jb => ?_) hop hlok hnew (fun j ja jb => ?_) _ _ _ _ _ _ _ _ _ _ _ _ rfl
      · rw [hjm j ja jb]
        constructor
        · intro y; omega
        · intro y
          rcases q3 j ja jb with z | z
          · rcases Nat.lt_or_ge (P j) q with w | w
            · exact w
            · have ej : P j = q := by omega
              have := (hP j ja jb).2.2.1
              rw [ej] at this; exact absurd he this
          · omega
      · have hj := (hjm j ja (by omega)).mp jb
        rw [pk_un (by omega)]
        exact hnu2 j ja jb
    · have hqc : q < ce := by
        rcases Nat.lt_or_ge q ce with z | z
        · exact z
        · have z2 : q = ce := by omega
          subst z2
          exact absurd (Or.inl h0) he
      obtain ⟨j, ja, jb, rfl⟩ := hall q h2 hqc he hl
      have ejm : j = m := by
        rcases Nat.lt_trichotomy j m with z | z | z
        · have := (hjm j ja jb).mp z; omega
        · exact z
        · have := (hjm m hm1 (by omega)).mpr (hm m j hm1 z jb); omega
      subst ejm
      obtain ⟨k1, k2, k3⟩ := hs_TKH K j ja jb
      refine hs_yLine hfo C' K ja jb (hln j ja jb) (fun hg q1 q2 q3 q4 sm q6 q7 q8 ss q9 q10 => br_f (by decide) ?_) (fun hb q1 q2 q3 q4 sm q6 q7 q8 ss q9 q10 => br_t rfl (Hw j ja jb hb hlok _ hnew _ _ _ _ _ _ _ _ _ _ _))
      refine And.intro (vp_in_nI (by omega) (by decide)) ?_
      refine hs_yends (hok (P j) h2 h3) (fun y => absurd y he) (fun _ => br_t rfl (And.intro (vp_in_nI (by omega) (by decide)) ?_))
      have hcnt : ∀ q', P j < q' → (∀ j', a ≤ j' → j' < b → P j' ≤ P j ∨ q' ≤ P j') → ∀ j', a ≤ j' → j' < b → (j' < j + 1 ↔ P j' < q') := by
        intro q' q1 q3 j' ja' jb'
        constructor
        · intro y
          rcases Nat.lt_or_ge j' j with w | w
          · have := hm j' j ja' w jb; omega
          · have : j' = j := by omega
            subst this; exact q1
        · intro y
          rcases Nat.lt_or_ge j j' with w | w
          · have := hm j j' ja w jb'
            rcases q3 j' ja' jb' with z | z <;> omega
          · omega
      have lok1 : ∀ j', a ≤ j' → j' < j + 1 → hs_lok tk h ind a j' := fun j' ja' jb' => by
        by_cases e : j' = j
        · subst e; exact hg
        · exact hlok j' ja' (by omega)
      have num1 : ∀ j', a ≤ j' → j' < j + 1 → upd nu (P j) (nI (kl + (hs_nE tx cs (P j) + 1))) (P j') = nI (kl + (hs_nE tx cs (P j') + 1)) := fun j' ja' jb' => by
        by_cases e : j' = j
        · subst e; exact pk_us
        · have := hm j' j ja' (by omega) jb
          rw [pk_un (by omega)]
          exact hnu2 j' ja' (by omega)
      have e4 : nI (P j) = hs_pI P (if j + 1 = a then none else some (j + 1 - 1)) := by
        rw [if_neg (by omega)]; rfl
      have opn : ∀ op' : Bool, (op' = true ↔ (op = true ∨ (h j = 7 ∧ hs_bk ind b j = b))) → (op' = true ↔ ∃ k, a ≤ k ∧ k < j + 1 ∧ h k = 7 ∧ hs_bk ind b k = b) := by
        intro op' ho
        rw [ho, hop]
        constructor
        · rintro (⟨k, ka, kb, kc⟩ | kc)
          · exact ⟨k, ka, by omega, kc⟩
          · exact ⟨j, ja, by omega, kc⟩
        · rintro ⟨k, ka, kb, kc⟩
          by_cases e : k = j
          · subst e; exact Or.inr kc
          · exact Or.inl ⟨k, ka, by omega, kc⟩
      have go : ∀ op' : Bool, (op' = true ↔ (op = true ∨ (h j = 7 ∧ hs_bk ind b j = b))) → wY_firstWrong_85 post (wY_firstWrong_12 post n) (nI (hs_nE tx cs (P j) + 1)) (nI (P j)) (hs_b op') (nI (P j)) y_maxObjects y_maxSteps y_maxDepth y_kept y_end y_tokens y_pending (nI kl) y_classes y_prints y_place y_steps 0 0 0 q1 q2 q3 q4 sm q6 y_err y_code y_outcome y_result 0 q7 y_starting y_ended q8 y_hosted ss tx (upd nu (P j) (nI (kl + (hs_nE tx cs (P j) + 1)))) y_globals y_entries y_attrs y_classOf y_alive y_orders y_lengths y_letters y_bases q9 q10 y_locals y_fRecv y_fLine y_fPos y_fStmt y_fTarget y_fMask y_fHome fo y_fVals y_fNew y_out := fun op' ho => step (j + 1) op' _ (by omega) (by omega) hcnt (opn op' ho) lok1 hnew num1 _ _ _ _ _ _ _ _ _ _ _ _ e4
      rw [k1]
      refine pk_eq (h j) 7 (fun e7 => ?_) (fun e7 => go op ⟨Or.inl, fun y => y.elim id (fun z => absurd z.1 e7)⟩)
      have F := hs_bkFo (ind := ind) (b := b) (i := j) jb
      refine hs_yFollow C' ja jb F ?_
      by_cases lt : hs_bk ind b j < b
      · have e : hs_at P b (hs_bk ind b j) = nI (P (hs_bk ind b j)) := if_pos lt
        rw [e]
        have := (hP _ (by have := F.1; omega) lt).2.1
        exact br_t (nI_pos' (by omega)) (go op ⟨Or.inl, fun y => y.elim id (fun z => by omega)⟩)
      · have e : hs_at P b (hs_bk ind b j) = -1 := if_neg lt
        rw [e]
        exact br_f (by decide) (go true ⟨fun _ => Or.inr ⟨e7, by have := F.2.1; omega⟩, fun _ => rfl⟩)
end
end
section
/-! the lines of a chunk on X's side -/
section
variable {x_objectLimit x_stepLimit x_depthLimit x_pendingCount x_keptTokens x_keptLines x_lineCount x_codeCount x_cursor x_stop x_waitingCount x_openCount x_classCount x_callCount x_operandCount x_stepsTaken x_error x_raisedCode x_printCount x_lastPlace : Int32} {x_lastResult : Int64} {x_pending x_lineTable x_orders x_merging x_letterClass x_objectClass x_calls x_lastPrints : Nat → Int32} {x_code x_waiting x_globals x_entries x_attributes x_held x_operands : Nat → Int64}
variable {y_maxObjects y_maxSteps y_maxDepth y_kept y_end y_tokens y_pending y_lines y_classes y_prints y_place y_steps y_d y_valTop y_opTop y_opens y_pos y_tk y_tv y_stmt y_target y_err y_code y_outcome y_dry y_want y_starting y_ended y_bad y_hosted y_sawSuper : Int32} {y_result : Int64} {y_text y_numbers y_classOf y_alive y_orders y_lengths y_letters y_bases y_ops y_fLine y_fPos y_fStmt y_fTarget y_fMask y_fHome y_fOps y_fVals y_fNew y_out : Nat → Int32} {y_globals y_entries y_attrs y_vals y_locals y_fRecv : Nat → Int64}
/-- the pending tokens of X stand in Y's text from cs on -/
def hs_PD (tx pd : Nat → Int32) (cs pn : Nat) : Prop := ∀ p, p < pn → pd p ≠ 0 ∧ tx (cs + p) = hs_norm (pd p)
def hs_ti (x : Int32) : Nat → Int32 := fun _ => x
theorem hs_litI {n : Nat} (h : n < 2 ^ 31) (x : Int32) (e : x = nI n) : x.toInt = (n : Int) := by rw [e]; exact nI_toInt h
/-- a raw token: an indent, or a token of a line -/
theorem hs_rawT {x : Int32} (h0 : x ≠ 0) : hs_okc (hs_norm x) ∧ (hs_norm x).toNatClampNeg ≠ 0 ∧ ((hs_en (hs_norm x).toNatClampNeg ∧ ∃ t, 40 ≤ t ∧ t ≤ 48 ∧ x = nI t ∧ hs_norm x = nI t) ∨ (¬ hs_en (hs_norm x).toNatClampNeg ∧ hs_rx x (hs_norm x).toNatClampNeg ∧ hs_vt (hs_norm x).toNatClampNeg ∧ (x < 40 ∨ 48 < x))) := by
  by_cases g : hs_good x
  · rw [hs_normT g]
    have hpos : ¬ x < 0 := by
      intro hn
      have h0' : (0 : Int32).toInt = 0 := by decide
      have h1 : (1 : Int32).toInt = 1 := by decide
      have h2 : (21 : Int32).toInt = 21 := by decide
      have h3 : (40 : Int32).toInt = 40 := by decide
      have h4 : (100 : Int32).toInt = 100 := by decide
      have h5 : (130 : Int32).toInt = 130 := by decide
      have h6 : (1000 : Int32).toInt = 1000 := by decide
      unfold hs_good at g
      simp only [Int32.le_iff_toInt_le, Int32.lt_iff_toInt_lt, h0', h1, h2, h3, h4, h5, h6] at g hn
      omega
    obtain ⟨t, ht, rfl⟩ := nI_of hpos
    have t0 : t ≠ 0 := fun e => h0 (by rw [e]; rfl)
    have G : (1 ≤ t ∧ t ≤ 13) ∨ (21 ≤ t ∧ t ≤ 32) ∨ (40 ≤ t ∧ t ≤ 48) ∨ (100 ≤ t ∧ t ≤ 125) ∨ (130 ≤ t ∧ t ≤ 155) ∨ 1000 ≤ t := by
      have L : ∀ a : Nat, a < 2 ^ 31 → (nI a ≤ nI t ↔ a ≤ t) := fun a ha => nI_leI ha ht
      have U : ∀ a : Nat, a < 2 ^ 31 → (nI t ≤ nI a ↔ t ≤ a) := fun a ha => nI_leI ht ha
      rcases g with g | g | g | g | g | g
      · exact Or.inl ⟨(L 1 (by decide)).mp g.1, (U 13 (by decide)).mp g.2⟩
      · exact Or.inr (Or.inl ⟨(L 21 (by decide)).mp g.1, (U 32 (by decide)).mp g.2⟩)
      · exact Or.inr (Or.inr (Or.inl ⟨(L 40 (by decide)).mp g.1, (U 48 (by decide)).mp g.2⟩))
      · exact Or.inr (Or.inr (Or.inr (Or.inl ⟨(L 100 (by decide)).mp g.1, (U 125 (by decide)).mp g.2⟩)))
      · exact Or.inr (Or.inr (Or.inr (Or.inr (Or.inl ⟨(L 130 (by decide)).mp g.1, (U 155 (by decide)).mp g.2⟩))))
      · exact Or.inr (Or.inr (Or.inr (Or.inr (Or.inr ((L 1000 (by decide)).mp g)))))
    rw [nI_clamp ht]
    refine ⟨Or.inr ⟨t, by omega, ht, rfl⟩, t0, ?_⟩
    by_cases e : 40 ≤ t ∧ t ≤ 48
    · exact Or.inl ⟨Or.inr e, t, e.1, e.2, rfl, rfl⟩
    · have hvt : hs_vt t := by
        rcases G with g | g | g | g | g | g
        · exact Or.inl g
        · exact Or.inr (Or.inl (by omega))
        · exact absurd g e
        · exact Or.inr (Or.inr (Or.inl (hs_isNi.mpr (by omega))))
        · exact Or.inr (Or.inr (Or.inr (Or.inl (hs_isCi.mpr (by omega)))))
        · exact Or.inr (Or.inr (Or.inr (Or.inr g)))
      refine Or.inr ⟨?_, Or.inr (Or.inl ⟨rfl, hvt, by omega, ht⟩), hvt, ?_⟩
      · rintro (z | z) <;> omega
      · by_cases q : t < 40
        · exact Or.inl (nI_lt (b := 40) q (by decide))
        · exact Or.inr (nI_lt (a := 48) (by omega) ht)
  · rw [hs_normF g]
    have c33 : (33 : Int32).toNatClampNeg = 33 := by decide
    rw [c33]
    refine ⟨Or.inr ⟨33, by decide, by decide, rfl⟩, by decide, Or.inr ⟨by rintro (z | z) <;> omega, Or.inr (Or.inr ⟨rfl, g, h0⟩), Or.inr (Or.inl (by decide)), ?_⟩⟩
    by_cases q : x < 40
    · exact Or.inl q
    · refine Or.inr (Classical.byContradiction fun z => g ?_)
      exact Or.inr (Or.inr (Or.inl ⟨Int32.not_lt.mp q, Int32.not_lt.mp z⟩))
/-- the rows of the lines that are found -/
def hs_Rw (tx LT : Nat → Int32) (cs kl a m f : Nat) (P E : Nat → Nat) : Prop :=
  (∀ j, a ≤ j → j < m → cs ≤ P j ∧ P j < E j ∧ E j ≤ f ∧ P j < f ∧ hs_ls tx cs (P j) ∧ (∀ k, P j ≤ k → k < E j → ¬ hs_en (hs_g tx k)) ∧ hs_en (hs_g tx (E j)) ∧ LT (j * 14 + 1) = nI (hs_ind tx cs (P j)) ∧ LT (j * 14 + 2) = nI (kl + (hs_nE tx cs (P j) + 1)) ∧ LT (j * 14 + 11) = nI (P j - cs) ∧ LT (j * 14 + 12) = nI (E j - cs)) ∧
  (∀ i j, a ≤ i → i < j → j < m → P i < P j) ∧ (∀ p, cs ≤ p → p < f → ¬ hs_en (hs_g tx p) → hs_ls tx cs p → ∃ i, a ≤ i ∧ i < m ∧ P i = p)
def hs_set (P : Nat → Nat) (m x : Nat) : Nat → Nat := fun j => if j = m then x else P j
theorem hs_setS {P : Nat → Nat} {m x : Nat} : hs_set P m x m = x := if_pos rfl
theorem hs_setN {P : Nat → Nat} {m x j : Nat} (h : j ≠ m) : hs_set P m x j = P j := if_neg h
theorem hs_xSplit {tx pd LT0 : Nat → Int32} {cs pn kl a : Nat} (hD : hs_PD tx pd cs pn) (he : tx (cs + pn) = -1) (hcs : cs + pn < 1024) (hpn : pn ≤ 400) (ha : a + pn ≤ 405) {post : Int32 → SX → Prop}
    (H : ∀ (LT : Nat → Int32) (b : Nat) (P E : Nat → Nat), a ≤ b → b ≤ a + pn → hs_Rw tx LT cs kl a b (cs + pn) P E → (∀ k, k < a * 14 → LT k = LT0 k) → post (nI (hs_nE tx cs (cs + pn) + 1)) (x_objectLimit, x_stepLimit, x_depthLimit, nI pn, x_keptTokens, nI kl, nI b, x_codeCount, x_cursor, x_stop, x_waitingCount, x_openCount, x_classCount, x_callCount, x_operandCount, x_stepsTaken, x_error, x_raisedCode, x_printCount, x_lastResult, x_lastPlace, pd, LT, x_code, x_waiting, x_globals, x_entries, x_orders, x_merging, x_letterClass, x_objectClass, x_attributes, x_calls, x_held, x_operands, x_lastPrints)) :
    ∀ (n k fr m : Nat) (LT : Nat → Int32) (P E : Nat → Nat), pn + 2 ≤ n + k → k ≤ pn → fr ≤ k → a ≤ m → m ≤ a + fr → hs_ls tx cs (cs + fr) → (∀ j, cs + fr ≤ j → j < cs + k → ¬ hs_en (hs_g tx j)) → hs_Rw tx LT cs kl a m (cs + fr) P E → (∀ k, k < a * 14 → LT k = LT0 k) →
    wX_splitLines_9 post x_objectLimit x_stepLimit x_depthLimit (nI pn) x_keptTokens (nI kl) x_codeCount x_cursor x_stop x_waitingCount x_openCount x_classCount x_callCount x_operandCount x_stepsTaken x_error x_raisedCode x_printCount x_lastResult x_lastPlace n (nI (hs_nE tx cs (cs + fr) + 1)) (nI (hs_ind tx cs (cs + fr))) (nI fr) (nI k) (nI m) pd LT x_code x_waiting x_globals x_entries x_orders x_merging x_letterClass x_objectClass x_attributes x_calls x_held x_operands x_lastPrints := by
  intro n
  induction n with
  | zero => intro k fr m LT P E h1 h2; omega
  | succ n ih =>
    intro k fr m LT P E h1 h2 h3 hm1 hm2 hl hno hR hLT
    refine br_f (nI_nlt h2 (by omega)) ?_
    -- writing a row
    have addrow : fr < k → hs_en (hs_g tx (cs + k)) → ∀ {Q : Nat → (Nat → Int32) → Prop}, (∀ LT', hs_Rw tx LT' cs kl a (m + 1) (cs + k) (hs_set P m (cs + fr)) (hs_set E m (cs + k)) → (∀ i, i < a * 14 → LT' i = LT0 i) → Q (m + 1) LT') → Q (m + 1) (upd (upd (upd (upd LT (m * 14 + 1) (nI (hs_ind tx cs (cs + fr)))) (m * 14 + 2) (nI (kl + (hs_nE tx cs (cs + fr) + 1)))) (m * 14 + 11) (nI fr)) (m * 14 + 12) (nI k)) := by
      intro hf hen Q hQ
      refine hQ _ ?_ (fun i hi => ?_)
      · obtain ⟨r1, r2, r3⟩ := hR
        refine ⟨fun j ja jm => ?_, fun i j ia ij jm => ?_, fun p p1 p2 p3 p4 => ?_⟩
        · by_cases e : j = m
          · subst e
            rw [hs_setS, hs_setS]
            refine ⟨by omega, by omega, Nat.le_refl _, by omega, hl, fun q q1 q2 => hno q q1 (by omega), hen, ?_, ?_, ?_, ?_⟩
            · rw [pk_un (by omega), pk_un (by omega), pk_un (by omega), pk_us]
            · rw [pk_un (by omega), pk_un (by omega), pk_us]
            · rw [pk_un (by omega), pk_us]; exact congrArg nI (by omega)
            · rw [pk_us]; exact congrArg nI (by omega)
          · obtain ⟨a1, a2, a3, a4, a5, a6, a7, a8, a9, a10, a11⟩ := r1 j ja (by omega)
            rw [hs_setN e, hs_setN e]
            refine ⟨a1, a2, by omega, by omega, a5, a6, a7, ?_, ?_, ?_, ?_⟩
            · rw [pk_un (by omega), pk_un (by omega), pk_un (by omega), pk_un (by omega)]; exact a8
            · rw [pk_un (by omega), pk_un (by omega), pk_un (by omega), pk_un (by omega)]; exact a9
            · rw [pk_un (by omega), pk_un (by omega), pk_un (by omega), pk_un (by omega)]; exact a10
            · rw [pk_un (by omega), pk_un (by omega), pk_un (by omega), pk_un (by omega)]; exact a11
        · by_cases e : j = m
          · subst e
            rw [hs_setS, hs_setN (by omega)]
            exact (r1 i ia (by omega)).2.2.2.1
          · rw [hs_setN (by omega), hs_setN e]
            exact r2 i j ia ij (by omega)
        · by_cases q : p < cs + fr
          · obtain ⟨i, i1, i2, i3⟩ := r3 p p1 q p3 p4
            exact ⟨i, i1, by omega, by rw [hs_setN (by omega)]; exact i3⟩
          · refine ⟨m, hm1, by omega, ?_⟩
            rw [hs_setS]
            by_cases e : p = cs + fr
            · exact e.symm
            · exfalso
              rcases p4 with z | z
              · omega
              · exact hno (p - 1) (by omega) (by omega) z
      · rw [pk_un (by omega), pk_un (by omega), pk_un (by omega), pk_un (by omega)]
        exact hLT i hi
    have en0 : hs_nE tx cs (cs + k) = hs_nE tx cs (cs + fr) := by
      have := hs_nEs (tx := tx) (cs := cs) (q := cs + fr) (k - fr) (fun j j1 j2 => hno j j1 (by omega))
      rw [show cs + fr + (k - fr) = cs + k by omega] at this
      exact this
    have nle := hs_nEle (tx := tx) (cs := cs) (cs + fr)
    -- a line end at k: what follows it, whether or not a row was written
    have t141 : ∀ (z : Int32) (m' : Nat) (LT' : Nat → Int32) (P' E' : Nat → Nat), a ≤ m' → m' ≤ a + k → hs_en (hs_g tx (cs + k)) → (k < pn → ∃ t, 40 ≤ t ∧ t ≤ 48 ∧ z = nI t ∧ tx (cs + k) = nI t) → hs_Rw tx LT' cs kl a m' (cs + k) P' E' → (∀ i, i < a * 14 → LT' i = LT0 i) →
        wX_splitLines_141 post (wX_splitLines_9 post x_objectLimit x_stepLimit x_depthLimit (nI pn) x_keptTokens (nI kl) x_codeCount x_cursor x_stop x_waitingCount x_openCount x_classCount x_callCount x_operandCount x_stepsTaken x_error x_raisedCode x_printCount x_lastResult x_lastPlace n) (nI (hs_nE tx cs (cs + fr) + 1)) (nI (hs_ind tx cs (cs + fr))) (nI fr) (nI k) z x_objectLimit x_stepLimit x_depthLimit (nI pn) x_keptTokens (nI kl) (nI m') x_codeCount x_cursor x_stop x_waitingCount x_openCount x_classCount x_callCount x_operandCount x_stepsTaken x_error x_raisedCode x_printCount x_lastResult x_lastPlace pd LT' x_code x_waiting x_globals x_entries x_orders x_merging x_letterClass x_objectClass x_attributes x_calls x_held x_operands x_lastPrints := by
      intro z m' LT' P' E' ma mk hen hz hR' hLT'
      unfold wX_splitLines_141
      refine pk_le pn k (fun q => ?_) (fun q => ?_)
      · have ek : k = pn := by omega
        subst ek
        refine nm_r (nI_1 k) ?_
        obtain ⟨n, rfl⟩ : ∃ j, n = j + 1 := ⟨n - 1, by omega⟩
        refine br_t (nI_lt (by omega) (by omega)) ?_
        rw [← en0]
        exact H LT' m' P' E' ma (by omega) hR' hLT'
      · obtain ⟨t, t1, t2, rfl, htx⟩ := hz q
        refine nm_r (nI_1 _) (nm_r (show nI t - 40 = nI (t - 40) from pk_sub (b := 40) t1) (nm_r (nI_1 k) (nm_r (nI_1 k) ?_)))
        have hg : hs_g tx (cs + k) = t := by unfold hs_g; rw [htx, nI_clamp (by omega)]
        have e1 : hs_ind tx cs (cs + (k + 1)) = t - 40 := by
          unfold hs_ind
          rw [if_neg (by omega), show cs + (k + 1) - 1 = cs + k by omega, hg]
        have e2 : hs_nE tx cs (cs + (k + 1)) = hs_nE tx cs (cs + fr) + 1 := by
          show hs_nE tx cs (cs + k) + _ = _
          rw [en0, if_pos ⟨Nat.le_add_right cs k, hen⟩]
        have := ih (k + 1) (k + 1) m' LT' P' E' (by omega) (by omega) (Nat.le_refl _) ma (by omega) (Or.inr (by rw [show cs + (k + 1) - 1 = cs + k by omega]; exact hen)) (fun j j1 j2 => by omega) ?_ hLT'
        · rw [e1, e2] at this
          exact this
        · obtain ⟨r1, r2, r3⟩ := hR'
          refine ⟨fun j ja jm => ?_, r2, fun p p1 p2 p3 p4 => ?_⟩
          · obtain ⟨a1, a2, a3, a4, a5⟩ := r1 j ja jm
            exact ⟨a1, a2, by omega, by omega, a5⟩
          · by_cases e : p = cs + k
            · subst e; exact absurd hen p3
            · exact r3 p p1 (by omega) p3 p4
    have end39 : ∀ (z : Int32) (zt : Nat), 40 ≤ zt → zt ≤ 48 → z = nI zt → hs_en (hs_g tx (cs + k)) → (k < pn → ∃ t, 40 ≤ t ∧ t ≤ 48 ∧ z = nI t ∧ tx (cs + k) = nI t) →
        wX_splitLines_39 post (wX_splitLines_9 post x_objectLimit x_stepLimit x_depthLimit (nI pn) x_keptTokens (nI kl) x_codeCount x_cursor x_stop x_waitingCount x_openCount x_classCount x_callCount x_operandCount x_stepsTaken x_error x_raisedCode x_printCount x_lastResult x_lastPlace n) (nI (hs_nE tx cs (cs + fr) + 1)) (nI (hs_ind tx cs (cs + fr))) (nI fr) (nI k) z x_objectLimit x_stepLimit x_depthLimit (nI pn) x_keptTokens (nI kl) (nI m) x_codeCount x_cursor x_stop x_waitingCount x_openCount x_classCount x_callCount x_operandCount x_stepsTaken x_error x_raisedCode x_printCount x_lastResult x_lastPlace pd LT x_code x_waiting x_globals x_entries x_orders x_merging x_letterClass x_objectClass x_attributes x_calls x_held x_operands x_lastPrints := by
      intro z zt z1 z2 ez hen hz
      subst ez
      unfold wX_splitLines_39
      refine br_f (nI_nlt (b := 40) z1 (by omega)) (br_t (nI_le (b := 48) z2 (by decide)) ?_)
      refine pk_le k fr (fun q => ?_) (fun q => ?_)
      · have ek : fr = k := by omega
        subst ek
        exact t141 _ m LT P E hm1 hm2 hen hz hR hLT
      · refine br_f (nI_ge (b := 405) (by omega) (by decide)) ?_
        have em : nI m * 14 = nI (m * 14) := pk_mul m 14
        have e1 : nI (m * 14) + 1 = nI (m * 14 + 1) := nI_1 _
        have e2 : nI (m * 14) + 2 = nI (m * 14 + 2) := nI_add _ 2
        have e11 : nI (m * 14) + 11 = nI (m * 14 + 11) := nI_add _ 11
        have e12 : nI (m * 14) + 12 = nI (m * 14 + 12) := nI_add _ 12
        refine nm_r em ?_
        rw [e1, e2, e11, e12, nI_clamp (show m * 14 + 1 < 2 ^ 31 by omega), nI_clamp (show m * 14 + 2 < 2 ^ 31 by omega), nI_clamp (show m * 14 + 11 < 2 ^ 31 by omega), nI_clamp (show m * 14 + 12 < 2 ^ 31 by omega), nI_add]
        refine And.intro (vp_in_nI (by omega) (by decide)) (nm_e (And.intro (vp_in_nI (by omega) (by decide)) (nm_e (And.intro (vp_in_nI (by omega) (by decide)) (nm_e (And.intro (vp_in_nI (by omega) (by decide)) (nm_e (nm_r (nI_1 m) ?_))))))))
        exact addrow q hen (Q := fun m' LT' => wX_splitLines_141 post (wX_splitLines_9 post x_objectLimit x_stepLimit x_depthLimit (nI pn) x_keptTokens (nI kl) x_codeCount x_cursor x_stop x_waitingCount x_openCount x_classCount x_callCount x_operandCount x_stepsTaken x_error x_raisedCode x_printCount x_lastResult x_lastPlace n) (nI (hs_nE tx cs (cs + fr) + 1)) (nI (hs_ind tx cs (cs + fr))) (nI fr) (nI k) (nI zt) x_objectLimit x_stepLimit x_depthLimit (nI pn) x_keptTokens (nI kl) (nI m') x_codeCount x_cursor x_stop x_waitingCount x_openCount x_classCount x_callCount x_operandCount x_stepsTaken x_error x_raisedCode x_printCount x_lastResult x_lastPlace pd LT' x_code x_waiting x_globals x_entries x_orders x_merging x_letterClass x_objectClass x_attributes x_calls x_held x_operands x_lastPrints) (fun LT' hR' hLT' => t141 _ (m + 1) LT' _ _ (by omega) (by omega) hen hz hR' hLT')
    refine pk_le pn k (fun q => ?_) (fun q => ?_)
    · have ek : k = pn := by omega
      refine end39 40 40 (by decide) (by decide) rfl (Or.inl ?_) (fun y => by omega)
      rw [ek]; unfold hs_g; rw [he]; exact hs_m1c
    · refine And.intro (vp_in_nI (by omega) (by decide)) ?_
      rw [nI_clamp (show k < 2 ^ 31 by omega)]
      obtain ⟨d0, d1⟩ := hD k q
      obtain ⟨w1, w2, w3⟩ := hs_rawT d0
      rw [← d1] at w1 w2 w3
      rcases w3 with ⟨w3, t, t1, t2, t3, t4⟩ | ⟨w3, w4, w5, w6⟩
      · rw [t3]
        exact end39 (nI t) t t1 t2 rfl w3 (fun _ => ⟨t, t1, t2, rfl, t4⟩)
      · have nxt : wX_splitLines_9 post x_objectLimit x_stepLimit x_depthLimit (nI pn) x_keptTokens (nI kl) x_codeCount x_cursor x_stop x_waitingCount x_openCount x_classCount x_callCount x_operandCount x_stepsTaken x_error x_raisedCode x_printCount x_lastResult x_lastPlace n (nI (hs_nE tx cs (cs + fr) + 1)) (nI (hs_ind tx cs (cs + fr))) (nI fr) (nI (k + 1)) (nI m) pd LT x_code x_waiting x_globals x_entries x_orders x_merging x_letterClass x_objectClass x_attributes x_calls x_held x_operands x_lastPrints := by
          refine ih (k + 1) fr m LT P E (by omega) (by omega) (by omega) hm1 hm2 hl (fun j j1 j2 => ?_) hR hLT
          by_cases e : j = cs + k
          · subst e; exact w3
          · exact hno j j1 (by omega)
        unfold wX_splitLines_39
        by_cases z1 : pd k < 40
        · exact br_t z1 (nm_r (nI_1 k) nxt)
        · refine br_f z1 (br_f ?_ (nm_r (nI_1 k) nxt))
          have := w6.resolve_left z1
          exact Int32.not_le.mpr this
theorem hs_xSplitL {tx pd LT0 : Nat → Int32} {cs pn kl a : Nat} (hD : hs_PD tx pd cs pn) (he : tx (cs + pn) = -1) (hcs : cs + pn < 1024) (hpn : pn ≤ 400) (ha : a + pn ≤ 405) {post : Int32 → SX → Prop}
    (H : ∀ (LT : Nat → Int32) (b : Nat) (P E : Nat → Nat), a ≤ b → b ≤ a + pn → hs_Rw tx LT cs kl a b (cs + pn) P E → (∀ k, k < a * 14 → LT k = LT0 k) → post (nI (hs_nE tx cs (cs + pn) + 1)) (x_objectLimit, x_stepLimit, x_depthLimit, nI pn, x_keptTokens, nI kl, nI b, x_codeCount, x_cursor, x_stop, x_waitingCount, x_openCount, x_classCount, x_callCount, x_operandCount, x_stepsTaken, x_error, x_raisedCode, x_printCount, x_lastResult, x_lastPlace, pd, LT, x_code, x_waiting, x_globals, x_entries, x_orders, x_merging, x_letterClass, x_objectClass, x_attributes, x_calls, x_held, x_operands, x_lastPrints)) : wpX_splitLines post (x_objectLimit, x_stepLimit, x_depthLimit, nI pn, x_keptTokens, nI kl, nI a, x_codeCount, x_cursor, x_stop, x_waitingCount, x_openCount, x_classCount, x_callCount, x_operandCount, x_stepsTaken, x_error, x_raisedCode, x_printCount, x_lastResult, x_lastPlace, pd, LT0, x_code, x_waiting, x_globals, x_entries, x_orders, x_merging, x_letterClass, x_objectClass, x_attributes, x_calls, x_held, x_operands, x_lastPrints) := by
  refine ⟨pn + 2, ?_⟩
  have e1 : hs_nE tx cs (cs + 0) + 1 = 1 := by rw [hs_nE0 (cs + 0) (by omega)]
  have e2 : hs_ind tx cs (cs + 0) = 0 := if_pos rfl
  have L : ∀ x1 x2 : Int32, x1 = nI (hs_nE tx cs (cs + 0) + 1) → x2 = nI (hs_ind tx cs (cs + 0)) → wX_splitLines_9 post x_objectLimit x_stepLimit x_depthLimit (nI pn) x_keptTokens (nI kl) x_codeCount x_cursor x_stop x_waitingCount x_openCount x_classCount x_callCount x_operandCount x_stepsTaken x_error x_raisedCode x_printCount x_lastResult x_lastPlace (pn + 2) x1 x2 (nI 0) (nI 0) (nI a) pd LT0 x_code x_waiting x_globals x_entries x_orders x_merging x_letterClass x_objectClass x_attributes x_calls x_held x_operands x_lastPrints := by
    intro x1 x2 h1 h2
    subst h1 h2
    exact hs_xSplit hD he hcs hpn ha H (pn + 2) 0 0 a LT0 (fun _ => 0) (fun _ => 0) (by omega) (by omega) (Nat.le_refl _) (Nat.le_refl _) (by omega) (Or.inl rfl) (fun j j1 j2 => by omega) ⟨fun j ja jm => by omega, fun i j ia ij jm => by omega, fun p p1 p2 => by omega⟩ (fun _ _ => rfl)
  exact L 1 0 (by rw [e1]; rfl) (by rw [e2]; rfl)
end
end
section
/-! the head of a class line or a def line on X's side -/
section
variable {x_objectLimit x_stepLimit x_depthLimit x_pendingCount x_keptTokens x_keptLines x_lineCount x_codeCount x_cursor x_stop x_waitingCount x_openCount x_classCount x_callCount x_operandCount x_stepsTaken x_error x_raisedCode x_printCount x_lastPlace : Int32} {x_lastResult : Int64} {x_pending x_lineTable x_orders x_merging x_letterClass x_objectClass x_calls x_lastPrints : Nat → Int32} {x_code x_waiting x_globals x_entries x_attributes x_held x_operands : Nat → Int64}
variable {y_maxObjects y_maxSteps y_maxDepth y_kept y_end y_tokens y_pending y_lines y_classes y_prints y_place y_steps y_d y_valTop y_opTop y_opens y_pos y_tk y_tv y_stmt y_target y_err y_code y_outcome y_dry y_want y_starting y_ended y_bad y_hosted y_sawSuper : Int32} {y_result : Int64} {y_text y_numbers y_classOf y_alive y_orders y_lengths y_letters y_bases y_ops y_fLine y_fPos y_fStmt y_fTarget y_fMask y_fHome y_fOps y_fVals y_fNew y_out : Nat → Int32} {y_globals y_entries y_attrs y_vals y_locals y_fRecv : Nat → Int64}
/-- the row keeps what splitLines wrote; all else is kept -/
def hs_kp (R : Nat) (L' L : Nat → Int32) : Prop := ∀ k, (k < R ∨ R + 14 ≤ k ∨ (R < k ∧ k < R + 5) ∨ k = R + 11 ∨ k = R + 12) → L' k = L k
theorem hs_kpR {R : Nat} {L : Nat → Int32} : hs_kp R L L := fun _ _ => rfl
theorem hs_kpU {R j : Nat} {L' L : Nat → Int32} {x : Int32} (h : hs_kp R L' L) (hj : j = R ∨ (R + 5 ≤ j ∧ j ≤ R + 10) ∨ j = R + 13) : hs_kp R (upd L' j x) L := fun k hk => by
  rw [pk_un (by omega)]
  exact h k hk
theorem hs_l3 {ts : List Nat} (h : ts.length = 3) : ts = [hs_hd ts, hs_hd (ts.drop 1), hs_hd (ts.drop 2)] := by
  match ts, h with
  | [a, b, c], _ => rfl
theorem hs_l6 {ts : List Nat} (h : ts.length = 6) : ts = [hs_hd ts, hs_hd (ts.drop 1), hs_hd (ts.drop 2), hs_hd (ts.drop 3), hs_hd (ts.drop 4), hs_hd (ts.drop 5)] := by
  match ts, h with
  | [a, b, c, d, e, f], _ => rfl
theorem hs_l8 {ts : List Nat} (h : ts.length = 8) : ts = [hs_hd ts, hs_hd (ts.drop 1), hs_hd (ts.drop 2), hs_hd (ts.drop 3), hs_hd (ts.drop 4), hs_hd (ts.drop 5), hs_hd (ts.drop 6), hs_hd (ts.drop 7)] := by
  match ts, h with
  | [a, b, c, d, e, f, g, i], _ => rfl
theorem hs_hdNe {ts : List Nat} {k : Nat} (h : hs_hd (ts.drop k) ≠ 0) : k < ts.length := by
  rcases Nat.lt_or_ge k ts.length with q | q
  · exact q
  · exact absurd (hs_hdDrop q) h
theorem hs_xClassH {pd LT : Nat → Int32} {c e R : Nat} {r ts : List Nat} (ets : ts = 1 :: r) (hPA : hs_PA pd e c ts) (he : e ≤ 400) (hR : R + 14 ≤ 5670) {post : Int32 → SX → Prop}
    (H1 : ∀ (LT' : Nat → Int32), hs_kp R LT' LT → LT' R = LT R → LT' (R + 13) = LT (R + 13) → hs_CH (LT' (R + 5)) (LT' (R + 6)) (LT' (R + 7)) r → post 1 (x_objectLimit, x_stepLimit, x_depthLimit, x_pendingCount, x_keptTokens, x_keptLines, x_lineCount, x_codeCount, nI c, nI e, x_waitingCount, x_openCount, x_classCount, x_callCount, x_operandCount, x_stepsTaken, x_error, x_raisedCode, x_printCount, x_lastResult, x_lastPlace, pd, LT', x_code, x_waiting, x_globals, x_entries, x_orders, x_merging, x_letterClass, x_objectClass, x_attributes, x_calls, x_held, x_operands, x_lastPrints))
    (H0 : (∀ f s t, ¬ hs_CH f s t r) → ∀ (LT' : Nat → Int32), hs_kp R LT' LT → post 0 (x_objectLimit, x_stepLimit, x_depthLimit, x_pendingCount, x_keptTokens, x_keptLines, x_lineCount, x_codeCount, nI c, nI e, x_waitingCount, x_openCount, x_classCount, x_callCount, x_operandCount, x_stepsTaken, x_error, x_raisedCode, x_printCount, x_lastResult, x_lastPlace, pd, LT', x_code, x_waiting, x_globals, x_entries, x_orders, x_merging, x_letterClass, x_objectClass, x_attributes, x_calls, x_held, x_operands, x_lastPrints)) : wpX_readHeader post (x_objectLimit, x_stepLimit, x_depthLimit, x_pendingCount, x_keptTokens, x_keptLines, x_lineCount, x_codeCount, nI c, nI e, x_waitingCount, x_openCount, x_classCount, x_callCount, x_operandCount, x_stepsTaken, x_error, x_raisedCode, x_printCount, x_lastResult, x_lastPlace, pd, LT, x_code, x_waiting, x_globals, x_entries, x_orders, x_merging, x_letterClass, x_objectClass, x_attributes, x_calls, x_held, x_operands, x_lastPrints) (nI R) 130 := by
  have hlen := hs_PAlen hPA
  have hL1 : 1 ≤ ts.length := by rw [ets]; simp
  have eL : nI e - nI c = nI ts.length := by rw [pk_sub (by omega)]; exact congrArg nI (by omega)
  have e5 : nI R + 5 = nI (R + 5) := nI_add R 5
  have e6 : nI R + 6 = nI (R + 6) := nI_add R 6
  have e7 : nI R + 7 = nI (R + 7) := nI_add R 7
  unfold wpX_readHeader
  refine nm_r eL (hs_xPeek 1 hPA he (by decide) (fun x1 hx1 => hs_xPeek 3 hPA he (by decide) (fun x3 hx3 => hs_xPeek 5 hPA he (by decide) (fun x5 hx5 => ?_))))
  rw [e5, e6, e7, nI_clamp (show R + 5 < 2 ^ 31 by omega), nI_clamp (show R + 6 < 2 ^ 31 by omega), nI_clamp (show R + 7 < 2 ^ 31 by omega)]
  have v5 : vp_in (nI (R + 5)) 5670 := vp_in_nI (by omega) (by decide)
  have v6 : vp_in (nI (R + 6)) 5670 := vp_in_nI (by omega) (by decide)
  have v7 : vp_in (nI (R + 7)) 5670 := vp_in_nI (by omega) (by decide)
  refine And.intro v5 (nm_e (And.intro v6 (nm_e (And.intro v7 (nm_e ?_)))))
  have kp1 : hs_kp R (upd (upd (upd LT (R + 5) (x1 - 130)) (R + 6) (-1)) (R + 7) (-1)) LT := hs_kpU (hs_kpU (hs_kpU hs_kpR (by omega)) (by omega)) (by omega)
  -- the shapes that a right head may have
  have shp : ∀ f s t, hs_CH f s t r → ∃ c', hs_isC c' = true ∧ (ts = [1, c', 25] ∨ (∃ a, hs_isC a = true ∧ ts = [1, c', 21, a, 22, 25]) ∨ ∃ a b, hs_isC a = true ∧ hs_isC b = true ∧ ts = [1, c', 21, a, 23, b, 22, 25]) := by
    rintro f s t ⟨c', hc', _, hh⟩
    refine ⟨c', hc', ?_⟩
    rcases hh with ⟨er, _⟩ | ⟨a, ha, er, _⟩ | ⟨a, b, ha, hb, er, _⟩
    · exact Or.inl (by rw [ets, er])
    · exact Or.inr (Or.inl ⟨a, ha, by rw [ets, er]⟩)
    · exact Or.inr (Or.inr ⟨a, b, ha, hb, by rw [ets, er]⟩)
  refine hs_xFromC hx1 (fun h1 ex1 => br_f (by decide) ?_) (fun h1 => br_t rfl (H0 (fun f s t hC => ?_) _ kp1))
  rotate_left
  · rcases shp f s t hC with ⟨c', hc', q | ⟨a, ha, q⟩ | ⟨a, b, ha, hb, q⟩⟩
    · rw [q] at h1
      have h1 : hs_isC c' = false := h1
      rw [hc'] at h1; cases h1
    · rw [q] at h1
      have h1 : hs_isC c' = false := h1
      rw [hc'] at h1; cases h1
    · rw [q] at h1
      have h1 : hs_isC c' = false := h1
      rw [hc'] at h1; cases h1
  have em1 : nI ts.length - 1 = nI (ts.length - 1) := pk_sub (b := 1) hL1
  rw [em1]
  refine hs_xPeek (ts.length - 1) hPA he (by omega) (fun xl hxl => ?_)
  have el := hs_rxE (k := 25) hxl (Or.inr ⟨Or.inr (Or.inl (by decide)), by decide⟩) (by decide)
  refine br_c (fun ql => ?_) (fun ql => H0 (fun f s t hC => ql (el.mpr ?_)) _ kp1)
  rotate_left
  · rcases shp f s t hC with ⟨c', hc', q | ⟨a, ha, q⟩ | ⟨a, b, ha, hb, q⟩⟩ <;> (rw [q]; rfl)
  have hl25 := el.mp ql
  refine pk_eq ts.length 3 (fun l3 => ?_) (fun l3 => ?_)
  · refine br_t rfl (H1 _ kp1 ?_ ?_ ?_)
    · rw [pk_un (by omega), pk_un (by omega), pk_un (by omega)]
    · rw [pk_un (by omega), pk_un (by omega), pk_un (by omega)]
    · rw [pk_us, pk_un (by omega), pk_un (by omega), pk_us, pk_un (by omega), pk_us, ex1]
      have s3 := hs_l3 l3
      rw [l3] at hl25
      have hl25 : hs_hd (ts.drop 2) = 25 := hl25
      rw [hl25, ets] at s3
      have tc := hs_tkC h1
      refine ⟨hs_hd (ts.drop 1), h1, pk_sub (b := 130) (by omega), Or.inl ⟨?_, rfl, rfl⟩⟩
      rw [ets]
      exact (List.cons.inj s3).2
  refine hs_xPeek 2 hPA he (by decide) (fun x2 hx2 => ?_)
  have e2 := hs_rxE (k := 21) hx2 (Or.inr ⟨Or.inr (Or.inl (by decide)), by decide⟩) (by decide)
  refine br_c (fun q2 => ?_) (fun q2 => H0 (fun f s t hC => ?_) _ kp1)
  rotate_left
  · rcases shp f s t hC with ⟨c', hc', q | ⟨a, ha, q⟩ | ⟨a, b, ha, hb, q⟩⟩
    · rw [q] at l3; exact l3 rfl
    · exact q2 (e2.mpr (by rw [q]; rfl))
    · exact q2 (e2.mpr (by rw [q]; rfl))
  have h21 := e2.mp q2
  have hL3 : 2 < ts.length := hs_hdNe (by rw [h21]; decide)
  have em2 : nI ts.length - 2 = nI (ts.length - 2) := pk_sub (b := 2) (by omega)
  rw [em2]
  refine hs_xPeek (ts.length - 2) hPA he (by omega) (fun xm hxm => ?_)
  have em := hs_rxE (k := 22) hxm (Or.inr ⟨Or.inr (Or.inl (by decide)), by decide⟩) (by decide)
  refine br_c (fun qm => ?_) (fun qm => H0 (fun f s t hC => ?_) _ kp1)
  rotate_left
  · rcases shp f s t hC with ⟨c', hc', q | ⟨a, ha, q⟩ | ⟨a, b, ha, hb, q⟩⟩
    · rw [q] at l3; exact l3 rfl
    · exact qm (em.mpr (by rw [q]; rfl))
    · exact qm (em.mpr (by rw [q]; rfl))
  have h22 := em.mp qm
  refine hs_xFromC hx3 (fun h3 ex3 => br_f (by decide) ?_) (fun h3 => br_t rfl (H0 (fun f s t hC => ?_) _ kp1))
  rotate_left
  · rcases shp f s t hC with ⟨c', hc', q | ⟨a, ha, q⟩ | ⟨a, b, ha, hb, q⟩⟩
    · rw [q] at l3; exact l3 rfl
    · rw [q] at h3
      have h3 : hs_isC a = false := h3
      rw [ha] at h3; cases h3
    · rw [q] at h3
      have h3 : hs_isC a = false := h3
      rw [ha] at h3; cases h3
  have t1 := hs_tkC h1
  have t3 := hs_tkC h3
  refine And.intro v6 (nm_e ?_)
  have kp2 := hs_kpU (j := R + 6) (x := x3 - 130) kp1 (by omega)
  refine pk_eq ts.length 6 (fun l6 => ?_) (fun l6 => ?_)
  · refine H1 _ kp2 ?_ ?_ ?_
    · rw [pk_un (by omega), pk_un (by omega), pk_un (by omega), pk_un (by omega)]
    · rw [pk_un (by omega), pk_un (by omega), pk_un (by omega), pk_un (by omega)]
    · rw [pk_un (by omega), pk_un (by omega), pk_un (by omega), pk_us, pk_us, pk_un (by omega), pk_us, ex1, ex3]
      have s6 := hs_l6 l6
      rw [l6] at hl25 h22
      have hl25 : hs_hd (ts.drop 5) = 25 := hl25
      have h22 : hs_hd (ts.drop 4) = 22 := h22
      rw [hl25, h22, h21, ets] at s6
      refine ⟨hs_hd (ts.drop 1), h1, pk_sub (b := 130) (by omega), Or.inr (Or.inl ⟨hs_hd (ts.drop 3), h3, ?_, pk_sub (b := 130) (by omega), rfl⟩)⟩
      rw [ets]
      exact (List.cons.inj s6).2
  refine And.intro v7 (nm_e ?_)
  have kp3 := hs_kpU (j := R + 7) (x := x5 - 130) kp2 (by omega)
  -- only eight tokens are left
  have only8 : ∀ f s t, hs_CH f s t r → ∃ c' a b, hs_isC a = true ∧ hs_isC b = true ∧ True ∧ ts = [1, c', 21, a, 23, b, 22, 25] := by
    intro f s t hC
    rcases shp f s t hC with ⟨c', hc', q | ⟨a, ha, q⟩ | ⟨a, b, ha, hb, q⟩⟩
    · rw [q] at l3; exact absurd rfl l3
    · rw [q] at l6; exact absurd rfl l6
    · exact ⟨c', a, b, ha, hb, trivial, q⟩
  refine pk_eq ts.length 8 (fun l8 => ?_) (fun l8 => H0 (fun f s t hC => ?_) _ kp3)
  rotate_left
  · obtain ⟨c', a, b, _, _, _, q⟩ := only8 f s t hC
    rw [q] at l8; exact l8 rfl
  refine hs_xPeek 4 hPA he (by decide) (fun x4 hx4 => ?_)
  have e4 := hs_rxE (k := 23) hx4 (Or.inr ⟨Or.inr (Or.inl (by decide)), by decide⟩) (by decide)
  refine br_c (fun q4 => ?_) (fun q4 => H0 (fun f s t hC => ?_) _ kp3)
  rotate_left
  · obtain ⟨c', a, b, _, _, _, q⟩ := only8 f s t hC
    exact q4 (e4.mpr (by rw [q]; rfl))
  have h23 := e4.mp q4
  refine hs_xFromC hx5 (fun h5 ex5 => br_f (by decide) ?_) (fun h5 => br_t rfl (H0 (fun f s t hC => ?_) _ kp3))
  rotate_left
  · obtain ⟨c', a, b, _, hb, _, q⟩ := only8 f s t hC
    rw [q] at h5
    have h5 : hs_isC b = false := h5
    rw [hb] at h5; cases h5
  have t5 := hs_tkC h5
  have good : True → post 1 (x_objectLimit, x_stepLimit, x_depthLimit, x_pendingCount, x_keptTokens, x_keptLines, x_lineCount, x_codeCount, nI c, nI e, x_waitingCount, x_openCount, x_classCount, x_callCount, x_operandCount, x_stepsTaken, x_error, x_raisedCode, x_printCount, x_lastResult, x_lastPlace, pd, upd (upd (upd (upd (upd LT (R + 5) (x1 - 130)) (R + 6) (-1)) (R + 7) (-1)) (R + 6) (x3 - 130)) (R + 7) (x5 - 130), x_code, x_waiting, x_globals, x_entries, x_orders, x_merging, x_letterClass, x_objectClass, x_attributes, x_calls, x_held, x_operands, x_lastPrints) := by
    intro hne
    refine H1 _ kp3 ?_ ?_ ?_
    · rw [pk_un (by omega), pk_un (by omega), pk_un (by omega), pk_un (by omega), pk_un (by omega)]
    · rw [pk_un (by omega), pk_un (by omega), pk_un (by omega), pk_un (by omega), pk_un (by omega)]
    · rw [pk_un (by omega), pk_un (by omega), pk_un (by omega), pk_un (by omega), pk_us, pk_un (by omega), pk_us, pk_us, ex1, ex3, ex5]
      have s8 := hs_l8 l8
      rw [l8] at hl25 h22
      have hl25 : hs_hd (ts.drop 7) = 25 := hl25
      have h22 : hs_hd (ts.drop 6) = 22 := h22
      rw [hl25, h22, h21, h23, ets] at s8
      refine ⟨hs_hd (ts.drop 1), h1, pk_sub (b := 130) (by omega), Or.inr (Or.inr ⟨hs_hd (ts.drop 3), hs_hd (ts.drop 5), h3, h5, ?_, pk_sub (b := 130) (by omega), pk_sub (b := 130) (by omega)⟩)⟩
      rw [ets]
      exact (List.cons.inj s8).2
  exact br_t rfl (good trivial)
theorem hs_xDefH {pd LT : Nat → Int32} {c e R : Nat} {r ts : List Nat} (ets : ts = 2 :: r) (hPA : hs_PA pd e c ts) (he : e ≤ 400) (hR : R + 14 ≤ 5670) {post : Int32 → SX → Prop}
    (H1 : ∀ (LT' : Nat → Int32), hs_kp R LT' LT → LT' R = LT R → LT' (R + 13) = LT (R + 13) → hs_DH (LT' (R + 5)) (LT' (R + 6)) (LT' (R + 7)) r → post 1 (x_objectLimit, x_stepLimit, x_depthLimit, x_pendingCount, x_keptTokens, x_keptLines, x_lineCount, x_codeCount, nI c, nI e, x_waitingCount, x_openCount, x_classCount, x_callCount, x_operandCount, x_stepsTaken, x_error, x_raisedCode, x_printCount, x_lastResult, x_lastPlace, pd, LT', x_code, x_waiting, x_globals, x_entries, x_orders, x_merging, x_letterClass, x_objectClass, x_attributes, x_calls, x_held, x_operands, x_lastPrints))
    (H0 : (∀ f s t, ¬ hs_DH f s t r) → ∀ (LT' : Nat → Int32), hs_kp R LT' LT → post 0 (x_objectLimit, x_stepLimit, x_depthLimit, x_pendingCount, x_keptTokens, x_keptLines, x_lineCount, x_codeCount, nI c, nI e, x_waitingCount, x_openCount, x_classCount, x_callCount, x_operandCount, x_stepsTaken, x_error, x_raisedCode, x_printCount, x_lastResult, x_lastPlace, pd, LT', x_code, x_waiting, x_globals, x_entries, x_orders, x_merging, x_letterClass, x_objectClass, x_attributes, x_calls, x_held, x_operands, x_lastPrints)) : wpX_readHeader post (x_objectLimit, x_stepLimit, x_depthLimit, x_pendingCount, x_keptTokens, x_keptLines, x_lineCount, x_codeCount, nI c, nI e, x_waitingCount, x_openCount, x_classCount, x_callCount, x_operandCount, x_stepsTaken, x_error, x_raisedCode, x_printCount, x_lastResult, x_lastPlace, pd, LT, x_code, x_waiting, x_globals, x_entries, x_orders, x_merging, x_letterClass, x_objectClass, x_attributes, x_calls, x_held, x_operands, x_lastPrints) (nI R) 100 := by
  have hlen := hs_PAlen hPA
  have hL1 : 1 ≤ ts.length := by rw [ets]; simp
  have eL : nI e - nI c = nI ts.length := by rw [pk_sub (by omega)]; exact congrArg nI (by omega)
  have e5 : nI R + 5 = nI (R + 5) := nI_add R 5
  have e6 : nI R + 6 = nI (R + 6) := nI_add R 6
  have e7 : nI R + 7 = nI (R + 7) := nI_add R 7
  unfold wpX_readHeader
  refine nm_r eL (hs_xPeek 1 hPA he (by decide) (fun x1 hx1 => hs_xPeek 3 hPA he (by decide) (fun x3 hx3 => hs_xPeek 5 hPA he (by decide) (fun x5 hx5 => ?_))))
  rw [e5, e6, e7, nI_clamp (show R + 5 < 2 ^ 31 by omega), nI_clamp (show R + 6 < 2 ^ 31 by omega), nI_clamp (show R + 7 < 2 ^ 31 by omega)]
  have v5 : vp_in (nI (R + 5)) 5670 := vp_in_nI (by omega) (by decide)
  have v6 : vp_in (nI (R + 6)) 5670 := vp_in_nI (by omega) (by decide)
  have v7 : vp_in (nI (R + 7)) 5670 := vp_in_nI (by omega) (by decide)
  refine And.intro v5 (nm_e (And.intro v6 (nm_e (And.intro v7 (nm_e ?_)))))
  have kp1 : hs_kp R (upd (upd (upd LT (R + 5) (x1 - 100)) (R + 6) (-1)) (R + 7) (-1)) LT := hs_kpU (hs_kpU (hs_kpU hs_kpR (by omega)) (by omega)) (by omega)
  -- the shapes that a right head may have
  have shp : ∀ f s t, hs_DH f s t r → ∃ c', hs_isN c' = true ∧ ((∃ a, hs_isN a = true ∧ ts = [2, c', 21, a, 22, 25]) ∨ ∃ a b, hs_isN a = true ∧ hs_isN b = true ∧ b ≠ a ∧ ts = [2, c', 21, a, 23, b, 22, 25]) := by
    rintro f s t ⟨c', a, hc', ha, _, _, hh⟩
    refine ⟨c', hc', ?_⟩
    rcases hh with ⟨er, _⟩ | ⟨b, hb, hne, er, _⟩
    · exact Or.inl ⟨a, ha, by rw [ets, er]⟩
    · exact Or.inr ⟨a, b, ha, hb, hne, by rw [ets, er]⟩
  refine hs_xFromN hx1 (fun h1 ex1 => br_f (by decide) ?_) (fun h1 => br_t rfl (H0 (fun f s t hC => ?_) _ kp1))
  rotate_left
  · rcases shp f s t hC with ⟨c', hc', ⟨a, ha, q⟩ | ⟨a, b, ha, hb, hne, q⟩⟩
    · rw [q] at h1
      have h1 : hs_isN c' = false := h1
      rw [hc'] at h1; cases h1
    · rw [q] at h1
      have h1 : hs_isN c' = false := h1
      rw [hc'] at h1; cases h1
  have em1 : nI ts.length - 1 = nI (ts.length - 1) := pk_sub (b := 1) hL1
  rw [em1]
  refine hs_xPeek (ts.length - 1) hPA he (by omega) (fun xl hxl => ?_)
  have el := hs_rxE (k := 25) hxl (Or.inr ⟨Or.inr (Or.inl (by decide)), by decide⟩) (by decide)
  refine br_c (fun ql => ?_) (fun ql => H0 (fun f s t hC => ql (el.mpr ?_)) _ kp1)
  rotate_left
  · rcases shp f s t hC with ⟨c', hc', ⟨a, ha, q⟩ | ⟨a, b, ha, hb, hne, q⟩⟩ <;> (rw [q]; rfl)
  have hl25 := el.mp ql
  refine pk_eq ts.length 3 (fun l3 => ?_) (fun l3 => ?_)
  · refine br_f (by decide) (H0 (fun f s t hC => ?_) _ kp1)
    rcases shp f s t hC with ⟨c', hc', ⟨a, ha, q⟩ | ⟨a, b, ha, hb, hne, q⟩⟩ <;> (rw [q] at l3; cases l3)
  refine hs_xPeek 2 hPA he (by decide) (fun x2 hx2 => ?_)
  have e2 := hs_rxE (k := 21) hx2 (Or.inr ⟨Or.inr (Or.inl (by decide)), by decide⟩) (by decide)
  refine br_c (fun q2 => ?_) (fun q2 => H0 (fun f s t hC => ?_) _ kp1)
  rotate_left
  · rcases shp f s t hC with ⟨c', hc', ⟨a, ha, q⟩ | ⟨a, b, ha, hb, hne, q⟩⟩
    · exact q2 (e2.mpr (by rw [q]; rfl))
    · exact q2 (e2.mpr (by rw [q]; rfl))
  have h21 := e2.mp q2
  have hL3 : 2 < ts.length := hs_hdNe (by rw [h21]; decide)
  have em2 : nI ts.length - 2 = nI (ts.length - 2) := pk_sub (b := 2) (by omega)
  rw [em2]
  refine hs_xPeek (ts.length - 2) hPA he (by omega) (fun xm hxm => ?_)
  have em := hs_rxE (k := 22) hxm (Or.inr ⟨Or.inr (Or.inl (by decide)), by decide⟩) (by decide)
  refine br_c (fun qm => ?_) (fun qm => H0 (fun f s t hC => ?_) _ kp1)
  rotate_left
  · rcases shp f s t hC with ⟨c', hc', ⟨a, ha, q⟩ | ⟨a, b, ha, hb, hne, q⟩⟩
    · exact qm (em.mpr (by rw [q]; rfl))
    · exact qm (em.mpr (by rw [q]; rfl))
  have h22 := em.mp qm
  refine hs_xFromN hx3 (fun h3 ex3 => br_f (by decide) ?_) (fun h3 => br_t rfl (H0 (fun f s t hC => ?_) _ kp1))
  rotate_left
  · rcases shp f s t hC with ⟨c', hc', ⟨a, ha, q⟩ | ⟨a, b, ha, hb, hne, q⟩⟩
    · rw [q] at h3
      have h3 : hs_isN a = false := h3
      rw [ha] at h3; cases h3
    · rw [q] at h3
      have h3 : hs_isN a = false := h3
      rw [ha] at h3; cases h3
  have t1 := hs_tkN h1
  have t3 := hs_tkN h3
  refine And.intro v6 (nm_e ?_)
  have kp2 := hs_kpU (j := R + 6) (x := x3 - 100) kp1 (by omega)
  refine pk_eq ts.length 6 (fun l6 => ?_) (fun l6 => ?_)
  · refine H1 _ kp2 ?_ ?_ ?_
    · rw [pk_un (by omega), pk_un (by omega), pk_un (by omega), pk_un (by omega)]
    · rw [pk_un (by omega), pk_un (by omega), pk_un (by omega), pk_un (by omega)]
    · rw [pk_un (by omega), pk_un (by omega), pk_un (by omega), pk_us, pk_us, pk_un (by omega), pk_us, ex1, ex3]
      have s6 := hs_l6 l6
      rw [l6] at hl25 h22
      have hl25 : hs_hd (ts.drop 5) = 25 := hl25
      have h22 : hs_hd (ts.drop 4) = 22 := h22
      rw [hl25, h22, h21, ets] at s6
      refine ⟨hs_hd (ts.drop 1), hs_hd (ts.drop 3), h1, h3, pk_sub (b := 100) (by omega), pk_sub (b := 100) (by omega), Or.inl ⟨?_, rfl⟩⟩
      rw [ets]
      exact (List.cons.inj s6).2
  refine And.intro v7 (nm_e ?_)
  have kp3 := hs_kpU (j := R + 7) (x := x5 - 100) kp2 (by omega)
  -- only eight tokens are left
  have only8 : ∀ f s t, hs_DH f s t r → ∃ c' a b, hs_isN a = true ∧ hs_isN b = true ∧ b ≠ a ∧ ts = [2, c', 21, a, 23, b, 22, 25] := by
    intro f s t hC
    rcases shp f s t hC with ⟨c', hc', ⟨a, ha, q⟩ | ⟨a, b, ha, hb, hne, q⟩⟩
    · rw [q] at l6; exact absurd rfl l6
    · exact ⟨c', a, b, ha, hb, hne, q⟩
  refine pk_eq ts.length 8 (fun l8 => ?_) (fun l8 => H0 (fun f s t hC => ?_) _ kp3)
  rotate_left
  · obtain ⟨c', a, b, _, _, _, q⟩ := only8 f s t hC
    rw [q] at l8; exact l8 rfl
  refine hs_xPeek 4 hPA he (by decide) (fun x4 hx4 => ?_)
  have e4 := hs_rxE (k := 23) hx4 (Or.inr ⟨Or.inr (Or.inl (by decide)), by decide⟩) (by decide)
  refine br_c (fun q4 => ?_) (fun q4 => H0 (fun f s t hC => ?_) _ kp3)
  rotate_left
  · obtain ⟨c', a, b, _, _, _, q⟩ := only8 f s t hC
    exact q4 (e4.mpr (by rw [q]; rfl))
  have h23 := e4.mp q4
  refine hs_xFromN hx5 (fun h5 ex5 => br_f (by decide) ?_) (fun h5 => br_t rfl (H0 (fun f s t hC => ?_) _ kp3))
  rotate_left
  · obtain ⟨c', a, b, _, hb, _, q⟩ := only8 f s t hC
    rw [q] at h5
    have h5 : hs_isN b = false := h5
    rw [hb] at h5; cases h5
  have t5 := hs_tkN h5
  have good : hs_hd (ts.drop 5) ≠ hs_hd (ts.drop 3) → post 1 (x_objectLimit, x_stepLimit, x_depthLimit, x_pendingCount, x_keptTokens, x_keptLines, x_lineCount, x_codeCount, nI c, nI e, x_waitingCount, x_openCount, x_classCount, x_callCount, x_operandCount, x_stepsTaken, x_error, x_raisedCode, x_printCount, x_lastResult, x_lastPlace, pd, upd (upd (upd (upd (upd LT (R + 5) (x1 - 100)) (R + 6) (-1)) (R + 7) (-1)) (R + 6) (x3 - 100)) (R + 7) (x5 - 100), x_code, x_waiting, x_globals, x_entries, x_orders, x_merging, x_letterClass, x_objectClass, x_attributes, x_calls, x_held, x_operands, x_lastPrints) := by
    intro hne
    refine H1 _ kp3 ?_ ?_ ?_
    · rw [pk_un (by omega), pk_un (by omega), pk_un (by omega), pk_un (by omega), pk_un (by omega)]
    · rw [pk_un (by omega), pk_un (by omega), pk_un (by omega), pk_un (by omega), pk_un (by omega)]
    · rw [pk_un (by omega), pk_un (by omega), pk_un (by omega), pk_un (by omega), pk_us, pk_un (by omega), pk_us, pk_us, ex1, ex3, ex5]
      have s8 := hs_l8 l8
      rw [l8] at hl25 h22
      have hl25 : hs_hd (ts.drop 7) = 25 := hl25
      have h22 : hs_hd (ts.drop 6) = 22 := h22
      rw [hl25, h22, h21, h23, ets] at s8
      refine ⟨hs_hd (ts.drop 1), hs_hd (ts.drop 3), h1, h3, pk_sub (b := 100) (by omega), pk_sub (b := 100) (by omega), Or.inr ⟨hs_hd (ts.drop 5), h5, hne, ?_, pk_sub (b := 100) (by omega)⟩⟩
      rw [ets]
      exact (List.cons.inj s8).2
  subst ex3 ex5
  refine br_f (by decide) (pk_eq (hs_hd (ts.drop 3)) (hs_hd (ts.drop 5)) (fun q => H0 (fun f s t hC => ?_) _ kp3) (fun q => good (fun y => q y.symm)))
  obtain ⟨c', a, b, _, _, hne, q'⟩ := only8 f s t hC
  rw [q'] at q
  exact hne (show b = a from q.symm)
end
end
section
/-! the lines without a word of their own, on X's side -/
section
variable {x_objectLimit x_stepLimit x_depthLimit x_pendingCount x_keptTokens x_keptLines x_lineCount x_codeCount x_cursor x_stop x_waitingCount x_openCount x_classCount x_callCount x_operandCount x_stepsTaken x_error x_raisedCode x_printCount x_lastPlace : Int32} {x_lastResult : Int64} {x_pending x_lineTable x_orders x_merging x_letterClass x_objectClass x_calls x_lastPrints : Nat → Int32} {x_code x_waiting x_globals x_entries x_attributes x_held x_operands : Nat → Int64}
variable {y_maxObjects y_maxSteps y_maxDepth y_kept y_end y_tokens y_pending y_lines y_classes y_prints y_place y_steps y_d y_valTop y_opTop y_opens y_pos y_tk y_tv y_stmt y_target y_err y_code y_outcome y_dry y_want y_starting y_ended y_bad y_hosted y_sawSuper : Int32} {y_result : Int64} {y_text y_numbers y_classOf y_alive y_orders y_lengths y_letters y_bases y_ops y_fLine y_fPos y_fStmt y_fTarget y_fMask y_fHome y_fOps y_fVals y_fNew y_out : Nat → Int32} {y_globals y_entries y_attrs y_vals y_locals y_fRecv : Nat → Int64}
/-- the place of the first sign = -/
def hs_mark (stop : Nat) : Nat → List Nat → Nat
  | _, [] => stop
  | k, t :: r => if t = 26 then k else hs_mark stop (k + 1) r
theorem hs_markN {stop : Nat} : ∀ {ts : List Nat} {k : Nat}, 26 ∉ ts → hs_mark stop k ts = stop
  | [], _, _ => rfl
  | t :: r, k, h => by
    unfold hs_mark
    rw [if_neg (fun e => h (by rw [e]; simp)), hs_markN (fun y => h (List.mem_cons_of_mem _ y))]
theorem hs_markS {stop : Nat} {E : List Nat} : ∀ {B : List Nat} {k : Nat}, 26 ∉ B → hs_mark stop k (B ++ 26 :: E) = k + B.length
  | [], k, _ => if_pos rfl
  | t :: r, k, h => by
    show (if t = 26 then k else hs_mark stop (k + 1) (r ++ 26 :: E)) = _
    rw [if_neg (fun e => h (by rw [e]; simp)), hs_markS (fun y => h (List.mem_cons_of_mem _ y))]
    simp only [List.length_cons]; omega
theorem hs_markLe {stop : Nat} : ∀ {ts : List Nat} {k : Nat}, stop = k + ts.length → hs_mark stop k ts ≤ stop
  | [], _, _ => Nat.le_refl _
  | t :: r, k, h => by
    simp only [List.length_cons] at h
    unfold hs_mark
    split
    · omega
    · exact hs_markLe (by omega)
theorem hs_split26 : ∀ (ts : List Nat), 26 ∉ ts ∨ ∃ B E, ts = B ++ 26 :: E ∧ 26 ∉ B
  | [] => Or.inl hs_nnil
  | t :: r => by
    by_cases e : t = 26
    · exact Or.inr ⟨[], r, by rw [e]; rfl, hs_nnil⟩
    · rcases hs_split26 r with h | ⟨B, E, h1, h2⟩
      · exact Or.inl (hs_ncons e h)
      · exact Or.inr ⟨t :: B, E, by rw [h1]; rfl, hs_ncons e h2⟩
theorem hs_xMark {pd : Nat → Int32} {stop c : Nat} {ts : List Nat} {x1 : Int32} (hPA : hs_PA pd stop c ts) (hs : stop ≤ 400) {post : Int32 → SX → Prop}
    (H : ∀ n, wX_readPlainForm_12 post x1 x_objectLimit x_stepLimit x_depthLimit x_pendingCount x_keptTokens x_keptLines x_lineCount x_codeCount (nI c) (nI stop) x_waitingCount x_openCount x_classCount x_callCount x_operandCount x_stepsTaken x_error x_raisedCode x_printCount x_lastResult x_lastPlace pd x_lineTable x_code x_waiting x_globals x_entries x_orders x_merging x_letterClass x_objectClass x_attributes x_calls x_held x_operands x_lastPrints (n + 1) (nI (hs_mark stop c ts)) (nI c - 1)) :
    ∀ (j n : Nat), j ≤ ts.length → j < n → ∀ x2 x3 : Int32, x2 = nI (hs_mark stop (c + j) (ts.drop j)) → x3 = nI (c + j) - 1 → wX_readPlainForm_12 post x1 x_objectLimit x_stepLimit x_depthLimit x_pendingCount x_keptTokens x_keptLines x_lineCount x_codeCount (nI c) (nI stop) x_waitingCount x_openCount x_classCount x_callCount x_operandCount x_stepsTaken x_error x_raisedCode x_printCount x_lastResult x_lastPlace pd x_lineTable x_code x_waiting x_globals x_entries x_orders x_merging x_letterClass x_objectClass x_attributes x_calls x_held x_operands x_lastPrints n x2 x3 := by
  have hlen := hs_PAlen hPA
  intro j
  induction j with
  | zero =>
    intro n _ hn x2 x3 e2 e3
    obtain ⟨m, rfl⟩ : ∃ m, n = m + 1 := ⟨n - 1, by omega⟩
    subst e2 e3
    exact H m
  | succ j ih =>
    intro n hj hn x2 x3 e2 e3
    obtain ⟨m, rfl⟩ : ∃ m, n = m + 1 := ⟨n - 1, by omega⟩
    have e3' : x3 = nI (c + j) := by rw [e3, show c + (j + 1) = c + j + 1 by omega, nI_pred]
    subst e2 e3'
    refine br_f (nI_nlt (by omega) (by omega)) (And.intro (vp_in_nI (by omega) (by decide)) ?_)
    rw [nI_clamp (show c + j < 2 ^ 31 by omega)]
    have hx := hs_PAat hPA (k := j) (by omega)
    have e26 := hs_rxE (k := 26) hx (Or.inr ⟨Or.inr (Or.inl (by decide)), by decide⟩) (by decide)
    have hd : ts.drop j = hs_hd (ts.drop j) :: ts.drop (j + 1) := by
      have h1 : ts.drop j = ts[j] :: ts.drop (j + 1) := List.drop_eq_getElem_cons (by omega)
      rw [h1]; rfl
    have em : nI (c + j) + (-1) = nI (c + j) - 1 := by rw [Int32.sub_eq_add_neg]
    refine br_c (fun q => nm_e (ih m (by omega) (by omega) _ _ ?_ em)) (fun q => nm_e (ih m (by omega) (by omega) _ _ ?_ em))
    · rw [hd]
      unfold hs_mark
      rw [if_pos (e26.mp q)]
    · rw [hd]
      show _ = nI (if hs_hd (ts.drop j) = 26 then c + j else hs_mark stop (c + j + 1) (ts.drop (j + 1)))
      rw [if_neg (fun y => q (e26.mpr y))]
      rfl
theorem hs_hdLast {B E : List Nat} {x : Nat} : ∀ {A : List Nat}, B = A ++ [x] → hs_hd ((B ++ E).drop (B.length - 1)) = x := by
  intro A e
  subst e
  have : (A ++ [x]).length - 1 = A.length := by simp
  rw [this, List.append_assoc, List.drop_append_of_le_length (Nat.le_refl _), List.drop_length]
  rfl
theorem hs_snoc : ∀ (B : List Nat), B ≠ [] → ∃ A x, B = A ++ [x]
  | [], h => absurd rfl h
  | [a], _ => ⟨[], a, rfl⟩
  | a :: b :: r, _ => by
    obtain ⟨A, x, e⟩ := hs_snoc (b :: r) (by simp)
    exact ⟨a :: A, x, by rw [e]; rfl⟩
theorem hs_xPeekM {pd : Nat → Int32} {c e : Nat} (he : e ≤ 400) (hc : c ≤ e) {post : Int32 → Prop} (H0 : c = 0 → post 0) (H1 : c ≠ 0 → post (pd (c - 1))) : wpX_peek post (x_objectLimit, x_stepLimit, x_depthLimit, x_pendingCount, x_keptTokens, x_keptLines, x_lineCount, x_codeCount, nI c, nI e, x_waitingCount, x_openCount, x_classCount, x_callCount, x_operandCount, x_stepsTaken, x_error, x_raisedCode, x_printCount, x_lastResult, x_lastPlace, pd, x_lineTable, x_code, x_waiting, x_globals, x_entries, x_orders, x_merging, x_letterClass, x_objectClass, x_attributes, x_calls, x_held, x_operands, x_lastPrints) (-1) := by
  by_cases c0 : c = 0
  · have := H0 c0
    subst c0
    exact nm_r (show nI 0 + (-1) = (-1 : Int32) by decide) (br_t (by decide) this)
  · have := H1 c0
    refine nm_r (show nI c + (-1) = nI (c - 1) from sb_m1 (by omega)) (br_f (nI_pos (by omega)) (br_f (nI_ge (by omega) (by omega)) (And.intro (vp_in_nI (by omega) (by decide)) ?_)))
    rw [nI_clamp (show c - 1 < 2 ^ 31 by omega)]
    exact this
/-- a line that begins with no word, as X sees it -/
theorem hs_xPlain {pd LT : Nat → Int32} {c e R h : Nat} {r ts : List Nat} (ets : ts = h :: r) (hw : ¬ (1 ≤ h ∧ h ≤ 11)) (hPA : hs_PA pd e c ts) (he : e ≤ 400) (hR : R + 14 ≤ 5670) (hprev : c = 0 ∨ ∃ t, 40 ≤ t ∧ t ≤ 48 ∧ pd (c - 1) = nI t) {post : Int32 → SX → Prop}
    (H14 : 26 ∉ ts → ∀ LT', hs_kp R LT' LT → LT' R = 14 → LT' (R + 13) = nI c → post 1 (x_objectLimit, x_stepLimit, x_depthLimit, x_pendingCount, x_keptTokens, x_keptLines, x_lineCount, x_codeCount, nI c, nI e, x_waitingCount, x_openCount, x_classCount, x_callCount, x_operandCount, x_stepsTaken, x_error, x_raisedCode, x_printCount, x_lastResult, x_lastPlace, pd, LT', x_code, x_waiting, x_globals, x_entries, x_orders, x_merging, x_letterClass, x_objectClass, x_attributes, x_calls, x_held, x_operands, x_lastPrints))
    (H15 : ∀ n E, ts = n :: 26 :: E → hs_isN n = true → ∀ LT', hs_kp R LT' LT → LT' R = 15 → LT' (R + 5) = nI (n - 100) → LT' (R + 13) = nI (c + 2) → post 1 (x_objectLimit, x_stepLimit, x_depthLimit, x_pendingCount, x_keptTokens, x_keptLines, x_lineCount, x_codeCount, nI c, nI e, x_waitingCount, x_openCount, x_classCount, x_callCount, x_operandCount, x_stepsTaken, x_error, x_raisedCode, x_printCount, x_lastResult, x_lastPlace, pd, LT', x_code, x_waiting, x_globals, x_entries, x_orders, x_merging, x_letterClass, x_objectClass, x_attributes, x_calls, x_held, x_operands, x_lastPrints))
    (H17 : ∀ k n E, ts = k :: 24 :: n :: 26 :: E → hs_isC k = true → hs_isN n = true → ∀ LT', hs_kp R LT' LT → LT' R = 17 → LT' (R + 5) = nI (n - 100) → LT' (R + 6) = nI (k - 130) → LT' (R + 13) = nI (c + 4) → post 1 (x_objectLimit, x_stepLimit, x_depthLimit, x_pendingCount, x_keptTokens, x_keptLines, x_lineCount, x_codeCount, nI c, nI e, x_waitingCount, x_openCount, x_classCount, x_callCount, x_operandCount, x_stepsTaken, x_error, x_raisedCode, x_printCount, x_lastResult, x_lastPlace, pd, LT', x_code, x_waiting, x_globals, x_entries, x_orders, x_merging, x_letterClass, x_objectClass, x_attributes, x_calls, x_held, x_operands, x_lastPrints))
    (H16 : ∀ A n E, ts = A ++ 24 :: n :: 26 :: E → 26 ∉ A → A ≠ [] → hs_isN n = true → ¬ (A.length = 1 ∧ hs_isC h = true) → ∀ LT', hs_kp R LT' LT → LT' R = 16 → LT' (R + 5) = nI (n - 100) → LT' (R + 13) = nI (c + A.length + 3) → post 1 (x_objectLimit, x_stepLimit, x_depthLimit, x_pendingCount, x_keptTokens, x_keptLines, x_lineCount, x_codeCount, nI c, nI e, x_waitingCount, x_openCount, x_classCount, x_callCount, x_operandCount, x_stepsTaken, x_error, x_raisedCode, x_printCount, x_lastResult, x_lastPlace, pd, LT', x_code, x_waiting, x_globals, x_entries, x_orders, x_merging, x_letterClass, x_objectClass, x_attributes, x_calls, x_held, x_operands, x_lastPrints))
    (H0 : (∀ k f s t cd, ¬ hs_LF k f s t cd ts) → ∀ LT', hs_kp R LT' LT → post 0 (x_objectLimit, x_stepLimit, x_depthLimit, x_pendingCount, x_keptTokens, x_keptLines, x_lineCount, x_codeCount, nI c, nI e, x_waitingCount, x_openCount, x_classCount, x_callCount, x_operandCount, x_stepsTaken, x_error, x_raisedCode, x_printCount, x_lastResult, x_lastPlace, pd, LT', x_code, x_waiting, x_globals, x_entries, x_orders, x_merging, x_letterClass, x_objectClass, x_attributes, x_calls, x_held, x_operands, x_lastPrints)) : wpX_readPlainForm post (x_objectLimit, x_stepLimit, x_depthLimit, x_pendingCount, x_keptTokens, x_keptLines, x_lineCount, x_codeCount, nI c, nI e, x_waitingCount, x_openCount, x_classCount, x_callCount, x_operandCount, x_stepsTaken, x_error, x_raisedCode, x_printCount, x_lastResult, x_lastPlace, pd, LT, x_code, x_waiting, x_globals, x_entries, x_orders, x_merging, x_letterClass, x_objectClass, x_attributes, x_calls, x_held, x_operands, x_lastPrints) (nI R) := by
  have hlen := hs_PAlen hPA
  have hL1 : 1 ≤ ts.length := by rw [ets]; simp
  have e0 : nI R + 0 = nI R := Int32.add_zero _
  have e5 : nI R + 5 = nI (R + 5) := nI_add R 5
  have e6 : nI R + 6 = nI (R + 6) := nI_add R 6
  have e13 : nI R + 13 = nI (R + 13) := nI_add R 13
  have v0 : vp_in (nI R) 5670 := vp_in_nI (by omega) (by decide)
  have v5 : vp_in (nI (R + 5)) 5670 := vp_in_nI (by omega) (by decide)
  have v6 : vp_in (nI (R + 6)) 5670 := vp_in_nI (by omega) (by decide)
  have v13 : vp_in (nI (R + 13)) 5670 := vp_in_nI (by omega) (by decide)
  refine nm_e ⟨ts.length + 1, hs_xMark hPA he (fun n => ?_) ts.length (ts.length + 1) (Nat.le_refl _) (by omega) _ _ ?_ ?_⟩
  rotate_left
  · rw [List.drop_length]; rfl
  · rw [← hlen]
  have ml := hs_markLe (stop := e) (ts := ts) (k := c) hlen
  have hmc : nI c - 1 < nI c := by
    cases c with
    | zero => decide
    | succ c => rw [nI_pred]; exact nI_lt (by omega) (by omega)
  refine br_t hmc ?_
  have kpA : hs_kp R (upd (upd LT R 14) (R + 13) (nI c)) LT := hs_kpU (hs_kpU hs_kpR (by omega)) (by omega)
  rcases hs_split26 ts with h26 | ⟨B, E, eB, hB⟩
  · -- no sign =
    rw [hs_markN h26]
    refine nm_r (pk_sub (show c ≤ e by omega)) (hs_xPeek 0 hPA he (by decide) (fun x0 hx0 => ?_))
    have em1 : nI (e - c) - 1 = nI (e - c - 1) := pk_sub (b := 1) (by omega)
    rw [em1, e0, e5, e6, e13, nI_clamp (show R < 2 ^ 31 by omega), nI_clamp (show R + 5 < 2 ^ 31 by omega), nI_clamp (show R + 6 < 2 ^ 31 by omega), nI_clamp (show R + 13 < 2 ^ 31 by omega)]
    refine hs_xPeek (e - c - 1) hPA he (by omega) (fun xl hxl => And.intro v0 (nm_e (And.intro v13 (nm_e (br_t rfl (H14 h26 _ kpA ?_ ?_))))))
    · rw [pk_un (by omega), pk_us]
    · rw [pk_us]
  · have hBl : ts.length = B.length + 1 + E.length := by rw [eB]; simp; omega
    have emk : hs_mark e c ts = c + B.length := by rw [eB]; exact hs_markS hB
    rw [emk]
    have ebf : nI (c + B.length) - nI c = nI B.length := by rw [pk_sub (by omega)]; exact congrArg nI (by omega)
    refine nm_r ebf (hs_xPeek 0 hPA he (by decide) (fun x0 hx0 => ?_))
    rw [e0, e5, e6, e13, nI_clamp (show R < 2 ^ 31 by omega), nI_clamp (show R + 5 < 2 ^ 31 by omega), nI_clamp (show R + 6 < 2 ^ 31 by omega), nI_clamp (show R + 13 < 2 ^ 31 by omega)]
    have ne : ¬ nI (c + B.length) = nI e := hs_ne (by omega) (by omega) (by omega)
    have e1 : nI (c + B.length) + 1 = nI (c + B.length + 1) := nI_1 _
    rw [e1]
    have kpB : ∀ xl : Int32, hs_kp R (upd (upd (upd (upd (upd LT R 14) (R + 13) (nI c)) (R + 13) (nI (c + B.length + 1))) (R + 5) (xl - 100)) (R + 6) (x0 - 130)) LT := fun xl => hs_kpU (hs_kpU (hs_kpU kpA (by omega)) (by omega)) (by omega)
    -- what LF would need
    have need : ∀ k f s t cd, hs_LF k f s t cd ts → (∃ n, B = [n] ∧ hs_isN n = true) ∨ (∃ A n, B = A ++ [24, n] ∧ A ≠ [] ∧ hs_isN n = true) := by
      intro k f s t cd hL
      rw [ets, hs_LFo hw] at hL
      by_cases c1 : hs_isN h = true ∧ hs_hd r = 26
      · left
        refine ⟨h, ?_, c1.1⟩
        cases r with
        | nil => exact absurd c1.2 (by decide)
        | cons a r1 =>
          have ha : a = 26 := c1.2
          subst ha
          rw [ets] at eB
          cases B with
          | nil => have := (List.cons.inj eB).1; subst this; exact absurd c1.1 (by decide)
          | cons b B =>
            have eB' := List.cons.inj eB
            cases B with
            | nil => rw [eB'.1]
            | cons b2 B2 => exact absurd (by rw [(List.cons.inj eB'.2).1]; simp) hB
      · rw [if_neg c1] at hL
        have viaS : ∀ z cd fs, hs_S z (h :: r) true [] cd [] fs → ∃ A n, B = A ++ [24, n] ∧ A ≠ [] ∧ hs_isN n = true := by
          rintro z cd fs ⟨m, hm⟩
          have hm2 := hm
          rw [← ets, eB] at hm2
          obtain ⟨A, n, e1, e2⟩ := hs_runSet hm2 hB
          refine ⟨A, n, e1, fun e3 => ?_, e2⟩
          subst e3
          rw [e1] at eB
          rw [eB] at ets
          have := List.cons.inj ets
          rw [← this.1] at hm
          cases m with
          | zero => exact hm
          | succ m =>
            rcases hm with ⟨f, _⟩ | ⟨_, ts', w', st', e, cd', E1, _⟩
            · exact absurd f.1 (by decide)
            · cases E1
        right
        split at hL
        · rename_i c2
          obtain ⟨hc, n, r1, er, hn⟩ := hs_plainI.mpr c2
          refine ⟨[h], n, ?_, by simp, hn⟩
          rw [ets, er] at eB
          have hh26 : h ≠ 26 := by have := hs_tkC hc; omega
          have hn26 : n ≠ 26 := by have := hs_tkN hn; omega
          cases B with
          | nil => exact absurd (List.cons.inj eB).1 hh26
          | cons b B =>
            have eB' := List.cons.inj eB
            cases B with
            | nil => exact absurd (List.cons.inj eB'.2).1 (by decide)
            | cons b2 B =>
              have eB2 := List.cons.inj eB'.2
              cases B with
              | nil => exact absurd (List.cons.inj eB2.2).1 hn26
              | cons b3 B =>
                have eB3 := List.cons.inj eB2.2
                cases B with
                | nil => rw [← eB'.1, ← eB2.1, ← eB3.1]; rfl
                | cons b4 B => exact absurd (by rw [(List.cons.inj eB3.2).1]; simp) hB
        · rcases hL with ⟨_, hS⟩ | ⟨_, n, _, _, hS⟩
          · exact viaS _ _ _ hS
          · exact viaS _ _ _ hS
    have needL : ∀ k f s t cd, hs_LF k f s t cd ts → ∃ n A, B = A ++ [n] ∧ hs_isN n = true := by
      intro k f s t cd hL
      rcases need k f s t cd hL with ⟨n, e1, e2⟩ | ⟨A, n, e1, _, e2⟩
      · exact ⟨n, [], e1, e2⟩
      · exact ⟨n, A ++ [24], by rw [e1, List.append_assoc]; rfl, e2⟩
    by_cases b0 : B.length = 0
    · -- the line begins with the sign
      have eB0 : B = [] := List.length_eq_zero_iff.mp b0
      have noL : ∀ k f s t cd, ¬ hs_LF k f s t cd ts := by
        intro k f s t cd hL
        obtain ⟨n, A, e1, _⟩ := needL k f s t cd hL
        rw [eB0] at e1
        cases A <;> cases e1
      have em1 : nI B.length - 1 = (-1 : Int32) := by rw [b0]; decide
      rw [em1]
      refine hs_xPeekM he (by omega) (fun c0 => ?_) (fun c0 => ?_)
      · exact And.intro v0 (nm_e (And.intro v13 (nm_e (br_f ne (And.intro v13 (nm_e (And.intro v5 (nm_e (And.intro v6 (nm_e (br_t (by decide) (br_t rfl (H0 noL _ (kpB _))))))))))))))
      · obtain ⟨t, t1, t2, ht⟩ := hprev.resolve_left c0
        rw [ht]
        exact And.intro v0 (nm_e (And.intro v13 (nm_e (br_f ne (And.intro v13 (nm_e (And.intro v5 (nm_e (And.intro v6 (nm_e (br_t (nI_lt (b := 100) (by omega) (by decide)) (br_t rfl (H0 noL _ (kpB _))))))))))))))
    · obtain ⟨A, x, eA⟩ := hs_snoc B (fun y => b0 (by rw [y]; rfl))
      have em1 : nI B.length - 1 = nI (B.length - 1) := pk_sub (b := 1) (by omega)
      rw [em1]
      refine hs_xPeek (B.length - 1) hPA he (by omega) (fun xl hxl => ?_)
      have hlast : hs_hd (ts.drop (B.length - 1)) = x := by rw [eB]; exact hs_hdLast eA
      rw [hlast] at hxl
      refine And.intro v0 (nm_e (And.intro v13 (nm_e (br_f ne (And.intro v13 (nm_e (And.intro v5 (nm_e (And.intro v6 (nm_e ?_))))))))))
      refine hs_xFromN hxl (fun hn exl => br_f (by decide) ?_) (fun hn => br_t rfl (H0 (fun k f s t cd hL => ?_) _ (kpB xl)))
      rotate_left
      · obtain ⟨n, A', e1, e2⟩ := needL k f s t cd hL
        rw [eA] at e1
        have : x = n := by
          have := congrArg List.getLast? e1
          simpa using this
        rw [this, e2] at hn; cases hn
      have tn := hs_tkN hn
      subst exl
      have ex100 : nI x - 100 = nI (x - 100) := pk_sub (b := 100) (by omega)
      have col : ∀ kd : Int32, hs_kp R (upd (upd (upd (upd (upd (upd LT R 14) (R + 13) (nI c)) (R + 13) (nI (c + B.length + 1))) (R + 5) (nI x - 100)) (R + 6) (x0 - 130)) R kd) LT ∧ upd (upd (upd (upd (upd (upd LT R 14) (R + 13) (nI c)) (R + 13) (nI (c + B.length + 1))) (R + 5) (nI x - 100)) (R + 6) (x0 - 130)) R kd R = kd ∧ upd (upd (upd (upd (upd (upd LT R 14) (R + 13) (nI c)) (R + 13) (nI (c + B.length + 1))) (R + 5) (nI x - 100)) (R + 6) (x0 - 130)) R kd (R + 5) = nI (x - 100) ∧ upd (upd (upd (upd (upd (upd LT R 14) (R + 13) (nI c)) (R + 13) (nI (c + B.length + 1))) (R + 5) (nI x - 100)) (R + 6) (x0 - 130)) R kd (R + 6) = x0 - 130 ∧ upd (upd (upd (upd (upd (upd LT R 14) (R + 13) (nI c)) (R + 13) (nI (c + B.length + 1))) (R + 5) (nI x - 100)) (R + 6) (x0 - 130)) R kd (R + 13) = nI (c + B.length + 1) := by
        intro kd
        refine ⟨hs_kpU (kpB (nI x)) (by omega), pk_us, ?_, ?_, ?_⟩
        · rw [pk_un (by omega), pk_un (by omega), pk_us, ex100]
        · rw [pk_un (by omega), pk_us]
        · rw [pk_un (by omega), pk_un (by omega), pk_un (by omega), pk_us]
      have hx0 : hs_rx x0 (hs_hd ts) := hx0
      rw [ets] at hx0
      have hx0 : hs_rx x0 h := hx0
      refine pk_eq B.length 1 (fun l1 => ?_) (fun l1 => ?_)
      · obtain ⟨k1, k2, k3, k4, k5⟩ := col 15
        refine And.intro v0 (nm_e (H15 x E ?_ hn _ k1 k2 k3 ?_))
        · have : A = [] := by
            have := congrArg List.length eA
            simp at this
            exact List.length_eq_zero_iff.mp (by omega)
          rw [eB, eA, this]; rfl
        · rw [k5, l1]
      · -- an attribute or an entry: at least three tokens, a dot before the name
        have dotOK : ∀ kd : Int32, (∀ LT' : Nat → Int32, LT' = upd (upd (upd (upd (upd (upd LT R 14) (R + 13) (nI c)) (R + 13) (nI (c + B.length + 1))) (R + 5) (nI x - 100)) (R + 6) (x0 - 130)) R kd → ∀ A', B = A' ++ [24, x] → A' ≠ [] → post 1 (x_objectLimit, x_stepLimit, x_depthLimit, x_pendingCount, x_keptTokens, x_keptLines, x_lineCount, x_codeCount, nI c, nI e, x_waitingCount, x_openCount, x_classCount, x_callCount, x_operandCount, x_stepsTaken, x_error, x_raisedCode, x_printCount, x_lastResult, x_lastPlace, pd, LT', x_code, x_waiting, x_globals, x_entries, x_orders, x_merging, x_letterClass, x_objectClass, x_attributes, x_calls, x_held, x_operands, x_lastPrints)) → wX_readPlainForm_206 post (nI B.length) kd (nI R) x_objectLimit x_stepLimit x_depthLimit x_pendingCount x_keptTokens x_keptLines x_lineCount x_codeCount (nI c) (nI e) x_waitingCount x_openCount x_classCount x_callCount x_operandCount x_stepsTaken x_error x_raisedCode x_printCount x_lastResult x_lastPlace pd (upd (upd (upd (upd (upd LT R 14) (R + 13) (nI c)) (R + 13) (nI (c + B.length + 1))) (R + 5) (nI x - 100)) (R + 6) (x0 - 130)) x_code x_waiting x_globals x_entries x_orders x_merging x_letterClass x_objectClass x_attributes x_calls x_held x_operands x_lastPrints := by
          intro kd HK
          obtain ⟨k1, k2, k3, k4, k5⟩ := col kd
          unfold wX_readPlainForm_206
          refine And.intro v0 ?_
          rw [nI_clamp (show R < 2 ^ 31 by omega)]
          have no1 : ∀ k f s t cd, hs_LF k f s t cd ts → ∃ A' n, B = A' ++ [24, n] ∧ A' ≠ [] := by
            intro k f s t cd hL
            rcases need k f s t cd hL with ⟨n, e1, _⟩ | ⟨A', n, e1, e2, _⟩
            · rw [e1] at l1; exact absurd rfl l1
            · exact ⟨A', n, e1, e2⟩
          refine nm_e (pk_lt B.length 3 (fun l3 => H0 (fun k f s t cd hL => ?_) _ k1) (fun l3 => ?_))
          · obtain ⟨A', n, e1, e2⟩ := no1 k f s t cd hL
            have := congrArg List.length e1
            have h2 : 0 < A'.length := List.length_pos_iff.mpr e2
            simp at this
            omega
          · have em2 : nI B.length - 2 = nI (B.length - 2) := pk_sub (b := 2) (by omega)
            rw [em2]
            refine hs_xPeek (B.length - 2) hPA he (by omega) (fun xd hxd => ?_)
            have e24 := hs_rxE (k := 24) hxd (Or.inr ⟨Or.inr (Or.inl (by decide)), by decide⟩) (by decide)
            have hA : A ≠ [] := fun y => by
              rw [y] at eA
              rw [eA] at l3; simp at l3
            obtain ⟨A2, y, eA2⟩ := hs_snoc A hA
            have hd2 : hs_hd (ts.drop (B.length - 2)) = y := by
              have eq : ts = A ++ (x :: 26 :: E) := by rw [eB, eA, List.append_assoc]; rfl
              have el : B.length - 2 = A.length - 1 := by rw [eA]; simp
              rw [eq, el]
              exact hs_hdLast eA2
            rw [hd2] at e24
            refine br_c (fun q => HK _ rfl A2 ?_ ?_) (fun q => H0 (fun k f s t cd hL => q (e24.mpr ?_)) _ k1)
            · rw [eA, eA2, e24.mp q, List.append_assoc]; rfl
            · intro y2
              rw [eA, eA2, y2] at l3
              simp at l3
            · obtain ⟨A', n, e1, e2⟩ := no1 k f s t cd hL
              rw [eA, eA2, List.append_assoc] at e1
              have := congrArg List.reverse e1
              simp at this
              exact this.2.1
        have do16 : ¬ (B.length = 3 ∧ hs_isC h = true) → wX_readPlainForm_184 post (nI R) (nI B.length) x_objectLimit x_stepLimit x_depthLimit x_pendingCount x_keptTokens x_keptLines x_lineCount x_codeCount (nI c) (nI e) x_waitingCount x_openCount x_classCount x_callCount x_operandCount x_stepsTaken x_error x_raisedCode x_printCount x_lastResult x_lastPlace pd (upd (upd (upd (upd (upd LT R 14) (R + 13) (nI c)) (R + 13) (nI (c + B.length + 1))) (R + 5) (nI x - 100)) (R + 6) (x0 - 130)) x_code x_waiting x_globals x_entries x_orders x_merging x_letterClass x_objectClass x_attributes x_calls x_held x_operands x_lastPrints := by
          intro hno
          unfold wX_readPlainForm_184 wX_readPlainForm_185
          rw [e0]
          refine br_t rfl (dotOK 16 (fun LT' eLT A' e1 e2 => ?_))
          obtain ⟨k1, k2, k3, k4, k5⟩ := col 16
          have lB : B.length = A'.length + 2 := by rw [e1]; simp
          subst eLT
          refine H16 A' x E (by rw [eB, e1, List.append_assoc]; rfl) (fun y => hB (by rw [e1]; exact List.mem_append.mpr (Or.inl y))) e2 hn (fun y => hno ⟨by omega, y.2⟩) _ k1 k2 k3 ?_
          rw [k5]; exact congrArg nI (by omega)
        refine pk_eq B.length 3 (fun l3 => ?_) (fun l3 => do16 (fun y => l3 y.1))
        refine hs_xFromC hx0 (fun hc ex0 => br_f (by decide) ?_) (fun hc => br_t rfl (do16 (fun y => by rw [hc] at y; cases y.2)))
        unfold wX_readPlainForm_185
        rw [e0]
        refine br_f (by decide) (dotOK 17 (fun LT' eLT A' e1 e2 => ?_))
        obtain ⟨k1, k2, k3, k4, k5⟩ := col 17
        subst eLT
        have tc := hs_tkC hc
        have lB : A'.length = 1 := by
          have := congrArg List.length e1
          simp at this
          omega
        have eh : A' = [h] := by
          match A', lB with
          | [a], _ =>
            have : ts = a :: 24 :: x :: 26 :: E := by rw [eB, e1]; rfl
            rw [ets] at this
            rw [(List.cons.inj this).1]
        refine H17 h x E (by rw [eB, e1, eh]; rfl) hc hn _ k1 k2 k3 ?_ ?_
        · rw [k4, ex0]; exact pk_sub (b := 130) (by omega)
        · rw [k5, l3]
end
end
section
/-! the form of a line on X's side -/
section
variable {x_objectLimit x_stepLimit x_depthLimit x_pendingCount x_keptTokens x_keptLines x_lineCount x_codeCount x_cursor x_stop x_waitingCount x_openCount x_classCount x_callCount x_operandCount x_stepsTaken x_error x_raisedCode x_printCount x_lastPlace : Int32} {x_lastResult : Int64} {x_pending x_lineTable x_orders x_merging x_letterClass x_objectClass x_calls x_lastPrints : Nat → Int32} {x_code x_waiting x_globals x_entries x_attributes x_held x_operands : Nat → Int64}
variable {y_maxObjects y_maxSteps y_maxDepth y_kept y_end y_tokens y_pending y_lines y_classes y_prints y_place y_steps y_d y_valTop y_opTop y_opens y_pos y_tk y_tv y_stmt y_target y_err y_code y_outcome y_dry y_want y_starting y_ended y_bad y_hosted y_sawSuper : Int32} {y_result : Int64} {y_text y_numbers y_classOf y_alive y_orders y_lengths y_letters y_bases y_ops y_fLine y_fPos y_fStmt y_fTarget y_fMask y_fHome y_fOps y_fVals y_fNew y_out : Nat → Int32} {y_globals y_entries y_attrs y_vals y_locals y_fRecv : Nat → Int64}
def hs_XF (k ex f s t : Int32) (c : Nat) : List Nat → Prop
  | [] => False
  | h :: r =>
    if h = 10 then k = 10 ∧ ex = -1 ∧ r = []
    else if h = 5 ∨ h = 7 then k = nI h ∧ ex = -1 ∧ r = [25]
    else if h = 8 then k = 8 ∧ ex = -1 ∧ ∃ n, r = [n, 25] ∧ hs_isN n = true ∧ f = nI (n - 100)
    else if h = 1 then k = 1 ∧ ex = -1 ∧ hs_CH f s t r
    else if h = 2 then k = 2 ∧ ex = -1 ∧ hs_DH f s t r
    else if h = 4 ∨ h = 6 then k = nI h ∧ ex = nI (c + 1) ∧ ∃ r', r = r' ++ [25]
    else if h = 3 ∨ h = 9 ∨ h = 11 then k = nI h ∧ ex = nI (c + 1)
    else (k = 14 ∧ ex = nI c ∧ 26 ∉ h :: r) ∨ (k = 15 ∧ ex = nI (c + 2) ∧ ∃ n E, h :: r = n :: 26 :: E ∧ hs_isN n = true ∧ f = nI (n - 100)) ∨
      (k = 17 ∧ ex = nI (c + 4) ∧ ∃ q n E, h :: r = q :: 24 :: n :: 26 :: E ∧ hs_isC q = true ∧ hs_isN n = true ∧ f = nI (n - 100) ∧ s = nI (q - 130)) ∨
      (k = 16 ∧ ∃ A n E, h :: r = A ++ 24 :: n :: 26 :: E ∧ 26 ∉ A ∧ A ≠ [] ∧ hs_isN n = true ∧ ¬ (A.length = 1 ∧ hs_isC h = true) ∧ f = nI (n - 100) ∧ ex = nI (c + A.length + 3))
theorem hs_XFo {k ex f s t : Int32} {c h : Nat} {r : List Nat} (hw : ¬ (1 ≤ h ∧ h ≤ 11)) : hs_XF k ex f s t c (h :: r) ↔ ((k = 14 ∧ ex = nI c ∧ 26 ∉ h :: r) ∨ (k = 15 ∧ ex = nI (c + 2) ∧ ∃ n E, h :: r = n :: 26 :: E ∧ hs_isN n = true ∧ f = nI (n - 100)) ∨
      (k = 17 ∧ ex = nI (c + 4) ∧ ∃ q n E, h :: r = q :: 24 :: n :: 26 :: E ∧ hs_isC q = true ∧ hs_isN n = true ∧ f = nI (n - 100) ∧ s = nI (q - 130)) ∨
      (k = 16 ∧ ∃ A n E, h :: r = A ++ 24 :: n :: 26 :: E ∧ 26 ∉ A ∧ A ≠ [] ∧ hs_isN n = true ∧ ¬ (A.length = 1 ∧ hs_isC h = true) ∧ f = nI (n - 100) ∧ ex = nI (c + A.length + 3))) := by
  by_cases h0 : h = 0
  · subst h0; exact Iff.rfl
  show (if h = 10 then _ else if h = 5 ∨ h = 7 then _ else if h = 8 then _ else if h = 1 then _ else if h = 2 then _ else if h = 4 ∨ h = 6 then _ else if h = 3 ∨ h = 9 ∨ h = 11 then _ else _) ↔ _
  rw [if_neg (by omega), if_neg (by omega), if_neg (by omega), if_neg (by omega), if_neg (by omega), if_neg (by omega), if_neg (by omega)]
theorem hs_rxW {x : Int32} {h : Nat} (hx : hs_rx x h) (h0 : h ≠ 0) : (1 ≤ h ∧ h ≤ 11 ∧ x = nI h) ∨ (¬ (1 ≤ h ∧ h ≤ 11) ∧ (x < 1 ∨ (¬ x < 1 ∧ 11 < x))) := by
  rcases hx with ⟨_, e⟩ | ⟨e, hv, h33, h31⟩ | ⟨e, hg, x0⟩
  · exact absurd e h0
  · by_cases q : 1 ≤ h ∧ h ≤ 11
    · exact Or.inl ⟨q.1, q.2, e⟩
    · subst e
      exact Or.inr ⟨q, Or.inr ⟨nI_nlt (b := 1) (by omega) h31, nI_lt (a := 11) (by omega) h31⟩⟩
  · subst e
    refine Or.inr ⟨by omega, ?_⟩
    by_cases q : x < 1
    · exact Or.inl q
    · refine Or.inr ⟨q, ?_⟩
      have a1 : ¬ x ≤ 13 := fun y => hg (Or.inl ⟨Int32.not_lt.mp q, y⟩)
      exact Int32.lt_of_le_of_lt (by decide : (11 : Int32) ≤ 13) (Int32.not_le.mp a1)
/-- the last token is a colon -/
theorem hs_colon {ts : List Nat} (h : 1 ≤ ts.length) : hs_hd (ts.drop (ts.length - 1)) = 25 ↔ ∃ r', ts = r' ++ [25] := by
  obtain ⟨A, x, e⟩ := hs_snoc ts (fun y => by rw [y] at h; simp at h)
  have hd : hs_hd (ts.drop (ts.length - 1)) = x := by
    have := hs_hdLast (E := []) e
    rw [List.append_nil] at this
    exact this
  rw [hd]
  constructor
  · intro y; exact ⟨A, by rw [e, y]⟩
  · rintro ⟨r', e'⟩
    rw [e] at e'
    have := congrArg List.getLast? e'
    simpa using this
theorem hs_xForm {pd LT : Nat → Int32} {c e R : Nat} {ts : List Nat} (hPA : hs_PA pd e c ts) (hne : ts ≠ []) (hz : ∀ x, x ∈ ts → x ≠ 0) (he : e ≤ 400) (hR : R + 14 ≤ 5670) (hT : LT (R + 11) = nI c) (hE : LT (R + 12) = nI e) (hprev : c = 0 ∨ ∃ t, 40 ≤ t ∧ t ≤ 48 ∧ pd (c - 1) = nI t) {post : Int32 → SX → Prop}
    (H1 : ts.length ≤ 40 → ∀ LT', hs_kp R LT' LT → hs_XF (LT' R) (LT' (R + 13)) (LT' (R + 5)) (LT' (R + 6)) (LT' (R + 7)) c ts → post 1 (x_objectLimit, x_stepLimit, x_depthLimit, x_pendingCount, x_keptTokens, x_keptLines, x_lineCount, x_codeCount, nI c, nI e, x_waitingCount, x_openCount, x_classCount, x_callCount, x_operandCount, x_stepsTaken, x_error, x_raisedCode, x_printCount, x_lastResult, x_lastPlace, pd, LT', x_code, x_waiting, x_globals, x_entries, x_orders, x_merging, x_letterClass, x_objectClass, x_attributes, x_calls, x_held, x_operands, x_lastPrints))
    (H0 : ¬ (ts.length ≤ 40 ∧ ∃ k f s t cd, hs_LF k f s t cd ts) → ∀ LT', hs_kp R LT' LT → post 0 (x_objectLimit, x_stepLimit, x_depthLimit, x_pendingCount, x_keptTokens, x_keptLines, x_lineCount, x_codeCount, nI c, nI e, x_waitingCount, x_openCount, x_classCount, x_callCount, x_operandCount, x_stepsTaken, x_error, x_raisedCode, x_printCount, x_lastResult, x_lastPlace, pd, LT', x_code, x_waiting, x_globals, x_entries, x_orders, x_merging, x_letterClass, x_objectClass, x_attributes, x_calls, x_held, x_operands, x_lastPrints)) : wpX_readForm post (x_objectLimit, x_stepLimit, x_depthLimit, x_pendingCount, x_keptTokens, x_keptLines, x_lineCount, x_codeCount, x_cursor, x_stop, x_waitingCount, x_openCount, x_classCount, x_callCount, x_operandCount, x_stepsTaken, x_error, x_raisedCode, x_printCount, x_lastResult, x_lastPlace, pd, LT, x_code, x_waiting, x_globals, x_entries, x_orders, x_merging, x_letterClass, x_objectClass, x_attributes, x_calls, x_held, x_operands, x_lastPrints) (nI R) := by
  have hlen := hs_PAlen hPA
  have hL1 : 1 ≤ ts.length := List.length_pos_iff.mpr hne
  have eL : nI e - nI c = nI ts.length := by rw [pk_sub (by omega)]; exact congrArg nI (by omega)
  have e0 : nI R + 0 = nI R := Int32.add_zero _
  have e5 : nI R + 5 = nI (R + 5) := nI_add R 5
  have e11 : nI R + 11 = nI (R + 11) := nI_add R 11
  have e12 : nI R + 12 = nI (R + 12) := nI_add R 12
  have e13 : nI R + 13 = nI (R + 13) := nI_add R 13
  have v0 : vp_in (nI R) 5670 := vp_in_nI (by omega) (by decide)
  have v5 : vp_in (nI (R + 5)) 5670 := vp_in_nI (by omega) (by decide)
  have v13 : vp_in (nI (R + 13)) 5670 := vp_in_nI (by omega) (by decide)
  have em1 : nI ts.length - 1 = nI (ts.length - 1) := pk_sub (b := 1) hL1
  unfold wpX_readForm
  rw [e11, e12, nI_clamp (show R + 11 < 2 ^ 31 by omega), nI_clamp (show R + 12 < 2 ^ 31 by omega)]
  refine And.intro (vp_in_nI (by omega) (by decide)) (nm_r hT (And.intro (vp_in_nI (by omega) (by decide)) (nm_r hE (nm_r eL (hs_xPeek 0 hPA he (by decide) (fun x hx => ?_))))))
  rw [em1]
  refine hs_xPeek (ts.length - 1) hPA he (by omega) (fun xl hxl => ?_)
  have el := hs_rxE (k := 25) hxl (Or.inr ⟨Or.inr (Or.inl (by decide)), by decide⟩) (by decide)
  have ecol := el.trans (hs_colon hL1)
  have main : ∀ z0 : Int32, (z0 = 0 ∨ z0 = 1) → (z0 = 0 ↔ ¬ ∃ r', ts = r' ++ [25]) → wX_readForm_59 post (nI R) (nI ts.length) x z0 x_objectLimit x_stepLimit x_depthLimit x_pendingCount x_keptTokens x_keptLines x_lineCount x_codeCount (nI c) (nI e) x_waitingCount x_openCount x_classCount x_callCount x_operandCount x_stepsTaken x_error x_raisedCode x_printCount x_lastResult x_lastPlace pd LT x_code x_waiting x_globals x_entries x_orders x_merging x_letterClass x_objectClass x_attributes x_calls x_held x_operands x_lastPrints := by
    intro z0 hz01 hz0
    have kp1 : hs_kp R (upd (upd LT R x) (R + 13) (-1)) LT := hs_kpU (hs_kpU hs_kpR (by omega)) (by omega)
    unfold wX_readForm_59 wX_readForm_159 wX_readForm_176 wX_readForm_194
    rw [e0, e5, e13, nI_clamp (show R < 2 ^ 31 by omega), nI_clamp (show R + 5 < 2 ^ 31 by omega), nI_clamp (show R + 13 < 2 ^ 31 by omega)]
    refine And.intro v0 (nm_e (And.intro v13 (nm_e (pk_le ts.length 40 (fun l40 => ?_) (fun l40 => H0 (fun y => by omega) _ kp1)))))
    cases ts with
    | nil => exact absurd rfl hne
    | cons h r =>
      have hx : hs_rx x h := hx
      have noLF : (∀ k f s t cd, ¬ hs_LF k f s t cd (h :: r)) → ¬ ((h :: r).length ≤ 40 ∧ ∃ k f s t cd, hs_LF k f s t cd (h :: r)) := by
        rintro hno ⟨_, k, f, s, t, cd, hL⟩
        exact hno k f s t cd hL
      have plain : ¬ (1 ≤ h ∧ h ≤ 11) → wpX_readPlainForm (fun r_88 u => match u with | (x_objectLimitq, x_stepLimitq, x_depthLimitq, x_pendingCountq, x_keptTokensq, x_keptLinesq, x_lineCountq, x_codeCountq, x_cursorq, x_stopq, x_waitingCountq, x_openCountq, x_classCountq, x_callCountq, x_operandCountq, x_stepsTakenq, x_errorq, x_raisedCodeq, x_printCountq, x_lastResultq, x_lastPlaceq, x_pendingq, x_lineTableq, x_codeq, x_waitingq, x_globalsq, x_entriesq, x_ordersq, x_mergingq, x_letterClassq, x_objectClassq, x_attributesq, x_callsq, x_heldq, x_operandsq, x_lastPrintsq) => (narrow .boolean (.int r_88) = .int r_88 ∧ (post r_88 (x_objectLimitq, x_stepLimitq, x_depthLimitq, x_pendingCountq, x_keptTokensq, x_keptLinesq, x_lineCountq, x_codeCountq, x_cursorq, x_stopq, x_waitingCountq, x_openCountq, x_classCountq, x_callCountq, x_operandCountq, x_stepsTakenq, x_errorq, x_raisedCodeq, x_printCountq, x_lastResultq, x_lastPlaceq, x_pendingq, x_lineTableq, x_codeq, x_waitingq, x_globalsq, x_entriesq, x_ordersq, x_mergingq, x_letterClassq, x_objectClassq, x_attributesq, x_callsq, x_heldq, x_operandsq, x_lastPrintsq)))) (x_objectLimit, x_stepLimit, x_depthLimit, x_pendingCount, x_keptTokens, x_keptLines, x_lineCount, x_codeCount, nI c, nI e, x_waitingCount, x_openCount, x_classCount, x_callCount, x_operandCount, x_stepsTaken, x_error, x_raisedCode, x_printCount, x_lastResult, x_lastPlace, pd, upd (upd LT R x) (R + 13) (-1), x_code, x_waiting, x_globals, x_entries, x_orders, x_merging, x_letterClass, x_objectClass, x_attributes, x_calls, x_held, x_operands, x_lastPrints) (nI R) := by
        intro hw
        refine hs_xPlain rfl hw hPA he hR hprev ?_ ?_ ?_ ?_ ?_
        · intro h26 LT' k1 k2 k3
          exact ⟨hs_narB (Or.inr rfl), H1 l40 LT' (fun k hk => (k1 k hk).trans (kp1 k hk)) ((hs_XFo hw).mpr (Or.inl ⟨k2, k3, h26⟩))⟩
        · intro n E eE hn LT' k1 k2 k3 k4
          exact ⟨hs_narB (Or.inr rfl), H1 l40 LT' (fun k hk => (k1 k hk).trans (kp1 k hk)) ((hs_XFo hw).mpr (Or.inr (Or.inl ⟨k2, k4, n, E, eE, hn, k3⟩)))⟩
        · intro q n E eE hq hn LT' k1 k2 k3 k4 k5
          exact ⟨hs_narB (Or.inr rfl), H1 l40 LT' (fun k hk => (k1 k hk).trans (kp1 k hk)) ((hs_XFo hw).mpr (Or.inr (Or.inr (Or.inl ⟨k2, k5, q, n, E, eE, hq, hn, k3, k4⟩))))⟩
        · intro A n E eE hA hAn hn hno LT' k1 k2 k3 k4
          exact ⟨hs_narB (Or.inr rfl), H1 l40 LT' (fun k hk => (k1 k hk).trans (kp1 k hk)) ((hs_XFo hw).mpr (Or.inr (Or.inr (Or.inr ⟨k2, A, n, E, eE, hA, hAn, hn, hno, k3, k4⟩))))⟩
        · intro hno LT' k1
          exact ⟨hs_narB (Or.inl rfl), H0 (noLF hno) LT' (fun k hk => (k1 k hk).trans (kp1 k hk))⟩
      rcases hs_rxW hx (hz h (by simp)) with ⟨w1, w2, ex⟩ | ⟨hw, hx1 | ⟨hx1, hx2⟩⟩
      rotate_left
      · exact br_t hx1 (plain hw)
      · exact br_f hx1 (br_t hx2 (plain hw))
      subst ex
      have c0 : upd (upd LT R (nI h)) (R + 13) (-1) R = nI h := by rw [pk_un (by omega), pk_us]
      have c13 : upd (upd LT R (nI h)) (R + 13) (-1) (R + 13) = -1 := pk_us
      have exc : nI c + 1 = nI (c + 1) := nI_1 c
      rw [exc]
      have kp2 : hs_kp R (upd (upd (upd LT R (nI h)) (R + 13) (-1)) (R + 13) (nI (c + 1))) LT := hs_kpU kp1 (by omega)
      have d0 : upd (upd (upd LT R (nI h)) (R + 13) (-1)) (R + 13) (nI (c + 1)) R = nI h := by rw [pk_un (by omega), c0]
      have d13 : upd (upd (upd LT R (nI h)) (R + 13) (-1)) (R + 13) (nI (c + 1)) (R + 13) = nI (c + 1) := pk_us
      have ccons : ∀ r', h :: r = r' ++ [25] → h ≠ 25 → ∃ r2, r = r2 ++ [25] := by
        intro r' er hh
        cases r' with
        | nil => exact absurd (List.cons.inj er).1 hh
        | cons a r2 => exact ⟨r2, (List.cons.inj er).2⟩
      have hh : h = 1 ∨ h = 2 ∨ h = 3 ∨ h = 4 ∨ h = 5 ∨ h = 6 ∨ h = 7 ∨ h = 8 ∨ h = 9 ∨ h = 10 ∨ h = 11 := by omega
      rcases hh with rfl | rfl | rfl | rfl | rfl | rfl | rfl | rfl | rfl | rfl | rfl
      · refine br_f (nI_nlt (b := 1) (by decide) (by decide)) (br_f (nI_nlt (a := 11) (by decide) (by decide)) (br_t rfl (hs_xClassH rfl hPA he hR (fun LT2 k1 k2 k3 hC => ⟨hs_narB (Or.inr rfl), ?_⟩) (fun hC LT2 k1 => ⟨hs_narB (Or.inl rfl), ?_⟩))))
        · exact H1 l40 LT2 (fun k hk => (k1 k hk).trans (kp1 k hk)) ⟨k2.trans c0, k3.trans c13, hC⟩
        · refine H0 (noLF (fun k f s t cd hL => ?_)) LT2 (fun k hk => (k1 k hk).trans (kp1 k hk))
          have hL : k = 1 ∧ cd = [] ∧ hs_CH f s t r := hL
          exact hC f s t hL.2.2
      · refine br_f (nI_nlt (b := 1) (by decide) (by decide)) (br_f (nI_nlt (a := 11) (by decide) (by decide)) (br_f (hs_ne (a := 2) (b := 1) (by decide) (by decide) (by decide)) (br_t rfl (hs_xDefH rfl hPA he hR (fun LT2 k1 k2 k3 hC => ⟨hs_narB (Or.inr rfl), ?_⟩) (fun hC LT2 k1 => ⟨hs_narB (Or.inl rfl), ?_⟩)))))
        · exact H1 l40 LT2 (fun k hk => (k1 k hk).trans (kp1 k hk)) ⟨k2.trans c0, k3.trans c13, hC⟩
        · refine H0 (noLF (fun k f s t cd hL => ?_)) LT2 (fun k hk => (k1 k hk).trans (kp1 k hk))
          have hL : k = 2 ∧ cd = [] ∧ hs_DH f s t r := hL
          exact hC f s t hL.2.2
      · exact br_f (nI_nlt (b := 1) (by decide) (by decide)) (br_f (nI_nlt (a := 11) (by decide) (by decide)) (br_f (hs_ne (a := 3) (b := 1) (by decide) (by decide) (by decide)) (br_f (hs_ne (a := 3) (b := 2) (by decide) (by decide) (by decide)) (br_t rfl (And.intro v13 (nm_e (H1 l40 _ kp2 ⟨d0, d13⟩)))))))
      · refine br_f (nI_nlt (b := 1) (by decide) (by decide)) (br_f (nI_nlt (a := 11) (by decide) (by decide)) (br_f (hs_ne (a := 4) (b := 1) (by decide) (by decide) (by decide)) (br_f (hs_ne (a := 4) (b := 2) (by decide) (by decide) (by decide)) (br_f (hs_ne (a := 4) (b := 3) (by decide) (by decide) (by decide)) (br_t rfl (And.intro v13 (nm_e ⟨hs_narB hz01, ?_⟩)))))))
        rcases hz01 with z | z
        · subst z
          refine H0 (noLF (fun k f s t cd hL => hz0.mp rfl ?_)) _ kp2
          obtain ⟨_, r', er, _⟩ : k = nI 4 ∧ ∃ r', r = r' ++ [25] ∧ hs_S false r' true [] cd [] [] := hL
          exact ⟨4 :: r', by rw [er]; rfl⟩
        · subst z
          have yes : ∃ r', 4 :: r = r' ++ [25] := Classical.byContradiction fun y => absurd (hz0.mpr y) (by decide)
          obtain ⟨r', er⟩ := yes
          exact H1 l40 _ kp2 ⟨d0, d13, ccons r' er (by decide)⟩
      · refine br_f (nI_nlt (b := 1) (by decide) (by decide)) (br_f (nI_nlt (a := 11) (by decide) (by decide)) (br_f (hs_ne (a := 5) (b := 1) (by decide) (by decide) (by decide)) (br_f (hs_ne (a := 5) (b := 2) (by decide) (by decide) (by decide)) (br_f (hs_ne (a := 5) (b := 3) (by decide) (by decide) (by decide)) (br_f (hs_ne (a := 5) (b := 4) (by decide) (by decide) (by decide)) (br_t rfl (pk_eq (5 :: r).length 2 (fun l2 => ?_) (fun l2 => H0 (noLF (fun k f s t cd hL => ?_)) _ kp1))))))))
        · refine br_c (fun z => H0 (noLF (fun k f s t cd hL => hz0.mp z ?_)) _ kp1) (fun z => H1 l40 _ kp1 ⟨c0, c13, ?_⟩)
          · have hL : k = nI 5 ∧ r = [25] ∧ cd = [] := hL
            exact ⟨[5], by rw [hL.2.1]; rfl⟩
          · have yes : ∃ r', 5 :: r = r' ++ [25] := Classical.byContradiction fun y => z (hz0.mpr y)
            obtain ⟨r', er⟩ := yes
            obtain ⟨r2, er2⟩ := ccons r' er (by decide)
            rw [er2] at l2 ⊢
            have : r2 = [] := List.length_eq_zero_iff.mp (by simp only [List.length_cons, List.length_append, List.length_nil] at l2; omega)
            rw [this]; rfl
        · have hL : k = nI 5 ∧ r = [25] ∧ cd = [] := hL
          rw [hL.2.1] at l2; exact l2 rfl
      · refine br_f (nI_nlt (b := 1) (by decide) (by decide)) (br_f (nI_nlt (a := 11) (by decide) (by decide)) (br_f (hs_ne (a := 6) (b := 1) (by decide) (by decide) (by decide)) (br_f (hs_ne (a := 6) (b := 2) (by decide) (by decide) (by decide)) (br_f (hs_ne (a := 6) (b := 3) (by decide) (by decide) (by decide)) (br_f (hs_ne (a := 6) (b := 4) (by decide) (by decide) (by decide)) (br_f (hs_ne (a := 6) (b := 5) (by decide) (by decide) (by decide)) (br_t rfl (And.intro v13 (nm_e ⟨hs_narB hz01, ?_⟩)))))))))
        rcases hz01 with z | z
        · subst z
          refine H0 (noLF (fun k f s t cd hL => hz0.mp rfl ?_)) _ kp2
          obtain ⟨_, r', er, _⟩ : k = nI 6 ∧ ∃ r', r = r' ++ [25] ∧ hs_S false r' true [] cd [] [] := hL
          exact ⟨6 :: r', by rw [er]; rfl⟩
        · subst z
          have yes : ∃ r', 6 :: r = r' ++ [25] := Classical.byContradiction fun y => absurd (hz0.mpr y) (by decide)
          obtain ⟨r', er⟩ := yes
          exact H1 l40 _ kp2 ⟨d0, d13, ccons r' er (by decide)⟩
      · refine br_f (nI_nlt (b := 1) (by decide) (by decide)) (br_f (nI_nlt (a := 11) (by decide) (by decide)) (br_f (hs_ne (a := 7) (b := 1) (by decide) (by decide) (by decide)) (br_f (hs_ne (a := 7) (b := 2) (by decide) (by decide) (by decide)) (br_f (hs_ne (a := 7) (b := 3) (by decide) (by decide) (by decide)) (br_f (hs_ne (a := 7) (b := 4) (by decide) (by decide) (by decide)) (br_f (hs_ne (a := 7) (b := 5) (by decide) (by decide) (by decide)) (br_f (hs_ne (a := 7) (b := 6) (by decide) (by decide) (by decide)) (br_t rfl (pk_eq (7 :: r).length 2 (fun l2 => ?_) (fun l2 => H0 (noLF (fun k f s t cd hL => ?_)) _ kp1))))))))))
        · refine br_c (fun z => H0 (noLF (fun k f s t cd hL => hz0.mp z ?_)) _ kp1) (fun z => H1 l40 _ kp1 ⟨c0, c13, ?_⟩)
          · have hL : k = nI 7 ∧ r = [25] ∧ cd = [] := hL
            exact ⟨[7], by rw [hL.2.1]; rfl⟩
          · have yes : ∃ r', 7 :: r = r' ++ [25] := Classical.byContradiction fun y => z (hz0.mpr y)
            obtain ⟨r', er⟩ := yes
            obtain ⟨r2, er2⟩ := ccons r' er (by decide)
            rw [er2] at l2 ⊢
            have : r2 = [] := List.length_eq_zero_iff.mp (by simp only [List.length_cons, List.length_append, List.length_nil] at l2; omega)
            rw [this]; rfl
        · have hL : k = nI 7 ∧ r = [25] ∧ cd = [] := hL
          rw [hL.2.1] at l2; exact l2 rfl
      · refine br_f (nI_nlt (b := 1) (by decide) (by decide)) (br_f (nI_nlt (a := 11) (by decide) (by decide)) (br_f (hs_ne (a := 8) (b := 1) (by decide) (by decide) (by decide)) (br_f (hs_ne (a := 8) (b := 2) (by decide) (by decide) (by decide)) (br_f (hs_ne (a := 8) (b := 3) (by decide) (by decide) (by decide)) (br_f (hs_ne (a := 8) (b := 4) (by decide) (by decide) (by decide)) (br_f (hs_ne (a := 8) (b := 5) (by decide) (by decide) (by decide)) (br_f (hs_ne (a := 8) (b := 6) (by decide) (by decide) (by decide)) (br_f (hs_ne (a := 8) (b := 7) (by decide) (by decide) (by decide)) (br_t rfl (hs_xPeek 1 hPA he (by decide) (fun xn hxn => And.intro v5 (nm_e ?_))))))))))))
        have kp3 := hs_kpU (j := R + 5) (x := xn - 100) kp1 (by omega)
        have shp : ∀ k f s t cd, hs_LF k f s t cd (8 :: r) → ∃ n, r = [n, 25] ∧ hs_isN n = true := by
          intro k f s t cd hL
          obtain ⟨_, _, n, er, hn, _⟩ : k = 8 ∧ cd = [] ∧ ∃ n, r = [n, 25] ∧ hs_isN n = true ∧ f = nI (n - 100) := hL
          exact ⟨n, er, hn⟩
        refine pk_eq (8 :: r).length 3 (fun l3 => ?_) (fun l3 => H0 (noLF (fun k f s t cd hL => ?_)) _ kp3)
        · refine br_c (fun z => H0 (noLF (fun k f s t cd hL => hz0.mp z ?_)) _ kp3) (fun z => ?_)
          · obtain ⟨n, er, _⟩ := shp k f s t cd hL
            exact ⟨[8, n], by rw [er]; rfl⟩
          · have hxn : hs_rx xn (hs_hd r) := hxn
            refine hs_xFromN hxn (fun hn exn => br_f (by decide) ?_) (fun hn => br_t rfl (H0 (noLF (fun k f s t cd hL => ?_)) _ kp3))
            · have yes : ∃ r', 8 :: r = r' ++ [25] := Classical.byContradiction fun y => z (hz0.mpr y)
              obtain ⟨r', er⟩ := yes
              obtain ⟨r2, er2⟩ := ccons r' er (by decide)
              have tn := hs_tkN hn
              refine H1 l40 _ kp3 ⟨?_, ?_, hs_hd r, ?_, hn, ?_⟩
              · rw [pk_un (by omega), c0]; rfl
              · rw [pk_un (by omega), c13]
              · rw [er2] at l3 ⊢
                have l1 : r2.length = 1 := by simp only [List.length_cons, List.length_append, List.length_nil] at l3; omega
                match r2, l1 with
                | [a], _ => rfl
              · rw [pk_us, exn]; exact pk_sub (b := 100) (by omega)
            · obtain ⟨n, er, hn'⟩ := shp k f s t cd hL
              rw [er] at hn
              have hn : hs_isN n = false := hn
              rw [hn'] at hn; cases hn
        · obtain ⟨n, er, _⟩ := shp k f s t cd hL
          rw [er] at l3; exact l3 rfl
      · exact br_f (nI_nlt (b := 1) (by decide) (by decide)) (br_f (nI_nlt (a := 11) (by decide) (by decide)) (br_f (hs_ne (a := 9) (b := 1) (by decide) (by decide) (by decide)) (br_f (hs_ne (a := 9) (b := 2) (by decide) (by decide) (by decide)) (br_f (hs_ne (a := 9) (b := 3) (by decide) (by decide) (by decide)) (br_f (hs_ne (a := 9) (b := 4) (by decide) (by decide) (by decide)) (br_f (hs_ne (a := 9) (b := 5) (by decide) (by decide) (by decide)) (br_f (hs_ne (a := 9) (b := 6) (by decide) (by decide) (by decide)) (br_f (hs_ne (a := 9) (b := 7) (by decide) (by decide) (by decide)) (br_f (hs_ne (a := 9) (b := 8) (by decide) (by decide) (by decide)) (br_t rfl (And.intro v13 (nm_e (H1 l40 _ kp2 ⟨d0, d13⟩)))))))))))))
      · refine br_f (nI_nlt (b := 1) (by decide) (by decide)) (br_f (nI_nlt (a := 11) (by decide) (by decide)) (br_f (hs_ne (a := 10) (b := 1) (by decide) (by decide) (by decide)) (br_f (hs_ne (a := 10) (b := 2) (by decide) (by decide) (by decide)) (br_f (hs_ne (a := 10) (b := 3) (by decide) (by decide) (by decide)) (br_f (hs_ne (a := 10) (b := 4) (by decide) (by decide) (by decide)) (br_f (hs_ne (a := 10) (b := 5) (by decide) (by decide) (by decide)) (br_f (hs_ne (a := 10) (b := 6) (by decide) (by decide) (by decide)) (br_f (hs_ne (a := 10) (b := 7) (by decide) (by decide) (by decide)) (br_f (hs_ne (a := 10) (b := 8) (by decide) (by decide) (by decide)) (br_f (hs_ne (a := 10) (b := 9) (by decide) (by decide) (by decide)) (br_t rfl (pk_eq (10 :: r).length 1 (fun l1 => H1 l40 _ kp1 ⟨c0, c13, ?_⟩) (fun l1 => H0 (noLF (fun k f s t cd hL => ?_)) _ kp1)))))))))))))
        · exact List.length_eq_zero_iff.mp (by simp at l1; exact congrArg List.length l1)
        · have hL : k = 10 ∧ r = [] ∧ cd = [] := hL
          rw [hL.2.1] at l1; exact l1 rfl
      · exact br_f (nI_nlt (b := 1) (by decide) (by decide)) (br_f (nI_nlt (a := 11) (by decide) (by decide)) (br_f (hs_ne (a := 11) (b := 1) (by decide) (by decide) (by decide)) (br_f (hs_ne (a := 11) (b := 2) (by decide) (by decide) (by decide)) (br_f (hs_ne (a := 11) (b := 3) (by decide) (by decide) (by decide)) (br_f (hs_ne (a := 11) (b := 4) (by decide) (by decide) (by decide)) (br_f (hs_ne (a := 11) (b := 5) (by decide) (by decide) (by decide)) (br_f (hs_ne (a := 11) (b := 6) (by decide) (by decide) (by decide)) (br_f (hs_ne (a := 11) (b := 7) (by decide) (by decide) (by decide)) (br_f (hs_ne (a := 11) (b := 8) (by decide) (by decide) (by decide)) (br_f (hs_ne (a := 11) (b := 9) (by decide) (by decide) (by decide)) (br_f (hs_ne (a := 11) (b := 10) (by decide) (by decide) (by decide)) (br_t rfl (And.intro v13 (nm_e (H1 l40 _ kp2 ⟨d0, d13⟩)))))))))))))))
  refine br_c (fun q => main 1 (Or.inr rfl) ⟨fun y => absurd y (by decide), fun y => absurd (ecol.mp q) y⟩) (fun q => main 0 (Or.inl rfl) ⟨fun _ y => q (ecol.mpr y), fun _ => rfl⟩)
end
end
section
/-! where a line may stand, on X's side -/
section
variable {x_objectLimit x_stepLimit x_depthLimit x_pendingCount x_keptTokens x_keptLines x_lineCount x_codeCount x_cursor x_stop x_waitingCount x_openCount x_classCount x_callCount x_operandCount x_stepsTaken x_error x_raisedCode x_printCount x_lastPlace : Int32} {x_lastResult : Int64} {x_pending x_lineTable x_orders x_merging x_letterClass x_objectClass x_calls x_lastPrints : Nat → Int32} {x_code x_waiting x_globals x_entries x_attributes x_held x_operands : Nat → Int64}
variable {y_maxObjects y_maxSteps y_maxDepth y_kept y_end y_tokens y_pending y_lines y_classes y_prints y_place y_steps y_d y_valTop y_opTop y_opens y_pos y_tk y_tv y_stmt y_target y_err y_code y_outcome y_dry y_want y_starting y_ended y_bad y_hosted y_sawSuper : Int32} {y_result : Int64} {y_text y_numbers y_classOf y_alive y_orders y_lengths y_letters y_bases y_ops y_fLine y_fPos y_fStmt y_fTarget y_fMask y_fHome y_fOps y_fVals y_fNew y_out : Nat → Int32} {y_globals y_entries y_attrs y_vals y_locals y_fRecv : Nat → Int64}
/-- a kind of X against the first token -/
def hs_kd (k : Int32) (h : Nat) : Prop := (1 ≤ h ∧ h ≤ 11 ∧ k = nI h) ∨ (¬ (1 ≤ h ∧ h ≤ 11) ∧ (k = 14 ∨ k = 15 ∨ k = 16 ∨ k = 17))
theorem hs_kdE {k : Int32} {h w : Nat} (hk : hs_kd k h) (hw : 1 ≤ w ∧ w ≤ 11) : k = nI w ↔ h = w := by
  rcases hk with ⟨a, b, rfl⟩ | ⟨a, b⟩
  · exact nI_eq (by omega) (by omega)
  · refine ⟨fun e => ?_, fun e => absurd (by omega) a⟩
    exfalso
    rcases b with b | b | b | b
    · rw [b] at e; exact absurd ((nI_eq (a := 14) (b := w) (by decide) (by omega)).mp e) (by omega)
    · rw [b] at e; exact absurd ((nI_eq (a := 15) (b := w) (by decide) (by omega)).mp e) (by omega)
    · rw [b] at e; exact absurd ((nI_eq (a := 16) (b := w) (by decide) (by omega)).mp e) (by omega)
    · rw [b] at e; exact absurd ((nI_eq (a := 17) (b := w) (by decide) (by omega)).mp e) (by omega)
theorem hs_xIsOp {k : Int32} {h : Nat} (hk : hs_kd k h) {post : Int32 → Prop} (H1 : hs_isOp h → post 1) (H0 : ¬ hs_isOp h → post 0) : wpX_isOpener post k := by
  have E := fun w hw => hs_kdE (w := w) hk hw
  have n : ∀ w, 1 ≤ w ∧ w ≤ 11 → ¬ k = nI w → h ≠ w := fun w hw q e => q ((E w hw).mpr e)
  unfold wpX_isOpener
  refine br_c (fun q => H1 (Or.inl ((E 1 (by decide)).mp q))) (fun a1 => br_c (fun q => H1 (Or.inr (Or.inl ((E 2 (by decide)).mp q)))) (fun a2 => br_c (fun q => H1 (Or.inr (Or.inr (by have := (E 4 (by decide)).mp q; omega)))) (fun a4 => br_c (fun q => H1 (Or.inr (Or.inr (by have := (E 5 (by decide)).mp q; omega)))) (fun a5 => br_c (fun q => H1 (Or.inr (Or.inr (by have := (E 6 (by decide)).mp q; omega)))) (fun a6 => br_c (fun q => H1 (Or.inr (Or.inr (by have := (E 7 (by decide)).mp q; omega)))) (fun a7 => ?_))))))
  have r8 : (k = 8 → hs_isOp h) := fun q => Or.inr (Or.inr (by have := (E 8 (by decide)).mp q; omega))
  have n1 := n 1 (by decide) a1
  have n2 := n 2 (by decide) a2
  have n4 := n 4 (by decide) a4
  have n5 := n 5 (by decide) a5
  have n6 := n 6 (by decide) a6
  have n7 := n 7 (by decide) a7
  first
    | exact br_c (fun q => H1 (r8 q)) (fun a8 => H0 (by
        have n8 := n 8 (by decide) a8
        rintro (q | q | q) <;> omega))
/-- the table holds the indents and kinds of the lines a .. m - 1 -/
def hs_IK (LT : Nat → Int32) (h ind : Nat → Nat) (a m : Nat) : Prop := ∀ j, a ≤ j → j < m → LT (j * 14 + 1) = nI (ind j) ∧ hs_kd (LT (j * 14)) (h j) ∧ ind j ≤ 8
theorem hs_xOfM {c : Nat} {post : Int32 → Prop} (H : post (-1)) : wpX_ofLine post (x_objectLimit, x_stepLimit, x_depthLimit, x_pendingCount, x_keptTokens, x_keptLines, x_lineCount, x_codeCount, x_cursor, x_stop, x_waitingCount, x_openCount, x_classCount, x_callCount, x_operandCount, x_stepsTaken, x_error, x_raisedCode, x_printCount, x_lastResult, x_lastPlace, x_pending, x_lineTable, x_code, x_waiting, x_globals, x_entries, x_orders, x_merging, x_letterClass, x_objectClass, x_attributes, x_calls, x_held, x_operands, x_lastPrints) (-1) (nI c) := br_f (by decide) H
theorem hs_xOf {LT : Nat → Int32} {i c : Nat} (hi : i * 14 + c < 5670) {post : Int32 → Prop} (H : post (LT (i * 14 + c))) : wpX_ofLine post (x_objectLimit, x_stepLimit, x_depthLimit, x_pendingCount, x_keptTokens, x_keptLines, x_lineCount, x_codeCount, x_cursor, x_stop, x_waitingCount, x_openCount, x_classCount, x_callCount, x_operandCount, x_stepsTaken, x_error, x_raisedCode, x_printCount, x_lastResult, x_lastPlace, x_pending, LT, x_code, x_waiting, x_globals, x_entries, x_orders, x_merging, x_letterClass, x_objectClass, x_attributes, x_calls, x_held, x_operands, x_lastPrints) (nI i) (nI c) := by
  have e : nI i * 14 + nI c = nI (i * 14 + c) := hs_ixMul i 14 c
  refine br_t (nI_pos' (by omega)) ?_
  rw [e, nI_clamp (show i * 14 + c < 2 ^ 31 by omega)]
  exact And.intro (vp_in_nI hi (by decide)) H
theorem hs_m1lt {a : Nat} (h : a < 2 ^ 31) : nI 0 - 1 < nI a := by
  have e : nI 0 - 1 = (-1 : Int32) := by decide
  have e1 : (-1 : Int32).toInt = -1 := by decide
  rw [e, Int32.lt_iff_toInt_lt, nI_toInt h, e1]
  omega
theorem hs_xLnd0 {LT : Nat → Int32} {h ind : Nat → Nat} {a m y : Nat} (ha : a ≤ 405) (hm : m ≤ 405) (hy : y ≤ 100) (K : hs_IK LT h ind a m) {post : Int32 → Prop} :
    ∀ (j n : Nat), j ≤ m → j < n → post (hs_oI (hs_lf ind y a j)) → ∀ x4 : Int32, x4 = nI j - 1 → wX_lastNotDeeper_5 post (nI a) (nI y) x_objectLimit x_stepLimit x_depthLimit x_pendingCount x_keptTokens x_keptLines x_lineCount x_codeCount x_cursor x_stop x_waitingCount x_openCount x_classCount x_callCount x_operandCount x_stepsTaken x_error x_raisedCode x_printCount x_lastResult x_lastPlace x_pending LT x_code x_waiting x_globals x_entries x_orders x_merging x_letterClass x_objectClass x_attributes x_calls x_held x_operands x_lastPrints n x4 := by
  intro j
  induction j with
  | zero =>
    intro n _ hn hp x4 e
    obtain ⟨k, rfl⟩ : ∃ k, n = k + 1 := ⟨n - 1, by omega⟩
    subst e
    exact br_t (hs_m1lt (by omega)) hp
  | succ j ih =>
    intro n hj hn hp x4 e
    obtain ⟨k, rfl⟩ : ∃ k, n = k + 1 := ⟨n - 1, by omega⟩
    have e' : x4 = nI j := by rw [e, nI_pred]
    subst e'
    refine pk_lt j a (fun q => ?_) (fun q => ?_)
    · have : hs_lf ind y a (j + 1) = none := by
        show (if j < a then none else _) = none
        rw [if_pos q]
      rw [this] at hp
      exact hp
    · obtain ⟨k1, k2, k3⟩ := K j q (by omega)
      have ix : nI j * 14 + 1 = nI (j * 14 + 1) := hs_ixMul j 14 1
      rw [ix, nI_clamp (show j * 14 + 1 < 2 ^ 31 by omega), k1]
      refine And.intro (vp_in_nI (by omega) (by decide)) ?_
      rw [hs_lfSucc q] at hp
      refine pk_lt y (ind j) (fun q2 => nm_e (ih k (by omega) (by omega) ?_ _ ?_)) (fun q2 => ?_)
      · rw [if_neg (by omega)] at hp; exact hp
      · rw [Int32.sub_eq_add_neg]
      · rw [if_pos q2] at hp; exact hp
theorem hs_xLnd {LT : Nat → Int32} {h ind : Nat → Nat} {a i y : Nat} (ha : a ≤ 405) (hm : i ≤ 405) (hy : y ≤ 100) (K : hs_IK LT h ind a i) {post : Int32 → Prop} (hp : post (hs_oI (hs_lf ind y a i))) : wpX_lastNotDeeper post (x_objectLimit, x_stepLimit, x_depthLimit, x_pendingCount, x_keptTokens, x_keptLines, x_lineCount, x_codeCount, x_cursor, x_stop, x_waitingCount, x_openCount, x_classCount, x_callCount, x_operandCount, x_stepsTaken, x_error, x_raisedCode, x_printCount, x_lastResult, x_lastPlace, x_pending, LT, x_code, x_waiting, x_globals, x_entries, x_orders, x_merging, x_letterClass, x_objectClass, x_attributes, x_calls, x_held, x_operands, x_lastPrints) (nI i) (nI a) (nI y) :=
  nm_e ⟨i + 1, hs_xLnd0 ha hm hy K i (i + 1) (Nat.le_refl _) (by omega) hp _ rfl⟩
theorem hs_xLndM0 {LT : Nat → Int32} {h ind : Nat → Nat} {a m : Nat} (ha : a ≤ 405) (hm : m ≤ 405) (K : hs_IK LT h ind a m) {post : Int32 → Prop} (hp : post (-1)) :
    ∀ (j n : Nat), j ≤ m → j < n → ∀ x4 : Int32, x4 = nI j - 1 → wX_lastNotDeeper_5 post (nI a) (-1) x_objectLimit x_stepLimit x_depthLimit x_pendingCount x_keptTokens x_keptLines x_lineCount x_codeCount x_cursor x_stop x_waitingCount x_openCount x_classCount x_callCount x_operandCount x_stepsTaken x_error x_raisedCode x_printCount x_lastResult x_lastPlace x_pending LT x_code x_waiting x_globals x_entries x_orders x_merging x_letterClass x_objectClass x_attributes x_calls x_held x_operands x_lastPrints n x4 := by
  intro j
  induction j with
  | zero =>
    intro n _ hn x4 e
    obtain ⟨k, rfl⟩ : ∃ k, n = k + 1 := ⟨n - 1, by omega⟩
    subst e
    exact br_t (hs_m1lt (by omega)) hp
  | succ j ih =>
    intro n hj hn x4 e
    obtain ⟨k, rfl⟩ : ∃ k, n = k + 1 := ⟨n - 1, by omega⟩
    have e' : x4 = nI j := by rw [e, nI_pred]
    subst e'
    refine pk_lt j a (fun q => hp) (fun q => ?_)
    obtain ⟨k1, k2, k3⟩ := K j q (by omega)
    have ix : nI j * 14 + 1 = nI (j * 14 + 1) := hs_ixMul j 14 1
    rw [ix, nI_clamp (show j * 14 + 1 < 2 ^ 31 by omega), k1]
    refine And.intro (vp_in_nI (by omega) (by decide)) (br_t ?_ (nm_e (ih k (by omega) (by omega) _ ?_)))
    · have e1 : nI 0 - 1 = (-1 : Int32) := by decide
      rw [← e1]; exact hs_m1lt (by omega)
    · rw [Int32.sub_eq_add_neg]
theorem hs_xPar {LT : Nat → Int32} {h ind : Nat → Nat} {a i : Nat} (ha : a ≤ 405) (hm : i ≤ 405) (hi8 : ind i ≤ 8) (K : hs_IK LT h ind a i) {post : Int32 → Prop} (hp : post (hs_oI (hs_pa ind a i))) : wpX_lastNotDeeper post (x_objectLimit, x_stepLimit, x_depthLimit, x_pendingCount, x_keptTokens, x_keptLines, x_lineCount, x_codeCount, x_cursor, x_stop, x_waitingCount, x_openCount, x_classCount, x_callCount, x_operandCount, x_stepsTaken, x_error, x_raisedCode, x_printCount, x_lastResult, x_lastPlace, x_pending, LT, x_code, x_waiting, x_globals, x_entries, x_orders, x_merging, x_letterClass, x_objectClass, x_attributes, x_calls, x_held, x_operands, x_lastPrints) (nI i) (nI a) (nI (ind i) - 1) := by
  unfold hs_pa at hp
  by_cases z : ind i = 0
  · rw [if_pos z] at hp
    have e1 : nI (ind i) - 1 = (-1 : Int32) := by rw [z]; decide
    rw [e1]
    exact nm_e ⟨i + 1, hs_xLndM0 ha hm K hp i (i + 1) (Nat.le_refl _) (by omega) _ rfl⟩
  · rw [if_neg z] at hp
    have e1 : nI (ind i) - 1 = nI (ind i - 1) := pk_sub (b := 1) (by omega)
    rw [e1]
    exact hs_xLnd ha hm (by omega) K hp
theorem hs_xIndent {LT : Nat → Int32} {h ind : Nat → Nat} {a i : Nat} (hai : a ≤ i) (hm : i < 405) (K : hs_IK LT h ind a (i + 1)) {post : Int32 → Prop} (H1 : hs_ir h ind a i → post 1) (H0 : ¬ hs_ir h ind a i → post 0) : wpX_indentIsRight post (x_objectLimit, x_stepLimit, x_depthLimit, x_pendingCount, x_keptTokens, x_keptLines, x_lineCount, x_codeCount, x_cursor, x_stop, x_waitingCount, x_openCount, x_classCount, x_callCount, x_operandCount, x_stepsTaken, x_error, x_raisedCode, x_printCount, x_lastResult, x_lastPlace, x_pending, LT, x_code, x_waiting, x_globals, x_entries, x_orders, x_merging, x_letterClass, x_objectClass, x_attributes, x_calls, x_held, x_operands, x_lastPrints) (nI i) (nI a) := by
  obtain ⟨k1, k2, k3⟩ := K i hai (by omega)
  have K' : hs_IK LT h ind a i := fun j j1 j2 => K j j1 (by omega)
  unfold wpX_indentIsRight
  refine hs_xOf (c := 1) (by omega) (hs_xOf (c := 0) (by omega) ?_)
  rw [k1]
  refine hs_xLnd (by omega) (by omega) (by omega) K' ?_
  -- the line above
  have f91 : ∀ z : Int32, (z = 0 ↔ ¬ hs_lv ind a i) → (h i = 5 → hs_lvW h ind a i 4) → (h i = 8 → hs_lvW h ind a i 7) → wX_indentIsRight_91 post (nI i) (nI a) (nI (ind i)) z x_objectLimit x_stepLimit x_depthLimit x_pendingCount x_keptTokens x_keptLines x_lineCount x_codeCount x_cursor x_stop x_waitingCount x_openCount x_classCount x_callCount x_operandCount x_stepsTaken x_error x_raisedCode x_printCount x_lastResult x_lastPlace x_pending LT x_code x_waiting x_globals x_entries x_orders x_merging x_letterClass x_objectClass x_attributes x_calls x_held x_operands x_lastPrints := by
    intro z hz g5 g8
    unfold wX_indentIsRight_91
    refine pk_eq i a (fun e => pk_eq (ind i) 0 (fun e0 => H1 ⟨fun _ => e0, fun y => by omega, fun y => by omega, g5, g8⟩) (fun e0 => H0 (fun y => e0 (y.1 e)))) (fun e => ?_)
    obtain ⟨j, rfl⟩ : ∃ j, i = j + 1 := ⟨i - 1, by omega⟩
    obtain ⟨m1, m2, m3⟩ := K j (by omega) (by omega)
    have ex : (nI (j + 1) - 1) * 14 = nI (j * 14) := by rw [nI_pred]; exact pk_mul j 14
    have e1 : nI (j * 14) + 1 = nI (j * 14 + 1) := nI_1 _
    have e0 : nI (j * 14) + 0 = nI (j * 14) := Int32.add_zero _
    refine nm_r ex ?_
    rw [e0, e1, nI_clamp (show j * 14 < 2 ^ 31 by omega), nI_clamp (show j * 14 + 1 < 2 ^ 31 by omega), m1]
    have v1 : vp_in (nI (j * 14 + 1)) 5670 := vp_in_nI (by omega) (by decide)
    refine And.intro (vp_in_nI (by omega) (by decide)) (hs_xIsOp m2 (fun op => br_f (by decide) (And.intro v1 ?_)) (fun op => br_t rfl (And.intro v1 ?_)))
    · exact pk_le (ind (j + 1)) (ind j) (fun q => H0 (fun y => by have := y.2.1 (by omega) op; have e : ind (j + 1 - 1) = ind j := rfl; omega)) (fun q => H1 ⟨fun y => absurd y e, fun _ _ => q, fun _ y => absurd op y, g5, g8⟩)
    · refine pk_lt (ind j) (ind (j + 1)) (fun q => H0 (fun y => by have := (y.2.2.1 (by omega) op).1; have e : ind (j + 1 - 1) = ind j := rfl; omega)) (fun q => br_c (fun zz => H0 (fun y => hz.mp zz (y.2.2.1 (by omega) op).2)) (fun zz => H1 ⟨fun y => absurd y e, fun _ y => absurd y op, fun _ _ => ⟨q, Classical.byContradiction fun y => zz (hz.mpr y)⟩, g5, g8⟩))
  have f49 : ∀ (x6 z : Int32), (z = 0 ↔ ¬ hs_lv ind a i) → (¬ z = 0 → ∀ w, 1 ≤ w ∧ w ≤ 11 → (x6 = nI w ↔ hs_lvW h ind a i w)) → wX_indentIsRight_49 post (nI i) (nI a) (nI (ind i)) (LT (i * 14 + 0)) x6 z x_objectLimit x_stepLimit x_depthLimit x_pendingCount x_keptTokens x_keptLines x_lineCount x_codeCount x_cursor x_stop x_waitingCount x_openCount x_classCount x_callCount x_operandCount x_stepsTaken x_error x_raisedCode x_printCount x_lastResult x_lastPlace x_pending LT x_code x_waiting x_globals x_entries x_orders x_merging x_letterClass x_objectClass x_attributes x_calls x_held x_operands x_lastPrints := by
    intro x6 z hz hx
    have nlw : z = 0 → ∀ w, ¬ hs_lvW h ind a i w := fun q w ⟨u, e1, e2, _⟩ => hz.mp q ⟨u, e1, e2⟩
    have E := fun w hw => hs_kdE (w := w) k2 hw
    have f70 : (h i = 5 → hs_lvW h ind a i 4) → wX_indentIsRight_70 post (nI i) (nI a) (nI (ind i)) (LT (i * 14 + 0)) x6 z x_objectLimit x_stepLimit x_depthLimit x_pendingCount x_keptTokens x_keptLines x_lineCount x_codeCount x_cursor x_stop x_waitingCount x_openCount x_classCount x_callCount x_operandCount x_stepsTaken x_error x_raisedCode x_printCount x_lastResult x_lastPlace x_pending LT x_code x_waiting x_globals x_entries x_orders x_merging x_letterClass x_objectClass x_attributes x_calls x_held x_operands x_lastPrints := by
      intro g5
      unfold wX_indentIsRight_70
      refine br_c (fun q8 => br_c (fun q => H0 (fun y => nlw q 7 (y.2.2.2.2 ((E 8 (by decide)).mp q8)))) (fun q => br_c (fun q7 => f91 z hz g5 (fun _ => (hx q 7 (by decide)).mp q7)) (fun q7 => H0 (fun y => q7 ((hx q 7 (by decide)).mpr (y.2.2.2.2 ((E 8 (by decide)).mp q8))))))) (fun q8 => f91 z hz g5 (fun y => absurd ((E 8 (by decide)).mpr y) q8))
    unfold wX_indentIsRight_49
    exact br_c (fun q5 => br_c (fun q => H0 (fun y => nlw q 4 (y.2.2.2.1 ((E 5 (by decide)).mp q5)))) (fun q => br_c (fun q4 => f70 (fun _ => (hx q 4 (by decide)).mp q4)) (fun q4 => H0 (fun y => q4 ((hx q 4 (by decide)).mpr (y.2.2.2.1 ((E 5 (by decide)).mp q5))))))) (fun q5 => f70 (fun y => absurd ((E 5 (by decide)).mpr y) q5))
  cases e : hs_lf ind (ind i) a i with
  | none =>
    have nl : ¬ hs_lv ind a i := by
      rintro ⟨u, e', _⟩
      rw [e] at e'; cases e'
    refine hs_xOfM (c := 0) (hs_xOfM (c := 1) (br_f ?_ (f49 (-1) 0 ⟨fun _ => nl, fun _ => rfl⟩ (fun y => absurd rfl y))))
    intro y
    have : nI (ind i) < 0 := by rw [← y]; decide
    exact nI_pos (by omega) this
  | some u =>
    obtain ⟨u1, u2, u3, u4⟩ := hs_lfS e
    obtain ⟨m1, m2, m3⟩ := K u u1 (by omega)
    refine hs_xOf (c := 0) (by omega) (hs_xOf (c := 1) (by omega) ?_)
    rw [m1]
    refine pk_eq (ind u) (ind i) (fun q => f49 _ 1 ⟨fun y => absurd y (by decide), fun y => absurd ⟨u, e, q⟩ y⟩ (fun _ w hw => ?_)) (fun q => f49 _ 0 ⟨fun _ => ?_, fun _ => rfl⟩ (fun y => absurd rfl y))
    · rw [show u * 14 + 0 = u * 14 from rfl, hs_kdE m2 hw]
      constructor
      · intro hw'; exact ⟨u, e, q, hw'⟩
      · rintro ⟨u', e', _, hw'⟩
        rw [e] at e'; cases e'
        exact hw'
    · rintro ⟨u', e', h'⟩
      rw [e] at e'; cases e'
      exact q h'
/-- the try lines before i, in general: G says that a line so deep is ended at i, A that i answers it -/
theorem hs_xTries0 {LT : Nat → Int32} {h ind : Nat → Nat} {a i : Nat} {x3 x4 : Int32} {G A : Nat → Prop} (ha : a ≤ 405) (hm : i ≤ 405) (K : hs_IK LT h ind a i) (hG : ∀ d, d ≤ 8 → (nI d < x3 ↔ ¬ G d)) (hA : ∀ d, d ≤ 8 → ((x4 = 8 ∧ nI d = x3) ↔ A d)) {post : Int32 → Prop}
    (H1 : (∀ m, a ≤ m → m < i → ¬ (h m = 7 ∧ G (ind m) ∧ (∀ j, m < j → j < i → ind m < ind j) ∧ ¬ A (ind m))) → post 1) (H0 : (∃ m, a ≤ m ∧ m < i ∧ (h m = 7 ∧ G (ind m) ∧ (∀ j, m < j → j < i → ind m < ind j) ∧ ¬ A (ind m))) → post 0) :
    ∀ (j n l : Nat), j ≤ i → j < n → l ≤ 9 → (∀ d, d ≤ 8 → (d < l ↔ ∀ k, j ≤ k → k < i → a ≤ k → d < ind k)) → (∀ m, a ≤ m → j ≤ m → m < i → ¬ (h m = 7 ∧ G (ind m) ∧ (∀ j, m < j → j < i → ind m < ind j) ∧ ¬ A (ind m))) → ∀ x6 : Int32, x6 = nI j - 1 → wX_triesAreClosed_9 post (nI a) x3 x4 x_objectLimit x_stepLimit x_depthLimit x_pendingCount x_keptTokens x_keptLines x_lineCount x_codeCount x_cursor x_stop x_waitingCount x_openCount x_classCount x_callCount x_operandCount x_stepsTaken x_error x_raisedCode x_printCount x_lastResult x_lastPlace x_pending LT x_code x_waiting x_globals x_entries x_orders x_merging x_letterClass x_objectClass x_attributes x_calls x_held x_operands x_lastPrints n (nI l) x6 := by
  intro j
  induction j with
  | zero =>
    intro n l _ hn _ _ hno x6 e
    obtain ⟨k, rfl⟩ : ∃ k, n = k + 1 := ⟨n - 1, by omega⟩
    subst e
    exact br_t (hs_m1lt (by omega)) (H1 (fun m m1 m2 => hno m m1 (by omega) m2))
  | succ j ih =>
    intro n l hj hn hl hleast hno x6 e
    obtain ⟨k, rfl⟩ : ∃ k, n = k + 1 := ⟨n - 1, by omega⟩
    have e' : x6 = nI j := by rw [e, nI_pred]
    subst e'
    refine pk_lt j a (fun q => H1 (fun m m1 m2 => hno m m1 (by omega) m2)) (fun q => ?_)
    obtain ⟨k1, k2, k3⟩ := K j q (by omega)
    refine hs_xOf (c := 1) (by omega) ?_
    rw [k1]
    have E7 := hs_kdE (w := 7) k2 (by decide)
    have em : nI j + (-1) = nI j - 1 := by rw [Int32.sub_eq_add_neg]
    have nx : ¬ (h j = 7 ∧ G (ind j) ∧ (∀ j', j < j' → j' < i → ind j < ind j') ∧ ¬ A (ind j)) → wX_triesAreClosed_88 post (wX_triesAreClosed_9 post (nI a) x3 x4 x_objectLimit x_stepLimit x_depthLimit x_pendingCount x_keptTokens x_keptLines x_lineCount x_codeCount x_cursor x_stop x_waitingCount x_openCount x_classCount x_callCount x_operandCount x_stepsTaken x_error x_raisedCode x_printCount x_lastResult x_lastPlace x_pending LT x_code x_waiting x_globals x_entries x_orders x_merging x_letterClass x_objectClass x_attributes x_calls x_held x_operands x_lastPrints k) (nI a) x3 x4 (nI l) (nI j) (nI (ind j)) x_objectLimit x_stepLimit x_depthLimit x_pendingCount x_keptTokens x_keptLines x_lineCount x_codeCount x_cursor x_stop x_waitingCount x_openCount x_classCount x_callCount x_operandCount x_stepsTaken x_error x_raisedCode x_printCount x_lastResult x_lastPlace x_pending LT x_code x_waiting x_globals x_entries x_orders x_merging x_letterClass x_objectClass x_attributes x_calls x_held x_operands x_lastPrints := by
      intro hb
      have hno' : ∀ m, a ≤ m → j ≤ m → m < i → ¬ (h m = 7 ∧ G (ind m) ∧ (∀ j, m < j → j < i → ind m < ind j) ∧ ¬ A (ind m)) := by
        intro m m1 m2 m3
        by_cases em : m = j
        · subst em; exact hb
        · exact hno m m1 (by omega) m3
      unfold wX_triesAreClosed_88
      refine pk_le l (ind j) (fun q2 => nm_e (ih k l (by omega) (by omega) hl (fun d hd => ?_) hno' _ em)) (fun q2 => nm_e (ih k (ind j) (by omega) (by omega) (by omega) (fun d hd => ?_) hno' _ em))
      · rw [hleast d hd]
        constructor
        · intro y k' a1 a2 a3
          by_cases ek : k' = j
          · subst ek
            have := (hleast d hd).mpr y
            omega
          · exact y k' (by omega) a2 a3
        · intro y k' a1 a2 a3
          exact y k' (by omega) a2 a3
      · constructor
        · intro y k' a1 a2 a3
          by_cases ek : k' = j
          · subst ek; exact y
          · have := (hleast d hd).mp (by omega) k' (by omega) a2 a3
            exact this
        · intro y; exact y j (Nat.le_refl _) (by omega) q
    have f62 : ∀ (x8 z0 : Int32), (¬ x8 = 0 ↔ (G (ind j) ∧ ∀ j', j < j' → j' < i → ind j < ind j')) → (z0 = 0 ↔ ¬ A (ind j)) → wX_triesAreClosed_62 post (wX_triesAreClosed_9 post (nI a) x3 x4 x_objectLimit x_stepLimit x_depthLimit x_pendingCount x_keptTokens x_keptLines x_lineCount x_codeCount x_cursor x_stop x_waitingCount x_openCount x_classCount x_callCount x_operandCount x_stepsTaken x_error x_raisedCode x_printCount x_lastResult x_lastPlace x_pending LT x_code x_waiting x_globals x_entries x_orders x_merging x_letterClass x_objectClass x_attributes x_calls x_held x_operands x_lastPrints k) (nI a) x3 x4 (nI l) (nI j) (nI (ind j)) x8 z0 x_objectLimit x_stepLimit x_depthLimit x_pendingCount x_keptTokens x_keptLines x_lineCount x_codeCount x_cursor x_stop x_waitingCount x_openCount x_classCount x_callCount x_operandCount x_stepsTaken x_error x_raisedCode x_printCount x_lastResult x_lastPlace x_pending LT x_code x_waiting x_globals x_entries x_orders x_merging x_letterClass x_objectClass x_attributes x_calls x_held x_operands x_lastPrints := by
      intro x8 z0 h8 hz
      unfold wX_triesAreClosed_62
      refine br_c (fun q8 => nx (fun y => h8.mpr ⟨y.2.1, y.2.2.1⟩ q8)) (fun q8 => br_c (fun qz => hs_xOf (c := 0) (by omega) (br_c (fun q7 => H0 ⟨j, q, by omega, E7.mp q7, (h8.mp q8).1, (h8.mp q8).2, hz.mp qz⟩) (fun q7 => nx (fun y => q7 (E7.mpr y.1))))) (fun qz => nx (fun y => qz (hz.mpr y.2.2.2))))
    have f42 : ∀ x8 : Int32, (¬ x8 = 0 ↔ (G (ind j) ∧ ∀ j', j < j' → j' < i → ind j < ind j')) → wX_triesAreClosed_42 post (wX_triesAreClosed_9 post (nI a) x3 x4 x_objectLimit x_stepLimit x_depthLimit x_pendingCount x_keptTokens x_keptLines x_lineCount x_codeCount x_cursor x_stop x_waitingCount x_openCount x_classCount x_callCount x_operandCount x_stepsTaken x_error x_raisedCode x_printCount x_lastResult x_lastPlace x_pending LT x_code x_waiting x_globals x_entries x_orders x_merging x_letterClass x_objectClass x_attributes x_calls x_held x_operands x_lastPrints k) (nI a) x3 x4 (nI l) (nI j) (nI (ind j)) x8 x_objectLimit x_stepLimit x_depthLimit x_pendingCount x_keptTokens x_keptLines x_lineCount x_codeCount x_cursor x_stop x_waitingCount x_openCount x_classCount x_callCount x_operandCount x_stepsTaken x_error x_raisedCode x_printCount x_lastResult x_lastPlace x_pending LT x_code x_waiting x_globals x_entries x_orders x_merging x_letterClass x_objectClass x_attributes x_calls x_held x_operands x_lastPrints := by
      intro x8 h8
      unfold wX_triesAreClosed_42 wX_triesAreClosed_61
      refine br_c (fun q8 => br_c (fun qq => f62 x8 1 h8 ⟨fun y => absurd y (by decide), fun y => absurd ((hA _ k3).mp ⟨q8, qq⟩) y⟩) (fun qq => f62 x8 0 h8 ⟨fun _ y => qq ((hA _ k3).mpr y).2, fun _ => rfl⟩)) (fun q8 => f62 x8 0 h8 ⟨fun _ y => q8 ((hA _ k3).mpr y).1, fun _ => rfl⟩)
    have hl2 : ind j < l ↔ ∀ j', j < j' → j' < i → ind j < ind j' := by
      rw [hleast _ k3]
      constructor
      · intro y j' a1 a2; exact y j' (by omega) a2 (by omega)
      · intro y j' a1 a2 _; exact y j' (by omega) a2
    refine br_c (fun q3 => ?_) (fun q3 => pk_le l (ind j) (fun q2 => ?_) (fun q2 => ?_))
    · exact f42 0 ⟨fun y => absurd rfl y, fun y => absurd y.1 ((hG _ k3).mp q3)⟩
    · exact f42 0 ⟨fun y => absurd rfl y, fun y => by have := hl2.mpr y.2; omega⟩
    · exact f42 1 ⟨fun _ => ⟨Classical.byContradiction fun y => q3 ((hG _ k3).mpr y), hl2.mp q2⟩, fun _ => by decide⟩
theorem hs_xTries {LT : Nat → Int32} {h ind : Nat → Nat} {a i : Nat} {x3 x4 : Int32} {G A : Nat → Prop} (hai : a ≤ i) (hm : i ≤ 405) (K : hs_IK LT h ind a i) (hG : ∀ d, d ≤ 8 → (nI d < x3 ↔ ¬ G d)) (hA : ∀ d, d ≤ 8 → ((x4 = 8 ∧ nI d = x3) ↔ A d)) {post : Int32 → Prop}
    (H1 : (∀ m, a ≤ m → m < i → ¬ (h m = 7 ∧ G (ind m) ∧ (∀ j, m < j → j < i → ind m < ind j) ∧ ¬ A (ind m))) → post 1) (H0 : (∃ m, a ≤ m ∧ m < i ∧ (h m = 7 ∧ G (ind m) ∧ (∀ j, m < j → j < i → ind m < ind j) ∧ ¬ A (ind m))) → post 0) : wpX_triesAreClosed post (x_objectLimit, x_stepLimit, x_depthLimit, x_pendingCount, x_keptTokens, x_keptLines, x_lineCount, x_codeCount, x_cursor, x_stop, x_waitingCount, x_openCount, x_classCount, x_callCount, x_operandCount, x_stepsTaken, x_error, x_raisedCode, x_printCount, x_lastResult, x_lastPlace, x_pending, LT, x_code, x_waiting, x_globals, x_entries, x_orders, x_merging, x_letterClass, x_objectClass, x_attributes, x_calls, x_held, x_operands, x_lastPrints) (nI i) (nI a) x3 x4 :=
  nm_e ⟨i + 1, hs_xTries0 (by omega) hm K hG hA H1 H0 i (i + 1) 9 (Nat.le_refl _) (by omega) (Nat.le_refl _) (fun d hd => ⟨fun _ k k1 k2 => by omega, fun _ => by omega⟩) (fun m m1 m2 m3 => by omega) _ rfl⟩
end
end
section
/-! a line's place, whole, on X's side -/
section
variable {x_objectLimit x_stepLimit x_depthLimit x_pendingCount x_keptTokens x_keptLines x_lineCount x_codeCount x_cursor x_stop x_waitingCount x_openCount x_classCount x_callCount x_operandCount x_stepsTaken x_error x_raisedCode x_printCount x_lastPlace : Int32} {x_lastResult : Int64} {x_pending x_lineTable x_orders x_merging x_letterClass x_objectClass x_calls x_lastPrints : Nat → Int32} {x_code x_waiting x_globals x_entries x_attributes x_held x_operands : Nat → Int64}
variable {y_maxObjects y_maxSteps y_maxDepth y_kept y_end y_tokens y_pending y_lines y_classes y_prints y_place y_steps y_d y_valTop y_opTop y_opens y_pos y_tk y_tv y_stmt y_target y_err y_code y_outcome y_dry y_want y_starting y_ended y_bad y_hosted y_sawSuper : Int32} {y_result : Int64} {y_text y_numbers y_classOf y_alive y_orders y_lengths y_letters y_bases y_ops y_fLine y_fPos y_fStmt y_fTarget y_fMask y_fHome y_fOps y_fVals y_fNew y_out : Nat → Int32} {y_globals y_entries y_attrs y_vals y_locals y_fRecv : Nat → Int64}
theorem hs_xSup0 {pd LT : Nat → Int32} {R e : Nat} (hE : LT (R + 12) = nI e) (hR : R + 14 ≤ 5670) (he : e ≤ 400) {post : Int32 → Prop} : ∀ (ts : List Nat) (c : Nat), hs_PA pd e c ts → (13 ∈ ts → post 1) → (13 ∉ ts → post 0) → wX_usesSuper_15 post (nI R) x_objectLimit x_stepLimit x_depthLimit x_pendingCount x_keptTokens x_keptLines x_lineCount x_codeCount x_cursor x_stop x_waitingCount x_openCount x_classCount x_callCount x_operandCount x_stepsTaken x_error x_raisedCode x_printCount x_lastResult x_lastPlace pd LT x_code x_waiting x_globals x_entries x_orders x_merging x_letterClass x_objectClass x_attributes x_calls x_held x_operands x_lastPrints (ts.length + 1) (nI c) := by
  have e12 : nI R + 12 = nI (R + 12) := nI_add R 12
  intro ts
  induction ts with
  | nil =>
    intro c h H1 H0
    have hc : c = e := h
    rw [show ([] : List Nat).length + 1 = 0 + 1 from rfl]
    refine And.intro (by rw [e12]; exact vp_in_nI (by omega) (by decide)) ?_
    rw [e12, nI_clamp (show R + 12 < 2 ^ 31 by omega), hE]
    exact br_t (nI_le (by omega) (by omega)) (H0 (by simp))
  | cons t r ih =>
    intro c h H1 H0
    have hl := hs_PAlen h
    simp only [List.length_cons] at hl
    refine And.intro (by rw [e12]; exact vp_in_nI (by omega) (by decide)) ?_
    rw [e12, nI_clamp (show R + 12 < 2 ^ 31 by omega), hE]
    refine br_f (nI_ge (by omega) (by omega)) (And.intro (vp_in_nI (by omega) (by decide)) ?_)
    rw [nI_clamp (show c < 2 ^ 31 by omega)]
    have e13 := hs_rxE (k := 13) h.1 (Or.inr ⟨Or.inl (by decide), by decide⟩) (by decide)
    refine br_c (fun q => H1 (by rw [e13.mp q]; simp)) (fun q => nm_r (nI_1 c) (ih (c + 1) h.2.2 (fun y => H1 (List.mem_cons_of_mem _ y)) (fun y => H0 (fun z => ?_))))
    rcases List.mem_cons.mp z with z | z
    · exact q (e13.mpr z.symm)
    · exact y z
theorem hs_xSup {pd LT : Nat → Int32} {i c e : Nat} {ts : List Nat} (hi : i < 405) (hT : LT (i * 14 + 11) = nI c) (hE : LT (i * 14 + 12) = nI e) (he : e ≤ 400) (hPA : hs_PA pd e c ts) {post : Int32 → Prop} (H1 : 13 ∈ ts → post 1) (H0 : 13 ∉ ts → post 0) : wpX_usesSuper post (x_objectLimit, x_stepLimit, x_depthLimit, x_pendingCount, x_keptTokens, x_keptLines, x_lineCount, x_codeCount, x_cursor, x_stop, x_waitingCount, x_openCount, x_classCount, x_callCount, x_operandCount, x_stepsTaken, x_error, x_raisedCode, x_printCount, x_lastResult, x_lastPlace, pd, LT, x_code, x_waiting, x_globals, x_entries, x_orders, x_merging, x_letterClass, x_objectClass, x_attributes, x_calls, x_held, x_operands, x_lastPrints) (nI i) := by
  have em : nI i * 14 = nI (i * 14) := pk_mul i 14
  have e11 : nI (i * 14) + 11 = nI (i * 14 + 11) := nI_add _ 11
  refine nm_r em ?_
  rw [e11, nI_clamp (show i * 14 + 11 < 2 ^ 31 by omega), hT]
  exact And.intro (vp_in_nI (by omega) (by decide)) (nm_e ⟨_, hs_xSup0 hE (by omega) he ts c hPA H1 H0⟩)
/-- the table holds the parents of the lines a .. m - 1 -/
def hs_PR (LT : Nat → Int32) (ind : Nat → Nat) (a m : Nat) : Prop := ∀ j, a ≤ j → j < m → LT (j * 14 + 3) = hs_oI (hs_pa ind a j)
theorem hs_bor (c d : Bool) : hs_b c ||| hs_b d = hs_b (c || d) := by cases c <;> cases d <;> decide
theorem hs_xIn {LT : Nat → Int32} {h ind : Nat → Nat} {a m : Nat} {x1 x2 x3 : Int32} (hm : m ≤ 405) (K : hs_IK LT h ind a m) (Q : hs_PR LT ind a m) {post : Int32 → Prop} :
    ∀ (n j k : Nat) (c d : Bool), a ≤ j → j < m → ind j + k ≤ 8 → ind j < n → wX_placeIsRight_94 post x1 x2 x3 (hs_b (c || hs_in h ind a 1 n j)) (hs_b (d || hs_in h ind a 2 n j)) x_objectLimit x_stepLimit x_depthLimit x_pendingCount x_keptTokens x_keptLines x_lineCount x_codeCount x_cursor x_stop x_waitingCount x_openCount x_classCount x_callCount x_operandCount x_stepsTaken x_error x_raisedCode x_printCount x_lastResult x_lastPlace x_pending LT x_code x_waiting x_globals x_entries x_orders x_merging x_letterClass x_objectClass x_attributes x_calls x_held x_operands x_lastPrints → wX_placeIsRight_26 post x1 x2 x3 x_objectLimit x_stepLimit x_depthLimit x_pendingCount x_keptTokens x_keptLines x_lineCount x_codeCount x_cursor x_stop x_waitingCount x_openCount x_classCount x_callCount x_operandCount x_stepsTaken x_error x_raisedCode x_printCount x_lastResult x_lastPlace x_pending LT x_code x_waiting x_globals x_entries x_orders x_merging x_letterClass x_objectClass x_attributes x_calls x_held x_operands x_lastPrints (n + 1) (hs_b c) (hs_b d) (hs_oI (hs_pa ind a j)) (nI k) := by
  intro n
  induction n with
  | zero => intro j k c d _ _ _ h; omega
  | succ n ih =>
    intro j k c d ja jm hk hn H
    refine br_f (nI_ge (b := 9) (by omega) (by decide)) ?_
    unfold hs_in at H
    have hp := hs_paOK (ind := ind) (a := a) (i := j)
    cases e : hs_pa ind a j with
    | none =>
      rw [e] at H
      have H : wX_placeIsRight_94 post x1 x2 x3 (hs_b (c || false)) (hs_b (d || false)) x_objectLimit x_stepLimit x_depthLimit x_pendingCount x_keptTokens x_keptLines x_lineCount x_codeCount x_cursor x_stop x_waitingCount x_openCount x_classCount x_callCount x_operandCount x_stepsTaken x_error x_raisedCode x_printCount x_lastResult x_lastPlace x_pending LT x_code x_waiting x_globals x_entries x_orders x_merging x_letterClass x_objectClass x_attributes x_calls x_held x_operands x_lastPrints := H
      rw [Bool.or_false, Bool.or_false] at H
      exact br_t (show hs_oI none < 0 by show (-1 : Int32) < 0; decide) H
    | some p =>
      rw [e] at H hp
      have H : wX_placeIsRight_94 post x1 x2 x3 (hs_b (c || (decide (h p = 1) || hs_in h ind a 1 n p))) (hs_b (d || (decide (h p = 2) || hs_in h ind a 2 n p))) x_objectLimit x_stepLimit x_depthLimit x_pendingCount x_keptTokens x_keptLines x_lineCount x_codeCount x_cursor x_stop x_waitingCount x_openCount x_classCount x_callCount x_operandCount x_stepsTaken x_error x_raisedCode x_printCount x_lastResult x_lastPlace x_pending LT x_code x_waiting x_globals x_entries x_orders x_merging x_letterClass x_objectClass x_attributes x_calls x_held x_operands x_lastPrints := H
      obtain ⟨p1, p2, p3, p4⟩ := hp
      obtain ⟨k1, k2, k3⟩ := K p p1 (by omega)
      have E1 := hs_kdE (w := 1) k2 (by decide)
      have E2 := hs_kdE (w := 2) k2 (by decide)
      rw [show hs_oI (some p) = nI p from rfl]
      refine br_f (nI_pos (by omega)) (hs_xOf (c := 0) (by omega) ?_)
      rw [← Bool.or_assoc, ← Bool.or_assoc] at H
      have s76 : ∀ (c' b2 : Bool), b2 = decide (h p = 2) → wX_placeIsRight_94 post x1 x2 x3 (hs_b (c' || hs_in h ind a 1 n p)) (hs_b ((d || decide (h p = 2)) || hs_in h ind a 2 n p)) x_objectLimit x_stepLimit x_depthLimit x_pendingCount x_keptTokens x_keptLines x_lineCount x_codeCount x_cursor x_stop x_waitingCount x_openCount x_classCount x_callCount x_operandCount x_stepsTaken x_error x_raisedCode x_printCount x_lastResult x_lastPlace x_pending LT x_code x_waiting x_globals x_entries x_orders x_merging x_letterClass x_objectClass x_attributes x_calls x_held x_operands x_lastPrints → wX_placeIsRight_76 post (wX_placeIsRight_26 post x1 x2 x3 x_objectLimit x_stepLimit x_depthLimit x_pendingCount x_keptTokens x_keptLines x_lineCount x_codeCount x_cursor x_stop x_waitingCount x_openCount x_classCount x_callCount x_operandCount x_stepsTaken x_error x_raisedCode x_printCount x_lastResult x_lastPlace x_pending LT x_code x_waiting x_globals x_entries x_orders x_merging x_letterClass x_objectClass x_attributes x_calls x_held x_operands x_lastPrints (n + 1)) x1 x2 x3 (hs_b c') (nI p) (nI k) (hs_b b2) (hs_b d) x_objectLimit x_stepLimit x_depthLimit x_pendingCount x_keptTokens x_keptLines x_lineCount x_codeCount x_cursor x_stop x_waitingCount x_openCount x_classCount x_callCount x_operandCount x_stepsTaken x_error x_raisedCode x_printCount x_lastResult x_lastPlace x_pending LT x_code x_waiting x_globals x_entries x_orders x_merging x_letterClass x_objectClass x_attributes x_calls x_held x_operands x_lastPrints := by
        intro c' b2 eb H'
        unfold wX_placeIsRight_76
        refine nm_r (hs_bor d b2) (hs_xOf (c := 3) (by omega) ?_)
        rw [Q p p1 (by omega), eb]
        exact nm_r (nI_1 k) (ih p (k + 1) c' (d || decide (h p = 2)) p1 (by omega) (by omega) (by omega) H')
      have s60 : ∀ b1 : Bool, b1 = decide (h p = 1) → wX_placeIsRight_60 post (wX_placeIsRight_26 post x1 x2 x3 x_objectLimit x_stepLimit x_depthLimit x_pendingCount x_keptTokens x_keptLines x_lineCount x_codeCount x_cursor x_stop x_waitingCount x_openCount x_classCount x_callCount x_operandCount x_stepsTaken x_error x_raisedCode x_printCount x_lastResult x_lastPlace x_pending LT x_code x_waiting x_globals x_entries x_orders x_merging x_letterClass x_objectClass x_attributes x_calls x_held x_operands x_lastPrints (n + 1)) x1 x2 x3 (hs_b d) (nI p) (nI k) (LT (p * 14 + 0)) (hs_b b1) (hs_b c) x_objectLimit x_stepLimit x_depthLimit x_pendingCount x_keptTokens x_keptLines x_lineCount x_codeCount x_cursor x_stop x_waitingCount x_openCount x_classCount x_callCount x_operandCount x_stepsTaken x_error x_raisedCode x_printCount x_lastResult x_lastPlace x_pending LT x_code x_waiting x_globals x_entries x_orders x_merging x_letterClass x_objectClass x_attributes x_calls x_held x_operands x_lastPrints := by
        intro b1 eb
        unfold wX_placeIsRight_60
        refine nm_r (hs_bor c b1) ?_
        rw [eb]
        refine br_c (fun q => s76 (c || decide (h p = 1)) true (decide_eq_true (E2.mp q)).symm H) (fun q => s76 (c || decide (h p = 1)) false (decide_eq_false (fun y => q (E2.mpr y))).symm H)
      exact br_c (fun q => s60 true (decide_eq_true (E1.mp q)).symm) (fun q => s60 false (decide_eq_false (fun y => q (E1.mpr y))).symm)
theorem hs_xPlc {pd LT : Nat → Int32} {h ind : Nat → Nat} {a i c e : Nat} {ts : List Nat} (hai : a ≤ i) (hi : i < 405) (K : hs_IK LT h ind a (i + 1)) (Q : hs_PR LT ind a (i + 1)) (hT : LT (i * 14 + 11) = nI c) (hE : LT (i * 14 + 12) = nI e) (he : e ≤ 400) (hPA : hs_PA pd e c ts) (h15 : LT (i * 14) = 15 ↔ hs_s15 ts) (hh : h i = hs_hd ts) {post : Int32 → Prop} (H1 : hs_wr h ind a i (hs_s15 ts) (13 ∈ ts) → post 1) (H0 : ¬ hs_wr h ind a i (hs_s15 ts) (13 ∈ ts) → post 0) : wpX_placeIsRight post (x_objectLimit, x_stepLimit, x_depthLimit, x_pendingCount, x_keptTokens, x_keptLines, x_lineCount, x_codeCount, x_cursor, x_stop, x_waitingCount, x_openCount, x_classCount, x_callCount, x_operandCount, x_stepsTaken, x_error, x_raisedCode, x_printCount, x_lastResult, x_lastPlace, pd, LT, x_code, x_waiting, x_globals, x_entries, x_orders, x_merging, x_letterClass, x_objectClass, x_attributes, x_calls, x_held, x_operands, x_lastPrints) (nI i) := by
  obtain ⟨k1, k2, k3⟩ := K i hai (by omega)
  have E := fun w hw => hs_kdE (w := w) k2 hw
  have s15n : hs_s15 ts → ¬ (1 ≤ h i ∧ h i ≤ 11) := by
    intro y
    cases ts with
    | nil => exact y.elim
    | cons t r =>
      have := hs_tkN y.1
      have e : h i = t := hh
      omega
  unfold wpX_placeIsRight
  refine hs_xOf (c := 0) (by omega) (hs_xOf (c := 3) (by omega) ?_)
  rw [Q i hai (by omega), show i * 14 + 0 = i * 14 from rfl]
  refine ⟨10, hs_xIn (by omega) K Q 9 i 0 false false hai (by omega) (by omega) (by omega) ?_⟩
  rw [Bool.false_or, Bool.false_or]
  -- what is left when super and return are well placed
  have f114 : ((h i = 3 ∨ 13 ∈ ts) → hs_in h ind a 2 9 i = true) → wX_placeIsRight_114 post (LT (i * 14)) (hs_oI (hs_pa ind a i)) (hs_b (hs_in h ind a 1 9 i)) x_objectLimit x_stepLimit x_depthLimit x_pendingCount x_keptTokens x_keptLines x_lineCount x_codeCount x_cursor x_stop x_waitingCount x_openCount x_classCount x_callCount x_operandCount x_stepsTaken x_error x_raisedCode x_printCount x_lastResult x_lastPlace pd LT x_code x_waiting x_globals x_entries x_orders x_merging x_letterClass x_objectClass x_attributes x_calls x_held x_operands x_lastPrints := by
    intro g2
    unfold wX_placeIsRight_114
    have dirI : ∀ kp : Int32, (kp = 1 ↔ hs_dir h ind a i) → ((kp = 1 → ((LT (i * 14) = 10 → post 1) ∧ (¬ LT (i * 14) = 10 → ((LT (i * 14) = 2 → post 1) ∧ (¬ LT (i * 14) = 2 → ((LT (i * 14) = 15 → post 1) ∧ (¬ LT (i * 14) = 15 → post 0))))))) ∧ (¬ kp = 1 → ((LT (i * 14) = 2 → post 0) ∧ (¬ LT (i * 14) = 2 → ((hs_b (hs_in h ind a 1 9 i) = 0 → post 1) ∧ (¬ hs_b (hs_in h ind a 1 9 i) = 0 → ((LT (i * 14) = 1 → post 0) ∧ (¬ LT (i * 14) = 1 → post 1)))))))) := by
      intro kp hkp
      refine br_c (fun q => ?_) (fun q => ?_)
      · have dd := hkp.mp q
        refine br_c (fun q10 => ?_) (fun q10 => br_c (fun q2 => ?_) (fun q2 => br_c (fun q15 => ?_) (fun q15 => ?_)))
        · have := (E 10 (by decide)).mp q10
          exact H1 ⟨fun y => by omega, g2, fun _ => Or.inl this, fun y => absurd dd y⟩
        · have := (E 2 (by decide)).mp q2
          exact H1 ⟨fun y => by omega, g2, fun _ => Or.inr (Or.inl this), fun y => absurd dd y⟩
        · have := s15n (h15.mp q15)
          exact H1 ⟨fun y => by omega, g2, fun _ => Or.inr (Or.inr (h15.mp q15)), fun y => absurd dd y⟩
        · refine H0 (fun y => ?_)
          rcases y.2.2.1 dd with z | z | z
          · exact q10 ((E 10 (by decide)).mpr z)
          · exact q2 ((E 2 (by decide)).mpr z)
          · exact q15 (h15.mpr z)
      · have nd : ¬ hs_dir h ind a i := fun y => q (hkp.mpr y)
        refine br_c (fun q2 => H0 (fun y => y.2.2.2 nd ((E 2 (by decide)).mp q2))) (fun q2 => ?_)
        have n2 : h i ≠ 2 := fun y => q2 ((E 2 (by decide)).mpr y)
        refine br_c (fun qc => H1 ⟨fun y => ?_, g2, fun y => absurd y nd, fun _ => n2⟩) (fun qc => br_c (fun q1 => H0 (fun y => y.1 ⟨(E 1 (by decide)).mp q1, ?_⟩)) (fun q1 => H1 ⟨fun y => q1 ((E 1 (by decide)).mpr y.1), g2, fun y => absurd y nd, fun _ => n2⟩))
        · rw [hs_b1.mp qc] at y; cases y.2
        · cases hq : hs_in h ind a 1 9 i with
          | true => rfl
          | false => exact absurd (hs_b1.mpr hq) qc
    cases ep : hs_pa ind a i with
    | none =>
      refine hs_xOfM (c := 0) (dirI (-1) ⟨fun y => absurd y (by decide), fun y => ?_⟩)
      obtain ⟨p, e', _⟩ := y
      rw [ep] at e'; cases e'
    | some p =>
      have hp := hs_paOK (ind := ind) (a := a) (i := i)
      rw [ep] at hp
      obtain ⟨p1, p2, p3, p4⟩ := hp
      obtain ⟨m1, m2, m3⟩ := K p p1 (by omega)
      refine hs_xOf (c := 0) (by omega) (dirI _ ?_)
      refine (hs_kdE (w := 1) m2 (by decide)).trans ?_
      constructor
      · intro y; exact ⟨p, ep, y⟩
      · rintro ⟨p', e', y⟩
        rw [ep] at e'; cases e'
        exact y
  unfold wX_placeIsRight_94
  refine br_c (fun qd => br_c (fun q3 => H0 (fun y => ?_)) (fun q3 => hs_xSup hi hT hE he hPA (fun s13 => br_f (by decide) (H0 (fun y => ?_))) (fun s13 => br_t rfl (f114 (fun y => ?_))))) (fun qd => f114 (fun _ => ?_))
  · have := y.2.1 (Or.inl ((E 3 (by decide)).mp q3))
    rw [hs_b1.mp qd] at this; cases this
  · have := y.2.1 (Or.inr s13)
    rw [hs_b1.mp qd] at this; cases this
  · rcases y with y | y
    · exact absurd ((E 3 (by decide)).mpr y) q3
    · exact absurd y s13
  · cases hq : hs_in h ind a 2 9 i with
    | true => rfl
    | false => exact absurd (hs_b1.mpr hq) qd
theorem hs_xStands {pd LT : Nat → Int32} {h ind : Nat → Nat} {a i c e : Nat} {ts : List Nat} (hai : a ≤ i) (hi : i < 405) (K : hs_IK LT h ind a (i + 1)) (Q : hs_PR LT ind a i) (hT : LT (i * 14 + 11) = nI c) (hE : LT (i * 14 + 12) = nI e) (he : e ≤ 400) (hPA : hs_PA pd e c ts) (h15 : LT (i * 14) = 15 ↔ hs_s15 ts) (hh : h i = hs_hd ts) {post : Int32 → SX → Prop}
    (H1 : hs_pl h ind a i (hs_s15 ts) (13 ∈ ts) → post 1 (x_objectLimit, x_stepLimit, x_depthLimit, x_pendingCount, x_keptTokens, x_keptLines, x_lineCount, x_codeCount, x_cursor, x_stop, x_waitingCount, x_openCount, x_classCount, x_callCount, x_operandCount, x_stepsTaken, x_error, x_raisedCode, x_printCount, x_lastResult, x_lastPlace, pd, upd LT (i * 14 + 3) (hs_oI (hs_pa ind a i)), x_code, x_waiting, x_globals, x_entries, x_orders, x_merging, x_letterClass, x_objectClass, x_attributes, x_calls, x_held, x_operands, x_lastPrints)) (H0 : ¬ hs_pl h ind a i (hs_s15 ts) (13 ∈ ts) → post 0 (x_objectLimit, x_stepLimit, x_depthLimit, x_pendingCount, x_keptTokens, x_keptLines, x_lineCount, x_codeCount, x_cursor, x_stop, x_waitingCount, x_openCount, x_classCount, x_callCount, x_operandCount, x_stepsTaken, x_error, x_raisedCode, x_printCount, x_lastResult, x_lastPlace, pd, upd LT (i * 14 + 3) (hs_oI (hs_pa ind a i)), x_code, x_waiting, x_globals, x_entries, x_orders, x_merging, x_letterClass, x_objectClass, x_attributes, x_calls, x_held, x_operands, x_lastPrints)) : wpX_standsRight post (x_objectLimit, x_stepLimit, x_depthLimit, x_pendingCount, x_keptTokens, x_keptLines, x_lineCount, x_codeCount, x_cursor, x_stop, x_waitingCount, x_openCount, x_classCount, x_callCount, x_operandCount, x_stepsTaken, x_error, x_raisedCode, x_printCount, x_lastResult, x_lastPlace, pd, LT, x_code, x_waiting, x_globals, x_entries, x_orders, x_merging, x_letterClass, x_objectClass, x_attributes, x_calls, x_held, x_operands, x_lastPrints) (nI i) (nI a) := by
  obtain ⟨k1, k2, k3⟩ := K i hai (by omega)
  have K' : hs_IK LT h ind a i := fun j j1 j2 => K j j1 (by omega)
  have em : nI i * 14 = nI (i * 14) := pk_mul i 14
  have e0 : nI (i * 14) + 0 = nI (i * 14) := Int32.add_zero _
  have e1 : nI (i * 14) + 1 = nI (i * 14 + 1) := nI_1 _
  have e3 : nI (i * 14) + 3 = nI (i * 14 + 3) := nI_add _ 3
  have U : ∀ k, k ≠ i * 14 + 3 → upd LT (i * 14 + 3) (hs_oI (hs_pa ind a i)) k = LT k := fun k hk => pk_un hk
  have KU : hs_IK (upd LT (i * 14 + 3) (hs_oI (hs_pa ind a i))) h ind a (i + 1) := by
    intro j j1 j2
    rw [U _ (by omega), U _ (by omega)]
    exact K j j1 j2
  have QU : hs_PR (upd LT (i * 14 + 3) (hs_oI (hs_pa ind a i))) ind a (i + 1) := by
    intro j j1 j2
    by_cases q : j = i
    · subst q; exact pk_us
    · rw [U _ (by omega)]; exact Q j j1 (by omega)
  unfold wpX_standsRight
  refine nm_r em ?_
  rw [e0, e1, e3, nI_clamp (show i * 14 < 2 ^ 31 by omega), nI_clamp (show i * 14 + 1 < 2 ^ 31 by omega), nI_clamp (show i * 14 + 3 < 2 ^ 31 by omega)]
  refine And.intro (vp_in_nI (by omega) (by decide)) (nm_r k1 (And.intro (vp_in_nI (by omega) (by decide)) (nm_e (hs_xPar (by omega) (by omega) k3 K' (And.intro (vp_in_nI (by omega) (by decide)) (nm_e ?_))))))
  have hG : ∀ d, d ≤ 8 → (nI d < nI (ind i) ↔ ¬ ind i ≤ d) := fun d hd => by rw [nI_ltI (by omega) (by omega)]; omega
  have hA : ∀ d, d ≤ 8 → ((LT (i * 14) = 8 ∧ nI d = nI (ind i)) ↔ (h i = 8 ∧ ind i = d)) := fun d hd => by
    have := hs_kdE (w := 8) k2 (by decide)
    rw [nI_eq (by omega) (by omega)]
    constructor
    · rintro ⟨y, z⟩; exact ⟨this.mp y, z.symm⟩
    · rintro ⟨y, z⟩; exact ⟨this.mpr y, z.symm⟩
  refine hs_xIndent hai hi KU (fun w1 => br_f (by decide) ?_) (fun w1 => br_t rfl (H0 (fun y => w1 y.2.1)))
  refine hs_xTries (G := fun d => ind i ≤ d) (A := fun d => h i = 8 ∧ ind i = d) hai (by omega) (fun j j1 j2 => KU j j1 (by omega)) hG hA (fun w2 => br_f (by decide) ?_) (fun ⟨m, m1, m2, m3, m4, m5, m6⟩ => br_t rfl (H0 (fun y => y.1 m m1 m2 ⟨m3, m4, m5, m6⟩)))
  refine hs_xPlc hai hi KU QU ?_ ?_ he hPA ?_ hh (fun w3 => br_f (by decide) (H1 ⟨fun m m1 m2 y => w2 m m1 m2 ⟨y.1, y.2.1, y.2.2.1, y.2.2.2⟩, w1, w3⟩)) (fun w3 => br_t rfl (H0 (fun y => w3 y.2.2)))
  · rw [U _ (by omega)]; exact hT
  · rw [U _ (by omega)]; exact hE
  · rw [U _ (by omega)]; exact h15
theorem hs_xEnd {LT : Nat → Int32} {h ind : Nat → Nat} {a b : Nat} (hab : a ≤ b) (hb : b ≤ 405) (K : hs_IK LT h ind a b) {post : Int32 → Prop} (H1 : hs_eok h ind a b → post 1) (H0 : ¬ hs_eok h ind a b → post 0) : wpX_endIsRight post (x_objectLimit, x_stepLimit, x_depthLimit, x_pendingCount, x_keptTokens, x_keptLines, nI b, x_codeCount, x_cursor, x_stop, x_waitingCount, x_openCount, x_classCount, x_callCount, x_operandCount, x_stepsTaken, x_error, x_raisedCode, x_printCount, x_lastResult, x_lastPlace, x_pending, LT, x_code, x_waiting, x_globals, x_entries, x_orders, x_merging, x_letterClass, x_objectClass, x_attributes, x_calls, x_held, x_operands, x_lastPrints) (nI a) := by
  have ebk : ∀ m, m < b → (hs_bk ind b m = b ↔ ∀ k, m < k → k < b → ind m < ind k) := by
    intro m hm
    obtain ⟨F1, F2, F3, F4⟩ := hs_bkFo (ind := ind) (b := b) (i := m) hm
    constructor
    · intro e k k1 k2
      exact (F3 k k1 (by omega)).2
    · intro hk
      rcases Nat.lt_or_ge (hs_bk ind b m) b with w | w
      · have y1 := hk _ F1 w
        rcases F4 w with y2 | y2
        · exact absurd y2 (by decide)
        · omega
      · omega
  have f34 : (a < b → ¬ hs_isOp (h (b - 1))) → wX_endIsRight_34 post (nI a) x_objectLimit x_stepLimit x_depthLimit x_pendingCount x_keptTokens x_keptLines (nI b) x_codeCount x_cursor x_stop x_waitingCount x_openCount x_classCount x_callCount x_operandCount x_stepsTaken x_error x_raisedCode x_printCount x_lastResult x_lastPlace x_pending LT x_code x_waiting x_globals x_entries x_orders x_merging x_letterClass x_objectClass x_attributes x_calls x_held x_operands x_lastPrints := by
    intro g
    unfold wX_endIsRight_34 wX_endIsRight_35
    refine br_t rfl ?_
    have hG : ∀ d, d ≤ 8 → (nI d < (-1 : Int32) ↔ ¬ True) := fun d hd => ⟨fun y => absurd (Int32.lt_trans y (by decide : (-1 : Int32) < 0)) (nI_pos (by omega)), fun y => absurd trivial y⟩
    have hA : ∀ d, d ≤ 8 → (((0 : Int32) = 8 ∧ nI d = (-1 : Int32)) ↔ False) := fun d hd => ⟨fun y => absurd y.1 (by decide), fun y => y.elim⟩
    refine hs_xTries (G := fun _ => True) (A := fun _ => False) hab hb K hG hA (fun w => br_f (by decide) (H1 ⟨g, fun m m1 m2 m7 e => w m m1 m2 ⟨m7, trivial, (ebk m m2).mp e, id⟩⟩)) (fun ⟨m, m1, m2, m3, _, m5, _⟩ => br_t rfl (H0 (fun y => y.2 m m1 m2 m3 ((ebk m m2).mpr m5))))
  unfold wpX_endIsRight
  refine pk_le b a (fun q => f34 (fun y => by omega)) (fun q => ?_)
  obtain ⟨j, rfl⟩ : ∃ j, b = j + 1 := ⟨b - 1, by omega⟩
  obtain ⟨k1, k2, k3⟩ := K j (by omega) (by omega)
  have ex : (nI (j + 1) - 1) * 14 + 0 = nI (j * 14) := by rw [nI_pred, Int32.add_zero]; exact pk_mul j 14
  rw [ex, nI_clamp (show j * 14 < 2 ^ 31 by omega)]
  refine And.intro (vp_in_nI (by omega) (by decide)) (hs_xIsOp k2 (fun op => br_f (by decide) ?_) (fun op => br_t rfl (f34 (fun _ => op))))
  unfold wX_endIsRight_35
  exact br_f (by decide) (H0 (fun y => y.1 (by omega) op))
end
end
section
/-! a line on X's side, whole -/
theorem hs_PAapp {pd : Nat → Int32} {e : Nat} : ∀ {A B : List Nat} {c : Nat}, hs_PA pd e c (A ++ B) → hs_PA pd (c + A.length) c A ∧ hs_PA pd e (c + A.length) B
  | [], B, c, h => ⟨by show c = c + 0; omega, h⟩
  | t :: r, B, c, h => by
    obtain ⟨h1, h2⟩ := hs_PAapp (A := r) h.2.2
    refine ⟨⟨h.1, h.2.1, ?_⟩, ?_⟩
    · rw [show c + (t :: r).length = c + 1 + r.length by simp only [List.length_cons]; omega]; exact h1
    · rw [show c + (t :: r).length = c + 1 + r.length by simp only [List.length_cons]; omega]; exact h2
/-- without a sign = the statement's kind does not matter -/
theorem hs_stepZ {w : Bool} {ts st : List Nat} (h : 26 ∉ ts) : hs_step true ts w st = hs_step false ts w st := by
  cases w with
  | true => rfl
  | false =>
    show hs_opr true ts st = hs_opr false ts st
    unfold hs_opr
    split
    · rfl
    · cases ts with
      | nil => rfl
      | cons t r =>
        show hs_opr1 true t r st = hs_opr1 false t r st
        unfold hs_opr1
        split
        · rfl
        split
        · cases r with
          | nil => rfl
          | cons n r1 =>
            show (if hs_isN n = true then _ else none) = (if hs_isN n = true then _ else none)
            split
            · split
              · rfl
              · have n26 : hs_hd r1 ≠ 26 := by
                  cases r1 with
                  | nil => decide
                  | cons a r2 =>
                    intro y
                    have y : a = 26 := y
                    exact h (by rw [y]; simp)
                rw [if_neg (fun y => n26 y.1), if_neg (fun y => n26 y.1)]
            · rfl
        · rfl
theorem hs_stepMem {z w w' : Bool} {ts st ts' st' : List Nat} {e : List (Nat × Nat)} (h : hs_step z ts w st = some (ts', w', st', e)) (hm : 26 ∉ ts) : 26 ∉ ts' := by
  rcases hs_stepSuf h with ⟨p, e1, _⟩ | ⟨n, e1, _⟩
  · exact fun y => hm (by rw [e1]; exact List.mem_append.mpr (Or.inr y))
  · exact fun y => hm (by rw [e1]; simp [y])
theorem hs_runZ : ∀ {n : Nat} {ts : List Nat} {w : Bool} {st : List Nat} {cd : List (Nat × Nat)} {rs fs : List Nat}, 26 ∉ ts → (hs_run n true ts w st cd rs fs ↔ hs_run n false ts w st cd rs fs) := by
  intro n
  induction n with
  | zero => intro ts w st cd rs fs _; exact Iff.rfl
  | succ n ih =>
    intro ts w st cd rs fs hm
    constructor
    · rintro (h | ⟨f, ts', w', st', e, cd', E, r, h⟩)
      · exact Or.inl h
      · exact Or.inr ⟨f, ts', w', st', e, cd', by rw [← hs_stepZ hm]; exact E, r, (ih (hs_stepMem E hm)).mp h⟩
    · rintro (h | ⟨f, ts', w', st', e, cd', E, r, h⟩)
      · exact Or.inl h
      · exact Or.inr ⟨f, ts', w', st', e, cd', by rw [hs_stepZ hm]; exact E, r, (ih (hs_stepMem E hm)).mpr h⟩
theorem hs_Sz {ts st rs fs : List Nat} {w : Bool} {cd : List (Nat × Nat)} (h : 26 ∉ ts) : hs_S true ts w st cd rs fs ↔ hs_S false ts w st cd rs fs := ⟨fun ⟨n, q⟩ => ⟨n, (hs_runZ h).mp q⟩, fun ⟨n, q⟩ => ⟨n, (hs_runZ h).mpr q⟩⟩
theorem hs_S5 {n : Nat} (hn : hs_isN n = true) {E fs : List Nat} {cd : List (Nat × Nat)} : hs_S true (24 :: n :: 26 :: E) false [] cd [] fs ↔ (fs = [5 + 64 * (n - 100)] ∧ hs_S false E true [] cd [] []) := by
  have st : hs_step true (24 :: n :: 26 :: E) false [] = some (E, true, [5 + 64 * (n - 100)], []) := by
    rw [hs_dotE]
    show (if hs_isN n = true then _ else none) = _
    rw [if_pos hn]
    rfl
  have nf : ¬ hs_fin (24 :: n :: 26 :: E) false [] := hs_step25 (z := true) (by decide)
  have hb : (5 + 64 * (n - 100)) % 64 = 5 := by omega
  rw [hs_Sstep nf st]
  constructor
  · rintro ⟨cd', e0, m, h⟩
    have e0 : cd = cd' := e0
    subst e0
    obtain ⟨fs', e1, h2⟩ := (hs_runB (st := []) hb).mp h
    have hS : hs_S false E true [] cd [] fs' := ⟨m, h2⟩
    have : fs' = [] := by
      rcases (hs_gstS hS).2 with q | ⟨q, _⟩
      · exact q
      · cases q
    subst this
    exact ⟨e1, hS⟩
  · rintro ⟨rfl, m, h⟩
    exact ⟨cd, rfl, m, (hs_runB (st := []) hb).mpr ⟨[], rfl, h⟩⟩
theorem hs_LFkd {k f s t : Int32} {cd : List (Nat × Nat)} : ∀ {ts : List Nat}, hs_LF k f s t cd ts → hs_kd k (hs_hd ts)
  | [], h => h.elim
  | h :: r, hL => by
    show hs_kd k h
    by_cases hw : 1 ≤ h ∧ h ≤ 11
    · have : h = 1 ∨ h = 2 ∨ h = 3 ∨ h = 4 ∨ h = 5 ∨ h = 6 ∨ h = 7 ∨ h = 8 ∨ h = 9 ∨ h = 10 ∨ h = 11 := by omega
      rcases this with rfl | rfl | rfl | rfl | rfl | rfl | rfl | rfl | rfl | rfl | rfl <;> exact Or.inl ⟨by decide, by decide, hL.1⟩
    · rw [hs_LFo hw] at hL
      refine Or.inr ⟨hw, ?_⟩
      split at hL
      · exact Or.inr (Or.inl hL.1)
      · split at hL
        · exact Or.inr (Or.inr (Or.inr hL.1))
        · rcases hL with hL | hL
          · exact Or.inl hL.1
          · exact Or.inr (Or.inr (Or.inl hL.1))
end
section
/-! the loop of keepChunk: one line -/
section
variable {x_objectLimit x_stepLimit x_depthLimit x_pendingCount x_keptTokens x_keptLines x_lineCount x_codeCount x_cursor x_stop x_waitingCount x_openCount x_classCount x_callCount x_operandCount x_stepsTaken x_error x_raisedCode x_printCount x_lastPlace : Int32} {x_lastResult : Int64} {x_pending x_lineTable x_orders x_merging x_letterClass x_objectClass x_calls x_lastPrints : Nat → Int32} {x_code x_waiting x_globals x_entries x_attributes x_held x_operands : Nat → Int64}
variable {y_maxObjects y_maxSteps y_maxDepth y_kept y_end y_tokens y_pending y_lines y_classes y_prints y_place y_steps y_d y_valTop y_opTop y_opens y_pos y_tk y_tv y_stmt y_target y_err y_code y_outcome y_dry y_want y_starting y_ended y_bad y_hosted y_sawSuper : Int32} {y_result : Int64} {y_text y_numbers y_classOf y_alive y_orders y_lengths y_letters y_bases y_ops y_fLine y_fPos y_fStmt y_fTarget y_fMask y_fHome y_fOps y_fVals y_fNew y_out : Nat → Int32} {y_globals y_entries y_attrs y_vals y_locals y_fRecv : Nat → Int64}
/-- what has been done to the row of line i so far -/
def hs_rk (LT' LT : Nat → Int32) (i : Nat) : Prop := ∀ k, (k < i * 14 ∨ i * 14 + 14 ≤ k ∨ k = i * 14 + 1 ∨ k = i * 14 + 2 ∨ k = i * 14 + 11 ∨ k = i * 14 + 12) → LT' k = LT k
theorem hs_x196 {pd LT : Nat → Int32} {cd : Nat → Int64} {h ind : Nat → Nat} {tk : Nat → List Nat} {a b i c e cc pn kl num n : Nat} {x2 x3 : Int32} {post : Int32 → SX → Prop}
    (hai : a ≤ i) (hib : i < b) (hb : b ≤ 405) (K : hs_IK LT h ind a i) (Q : hs_PR LT ind a i) (hind : LT (i * 14 + 1) = nI (ind i) ∧ ind i ≤ 8) (hnum : LT (i * 14 + 2) = nI num) (hT : LT (i * 14 + 11) = nI c) (hE : LT (i * 14 + 12) = nI e) (he : e ≤ 400) (hPA : hs_PA pd e c (tk i)) (hh : h i = hs_hd (tk i))
    (Hgood : hs_lok tk h ind a i → ∀ (q1 q2 q3 q4 : Int32) (q5 : Nat → Int64) (LT' : Nat → Int32) (cd' : Nat → Int64) (em : List (Nat × Nat)), (∀ k, (k < i * 14 ∨ i * 14 + 14 ≤ k ∨ k = i * 14 + 1 ∨ k = i * 14 + 2 ∨ k = i * 14 + 11 ∨ k = i * 14 + 12) → LT' k = LT k) → LT' (i * 14 + 3) = hs_oI (hs_pa ind a i) → LT' (i * 14 + 9) = nI cc → LT' (i * 14 + 10) = nI (cc + em.length) → hs_LF (LT' (i * 14)) (LT' (i * 14 + 5)) (LT' (i * 14 + 6)) (LT' (i * 14 + 7)) em (tk i) → hs_CA cd' cc em (cc + em.length) → (∀ k, k < cc → cd' k = cd k) → em.length ≤ (tk i).length → wX_keepChunk_21 post (nI a) x2 x3 n 0 (nI (i + 1)) x_objectLimit x_stepLimit x_depthLimit (nI pn) x_keptTokens (nI kl) (nI b) (nI (cc + em.length)) q1 q2 q3 q4 x_classCount x_callCount x_operandCount x_stepsTaken x_error x_raisedCode x_printCount x_lastResult x_lastPlace pd LT' cd' q5 x_globals x_entries x_orders x_merging x_letterClass x_objectClass x_attributes x_calls x_held x_operands x_lastPrints)
    (Hbad : ¬ hs_lok tk h ind a i → ∀ (q1 q2 q3 q4 : Int32) (q5 : Nat → Int64) (q6 : Int32) (LT' : Nat → Int32) (cd' : Nat → Int64), (∀ k, k < i * 14 → LT' k = LT k) → (∀ k, k < cc → cd' k = cd k) → wX_keepChunk_21 post (nI a) x2 x3 n (nI num) (nI (i + 1)) x_objectLimit x_stepLimit x_depthLimit (nI pn) x_keptTokens (nI kl) (nI b) q6 q1 q2 q3 q4 x_classCount x_callCount x_operandCount x_stepsTaken x_error x_raisedCode x_printCount x_lastResult x_lastPlace pd LT' cd' q5 x_globals x_entries x_orders x_merging x_letterClass x_objectClass x_attributes x_calls x_held x_operands x_lastPrints) (hno : ¬ hs_lok tk h ind a i) (q1 q2 q3 q4 : Int32) (q5 : Nat → Int64) {q6 : Int32} {LT' : Nat → Int32} {cd' : Nat → Int64} (hk : hs_rk LT' LT i) (hcd : ∀ k, k < cc → cd' k = cd k) : wX_keepChunk_196 post (wX_keepChunk_21 post (nI a) x2 x3 n) (nI a) x2 x3 (nI i) (nI (i * 14)) x_objectLimit x_stepLimit x_depthLimit (nI pn) x_keptTokens (nI kl) (nI b) q6 q1 q2 q3 q4 x_classCount x_callCount x_operandCount x_stepsTaken x_error x_raisedCode x_printCount x_lastResult x_lastPlace pd LT' cd' q5 x_globals x_entries x_orders x_merging x_letterClass x_objectClass x_attributes x_calls x_held x_operands x_lastPrints := by
  unfold wX_keepChunk_196
  have e2 : nI (i * 14) + 2 = nI (i * 14 + 2) := nI_add _ 2
  rw [e2, nI_clamp (show i * 14 + 2 < 2 ^ 31 by omega), hk _ (by omega), hnum]
  exact And.intro (vp_in_nI (by omega) (by decide)) (nm_e (nm_r (nI_1 i) (Hbad hno q1 q2 q3 q4 q5 q6 LT' cd' (fun k hk' => hk k (by omega)) hcd)))
theorem hs_x167b {pd LT : Nat → Int32} {cd : Nat → Int64} {h ind : Nat → Nat} {tk : Nat → List Nat} {a b i c e cc pn kl num n : Nat} {x2 x3 : Int32} {post : Int32 → SX → Prop}
    (hai : a ≤ i) (hib : i < b) (hb : b ≤ 405) (K : hs_IK LT h ind a i) (Q : hs_PR LT ind a i) (hind : LT (i * 14 + 1) = nI (ind i) ∧ ind i ≤ 8) (hnum : LT (i * 14 + 2) = nI num) (hT : LT (i * 14 + 11) = nI c) (hE : LT (i * 14 + 12) = nI e) (he : e ≤ 400) (hPA : hs_PA pd e c (tk i)) (hh : h i = hs_hd (tk i))
    (Hgood : hs_lok tk h ind a i → ∀ (q1 q2 q3 q4 : Int32) (q5 : Nat → Int64) (LT' : Nat → Int32) (cd' : Nat → Int64) (em : List (Nat × Nat)), (∀ k, (k < i * 14 ∨ i * 14 + 14 ≤ k ∨ k = i * 14 + 1 ∨ k = i * 14 + 2 ∨ k = i * 14 + 11 ∨ k = i * 14 + 12) → LT' k = LT k) → LT' (i * 14 + 3) = hs_oI (hs_pa ind a i) → LT' (i * 14 + 9) = nI cc → LT' (i * 14 + 10) = nI (cc + em.length) → hs_LF (LT' (i * 14)) (LT' (i * 14 + 5)) (LT' (i * 14 + 6)) (LT' (i * 14 + 7)) em (tk i) → hs_CA cd' cc em (cc + em.length) → (∀ k, k < cc → cd' k = cd k) → em.length ≤ (tk i).length → wX_keepChunk_21 post (nI a) x2 x3 n 0 (nI (i + 1)) x_objectLimit x_stepLimit x_depthLimit (nI pn) x_keptTokens (nI kl) (nI b) (nI (cc + em.length)) q1 q2 q3 q4 x_classCount x_callCount x_operandCount x_stepsTaken x_error x_raisedCode x_printCount x_lastResult x_lastPlace pd LT' cd' q5 x_globals x_entries x_orders x_merging x_letterClass x_objectClass x_attributes x_calls x_held x_operands x_lastPrints)
    (Hbad : ¬ hs_lok tk h ind a i → ∀ (q1 q2 q3 q4 : Int32) (q5 : Nat → Int64) (q6 : Int32) (LT' : Nat → Int32) (cd' : Nat → Int64), (∀ k, k < i * 14 → LT' k = LT k) → (∀ k, k < cc → cd' k = cd k) → wX_keepChunk_21 post (nI a) x2 x3 n (nI num) (nI (i + 1)) x_objectLimit x_stepLimit x_depthLimit (nI pn) x_keptTokens (nI kl) (nI b) q6 q1 q2 q3 q4 x_classCount x_callCount x_operandCount x_stepsTaken x_error x_raisedCode x_printCount x_lastResult x_lastPlace pd LT' cd' q5 x_globals x_entries x_orders x_merging x_letterClass x_objectClass x_attributes x_calls x_held x_operands x_lastPrints) (hno : ¬ hs_lok tk h ind a i) (q1 q2 q3 q4 : Int32) (q5 : Nat → Int64) {q6 : Int32} {LT' : Nat → Int32} {cd' : Nat → Int64} (hk : hs_rk LT' LT i) (hcd : ∀ k, k < cc → cd' k = cd k) : wX_keepChunk_167 post (wX_keepChunk_21 post (nI a) x2 x3 n) (nI a) x2 x3 0 (nI i) (nI (i * 14)) 0 x_objectLimit x_stepLimit x_depthLimit (nI pn) x_keptTokens (nI kl) (nI b) q6 q1 q2 q3 q4 x_classCount x_callCount x_operandCount x_stepsTaken x_error x_raisedCode x_printCount x_lastResult x_lastPlace pd LT' cd' q5 x_globals x_entries x_orders x_merging x_letterClass x_objectClass x_attributes x_calls x_held x_operands x_lastPrints := by
  unfold wX_keepChunk_167
  have e10 : nI (i * 14) + 10 = nI (i * 14 + 10) := nI_add _ 10
  rw [e10, nI_clamp (show i * 14 + 10 < 2 ^ 31 by omega)]
  refine And.intro (vp_in_nI (by omega) (by decide)) (nm_e (br_t rfl ?_))
  exact hs_x196 hai hib hb K Q hind hnum hT hE he hPA hh Hgood Hbad hno q1 q2 q3 q4 q5 (fun k hk' => by rw [pk_un (by omega)]; exact hk k hk') hcd
theorem hs_x167g {pd LT : Nat → Int32} {cd : Nat → Int64} {h ind : Nat → Nat} {tk : Nat → List Nat} {a b i c e cc pn kl num n : Nat} {x2 x3 : Int32} {post : Int32 → SX → Prop}
    (hai : a ≤ i) (hib : i < b) (hb : b ≤ 405) (K : hs_IK LT h ind a i) (Q : hs_PR LT ind a i) (hind : LT (i * 14 + 1) = nI (ind i) ∧ ind i ≤ 8) (hnum : LT (i * 14 + 2) = nI num) (hT : LT (i * 14 + 11) = nI c) (hE : LT (i * 14 + 12) = nI e) (he : e ≤ 400) (hPA : hs_PA pd e c (tk i)) (hh : h i = hs_hd (tk i))
    (Hgood : hs_lok tk h ind a i → ∀ (q1 q2 q3 q4 : Int32) (q5 : Nat → Int64) (LT' : Nat → Int32) (cd' : Nat → Int64) (em : List (Nat × Nat)), (∀ k, (k < i * 14 ∨ i * 14 + 14 ≤ k ∨ k = i * 14 + 1 ∨ k = i * 14 + 2 ∨ k = i * 14 + 11 ∨ k = i * 14 + 12) → LT' k = LT k) → LT' (i * 14 + 3) = hs_oI (hs_pa ind a i) → LT' (i * 14 + 9) = nI cc → LT' (i * 14 + 10) = nI (cc + em.length) → hs_LF (LT' (i * 14)) (LT' (i * 14 + 5)) (LT' (i * 14 + 6)) (LT' (i * 14 + 7)) em (tk i) → hs_CA cd' cc em (cc + em.length) → (∀ k, k < cc → cd' k = cd k) → em.length ≤ (tk i).length → wX_keepChunk_21 post (nI a) x2 x3 n 0 (nI (i + 1)) x_objectLimit x_stepLimit x_depthLimit (nI pn) x_keptTokens (nI kl) (nI b) (nI (cc + em.length)) q1 q2 q3 q4 x_classCount x_callCount x_operandCount x_stepsTaken x_error x_raisedCode x_printCount x_lastResult x_lastPlace pd LT' cd' q5 x_globals x_entries x_orders x_merging x_letterClass x_objectClass x_attributes x_calls x_held x_operands x_lastPrints)
    (Hbad : ¬ hs_lok tk h ind a i → ∀ (q1 q2 q3 q4 : Int32) (q5 : Nat → Int64) (q6 : Int32) (LT' : Nat → Int32) (cd' : Nat → Int64), (∀ k, k < i * 14 → LT' k = LT k) → (∀ k, k < cc → cd' k = cd k) → wX_keepChunk_21 post (nI a) x2 x3 n (nI num) (nI (i + 1)) x_objectLimit x_stepLimit x_depthLimit (nI pn) x_keptTokens (nI kl) (nI b) q6 q1 q2 q3 q4 x_classCount x_callCount x_operandCount x_stepsTaken x_error x_raisedCode x_printCount x_lastResult x_lastPlace pd LT' cd' q5 x_globals x_entries x_orders x_merging x_letterClass x_objectClass x_attributes x_calls x_held x_operands x_lastPrints) (hl : (tk i).length ≤ 40) (q1 q2 q3 q4 : Int32) (q5 : Nat → Int64) {LT' : Nat → Int32} {cd' : Nat → Int64} {em : List (Nat × Nat)} (hk : hs_rk LT' LT i) (h9 : LT' (i * 14 + 9) = nI cc) (hL : hs_LF (LT' (i * 14)) (LT' (i * 14 + 5)) (LT' (i * 14 + 6)) (LT' (i * 14 + 7)) em (tk i)) (hC : hs_CA cd' cc em (cc + em.length)) (hcd : ∀ k, k < cc → cd' k = cd k) (hem : em.length ≤ (tk i).length) : wX_keepChunk_167 post (wX_keepChunk_21 post (nI a) x2 x3 n) (nI a) x2 x3 0 (nI i) (nI (i * 14)) 1 x_objectLimit x_stepLimit x_depthLimit (nI pn) x_keptTokens (nI kl) (nI b) (nI (cc + em.length)) q1 q2 q3 q4 x_classCount x_callCount x_operandCount x_stepsTaken x_error x_raisedCode x_printCount x_lastResult x_lastPlace pd LT' cd' q5 x_globals x_entries x_orders x_merging x_letterClass x_objectClass x_attributes x_calls x_held x_operands x_lastPrints := by
  unfold wX_keepChunk_167
  have e10 : nI (i * 14) + 10 = nI (i * 14 + 10) := nI_add _ 10
  rw [e10, nI_clamp (show i * 14 + 10 < 2 ^ 31 by omega)]
  refine And.intro (vp_in_nI (by omega) (by decide)) (nm_e (br_f (by decide) ?_))
  have U : ∀ k, k ≠ i * 14 + 10 → upd LT' (i * 14 + 10) (nI (cc + em.length)) k = LT' k := fun k hk => pk_un hk
  have hk2 : hs_rk (upd LT' (i * 14 + 10) (nI (cc + em.length))) LT i := fun k hk' => by rw [U _ (by omega)]; exact hk k hk'
  have K2 : hs_IK (upd LT' (i * 14 + 10) (nI (cc + em.length))) h ind a (i + 1) := by
    intro j j1 j2
    by_cases ej : j = i
    · subst ej
      refine ⟨?_, ?_, hind.2⟩
      · rw [hk2 _ (by omega)]; exact hind.1
      · rw [U _ (by omega), hh]; exact hs_LFkd hL
    · rw [hk2 _ (by omega), hk2 _ (by omega)]
      exact K j j1 (by omega)
  have Q2 : hs_PR (upd LT' (i * 14 + 10) (nI (cc + em.length))) ind a i := by
    intro j j1 j2
    rw [hk2 _ (by omega)]
    exact Q j j1 j2
  refine hs_xStands (h := h) (ind := ind) (ts := tk i) hai (by omega) K2 Q2 ?_ ?_ he hPA ?_ hh (fun w => br_f (by decide) (nm_r (nI_1 i) ?_)) (fun w => br_t rfl ?_)
  · rw [hk2 _ (by omega)]; exact hT
  · rw [hk2 _ (by omega)]; exact hE
  · rw [U _ (by omega)]; exact hs_LF15 hL
  · refine Hgood ⟨hl, ⟨_, _, _, _, _, hL⟩, w⟩ q1 q2 q3 q4 q5 _ cd' em (fun k hk' => ?_) pk_us ?_ ?_ ?_ hC hcd hem
    · rw [pk_un (by omega)]; exact hk2 k hk'
    · rw [pk_un (by omega), U _ (by omega)]; exact h9
    · rw [pk_un (by omega), pk_us]
    · rw [pk_un (by omega), pk_un (by omega), pk_un (by omega), pk_un (by omega), pk_un (by omega), pk_un (by omega), pk_un (by omega), pk_un (by omega)]; exact hL
  · exact hs_x196 hai hib hb K Q hind hnum hT hE he hPA hh Hgood Hbad (fun y => w y.2.2) q1 q2 q3 q4 q5 (fun k hk' => by rw [pk_un (by omega)]; exact hk2 k hk') hcd
/-- reading the expression [c1, e1) of line i; what is read so far is e0 -/
theorem hs_x143 {pd LT : Nat → Int32} {cd : Nat → Int64} {h ind : Nat → Nat} {tk : Nat → List Nat} {a b i c e cc pn kl num n : Nat} {x2 x3 : Int32} {post : Int32 → SX → Prop}
    (hai : a ≤ i) (hib : i < b) (hb : b ≤ 405) (K : hs_IK LT h ind a i) (Q : hs_PR LT ind a i) (hind : LT (i * 14 + 1) = nI (ind i) ∧ ind i ≤ 8) (hnum : LT (i * 14 + 2) = nI num) (hT : LT (i * 14 + 11) = nI c) (hE : LT (i * 14 + 12) = nI e) (he : e ≤ 400) (hPA : hs_PA pd e c (tk i)) (hh : h i = hs_hd (tk i))
    (Hgood : hs_lok tk h ind a i → ∀ (q1 q2 q3 q4 : Int32) (q5 : Nat → Int64) (LT' : Nat → Int32) (cd' : Nat → Int64) (em : List (Nat × Nat)), (∀ k, (k < i * 14 ∨ i * 14 + 14 ≤ k ∨ k = i * 14 + 1 ∨ k = i * 14 + 2 ∨ k = i * 14 + 11 ∨ k = i * 14 + 12) → LT' k = LT k) → LT' (i * 14 + 3) = hs_oI (hs_pa ind a i) → LT' (i * 14 + 9) = nI cc → LT' (i * 14 + 10) = nI (cc + em.length) → hs_LF (LT' (i * 14)) (LT' (i * 14 + 5)) (LT' (i * 14 + 6)) (LT' (i * 14 + 7)) em (tk i) → hs_CA cd' cc em (cc + em.length) → (∀ k, k < cc → cd' k = cd k) → em.length ≤ (tk i).length → wX_keepChunk_21 post (nI a) x2 x3 n 0 (nI (i + 1)) x_objectLimit x_stepLimit x_depthLimit (nI pn) x_keptTokens (nI kl) (nI b) (nI (cc + em.length)) q1 q2 q3 q4 x_classCount x_callCount x_operandCount x_stepsTaken x_error x_raisedCode x_printCount x_lastResult x_lastPlace pd LT' cd' q5 x_globals x_entries x_orders x_merging x_letterClass x_objectClass x_attributes x_calls x_held x_operands x_lastPrints)
    (Hbad : ¬ hs_lok tk h ind a i → ∀ (q1 q2 q3 q4 : Int32) (q5 : Nat → Int64) (q6 : Int32) (LT' : Nat → Int32) (cd' : Nat → Int64), (∀ k, k < i * 14 → LT' k = LT k) → (∀ k, k < cc → cd' k = cd k) → wX_keepChunk_21 post (nI a) x2 x3 n (nI num) (nI (i + 1)) x_objectLimit x_stepLimit x_depthLimit (nI pn) x_keptTokens (nI kl) (nI b) q6 q1 q2 q3 q4 x_classCount x_callCount x_operandCount x_stepsTaken x_error x_raisedCode x_printCount x_lastResult x_lastPlace pd LT' cd' q5 x_globals x_entries x_orders x_merging x_letterClass x_objectClass x_attributes x_calls x_held x_operands x_lastPrints) (hcc : cc + (tk i).length ≤ 443) {z0 : Int32} {c1 e1 : Nat} {E : List Nat} (hP1 : hs_PA pd e1 c1 E) (he1 : e1 ≤ 400) (hlE : E.length ≤ 40) (ez : nI e - z0 = nI e1) (q1 q2 q3 q4 : Int32) (q5 : Nat → Int64) {LT' : Nat → Int32} {cd' : Nat → Int64} {e0 : List (Nat × Nat)} (hk : hs_rk LT' LT i) (h9 : LT' (i * 14 + 9) = nI cc) (hC : hs_CA cd' cc e0 (cc + e0.length)) (hcd : ∀ k, k < cc → cd' k = cd k) (hle : e0.length + E.length ≤ (tk i).length) (hl : (tk i).length ≤ 40)
    (HL : ∀ em, hs_S false E true [] em [] [] → hs_LF (LT' (i * 14)) (LT' (i * 14 + 5)) (LT' (i * 14 + 6)) (LT' (i * 14 + 7)) (e0 ++ em) (tk i)) (HN : (∀ em, ¬ hs_S false E true [] em [] []) → ∀ k f s t cd, ¬ hs_LF k f s t cd (tk i)) : wX_keepChunk_143 post (wX_keepChunk_21 post (nI a) x2 x3 n) (nI a) x2 x3 0 (nI i) (nI (i * 14)) (nI c1) z0 x_objectLimit x_stepLimit x_depthLimit (nI pn) x_keptTokens (nI kl) (nI b) (nI (cc + e0.length)) q1 q2 q3 q4 x_classCount x_callCount x_operandCount x_stepsTaken x_error x_raisedCode x_printCount x_lastResult x_lastPlace pd LT' cd' q5 x_globals x_entries x_orders x_merging x_letterClass x_objectClass x_attributes x_calls x_held x_operands x_lastPrints := by
  unfold wX_keepChunk_143
  have e12 : nI (i * 14) + 12 = nI (i * 14 + 12) := nI_add _ 12
  rw [e12, nI_clamp (show i * 14 + 12 < 2 ^ 31 by omega), hk _ (by omega), hE, ez]
  refine And.intro (vp_in_nI (by omega) (by decide)) (hs_xReadE (z := false) (w := true) (T := []) (st := []) (ts := E) (Or.inl rfl) he1 (Or.inl ⟨rfl, rfl⟩) rfl rfl hP1 (fun y => absurd y (by decide)) hlE (by omega) ?_ ?_)
  · intro em ok r1 r2 r3 wt' cd2 hC2 hcd2 hle2
    have hS : hs_S false E true [] em [] [] := by
      rcases ok with ⟨_, fs, hS⟩ | ⟨h, _⟩
      · rcases (hs_gstS hS).2 with q | ⟨q, _⟩
        · rw [q] at hS; exact hS
        · cases q
      · exact absurd rfl h
    have ee : cc + e0.length + em.length = cc + (e0 ++ em).length := by rw [List.length_append]; omega
    rw [ee] at hC2 ⊢
    exact hs_x167g hai hib hb K Q hind hnum hT hE he hPA hh Hgood Hbad hl _ _ _ _ _ hk h9 (HL em hS) (hs_CAapp (hs_CAupd hC (fun k _ hk => hcd2 k hk)) hC2) (fun k hk => (hcd2 k (by omega)).trans (hcd k hk)) (by rw [List.length_append]; simp only [List.length_nil] at hle2; omega)
  · intro hno r1 r2 r3 r4 wt' cd2 hcd2
    refine hs_x167b hai hib hb K Q hind hnum hT hE he hPA hh Hgood Hbad (fun y => ?_) _ _ _ _ _ hk (fun k hk => (hcd2 k (by omega)).trans (hcd k hk))
    obtain ⟨k, f, s, t, cd3, hL⟩ := y.2.1
    refine HN (fun em hS => ?_) k f s t cd3 hL
    exact hno em [] (by rw [List.append_nil]; exact hS)
theorem hs_oneLine {pd LT : Nat → Int32} {cd : Nat → Int64} {h ind : Nat → Nat} {tk : Nat → List Nat} {a b i c e cc pn kl num n : Nat} {x2 x3 : Int32} {post : Int32 → SX → Prop}
    (hai : a ≤ i) (hib : i < b) (hb : b ≤ 405) (K : hs_IK LT h ind a i) (Q : hs_PR LT ind a i) (hind : LT (i * 14 + 1) = nI (ind i) ∧ ind i ≤ 8) (hnum : LT (i * 14 + 2) = nI num) (hT : LT (i * 14 + 11) = nI c) (hE : LT (i * 14 + 12) = nI e) (he : e ≤ 400) (hPA : hs_PA pd e c (tk i)) (hh : h i = hs_hd (tk i))
    (Hgood : hs_lok tk h ind a i → ∀ (q1 q2 q3 q4 : Int32) (q5 : Nat → Int64) (LT' : Nat → Int32) (cd' : Nat → Int64) (em : List (Nat × Nat)), (∀ k, (k < i * 14 ∨ i * 14 + 14 ≤ k ∨ k = i * 14 + 1 ∨ k = i * 14 + 2 ∨ k = i * 14 + 11 ∨ k = i * 14 + 12) → LT' k = LT k) → LT' (i * 14 + 3) = hs_oI (hs_pa ind a i) → LT' (i * 14 + 9) = nI cc → LT' (i * 14 + 10) = nI (cc + em.length) → hs_LF (LT' (i * 14)) (LT' (i * 14 + 5)) (LT' (i * 14 + 6)) (LT' (i * 14 + 7)) em (tk i) → hs_CA cd' cc em (cc + em.length) → (∀ k, k < cc → cd' k = cd k) → em.length ≤ (tk i).length → wX_keepChunk_21 post (nI a) x2 x3 n 0 (nI (i + 1)) x_objectLimit x_stepLimit x_depthLimit (nI pn) x_keptTokens (nI kl) (nI b) (nI (cc + em.length)) q1 q2 q3 q4 x_classCount x_callCount x_operandCount x_stepsTaken x_error x_raisedCode x_printCount x_lastResult x_lastPlace pd LT' cd' q5 x_globals x_entries x_orders x_merging x_letterClass x_objectClass x_attributes x_calls x_held x_operands x_lastPrints)
    (Hbad : ¬ hs_lok tk h ind a i → ∀ (q1 q2 q3 q4 : Int32) (q5 : Nat → Int64) (q6 : Int32) (LT' : Nat → Int32) (cd' : Nat → Int64), (∀ k, k < i * 14 → LT' k = LT k) → (∀ k, k < cc → cd' k = cd k) → wX_keepChunk_21 post (nI a) x2 x3 n (nI num) (nI (i + 1)) x_objectLimit x_stepLimit x_depthLimit (nI pn) x_keptTokens (nI kl) (nI b) q6 q1 q2 q3 q4 x_classCount x_callCount x_operandCount x_stepsTaken x_error x_raisedCode x_printCount x_lastResult x_lastPlace pd LT' cd' q5 x_globals x_entries x_orders x_merging x_letterClass x_objectClass x_attributes x_calls x_held x_operands x_lastPrints) (hc : c + (tk i).length = e) (hne : tk i ≠ []) (hz : ∀ x, x ∈ tk i → x ≠ 0) (hcc : cc + (tk i).length ≤ 443) (hprev : c = 0 ∨ ∃ t, 40 ≤ t ∧ t ≤ 48 ∧ pd (c - 1) = nI t) (q1 q2 q3 q4 : Int32) (q5 : Nat → Int64) : wX_keepChunk_21 post (nI a) x2 x3 (n + 1) 0 (nI i) x_objectLimit x_stepLimit x_depthLimit (nI pn) x_keptTokens (nI kl) (nI b) (nI cc) q1 q2 q3 q4 x_classCount x_callCount x_operandCount x_stepsTaken x_error x_raisedCode x_printCount x_lastResult x_lastPlace pd LT cd q5 x_globals x_entries x_orders x_merging x_letterClass x_objectClass x_attributes x_calls x_held x_operands x_lastPrints := by
  have em : nI i * 14 = nI (i * 14) := pk_mul i 14
  have e0 : nI (i * 14) + 0 = nI (i * 14) := Int32.add_zero _
  have e9 : nI (i * 14) + 9 = nI (i * 14 + 9) := nI_add _ 9
  have e11 : nI (i * 14) + 11 = nI (i * 14 + 11) := nI_add _ 11
  have e13 : nI (i * 14) + 13 = nI (i * 14 + 13) := nI_add _ 13
  refine br_f (nI_ge hib (by omega)) (br_t rfl (nm_r em ?_))
  refine hs_xForm (R := i * 14) hPA hne hz he (by omega) hT hE hprev ?_ ?_
  rotate_left
  · intro hno LT1 hk1
    rw [e0, e9, e13, nI_clamp (show i * 14 < 2 ^ 31 by omega), nI_clamp (show i * 14 + 9 < 2 ^ 31 by omega), nI_clamp (show i * 14 + 13 < 2 ^ 31 by omega)]
    refine And.intro (vp_in_nI (by omega) (by decide)) (nm_e (And.intro (vp_in_nI (by omega) (by decide)) (nm_e (And.intro (vp_in_nI (by omega) (by decide)) (nm_e (br_t rfl ?_))))))
    unfold wX_keepChunk_120
    refine br_t rfl (hs_x167b hai hib hb K Q hind hnum hT hE he hPA hh Hgood Hbad (fun y => hno ⟨y.1, y.2.1⟩) _ _ _ _ _ (fun k hk => ?_) (fun _ _ => rfl))
    rw [pk_un (by omega)]
    exact hk1 k (by omega)
  intro l40 LT1 hk1 hX
  rw [e0, e9, e11, e13, nI_clamp (show i * 14 < 2 ^ 31 by omega), nI_clamp (show i * 14 + 9 < 2 ^ 31 by omega), nI_clamp (show i * 14 + 11 < 2 ^ 31 by omega), nI_clamp (show i * 14 + 13 < 2 ^ 31 by omega)]
  refine And.intro (vp_in_nI (by omega) (by decide)) (nm_e (And.intro (vp_in_nI (by omega) (by decide)) (nm_e (And.intro (vp_in_nI (by omega) (by decide)) (nm_e (br_f (by decide) ?_))))))
  have U : ∀ k, k ≠ i * 14 + 9 → upd LT1 (i * 14 + 9) (nI cc) k = LT1 k := fun k hk => pk_un hk
  have hk2 : hs_rk (upd LT1 (i * 14 + 9) (nI cc)) LT i := fun k hk => by rw [U _ (by omega)]; exact hk1 k (by omega)
  have h9 : upd LT1 (i * 14 + 9) (nI cc) (i * 14 + 9) = nI cc := pk_us
  have u0 : upd LT1 (i * 14 + 9) (nI cc) (i * 14) = LT1 (i * 14) := U _ (by omega)
  have u5 : upd LT1 (i * 14 + 9) (nI cc) (i * 14 + 5) = LT1 (i * 14 + 5) := U _ (by omega)
  have u6 : upd LT1 (i * 14 + 9) (nI cc) (i * 14 + 6) = LT1 (i * 14 + 6) := U _ (by omega)
  have u7 : upd LT1 (i * 14 + 9) (nI cc) (i * 14 + 7) = LT1 (i * 14 + 7) := U _ (by omega)
  -- no expression
  have noEx : LT1 (i * 14 + 13) = -1 → hs_LF (LT1 (i * 14)) (LT1 (i * 14 + 5)) (LT1 (i * 14 + 6)) (LT1 (i * 14 + 7)) [] (tk i) → wX_keepChunk_120 post (wX_keepChunk_21 post (nI a) x2 x3 n) (nI a) x2 x3 0 (nI i) (nI (i * 14)) 1 (LT1 (i * 14 + 13)) (LT1 (i * 14)) x_objectLimit x_stepLimit x_depthLimit (nI pn) x_keptTokens (nI kl) (nI b) (nI cc) (nI c) (nI e) q3 q4 x_classCount x_callCount x_operandCount x_stepsTaken x_error x_raisedCode x_printCount x_lastResult x_lastPlace pd (upd LT1 (i * 14 + 9) (nI cc)) cd q5 x_globals x_entries x_orders x_merging x_letterClass x_objectClass x_attributes x_calls x_held x_operands x_lastPrints := by
    intro hx hL
    unfold wX_keepChunk_120
    rw [hx]
    exact br_f (by decide) (br_t (by decide) (hs_x167g hai hib hb K Q hind hnum hT hE he hPA hh Hgood Hbad l40 _ _ _ _ _ (em := []) hk2 h9 (by rw [u0, u5, u6, u7]; exact hL) rfl (fun _ _ => rfl) (by simp)))
  have exp : ∀ (c1 e1 : Nat) (E : List Nat) (e0 : List (Nat × Nat)) (cd' : Nat → Int64) (q1 q2 q3 q4 : Int32) (q5 : Nat → Int64), LT1 (i * 14 + 13) = nI c1 → c1 < 1000 → hs_kd (LT1 (i * 14)) (h i) → (hs_isOp (h i) → e1 + 1 = e) → (¬ hs_isOp (h i) → e1 = e) → hs_PA pd e1 c1 E → hs_CA cd' cc e0 (cc + e0.length) → (∀ k, k < cc → cd' k = cd k) → e0.length + E.length ≤ (tk i).length →
      (∀ em, hs_S false E true [] em [] [] → hs_LF (LT1 (i * 14)) (LT1 (i * 14 + 5)) (LT1 (i * 14 + 6)) (LT1 (i * 14 + 7)) (e0 ++ em) (tk i)) → ((∀ em, ¬ hs_S false E true [] em [] []) → ∀ k f s t cd, ¬ hs_LF k f s t cd (tk i)) →
      wX_keepChunk_120 post (wX_keepChunk_21 post (nI a) x2 x3 n) (nI a) x2 x3 0 (nI i) (nI (i * 14)) 1 (LT1 (i * 14 + 13)) (LT1 (i * 14)) x_objectLimit x_stepLimit x_depthLimit (nI pn) x_keptTokens (nI kl) (nI b) (nI (cc + e0.length)) q1 q2 q3 q4 x_classCount x_callCount x_operandCount x_stepsTaken x_error x_raisedCode x_printCount x_lastResult x_lastPlace pd (upd LT1 (i * 14 + 9) (nI cc)) cd' q5 x_globals x_entries x_orders x_merging x_letterClass x_objectClass x_attributes x_calls x_held x_operands x_lastPrints := by
    intro c1 e1 E e0 cd' q1 q2 q3 q4 q5 hx hc1 hkd ho1 ho0 hP1 hC hcd hle HL HN
    unfold wX_keepChunk_120
    rw [hx]
    refine br_f (by decide) (br_f (nI_pos (by omega)) (hs_xIsOp hkd (fun op => br_f (by decide) ?_) (fun op => br_t rfl ?_)))
    · have := ho1 op
      exact hs_x143 hai hib hb K Q hind hnum hT hE he hPA hh Hgood Hbad hcc hP1 (by omega) (by omega) (show nI e - 1 = nI e1 by rw [← this, nI_pred]) _ _ _ _ _ hk2 h9 hC hcd hle l40 (fun em hS => by rw [u0, u5, u6, u7]; exact HL em hS) HN
    · have := ho0 op
      exact hs_x143 hai hib hb K Q hind hnum hT hE he hPA hh Hgood Hbad hcc hP1 (by omega) (by omega) (show nI e - 0 = nI e1 by rw [this, Int32.sub_zero]) _ _ _ _ _ hk2 h9 hC hcd hle l40 (fun em hS => by rw [u0, u5, u6, u7]; exact HL em hS) HN
  have notOp : ∀ w : Nat, h i = w → ¬ hs_isOp w → ¬ hs_isOp (h i) := fun w e1 e2 => by rw [e1]; exact e2
  have bad0 : ¬ hs_lok tk h ind a i → ∀ (q1 q2 q3 q4 : Int32) (q5 : Nat → Int64) (q6 : Int32) (cd' : Nat → Int64), (∀ k, k < cc → cd' k = cd k) → wX_keepChunk_167 post (wX_keepChunk_21 post (nI a) x2 x3 n) (nI a) x2 x3 0 (nI i) (nI (i * 14)) 0 x_objectLimit x_stepLimit x_depthLimit (nI pn) x_keptTokens (nI kl) (nI b) q6 q1 q2 q3 q4 x_classCount x_callCount x_operandCount x_stepsTaken x_error x_raisedCode x_printCount x_lastResult x_lastPlace pd (upd LT1 (i * 14 + 9) (nI cc)) cd' q5 x_globals x_entries x_orders x_merging x_letterClass x_objectClass x_attributes x_calls x_held x_operands x_lastPrints := fun hno q1 q2 q3 q4 q5 q6 cd' hcd => hs_x167b hai hib hb K Q hind hnum hT hE he hPA hh Hgood Hbad hno q1 q2 q3 q4 q5 hk2 hcd
  generalize hts : tk i = ts at *
  cases ts with
  | nil => exact absurd rfl hne
  | cons w r =>
    have hhw : h i = w := hh
    have lenr : (w :: r).length = r.length + 1 := rfl
    have hP1 : hs_PA pd e (c + 1) r := hPA.2.2
    by_cases hw : 1 ≤ w ∧ w ≤ 11
    · have hwl : w = 1 ∨ w = 2 ∨ w = 3 ∨ w = 4 ∨ w = 5 ∨ w = 6 ∨ w = 7 ∨ w = 8 ∨ w = 9 ∨ w = 10 ∨ w = 11 := by omega
      rcases hwl with rfl | rfl | rfl | rfl | rfl | rfl | rfl | rfl | rfl | rfl | rfl
      · obtain ⟨k1, k2, k3⟩ : LT1 (i * 14) = 1 ∧ LT1 (i * 14 + 13) = -1 ∧ hs_CH (LT1 (i * 14 + 5)) (LT1 (i * 14 + 6)) (LT1 (i * 14 + 7)) r := hX
        exact br_f (by rw [k1]; decide) (noEx k2 ⟨k1, rfl, k3⟩)
      · obtain ⟨k1, k2, k3⟩ : LT1 (i * 14) = 2 ∧ LT1 (i * 14 + 13) = -1 ∧ hs_DH (LT1 (i * 14 + 5)) (LT1 (i * 14 + 6)) (LT1 (i * 14 + 7)) r := hX
        exact br_f (by rw [k1]; decide) (noEx k2 ⟨k1, rfl, k3⟩)
      · obtain ⟨k1, k2⟩ : LT1 (i * 14) = nI 3 ∧ LT1 (i * 14 + 13) = nI (c + 1) := hX
        have nop : ¬ hs_isOp (h i) := notOp 3 hhw (by rintro (q | q | q) <;> omega)
        refine br_f (by rw [k1]; decide) (exp (c + 1) e r [] cd _ _ _ _ _ k2 (by omega) (by rw [hhw, k1]; exact Or.inl ⟨by decide, by decide, rfl⟩) (fun y => absurd y nop) (fun _ => rfl) hP1 rfl (fun _ _ => rfl) (by rw [lenr]; simp) (fun em hS => ⟨k1, hS⟩) (fun hno k f s t cd hL => ?_))
        obtain ⟨_, hS⟩ : k = nI 3 ∧ hs_S false r true [] cd [] [] := hL
        exact hno _ hS
      · obtain ⟨k1, k2, r', er⟩ : LT1 (i * 14) = nI 4 ∧ LT1 (i * 14 + 13) = nI (c + 1) ∧ ∃ r', r = r' ++ [25] := hX
        have yop : hs_isOp (h i) := by rw [hhw]; exact Or.inr (Or.inr (by decide))
        rw [er] at hP1
        obtain ⟨hPa, hPb⟩ := hs_PAapp hP1
        have hPb : c + 1 + r'.length + 1 = e := hPb.2.2
        have lr : r.length = r'.length + 1 := by rw [er]; simp
        refine br_f (by rw [k1]; decide) (exp (c + 1) (c + 1 + r'.length) r' [] cd _ _ _ _ _ k2 (by omega) (by rw [hhw, k1]; exact Or.inl ⟨by decide, by decide, rfl⟩) (fun _ => hPb) (fun y => absurd yop y) hPa rfl (fun _ _ => rfl) (by rw [lenr, lr]; simp only [List.length_nil]; omega) (fun em hS => ⟨k1, r', er, hS⟩) (fun hno k f s t cd hL => ?_))
        obtain ⟨_, r2, er2, hS⟩ : k = nI 4 ∧ ∃ r', r = r' ++ [25] ∧ hs_S false r' true [] cd [] [] := hL
        have : r' = r2 := by
          rw [er] at er2
          exact List.append_cancel_right er2
        rw [← this] at hS
        exact hno _ hS
      · obtain ⟨k1, k2, k3⟩ : LT1 (i * 14) = nI 5 ∧ LT1 (i * 14 + 13) = -1 ∧ r = [25] := hX
        exact br_f (by rw [k1]; decide) (noEx k2 ⟨k1, k3, rfl⟩)
      · obtain ⟨k1, k2, r', er⟩ : LT1 (i * 14) = nI 6 ∧ LT1 (i * 14 + 13) = nI (c + 1) ∧ ∃ r', r = r' ++ [25] := hX
        have yop : hs_isOp (h i) := by rw [hhw]; exact Or.inr (Or.inr (by decide))
        rw [er] at hP1
        obtain ⟨hPa, hPb⟩ := hs_PAapp hP1
        have hPb : c + 1 + r'.length + 1 = e := hPb.2.2
        have lr : r.length = r'.length + 1 := by rw [er]; simp
        refine br_f (by rw [k1]; decide) (exp (c + 1) (c + 1 + r'.length) r' [] cd _ _ _ _ _ k2 (by omega) (by rw [hhw, k1]; exact Or.inl ⟨by decide, by decide, rfl⟩) (fun _ => hPb) (fun y => absurd yop y) hPa rfl (fun _ _ => rfl) (by rw [lenr, lr]; simp only [List.length_nil]; omega) (fun em hS => ⟨k1, r', er, hS⟩) (fun hno k f s t cd hL => ?_))
        obtain ⟨_, r2, er2, hS⟩ : k = nI 6 ∧ ∃ r', r = r' ++ [25] ∧ hs_S false r' true [] cd [] [] := hL
        have : r' = r2 := by
          rw [er] at er2
          exact List.append_cancel_right er2
        rw [← this] at hS
        exact hno _ hS
      · obtain ⟨k1, k2, k3⟩ : LT1 (i * 14) = nI 7 ∧ LT1 (i * 14 + 13) = -1 ∧ r = [25] := hX
        exact br_f (by rw [k1]; decide) (noEx k2 ⟨k1, k3, rfl⟩)
      · obtain ⟨k1, k2, k3⟩ : LT1 (i * 14) = 8 ∧ LT1 (i * 14 + 13) = -1 ∧ ∃ n, r = [n, 25] ∧ hs_isN n = true ∧ LT1 (i * 14 + 5) = nI (n - 100) := hX
        exact br_f (by rw [k1]; decide) (noEx k2 ⟨k1, rfl, k3⟩)
      · obtain ⟨k1, k2⟩ : LT1 (i * 14) = nI 9 ∧ LT1 (i * 14 + 13) = nI (c + 1) := hX
        have nop : ¬ hs_isOp (h i) := notOp 9 hhw (by rintro (q | q | q) <;> omega)
        refine br_f (by rw [k1]; decide) (exp (c + 1) e r [] cd _ _ _ _ _ k2 (by omega) (by rw [hhw, k1]; exact Or.inl ⟨by decide, by decide, rfl⟩) (fun y => absurd y nop) (fun _ => rfl) hP1 rfl (fun _ _ => rfl) (by rw [lenr]; simp) (fun em hS => ⟨k1, hS⟩) (fun hno k f s t cd hL => ?_))
        obtain ⟨_, hS⟩ : k = nI 9 ∧ hs_S false r true [] cd [] [] := hL
        exact hno _ hS
      · obtain ⟨k1, k2, k3⟩ : LT1 (i * 14) = 10 ∧ LT1 (i * 14 + 13) = -1 ∧ r = [] := hX
        exact br_f (by rw [k1]; decide) (noEx k2 ⟨k1, k3, rfl⟩)
      · obtain ⟨k1, k2⟩ : LT1 (i * 14) = nI 11 ∧ LT1 (i * 14 + 13) = nI (c + 1) := hX
        have nop : ¬ hs_isOp (h i) := notOp 11 hhw (by rintro (q | q | q) <;> omega)
        refine br_f (by rw [k1]; decide) (exp (c + 1) e r [] cd _ _ _ _ _ k2 (by omega) (by rw [hhw, k1]; exact Or.inl ⟨by decide, by decide, rfl⟩) (fun y => absurd y nop) (fun _ => rfl) hP1 rfl (fun _ _ => rfl) (by rw [lenr]; simp) (fun em hS => ⟨k1, hS⟩) (fun hno k f s t cd hL => ?_))
        obtain ⟨_, hS⟩ : k = nI 11 ∧ hs_S false r true [] cd [] [] := hL
        exact hno _ hS
    · have nop : ¬ hs_isOp (h i) := by rw [hhw]; rintro (q | q | q) <;> omega
      rw [hs_XFo hw] at hX
      rcases hX with ⟨k1, k2, k3⟩ | ⟨k1, k2, m, E, eE, hm, k3⟩ | ⟨k1, k2, q, m, E, eE, hq, hm, k3, k4⟩ | ⟨k1, A, m, E, eE, hA, hAn, hm, hno1, k3, k2⟩
      · have c1 : ¬ (hs_isN w = true ∧ hs_hd r = 26) := by
          rintro ⟨_, y⟩
          cases r with
          | nil => cases y
          | cons b2 r2 =>
            have y : b2 = 26 := y
            exact k3 (by rw [y]; simp)
        have c2 : ¬ (hs_isC w = true ∧ hs_hd r = 24 ∧ hs_isN (hs_hd r.tail) = true ∧ hs_hd r.tail.tail = 26) := by
          intro y
          obtain ⟨_, n', r1, er, _⟩ := hs_plainI.mpr y
          exact k3 (by rw [er]; simp)
        refine br_f (by rw [k1]; decide) (exp c e (w :: r) [] cd _ _ _ _ _ k2 (by omega) (by rw [hhw, k1]; exact Or.inr ⟨hw, Or.inl rfl⟩) (fun y => absurd y nop) (fun _ => rfl) hPA rfl (fun _ _ => rfl) (by simp) (fun em hS => ?_) (fun hno k f s t cd hL => ?_))
        · rw [hs_LFo hw, if_neg c1, if_neg c2]
          exact Or.inl ⟨k1, (hs_Sz k3).mpr hS⟩
        · rw [hs_LFo hw, if_neg c1, if_neg c2] at hL
          rcases hL with ⟨_, hS⟩ | ⟨_, n', hn', _, hS⟩
          · exact hno _ ((hs_Sz k3).mp hS)
          · have hS2 := (hs_Sz k3).mp hS
            rcases (hs_gstS hS2).2 with y | ⟨y, _⟩
            · cases y
            · cases y
      · have e1 := List.cons.inj eE
        have er := e1.2
        subst er
        have hwm : w = m := e1.1
        have hm' : hs_isN w = true := by rw [hwm]; exact hm
        refine br_f (by rw [k1]; decide) (exp (c + 2) e E [] cd _ _ _ _ _ k2 (by omega) (by rw [hhw, k1]; exact Or.inr ⟨hw, Or.inr (Or.inl rfl)⟩) (fun y => absurd y nop) (fun _ => rfl) hP1.2.2 rfl (fun _ _ => rfl) (by simp; omega) (fun em hS => ?_) (fun hno k f s t cd hL => ?_))
        · rw [hs_LFo hw, if_pos ⟨hm', rfl⟩]
          exact ⟨k1, by rw [k3, hwm], hS⟩
        · rw [hs_LFo hw, if_pos ⟨hm', rfl⟩] at hL
          exact hno _ hL.2.2
      · have e1 := List.cons.inj eE
        have er := e1.2
        subst er
        have hwq : w = q := e1.1
        have hq' : hs_isC w = true := by rw [hwq]; exact hq
        have c1 : ¬ (hs_isN w = true ∧ hs_hd (24 :: m :: 26 :: E) = 26) := fun y => by
          have : (24 : Nat) = 26 := y.2
          cases this
        refine br_f (by rw [k1]; decide) (exp (c + 4) e E [] cd _ _ _ _ _ k2 (by omega) (by rw [hhw, k1]; exact Or.inr ⟨hw, Or.inr (Or.inr (Or.inr rfl))⟩) (fun y => absurd y nop) (fun _ => rfl) hP1.2.2.2.2.2.2 rfl (fun _ _ => rfl) (by simp; omega) (fun em hS => ?_) (fun hno k f s t cd hL => ?_))
        · rw [hs_LFo hw, if_neg c1, if_pos ⟨hq', rfl, hm, rfl⟩]
          exact ⟨k1, k3, by rw [k4, hwq], hS⟩
        · rw [hs_LFo hw, if_neg c1, if_pos ⟨hq', rfl, hm, rfl⟩] at hL
          exact hno _ hL.2.2.2
      · -- an attribute is set: two readings
        have lA : (w :: r).length = A.length + 3 + E.length := by rw [eE]; simp; omega
        have c1 : ¬ (hs_isN w = true ∧ hs_hd r = 26) := by
          rintro ⟨_, y⟩
          cases A with
          | nil => exact hAn rfl
          | cons b1 A1 =>
            have e1 := (List.cons.inj eE).2
            rw [e1] at y
            cases A1 with
            | nil => have y : (24 : Nat) = 26 := y; cases y
            | cons b2 A2 =>
              have y : b2 = 26 := y
              exact hA (by rw [y]; simp)
        have c2 : ¬ (hs_isC w = true ∧ hs_hd r = 24 ∧ hs_isN (hs_hd r.tail) = true ∧ hs_hd r.tail.tail = 26) := by
          intro y
          obtain ⟨hc', n', r1, er, _⟩ := hs_plainI.mpr y
          refine hno1 ⟨?_, hc'⟩
          cases A with
          | nil => exact absurd rfl hAn
          | cons b1 A1 =>
            have e1 := (List.cons.inj eE).2
            rw [er] at e1
            cases A1 with
            | nil => rfl
            | cons b2 A2 =>
              exfalso
              have e2 := (List.cons.inj e1).2
              cases A2 with
              | nil =>
                have h1 := (List.cons.inj e2).1
                have h2 := (List.cons.inj (List.cons.inj e2).2).1
                have := hs_tkN hm
                omega
              | cons b3 A3 =>
                have e3 := (List.cons.inj e2).2
                cases A3 with
                | nil => have := (List.cons.inj e3).1; cases this
                | cons b4 A4 =>
                  have := (List.cons.inj e3).1
                  exact hA (by rw [← this]; simp)
        have hPX := hPA
        rw [eE] at hPX
        obtain ⟨hPa, hPb⟩ := hs_PAapp hPX
        have hPc : hs_PA pd e (c + A.length + 3) E := hPb.2.2.2.2.2.2
        have LFi : ∀ k f s t cd, hs_LF k f s t cd (w :: r) → ∃ fs, hs_S true (A ++ 24 :: m :: 26 :: E) true [] cd [] fs := by
          intro k f s t cd hL
          rw [hs_LFo hw, if_neg c1, if_neg c2, eE] at hL
          rcases hL with ⟨_, hS⟩ | ⟨_, n', _, _, hS⟩
          · exact ⟨_, hS⟩
          · exact ⟨_, hS⟩
        refine br_t k1 (And.intro (vp_in_nI (by omega) (by decide)) ?_)
        have eT : upd LT1 (i * 14 + 9) (nI cc) (i * 14 + 11) = nI c := by rw [hk2 _ (by omega)]; exact hT
        have e3 : nI (c + A.length + 3) - 3 = nI (c + A.length) := pk_sub (b := 3) (by omega)
        rw [eT, k2, e3, ← k2]
        refine hs_xReadE (z := true) (w := true) (T := 24 :: m :: 26 :: E) (st := []) (ts := A) (Or.inr ⟨m, E, rfl, hm⟩) (by omega) (Or.inr ⟨by decide, by simp⟩) rfl rfl hPa (fun _ => hA) (by omega) (by omega) ?_ ?_
        · intro e0 ok r1 r2 r3 wt' cd2 hC2 hcd2 hle2
          have hR : hs_Rr true (24 :: m :: 26 :: E) A true [] [] false [] e0 := by
            rcases ok with ⟨h, _⟩ | ⟨_, h⟩
            · cases h
            · exact h
          simp only [List.length_nil] at hle2
          refine exp (c + A.length + 3) e E e0 cd2 _ _ _ _ _ k2 (by omega) (by rw [hhw, k1]; exact Or.inr ⟨hw, Or.inr (Or.inr (Or.inl rfl))⟩) (fun y => absurd y nop) (fun _ => rfl) hPc hC2 hcd2 (by omega) (fun em hS => ?_) (fun hno k f s t cd hL => ?_)
          · rw [hs_LFo hw, if_neg c1, if_neg c2, eE]
            exact Or.inr ⟨k1, m, hm, k3, (hR _ _).mpr ⟨em, rfl, (hs_S5 hm).mpr ⟨rfl, hS⟩⟩⟩
          · obtain ⟨fs, hS⟩ := LFi k f s t cd hL
            obtain ⟨cd', _, hS2⟩ := (hR _ _).mp hS
            exact hno _ ((hs_S5 hm).mp hS2).2
        · intro hno r1 r2 r3 r4 wt' cd2 hcd2
          unfold wX_keepChunk_120
          refine br_t rfl (bad0 (fun y => ?_) _ _ _ _ _ _ _ hcd2)
          obtain ⟨k, f, s, t, cd3, hL⟩ := y.2.1
          rw [hts] at hL
          obtain ⟨fs, hS⟩ := LFi k f s t cd3 hL
          exact hno _ _ hS
end
end
section
/-! the blocks are closed: X's last loop over a chunk -/
section
variable {x_objectLimit x_stepLimit x_depthLimit x_pendingCount x_keptTokens x_keptLines x_lineCount x_codeCount x_cursor x_stop x_waitingCount x_openCount x_classCount x_callCount x_operandCount x_stepsTaken x_error x_raisedCode x_printCount x_lastPlace : Int32} {x_lastResult : Int64} {x_pending x_lineTable x_orders x_merging x_letterClass x_objectClass x_calls x_lastPrints : Nat → Int32} {x_code x_waiting x_globals x_entries x_attributes x_held x_operands : Nat → Int64}
variable {y_maxObjects y_maxSteps y_maxDepth y_kept y_end y_tokens y_pending y_lines y_classes y_prints y_place y_steps y_d y_valTop y_opTop y_opens y_pos y_tk y_tv y_stmt y_target y_err y_code y_outcome y_dry y_want y_starting y_ended y_bad y_hosted y_sawSuper : Int32} {y_result : Int64} {y_text y_numbers y_classOf y_alive y_orders y_lengths y_letters y_bases y_ops y_fLine y_fPos y_fStmt y_fTarget y_fMask y_fHome y_fOps y_fVals y_fNew y_out : Nat → Int32} {y_globals y_entries y_attrs y_vals y_locals y_fRecv : Nat → Int64}
/-- the name that a line sets, if it sets one -/
def hs_lb : List Nat → Option Nat
  | [] => none
  | h :: r => if h = 8 then some (hs_hd r - 100) else if hs_isN h = true ∧ hs_hd r = 26 then some (h - 100) else none
def hs_lm1 (m : Int32) : Option Nat → Int32
  | none => m
  | some f => m ||| ((1 : Int32) <<< (nI f &&& 31))
def hs_lms (tk : Nat → List Nat) : Nat → Nat → Int32 → Int32
  | 0, _, m => m
  | n + 1, j, m => hs_lms tk n (j + 1) (hs_lm1 m (hs_lb (tk j)))
/-- the names of a def line's parameters -/
def hs_lpar (ts : List Nat) : Int32 := if hs_hd (ts.drop 4) = 23 then ((1 : Int32) <<< (nI (hs_hd (ts.drop 3) - 100) &&& 31)) ||| ((1 : Int32) <<< (nI (hs_hd (ts.drop 5) - 100) &&& 31)) else (1 : Int32) <<< (nI (hs_hd (ts.drop 3) - 100) &&& 31)
def hs_lmask (tk : Nat → List Nat) (ind : Nat → Nat) (b i : Nat) : Int32 := hs_lms tk (hs_bk ind b i - (i + 1)) (i + 1) (hs_lpar (tk i))
/-- a line's row says what its tokens say -/
def hs_LR (LT : Nat → Int32) (tk : Nat → List Nat) (j : Nat) : Prop := ∃ e, hs_LF (LT (j * 14)) (LT (j * 14 + 5)) (LT (j * 14 + 6)) (LT (j * 14 + 7)) e (tk j)
theorem hs_LF8 {k f s t : Int32} {cd : List (Nat × Nat)} {ts : List Nat} (hL : hs_LF k f s t cd ts) : (k = 15 → ∃ m, hs_lb ts = some m ∧ f = nI m) ∧ (k = 8 → ∃ m, hs_lb ts = some m ∧ f = nI m) ∧ (k ≠ 15 → k ≠ 8 → hs_lb ts = none) := by
  have h15 := hs_LF15 hL
  have hkd := hs_LFkd hL
  cases ts with
  | nil => exact hL.elim
  | cons h r =>
    have hkd : hs_kd k h := hkd
    have e8 := hs_kdE (w := 8) hkd (by decide)
    refine ⟨fun e => ?_, fun e => ?_, fun n15 n8 => ?_⟩
    · have s15 : hs_isN h = true ∧ hs_hd r = 26 := h15.mp e
      have tn := hs_tkN s15.1
      have hw : ¬ (1 ≤ h ∧ h ≤ 11) := by omega
      rw [hs_LFo hw, if_pos s15] at hL
      refine ⟨h - 100, ?_, hL.2.1⟩
      show (if h = 8 then _ else if hs_isN h = true ∧ hs_hd r = 26 then some (h - 100) else none) = _
      rw [if_neg (by omega), if_pos s15]
    · have h8 := e8.mp e
      subst h8
      obtain ⟨_, _, n, er, hn, hf⟩ : k = 8 ∧ cd = [] ∧ ∃ n, r = [n, 25] ∧ hs_isN n = true ∧ f = nI (n - 100) := hL
      refine ⟨n - 100, ?_, hf⟩
      rw [er]; rfl
    · show (if h = 8 then _ else if hs_isN h = true ∧ hs_hd r = 26 then some (h - 100) else none) = _
      have n15' : ¬ (hs_isN h = true ∧ hs_hd r = 26) := fun y => n15 (h15.mpr y)
      rw [if_neg (fun y => n8 (e8.mpr y)), if_neg n15']
theorem hs_xLoc0 {LT : Nat → Int32} {tk : Nat → List Nat} {en : Nat} (hen : en ≤ 405) {post : Int32 → Prop} : ∀ (n j : Nat) (m : Int32), j + n = en → (∀ k, j ≤ k → k < en → hs_LR LT tk k) → post (hs_lms tk n j m) → wX_localNames_36 post (nI en) x_objectLimit x_stepLimit x_depthLimit x_pendingCount x_keptTokens x_keptLines x_lineCount x_codeCount x_cursor x_stop x_waitingCount x_openCount x_classCount x_callCount x_operandCount x_stepsTaken x_error x_raisedCode x_printCount x_lastResult x_lastPlace x_pending LT x_code x_waiting x_globals x_entries x_orders x_merging x_letterClass x_objectClass x_attributes x_calls x_held x_operands x_lastPrints (n + 1) m (nI j) := by
  intro n
  induction n with
  | zero =>
    intro j m hj _ H
    exact br_t (nI_le (by omega) (by omega)) H
  | succ n ih =>
    intro j m hj hK H
    refine br_f (nI_ge (by omega) (by omega)) (hs_xOf (c := 0) (by omega) ?_)
    obtain ⟨e, hL⟩ := hK j (Nat.le_refl _) (by omega)
    obtain ⟨l1, l2, l3⟩ := hs_LF8 hL
    have nx : ∀ m', post (hs_lms tk n (j + 1) m') → wX_localNames_36 post (nI en) x_objectLimit x_stepLimit x_depthLimit x_pendingCount x_keptTokens x_keptLines x_lineCount x_codeCount x_cursor x_stop x_waitingCount x_openCount x_classCount x_callCount x_operandCount x_stepsTaken x_error x_raisedCode x_printCount x_lastResult x_lastPlace x_pending LT x_code x_waiting x_globals x_entries x_orders x_merging x_letterClass x_objectClass x_attributes x_calls x_held x_operands x_lastPrints (n + 1) m' (nI (j + 1)) := fun m' H' => ih (j + 1) m' (by omega) (fun k k1 k2 => hK k (by omega) k2) H'
    have H : post (hs_lms tk n (j + 1) (hs_lm1 m (hs_lb (tk j)))) := H
    have add : ∀ mm, hs_lb (tk j) = some mm → LT (j * 14 + 5) = nI mm → wX_localNames_65 post (wX_localNames_36 post (nI en) x_objectLimit x_stepLimit x_depthLimit x_pendingCount x_keptTokens x_keptLines x_lineCount x_codeCount x_cursor x_stop x_waitingCount x_openCount x_classCount x_callCount x_operandCount x_stepsTaken x_error x_raisedCode x_printCount x_lastResult x_lastPlace x_pending LT x_code x_waiting x_globals x_entries x_orders x_merging x_letterClass x_objectClass x_attributes x_calls x_held x_operands x_lastPrints (n + 1)) (nI en) m (nI j) x_objectLimit x_stepLimit x_depthLimit x_pendingCount x_keptTokens x_keptLines x_lineCount x_codeCount x_cursor x_stop x_waitingCount x_openCount x_classCount x_callCount x_operandCount x_stepsTaken x_error x_raisedCode x_printCount x_lastResult x_lastPlace x_pending LT x_code x_waiting x_globals x_entries x_orders x_merging x_letterClass x_objectClass x_attributes x_calls x_held x_operands x_lastPrints := by
      intro mm e1 e2
      unfold wX_localNames_65
      refine hs_xOf (c := 5) (by omega) ?_
      rw [e2]
      rw [e1] at H
      exact nm_e (nm_r (nI_1 j) (nx _ H))
    rw [show j * 14 + 0 = j * 14 from rfl]
    refine br_c (fun q => ?_) (fun q => br_c (fun q8 => ?_) (fun q8 => nm_r (nI_1 j) (nx m ?_)))
    · obtain ⟨mm, e1, e2⟩ := l1 q
      exact add mm e1 e2
    · obtain ⟨mm, e1, e2⟩ := l2 q8
      exact add mm e1 e2
    · rw [l3 q q8] at H; exact H
theorem hs_xLoc {LT : Nat → Int32} {tk : Nat → List Nat} {i en : Nat} (hi : i < en) (hen : en ≤ 405) (hK : ∀ k, i ≤ k → k < en → hs_LR LT tk k) (h2 : LT (i * 14) = 2) {post : Int32 → Prop} (H : post (hs_lms tk (en - (i + 1)) (i + 1) (hs_lpar (tk i)))) : wpX_localNames post (x_objectLimit, x_stepLimit, x_depthLimit, x_pendingCount, x_keptTokens, x_keptLines, x_lineCount, x_codeCount, x_cursor, x_stop, x_waitingCount, x_openCount, x_classCount, x_callCount, x_operandCount, x_stepsTaken, x_error, x_raisedCode, x_printCount, x_lastResult, x_lastPlace, x_pending, LT, x_code, x_waiting, x_globals, x_entries, x_orders, x_merging, x_letterClass, x_objectClass, x_attributes, x_calls, x_held, x_operands, x_lastPrints) (nI i) (nI en) := by
  obtain ⟨e, hL⟩ := hK i (Nat.le_refl _) hi
  have hkd := hs_LFkd hL
  have e2 := (hs_kdE (w := 2) hkd (by decide)).mp h2
  have fin : ∀ m : Int32, m = hs_lpar (tk i) → wX_localNames_36 post (nI en) x_objectLimit x_stepLimit x_depthLimit x_pendingCount x_keptTokens x_keptLines x_lineCount x_codeCount x_cursor x_stop x_waitingCount x_openCount x_classCount x_callCount x_operandCount x_stepsTaken x_error x_raisedCode x_printCount x_lastResult x_lastPlace x_pending LT x_code x_waiting x_globals x_entries x_orders x_merging x_letterClass x_objectClass x_attributes x_calls x_held x_operands x_lastPrints (en - (i + 1) + 1) m (nI (i + 1)) := by
    intro m em
    subst em
    exact hs_xLoc0 hen (en - (i + 1)) (i + 1) _ (by omega) (fun k k1 k2 => hK k (by omega) k2) H
  unfold wpX_localNames
  refine hs_xOf (c := 7) (by omega) (hs_xOf (c := 6) (by omega) (nm_e ?_))
  cases hts : tk i with
  | nil => rw [hts] at hL; exact hL.elim
  | cons w r =>
    rw [hts] at hL e2
    have e2 : w = 2 := e2
    subst e2
    obtain ⟨_, _, n, a, hn, ha, _, hs, hh⟩ : LT (i * 14) = 2 ∧ e = [] ∧ hs_DH (LT (i * 14 + 5)) (LT (i * 14 + 6)) (LT (i * 14 + 7)) r := hL
    rcases hh with ⟨er, ht⟩ | ⟨b, hb, hne, er, ht⟩
    · rw [ht, hs]
      refine br_t (by decide) (nm_r (nI_1 i) ⟨_, fin _ ?_⟩)
      rw [hts, er]; rfl
    · have tb := hs_tkN hb
      rw [ht, hs]
      refine br_f (nI_pos (by omega)) (nm_e (nm_r (nI_1 i) ⟨_, fin _ ?_⟩))
      rw [hts, er]; rfl
theorem hs_xBk0 {LT : Nat → Int32} {h ind : Nat → Nat} {a b x : Nat} (hb : b ≤ 405) (hx : x ≤ 8) (K : hs_IK LT h ind a b) {post : Int32 → Prop} : ∀ (n j : Nat), a ≤ j → j + n = b → post (nI (hs_ef ind x n j)) → wX_blockEnd_16 post (nI x) x_objectLimit x_stepLimit x_depthLimit x_pendingCount x_keptTokens x_keptLines (nI b) x_codeCount x_cursor x_stop x_waitingCount x_openCount x_classCount x_callCount x_operandCount x_stepsTaken x_error x_raisedCode x_printCount x_lastResult x_lastPlace x_pending LT x_code x_waiting x_globals x_entries x_orders x_merging x_letterClass x_objectClass x_attributes x_calls x_held x_operands x_lastPrints (n + 1) (nI j) := by
  intro n
  induction n with
  | zero =>
    intro j ja hj H
    have : j = b := by omega
    subst this
    exact br_t (nI_le (Nat.le_refl _) (by omega)) H
  | succ n ih =>
    intro j ja hj H
    obtain ⟨k1, k2, k3⟩ := K j ja (by omega)
    have ix : nI j * 14 + 1 = nI (j * 14 + 1) := hs_ixMul j 14 1
    refine br_f (nI_ge (by omega) (by omega)) ?_
    rw [ix, nI_clamp (show j * 14 + 1 < 2 ^ 31 by omega), k1]
    refine And.intro (vp_in_nI (by omega) (by decide)) ?_
    unfold hs_ef at H
    refine pk_lt x (ind j) (fun q => nm_r (nI_1 j) (ih (j + 1) (by omega) (by omega) ?_)) (fun q => ?_)
    · rw [if_neg (by omega)] at H; exact H
    · rw [if_pos q] at H; exact H
theorem hs_xBk {LT : Nat → Int32} {h ind : Nat → Nat} {a b i : Nat} (hai : a ≤ i) (hib : i < b) (hb : b ≤ 405) (K : hs_IK LT h ind a b) {post : Int32 → Prop} (H : post (nI (hs_bk ind b i))) : wpX_blockEnd post (x_objectLimit, x_stepLimit, x_depthLimit, x_pendingCount, x_keptTokens, x_keptLines, nI b, x_codeCount, x_cursor, x_stop, x_waitingCount, x_openCount, x_classCount, x_callCount, x_operandCount, x_stepsTaken, x_error, x_raisedCode, x_printCount, x_lastResult, x_lastPlace, x_pending, LT, x_code, x_waiting, x_globals, x_entries, x_orders, x_merging, x_letterClass, x_objectClass, x_attributes, x_calls, x_held, x_operands, x_lastPrints) (nI i) := by
  obtain ⟨k1, k2, k3⟩ := K i hai hib
  have ix : nI i * 14 + 1 = nI (i * 14 + 1) := hs_ixMul i 14 1
  refine And.intro (by rw [ix]; exact vp_in_nI (by omega) (by decide)) ?_
  rw [ix, nI_clamp (show i * 14 + 1 < 2 ^ 31 by omega), k1]
  exact nm_e (nm_r (nI_1 i) ⟨_, hs_xBk0 hb k3 K (b - (i + 1)) (i + 1) (by omega) (by omega) H⟩)
theorem hs_xClose0 {LT0 : Nat → Int32} {h ind : Nat → Nat} {tk : Nat → List Nat} {a b : Nat} (hb : b ≤ 405) {post : SX → Prop}
    (H : ∀ LT, (∀ k, (∀ j, a ≤ j → j < b → k ≠ j * 14 + 4 ∧ k ≠ j * 14 + 8) → LT k = LT0 k) → (∀ j, a ≤ j → j < b → LT (j * 14 + 4) = nI (hs_bk ind b j) ∧ (LT (j * 14) = 2 → LT (j * 14 + 8) = hs_lmask tk ind b j)) → post (x_objectLimit, x_stepLimit, x_depthLimit, x_pendingCount, x_keptTokens, x_keptLines, nI b, x_codeCount, x_cursor, x_stop, x_waitingCount, x_openCount, x_classCount, x_callCount, x_operandCount, x_stepsTaken, x_error, x_raisedCode, x_printCount, x_lastResult, x_lastPlace, x_pending, LT, x_code, x_waiting, x_globals, x_entries, x_orders, x_merging, x_letterClass, x_objectClass, x_attributes, x_calls, x_held, x_operands, x_lastPrints)) :
    ∀ (n i : Nat) (LT : Nat → Int32), a ≤ i → i + n = b → hs_IK LT h ind a b → (∀ k, a ≤ k → k < b → hs_LR LT tk k) → (∀ k, (∀ j, a ≤ j → j < b → k ≠ j * 14 + 4 ∧ k ≠ j * 14 + 8) → LT k = LT0 k) → (∀ j, a ≤ j → j < i → LT (j * 14 + 4) = nI (hs_bk ind b j) ∧ (LT (j * 14) = 2 → LT (j * 14 + 8) = hs_lmask tk ind b j)) →
    wX_closeBlocks_2 post x_objectLimit x_stepLimit x_depthLimit x_pendingCount x_keptTokens x_keptLines (nI b) x_codeCount x_cursor x_stop x_waitingCount x_openCount x_classCount x_callCount x_operandCount x_stepsTaken x_error x_raisedCode x_printCount x_lastResult x_lastPlace (n + 1) (nI i) x_pending LT x_code x_waiting x_globals x_entries x_orders x_merging x_letterClass x_objectClass x_attributes x_calls x_held x_operands x_lastPrints := by
  intro n
  induction n with
  | zero =>
    intro i LT ia hi K R U G
    have : i = b := by omega
    subst this
    exact br_t (nI_le (Nat.le_refl _) (by omega)) (H LT U G)
  | succ n ih =>
    intro i LT ia hi K R U G
    have hib : i < b := by omega
    have em : nI i * 14 = nI (i * 14) := pk_mul i 14
    have e0 : nI (i * 14) + 0 = nI (i * 14) := Int32.add_zero _
    have e4 : nI (i * 14) + 4 = nI (i * 14 + 4) := nI_add _ 4
    have e8 : nI (i * 14) + 8 = nI (i * 14 + 8) := nI_add _ 8
    obtain ⟨B1, B2, B3, B4⟩ := hs_bkFo (ind := ind) (b := b) (i := i) hib
    refine br_f (nI_ge hib (by omega)) (nm_r em (hs_xBk ia hib hb K ?_))
    rw [e0, e4, e8, nI_clamp (show i * 14 < 2 ^ 31 by omega), nI_clamp (show i * 14 + 4 < 2 ^ 31 by omega), nI_clamp (show i * 14 + 8 < 2 ^ 31 by omega)]
    refine And.intro (vp_in_nI (by omega) (by decide)) (nm_e (And.intro (vp_in_nI (by omega) (by decide)) ?_))
    -- what a write into columns 4 and 8 of row i keeps
    have keep : ∀ LT', (∀ k, k ≠ i * 14 + 4 → k ≠ i * 14 + 8 → LT' k = LT k) → hs_IK LT' h ind a b ∧ (∀ k, a ≤ k → k < b → hs_LR LT' tk k) ∧ (∀ k, (∀ j, a ≤ j → j < b → k ≠ j * 14 + 4 ∧ k ≠ j * 14 + 8) → LT' k = LT0 k) ∧ (∀ j, a ≤ j → j < i → LT' (j * 14 + 4) = nI (hs_bk ind b j) ∧ (LT' (j * 14) = 2 → LT' (j * 14 + 8) = hs_lmask tk ind b j)) := by
      intro LT' hk
      refine ⟨fun j j1 j2 => ?_, fun k k1 k2 => ?_, fun k hk' => ?_, fun j j1 j2 => ?_⟩
      · rw [hk _ (by omega) (by omega), hk _ (by omega) (by omega)]; exact K j j1 j2
      · obtain ⟨e, hL⟩ := R k k1 k2
        refine ⟨e, ?_⟩
        rw [hk _ (by omega) (by omega), hk _ (by omega) (by omega), hk _ (by omega) (by omega), hk _ (by omega) (by omega)]; exact hL
      · have := hk' i ia hib
        rw [hk _ this.1 this.2]; exact U k hk'
      · rw [hk _ (by omega) (by omega), hk _ (by omega) (by omega), hk _ (by omega) (by omega)]; exact G j j1 j2
    have k4 := keep (upd LT (i * 14 + 4) (nI (hs_bk ind b i))) (fun k a1 _ => pk_un a1)
    have u0 : upd LT (i * 14 + 4) (nI (hs_bk ind b i)) (i * 14) = LT (i * 14) := pk_un (by omega)
    refine br_c (fun q => ?_) (fun q => nm_r (nI_1 i) (ih (i + 1) _ (by omega) (by omega) k4.1 k4.2.1 k4.2.2.1 (fun j j1 j2 => ?_)))
    · refine hs_xLoc (tk := tk) B1 (by omega) (fun k kk1 kk2 => k4.2.1 k (by omega) (by omega)) q (And.intro (vp_in_nI (by omega) (by decide)) (nm_e (nm_r (nI_1 i) ?_)))
      have k8 := keep (upd (upd LT (i * 14 + 4) (nI (hs_bk ind b i))) (i * 14 + 8) (hs_lms tk (hs_bk ind b i - (i + 1)) (i + 1) (hs_lpar (tk i)))) (fun k a1 a2 => by rw [pk_un a2, pk_un a1])
      refine ih (i + 1) _ (by omega) (by omega) k8.1 k8.2.1 k8.2.2.1 (fun j j1 j2 => ?_)
      by_cases ej : j = i
      · subst ej
        refine ⟨?_, fun _ => pk_us⟩
        rw [pk_un (by omega), pk_us]
      · exact k8.2.2.2 j j1 (by omega)
    · by_cases ej : j = i
      · subst ej
        exact ⟨pk_us, fun y => absurd y q⟩
      · exact k4.2.2.2 j j1 (by omega)
theorem hs_xClose {LT0 : Nat → Int32} {h ind : Nat → Nat} {tk : Nat → List Nat} {a b : Nat} (hab : a ≤ b) (hb : b ≤ 405) (K : hs_IK LT0 h ind a b) (R : ∀ k, a ≤ k → k < b → hs_LR LT0 tk k) {post : SX → Prop}
    (H : ∀ LT, (∀ k, (∀ j, a ≤ j → j < b → k ≠ j * 14 + 4 ∧ k ≠ j * 14 + 8) → LT k = LT0 k) → (∀ j, a ≤ j → j < b → LT (j * 14 + 4) = nI (hs_bk ind b j) ∧ (LT (j * 14) = 2 → LT (j * 14 + 8) = hs_lmask tk ind b j)) → post (x_objectLimit, x_stepLimit, x_depthLimit, x_pendingCount, x_keptTokens, x_keptLines, nI b, x_codeCount, x_cursor, x_stop, x_waitingCount, x_openCount, x_classCount, x_callCount, x_operandCount, x_stepsTaken, x_error, x_raisedCode, x_printCount, x_lastResult, x_lastPlace, x_pending, LT, x_code, x_waiting, x_globals, x_entries, x_orders, x_merging, x_letterClass, x_objectClass, x_attributes, x_calls, x_held, x_operands, x_lastPrints)) : wpX_closeBlocks post (x_objectLimit, x_stepLimit, x_depthLimit, x_pendingCount, x_keptTokens, x_keptLines, nI b, x_codeCount, x_cursor, x_stop, x_waitingCount, x_openCount, x_classCount, x_callCount, x_operandCount, x_stepsTaken, x_error, x_raisedCode, x_printCount, x_lastResult, x_lastPlace, x_pending, LT0, x_code, x_waiting, x_globals, x_entries, x_orders, x_merging, x_letterClass, x_objectClass, x_attributes, x_calls, x_held, x_operands, x_lastPrints) (nI a) :=
  ⟨_, hs_xClose0 (tk := tk) hb H (b - a) a LT0 (Nat.le_refl _) (by omega) K R (fun _ _ => rfl) (fun j j1 j2 => by omega)⟩
end
end
section
/-! keepChunk, whole -/
section
variable {x_objectLimit x_stepLimit x_depthLimit x_pendingCount x_keptTokens x_keptLines x_lineCount x_codeCount x_cursor x_stop x_waitingCount x_openCount x_classCount x_callCount x_operandCount x_stepsTaken x_error x_raisedCode x_printCount x_lastPlace : Int32} {x_lastResult : Int64} {x_pending x_lineTable x_orders x_merging x_letterClass x_objectClass x_calls x_lastPrints : Nat → Int32} {x_code x_waiting x_globals x_entries x_attributes x_held x_operands : Nat → Int64}
variable {y_maxObjects y_maxSteps y_maxDepth y_kept y_end y_tokens y_pending y_lines y_classes y_prints y_place y_steps y_d y_valTop y_opTop y_opens y_pos y_tk y_tv y_stmt y_target y_err y_code y_outcome y_dry y_want y_starting y_ended y_bad y_hosted y_sawSuper : Int32} {y_result : Int64} {y_text y_numbers y_classOf y_alive y_orders y_lengths y_letters y_bases y_ops y_fLine y_fPos y_fStmt y_fTarget y_fMask y_fHome y_fOps y_fVals y_fNew y_out : Nat → Int32} {y_globals y_entries y_attrs y_vals y_locals y_fRecv : Nat → Int64}
def hs_toks (tx : Nat → Int32) : Nat → Nat → List Nat
  | _, 0 => []
  | p, n + 1 => hs_g tx p :: hs_toks tx (p + 1) n
theorem hs_toksLen {tx : Nat → Int32} : ∀ (n p : Nat), (hs_toks tx p n).length = n
  | 0, _ => rfl
  | n + 1, p => by show (hs_toks tx (p + 1) n).length + 1 = n + 1; rw [hs_toksLen n (p + 1)]
theorem hs_toksTA {tx : Nat → Int32} : ∀ (n p : Nat), (∀ k, p ≤ k → k < p + n → hs_okc (tx k) ∧ ¬ hs_en (hs_g tx k)) → hs_okc (tx (p + n)) → hs_en (hs_g tx (p + n)) → p + n < 1024 → hs_TA tx p (hs_toks tx p n)
  | 0, p, _, h1, h2, h3 => ⟨h1, h2, h3⟩
  | n + 1, p, h, h1, h2, h3 => by
    obtain ⟨a, b⟩ := h p (Nat.le_refl _) (by omega)
    refine ⟨rfl, a, b, by omega, hs_toksTA n (p + 1) (fun k k1 k2 => h k (by omega) (by omega)) ?_ ?_ (by omega)⟩
    · rw [show p + 1 + n = p + (n + 1) by omega]; exact h1
    · rw [show p + 1 + n = p + (n + 1) by omega]; exact h2
theorem hs_toksPA {tx pd : Nat → Int32} {cs : Nat} : ∀ (n c : Nat), (∀ k, c ≤ k → k < c + n → hs_rx (pd k) (hs_g tx (cs + k)) ∧ hs_g tx (cs + k) ≠ 0) → hs_PA pd (c + n) c (hs_toks tx (cs + c) n)
  | 0, c, _ => rfl
  | n + 1, c, h => by
    obtain ⟨a, b⟩ := h c (Nat.le_refl _) (by omega)
    refine ⟨a, b, ?_⟩
    have := hs_toksPA (tx := tx) (pd := pd) (cs := cs) n (c + 1) (fun k k1 k2 => h k (by omega) (by omega))
    rw [show c + 1 + n = c + (n + 1) by omega] at this
    exact this
theorem hs_toksMem {tx : Nat → Int32} : ∀ (n p x : Nat), x ∈ hs_toks tx p n → ∃ k, p ≤ k ∧ k < p + n ∧ x = hs_g tx k
  | 0, _, _, h => by cases h
  | n + 1, p, x, h => by
    rcases List.mem_cons.mp h with h | h
    · exact ⟨p, Nat.le_refl _, by omega, h⟩
    · obtain ⟨k, k1, k2, k3⟩ := hs_toksMem n (p + 1) x h
      exact ⟨k, by omega, by omega, k3⟩
/-- the chunk as both sides see it -/
theorem hs_mkCh {tx pd LT : Nat → Int32} {cs pn kl a b : Nat} {P E : Nat → Nat} (hD : hs_PD tx pd cs pn) (he : tx (cs + pn) = -1) (hcs : cs + pn < 1024) (hc0 : cs = 0 ∨ tx (cs - 1) = -1) (R : hs_Rw tx LT cs kl a b (cs + pn) P E) :
    hs_Ch tx cs (cs + pn) a b P (fun i => hs_ind tx cs (P i)) ∧ hs_TK tx a b P (fun i => hs_hd (hs_toks tx (P i) (E i - P i))) (fun i => hs_toks tx (P i) (E i - P i)) ∧
    (∀ i, a ≤ i → i < b → hs_PA pd (E i - cs) (P i - cs) (hs_toks tx (P i) (E i - P i)) ∧ (P i - cs = 0 ∨ ∃ t, 40 ≤ t ∧ t ≤ 48 ∧ pd (P i - cs - 1) = nI t) ∧ E i ≤ cs + pn) ∧ (∀ i, a ≤ i → i + 1 < b → E i ≤ P (i + 1)) := by
  obtain ⟨r1, r2, r3⟩ := R
  have gce : hs_g tx (cs + pn) = 0 := by unfold hs_g; rw [he]; exact hs_m1c
  have raw : ∀ p, cs ≤ p → p < cs + pn → hs_okc (tx p) ∧ hs_g tx p ≠ 0 ∧ ((hs_en (hs_g tx p) ∧ ∃ t, 40 ≤ t ∧ t ≤ 48 ∧ pd (p - cs) = nI t ∧ tx p = nI t) ∨ (¬ hs_en (hs_g tx p) ∧ hs_rx (pd (p - cs)) (hs_g tx p) ∧ hs_vt (hs_g tx p))) := by
    intro p p1 p2
    obtain ⟨d0, d1⟩ := hD (p - cs) (by omega)
    rw [show cs + (p - cs) = p by omega] at d1
    obtain ⟨w1, w2, w3⟩ := hs_rawT d0
    rw [← d1] at w1 w2 w3
    refine ⟨w1, w2, ?_⟩
    rcases w3 with ⟨a1, t, t1, t2, t3, t4⟩ | ⟨a1, a2, a3, _⟩
    · exact Or.inl ⟨a1, t, t1, t2, t3, t4⟩
    · exact Or.inr ⟨a1, a2, a3⟩
  have okall : ∀ p, cs ≤ p → p ≤ cs + pn → hs_okc (tx p) := by
    intro p p1 p2
    by_cases q : p < cs + pn
    · exact (raw p p1 q).1
    · have : p = cs + pn := by omega
      rw [this, he]; exact Or.inl rfl
  have inl : ∀ i, a ≤ i → i < b → ∀ k, P i ≤ k → k < E i → hs_okc (tx k) ∧ ¬ hs_en (hs_g tx k) ∧ hs_rx (pd (k - cs)) (hs_g tx k) ∧ hs_g tx k ≠ 0 ∧ hs_vt (hs_g tx k) := by
    intro i ia ib k k1 k2
    obtain ⟨a1, a2, a3, a4, a5, a6, a7, _⟩ := r1 i ia ib
    obtain ⟨w1, w2, w3⟩ := raw k (by omega) (by omega)
    rcases w3 with ⟨q, _⟩ | ⟨q1, q2, q3⟩
    · exact absurd q (a6 k k1 k2)
    · exact ⟨w1, q1, q2, w2, q3⟩
  refine ⟨⟨⟨hcs, gce, okall⟩, fun p p1 p2 => (raw p p1 p2).2.1, hc0, fun i ia ib => ?_, r2, fun p p1 p2 p3 p4 => r3 p p1 p2 p3 p4⟩, fun i ia ib => ?_, fun i ia ib => ?_, fun i ia ib => ?_⟩
  · obtain ⟨a1, a2, a3, a4, a5, a6, a7, _⟩ := r1 i ia ib
    exact ⟨a1, a4, a6 (P i) (Nat.le_refl _) a2, a5, rfl⟩
  · obtain ⟨a1, a2, a3, a4, a5, a6, a7, _⟩ := r1 i ia ib
    have eE : P i + (E i - P i) = E i := by omega
    refine ⟨hs_toksTA _ _ (fun k k1 k2 => ?_) ?_ ?_ (by omega), ?_, fun x hx => ?_, rfl⟩
    · obtain ⟨q1, q2, _⟩ := inl i ia ib k k1 (by omega)
      exact ⟨q1, q2⟩
    · rw [eE]; exact okall _ (by omega) (by omega)
    · rw [eE]; exact a7
    · intro y
      have := congrArg List.length y
      rw [hs_toksLen] at this
      simp at this
      omega
    · obtain ⟨k, k1, k2, k3⟩ := hs_toksMem _ _ _ hx
      rw [k3]
      exact (inl i ia ib k k1 (by omega)).2.2.2.2
  · obtain ⟨a1, a2, a3, a4, a5, a6, a7, _⟩ := r1 i ia ib
    refine ⟨?_, ?_, a3⟩
    · have := hs_toksPA (tx := tx) (pd := pd) (cs := cs) (E i - P i) (P i - cs) (fun k k1 k2 => ?_)
      · rw [show cs + (P i - cs) = P i by omega, show P i - cs + (E i - P i) = E i - cs by omega] at this
        exact this
      · obtain ⟨q1, q2, q3, q4, _⟩ := inl i ia ib (cs + k) (by omega) (by omega)
        rw [show cs + k - cs = k by omega] at q3
        exact ⟨q3, q4⟩
    · rcases a5 with q | q
      · exact Or.inl (by omega)
      · by_cases z : P i = cs
        · exact Or.inl (by omega)
        · obtain ⟨w1, w2, w3⟩ := raw (P i - 1) (by omega) (by omega)
          rcases w3 with ⟨_, t, t1, t2, t3, _⟩ | ⟨q', _⟩
          · exact Or.inr ⟨t, t1, t2, by rw [show P i - cs - 1 = P i - 1 - cs by omega]; exact t3⟩
          · exact absurd q q'
  · obtain ⟨a1, a2, a3, a4, a5, a6, a7, _⟩ := r1 i ia (by omega)
    obtain ⟨b1, b2, b3, b4, b5, b6, b7, _⟩ := r1 (i + 1) (by omega) ib
    have lt := r2 i (i + 1) ia (by omega) ib
    rcases b5 with q | q
    · omega
    · rcases Nat.lt_or_ge (P (i + 1) - 1) (E i) with z | z
      · exact absurd q (a6 _ (by omega) z)
      · omega
end
end
section
/-! keepChunk, whole: the loop and its end -/
section
variable {x_objectLimit x_stepLimit x_depthLimit x_pendingCount x_keptTokens x_keptLines x_lineCount x_codeCount x_cursor x_stop x_waitingCount x_openCount x_classCount x_callCount x_operandCount x_stepsTaken x_error x_raisedCode x_printCount x_lastPlace : Int32} {x_lastResult : Int64} {x_pending x_lineTable x_orders x_merging x_letterClass x_objectClass x_calls x_lastPrints : Nat → Int32} {x_code x_waiting x_globals x_entries x_attributes x_held x_operands : Nat → Int64}
variable {y_maxObjects y_maxSteps y_maxDepth y_kept y_end y_tokens y_pending y_lines y_classes y_prints y_place y_steps y_d y_valTop y_opTop y_opens y_pos y_tk y_tv y_stmt y_target y_err y_code y_outcome y_dry y_want y_starting y_ended y_bad y_hosted y_sawSuper : Int32} {y_result : Int64} {y_text y_numbers y_classOf y_alive y_orders y_lengths y_letters y_bases y_ops y_fLine y_fPos y_fStmt y_fTarget y_fMask y_fHome y_fOps y_fVals y_fNew y_out : Nat → Int32} {y_globals y_entries y_attrs y_vals y_locals y_fRecv : Nat → Int64}
/-- a line's row when its chunk is kept -/
def hs_LN (LT : Nat → Int32) (cd : Nat → Int64) (ind : Nat → Nat) (tk : Nat → List Nat) (a b mx j : Nat) : Prop :=
  LT (j * 14 + 1) = nI (ind j) ∧ LT (j * 14 + 3) = hs_oI (hs_pa ind a j) ∧ LT (j * 14 + 4) = nI (hs_bk ind b j) ∧ (LT (j * 14) = 2 → LT (j * 14 + 8) = hs_lmask tk ind b j) ∧
  ∃ e c0, LT (j * 14 + 9) = nI c0 ∧ LT (j * 14 + 10) = nI (c0 + e.length) ∧ c0 + e.length ≤ mx ∧ hs_CA cd c0 e (c0 + e.length) ∧ hs_LF (LT (j * 14)) (LT (j * 14 + 5)) (LT (j * 14 + 6)) (LT (j * 14 + 7)) e (tk j)
theorem hs_x236b {pd : Nat → Int32} {a b pn kt kl cc0 nm : Nat} {x3 : Int32} {post : Int32 → SX → Prop} (h0 : nm ≠ 0) (h1 : nm < 2 ^ 31) {q1 q2 q3 q4 q6 : Int32} {q5 : Nat → Int64} {LT : Nat → Int32} {cd : Nat → Int64} (H : post (nI nm) (x_objectLimit, x_stepLimit, x_depthLimit, 0, nI kt, nI kl, nI a, nI cc0, q1, q2, q3, q4, x_classCount, x_callCount, x_operandCount, x_stepsTaken, x_error, x_raisedCode, x_printCount, x_lastResult, x_lastPlace, pd, LT, cd, q5, x_globals, x_entries, x_orders, x_merging, x_letterClass, x_objectClass, x_attributes, x_calls, x_held, x_operands, x_lastPrints)) : wX_keepChunk_236 post (nI a) (nI cc0) x3 (nI nm) x_objectLimit x_stepLimit x_depthLimit (nI pn) (nI kt) (nI kl) (nI b) q6 q1 q2 q3 q4 x_classCount x_callCount x_operandCount x_stepsTaken x_error x_raisedCode x_printCount x_lastResult x_lastPlace pd LT cd q5 x_globals x_entries x_orders x_merging x_letterClass x_objectClass x_attributes x_calls x_held x_operands x_lastPrints := by
  unfold wX_keepChunk_236
  exact br_f (nI_ne0 (by omega) h1) H
theorem hs_xKeepL {tx pd LT0 : Nat → Int32} {cd0 : Nat → Int64} {cs pn kt kl a b cc0 : Nat} {P E ind h : Nat → Nat} {tk : Nat → List Nat} (hkl : kl < 100000) (hab : a ≤ b) (hb : b ≤ 405) (hpn : pn ≤ 400) (hcc0 : cc0 + pn ≤ 443) (hcsp : cs + pn ≤ 1024)
    (hind : ∀ i, a ≤ i → i < b → ind i ≤ 8) (hPE : ∀ i, a ≤ i → i < b → cs ≤ P i ∧ P i < E i ∧ E i ≤ cs + pn) (hEP : ∀ i, a ≤ i → i + 1 < b → E i ≤ P (i + 1)) (hh : ∀ i, a ≤ i → i < b → h i = hs_hd (tk i)) (hlen : ∀ i, a ≤ i → i < b → (tk i).length = E i - P i ∧ tk i ≠ [] ∧ (∀ x, x ∈ tk i → x ≠ 0))
    (hPA : ∀ i, a ≤ i → i < b → hs_PA pd (E i - cs) (P i - cs) (tk i) ∧ (P i - cs = 0 ∨ ∃ t, 40 ≤ t ∧ t ≤ 48 ∧ pd (P i - cs - 1) = nI t))
    {post : Int32 → SX → Prop} {tl : Nat} (htl : tl < 2000)
    (Hw : ∀ i, a ≤ i → i < b → ¬ hs_lok tk h ind a i → (∀ j, a ≤ j → j < i → hs_lok tk h ind a j) → ∀ (q1 q2 q3 q4 : Int32) (q5 : Nat → Int64) (LT : Nat → Int32) (cd : Nat → Int64), (∀ k, k < a * 14 → LT k = LT0 k) → (∀ k, k < cc0 → cd k = cd0 k) → post (nI (kl + (hs_nE tx cs (P i) + 1))) (x_objectLimit, x_stepLimit, x_depthLimit, 0, nI kt, nI kl, nI a, nI cc0, q1, q2, q3, q4, x_classCount, x_callCount, x_operandCount, x_stepsTaken, x_error, x_raisedCode, x_printCount, x_lastResult, x_lastPlace, pd, LT, cd, q5, x_globals, x_entries, x_orders, x_merging, x_letterClass, x_objectClass, x_attributes, x_calls, x_held, x_operands, x_lastPrints))
    (He : (∀ i, a ≤ i → i < b → hs_lok tk h ind a i) → ¬ hs_eok h ind a b → ∀ (q1 q2 q3 q4 : Int32) (q5 : Nat → Int64) (LT : Nat → Int32) (cd : Nat → Int64), (∀ k, k < a * 14 → LT k = LT0 k) → (∀ k, k < cc0 → cd k = cd0 k) → post (nI (kl + tl + 1)) (x_objectLimit, x_stepLimit, x_depthLimit, 0, nI kt, nI kl, nI a, nI cc0, q1, q2, q3, q4, x_classCount, x_callCount, x_operandCount, x_stepsTaken, x_error, x_raisedCode, x_printCount, x_lastResult, x_lastPlace, pd, LT, cd, q5, x_globals, x_entries, x_orders, x_merging, x_letterClass, x_objectClass, x_attributes, x_calls, x_held, x_operands, x_lastPrints))
    (Ho : (∀ i, a ≤ i → i < b → hs_lok tk h ind a i) → hs_eok h ind a b → ∀ (q1 q2 q3 q4 : Int32) (q5 : Nat → Int64) (LT : Nat → Int32) (cd : Nat → Int64) (cc : Nat), cc0 ≤ cc → cc ≤ cc0 + pn → (∀ k, k < a * 14 → LT k = LT0 k) → (∀ k, k < cc0 → cd k = cd0 k) → (∀ j, a ≤ j → j < b → hs_LN LT cd ind tk a b cc j ∧ LT (j * 14 + 2) = nI (kl + (hs_nE tx cs (P j) + 1))) → post 0 (x_objectLimit, x_stepLimit, x_depthLimit, 0, nI (kt + pn), nI (kl + tl), nI b, nI cc, q1, q2, q3, q4, x_classCount, x_callCount, x_operandCount, x_stepsTaken, x_error, x_raisedCode, x_printCount, x_lastResult, x_lastPlace, pd, LT, cd, q5, x_globals, x_entries, x_orders, x_merging, x_letterClass, x_objectClass, x_attributes, x_calls, x_held, x_operands, x_lastPrints)) :
    ∀ (m i : Nat) (LT : Nat → Int32) (cd : Nat → Int64) (cc : Nat) (q1 q2 q3 q4 : Int32) (q5 : Nat → Int64), a ≤ i → i + m = b → (∀ j, a ≤ j → j < b → LT (j * 14 + 1) = nI (ind j) ∧ LT (j * 14 + 2) = nI (kl + (hs_nE tx cs (P j) + 1)) ∧ LT (j * 14 + 11) = nI (P j - cs) ∧ LT (j * 14 + 12) = nI (E j - cs)) → hs_PR LT ind a i → (∀ j, a ≤ j → j < i → hs_lok tk h ind a j ∧ ∃ e c0, LT (j * 14 + 9) = nI c0 ∧ LT (j * 14 + 10) = nI (c0 + e.length) ∧ c0 + e.length ≤ cc ∧ hs_CA cd c0 e (c0 + e.length) ∧ hs_LF (LT (j * 14)) (LT (j * 14 + 5)) (LT (j * 14 + 6)) (LT (j * 14 + 7)) e (tk j)) → (∀ k, k < a * 14 → LT k = LT0 k) → (∀ k, k < cc0 → cd k = cd0 k) → cc0 ≤ cc → cc ≤ cc0 + pn → (i < b → cc ≤ cc0 + (P i - cs)) →
    wX_keepChunk_21 post (nI a) (nI cc0) (nI tl) (m + 2) 0 (nI i) x_objectLimit x_stepLimit x_depthLimit (nI pn) (nI kt) (nI kl) (nI b) (nI cc) q1 q2 q3 q4 x_classCount x_callCount x_operandCount x_stepsTaken x_error x_raisedCode x_printCount x_lastResult x_lastPlace pd LT cd q5 x_globals x_entries x_orders x_merging x_letterClass x_objectClass x_attributes x_calls x_held x_operands x_lastPrints := by
  intro m
  have nle : ∀ j, a ≤ j → j < b → hs_nE tx cs (P j) ≤ 2000 ∨ True := fun _ _ _ => Or.inr trivial
  induction m with
  | zero =>
    intro i LT cd cc q1 q2 q3 q4 q5 ia hi hcol hPR hdone hLT hcd hcc1 hcc2 hcc3
    have eib : i = b := by omega
    subst eib
    have K : hs_IK LT h ind a i := fun j j1 j2 => by
      obtain ⟨_, e, c0, _, _, _, _, hL⟩ := hdone j j1 j2
      exact ⟨(hcol j j1 j2).1, by rw [hh j j1 j2]; exact hs_LFkd hL, hind j j1 j2⟩
    have Rr : ∀ k, a ≤ k → k < i → hs_LR LT tk k := fun k k1 k2 => by
      obtain ⟨_, e, c0, _, _, _, _, hL⟩ := hdone k k1 k2
      exact ⟨e, hL⟩
    refine br_t (nI_le (Nat.le_refl _) (by omega)) ?_
    unfold wX_keepChunk_213
    refine br_t rfl (hs_xEnd hab hb K (fun w => br_f (by decide) ?_) (fun w => br_t rfl ?_))
    · unfold wX_keepChunk_236
      refine br_t rfl (hs_xClose (tk := tk) hab hb K Rr (fun LT' u1 u2 => nm_r (nI_add kt pn) (nm_r (nI_add kl tl) ?_)))
      have U : ∀ j c, a ≤ j → j < i → c < 14 → c ≠ 4 → c ≠ 8 → LT' (j * 14 + c) = LT (j * 14 + c) := fun j c j1 j2 c1 c2 c3 => u1 _ (fun j' _ _ => by omega)
      refine Ho (fun j j1 j2 => (hdone j j1 j2).1) w _ _ _ _ _ LT' cd cc hcc1 hcc2 (fun k hk => ?_) hcd (fun j j1 j2 => ?_)
      · rw [u1 k (fun j' j1 _ => by omega)]; exact hLT k hk
      · obtain ⟨_, e, c0, f1, f2, f3, f4, f5⟩ := hdone j j1 j2
        have e0 : LT' (j * 14) = LT (j * 14) := U j 0 j1 j2 (by decide) (by decide) (by decide)
        refine ⟨⟨?_, ?_, (u2 j j1 j2).1, (u2 j j1 j2).2, e, c0, ?_, ?_, f3, f4, ?_⟩, ?_⟩
        · rw [U j 1 j1 j2 (by decide) (by decide) (by decide)]; exact (hcol j j1 j2).1
        · rw [U j 3 j1 j2 (by decide) (by decide) (by decide)]; exact hPR j j1 j2
        · rw [U j 9 j1 j2 (by decide) (by decide) (by decide)]; exact f1
        · rw [U j 10 j1 j2 (by decide) (by decide) (by decide)]; exact f2
        · rw [e0, U j 5 j1 j2 (by decide) (by decide) (by decide), U j 6 j1 j2 (by decide) (by decide) (by decide), U j 7 j1 j2 (by decide) (by decide) (by decide)]; exact f5
        · rw [U j 2 j1 j2 (by decide) (by decide) (by decide)]; exact (hcol j j1 j2).2.1
    · have ee : nI kl + nI tl + 1 = nI (kl + tl + 1) := by rw [nI_add, nI_1]
      refine nm_r ee (hs_x236b (by omega) (by omega) (He (fun j j1 j2 => (hdone j j1 j2).1) w _ _ _ _ _ LT cd hLT hcd))
  | succ m ih =>
    intro i LT cd cc q1 q2 q3 q4 q5 ia hi hcol hPR hdone hLT hcd hcc1 hcc2 hcc3
    have hib : i < b := by omega
    obtain ⟨p1, p2, p3⟩ := hPE i ia hib
    obtain ⟨l1, l2, l3⟩ := hlen i ia hib
    obtain ⟨c1, c2, c3, c4⟩ := hcol i ia hib
    have hcci := hcc3 hib
    have K : hs_IK LT h ind a i := fun j j1 j2 => by
      obtain ⟨_, e, c0, _, _, _, _, hL⟩ := hdone j j1 j2
      exact ⟨(hcol j j1 (by omega)).1, by rw [hh j j1 (by omega)]; exact hs_LFkd hL, hind j j1 (by omega)⟩
    have hce : (P i - cs) + (tk i).length = E i - cs := by omega
    have hce2 : E i - cs ≤ 400 := by omega
    have hce3 : cc + (tk i).length ≤ 443 := by omega
    have hn0 := hs_nEle (tx := tx) (cs := cs) (P i)
    refine hs_oneLine (h := h) (ind := ind) (tk := tk) (c := P i - cs) (e := E i - cs) (num := kl + (hs_nE tx cs (P i) + 1)) ia hib hb K hPR ⟨c1, hind i ia hib⟩ c2 c3 c4 hce2 (hPA i ia hib).1 (hh i ia hib) ?_ ?_ hce l2 l3 hce3 (hPA i ia hib).2 _ _ _ _ _
    · intro hg q1 q2 q3 q4 q5 LT' cd' em k1 k2 k3 k4 k5 k6 k7 k8
      refine ih (i + 1) LT' cd' (cc + em.length) q1 q2 q3 q4 q5 (by omega) (by omega) (fun j j1 j2 => ?_) (fun j j1 j2 => ?_) (fun j j1 j2 => ?_) (fun k hk => ?_) (fun k hk => ?_) (by omega) (by omega) (fun hlt => ?_)
      · obtain ⟨d1, d2, d3, d4⟩ := hcol j j1 j2
        by_cases ej : j = i
        · subst ej
          rw [k1 _ (by omega), k1 _ (by omega), k1 _ (by omega), k1 _ (by omega)]
          exact ⟨d1, d2, d3, d4⟩
        · rw [k1 _ (by omega), k1 _ (by omega), k1 _ (by omega), k1 _ (by omega)]
          exact ⟨d1, d2, d3, d4⟩
      · by_cases ej : j = i
        · subst ej; exact k2
        · rw [k1 _ (by omega)]; exact hPR j j1 (by omega)
      · by_cases ej : j = i
        · subst ej
          exact ⟨hg, em, cc, k3, k4, Nat.le_refl _, k6, k5⟩
        · obtain ⟨g1, e, c0, f1, f2, f3, f4, f5⟩ := hdone j j1 (by omega)
          refine ⟨g1, e, c0, ?_, ?_, by omega, hs_CAupd f4 (fun k _ hk => k7 k (by omega)), ?_⟩
          · rw [k1 _ (by omega)]; exact f1
          · rw [k1 _ (by omega)]; exact f2
          · rw [k1 _ (by omega), k1 _ (by omega), k1 _ (by omega), k1 _ (by omega)]; exact f5
      · rw [k1 _ (by omega)]; exact hLT k hk
      · rw [k7 k (by omega)]; exact hcd k hk
      · have := hEP i ia hlt; omega
    · intro hno q1 q2 q3 q4 q5 q6 LT' cd' k1 k2
      have hn := hs_nEle (tx := tx) (cs := cs) (P i)
      have go : wX_keepChunk_213 post (nI a) (nI cc0) (nI tl) (nI (kl + (hs_nE tx cs (P i) + 1))) x_objectLimit x_stepLimit x_depthLimit (nI pn) (nI kt) (nI kl) (nI b) q6 q1 q2 q3 q4 x_classCount x_callCount x_operandCount x_stepsTaken x_error x_raisedCode x_printCount x_lastResult x_lastPlace pd LT' cd' q5 x_globals x_entries x_orders x_merging x_letterClass x_objectClass x_attributes x_calls x_held x_operands x_lastPrints := by
        unfold wX_keepChunk_213
        refine br_f (nI_ne0 (by omega) (by omega)) (hs_x236b (by omega) (by omega) (Hw i ia hib hno (fun j j1 j2 => (hdone j j1 j2).1) _ _ _ _ _ LT' cd' (fun k hk => (k1 k (by omega)).trans (hLT k hk)) (fun k hk => (k2 k (by omega)).trans (hcd k hk))))
      refine pk_le b (i + 1) (fun _ => go) (fun _ => br_f (nI_ne0 (by omega) (by omega)) go)
end
end
section
/-! keepChunk as run calls it -/
section
variable {x_objectLimit x_stepLimit x_depthLimit x_pendingCount x_keptTokens x_keptLines x_lineCount x_codeCount x_cursor x_stop x_waitingCount x_openCount x_classCount x_callCount x_operandCount x_stepsTaken x_error x_raisedCode x_printCount x_lastPlace : Int32} {x_lastResult : Int64} {x_pending x_lineTable x_orders x_merging x_letterClass x_objectClass x_calls x_lastPrints : Nat → Int32} {x_code x_waiting x_globals x_entries x_attributes x_held x_operands : Nat → Int64}
variable {y_maxObjects y_maxSteps y_maxDepth y_kept y_end y_tokens y_pending y_lines y_classes y_prints y_place y_steps y_d y_valTop y_opTop y_opens y_pos y_tk y_tv y_stmt y_target y_err y_code y_outcome y_dry y_want y_starting y_ended y_bad y_hosted y_sawSuper : Int32} {y_result : Int64} {y_text y_numbers y_classOf y_alive y_orders y_lengths y_letters y_bases y_ops y_fLine y_fPos y_fStmt y_fTarget y_fMask y_fHome y_fOps y_fVals y_fNew y_out : Nat → Int32} {y_globals y_entries y_attrs y_vals y_locals y_fRecv : Nat → Int64}
theorem hs_xKeepW {tx pd LT0 : Nat → Int32} {cd0 : Nat → Int64} {cs pn kt kl a cc0 : Nat} (hD : hs_PD tx pd cs pn) (he : tx (cs + pn) = -1) (hcs : cs + pn < 1024) (hc0 : cs = 0 ∨ tx (cs - 1) = -1) (hpn : pn ≤ 400) (ha : a + pn ≤ 405) (hkl : kl < 100000) (hcc0 : cc0 + pn ≤ 443) {post : Int32 → SX → Prop}
    (Hw : ∀ (b : Nat) (P ind h : Nat → Nat) (tk : Nat → List Nat), a ≤ b → b ≤ a + pn → hs_Ch tx cs (cs + pn) a b P ind → hs_TK tx a b P h tk → (∀ i, a ≤ i → i < b → (tk i).length ≤ 400) → ∀ i, a ≤ i → i < b → ¬ hs_lok tk h ind a i → (∀ j, a ≤ j → j < i → hs_lok tk h ind a j) → ∀ (q1 q2 q3 q4 : Int32) (q5 : Nat → Int64) (LT : Nat → Int32) (cd : Nat → Int64), (∀ k, k < a * 14 → LT k = LT0 k) → (∀ k, k < cc0 → cd k = cd0 k) → post (nI (kl + (hs_nE tx cs (P i) + 1))) (x_objectLimit, x_stepLimit, x_depthLimit, 0, nI kt, nI kl, nI a, nI cc0, q1, q2, q3, q4, x_classCount, x_callCount, x_operandCount, x_stepsTaken, x_error, x_raisedCode, x_printCount, x_lastResult, x_lastPlace, pd, LT, cd, q5, x_globals, x_entries, x_orders, x_merging, x_letterClass, x_objectClass, x_attributes, x_calls, x_held, x_operands, x_lastPrints))
    (He : ∀ (b : Nat) (P ind h : Nat → Nat) (tk : Nat → List Nat), a ≤ b → b ≤ a + pn → hs_Ch tx cs (cs + pn) a b P ind → hs_TK tx a b P h tk → (∀ i, a ≤ i → i < b → (tk i).length ≤ 400) → (∀ i, a ≤ i → i < b → hs_lok tk h ind a i) → ¬ hs_eok h ind a b → ∀ (q1 q2 q3 q4 : Int32) (q5 : Nat → Int64) (LT : Nat → Int32) (cd : Nat → Int64), (∀ k, k < a * 14 → LT k = LT0 k) → (∀ k, k < cc0 → cd k = cd0 k) → post (nI (kl + (hs_nE tx cs (cs + pn) + 1) + 1)) (x_objectLimit, x_stepLimit, x_depthLimit, 0, nI kt, nI kl, nI a, nI cc0, q1, q2, q3, q4, x_classCount, x_callCount, x_operandCount, x_stepsTaken, x_error, x_raisedCode, x_printCount, x_lastResult, x_lastPlace, pd, LT, cd, q5, x_globals, x_entries, x_orders, x_merging, x_letterClass, x_objectClass, x_attributes, x_calls, x_held, x_operands, x_lastPrints))
    (Ho : ∀ (b : Nat) (P ind h : Nat → Nat) (tk : Nat → List Nat), a ≤ b → b ≤ a + pn → hs_Ch tx cs (cs + pn) a b P ind → hs_TK tx a b P h tk → (∀ i, a ≤ i → i < b → (tk i).length ≤ 400) → (∀ i, a ≤ i → i < b → hs_lok tk h ind a i) → hs_eok h ind a b → ∀ (q1 q2 q3 q4 : Int32) (q5 : Nat → Int64) (LT : Nat → Int32) (cd : Nat → Int64) (cc : Nat), cc0 ≤ cc → cc ≤ cc0 + pn → (∀ k, k < a * 14 → LT k = LT0 k) → (∀ k, k < cc0 → cd k = cd0 k) → (∀ j, a ≤ j → j < b → hs_LN LT cd ind tk a b cc j ∧ LT (j * 14 + 2) = nI (kl + (hs_nE tx cs (P j) + 1))) → post 0 (x_objectLimit, x_stepLimit, x_depthLimit, 0, nI (kt + pn), nI (kl + (hs_nE tx cs (cs + pn) + 1)), nI b, nI cc, q1, q2, q3, q4, x_classCount, x_callCount, x_operandCount, x_stepsTaken, x_error, x_raisedCode, x_printCount, x_lastResult, x_lastPlace, pd, LT, cd, q5, x_globals, x_entries, x_orders, x_merging, x_letterClass, x_objectClass, x_attributes, x_calls, x_held, x_operands, x_lastPrints)) :
    wpX_keepChunk post (x_objectLimit, x_stepLimit, x_depthLimit, nI pn, nI kt, nI kl, nI a, nI cc0, x_cursor, x_stop, x_waitingCount, x_openCount, x_classCount, x_callCount, x_operandCount, x_stepsTaken, x_error, x_raisedCode, x_printCount, x_lastResult, x_lastPlace, pd, LT0, cd0, x_waiting, x_globals, x_entries, x_orders, x_merging, x_letterClass, x_objectClass, x_attributes, x_calls, x_held, x_operands, x_lastPrints) := by
  refine hs_xSplitL hD he hcs hpn ha (fun LT b P E b1 b2 R hk => ?_)
  obtain ⟨C, K, hPA, hEP⟩ := hs_mkCh hD he hcs hc0 R
  have hl : ∀ i, a ≤ i → i < b → (hs_toks tx (P i) (E i - P i)).length ≤ 400 := fun i i1 i2 => by
    obtain ⟨r1, r2, r3, _⟩ := R.1 i i1 i2
    rw [hs_toksLen]; omega
  have hn := hs_nEle (tx := tx) (cs := cs) (cs + pn)
  have hn2 : hs_nE tx cs (cs + pn) + 1 < 2000 := by omega
  refine ⟨b - a + 2, hs_xKeepL (tl := hs_nE tx cs (cs + pn) + 1) (cs := cs) (pn := pn) (LT0 := LT0) (cd0 := cd0) (kt := kt) (kl := kl) (P := P) (E := E) (ind := fun i => hs_ind tx cs (P i)) (h := fun i => hs_hd (hs_toks tx (P i) (E i - P i))) (tk := fun i => hs_toks tx (P i) (E i - P i)) hkl b1 (by omega) hpn hcc0 (by omega) (fun i i1 i2 => hs_indLe (ind := fun i => hs_ind tx cs (P i)) C i1 i2) (fun i i1 i2 => ⟨(R.1 i i1 i2).1, (R.1 i i1 i2).2.1, (R.1 i i1 i2).2.2.1⟩) hEP (fun i _ _ => rfl) (fun i i1 i2 => ⟨hs_toksLen _ _, (K i i1 i2).2.1, fun x hx => ?_⟩) (fun i i1 i2 => ⟨(hPA i i1 i2).1, (hPA i i1 i2).2.1⟩) hn2
    (Hw b P _ _ _ b1 b2 C K hl) (He b P _ _ _ b1 b2 C K hl) (Ho b P _ _ _ b1 b2 C K hl) (b - a) a LT cd0 cc0 _ _ _ _ _ (Nat.le_refl _) (by omega) (fun j j1 j2 => ?_) (fun j j1 j2 => by omega) (fun j j1 j2 => by omega) hk (fun _ _ => rfl) (Nat.le_refl _) (by omega) (fun _ => by omega)⟩
  · have := (K i i1 i2).2.2.1 x hx
    intro hx0
    rw [hx0] at this
    rcases this with v | v | v | v | v
    · omega
    · omega
    · cases v
    · cases v
    · omega
  · obtain ⟨_, _, _, _, _, _, _, c1, c2, c3, c4⟩ := R.1 j j1 j2
    exact ⟨c1, c2, c3, c4⟩
end
end
section
/-! running: what both sides agree on between two turns -/
/-- the def line around a line -/
def hs_Dn (h ind : Nat → Nat) (a : Nat) : Nat → Nat → Option Nat
  | 0, _ => none
  | n + 1, i => match hs_pa ind a i with
    | none => none
    | some p => if h p = 2 then some p else hs_Dn h ind a n p
def hs_D (h ind : Nat → Nat) (a i : Nat) : Option Nat := hs_Dn h ind a 9 i
def hs_df (h : Nat → Nat) (lc l : Nat) : Prop := l < lc ∧ h l = 2
def hs_T (tx nu LT : Nat → Int32) (cd : Nat → Int64) (lc kp cc : Nat) (P ind h : Nat → Nat) (tk : Nat → List Nat) (ca cb us ue : Nat → Nat) : Prop :=
  lc ≤ 405 ∧ cc ≤ 443 ∧ kp ≤ 900 ∧ ∀ j, j < lc → ca j ≤ j ∧ j < cb j ∧ cb j ≤ lc ∧ (∀ i, ca j ≤ i → i < cb j → ca i = ca j ∧ cb i = cb j) ∧ ue j < kp ∧ hs_Ch tx (us j) (ue j) (ca j) (cb j) P ind ∧ hs_TK tx (ca j) (cb j) P h tk ∧ hs_LN LT cd ind tk (ca j) (cb j) cc j ∧ hs_lok tk h ind (ca j) j ∧ hs_eok h ind (ca j) (cb j) ∧ nu (P j) = LT (j * 14 + 2)
def hs_arr (o : Nat) : Nat := if o = 4 ∨ o = 6 ∨ o = 9 ∨ o = 11 then 1 else if o = 7 ∨ 27 ≤ o then 2 else 0
def hs_qs (k : Nat) (ts st : List Nat) : Prop := (∀ t, t ∈ ts → t < 2 ^ 31) ∧ (13 ∈ ts → 1 ≤ k) ∧ ∀ s, s ∈ st → s / 64 < 26 ∧ (s % 64 = 3 → 1 ≤ k)
def hs_oq (k o q : Nat) : Prop := 1 ≤ o ∧ (o ≤ 11 ∨ 27 ≤ o) ∧ o < 64 ∧ q < 2 ^ 31 ∧ (o ≠ 1 → o ≠ 5 → q < 26) ∧ (o = 5 → q < 676) ∧ (o = 8 ∨ o = 9 → 1 ≤ k)
def hs_zk (k : Int32) : Bool := decide (k = 14 ∨ k = 16)
def hs_smk (k : Int32) : Int32 := if k = 15 then 51 else if k = 17 then 52 else if k = 14 ∨ k = 16 then 50 else k
def hs_tg (LT : Nat → Int32) (l : Nat) (t : Int32) : Prop := (LT (l * 14) = 15 → t = LT (l * 14 + 5)) ∧ (LT (l * 14) = 17 → t = LT (l * 14 + 6) * 26 + LT (l * 14 + 5))
def hs_En (k f : Int32) (rs fs : List Nat) : Prop :=
  (fs = [] ∧ ((rs = [] ∧ k ≠ 4 ∧ k ≠ 6 ∧ k ≠ 16) ∨ (rs = [25] ∧ (k = 4 ∨ k = 6)))) ∨ (k = 16 ∧ rs = [] ∧ ∃ n, n < 26 ∧ f = nI n ∧ fs = [5 + 64 * n])
def hs_EX (P h : Nat → Nat) (lc : Nat) (ex : Nat → Int64) : Prop := ∀ c n, c < 10 → n < 26 → hs_v0 (ex (c * 26 + n)) ∨ ∃ l, hs_df h lc l ∧ l < 1024 ∧ P l < 1024 ∧ ex (c * 26 + n) = lN (17179869184 + l)
def hs_OX (cn : Nat) (ml : Nat → List Nat) (ox : Nat → Int32) : Prop := ∀ c, c < cn → 1 ≤ (ml c).length ∧ (ml c).length ≤ 10 ∧ (∀ k, k < 12 → ox (c * 12 + k) = hs_gi (ml c) k) ∧ ∀ m, m ∈ ml c → m ≤ c
def hs_OY (cn : Nat) (ml : Nat → List Nat) (oy le : Nat → Int32) : Prop := ∀ c, c < cn → le c = nI (ml c).length ∧ ∀ k, k < (ml c).length → oy (c * 10 + k) = hs_gi (ml c) k
def hs_na (at1 : Nat → Int64) (r : Nat) : Nat → Nat → Nat
  | 0, _ => 0
  | n + 1, i => (if at1 (r + i) = 0 then 0 else 1) + hs_na at1 r n (i + 1)
def hs_WX (P h : Nat → Nat) (lc cn : Nat) (ml : Nat → List Nat) (gl ex at1 : Nat → Int64) (ox oc lt : Nat → Int32) : Prop :=
  (1 ≤ cn ∧ cn ≤ 10) ∧ ex 19 ≠ 0 ∧ (∀ n, n < 26 → hs_v0 (gl n)) ∧ hs_EX P h lc ex ∧ (∀ j, j < 208 → hs_v0 (at1 j)) ∧ (∀ o, o < 8 → hs_na at1 (o * 26) 26 0 ≤ 4) ∧ (∀ o, o < 8 → ∃ c, c < cn ∧ oc o = nI c) ∧ (∀ n, n < 26 → lt n = -1 ∨ ∃ c, c < cn ∧ lt n = nI c) ∧ hs_OX cn ml ox
def hs_XC (cn : Nat) (CL : Nat → Int32) (HE : Nat → Int64) (dlk vbk obk k : Nat) : Prop :=
  CL (k * 6 + 4) = nI vbk ∧ vbk ≤ 40 * k ∧ obk ≤ 40 * k ∧ (k = 0 → CL 0 = -1) ∧
  (1 ≤ k → CL (k * 6) = nI dlk ∧ (∃ c, c < cn ∧ CL (k * 6 + 1) = nI c) ∧ (CL (k * 6 + 5) = 0 ∨ CL (k * 6 + 5) = 1) ∧ (∃ o, o < 8 ∧ HE (k * 27 + 26) = lN (12884901888 + o)) ∧ ∀ j, j < 26 → hs_v0 (HE (k * 27 + j)))
def hs_XL (h ind ca cb : Nat → Nat) (lc cn : Nat) (CL : Nat → Int32) (ho : Bool) (flk dlk k : Nat) : Prop :=
  (ho = true ∧ k = 0 → CL 2 = -1) ∧ (¬ (ho = true ∧ k = 0) → CL (k * 6 + 2) = nI flk ∧ flk < lc) ∧
  (k = 0 → ho = false → cb flk = lc ∧ hs_D h ind (ca flk) flk = none ∧ (hs_in h ind (ca flk) 1 9 flk = true → 2 ≤ cn)) ∧
  (1 ≤ k → hs_D h ind (ca flk) flk = some dlk)
def hs_XS (LT : Nat → Int32) (cd : Nat → Int64) (CL : Nat → Int32) (flk : Nat) (tsk stk : List Nat) (w : Bool) (k : Nat) : Prop :=
  ∃ (c : Nat) (e : List (Nat × Nat)) (rs fs : List Nat), CL (k * 6 + 3) = nI c ∧ LT (flk * 14 + 10) = nI (c + e.length) ∧ c + e.length ≤ 443 ∧ hs_CA cd c e (c + e.length) ∧ hs_S (hs_zk (LT (flk * 14))) tsk w stk e rs fs ∧ hs_En (LT (flk * 14)) (LT (flk * 14 + 5)) rs fs ∧ stk.length + tsk.length + (if w then 0 else 1) ≤ 40 ∧ hs_qs k tsk stk
def hs_XI (tx nu LT : Nat → Int32) (cd : Nat → Int64) (lc kp cc : Nat) (P ind h : Nat → Nat) (tk : Nat → List Nat) (ca cb us ue : Nat → Nat) (mo mS mD s d vt cn : Nat) (ml : Nat → List Nat) (gl ex at1 : Nat → Int64) (ox oc lt : Nat → Int32) (HE : Nat → Int64) (CL : Nat → Int32) (op : Nat → Int64) (fl dl vb ob : Nat → Nat) (ts st : Nat → List Nat) (ho : Bool) : Prop :=
  hs_T tx nu LT cd lc kp cc P ind h tk ca cb us ue ∧ (2 ≤ mo ∧ mo ≤ 8 ∧ mD ≤ 6 ∧ d ≤ mD ∧ mS ≤ 200 ∧ s ≤ mS) ∧ hs_WX P h lc cn ml gl ex at1 ox oc lt ∧ (∀ j, j < vt → hs_vv (op j)) ∧ (∀ j, j < 27 → HE j = 0) ∧ (∀ k, k ≤ d → hs_XC cn CL HE (dl k) (vb k) (ob k) k) ∧ (∀ k, k < d → hs_XL h ind ca cb lc cn CL ho (fl k) (dl k) k) ∧
  (∀ k, k < d → ¬ (ho = true ∧ k = 0) → hs_XS LT cd CL (fl k) (ts k) (st k) false k ∧ vb (k + 1) = vb k + hs_nst (st k) ∧ ob (k + 1) = ob k + (st k).length) ∧ (ho = true → 1 ≤ d → vb 1 = 0 ∧ ob 1 = 0) ∧ vb 0 = 0 ∧ ob 0 = 0
/-- a line is about to begin -/
def hs_MA (h ind ca cb : Nat → Nat) (lc cn : Nat) (CL : Nat → Int32) (ho : Bool) (LT : Nat → Int32) (fl dl vb : Nat → Nat) (d vt : Nat) : Prop :=
  hs_XL h ind ca cb lc cn CL ho (fl d) (dl d) d ∧ vt = vb d ∧ CL (d * 6 + 3) = LT (fl d * 14 + 9) ∧ ¬ (ho = true ∧ d = 0)
/-- an expression is under way -/
def hs_MB (h ind ca cb : Nat → Nat) (lc cn : Nat) (CL : Nat → Int32) (ho : Bool) (LT : Nat → Int32) (cd : Nat → Int64) (fl dl vb : Nat → Nat) (ts st : Nat → List Nat) (d vt : Nat) (w : Bool) : Prop :=
  hs_XL h ind ca cb lc cn CL ho (fl d) (dl d) d ∧ hs_XS LT cd CL (fl d) (ts d) (st d) w d ∧ vt = vb d + hs_nv (st d) w ∧ ¬ (ho = true ∧ d = 0)
def hs_YC (LT CL : Nat → Int32) (HE : Nat → Int64) (fMa fHo fVa fOp fNe : Nat → Int32) (fRe loc : Nat → Int64) (dlk vbk obk k : Nat) : Prop :=
  fVa k = nI vbk ∧ fOp k = nI obk ∧ (k = 0 → fMa 0 = 0) ∧ (1 ≤ k → fMa k = LT (dlk * 14 + 8) ∧ fHo k = CL (k * 6 + 1) ∧ fNe k = CL (k * 6 + 5) ∧ fRe k = HE (k * 27 + 26) ∧ ∀ j, j < 26 → loc (k * 26 + j) = HE (k * 27 + j))
def hs_YS (tx LT fPo fSt fTa ops : Nat → Int32) (flk : Nat) (tsk stk : List Nat) (obk obn k : Nat) : Prop :=
  ∃ pp, fPo k = nI pp ∧ hs_TA tx pp tsk ∧ fSt k = hs_smk (LT (flk * 14)) ∧ hs_tg LT flk (fTa k) ∧ hs_SA ops obk obn stk
section
variable {x_objectLimit x_stepLimit x_depthLimit x_pendingCount x_keptTokens x_keptLines x_lineCount x_codeCount x_cursor x_stop x_waitingCount x_openCount x_classCount x_callCount x_operandCount x_stepsTaken x_error x_raisedCode x_printCount x_lastPlace : Int32} {x_lastResult : Int64} {x_pending x_lineTable x_orders x_merging x_letterClass x_objectClass x_calls x_lastPrints : Nat → Int32} {x_code x_waiting x_globals x_entries x_attributes x_held x_operands : Nat → Int64}
variable {y_maxObjects y_maxSteps y_maxDepth y_kept y_end y_tokens y_pending y_lines y_classes y_prints y_place y_steps y_d y_valTop y_opTop y_opens y_pos y_tk y_tv y_stmt y_target y_err y_code y_outcome y_dry y_want y_starting y_ended y_bad y_hosted y_sawSuper : Int32} {y_result : Int64} {y_text y_numbers y_classOf y_alive y_orders y_lengths y_letters y_bases y_ops y_fLine y_fPos y_fStmt y_fTarget y_fMask y_fHome y_fOps y_fVals y_fNew y_out : Nat → Int32} {y_globals y_entries y_attrs y_vals y_locals y_fRecv : Nat → Int64}
/-- the reference's state between two turns; md none: at the end; some none: a line begins; some (some w): in an expression -/
def hs_V (tx nu LT : Nat → Int32) (P h : Nat → Nat) (lc : Nat) (yk yen yto ype yli : Int32) (mo mS mD : Nat) (gl ex at1 : Nat → Int64) (oc lt lp CL : Nat → Int32) (HE op : Nat → Int64) (ml : Nat → List Nat) (cn d vt s : Nat) (pc rc : Int32) (fl dl vb ob : Nat → Nat) (ts st : Nat → List Nat) (ho : Bool) (md : Option (Option Bool)) (v : SY) : Prop := match v with
  | (y_maxObjects, y_maxSteps, y_maxDepth, y_kept, y_end, y_tokens, y_pending, y_lines, y_classes, y_prints, y_place, y_steps, y_d, y_valTop, y_opTop, y_opens, y_pos, y_tk, y_tv, y_stmt, y_target, y_err, y_code, y_outcome, y_result, y_dry, y_want, y_starting, y_ended, y_bad, y_hosted, y_sawSuper, y_text, y_numbers, y_globals, y_entries, y_attrs, y_classOf, y_alive, y_orders, y_lengths, y_letters, y_bases, y_vals, y_ops, y_locals, y_fRecv, y_fLine, y_fPos, y_fStmt, y_fTarget, y_fMask, y_fHome, y_fOps, y_fVals, y_fNew, y_out) => (y_maxObjects = nI mo ∧ y_maxSteps = nI mS ∧ y_maxDepth = nI mD ∧ y_kept = yk ∧ y_end = yen ∧ y_tokens = yto ∧ y_pending = ype ∧ y_lines = yli ∧ y_classes = nI cn ∧ y_prints = pc ∧ y_place = 0 ∧ y_steps = nI s ∧ y_d = nI d ∧ y_valTop = nI vt ∧ y_err = 0 ∧ y_code = rc ∧ y_outcome = 0 ∧ y_result = 0 ∧ y_dry = 0 ∧ y_ended = 0 ∧ y_hosted = hs_b ho ∧ y_text = tx ∧ y_numbers = nu ∧ y_globals = gl ∧ y_attrs = at1 ∧ y_classOf = oc ∧ y_letters = lt ∧ y_out = lp) ∧
    hs_EE P (hs_df h lc) ex y_entries ∧ hs_OY cn ml y_orders y_lengths ∧ (∀ j, j < vt → y_vals j = op j) ∧ (∀ j, j < 26 → y_locals j = 0) ∧
    (∀ k, k ≤ d → hs_YC LT CL HE y_fMask y_fHome y_fVals y_fOps y_fNew y_fRecv y_locals (dl k) (vb k) (ob k) k) ∧
    (∀ k, k < d → ¬ (ho = true ∧ k = 0) → y_fLine k = nI (P (fl k)) ∧ hs_YS tx LT y_fPos y_fStmt y_fTarget y_ops (fl k) (ts k) (st k) (ob k) (ob (k + 1)) k) ∧
    match md with
    | none => y_starting = 1 ∧ y_fLine d = -1
    | some none => y_starting = 1 ∧ y_fLine d = nI (P (fl d)) ∧ y_opTop = nI (ob d)
    | some (some w) => y_starting = 0 ∧ y_fLine d = nI (P (fl d)) ∧ y_want = hs_b w ∧ ∃ pp, y_pos = nI pp ∧ hs_TA tx pp (ts d) ∧ y_stmt = hs_smk (LT (fl d * 14)) ∧ hs_tg LT (fl d) y_target ∧ y_opTop = nI (ob d + (st d).length) ∧ hs_SA y_ops (ob d) (ob d + (st d).length) (st d)
/-- the reference's state at the end -/
def hs_VF (tx nu : Nat → Int32) (P h : Nat → Nat) (lc : Nat) (yk yen yto ype yli : Int32) (mo mS mD : Nat) (gl ex at1 : Nat → Int64) (oc lt lp : Nat → Int32) (ml : Nat → List Nat) (cn : Nat) (pc rc er pl : Int32) (rv : Int64) (v : SY) : Prop := match v with
  | (y_maxObjects, y_maxSteps, y_maxDepth, y_kept, y_end, y_tokens, y_pending, y_lines, y_classes, y_prints, y_place, y_steps, y_d, y_valTop, y_opTop, y_opens, y_pos, y_tk, y_tv, y_stmt, y_target, y_err, y_code, y_outcome, y_result, y_dry, y_want, y_starting, y_ended, y_bad, y_hosted, y_sawSuper, y_text, y_numbers, y_globals, y_entries, y_attrs, y_classOf, y_alive, y_orders, y_lengths, y_letters, y_bases, y_vals, y_ops, y_locals, y_fRecv, y_fLine, y_fPos, y_fStmt, y_fTarget, y_fMask, y_fHome, y_fOps, y_fVals, y_fNew, y_out) => (y_maxObjects = nI mo ∧ y_maxSteps = nI mS ∧ y_maxDepth = nI mD ∧ y_kept = yk ∧ y_end = yen ∧ y_tokens = yto ∧ y_pending = ype ∧ y_lines = yli ∧ y_classes = nI cn ∧ y_prints = pc ∧ y_place = pl ∧ y_d = 0 ∧ y_valTop = 0 ∧ y_opTop = 0 ∧ y_code = rc ∧ y_outcome = er ∧ y_result = rv ∧ y_dry = 0 ∧ y_text = tx ∧ y_numbers = nu ∧ y_globals = gl ∧ y_attrs = at1 ∧ y_classOf = oc ∧ y_letters = lt ∧ y_out = lp) ∧
    hs_EE P (hs_df h lc) ex y_entries ∧ hs_OY cn ml y_orders y_lengths ∧ (∀ j, j < 26 → y_locals j = 0) ∧ y_fMask 0 = 0 ∧ y_fVals 0 = 0 ∧ y_fOps 0 = 0
/-- what the component's end answers -/
def hs_rs (er c2 rc : Int32) (op : Nat → Int64) (rv : Int64) : Prop :=
  (er = 0 → (c2 = 0 ∧ rv = 0) ∨ (c2 = 1 ∧ hs_vv rv ∧ op 0 = rv)) ∧ (er = 8 → rv = hs_int rc) ∧ (er ≠ 0 → er ≠ 8 → rv = 0)
def hs_lX (post : SX → Prop) (n : Nat) (i : Int32) (u : SX) : Prop := match u with
  | (x_objectLimit, x_stepLimit, x_depthLimit, x_pendingCount, x_keptTokens, x_keptLines, x_lineCount, x_codeCount, x_cursor, x_stop, x_waitingCount, x_openCount, x_classCount, x_callCount, x_operandCount, x_stepsTaken, x_error, x_raisedCode, x_printCount, x_lastResult, x_lastPlace, x_pending, x_lineTable, x_code, x_waiting, x_globals, x_entries, x_orders, x_merging, x_letterClass, x_objectClass, x_attributes, x_calls, x_held, x_operands, x_lastPrints) => wX_execute_2 post n i x_objectLimit x_stepLimit x_depthLimit x_pendingCount x_keptTokens x_keptLines x_lineCount x_codeCount x_cursor x_stop x_waitingCount x_openCount x_classCount x_callCount x_operandCount x_stepsTaken x_error x_raisedCode x_printCount x_lastResult x_lastPlace x_pending x_lineTable x_code x_waiting x_globals x_entries x_orders x_merging x_letterClass x_objectClass x_attributes x_calls x_held x_operands x_lastPrints
def hs_lY (post : SY → Prop) (n : Nat) (i : Int32) (v : SY) : Prop := match v with
  | (y_maxObjects, y_maxSteps, y_maxDepth, y_kept, y_end, y_tokens, y_pending, y_lines, y_classes, y_prints, y_place, y_steps, y_d, y_valTop, y_opTop, y_opens, y_pos, y_tk, y_tv, y_stmt, y_target, y_err, y_code, y_outcome, y_result, y_dry, y_want, y_starting, y_ended, y_bad, y_hosted, y_sawSuper, y_text, y_numbers, y_globals, y_entries, y_attrs, y_classOf, y_alive, y_orders, y_lengths, y_letters, y_bases, y_vals, y_ops, y_locals, y_fRecv, y_fLine, y_fPos, y_fStmt, y_fTarget, y_fMask, y_fHome, y_fOps, y_fVals, y_fNew, y_out) => wY_go_32 post n i y_maxObjects y_maxSteps y_maxDepth y_kept y_end y_tokens y_pending y_lines y_classes y_prints y_place y_steps y_d y_valTop y_opTop y_opens y_pos y_tk y_tv y_stmt y_target y_err y_code y_outcome y_result y_dry y_want y_starting y_ended y_bad y_hosted y_sawSuper y_text y_numbers y_globals y_entries y_attrs y_classOf y_alive y_orders y_lengths y_letters y_bases y_vals y_ops y_locals y_fRecv y_fLine y_fPos y_fStmt y_fTarget y_fMask y_fHome y_fOps y_fVals y_fNew y_out
/-- both sides end, related -/
def hs_Go (F : SX → (SY → Prop) → Prop) (N M : Nat) (u : SX) (V : SY → Prop) : Prop := ∀ i k, i + N ≤ 999999 → k + M ≤ 99999 → ∀ post : SX → Prop,
  (∀ u' V', F u' V' → (∀ Q : SY → Prop, (∀ v', V' v' → Q v') → ∀ v, V v → ∃ m, hs_lY Q m (nI k) v) → post u') → ∃ n, hs_lX post n (nI i) u
theorem hs_GoX {F : SX → (SY → Prop) → Prop} {N M : Nat} {u u1 : SX} {V : SY → Prop} (h : ∀ (post : SX → Prop) (n i : Nat), i < 999999 → hs_lX post n (nI (i + 1)) u1 → hs_lX post (n + 1) (nI i) u) (H : hs_Go F N M u1 V) : hs_Go F (N + 1) M u V := by
  intro i k hi hk post HP
  obtain ⟨n, hn⟩ := H (i + 1) k (by omega) hk post HP
  exact ⟨n + 1, h post n i (by omega) hn⟩
theorem hs_GoY {F : SX → (SY → Prop) → Prop} {N M : Nat} {u : SX} {V V1 : SY → Prop} (h : ∀ (Q : SY → Prop) (k : Nat), k < 99999 → (∀ v1, V1 v1 → ∃ m, hs_lY Q m (nI (k + 1)) v1) → ∀ v, V v → ∃ m, hs_lY Q m (nI k) v) (H : hs_Go F N M u V1) : hs_Go F N (M + 1) u V := by
  intro i k hi hk post HP
  refine H i (k + 1) hi (by omega) post (fun u' V' f1 f2 => HP u' V' f1 (fun Q hQ v hv => h Q k (by omega) (fun v1 hv1 => f2 Q hQ v1 hv1) v hv))
theorem hs_GoM {F : SX → (SY → Prop) → Prop} {N M N1 M1 : Nat} {u : SX} {V : SY → Prop} (h1 : N1 ≤ N) (h2 : M1 ≤ M) (H : hs_Go F N1 M1 u V) : hs_Go F N M u V := fun i k hi hk => H i k (by omega) (by omega)
theorem hs_DnF {h ind : Nat → Nat} {a : Nat} : ∀ (n m i : Nat), ind i < n → ind i < m → hs_Dn h ind a n i = hs_Dn h ind a m i
  | 0, _, _, h1, _ => by omega
  | _, 0, _, _, h1 => by omega
  | n + 1, m + 1, i, h1, h2 => by
    unfold hs_Dn
    cases e : hs_pa ind a i with
    | none => rfl
    | some p =>
      have hp : hs_Pa ind a i (some p) := by rw [← e]; exact hs_paOK
      have := hp.2.2.1
      show (if h p = 2 then some p else hs_Dn h ind a n p) = (if h p = 2 then some p else hs_Dn h ind a m p)
      rw [hs_DnF n m p (by omega) (by omega)]
theorem hs_D1 {h ind : Nat → Nat} {a i p : Nat} (hi : ind i ≤ 8) (e : hs_pa ind a i = some p) : hs_D h ind a i = if h p = 2 then some p else hs_D h ind a p := by
  have hp : hs_Pa ind a i (some p) := by rw [← e]; exact hs_paOK
  have := hp.2.2.1
  show (match hs_pa ind a i with | none => none | some p => if h p = 2 then some p else hs_Dn h ind a 8 p) = _
  rw [e]
  show (if h p = 2 then some p else hs_Dn h ind a 8 p) = _
  rw [hs_DnF 8 9 p (by omega) (by omega)]
  rfl
theorem hs_D0 {h ind : Nat → Nat} {a i : Nat} (e : hs_pa ind a i = none) : hs_D h ind a i = none := by
  show (match hs_pa ind a i with | none => none | some p => if h p = 2 then some p else hs_Dn h ind a 8 p) = _
  rw [e]
theorem hs_in1 {h ind : Nat → Nat} {a i p w : Nat} (hi : ind i ≤ 8) (e : hs_pa ind a i = some p) : hs_in h ind a w 9 i = (decide (h p = w) || hs_in h ind a w 9 p) := by
  have hp : hs_Pa ind a i (some p) := by rw [← e]; exact hs_paOK
  have := hp.2.2.1
  show (match hs_pa ind a i with | none => false | some p => decide (h p = w) || hs_in h ind a w 8 p) = _
  rw [e]
  show (decide (h p = w) || hs_in h ind a w 8 p) = _
  rw [hs_inF 8 9 p (by omega) (by omega)]
theorem hs_in0 {h ind : Nat → Nat} {a i w : Nat} (e : hs_pa ind a i = none) : hs_in h ind a w 9 i = false := by
  show (match hs_pa ind a i with | none => false | some p => decide (h p = w) || hs_in h ind a w 8 p) = _
  rw [e]
end
end
section
/-! one step of an expression on the reference's side, for real -/
section
variable {x_objectLimit x_stepLimit x_depthLimit x_pendingCount x_keptTokens x_keptLines x_lineCount x_codeCount x_cursor x_stop x_waitingCount x_openCount x_classCount x_callCount x_operandCount x_stepsTaken x_error x_raisedCode x_printCount x_lastPlace : Int32} {x_lastResult : Int64} {x_pending x_lineTable x_orders x_merging x_letterClass x_objectClass x_calls x_lastPrints : Nat → Int32} {x_code x_waiting x_globals x_entries x_attributes x_held x_operands : Nat → Int64}
variable {y_maxObjects y_maxSteps y_maxDepth y_kept y_end y_tokens y_pending y_lines y_classes y_prints y_place y_steps y_d y_valTop y_opTop y_opens y_pos y_tk y_tv y_stmt y_target y_err y_code y_outcome y_dry y_want y_starting y_ended y_bad y_hosted y_sawSuper : Int32} {y_result : Int64} {y_text y_numbers y_classOf y_alive y_orders y_lengths y_letters y_bases y_ops y_fLine y_fPos y_fStmt y_fTarget y_fMask y_fHome y_fOps y_fVals y_fNew y_out : Nat → Int32} {y_globals y_entries y_attrs y_vals y_locals y_fRecv : Nat → Int64}
/-- what an element of code does there -/
def hs_yop (post : SY → Prop) (o q vt : Nat) (v : SY) : Prop := match v with
  | (y_maxObjects, y_maxSteps, y_maxDepth, y_kept, y_end, y_tokens, y_pending, y_lines, y_classes, y_prints, y_place, y_steps, y_d, y_valTop, y_opTop, y_opens, y_pos, y_tk, y_tv, y_stmt, y_target, y_err, y_code, y_outcome, y_result, y_dry, y_want, y_starting, y_ended, y_bad, y_hosted, y_sawSuper, y_text, y_numbers, y_globals, y_entries, y_attrs, y_classOf, y_alive, y_orders, y_lengths, y_letters, y_bases, y_vals, y_ops, y_locals, y_fRecv, y_fLine, y_fPos, y_fStmt, y_fTarget, y_fMask, y_fHome, y_fOps, y_fVals, y_fNew, y_out) => (o = 1 → post (y_maxObjects, y_maxSteps, y_maxDepth, y_kept, y_end, y_tokens, y_pending, y_lines, y_classes, y_prints, y_place, y_steps, y_d, nI (vt + 1), y_opTop, y_opens, y_pos, y_tk, y_tv, y_stmt, y_target, y_err, y_code, y_outcome, y_result, y_dry, 0, y_starting, y_ended, y_bad, y_hosted, y_sawSuper, y_text, y_numbers, y_globals, y_entries, y_attrs, y_classOf, y_alive, y_orders, y_lengths, y_letters, y_bases, vp_updL y_vals vt (hs_int (nI q)), y_ops, y_locals, y_fRecv, y_fLine, y_fPos, y_fStmt, y_fTarget, y_fMask, y_fHome, y_fOps, y_fVals, y_fNew, y_out)) ∧ (o = 3 → post (y_maxObjects, y_maxSteps, y_maxDepth, y_kept, y_end, y_tokens, y_pending, y_lines, y_classes, y_prints, y_place, y_steps, y_d, nI (vt + 1), y_opTop, y_opens, y_pos, y_tk, y_tv, y_stmt, y_target, y_err, y_code, y_outcome, y_result, y_dry, 0, y_starting, y_ended, y_bad, y_hosted, y_sawSuper, y_text, y_numbers, y_globals, y_entries, y_attrs, y_classOf, y_alive, y_orders, y_lengths, y_letters, y_bases, vp_updL y_vals vt 4294967296, y_ops, y_locals, y_fRecv, y_fLine, y_fPos, y_fStmt, y_fTarget, y_fMask, y_fHome, y_fOps, y_fVals, y_fNew, y_out)) ∧
    (o = 2 → wpY_variableNow (fun x => wY_operand_63 post x y_maxObjects y_maxSteps y_maxDepth y_kept y_end y_tokens y_pending y_lines y_classes y_prints y_place y_steps y_d y_valTop y_opTop y_opens y_pos y_tk y_tv y_stmt y_target y_err y_code y_outcome y_result y_dry y_want y_starting y_ended y_bad y_hosted y_sawSuper y_text y_numbers y_globals y_entries y_attrs y_classOf y_alive y_orders y_lengths y_letters y_bases y_vals y_ops y_locals y_fRecv y_fLine y_fPos y_fStmt y_fTarget y_fMask y_fHome y_fOps y_fVals y_fNew y_out) (y_maxObjects, y_maxSteps, y_maxDepth, y_kept, y_end, y_tokens, y_pending, y_lines, y_classes, y_prints, y_place, y_steps, y_d, y_valTop, y_opTop, y_opens, y_pos, y_tk, y_tv, y_stmt, y_target, y_err, y_code, y_outcome, y_result, y_dry, y_want, y_starting, y_ended, y_bad, y_hosted, y_sawSuper, y_text, y_numbers, y_globals, y_entries, y_attrs, y_classOf, y_alive, y_orders, y_lengths, y_letters, y_bases, y_vals, y_ops, y_locals, y_fRecv, y_fLine, y_fPos, y_fStmt, y_fTarget, y_fMask, y_fHome, y_fOps, y_fVals, y_fNew, y_out) (nI q)) ∧
    (o = 5 → (¬ 0 ≤ y_letters (q / 26) → post (y_maxObjects, y_maxSteps, y_maxDepth, y_kept, y_end, y_tokens, y_pending, y_lines, y_classes, y_prints, y_place, y_steps, y_d, y_valTop, y_opTop, y_opens, y_pos, y_tk, y_tv, y_stmt, y_target, 2, y_code, y_outcome, y_result, y_dry, y_want, y_starting, y_ended, y_bad, y_hosted, y_sawSuper, y_text, y_numbers, y_globals, y_entries, y_attrs, y_classOf, y_alive, y_orders, y_lengths, y_letters, y_bases, y_vals, y_ops, y_locals, y_fRecv, y_fLine, y_fPos, y_fStmt, y_fTarget, y_fMask, y_fHome, y_fOps, y_fVals, y_fNew, y_out)) ∧ (0 ≤ y_letters (q / 26) → wpY_search (fun e => wpY_read post (y_maxObjects, y_maxSteps, y_maxDepth, y_kept, y_end, y_tokens, y_pending, y_lines, y_classes, y_prints, y_place, y_steps, y_d, y_valTop, y_opTop, y_opens, y_pos, y_tk, y_tv, y_stmt, y_target, y_err, y_code, y_outcome, y_result, y_dry, y_want, y_starting, y_ended, y_bad, y_hosted, y_sawSuper, y_text, y_numbers, y_globals, y_entries, y_attrs, y_classOf, y_alive, y_orders, y_lengths, y_letters, y_bases, y_vals, y_ops, y_locals, y_fRecv, y_fLine, y_fPos, y_fStmt, y_fTarget, y_fMask, y_fHome, y_fOps, y_fVals, y_fNew, y_out) e) (y_maxObjects, y_maxSteps, y_maxDepth, y_kept, y_end, y_tokens, y_pending, y_lines, y_classes, y_prints, y_place, y_steps, y_d, y_valTop, y_opTop, y_opens, y_pos, y_tk, y_tv, y_stmt, y_target, y_err, y_code, y_outcome, y_result, y_dry, y_want, y_starting, y_ended, y_bad, y_hosted, y_sawSuper, y_text, y_numbers, y_globals, y_entries, y_attrs, y_classOf, y_alive, y_orders, y_lengths, y_letters, y_bases, y_vals, y_ops, y_locals, y_fRecv, y_fLine, y_fPos, y_fStmt, y_fTarget, y_fMask, y_fHome, y_fOps, y_fVals, y_fNew, y_out) (y_letters (q / 26)) 0 (nI (q % 26)))) ∧
    (o = 4 → wY_dot_136 post (nI q) y_maxObjects y_maxSteps y_maxDepth y_kept y_end y_tokens y_pending y_lines y_classes y_prints y_place y_steps y_d y_valTop y_opTop y_opens y_pos y_tk y_tv y_stmt y_target y_err y_code y_outcome y_result y_dry y_want y_starting y_ended y_bad y_hosted y_sawSuper y_text y_numbers y_globals y_entries y_attrs y_classOf y_alive y_orders y_lengths y_letters y_bases y_vals y_ops y_locals y_fRecv y_fLine y_fPos y_fStmt y_fTarget y_fMask y_fHome y_fOps y_fVals y_fNew y_out) ∧
    (6 ≤ o → o ≤ 11 → wY_close_149 post (nI (o % 2)) (nI (o / 2 - 1 + 64 * q)) (nI (o / 2 - 1)) (if o % 2 = 1 then y_vals (vt - 1) else 0) y_maxObjects y_maxSteps y_maxDepth y_kept y_end y_tokens y_pending y_lines y_classes y_prints y_place y_steps y_d y_valTop y_opTop y_opens y_pos y_tk y_tv y_stmt y_target y_err y_code y_outcome y_result y_dry y_want y_starting y_ended y_bad y_hosted y_sawSuper y_text y_numbers y_globals y_entries y_attrs y_classOf y_alive y_orders y_lengths y_letters y_bases y_vals y_ops y_locals y_fRecv y_fLine y_fPos y_fStmt y_fTarget y_fMask y_fHome y_fOps y_fVals y_fNew y_out) ∧
    (27 ≤ o → wpY_combine post (y_maxObjects, y_maxSteps, y_maxDepth, y_kept, y_end, y_tokens, y_pending, y_lines, y_classes, y_prints, y_place, y_steps, y_d, y_valTop, y_opTop + 1, y_opens, y_pos, y_tk, y_tv, y_stmt, y_target, y_err, y_code, y_outcome, y_result, y_dry, y_want, y_starting, y_ended, y_bad, y_hosted, y_sawSuper, y_text, y_numbers, y_globals, y_entries, y_attrs, y_classOf, y_alive, y_orders, y_lengths, y_letters, y_bases, y_vals, y_ops, y_locals, y_fRecv, y_fLine, y_fPos, y_fStmt, y_fTarget, y_fMask, y_fHome, y_fOps, y_fVals, y_fNew, y_out) (nI o))
theorem hs_yStepW {tx : Nat → Int32} {fo : Nat → Int32} {p dd base vt : Nat} {ts st : List Nat} {z : Bool} (h : hs_TA tx p ts) (hd : dd < 7) (hf : fo dd = nI base) (hS : hs_SA y_ops base (base + st.length) st) (ho : base + st.length < 320) (hv : vt < 320) (hv1 : hs_nv st true ≤ vt)
    {post : Int32 → SY → Prop} {ts' st' : List Nat} {w' : Bool} {e : List (Nat × Nat)} (hst0 : hs_step z ts true st = some (ts', w', st', e))
    (Hs : e = [] → ∀ (p' : Nat) (q1 q2 q3 q4 : Int32) (ops : Nat → Int32), hs_TA tx p' ts' → hs_SA ops base (base + st'.length) st' → (∀ k, k < base → ops k = y_ops k) → post 0 (y_maxObjects, y_maxSteps, y_maxDepth, y_kept, y_end, y_tokens, y_pending, y_lines, y_classes, y_prints, y_place, y_steps, nI dd, nI vt, nI (base + st'.length), q4, nI p', q1, q2, y_stmt, y_target, y_err, y_code, y_outcome, y_result, 0, hs_b w', y_starting, y_ended, y_bad, y_hosted, q3, tx, y_numbers, y_globals, y_entries, y_attrs, y_classOf, y_alive, y_orders, y_lengths, y_letters, y_bases, y_vals, ops, y_locals, y_fRecv, y_fLine, y_fPos, y_fStmt, y_fTarget, y_fMask, y_fHome, fo, y_fVals, y_fNew, y_out))
    (He : ∀ o q, e = [(o, q)] → w' = false → ∀ (p' : Nat) (q1 q2 q4 q5 : Int32), hs_TA tx p' ts' → hs_SA y_ops base (base + st'.length) st' → hs_yop (fun u => match u with | (y_maxObjectsq, y_maxStepsq, y_maxDepthq, y_keptq, y_endq, y_tokensq, y_pendingq, y_linesq, y_classesq, y_printsq, y_placeq, y_stepsq, y_dq, y_valTopq, y_opTopq, y_opensq, y_posq, y_tkq, y_tvq, y_stmtq, y_targetq, y_errq, y_codeq, y_outcomeq, y_resultq, y_dryq, y_wantq, y_startingq, y_endedq, y_badq, y_hostedq, y_sawSuperq, y_textq, y_numbersq, y_globalsq, y_entriesq, y_attrsq, y_classOfq, y_aliveq, y_ordersq, y_lengthsq, y_lettersq, y_basesq, y_valsq, y_opsq, y_localsq, y_fRecvq, y_fLineq, y_fPosq, y_fStmtq, y_fTargetq, y_fMaskq, y_fHomeq, y_fOpsq, y_fValsq, y_fNewq, y_outq) => post 0 (y_maxObjectsq, y_maxStepsq, y_maxDepthq, y_keptq, y_endq, y_tokensq, y_pendingq, y_linesq, y_classesq, y_printsq, y_placeq, y_stepsq, y_dq, y_valTopq, y_opTopq, y_opensq, y_posq, y_tkq, y_tvq, y_stmtq, y_targetq, y_errq, y_codeq, y_outcomeq, y_resultq, y_dryq, y_wantq, y_startingq, y_endedq, y_badq, y_hostedq, y_sawSuperq, y_textq, y_numbersq, y_globalsq, y_entriesq, y_attrsq, y_classOfq, y_aliveq, y_ordersq, y_lengthsq, y_lettersq, y_basesq, y_valsq, y_opsq, y_localsq, y_fRecvq, y_fLineq, y_fPosq, y_fStmtq, y_fTargetq, y_fMaskq, y_fHomeq, y_fOpsq, y_fValsq, y_fNewq, y_outq)) o q vt (y_maxObjects, y_maxSteps, y_maxDepth, y_kept, y_end, y_tokens, y_pending, y_lines, y_classes, y_prints, y_place, y_steps, nI dd, nI vt, nI (base + st'.length), q4, nI p', q1, q2, y_stmt, y_target, y_err, y_code, y_outcome, y_result, 0, q5, y_starting, y_ended, y_bad, y_hosted, y_sawSuper, tx, y_numbers, y_globals, y_entries, y_attrs, y_classOf, y_alive, y_orders, y_lengths, y_letters, y_bases, y_vals, y_ops, y_locals, y_fRecv, y_fLine, y_fPos, y_fStmt, y_fTarget, y_fMask, y_fHome, fo, y_fVals, y_fNew, y_out)) :
    wpY_expressionToken post (y_maxObjects, y_maxSteps, y_maxDepth, y_kept, y_end, y_tokens, y_pending, y_lines, y_classes, y_prints, y_place, y_steps, nI dd, nI vt, nI (base + st.length), y_opens, nI p, y_tk, y_tv, y_stmt, y_target, y_err, y_code, y_outcome, y_result, 0, 1, y_starting, y_ended, y_bad, y_hosted, y_sawSuper, tx, y_numbers, y_globals, y_entries, y_attrs, y_classOf, y_alive, y_orders, y_lengths, y_letters, y_bases, y_vals, y_ops, y_locals, y_fRecv, y_fLine, y_fPos, y_fStmt, y_fTarget, y_fMask, y_fHome, fo, y_fVals, y_fNew, y_out) := by
  cases ts with
  | nil => cases hst0
  | cons t r =>
    have hst : hs_opd t r st = some (ts', w', st', e) := hst0
    clear hst0
    have h1 := (hs_TAc h).2.2.2.2.2
    unfold hs_opd at hst
    split at hst
    · rename_i c
      cases hst
      exact hs_yNum h c hv ((He 1 (t - 1000) rfl rfl _ _ _ _ 1 h1 hS).1 rfl)
    split at hst
    · rename_i _ c
      subst c
      cases hst
      exact hs_yNone h hv ((He 3 0 rfl rfl _ _ _ _ 1 h1 hS).2.1 rfl)
    split at hst
    · rename_i _ _ c
      cases hst
      exact hs_yNameR h c ((He 2 (t - 100) rfl rfl _ _ _ _ _ h1 hS).2.2.1 rfl)
    split at hst
    · rename_i _ _ _ c
      subst c
      obtain ⟨o4, e4⟩ := hs_pshE hst
      cases e4
      exact hs_yOpenR h ho (Hs rfl _ _ _ _ _ _ h1 (hs_SApush (s := 1) hS (by decide)) (fun k hk => pk_un (by omega)))
    split at hst
    · rename_i _ _ _ _ c
      unfold hs_cls at hst
      split at hst
      · rename_i k r1
        split at hst
        · rename_i c2
          subst c2
          obtain ⟨o4, e4⟩ := hs_pshE hst
          cases e4
          have cc := hs_tkC c
          exact hs_yNewR h c ho (Hs rfl _ _ _ _ _ _ (hs_TAc h1).2.2.2.2.2 (hs_SApush hS (by omega)) (fun k hk => pk_un (by omega)))
        · split at hst
          · rename_i _ c2
            subst c2
            split at hst
            · rename_i n r2
              split at hst
              · rename_i c3
                cases hst
                have cc := hs_tkC c
                have cn := hs_tkN c3.1
                have y := (He 5 ((t - 130) * 26 + (n - 100)) rfl rfl _ (nI 100) (nI (n - 100)) y_opens 1 (hs_TAc (hs_TAc h1).2.2.2.2.2).2.2.2.2.2 hS).2.2.2.1 rfl
                rw [show ((t - 130) * 26 + (n - 100)) / 26 = t - 130 by omega, show ((t - 130) * 26 + (n - 100)) % 26 = n - 100 by omega] at y
                exact hs_yGetR h c c3.1 c3.2 y.1 y.2
              · cases hst
            · cases hst
          · cases hst
      · cases hst
    split at hst
    · rename_i _ _ _ _ _ c
      subst c
      unfold hs_sup at hst
      split at hst
      · rename_i k n p1 r1
        split at hst
        · rename_i c2
          obtain ⟨rfl, c3, rfl⟩ := c2
          obtain ⟨o4, e4⟩ := hs_pshE hst
          cases e4
          have cn := hs_tkN c3
          exact hs_ySupR h c3 ho (Hs rfl _ _ _ _ _ _ (hs_TAc (hs_TAc (hs_TAc h1).2.2.2.2.2).2.2.2.2.2).2.2.2.2.2 (hs_SApush hS (by omega)) (fun k hk => pk_un (by omega)))
        · cases hst
      · cases hst
    split at hst
    · rename_i _ _ _ _ _ _ c
      subst c
      unfold hs_cl0 at hst
      split at hst
      · rename_i s st1
        split at hst
        · rename_i c2
          cases hst
          obtain ⟨ot, e1, e2, e3, e4, e5⟩ := hS
          have el := hs_SAlen e5
          rw [← el] at He
          rw [e1]
          rw [e1] at ho
          refine hs_yC0 h hd hf e2 (by omega) e3 e4 c2 (hs_yClose0 hd hf e2 (by omega) e3 (hs_yCloseR (vt := vt) (arg := 0) e4 c2 (Or.inl ⟨rfl, rfl⟩) hv ?_))
          have y := (He (2 * (s % 64) + 2) (s / 64) rfl rfl _ (nI 22) (nI (22 - 22)) (y_opens - 1) 0 h1 e5).2.2.2.2.2.1 (by omega) (by omega)
          rw [show (2 * (s % 64) + 2) % 2 = 0 by omega, show (2 * (s % 64) + 2) / 2 - 1 = s % 64 by omega, show s % 64 + 64 * (s / 64) = s by omega] at y
          exact y
        · cases hst
      · cases hst
    · cases hst
end
end
section
/-! one step of an expression behind an operand, for real -/
section
variable {x_objectLimit x_stepLimit x_depthLimit x_pendingCount x_keptTokens x_keptLines x_lineCount x_codeCount x_cursor x_stop x_waitingCount x_openCount x_classCount x_callCount x_operandCount x_stepsTaken x_error x_raisedCode x_printCount x_lastPlace : Int32} {x_lastResult : Int64} {x_pending x_lineTable x_orders x_merging x_letterClass x_objectClass x_calls x_lastPrints : Nat → Int32} {x_code x_waiting x_globals x_entries x_attributes x_held x_operands : Nat → Int64}
variable {y_maxObjects y_maxSteps y_maxDepth y_kept y_end y_tokens y_pending y_lines y_classes y_prints y_place y_steps y_d y_valTop y_opTop y_opens y_pos y_tk y_tv y_stmt y_target y_err y_code y_outcome y_dry y_want y_starting y_ended y_bad y_hosted y_sawSuper : Int32} {y_result : Int64} {y_text y_numbers y_classOf y_alive y_orders y_lengths y_letters y_bases y_ops y_fLine y_fPos y_fStmt y_fTarget y_fMask y_fHome y_fOps y_fVals y_fNew y_out : Nat → Int32} {y_globals y_entries y_attrs y_vals y_locals y_fRecv : Nat → Int64}
theorem hs_yStepN {tx : Nat → Int32} {fo : Nat → Int32} {p dd base vt : Nat} {ts st : List Nat} {z : Bool} {sm : Int32} (hz : z = true ↔ sm = 50) (h : hs_TA tx p ts) (hd : dd < 7) (hf : fo dd = nI base) (hS : hs_SA y_ops base (base + st.length) st) (ho : base + st.length < 320) (hv : vt < 320) (hv1 : 1 ≤ vt)
    {post : Int32 → SY → Prop} {ts' st' : List Nat} {w' : Bool} {e : List (Nat × Nat)} (hst0 : hs_step z ts false st = some (ts', w', st', e)) (hnf : ¬ hs_fin ts false st)
    (Hs : e = [] → ∀ (p' : Nat) (q1 q2 q3 q4 : Int32) (ops : Nat → Int32), hs_TA tx p' ts' → hs_SA ops base (base + st'.length) st' → (∀ k, k < base → ops k = y_ops k) → post 0 (y_maxObjects, y_maxSteps, y_maxDepth, y_kept, y_end, y_tokens, y_pending, y_lines, y_classes, y_prints, y_place, y_steps, nI dd, nI vt, nI (base + st'.length), q4, nI p', q1, q2, sm, y_target, y_err, y_code, y_outcome, y_result, 0, hs_b w', y_starting, y_ended, y_bad, y_hosted, q3, tx, y_numbers, y_globals, y_entries, y_attrs, y_classOf, y_alive, y_orders, y_lengths, y_letters, y_bases, y_vals, ops, y_locals, y_fRecv, y_fLine, y_fPos, y_fStmt, y_fTarget, y_fMask, y_fHome, fo, y_fVals, y_fNew, y_out))
    (He : ∀ o q, e = [(o, q)] → w' = false → ∀ (p' : Nat) (q1 q2 q4 q5 : Int32), hs_TA tx p' ts' → hs_SA y_ops base (base + st'.length) st' → hs_yop (fun u => match u with | (y_maxObjectsq, y_maxStepsq, y_maxDepthq, y_keptq, y_endq, y_tokensq, y_pendingq, y_linesq, y_classesq, y_printsq, y_placeq, y_stepsq, y_dq, y_valTopq, y_opTopq, y_opensq, y_posq, y_tkq, y_tvq, y_stmtq, y_targetq, y_errq, y_codeq, y_outcomeq, y_resultq, y_dryq, y_wantq, y_startingq, y_endedq, y_badq, y_hostedq, y_sawSuperq, y_textq, y_numbersq, y_globalsq, y_entriesq, y_attrsq, y_classOfq, y_aliveq, y_ordersq, y_lengthsq, y_lettersq, y_basesq, y_valsq, y_opsq, y_localsq, y_fRecvq, y_fLineq, y_fPosq, y_fStmtq, y_fTargetq, y_fMaskq, y_fHomeq, y_fOpsq, y_fValsq, y_fNewq, y_outq) => post 0 (y_maxObjectsq, y_maxStepsq, y_maxDepthq, y_keptq, y_endq, y_tokensq, y_pendingq, y_linesq, y_classesq, y_printsq, y_placeq, y_stepsq, y_dq, y_valTopq, y_opTopq, y_opensq, y_posq, y_tkq, y_tvq, y_stmtq, y_targetq, y_errq, y_codeq, y_outcomeq, y_resultq, y_dryq, y_wantq, y_startingq, y_endedq, y_badq, y_hostedq, y_sawSuperq, y_textq, y_numbersq, y_globalsq, y_entriesq, y_attrsq, y_classOfq, y_aliveq, y_ordersq, y_lengthsq, y_lettersq, y_basesq, y_valsq, y_opsq, y_localsq, y_fRecvq, y_fLineq, y_fPosq, y_fStmtq, y_fTargetq, y_fMaskq, y_fHomeq, y_fOpsq, y_fValsq, y_fNewq, y_outq)) o q vt (y_maxObjects, y_maxSteps, y_maxDepth, y_kept, y_end, y_tokens, y_pending, y_lines, y_classes, y_prints, y_place, y_steps, nI dd, nI vt, nI (base + st'.length), q4, nI p', q1, q2, sm, y_target, y_err, y_code, y_outcome, y_result, 0, q5, y_starting, y_ended, y_bad, y_hosted, y_sawSuper, tx, y_numbers, y_globals, y_entries, y_attrs, y_classOf, y_alive, y_orders, y_lengths, y_letters, y_bases, y_vals, y_ops, y_locals, y_fRecv, y_fLine, y_fPos, y_fStmt, y_fTarget, y_fMask, y_fHome, fo, y_fVals, y_fNew, y_out)) :
    wpY_expressionToken post (y_maxObjects, y_maxSteps, y_maxDepth, y_kept, y_end, y_tokens, y_pending, y_lines, y_classes, y_prints, y_place, y_steps, nI dd, nI vt, nI (base + st.length), y_opens, nI p, y_tk, y_tv, sm, y_target, y_err, y_code, y_outcome, y_result, 0, 0, y_starting, y_ended, y_bad, y_hosted, y_sawSuper, tx, y_numbers, y_globals, y_entries, y_attrs, y_classOf, y_alive, y_orders, y_lengths, y_letters, y_bases, y_vals, y_ops, y_locals, y_fRecv, y_fLine, y_fPos, y_fStmt, y_fTarget, y_fMask, y_fHome, fo, y_fVals, y_fNew, y_out) := by
  have hT := hs_hdLt st
  have hst : hs_opr z ts st = some (ts', w', st', e) := hst0
  clear hst0
  unfold hs_opr at hst
  by_cases cc : 27 ≤ hs_hd st % 64 ∧ hs_hd ts ≠ 24 ∧ hs_rank (hs_hd ts) ≤ hs_rank (hs_hd st % 64) ∧ ¬ (hs_rank (hs_hd ts) = 1 ∧ hs_rank (hs_hd st % 64) = 1)
  · rw [if_pos cc] at hst
    cases hst
    cases st with
    | nil => simp [hs_hd] at cc
    | cons s st1 =>
      have hS' := hS
      obtain ⟨ot, e1, e2, e3, e4, e5⟩ := hS
      have el := hs_SAlen e5
      have cmb : ∀ (tk tv : Int32), wpY_combine (fun u => match u with | (y_maxObjectsq, y_maxStepsq, y_maxDepthq, y_keptq, y_endq, y_tokensq, y_pendingq, y_linesq, y_classesq, y_printsq, y_placeq, y_stepsq, y_dq, y_valTopq, y_opTopq, y_opensq, y_posq, y_tkq, y_tvq, y_stmtq, y_targetq, y_errq, y_codeq, y_outcomeq, y_resultq, y_dryq, y_wantq, y_startingq, y_endedq, y_badq, y_hostedq, y_sawSuperq, y_textq, y_numbersq, y_globalsq, y_entriesq, y_attrsq, y_classOfq, y_aliveq, y_ordersq, y_lengthsq, y_lettersq, y_basesq, y_valsq, y_opsq, y_localsq, y_fRecvq, y_fLineq, y_fPosq, y_fStmtq, y_fTargetq, y_fMaskq, y_fHomeq, y_fOpsq, y_fValsq, y_fNewq, y_outq) => post 0 (y_maxObjectsq, y_maxStepsq, y_maxDepthq, y_keptq, y_endq, y_tokensq, y_pendingq, y_linesq, y_classesq, y_printsq, y_placeq, y_stepsq, y_dq, y_valTopq, y_opTopq, y_opensq, y_posq, y_tkq, y_tvq, y_stmtq, y_targetq, y_errq, y_codeq, y_outcomeq, y_resultq, y_dryq, y_wantq, y_startingq, y_endedq, y_badq, y_hostedq, y_sawSuperq, y_textq, y_numbersq, y_globalsq, y_entriesq, y_attrsq, y_classOfq, y_aliveq, y_ordersq, y_lengthsq, y_lettersq, y_basesq, y_valsq, y_opsq, y_localsq, y_fRecvq, y_fLineq, y_fPosq, y_fStmtq, y_fTargetq, y_fMaskq, y_fHomeq, y_fOpsq, y_fValsq, y_fNewq, y_outq)) (y_maxObjects, y_maxSteps, y_maxDepth, y_kept, y_end, y_tokens, y_pending, y_lines, y_classes, y_prints, y_place, y_steps, nI dd, nI vt, nI (base + (s :: st1).length), y_opens, nI p, tk, tv, sm, y_target, y_err, y_code, y_outcome, y_result, 0, 0, y_starting, y_ended, y_bad, y_hosted, y_sawSuper, tx, y_numbers, y_globals, y_entries, y_attrs, y_classOf, y_alive, y_orders, y_lengths, y_letters, y_bases, y_vals, y_ops, y_locals, y_fRecv, y_fLine, y_fPos, y_fStmt, y_fTarget, y_fMask, y_fHome, fo, y_fVals, y_fNew, y_out) (nI (s % 64)) := by
        intro tk tv
        have y := (He (s % 64) 0 rfl rfl p tk tv y_opens 0 h (by show hs_SA y_ops base (base + st1.length) st1; rw [← el]; exact e5)).2.2.2.2.2.2 cc.1
        have ea : nI (base + st1.length) + 1 = nI (base + (s :: st1).length) := nI_add (base + st1.length) 1
        have et : base + (s :: st1).tail.length = base + st1.length := rfl
        rw [et, ea] at y
        exact y
      cases ts with
      | nil =>
        refine hs_yN0E h hd hf hS' ho ?_
        exact hs_y56c (k := 0) hT (by decide) cc.1 (by decide) cc.2.2.1 cc.2.2.2 (cmb _ _)
      | cons t r =>
        refine hs_yN0C (k := hs_tk t) h rfl hd hf hS' ho ?_
        have e1 := hs_rankTk t
        have c2 : t ≠ 24 := cc.2.1
        have c3 : hs_rank t ≤ hs_rank (s % 64) := cc.2.2.1
        have c4 : ¬ (hs_rank t = 1 ∧ hs_rank (s % 64) = 1) := cc.2.2.2
        exact hs_y56c (k := hs_tk t) hT (hs_tkLe t).1 cc.1 (hs_tkK c2 (by decide)) (by rw [e1]; exact c3) (by rw [e1]; exact c4) (cmb _ _)
  · rw [if_neg cc] at hst
    cases ts with
    | nil => cases hst
    | cons t r =>
      have cc' : ¬ (27 ≤ hs_hd st % 64 ∧ t ≠ 24 ∧ hs_rank t ≤ hs_rank (hs_hd st % 64) ∧ ¬ (hs_rank t = 1 ∧ hs_rank (hs_hd st % 64) = 1)) := cc
      have h1 := (hs_TAc h).2.2.2.2.2
      have e1 := hs_rankTk t
      have hcc : ¬ (27 ≤ hs_hd st % 64 ∧ hs_tk t ≠ 24 ∧ hs_rank (hs_tk t) ≤ hs_rank (hs_hd st % 64) ∧ ¬ (hs_rank (hs_tk t) = 1 ∧ hs_rank (hs_hd st % 64) = 1)) := by
        rw [e1]
        rintro ⟨a, b, c, d⟩
        refine cc' ⟨a, fun y => b ?_, c, d⟩
        rw [y]; rfl
      refine hs_yN0C (k := hs_tk t) h rfl hd hf hS ho (hs_y56n (k := hs_tk t) hT (hs_tkLe t).1 hcc ?_)
      have hst2 : hs_opr1 z t r st = some (ts', w', st', e) := hst
      clear hst
      have hst := hst2
      clear hst2
      unfold hs_opr1 at hst
      split at hst
      · rename_i r0
        split at hst
        · cases hst
        · rename_i q
          have ht32 : 27 ≤ t ∧ t ≤ 32 := by
            unfold hs_rank at r0
            split at r0
            · omega
            · split at r0
              · omega
              · split at r0 <;> omega
          cases hst
          have etk : hs_tk t = t := hs_tkS (by omega)
          rw [etk]
          exact hs_y116p hT (by omega) ho r0 (fun _ => Hs rfl _ _ _ _ _ _ h1 (hs_SApush hS (by omega)) (fun k hk => pk_un (by omega))) (fun z => absurd z q)
      split at hst
      · rename_i _ t24
        subst t24
        refine hs_y116d ?_
        unfold hs_dot at hst
        split at hst
        · rename_i n r1
          split at hst
          · rename_i hn
            have hn' := hs_tkN hn
            have h2 := (hs_TAc h1).2.2.2.2.2
            split at hst
            · rename_i r21
              obtain ⟨o4, e4⟩ := hs_pshE hst
              cases r1 with
              | nil => simp [hs_hd] at r21
              | cons q r2 =>
                have r21 : q = 21 := r21
                subst r21
                cases e4
                exact hs_yDotCall h1 hn (hs_yParenR ho (Hs rfl _ _ _ _ _ _ (hs_TAc h2).2.2.2.2.2 (hs_SApush hS (by omega)) (fun k hk => pk_un (by omega))))
            · rename_i r21
              split at hst
              · rename_i r26
                obtain ⟨a26, az, rfl⟩ := r26
                cases r1 with
                | nil => simp [hs_hd] at a26
                | cons q r2 =>
                  have a26 : q = 26 := a26
                  subst a26
                  cases hst
                  have e50 : sm = 50 := hz.mp az
                  subst e50
                  exact hs_yDotSet h1 hn hd hf ho (Hs rfl _ _ _ _ _ _ (hs_TAc h2).2.2.2.2.2 (hs_SApush hS (by omega)) (fun k hk => pk_un (by show k ≠ base + 0; omega)))
              · rename_i r26
                cases hst
                refine hs_yDotGet (base := base) (ot := base + st.length) h1 hn r21 ?_ hd hf (by omega) ho ((He 4 (n - 100) rfl rfl _ _ _ _ _ h2 hS).2.2.2.2.1 rfl)
                by_cases q : hs_hd ts' = 26
                · by_cases q2 : sm = 50
                  · refine Or.inr (Or.inr (fun q3 => r26 ⟨q, hz.mpr q2, ?_⟩))
                    exact List.eq_nil_of_length_eq_zero (by omega)
                  · exact Or.inr (Or.inl q2)
                · exact Or.inl q
          · cases hst
        · cases hst
      split at hst
      · rename_i _ _ t22
        subst t22
        refine hs_y116c ?_
        unfold hs_cl1 at hst
        split at hst
        · rename_i s st1
          obtain ⟨ot, e1, e2, e3, e4, e5⟩ := hS
          have el := hs_SAlen e5
          rw [e1] at ho
          rw [e1]
          split at hst
          · rename_i c2
            cases hst
            refine hs_yClose0 hd hf e2 (by omega) e3 (hs_yCloseG e4 c2 ?_)
            have y := Hs rfl (p + 1) (nI 22) (nI (22 - 22)) y_sawSuper (y_opens - 1) y_ops h1 (by rw [← el]; exact e5) (fun _ _ => rfl)
            rw [← el] at y
            exact y
          · split at hst
            · rename_i c2
              cases hst
              refine hs_yClose0 hd hf e2 (by omega) e3 (hs_yCloseR (vt := vt) (arg := y_vals (vt - 1)) e4 c2 (Or.inr ⟨rfl, hv1, rfl⟩) hv ?_)
              have y := (He (2 * (s % 64) + 3) (s / 64) rfl rfl _ (nI 22) (nI (22 - 22)) (y_opens - 1) 0 h1 (by rw [← el]; exact e5)).2.2.2.2.2.1 (by omega) (by omega)
              rw [show (2 * (s % 64) + 3) % 2 = 1 by omega, show (2 * (s % 64) + 3) / 2 - 1 = s % 64 by omega, show s % 64 + 64 * (s / 64) = s by omega, ← el, if_pos rfl] at y
              exact y
            · cases hst
        · cases hst
      · cases hst
theorem hs_yFin {tx : Nat → Int32} {fo : Nat → Int32} {p dd base : Nat} {ts st : List Nat} (h : hs_TA tx p ts) (hd : dd < 7) (hf : fo dd = nI base) (hS : hs_SA y_ops base (base + st.length) st) (ho : base + st.length < 320) (hfin : hs_fin ts false st)
    {post : Int32 → SY → Prop} (Hf : ∀ q1 q2 q3 : Int32, post 1 (y_maxObjects, y_maxSteps, y_maxDepth, y_kept, y_end, y_tokens, y_pending, y_lines, y_classes, y_prints, y_place, y_steps, nI dd, y_valTop, nI (base + st.length), y_opens, q1, q2, q3, y_stmt, y_target, y_err, y_code, y_outcome, y_result, y_dry, 0, y_starting, y_ended, y_bad, y_hosted, y_sawSuper, tx, y_numbers, y_globals, y_entries, y_attrs, y_classOf, y_alive, y_orders, y_lengths, y_letters, y_bases, y_vals, y_ops, y_locals, y_fRecv, y_fLine, y_fPos, y_fStmt, y_fTarget, y_fMask, y_fHome, fo, y_fVals, y_fNew, y_out)) : wpY_expressionToken post (y_maxObjects, y_maxSteps, y_maxDepth, y_kept, y_end, y_tokens, y_pending, y_lines, y_classes, y_prints, y_place, y_steps, nI dd, y_valTop, nI (base + st.length), y_opens, nI p, y_tk, y_tv, y_stmt, y_target, y_err, y_code, y_outcome, y_result, y_dry, 0, y_starting, y_ended, y_bad, y_hosted, y_sawSuper, tx, y_numbers, y_globals, y_entries, y_attrs, y_classOf, y_alive, y_orders, y_lengths, y_letters, y_bases, y_vals, y_ops, y_locals, y_fRecv, y_fLine, y_fPos, y_fStmt, y_fTarget, y_fMask, y_fHome, fo, y_fVals, y_fNew, y_out) := by
  obtain ⟨_, f1, f2, f3⟩ := hfin
  have hT := hs_hdLt st
  cases ts with
  | nil => exact hs_yN0E h hd hf hS ho (hs_y56n (k := 0) hT (by decide) (fun y => f2 y.1) (hs_y116o hT (Or.inl rfl) (fun q => Hf _ _ _) (fun q => absurd q f3)))
  | cons t r =>
    have t25 : t = 25 := by
      rcases f1 with q | q
      · cases q
      · exact q
    subst t25
    refine hs_yN0C (k := 25) h (hs_tkS (by decide)) hd hf hS ho (hs_y56n (k := 25) hT (by decide) (fun y => f2 y.1) (hs_y116o hT (Or.inr rfl) (fun q => Hf _ _ _) (fun q => absurd q f3)))
end
end
section
/-! what an element of code does: the values and the errors, on the component's side -/
section
variable {x_objectLimit x_stepLimit x_depthLimit x_pendingCount x_keptTokens x_keptLines x_lineCount x_codeCount x_cursor x_stop x_waitingCount x_openCount x_classCount x_callCount x_operandCount x_stepsTaken x_error x_raisedCode x_printCount x_lastPlace : Int32} {x_lastResult : Int64} {x_pending x_lineTable x_orders x_merging x_letterClass x_objectClass x_calls x_lastPrints : Nat → Int32} {x_code x_waiting x_globals x_entries x_attributes x_held x_operands : Nat → Int64}
variable {y_maxObjects y_maxSteps y_maxDepth y_kept y_end y_tokens y_pending y_lines y_classes y_prints y_place y_steps y_d y_valTop y_opTop y_opens y_pos y_tk y_tv y_stmt y_target y_err y_code y_outcome y_dry y_want y_starting y_ended y_bad y_hosted y_sawSuper : Int32} {y_result : Int64} {y_text y_numbers y_classOf y_alive y_orders y_lengths y_letters y_bases y_ops y_fLine y_fPos y_fStmt y_fTarget y_fMask y_fHome y_fOps y_fVals y_fNew y_out : Nat → Int32} {y_globals y_entries y_attrs y_vals y_locals y_fRecv : Nat → Int64}
def hs_io (v : Int64) (o : Nat) : Prop := o < 8 ∧ v = lN (12884901888 + o)
def hs_no (v : Int64) : Prop := ∃ m : Nat, v = lN m ∧ m < 2 ^ 62 ∧ m / 4294967296 ≠ 3
def hs_ni (v : Int64) : Prop := ∃ m : Nat, v = lN m ∧ m < 2 ^ 62 ∧ m / 4294967296 ≠ 2
theorem hs_neM1 {a : Nat} (h : a < 2 ^ 31) : ¬ nI a = -1 := by
  intro e
  have := congrArg Int32.toInt e
  rw [nI_toInt h, show (-1 : Int32).toInt = -1 by decide] at this
  omega
theorem hs_vvO {v : Int64} (h : hs_vv v) : (∃ o, hs_io v o) ∨ hs_no v := by
  obtain ⟨m, e, h⟩ := h
  rcases h with h | h | h
  · exact Or.inr ⟨m, e, by omega, by omega⟩
  · exact Or.inr ⟨m, e, by omega, by omega⟩
  · exact Or.inl ⟨m - 12884901888, by omega, by rw [e]; exact congrArg lN (by omega)⟩
theorem hs_vvI {v : Int64} (h : hs_vv v) : (∃ a, v = hs_int a) ∨ hs_ni v := by
  obtain ⟨m, e, h⟩ := h
  rcases h with h | h | h
  · exact Or.inr ⟨m, e, by omega, by omega⟩
  · exact Or.inl ⟨nI m, by rw [hs_intOf h.1 h.2]; exact e⟩
  · exact Or.inr ⟨m, e, by omega, by omega⟩
theorem hs_ioI {a : Int32} {o : Nat} : ¬ hs_io (hs_int a) o := by
  rintro ⟨h, e⟩
  rw [hs_intN, pk_lEQ (by have := a.toBitVec.isLt; omega) (by omega)] at e
  have := a.toBitVec.isLt
  omega
theorem hs_xkO {v : Int64} {o : Nat} (h : hs_io v o) {post : Int32 → Prop} (H : post 1) : wpX_hasKind post v 12884901888 := by
  rw [h.2]
  exact hs_hk3 (by have := h.1; omega) (fun _ => H) (fun z => by have := h.1; omega)
theorem hs_xkNO {v : Int64} (h : hs_no v) {post : Int32 → Prop} (H : post 0) : wpX_hasKind post v 12884901888 := by
  obtain ⟨m, rfl, h1, h2⟩ := h
  exact hs_hk3 h1 (fun z => absurd z h2) (fun _ => H)
theorem hs_xkI {a : Int32} {post : Int32 → Prop} (H : post 1) : wpX_hasKind post (hs_int a) 8589934592 := by
  have := a.toBitVec.isLt
  rw [hs_intN]
  exact hs_hk2 (by omega) (fun _ => H) (fun z => by omega)
theorem hs_xkNI {v : Int64} (h : hs_ni v) {post : Int32 → Prop} (H : post 0) : wpX_hasKind post v 8589934592 := by
  obtain ⟨m, rfl, h1, h2⟩ := h
  exact hs_hk2 h1 (fun z => absurd z h2) (fun _ => H)
theorem hs_ykO {v : Int64} {o : Nat} (h : hs_io v o) : v >>> ((32 : Int32).toInt64 &&& 63) = 3 := by
  rw [h.2, hs_yk3 (by have := h.1; omega)]; have := h.1; omega
theorem hs_ykNO {v : Int64} (h : hs_no v) : ¬ v >>> ((32 : Int32).toInt64 &&& 63) = 3 := by
  obtain ⟨m, rfl, h1, h2⟩ := h
  rw [hs_yk3 h1]; exact h2
theorem hs_ykI {a : Int32} : (hs_int a) >>> ((32 : Int32).toInt64 &&& 63) = 2 := by
  have := a.toBitVec.isLt
  rw [hs_intN, hs_yk2 (by omega)]; omega
theorem hs_ykNI {v : Int64} (h : hs_ni v) : ¬ v >>> ((32 : Int32).toInt64 &&& 63) = 2 := by
  obtain ⟨m, rfl, h1, h2⟩ := h
  rw [hs_yk2 h1]; exact h2
theorem hs_ioL {v : Int64} {o : Nat} (h : hs_io v o) : v.toInt32 = nI o := by rw [h.2]; exact hs_objLow h.1
theorem hs_xPush {vt : Nat} {op : Nat → Int64} (hv : vt < 280) {v : Int64} {post : SX → Prop} (H : post (x_objectLimit, x_stepLimit, x_depthLimit, x_pendingCount, x_keptTokens, x_keptLines, x_lineCount, x_codeCount, x_cursor, x_stop, x_waitingCount, x_openCount, x_classCount, x_callCount, nI (vt + 1), x_stepsTaken, x_error, x_raisedCode, x_printCount, x_lastResult, x_lastPlace, x_pending, x_lineTable, x_code, x_waiting, x_globals, x_entries, x_orders, x_merging, x_letterClass, x_objectClass, x_attributes, x_calls, x_held, vp_updL op vt v, x_lastPrints)) : wpX_push post (x_objectLimit, x_stepLimit, x_depthLimit, x_pendingCount, x_keptTokens, x_keptLines, x_lineCount, x_codeCount, x_cursor, x_stop, x_waitingCount, x_openCount, x_classCount, x_callCount, nI vt, x_stepsTaken, x_error, x_raisedCode, x_printCount, x_lastResult, x_lastPlace, x_pending, x_lineTable, x_code, x_waiting, x_globals, x_entries, x_orders, x_merging, x_letterClass, x_objectClass, x_attributes, x_calls, x_held, op, x_lastPrints) v := by
  refine pk_le 280 vt (fun z => by omega) (fun _ => And.intro (vp_in_nI hv (by decide)) ?_)
  rw [nI_clamp (show vt < 2 ^ 31 by omega)]
  exact nm_e (nm_r (nI_add vt 1) H)
theorem hs_xOperand {vt b : Nat} {op : Nat → Int64} (hv : vt ≤ 280) (hb : b < vt) {post : Int64 → Prop} (H : post (op (vt - 1 - b))) : wpX_operand post (x_objectLimit, x_stepLimit, x_depthLimit, x_pendingCount, x_keptTokens, x_keptLines, x_lineCount, x_codeCount, x_cursor, x_stop, x_waitingCount, x_openCount, x_classCount, x_callCount, nI vt, x_stepsTaken, x_error, x_raisedCode, x_printCount, x_lastResult, x_lastPlace, x_pending, x_lineTable, x_code, x_waiting, x_globals, x_entries, x_orders, x_merging, x_letterClass, x_objectClass, x_attributes, x_calls, x_held, op, x_lastPrints) (nI b) := by
  have e : nI vt - 1 - nI b = nI (vt - 1 - b) := by
    rw [show (1 : Int32) = nI 1 from rfl, pk_sub (by omega), pk_sub (by omega)]
  refine nm_r e (br_f (nI_pos (by omega)) (pk_le 280 (vt - 1 - b) (fun z => by omega) (fun _ => And.intro (vp_in_nI (by omega) (by decide)) ?_)))
  rw [nI_clamp (show vt - 1 - b < 2 ^ 31 by omega)]
  exact H
theorem hs_xPop {vt : Nat} {op : Nat → Int64} (hv : vt ≤ 280) (h1 : 1 ≤ vt) {post : Int64 → SX → Prop} (H : post (op (vt - 1)) (x_objectLimit, x_stepLimit, x_depthLimit, x_pendingCount, x_keptTokens, x_keptLines, x_lineCount, x_codeCount, x_cursor, x_stop, x_waitingCount, x_openCount, x_classCount, x_callCount, nI (vt - 1), x_stepsTaken, x_error, x_raisedCode, x_printCount, x_lastResult, x_lastPlace, x_pending, x_lineTable, x_code, x_waiting, x_globals, x_entries, x_orders, x_merging, x_letterClass, x_objectClass, x_attributes, x_calls, x_held, op, x_lastPrints)) : wpX_pop post (x_objectLimit, x_stepLimit, x_depthLimit, x_pendingCount, x_keptTokens, x_keptLines, x_lineCount, x_codeCount, x_cursor, x_stop, x_waitingCount, x_openCount, x_classCount, x_callCount, nI vt, x_stepsTaken, x_error, x_raisedCode, x_printCount, x_lastResult, x_lastPlace, x_pending, x_lineTable, x_code, x_waiting, x_globals, x_entries, x_orders, x_merging, x_letterClass, x_objectClass, x_attributes, x_calls, x_held, op, x_lastPrints) := by
  unfold wpX_pop
  refine hs_xOperand (b := 0) hv (by omega) ?_
  refine pk_le vt 0 (fun z => by omega) (fun _ => ?_)
  exact nm_r (show nI vt - 1 = nI (vt - 1) from pk_sub (b := 1) h1) H
/-- what is got of a class -/
def hs_gE (ex : Nat → Int64) (ml : Nat → List Nat) (c n : Nat) (v : Int64) : Prop := ∃ m, hs_sea ex n (ml c) = some m ∧ m < 10 ∧ v = ex (m * 26 + n) ∧ hs_vv v
def hs_gX (ex : Nat → Int64) (ml : Nat → List Nat) (c n : Nat) (er : Int32) : Prop := (hs_sea ex n (ml c) = none ∧ er = 4) ∨ ∃ m l, hs_sea ex n (ml c) = some m ∧ m < 10 ∧ ex (m * 26 + n) = lN (17179869184 + l) ∧ l < 1024 ∧ er = 3
theorem hs_seaM {ex : Nat → Int64} {n m : Nat} {ms : List Nat} (h19 : ex 19 ≠ 0) (h : hs_sea ex n ms = some m) : m ∈ ms ∧ ex (m * 26 + n) ≠ 0 := by
  unfold hs_sea at h
  split at h
  · rename_i c
    cases h
    exact ⟨c.2, by rw [c.1]; exact h19⟩
  · have h1 := List.find?_some h
    have h2 := List.mem_of_find?_eq_some h
    exact ⟨h2, by simpa using h1⟩
theorem hs_xGetEntry {P h : Nat → Nat} {lc cn c n vt : Nat} {ml : Nat → List Nat} {gl ex at1 op : Nat → Int64} {ox oc lt : Nat → Int32} (W : hs_WX P h lc cn ml gl ex at1 ox oc lt) (hc : c < cn) (hn : n < 26) (hv : vt < 280) {post : SX → Prop} (Hv : ∀ v, hs_gE ex ml c n v → post (x_objectLimit, x_stepLimit, x_depthLimit, x_pendingCount, x_keptTokens, x_keptLines, x_lineCount, x_codeCount, x_cursor, x_stop, x_waitingCount, x_openCount, x_classCount, x_callCount, nI (vt + 1), x_stepsTaken, x_error, x_raisedCode, x_printCount, x_lastResult, x_lastPlace, x_pending, x_lineTable, x_code, x_waiting, x_globals, ex, ox, x_merging, x_letterClass, x_objectClass, x_attributes, x_calls, x_held, vp_updL op vt v, x_lastPrints)) (He : ∀ er, hs_gX ex ml c n er → post (x_objectLimit, x_stepLimit, x_depthLimit, x_pendingCount, x_keptTokens, x_keptLines, x_lineCount, x_codeCount, x_cursor, x_stop, x_waitingCount, x_openCount, x_classCount, x_callCount, nI vt, x_stepsTaken, er, x_raisedCode, x_printCount, x_lastResult, x_lastPlace, x_pending, x_lineTable, x_code, x_waiting, x_globals, ex, ox, x_merging, x_letterClass, x_objectClass, x_attributes, x_calls, x_held, op, x_lastPrints)) : wpX_getEntry post (x_objectLimit, x_stepLimit, x_depthLimit, x_pendingCount, x_keptTokens, x_keptLines, x_lineCount, x_codeCount, x_cursor, x_stop, x_waitingCount, x_openCount, x_classCount, x_callCount, nI vt, x_stepsTaken, x_error, x_raisedCode, x_printCount, x_lastResult, x_lastPlace, x_pending, x_lineTable, x_code, x_waiting, x_globals, ex, ox, x_merging, x_letterClass, x_objectClass, x_attributes, x_calls, x_held, op, x_lastPrints) (nI c) (nI n) := by
  obtain ⟨⟨w1, w2⟩, w3, w4, w5, w6, w7, w8, w9, w10⟩ := W
  obtain ⟨o1, o2, o3, o4⟩ := w10 c hc
  have hm : ∀ m, m ∈ ml c → m < 10 := fun m hm => by have := o4 m hm; omega
  refine br_t (nI_le (a := 0) (Nat.zero_le _) (by omega)) (hs_xSea (k := 0) (l := ml c) (by omega) hn o2 o3 hm (by decide) ?_)
  rw [List.drop_zero]
  cases es : hs_sea ex n (ml c) with
  | none => exact br_f (by decide) (He 4 (Or.inl ⟨es, rfl⟩))
  | some m =>
    obtain ⟨s1, s2⟩ := hs_seaM w3 es
    have m10 := hm m s1
    have ei : nI m * 26 + nI n = nI (m * 26 + n) := hs_ixMul m 26 n
    refine br_t (nI_le (a := 0) (Nat.zero_le _) (by omega)) ?_
    rw [show hs_oI (some m) = nI m from rfl, ei, nI_clamp (show m * 26 + n < 2 ^ 31 by omega)]
    refine And.intro (vp_in_nI (by omega) (by decide)) (nm_e ?_)
    rcases w5 m n m10 hn with q | ⟨l, q1, q2, q3, q4⟩
    · rcases q with q | q
      · exact absurd q s2
      · obtain ⟨k, k1, k2⟩ := q
        have := Hv (ex (m * 26 + n)) ⟨m, es, m10, rfl, ⟨k, k1, k2⟩⟩
        rw [k1] at this ⊢
        exact hs_hk4 (by omega) (fun z => by omega) (fun _ => br_t rfl (hs_xPush hv this))
    · rw [q4]
      exact hs_hk4 (by omega) (fun _ => br_f (by decide) (He 3 (Or.inr ⟨m, l, es, m10, q4, q2, rfl⟩))) (fun z => by omega)
/-- the value of a name -/
def hs_gv (mk : Int32) (gl HE : Nat → Int64) (d q : Nat) : Int64 := if (mk >>> (nI q &&& 31)) &&& 1 = 0 then gl q else HE (d * 27 + q)
def hs_mk1 (LT : Nat → Int32) (dl : Nat → Nat) (d : Nat) : Int32 := if d = 0 then 0 else LT (dl d * 14 + 8)
theorem hs_and1 (x : Int32) : x &&& 1 = 0 ∨ x &&& 1 = 1 := by
  obtain ⟨j, h1, h2⟩ := pk_andE x (m := 1) 1 (by decide)
  have : j = 0 ∨ j = 1 := by omega
  rcases this with rfl | rfl
  · exact Or.inl h2
  · exact Or.inr h2
theorem hs_xIsLocal {LT CL : Nat → Int32} {dl : Nat → Nat} {d q : Nat} (hd : d ≤ 6) (h0 : d = 0 → CL 0 = -1) (h1 : 1 ≤ d → CL (d * 6) = nI (dl d) ∧ dl d < 405) {post : Int32 → Prop} (H1 : ¬ (hs_mk1 LT dl d >>> (nI q &&& 31)) &&& 1 = 0 → 1 ≤ d → post 1) (H0 : (hs_mk1 LT dl d >>> (nI q &&& 31)) &&& 1 = 0 → post 0) : wpX_isLocal post (x_objectLimit, x_stepLimit, x_depthLimit, x_pendingCount, x_keptTokens, x_keptLines, x_lineCount, x_codeCount, x_cursor, x_stop, x_waitingCount, x_openCount, x_classCount, nI (d + 1), x_operandCount, x_stepsTaken, x_error, x_raisedCode, x_printCount, x_lastResult, x_lastPlace, x_pending, LT, x_code, x_waiting, x_globals, x_entries, x_orders, x_merging, x_letterClass, x_objectClass, x_attributes, CL, x_held, x_operands, x_lastPrints) (nI q) := by
  have e : (nI (d + 1) - 1) * 6 + 0 = nI (d * 6) := by
    rw [Int32.add_zero, show (1 : Int32) = nI 1 from rfl, pk_sub (by omega), Nat.add_sub_cancel]; exact pk_mul d 6
  refine And.intro (by rw [e]; exact vp_in_nI (by omega) (by decide)) ?_
  rw [e, nI_clamp (show d * 6 < 2 ^ 31 by omega)]
  refine nm_e ?_
  by_cases z : d = 0
  · subst z
    refine br_t (h0 rfl) (H0 ?_)
    show ((0 : Int32) >>> (nI q &&& 31)) &&& 1 = 0
    have : (0 : Int32) >>> (nI q &&& 31) = 0 := by simp
    rw [this]; rfl
  · obtain ⟨a1, a2⟩ := h1 (by omega)
    have em : hs_mk1 LT dl d = LT (dl d * 14 + 8) := if_neg z
    rw [em] at H1 H0
    rw [a1]
    refine br_f (hs_neM1 (by omega)) ?_
    have e2 : nI (dl d) * 14 + 8 = nI (dl d * 14 + 8) := hs_ixMul (dl d) 14 8
    rw [e2, nI_clamp (show dl d * 14 + 8 < 2 ^ 31 by omega)]
    refine And.intro (vp_in_nI (by omega) (by decide)) ?_
    rcases hs_and1 (LT (dl d * 14 + 8) >>> (nI q &&& 31)) with k | k
    · exact br_f (by rw [k]; decide) (H0 k)
    · exact br_t k (H1 (by rw [k]; decide) (by omega))
end
end
section
/-! the automaton: how many values an element takes, and which letters it may speak of -/
theorem hs_qsC {k t : Nat} {r st : List Nat} (h : hs_qs k (t :: r) st) : hs_qs k r st := ⟨fun x hx => h.1 x (List.mem_cons_of_mem _ hx), fun hx => h.2.1 (List.mem_cons_of_mem _ hx), h.2.2⟩
theorem hs_qsP {k s : Nat} {r st : List Nat} (h : hs_qs k r st) (h1 : s / 64 < 26) (h2 : s % 64 = 3 → 1 ≤ k) : hs_qs k r (s :: st) := by
  refine ⟨h.1, h.2.1, fun x hx => ?_⟩
  rcases List.mem_cons.mp hx with q | q
  · rw [q]; exact ⟨h1, h2⟩
  · exact h.2.2 x q
theorem hs_qsT {k s : Nat} {r st : List Nat} (h : hs_qs k r (s :: st)) : hs_qs k r st := ⟨h.1, h.2.1, fun x hx => h.2.2 x (List.mem_cons_of_mem _ hx)⟩
theorem hs_stepV {z w w' : Bool} {ts st ts' st' : List Nat} {e : List (Nat × Nat)} {k : Nat} (hst : hs_step z ts w st = some (ts', w', st', e)) (hq : hs_qs k ts st) :
    hs_qs k ts' st' ∧ ((e = [] ∧ hs_nv st w = hs_nv st' w') ∨ ∃ o q, e = [(o, q)] ∧ w' = false ∧ hs_nv st w = hs_nst st' + hs_arr o ∧ hs_oq k o q) := by
  cases w with
  | true =>
    cases ts with
    | nil => cases hst
    | cons t r =>
      have h : hs_opd t r st = some (ts', w', st', e) := hst
      clear hst
      have q1 := hs_qsC hq
      have t31 : t < 2 ^ 31 := hq.1 t List.mem_cons_self
      unfold hs_opd at h
      split at h
      · cases h
        exact ⟨q1, Or.inr ⟨1, t - 1000, rfl, rfl, rfl, by unfold hs_oq; omega⟩⟩
      split at h
      · cases h
        exact ⟨q1, Or.inr ⟨3, 0, rfl, rfl, rfl, by unfold hs_oq; omega⟩⟩
      split at h
      · rename_i c
        have := hs_tkN c
        cases h
        exact ⟨q1, Or.inr ⟨2, t - 100, rfl, rfl, rfl, by unfold hs_oq; omega⟩⟩
      split at h
      · obtain ⟨_, e4⟩ := hs_pshE h
        cases e4
        exact ⟨hs_qsP q1 (by decide) (by omega), Or.inl ⟨rfl, by unfold hs_nv; rw [hs_nst0 (by omega)]⟩⟩
      split at h
      · rename_i c
        have cc := hs_tkC c
        unfold hs_cls at h
        split at h
        · rename_i k1 r1
          split at h
          · obtain ⟨_, e4⟩ := hs_pshE h
            cases e4
            exact ⟨hs_qsP (hs_qsC q1) (by omega) (by omega), Or.inl ⟨rfl, by unfold hs_nv; rw [hs_nst0 (by omega)]⟩⟩
          · split at h
            · split at h
              · rename_i n r2
                split at h
                · rename_i c3
                  have := hs_tkN c3.1
                  cases h
                  exact ⟨hs_qsC (hs_qsC q1), Or.inr ⟨5, _, rfl, rfl, rfl, by unfold hs_oq; omega⟩⟩
                · cases h
              · cases h
            · cases h
        · cases h
      split at h
      · rename_i c
        subst c
        have d1 : 1 ≤ k := hq.2.1 List.mem_cons_self
        unfold hs_sup at h
        split at h
        · rename_i k1 n p1 r1
          split at h
          · rename_i c2
            have := hs_tkN c2.2.1
            obtain ⟨_, e4⟩ := hs_pshE h
            cases e4
            exact ⟨hs_qsP (hs_qsC (hs_qsC (hs_qsC q1))) (by omega) (fun _ => d1), Or.inl ⟨rfl, by unfold hs_nv; rw [hs_nst0 (by omega)]⟩⟩
          · cases h
        · cases h
      split at h
      · unfold hs_cl0 at h
        split at h
        · rename_i s st1
          split at h
          · rename_i c2
            cases h
            obtain ⟨s1, s2⟩ := hq.2.2 s List.mem_cons_self
            refine ⟨hs_qsT q1, Or.inr ⟨_, _, rfl, rfl, ?_, by unfold hs_oq; omega⟩⟩
            show hs_nst (s :: st') + 0 = _
            by_cases c3 : s % 64 = 2
            · have ha : hs_arr (2 * (s % 64) + 2) = 1 := if_pos (by omega)
              rw [hs_nst1 (by omega), ha]
            · have ha : hs_arr (2 * (s % 64) + 2) = 0 := (if_neg (by omega)).trans (if_neg (by omega))
              rw [hs_nst0 (by omega), ha]
          · cases h
        · cases h
      · cases h
  | false =>
    have h : hs_opr z ts st = some (ts', w', st', e) := hst
    clear hst
    unfold hs_opr at h
    split at h
    · rename_i cc
      cases h
      cases st with
      | nil => simp [hs_hd] at cc
      | cons s st1 =>
        have c27 : 27 ≤ s % 64 := cc.1
        have := hs_hdLt (s :: st1)
        refine ⟨hs_qsT hq, Or.inr ⟨_, _, rfl, rfl, ?_, by unfold hs_oq; show 1 ≤ s % 64 ∧ _; simp [hs_hd] at *; omega⟩⟩
        unfold hs_nv hs_arr
        show hs_nst (s :: st1) + 1 = hs_nst st1 + _
        have : hs_hd (s :: st1) % 64 = s % 64 := rfl
        rw [this, hs_nst1 (by omega), if_neg (by omega), if_pos (by omega)]
    · rename_i ncc
      clear ncc
      cases ts with
      | nil => cases h
      | cons t r =>
        have h1 : hs_opr1 z t r st = some (ts', w', st', e) := h
        clear h
        have q1 := hs_qsC hq
        unfold hs_opr1 at h1
        split at h1
        · rename_i r0
          have ht32 : 27 ≤ t ∧ t ≤ 32 := by
            unfold hs_rank at r0
            split at r0
            · omega
            · split at r0
              · omega
              · split at r0 <;> omega
          split at h1
          · cases h1
          · cases h1
            exact ⟨hs_qsP q1 (by omega) (by omega), Or.inl ⟨rfl, by unfold hs_nv; rw [hs_nst1 (by omega)]; simp⟩⟩
        split at h1
        · unfold hs_dot at h1
          split at h1
          · rename_i n r1
            split at h1
            · rename_i hn
              have := hs_tkN hn
              split at h1
              · obtain ⟨_, e4⟩ := hs_pshE h1
                cases e4
                have q3 : hs_qs k r1.tail st := by
                  cases r1 with
                  | nil => exact hs_qsC q1
                  | cons a b => exact hs_qsC (hs_qsC q1)
                exact ⟨hs_qsP q3 (by omega) (by omega), Or.inl ⟨rfl, by unfold hs_nv; rw [hs_nst1 (by omega)]; simp⟩⟩
              · split at h1
                · rename_i c26
                  have q3 : hs_qs k r1.tail st := by
                    cases r1 with
                    | nil => exact hs_qsC q1
                    | cons a b => exact hs_qsC (hs_qsC q1)
                  obtain ⟨_, _, rfl⟩ := c26
                  cases h1
                  exact ⟨hs_qsP q3 (by omega) (by omega), Or.inl ⟨rfl, by unfold hs_nv; rw [hs_nst1 (by omega)]; simp⟩⟩
                · cases h1
                  exact ⟨hs_qsC q1, Or.inr ⟨4, _, rfl, rfl, by unfold hs_nv hs_arr; simp, by unfold hs_oq; omega⟩⟩
            · cases h1
          · cases h1
        split at h1
        · unfold hs_cl1 at h1
          split at h1
          · rename_i s st1
            obtain ⟨s1, s2⟩ := hq.2.2 s List.mem_cons_self
            split at h1
            · rename_i c2
              cases h1
              exact ⟨hs_qsT q1, Or.inl ⟨rfl, by unfold hs_nv; rw [hs_nst0 (by omega)]⟩⟩
            · split at h1
              · rename_i c2
                cases h1
                refine ⟨hs_qsT q1, Or.inr ⟨_, _, rfl, rfl, ?_, by unfold hs_oq; omega⟩⟩
                show hs_nst (s :: st') + 1 = _
                by_cases c3 : s % 64 = 2
                · have ha : hs_arr (2 * (s % 64) + 3) = 2 := (if_neg (by omega)).trans (if_pos (by omega))
                  rw [hs_nst1 (by omega), ha]
                · have ha : hs_arr (2 * (s % 64) + 3) = 1 := if_pos (by omega)
                  rw [hs_nst0 (by omega), ha]
              · cases h1
          · cases h1
        · cases h1
end
section
/-! what an element of code does, as relations; the component does it -/
section
variable {x_objectLimit x_stepLimit x_depthLimit x_pendingCount x_keptTokens x_keptLines x_lineCount x_codeCount x_cursor x_stop x_waitingCount x_openCount x_classCount x_callCount x_operandCount x_stepsTaken x_error x_raisedCode x_printCount x_lastPlace : Int32} {x_lastResult : Int64} {x_pending x_lineTable x_orders x_merging x_letterClass x_objectClass x_calls x_lastPrints : Nat → Int32} {x_code x_waiting x_globals x_entries x_attributes x_held x_operands : Nat → Int64}
variable {y_maxObjects y_maxSteps y_maxDepth y_kept y_end y_tokens y_pending y_lines y_classes y_prints y_place y_steps y_d y_valTop y_opTop y_opens y_pos y_tk y_tv y_stmt y_target y_err y_code y_outcome y_dry y_want y_starting y_ended y_bad y_hosted y_sawSuper : Int32} {y_result : Int64} {y_text y_numbers y_classOf y_alive y_orders y_lengths y_letters y_bases y_ops y_fLine y_fPos y_fStmt y_fTarget y_fMask y_fHome y_fOps y_fVals y_fNew y_out : Nat → Int32} {y_globals y_entries y_attrs y_vals y_locals y_fRecv : Nat → Int64}
def hs_ar (o : Nat) (a b : Int32) : Int32 := if o = 28 then (if b ≤ a then 0 else 1) else if o = 29 then a + b else if o = 30 then a - b else if o = 31 then a * b else if b = 0 then 0 else if a - a / b * b = 0 then a / b else if (0 ≤ a ↔ 0 ≤ b) then a / b else a / b - 1
def hs_RV (ml : Nat → List Nat) (gl ex at1 HE op : Nat → Int64) (oc lt : Nat → Int32) (mk : Int32) (cn d vt o q dr : Nat) (v : Int64) : Prop :=
  (o = 1 ∧ dr = 0 ∧ v = hs_int (nI q)) ∨ (o = 3 ∧ dr = 0 ∧ v = 4294967296) ∨ (o = 2 ∧ dr = 0 ∧ v = hs_gv mk gl HE d q ∧ v ≠ 0) ∨ (o = 5 ∧ dr = 0 ∧ ∃ c, c < cn ∧ lt (q / 26) = nI c ∧ hs_gE ex ml c (q % 26) v) ∨
  (o = 4 ∧ dr = 1 ∧ ∃ b, hs_io (op (vt - 1)) b ∧ ((at1 (b * 26 + q) ≠ 0 ∧ v = at1 (b * 26 + q)) ∨ (at1 (b * 26 + q) = 0 ∧ ∃ c, c < cn ∧ oc b = nI c ∧ hs_gE ex ml c q v))) ∨
  (27 ≤ o ∧ dr = 2 ∧ ((o = 27 ∧ v = hs_int (if op (vt - 2) = op (vt - 1) then 1 else 0)) ∨ (o ≠ 27 ∧ ∃ a b, op (vt - 2) = hs_int a ∧ op (vt - 1) = hs_int b ∧ ¬ (o = 32 ∧ b = 0) ∧ v = hs_int (hs_ar o a b))))
def hs_RE (ml : Nat → List Nat) (gl ex at1 HE op : Nat → Int64) (oc lt : Nat → Int32) (mk : Int32) (cn d vt o q : Nat) (er : Int32) : Prop :=
  (o = 2 ∧ hs_gv mk gl HE d q = 0 ∧ er = 2) ∨ (o = 5 ∧ lt (q / 26) = -1 ∧ er = 2) ∨ (o = 5 ∧ ∃ c, c < cn ∧ lt (q / 26) = nI c ∧ hs_gX ex ml c (q % 26) er) ∨
  (o = 4 ∧ hs_no (op (vt - 1)) ∧ er = 3) ∨ (o = 4 ∧ ∃ b, hs_io (op (vt - 1)) b ∧ at1 (b * 26 + q) = 0 ∧ ∃ c, c < cn ∧ oc b = nI c ∧ hs_gX ex ml c q er) ∨
  (28 ≤ o ∧ ¬ (o = 29 ∧ ∃ b, hs_io (op (vt - 2)) b) ∧ (hs_ni (op (vt - 2)) ∨ ((∃ a, op (vt - 2) = hs_int a) ∧ hs_ni (op (vt - 1)))) ∧ er = 3) ∨ (o = 32 ∧ ∃ a, op (vt - 2) = hs_int a ∧ op (vt - 1) = hs_int 0 ∧ er = 5) ∨
  ((o = 6 ∨ o = 7) ∧ hs_no (op (vt - 1 - (o - 6))) ∧ er = 3) ∨ ((o = 6 ∨ o = 7) ∧ ∃ b, hs_io (op (vt - 1 - (o - 6))) b ∧ at1 (b * 26 + q) ≠ 0 ∧ er = 3) ∨ (o = 29 ∧ ∃ b, hs_io (op (vt - 2)) b ∧ at1 (b * 26) ≠ 0 ∧ er = 3)
def hs_RM (ml : Nat → List Nat) (ex at1 HE op : Nat → Int64) (oc : Nat → Int32) (hm cn d vt o q : Nat) (fo : Option Nat) (n : Nat) (rv : Int64) (a us : Nat) : Prop :=
  ((o = 6 ∨ o = 7) ∧ a = o - 6 ∧ us = a + 1 ∧ n = q ∧ rv = op (vt - 1 - a) ∧ ∃ b c, hs_io rv b ∧ at1 (b * 26 + q) = 0 ∧ c < cn ∧ oc b = nI c ∧ fo = hs_sea ex n (ml c)) ∨
  ((o = 8 ∨ o = 9) ∧ a = o - 8 ∧ us = a ∧ n = q ∧ 1 ≤ d ∧ rv = HE (d * 27 + 26) ∧ ∃ b c, hs_io rv b ∧ c < cn ∧ oc b = nI c ∧ fo = hs_sea ex n ((ml c).drop ((ml c).idxOf hm + 1))) ∨
  (o = 29 ∧ a = 1 ∧ us = 2 ∧ n = 0 ∧ rv = op (vt - 2) ∧ ∃ b c, hs_io rv b ∧ at1 (b * 26) = 0 ∧ c < cn ∧ oc b = nI c ∧ fo = hs_sea ex 0 (ml c))
theorem hs_xArith {o : Nat} {a b : Int32} (ho : 28 ≤ o) (ho2 : o < 64) {post : Int32 → Prop} (H : post (hs_ar o a b)) : wpX_arithmetic post (nI o) a b := by
  have dv : (b = 0 → hs_ar o a b = 0) → (b ≠ 0 → a - a / b * b = 0 → hs_ar o a b = a / b) → (b ≠ 0 → a - a / b * b ≠ 0 → (0 ≤ a ↔ 0 ≤ b) → hs_ar o a b = a / b) → (b ≠ 0 → a - a / b * b ≠ 0 → ¬ (0 ≤ a ↔ 0 ≤ b) → hs_ar o a b = a / b - 1) → ((b = 0 → post 0) ∧ (¬ b = 0 → (¬ b = 0 ∧ (((a - a / b * b) = 0 → (¬ b = 0 ∧ (post (a / b)))) ∧ (¬ (a - a / b * b) = 0 → (((0 ≤ a → (wX_arithmetic_78 post a b 0)) ∧ (¬ 0 ≤ a → (wX_arithmetic_78 post a b 1)))))))) : Prop) := by
    intro h1 h2 h3 h4
    refine ⟨fun z => by rw [← h1 z]; exact H, fun z => ⟨z, ⟨fun y => ⟨z, by rw [← h2 z y]; exact H⟩, fun y => ⟨fun x => ?_, fun x => ?_⟩⟩⟩⟩
    · unfold wX_arithmetic_78 wX_arithmetic_87
      refine ⟨fun x2 => br_t rfl ⟨z, ?_⟩, fun x2 => br_f (by decide) ⟨z, ?_⟩⟩
      · rw [← h3 z y ⟨fun _ => x2, fun _ => x⟩]; exact H
      · rw [← h4 z y (fun k => x2 (k.mp x))]; exact H
    · unfold wX_arithmetic_78 wX_arithmetic_87
      refine ⟨fun x2 => br_f (by decide) ⟨z, ?_⟩, fun x2 => br_t rfl ⟨z, ?_⟩⟩
      · rw [← h4 z y (fun k => x (k.mpr x2))]; exact H
      · rw [← h3 z y ⟨fun k => absurd k x, fun k => absurd k x2⟩]; exact H
  unfold wpX_arithmetic
  unfold hs_ar at H dv
  refine pk_lt o 28 (fun z => by omega) (fun _ => pk_lt 31 o (fun z => ?_) (fun z => ?_))
  · rw [if_neg (show ¬ o = 28 by omega), if_neg (show ¬ o = 29 by omega), if_neg (show ¬ o = 30 by omega), if_neg (show ¬ o = 31 by omega)] at dv
    exact dv (fun q => if_pos q) (fun q1 q2 => (if_neg q1).trans (if_pos q2)) (fun q1 q2 q3 => (if_neg q1).trans ((if_neg q2).trans (if_pos q3))) (fun q1 q2 q3 => (if_neg q1).trans ((if_neg q2).trans (if_neg q3)))
  · refine pk_eq o 28 (fun k => ?_) (fun k => ?_)
    · rw [if_pos k] at H
      refine ⟨fun y => ?_, fun y => ?_⟩
      · rw [if_pos y] at H; exact H
      · rw [if_neg y] at H; exact H
    rw [if_neg k] at H
    refine pk_eq o 29 (fun k => ?_) (fun k => ?_)
    · rw [if_pos k] at H; exact H
    rw [if_neg k] at H
    refine pk_eq o 30 (fun k => ?_) (fun k => ?_)
    · rw [if_pos k] at H; exact H
    rw [if_neg k] at H
    refine pk_eq o 31 (fun k => ?_) (fun k => trivial)
    rw [if_pos k] at H; exact H
end
end
section
/-! the component runs an element of code -/
section
variable {x_objectLimit x_stepLimit x_depthLimit x_pendingCount x_keptTokens x_keptLines x_lineCount x_codeCount x_cursor x_stop x_waitingCount x_openCount x_classCount x_callCount x_operandCount x_stepsTaken x_error x_raisedCode x_printCount x_lastPlace : Int32} {x_lastResult : Int64} {x_pending x_lineTable x_orders x_merging x_letterClass x_objectClass x_calls x_lastPrints : Nat → Int32} {x_code x_waiting x_globals x_entries x_attributes x_held x_operands : Nat → Int64}
variable {y_maxObjects y_maxSteps y_maxDepth y_kept y_end y_tokens y_pending y_lines y_classes y_prints y_place y_steps y_d y_valTop y_opTop y_opens y_pos y_tk y_tv y_stmt y_target y_err y_code y_outcome y_dry y_want y_starting y_ended y_bad y_hosted y_sawSuper : Int32} {y_result : Int64} {y_text y_numbers y_classOf y_alive y_orders y_lengths y_letters y_bases y_ops y_fLine y_fPos y_fStmt y_fTarget y_fMask y_fHome y_fOps y_fVals y_fNew y_out : Nat → Int32} {y_globals y_entries y_attrs y_vals y_locals y_fRecv : Nat → Int64}
theorem hs_xGetAttr {P h : Nat → Nat} {lc cn d vt q : Nat} {ml : Nat → List Nat} {gl ex at1 op HE : Nat → Int64} {ox oc lt LT CL : Nat → Int32} {mk : Int32} (W : hs_WX P h lc cn ml gl ex at1 ox oc lt) (hop : ∀ j, j < vt → hs_vv (op j)) (hvt : vt ≤ 280) (h1 : 1 ≤ vt) (hq : q < 26) {post : SX → Prop}
    (Hv : ∀ dr v, hs_RV ml gl ex at1 HE op oc lt mk cn d vt 4 q dr v → dr ≤ vt → post (x_objectLimit, x_stepLimit, x_depthLimit, x_pendingCount, x_keptTokens, x_keptLines, x_lineCount, x_codeCount, x_cursor, x_stop, x_waitingCount, x_openCount, x_classCount, nI (d + 1), nI (vt - dr + 1), x_stepsTaken, x_error, x_raisedCode, x_printCount, x_lastResult, x_lastPlace, x_pending, LT, x_code, x_waiting, gl, ex, ox, x_merging, lt, oc, at1, CL, HE, vp_updL op (vt - dr) v, x_lastPrints)) (He : ∀ er c, hs_RE ml gl ex at1 HE op oc lt mk cn d vt 4 q er → post (x_objectLimit, x_stepLimit, x_depthLimit, x_pendingCount, x_keptTokens, x_keptLines, x_lineCount, x_codeCount, x_cursor, x_stop, x_waitingCount, x_openCount, x_classCount, nI (d + 1), c, x_stepsTaken, er, x_raisedCode, x_printCount, x_lastResult, x_lastPlace, x_pending, LT, x_code, x_waiting, gl, ex, ox, x_merging, lt, oc, at1, CL, HE, op, x_lastPrints)) : wpX_getAttribute post (x_objectLimit, x_stepLimit, x_depthLimit, x_pendingCount, x_keptTokens, x_keptLines, x_lineCount, x_codeCount, x_cursor, x_stop, x_waitingCount, x_openCount, x_classCount, nI (d + 1), nI vt, x_stepsTaken, x_error, x_raisedCode, x_printCount, x_lastResult, x_lastPlace, x_pending, LT, x_code, x_waiting, gl, ex, ox, x_merging, lt, oc, at1, CL, HE, op, x_lastPrints) (nI q) := by
  have W' := W
  obtain ⟨⟨w1, w2⟩, w3, w4, w5, w6, w7, w8, w9, w10⟩ := W
  unfold wpX_getAttribute
  refine hs_xPop hvt h1 ?_
  rcases hs_vvO (hop (vt - 1) (by omega)) with ⟨b, hb⟩ | hb
  · refine hs_xkO hb (br_f (by decide) ?_)
    have b8 := hb.1
    have ei : nI b * 26 + nI q = nI (b * 26 + q) := hs_ixMul b 26 q
    rw [hs_ioL hb, ei, nI_clamp (show b * 26 + q < 2 ^ 31 by omega)]
    refine And.intro (vp_in_nI (by omega) (by decide)) (nm_e ?_)
    by_cases z : at1 (b * 26 + q) = 0
    · obtain ⟨c, c1, c2⟩ := w8 b b8
      refine br_t z (And.intro (vp_in_nI b8 (by decide)) ?_)
      rw [nI_clamp (show b < 2 ^ 31 by omega), c2]
      refine hs_xGetEntry (vt := vt - 1) W' c1 hq (by omega) (fun v hv => ?_) (fun er hr => ?_)
      · exact Hv 1 v (Or.inr (Or.inr (Or.inr (Or.inr (Or.inl ⟨rfl, rfl, b, hb, Or.inr ⟨z, c, c1, c2, hv⟩⟩))))) h1
      · exact He er _ (Or.inr (Or.inr (Or.inr (Or.inr (Or.inl ⟨rfl, b, hb, z, c, c1, c2, hr⟩)))))
    · refine br_f z (hs_xPush (by omega) ?_)
      exact Hv 1 _ (Or.inr (Or.inr (Or.inr (Or.inr (Or.inl ⟨rfl, rfl, b, hb, Or.inl ⟨z, rfl⟩⟩))))) h1
  · exact hs_xkNO hb (br_t rfl (He 3 _ (Or.inr (Or.inr (Or.inr (Or.inl ⟨rfl, hb, rfl⟩))))))
theorem hs_xCompute {P h : Nat → Nat} {lc cn d vt q : Nat} {ml : Nat → List Nat} {gl ex at1 op HE : Nat → Int64} {ox oc lt LT CL : Nat → Int32} {mk : Int32} {o : Nat} (hop : ∀ j, j < vt → hs_vv (op j)) (hvt : vt ≤ 280) (h2 : 2 ≤ vt) (ho : 27 ≤ o) (ho2 : o < 64) (hnc : ¬ (o = 29 ∧ ∃ b, hs_io (op (vt - 2)) b)) {post : SX → Prop}
    (Hv : ∀ dr v, hs_RV ml gl ex at1 HE op oc lt mk cn d vt o q dr v → dr ≤ vt → post (x_objectLimit, x_stepLimit, x_depthLimit, x_pendingCount, x_keptTokens, x_keptLines, x_lineCount, x_codeCount, x_cursor, x_stop, x_waitingCount, x_openCount, x_classCount, nI (d + 1), nI (vt - dr + 1), x_stepsTaken, x_error, x_raisedCode, x_printCount, x_lastResult, x_lastPlace, x_pending, LT, x_code, x_waiting, gl, ex, ox, x_merging, lt, oc, at1, CL, HE, vp_updL op (vt - dr) v, x_lastPrints)) (He : ∀ er c, hs_RE ml gl ex at1 HE op oc lt mk cn d vt o q er → post (x_objectLimit, x_stepLimit, x_depthLimit, x_pendingCount, x_keptTokens, x_keptLines, x_lineCount, x_codeCount, x_cursor, x_stop, x_waitingCount, x_openCount, x_classCount, nI (d + 1), c, x_stepsTaken, er, x_raisedCode, x_printCount, x_lastResult, x_lastPlace, x_pending, LT, x_code, x_waiting, gl, ex, ox, x_merging, lt, oc, at1, CL, HE, op, x_lastPrints)) : wpX_compute post (x_objectLimit, x_stepLimit, x_depthLimit, x_pendingCount, x_keptTokens, x_keptLines, x_lineCount, x_codeCount, x_cursor, x_stop, x_waitingCount, x_openCount, x_classCount, nI (d + 1), nI vt, x_stepsTaken, x_error, x_raisedCode, x_printCount, x_lastResult, x_lastPlace, x_pending, LT, x_code, x_waiting, gl, ex, ox, x_merging, lt, oc, at1, CL, HE, op, x_lastPrints) (nI o) := by
  unfold wpX_compute
  refine hs_xPop hvt (by omega) (hs_xPop (by omega) (by omega) ?_)
  rw [show vt - 1 - 1 = vt - 2 by omega]
  have V : ∀ v, hs_RV ml gl ex at1 HE op oc lt mk cn d vt o q 2 v → wpX_push (fun u => match u with | (x_objectLimitq, x_stepLimitq, x_depthLimitq, x_pendingCountq, x_keptTokensq, x_keptLinesq, x_lineCountq, x_codeCountq, x_cursorq, x_stopq, x_waitingCountq, x_openCountq, x_classCountq, x_callCountq, x_operandCountq, x_stepsTakenq, x_errorq, x_raisedCodeq, x_printCountq, x_lastResultq, x_lastPlaceq, x_pendingq, x_lineTableq, x_codeq, x_waitingq, x_globalsq, x_entriesq, x_ordersq, x_mergingq, x_letterClassq, x_objectClassq, x_attributesq, x_callsq, x_heldq, x_operandsq, x_lastPrintsq) => post (x_objectLimitq, x_stepLimitq, x_depthLimitq, x_pendingCountq, x_keptTokensq, x_keptLinesq, x_lineCountq, x_codeCountq, x_cursorq, x_stopq, x_waitingCountq, x_openCountq, x_classCountq, x_callCountq, x_operandCountq, x_stepsTakenq, x_errorq, x_raisedCodeq, x_printCountq, x_lastResultq, x_lastPlaceq, x_pendingq, x_lineTableq, x_codeq, x_waitingq, x_globalsq, x_entriesq, x_ordersq, x_mergingq, x_letterClassq, x_objectClassq, x_attributesq, x_callsq, x_heldq, x_operandsq, x_lastPrintsq)) (x_objectLimit, x_stepLimit, x_depthLimit, x_pendingCount, x_keptTokens, x_keptLines, x_lineCount, x_codeCount, x_cursor, x_stop, x_waitingCount, x_openCount, x_classCount, nI (d + 1), nI (vt - 2), x_stepsTaken, x_error, x_raisedCode, x_printCount, x_lastResult, x_lastPlace, x_pending, LT, x_code, x_waiting, gl, ex, ox, x_merging, lt, oc, at1, CL, HE, op, x_lastPrints) v := fun v hv => hs_xPush (by omega) (Hv 2 v hv h2)
  refine pk_eq o 27 (fun z => ?_) (fun z => ?_)
  · refine ⟨fun y => ?_, fun y => ?_⟩
    · exact V (hs_int 1) (Or.inr (Or.inr (Or.inr (Or.inr (Or.inr ⟨ho, rfl, Or.inl ⟨z, by rw [if_pos y]⟩⟩)))))
    · exact V (hs_int 0) (Or.inr (Or.inr (Or.inr (Or.inr (Or.inr ⟨ho, rfl, Or.inl ⟨z, by rw [if_neg y]⟩⟩)))))
  · rcases hs_vvI (hop (vt - 2) (by omega)) with ⟨a, ha⟩ | ha
    · rw [ha]
      refine hs_xkI (br_f (by decide) ?_)
      rcases hs_vvI (hop (vt - 1) (by omega)) with ⟨b, hb⟩ | hb
      · rw [hb]
        refine hs_xkI (br_f (by decide) ?_)
        rw [hs_intLow, hs_intLow]
        have go : ¬ (o = 32 ∧ b = 0) → wX_compute_87 (fun u => match u with | (x_objectLimitq, x_stepLimitq, x_depthLimitq, x_pendingCountq, x_keptTokensq, x_keptLinesq, x_lineCountq, x_codeCountq, x_cursorq, x_stopq, x_waitingCountq, x_openCountq, x_classCountq, x_callCountq, x_operandCountq, x_stepsTakenq, x_errorq, x_raisedCodeq, x_printCountq, x_lastResultq, x_lastPlaceq, x_pendingq, x_lineTableq, x_codeq, x_waitingq, x_globalsq, x_entriesq, x_ordersq, x_mergingq, x_letterClassq, x_objectClassq, x_attributesq, x_callsq, x_heldq, x_operandsq, x_lastPrintsq) => post (x_objectLimitq, x_stepLimitq, x_depthLimitq, x_pendingCountq, x_keptTokensq, x_keptLinesq, x_lineCountq, x_codeCountq, x_cursorq, x_stopq, x_waitingCountq, x_openCountq, x_classCountq, x_callCountq, x_operandCountq, x_stepsTakenq, x_errorq, x_raisedCodeq, x_printCountq, x_lastResultq, x_lastPlaceq, x_pendingq, x_lineTableq, x_codeq, x_waitingq, x_globalsq, x_entriesq, x_ordersq, x_mergingq, x_letterClassq, x_objectClassq, x_attributesq, x_callsq, x_heldq, x_operandsq, x_lastPrintsq)) (nI o) a b x_objectLimit x_stepLimit x_depthLimit x_pendingCount x_keptTokens x_keptLines x_lineCount x_codeCount x_cursor x_stop x_waitingCount x_openCount x_classCount (nI (d + 1)) (nI (vt - 2)) x_stepsTaken x_error x_raisedCode x_printCount x_lastResult x_lastPlace x_pending LT x_code x_waiting gl ex ox x_merging lt oc at1 CL HE op x_lastPrints := by
          intro y
          unfold wX_compute_87
          exact hs_xArith (by omega) ho2 (V (hs_int (hs_ar o a b)) (Or.inr (Or.inr (Or.inr (Or.inr (Or.inr ⟨ho, rfl, Or.inr ⟨z, a, b, ha, hb, y, rfl⟩⟩))))))
        refine pk_eq o 32 (fun y => ⟨fun y2 => He 5 _ ?_, fun y2 => go (fun k => y2 k.2)⟩) (fun y => go (fun k => y k.1))
        subst y2
        exact Or.inr (Or.inr (Or.inr (Or.inr (Or.inr (Or.inr (Or.inl ⟨y, a, ha, hb, rfl⟩))))))
      · exact hs_xkNI hb (br_t rfl (He 3 _ (Or.inr (Or.inr (Or.inr (Or.inr (Or.inr (Or.inl ⟨by omega, hnc, Or.inr ⟨⟨a, ha⟩, hb⟩, rfl⟩))))))))
    · exact hs_xkNI ha (br_t rfl (He 3 _ (Or.inr (Or.inr (Or.inr (Or.inr (Or.inr (Or.inl ⟨by omega, hnc, Or.inl ha, rfl⟩))))))))
/-- a method of an operand -/
theorem hs_xCallM {P h : Nat → Nat} {lc cn d vt q : Nat} {ml : Nat → List Nat} {gl ex at1 op HE : Nat → Int64} {ox oc lt LT CL : Nat → Int32} {mk : Int32} {n a : Nat} (W : hs_WX P h lc cn ml gl ex at1 ox oc lt) (hop : ∀ j, j < vt → hs_vv (op j)) (hvt : vt ≤ 280) (h1 : a < vt) (hn : n < 26) {post : SX → Prop}
    (He : (hs_no (op (vt - 1 - a)) ∨ ∃ b, hs_io (op (vt - 1 - a)) b ∧ at1 (b * 26 + n) ≠ 0) → post (x_objectLimit, x_stepLimit, x_depthLimit, x_pendingCount, x_keptTokens, x_keptLines, x_lineCount, x_codeCount, x_cursor, x_stop, x_waitingCount, x_openCount, x_classCount, nI (d + 1), nI vt, x_stepsTaken, 3, x_raisedCode, x_printCount, x_lastResult, x_lastPlace, x_pending, LT, x_code, x_waiting, gl, ex, ox, x_merging, lt, oc, at1, CL, HE, op, x_lastPrints))
    (Hm : ∀ b c, hs_io (op (vt - 1 - a)) b → at1 (b * 26 + n) = 0 → c < cn → oc b = nI c → wpX_startCall (fun r u => match u with | (x_objectLimitq, x_stepLimitq, x_depthLimitq, x_pendingCountq, x_keptTokensq, x_keptLinesq, x_lineCountq, x_codeCountq, x_cursorq, x_stopq, x_waitingCountq, x_openCountq, x_classCountq, x_callCountq, x_operandCountq, x_stepsTakenq, x_errorq, x_raisedCodeq, x_printCountq, x_lastResultq, x_lastPlaceq, x_pendingq, x_lineTableq, x_codeq, x_waitingq, x_globalsq, x_entriesq, x_ordersq, x_mergingq, x_letterClassq, x_objectClassq, x_attributesq, x_callsq, x_heldq, x_operandsq, x_lastPrintsq) => ((r = 0 → post (x_objectLimitq, x_stepLimitq, x_depthLimitq, x_pendingCountq, x_keptTokensq, x_keptLinesq, x_lineCountq, x_codeCountq, x_cursorq, x_stopq, x_waitingCountq, x_openCountq, x_classCountq, x_callCountq, x_operandCountq, x_stepsTakenq, x_errorq, x_raisedCodeq, x_printCountq, x_lastResultq, x_lastPlaceq, x_pendingq, x_lineTableq, x_codeq, x_waitingq, x_globalsq, x_entriesq, x_ordersq, x_mergingq, x_letterClassq, x_objectClassq, x_attributesq, x_callsq, x_heldq, x_operandsq, x_lastPrintsq)) ∧ (¬ r = 0 → (vp_in (((x_callCountq - 1) * 6) + 0) 42 ∧ wpX_reach (fun u => match u with | (x_objectLimitw, x_stepLimitw, x_depthLimitw, x_pendingCountw, x_keptTokensw, x_keptLinesw, x_lineCountw, x_codeCountw, x_cursorw, x_stopw, x_waitingCountw, x_openCountw, x_classCountw, x_callCountw, x_operandCountw, x_stepsTakenw, x_errorw, x_raisedCodew, x_printCountw, x_lastResultw, x_lastPlacew, x_pendingw, x_lineTablew, x_codew, x_waitingw, x_globalsw, x_entriesw, x_ordersw, x_mergingw, x_letterClassw, x_objectClassw, x_attributesw, x_callsw, x_heldw, x_operandsw, x_lastPrintsw) => post (x_objectLimitw, x_stepLimitw, x_depthLimitw, x_pendingCountw, x_keptTokensw, x_keptLinesw, x_lineCountw, x_codeCountw, x_cursorw, x_stopw, x_waitingCountw, x_openCountw, x_classCountw, x_callCountw, x_operandCountw, x_stepsTakenw, x_errorw, x_raisedCodew, x_printCountw, x_lastResultw, x_lastPlacew, x_pendingw, x_lineTablew, x_codew, x_waitingw, x_globalsw, x_entriesw, x_ordersw, x_mergingw, x_letterClassw, x_objectClassw, x_attributesw, x_callsw, x_heldw, x_operandsw, x_lastPrintsw)) (x_objectLimitq, x_stepLimitq, x_depthLimitq, x_pendingCountq, x_keptTokensq, x_keptLinesq, x_lineCountq, x_codeCountq, x_cursorq, x_stopq, x_waitingCountq, x_openCountq, x_classCountq, x_callCountq, x_operandCountq, x_stepsTakenq, x_errorq, x_raisedCodeq, x_printCountq, x_lastResultq, x_lastPlaceq, x_pendingq, x_lineTableq, x_codeq, x_waitingq, x_globalsq, x_entriesq, x_ordersq, x_mergingq, x_letterClassq, x_objectClassq, x_attributesq, x_callsq, x_heldq, x_operandsq, x_lastPrintsq) ((x_callsq (((x_callCountq - 1) * 6) + 0).toNatClampNeg) + 1))))) (x_objectLimit, x_stepLimit, x_depthLimit, x_pendingCount, x_keptTokens, x_keptLines, x_lineCount, x_codeCount, x_cursor, x_stop, x_waitingCount, x_openCount, x_classCount, nI (d + 1), nI vt, x_stepsTaken, x_error, x_raisedCode, x_printCount, x_lastResult, x_lastPlace, x_pending, LT, x_code, x_waiting, gl, ex, ox, x_merging, lt, oc, at1, CL, HE, op, x_lastPrints) (hs_oI (hs_sea ex n (ml c))) (nI n) (op (vt - 1 - a)) (nI a) (nI (a + 1))) : wpX_callMethod post (x_objectLimit, x_stepLimit, x_depthLimit, x_pendingCount, x_keptTokens, x_keptLines, x_lineCount, x_codeCount, x_cursor, x_stop, x_waitingCount, x_openCount, x_classCount, nI (d + 1), nI vt, x_stepsTaken, x_error, x_raisedCode, x_printCount, x_lastResult, x_lastPlace, x_pending, LT, x_code, x_waiting, gl, ex, ox, x_merging, lt, oc, at1, CL, HE, op, x_lastPrints) (nI n) (nI a) := by
  obtain ⟨⟨w1, w2⟩, w3, w4, w5, w6, w7, w8, w9, w10⟩ := W
  unfold wpX_callMethod
  refine hs_xOperand hvt h1 ?_
  rcases hs_vvO (hop (vt - 1 - a) (by omega)) with ⟨b, hb⟩ | hb
  · refine hs_xkO hb (br_f (by decide) ?_)
    have b8 := hb.1
    have ei : nI b * 26 + nI n = nI (b * 26 + n) := hs_ixMul b 26 n
    rw [hs_ioL hb, ei, nI_clamp (show b * 26 + n < 2 ^ 31 by omega)]
    refine And.intro (vp_in_nI (by omega) (by decide)) ?_
    by_cases z : at1 (b * 26 + n) = 0
    · obtain ⟨c, c1, c2⟩ := w8 b b8
      obtain ⟨o1, o2, o3, o4⟩ := w10 c c1
      refine br_t z (And.intro (vp_in_nI b8 (by decide)) ?_)
      rw [nI_clamp (show b < 2 ^ 31 by omega), c2]
      refine hs_xSea (k := 0) (l := ml c) (by omega) hn o2 o3 (fun m hm => by have := o4 m hm; omega) (by decide) ?_
      rw [List.drop_zero]
      have y := Hm b c hb z c1 c2
      rw [show nI (a + 1) = nI a + 1 from nI_succ a] at y
      exact y
    · exact br_f z (He (Or.inr ⟨b, hb, z⟩))
  · exact hs_xkNO hb (br_t rfl (He (Or.inl hb)))
theorem hs_xPlace0 {ox : Nat → Int32} {c hm : Nat} {l : List Nat} (hc : c < 11) (hl : l.length ≤ 10) (ho : ∀ k, k < 12 → ox (c * 12 + k) = hs_gi l k) (hm10 : hm < 100) (hl2 : ∀ m, m ∈ l → m < 100) {post : Int32 → Prop} (H1 : ∀ k, k ≤ 12 → l.drop (k + 1) = l.drop (l.idxOf hm + 1) → post (nI k)) :
    ∀ (n k : Nat), k + n = 12 → (∀ j, j < k → l[j]? ≠ some hm) → wX_placeInOrder_2 post (nI c) (nI hm) x_objectLimit x_stepLimit x_depthLimit x_pendingCount x_keptTokens x_keptLines x_lineCount x_codeCount x_cursor x_stop x_waitingCount x_openCount x_classCount x_callCount x_operandCount x_stepsTaken x_error x_raisedCode x_printCount x_lastResult x_lastPlace x_pending x_lineTable x_code x_waiting x_globals x_entries ox x_merging x_letterClass x_objectClass x_attributes x_calls x_held x_operands x_lastPrints (n + 1) (nI k) := by
  intro n
  induction n with
  | zero =>
    intro k hk hb
    refine pk_le 12 k (fun _ => H1 12 (Nat.le_refl _) ?_) (fun z => by omega)
    rw [List.drop_eq_nil_of_le (by omega)]
    have : hm ∉ l := fun hmem => by
      obtain ⟨j, j1, j2⟩ := List.getElem_of_mem hmem
      exact hb j (by omega) (by rw [List.getElem?_eq_getElem j1, j2])
    rw [List.idxOf_eq_length this, List.drop_eq_nil_of_le (by omega)]
  | succ n ih =>
    intro k hk hb
    refine pk_le 12 k (fun z => by omega) (fun z => ?_)
    have ei : nI c * 12 + nI k = nI (c * 12 + k) := hs_ixMul c 12 k
    rw [ei, nI_clamp (show c * 12 + k < 2 ^ 31 by omega), ho k z]
    refine And.intro (vp_in_nI (by omega) (by decide)) ?_
    by_cases e : l[k]? = some hm
    · have eg : hs_gi l k = nI hm := by unfold hs_gi; rw [e]
      refine br_t eg (H1 k (by omega) ?_)
      have kl : k < l.length := by
        rcases Nat.lt_or_ge k l.length with q | q
        · exact q
        · rw [List.getElem?_eq_none q] at e; cases e
      have ek : l.idxOf hm = k := by
        have e2 : l[k] = hm := by rw [List.getElem?_eq_getElem kl] at e; exact Option.some.inj e
        apply Nat.le_antisymm
        · rcases Nat.lt_or_ge k (l.idxOf hm) with q | q
          · have := List.not_of_lt_findIdx (p := fun x => x == hm) (xs := l) (i := k) q
            simp [e2] at this
          · exact q
        · rcases Nat.lt_or_ge (l.idxOf hm) k with q | q
          · exact absurd (by rw [List.getElem?_eq_getElem (show l.idxOf hm < l.length by omega), List.getElem_idxOf]) (hb _ q)
          · exact q
      rw [ek]
    · refine br_f ?_ (nm_r (nI_add k 1) (ih (k + 1) (by omega) (fun j hj => ?_)))
      · unfold hs_gi
        cases el : l[k]? with
        | none => exact fun y => hs_neM1 (by omega) y.symm
        | some m =>
          have := hl2 m (List.mem_of_getElem? el)
          exact hs_ne (fun y => e (by rw [el, y])) (by omega) (by omega)
      · by_cases q : j = k
        · rw [q]; exact e
        · exact hb j (by omega)
end
end
section
/-! the component runs an element of code: all of them -/
section
variable {x_objectLimit x_stepLimit x_depthLimit x_pendingCount x_keptTokens x_keptLines x_lineCount x_codeCount x_cursor x_stop x_waitingCount x_openCount x_classCount x_callCount x_operandCount x_stepsTaken x_error x_raisedCode x_printCount x_lastPlace : Int32} {x_lastResult : Int64} {x_pending x_lineTable x_orders x_merging x_letterClass x_objectClass x_calls x_lastPrints : Nat → Int32} {x_code x_waiting x_globals x_entries x_attributes x_held x_operands : Nat → Int64}
variable {y_maxObjects y_maxSteps y_maxDepth y_kept y_end y_tokens y_pending y_lines y_classes y_prints y_place y_steps y_d y_valTop y_opTop y_opens y_pos y_tk y_tv y_stmt y_target y_err y_code y_outcome y_dry y_want y_starting y_ended y_bad y_hosted y_sawSuper : Int32} {y_result : Int64} {y_text y_numbers y_classOf y_alive y_orders y_lengths y_letters y_bases y_ops y_fLine y_fPos y_fStmt y_fTarget y_fMask y_fHome y_fOps y_fVals y_fNew y_out : Nat → Int32} {y_globals y_entries y_attrs y_vals y_locals y_fRecv : Nat → Int64}
theorem hs_xCallSu {P h : Nat → Nat} {dl : Nat → Nat} {lc cn d vt q hm : Nat} {ml : Nat → List Nat} {gl ex at1 op HE : Nat → Int64} {ox oc lt LT CL : Nat → Int32} {mk : Int32} {n a : Nat} (W : hs_WX P h lc cn ml gl ex at1 ox oc lt) (hd1 : 1 ≤ d) (hd : d ≤ 6) (hr : ∃ b, hs_io (HE (d * 27 + 26)) b) (hh : CL (d * 6 + 1) = nI hm ∧ hm < 10) (hn : n < 26) {post : SX → Prop}
    (Hm : ∀ b c, hs_io (HE (d * 27 + 26)) b → c < cn → oc b = nI c → wpX_startCall (fun r u => match u with | (x_objectLimitq, x_stepLimitq, x_depthLimitq, x_pendingCountq, x_keptTokensq, x_keptLinesq, x_lineCountq, x_codeCountq, x_cursorq, x_stopq, x_waitingCountq, x_openCountq, x_classCountq, x_callCountq, x_operandCountq, x_stepsTakenq, x_errorq, x_raisedCodeq, x_printCountq, x_lastResultq, x_lastPlaceq, x_pendingq, x_lineTableq, x_codeq, x_waitingq, x_globalsq, x_entriesq, x_ordersq, x_mergingq, x_letterClassq, x_objectClassq, x_attributesq, x_callsq, x_heldq, x_operandsq, x_lastPrintsq) => ((r = 0 → post (x_objectLimitq, x_stepLimitq, x_depthLimitq, x_pendingCountq, x_keptTokensq, x_keptLinesq, x_lineCountq, x_codeCountq, x_cursorq, x_stopq, x_waitingCountq, x_openCountq, x_classCountq, x_callCountq, x_operandCountq, x_stepsTakenq, x_errorq, x_raisedCodeq, x_printCountq, x_lastResultq, x_lastPlaceq, x_pendingq, x_lineTableq, x_codeq, x_waitingq, x_globalsq, x_entriesq, x_ordersq, x_mergingq, x_letterClassq, x_objectClassq, x_attributesq, x_callsq, x_heldq, x_operandsq, x_lastPrintsq)) ∧ (¬ r = 0 → (vp_in (((x_callCountq - 1) * 6) + 0) 42 ∧ wpX_reach (fun u => match u with | (x_objectLimitw, x_stepLimitw, x_depthLimitw, x_pendingCountw, x_keptTokensw, x_keptLinesw, x_lineCountw, x_codeCountw, x_cursorw, x_stopw, x_waitingCountw, x_openCountw, x_classCountw, x_callCountw, x_operandCountw, x_stepsTakenw, x_errorw, x_raisedCodew, x_printCountw, x_lastResultw, x_lastPlacew, x_pendingw, x_lineTablew, x_codew, x_waitingw, x_globalsw, x_entriesw, x_ordersw, x_mergingw, x_letterClassw, x_objectClassw, x_attributesw, x_callsw, x_heldw, x_operandsw, x_lastPrintsw) => post (x_objectLimitw, x_stepLimitw, x_depthLimitw, x_pendingCountw, x_keptTokensw, x_keptLinesw, x_lineCountw, x_codeCountw, x_cursorw, x_stopw, x_waitingCountw, x_openCountw, x_classCountw, x_callCountw, x_operandCountw, x_stepsTakenw, x_errorw, x_raisedCodew, x_printCountw, x_lastResultw, x_lastPlacew, x_pendingw, x_lineTablew, x_codew, x_waitingw, x_globalsw, x_entriesw, x_ordersw, x_mergingw, x_letterClassw, x_objectClassw, x_attributesw, x_callsw, x_heldw, x_operandsw, x_lastPrintsw)) (x_objectLimitq, x_stepLimitq, x_depthLimitq, x_pendingCountq, x_keptTokensq, x_keptLinesq, x_lineCountq, x_codeCountq, x_cursorq, x_stopq, x_waitingCountq, x_openCountq, x_classCountq, x_callCountq, x_operandCountq, x_stepsTakenq, x_errorq, x_raisedCodeq, x_printCountq, x_lastResultq, x_lastPlaceq, x_pendingq, x_lineTableq, x_codeq, x_waitingq, x_globalsq, x_entriesq, x_ordersq, x_mergingq, x_letterClassq, x_objectClassq, x_attributesq, x_callsq, x_heldq, x_operandsq, x_lastPrintsq) ((x_callsq (((x_callCountq - 1) * 6) + 0).toNatClampNeg) + 1))))) (x_objectLimit, x_stepLimit, x_depthLimit, x_pendingCount, x_keptTokens, x_keptLines, x_lineCount, x_codeCount, x_cursor, x_stop, x_waitingCount, x_openCount, x_classCount, nI (d + 1), nI vt, x_stepsTaken, x_error, x_raisedCode, x_printCount, x_lastResult, x_lastPlace, x_pending, LT, x_code, x_waiting, gl, ex, ox, x_merging, lt, oc, at1, CL, HE, op, x_lastPrints) (hs_oI (hs_sea ex n ((ml c).drop ((ml c).idxOf hm + 1)))) (nI n) (HE (d * 27 + 26)) (nI a) (nI a)) : wpX_callSuper post (x_objectLimit, x_stepLimit, x_depthLimit, x_pendingCount, x_keptTokens, x_keptLines, x_lineCount, x_codeCount, x_cursor, x_stop, x_waitingCount, x_openCount, x_classCount, nI (d + 1), nI vt, x_stepsTaken, x_error, x_raisedCode, x_printCount, x_lastResult, x_lastPlace, x_pending, LT, x_code, x_waiting, gl, ex, ox, x_merging, lt, oc, at1, CL, HE, op, x_lastPrints) (nI n) (nI a) := by
  obtain ⟨⟨w1, w2⟩, w3, w4, w5, w6, w7, w8, w9, w10⟩ := W
  obtain ⟨b, hb⟩ := hr
  obtain ⟨c, c1, c2⟩ := w8 b hb.1
  obtain ⟨o1, o2, o3, o4⟩ := w10 c c1
  have b8 := hb.1
  have e1 : nI (d + 1) - 1 = nI d := pk_sub (b := 1) (by omega)
  have e2 : nI d * 27 + 26 = nI (d * 27 + 26) := hs_ixMul d 27 26
  have e3 : nI d * 6 + 1 = nI (d * 6 + 1) := hs_ixMul d 6 1
  refine nm_r e1 ?_
  rw [e2, e3, nI_clamp (show d * 27 + 26 < 2 ^ 31 by omega), nI_clamp (show d * 6 + 1 < 2 ^ 31 by omega)]
  refine And.intro (vp_in_nI (by omega) (by decide)) (nm_e ?_)
  rw [hs_ioL hb, nI_clamp (show b < 2 ^ 31 by omega)]
  refine And.intro (vp_in_nI b8 (by decide)) (nm_r c2 (And.intro (vp_in_nI (by omega) (by decide)) ?_))
  rw [hh.1]
  refine ⟨13, hs_xPlace0 (by omega) o2 o3 (by omega) (fun m hm => by have := o4 m hm; omega) (fun k k1 k2 => ?_) 12 0 (by omega) (fun j hj => by omega)⟩
  have e4 : nI k + 1 = nI (k + 1) := nI_add k 1
  rw [e4]
  refine hs_xSea (l := ml c) (by omega) hn o2 o3 (fun m hm => by have := o4 m hm; omega) (by omega) ?_
  rw [k2]
  exact Hm b c hb c1 c2
theorem hs_xRun {P h : Nat → Nat} {dl : Nat → Nat} {lc cn d vt q hm : Nat} {ml : Nat → List Nat} {gl ex at1 op HE : Nat → Int64} {ox oc lt LT CL : Nat → Int32} {mk : Int32} {o : Nat} (W : hs_WX P h lc cn ml gl ex at1 ox oc lt) (hd : d ≤ 6) (h0 : d = 0 → CL 0 = -1) (h1 : 1 ≤ d → CL (d * 6) = nI (dl d) ∧ dl d < 405) (hr : 1 ≤ d → ∃ b, hs_io (HE (d * 27 + 26)) b) (hh : 1 ≤ d → CL (d * 6 + 1) = nI hm ∧ hm < 10) (hop : ∀ j, j < vt → hs_vv (op j)) (hvt : vt < 280) (har : hs_arr o ≤ vt) (hoq : hs_oq d o q) (hmk : mk = hs_mk1 LT dl d) {post : SX → Prop}
    (Hv : ∀ dr v, hs_RV ml gl ex at1 HE op oc lt mk cn d vt o q dr v → dr ≤ vt → post (x_objectLimit, x_stepLimit, x_depthLimit, x_pendingCount, x_keptTokens, x_keptLines, x_lineCount, x_codeCount, x_cursor, x_stop, x_waitingCount, x_openCount, x_classCount, nI (d + 1), nI (vt - dr + 1), x_stepsTaken, x_error, x_raisedCode, x_printCount, x_lastResult, x_lastPlace, x_pending, LT, x_code, x_waiting, gl, ex, ox, x_merging, lt, oc, at1, CL, HE, vp_updL op (vt - dr) v, x_lastPrints)) (He : ∀ er c, hs_RE ml gl ex at1 HE op oc lt mk cn d vt o q er → post (x_objectLimit, x_stepLimit, x_depthLimit, x_pendingCount, x_keptTokens, x_keptLines, x_lineCount, x_codeCount, x_cursor, x_stop, x_waitingCount, x_openCount, x_classCount, nI (d + 1), c, x_stepsTaken, er, x_raisedCode, x_printCount, x_lastResult, x_lastPlace, x_pending, LT, x_code, x_waiting, gl, ex, ox, x_merging, lt, oc, at1, CL, HE, op, x_lastPrints))
    (Hm : ∀ fo n rv a us, hs_RM ml ex at1 HE op oc hm cn d vt o q fo n rv a us → wpX_startCall (fun r u => match u with | (x_objectLimitq, x_stepLimitq, x_depthLimitq, x_pendingCountq, x_keptTokensq, x_keptLinesq, x_lineCountq, x_codeCountq, x_cursorq, x_stopq, x_waitingCountq, x_openCountq, x_classCountq, x_callCountq, x_operandCountq, x_stepsTakenq, x_errorq, x_raisedCodeq, x_printCountq, x_lastResultq, x_lastPlaceq, x_pendingq, x_lineTableq, x_codeq, x_waitingq, x_globalsq, x_entriesq, x_ordersq, x_mergingq, x_letterClassq, x_objectClassq, x_attributesq, x_callsq, x_heldq, x_operandsq, x_lastPrintsq) => ((r = 0 → post (x_objectLimitq, x_stepLimitq, x_depthLimitq, x_pendingCountq, x_keptTokensq, x_keptLinesq, x_lineCountq, x_codeCountq, x_cursorq, x_stopq, x_waitingCountq, x_openCountq, x_classCountq, x_callCountq, x_operandCountq, x_stepsTakenq, x_errorq, x_raisedCodeq, x_printCountq, x_lastResultq, x_lastPlaceq, x_pendingq, x_lineTableq, x_codeq, x_waitingq, x_globalsq, x_entriesq, x_ordersq, x_mergingq, x_letterClassq, x_objectClassq, x_attributesq, x_callsq, x_heldq, x_operandsq, x_lastPrintsq)) ∧ (¬ r = 0 → (vp_in (((x_callCountq - 1) * 6) + 0) 42 ∧ wpX_reach (fun u => match u with | (x_objectLimitw, x_stepLimitw, x_depthLimitw, x_pendingCountw, x_keptTokensw, x_keptLinesw, x_lineCountw, x_codeCountw, x_cursorw, x_stopw, x_waitingCountw, x_openCountw, x_classCountw, x_callCountw, x_operandCountw, x_stepsTakenw, x_errorw, x_raisedCodew, x_printCountw, x_lastResultw, x_lastPlacew, x_pendingw, x_lineTablew, x_codew, x_waitingw, x_globalsw, x_entriesw, x_ordersw, x_mergingw, x_letterClassw, x_objectClassw, x_attributesw, x_callsw, x_heldw, x_operandsw, x_lastPrintsw) => post (x_objectLimitw, x_stepLimitw, x_depthLimitw, x_pendingCountw, x_keptTokensw, x_keptLinesw, x_lineCountw, x_codeCountw, x_cursorw, x_stopw, x_waitingCountw, x_openCountw, x_classCountw, x_callCountw, x_operandCountw, x_stepsTakenw, x_errorw, x_raisedCodew, x_printCountw, x_lastResultw, x_lastPlacew, x_pendingw, x_lineTablew, x_codew, x_waitingw, x_globalsw, x_entriesw, x_ordersw, x_mergingw, x_letterClassw, x_objectClassw, x_attributesw, x_callsw, x_heldw, x_operandsw, x_lastPrintsw)) (x_objectLimitq, x_stepLimitq, x_depthLimitq, x_pendingCountq, x_keptTokensq, x_keptLinesq, x_lineCountq, x_codeCountq, x_cursorq, x_stopq, x_waitingCountq, x_openCountq, x_classCountq, x_callCountq, x_operandCountq, x_stepsTakenq, x_errorq, x_raisedCodeq, x_printCountq, x_lastResultq, x_lastPlaceq, x_pendingq, x_lineTableq, x_codeq, x_waitingq, x_globalsq, x_entriesq, x_ordersq, x_mergingq, x_letterClassq, x_objectClassq, x_attributesq, x_callsq, x_heldq, x_operandsq, x_lastPrintsq) ((x_callsq (((x_callCountq - 1) * 6) + 0).toNatClampNeg) + 1))))) (x_objectLimit, x_stepLimit, x_depthLimit, x_pendingCount, x_keptTokens, x_keptLines, x_lineCount, x_codeCount, x_cursor, x_stop, x_waitingCount, x_openCount, x_classCount, nI (d + 1), nI vt, x_stepsTaken, x_error, x_raisedCode, x_printCount, x_lastResult, x_lastPlace, x_pending, LT, x_code, x_waiting, gl, ex, ox, x_merging, lt, oc, at1, CL, HE, op, x_lastPrints) (hs_oI fo) (nI n) rv (nI a) (nI us))
    (Hn : o = 10 ∨ o = 11 → wpX_makeObject (fun u => match u with | (x_objectLimitq, x_stepLimitq, x_depthLimitq, x_pendingCountq, x_keptTokensq, x_keptLinesq, x_lineCountq, x_codeCountq, x_cursorq, x_stopq, x_waitingCountq, x_openCountq, x_classCountq, x_callCountq, x_operandCountq, x_stepsTakenq, x_errorq, x_raisedCodeq, x_printCountq, x_lastResultq, x_lastPlaceq, x_pendingq, x_lineTableq, x_codeq, x_waitingq, x_globalsq, x_entriesq, x_ordersq, x_mergingq, x_letterClassq, x_objectClassq, x_attributesq, x_callsq, x_heldq, x_operandsq, x_lastPrintsq) => post (x_objectLimitq, x_stepLimitq, x_depthLimitq, x_pendingCountq, x_keptTokensq, x_keptLinesq, x_lineCountq, x_codeCountq, x_cursorq, x_stopq, x_waitingCountq, x_openCountq, x_classCountq, x_callCountq, x_operandCountq, x_stepsTakenq, x_errorq, x_raisedCodeq, x_printCountq, x_lastResultq, x_lastPlaceq, x_pendingq, x_lineTableq, x_codeq, x_waitingq, x_globalsq, x_entriesq, x_ordersq, x_mergingq, x_letterClassq, x_objectClassq, x_attributesq, x_callsq, x_heldq, x_operandsq, x_lastPrintsq)) (x_objectLimit, x_stepLimit, x_depthLimit, x_pendingCount, x_keptTokens, x_keptLines, x_lineCount, x_codeCount, x_cursor, x_stop, x_waitingCount, x_openCount, x_classCount, nI (d + 1), nI vt, x_stepsTaken, x_error, x_raisedCode, x_printCount, x_lastResult, x_lastPlace, x_pending, LT, x_code, x_waiting, gl, ex, ox, x_merging, lt, oc, at1, CL, HE, op, x_lastPrints) (nI q) (nI (o - 10))) : wpX_runCode post (x_objectLimit, x_stepLimit, x_depthLimit, x_pendingCount, x_keptTokens, x_keptLines, x_lineCount, x_codeCount, x_cursor, x_stop, x_waitingCount, x_openCount, x_classCount, nI (d + 1), nI vt, x_stepsTaken, x_error, x_raisedCode, x_printCount, x_lastResult, x_lastPlace, x_pending, LT, x_code, x_waiting, gl, ex, ox, x_merging, lt, oc, at1, CL, HE, op, x_lastPrints) (hs_ce o q) := by
  have W' := W
  obtain ⟨⟨w1, w2⟩, w3, w4, w5, w6, w7, w8, w9, w10⟩ := W
  obtain ⟨p1, p2, p3, p4, p5, p6, p7⟩ := hoq
  refine nm_r (hs_ceOp32 p3 p4) (br_f (nI_nlt (b := 1) p1 (by omega)) ?_)
  rw [hs_cePart p4]
  refine pk_lt 11 o (fun z => ?_) (fun z => ?_)
  · have a2 : 2 ≤ vt := by
      have : hs_arr o = 2 := (if_neg (by omega)).trans (if_pos (by omega))
      omega
    refine hs_xOperand (b := 1) (by omega) (by omega) ?_
    rw [show vt - 1 - 1 = vt - 2 by omega]
    have cmp : ¬ (o = 29 ∧ ∃ b, hs_io (op (vt - 2)) b) → wX_runCode_199 post (nI o) x_objectLimit x_stepLimit x_depthLimit x_pendingCount x_keptTokens x_keptLines x_lineCount x_codeCount x_cursor x_stop x_waitingCount x_openCount x_classCount (nI (d + 1)) (nI vt) x_stepsTaken x_error x_raisedCode x_printCount x_lastResult x_lastPlace x_pending LT x_code x_waiting gl ex ox x_merging lt oc at1 CL HE op x_lastPrints := fun y => by
      unfold wX_runCode_199
      exact hs_xCompute (P := P) (h := h) (lc := lc) hop (by omega) a2 (by omega) p3 y Hv He
    refine pk_eq o 29 (fun y => ?_) (fun y => cmp (fun k => y k.1))
    subst y
    rcases hs_vvO (hop (vt - 2) (by omega)) with ⟨b, hb⟩ | hb
    · refine hs_xkO hb (br_f (by decide) (hs_xCallM (mk := mk) (q := q) (n := 0) (a := 1) W' hop (by omega) (by omega) (by decide) (fun k => ?_) (fun b' c k1 k2 k3 k4 => ?_)))
      · rw [show vt - 1 - 1 = vt - 2 by omega] at k
        rcases k with k | ⟨b', k1, k2⟩
        · exact absurd (hs_ykO hb) (hs_ykNO k)
        · exact He 3 _ (Or.inr (Or.inr (Or.inr (Or.inr (Or.inr (Or.inr (Or.inr (Or.inr (Or.inr ⟨rfl, b', k1, k2, rfl⟩)))))))))
      · rw [show vt - 1 - 1 = vt - 2 by omega] at k1 ⊢
        exact Hm _ 0 _ 1 2 (Or.inr (Or.inr ⟨rfl, rfl, rfl, rfl, rfl, b', c, k1, k2, k3, k4, rfl⟩))
    · refine hs_xkNO hb (br_t rfl (cmp ?_))
      rintro ⟨_, b, k⟩
      exact absurd (hs_ykO k) (hs_ykNO hb)
  · have cs : o = 1 ∨ o = 2 ∨ o = 3 ∨ o = 4 ∨ o = 5 ∨ o = 6 ∨ o = 7 ∨ o = 8 ∨ o = 9 ∨ o = 10 ∨ o = 11 := by omega
    have q26 : o ≠ 1 → o ≠ 5 → q < 26 := p5
    rcases cs with rfl | rfl | rfl | rfl | rfl | rfl | rfl | rfl | rfl | rfl | rfl
    · exact br_t rfl (hs_xPush hvt (Hv 0 _ (Or.inl ⟨rfl, rfl, rfl⟩) (Nat.zero_le _)))
    · refine br_f (by decide) (br_t rfl ?_)
      have q1 := q26 (by decide) (by decide)
      unfold wpX_pushName
      have fin : ∀ x, x = hs_gv mk gl HE d q → wX_pushName_33 (fun u => match u with | (x_objectLimitq, x_stepLimitq, x_depthLimitq, x_pendingCountq, x_keptTokensq, x_keptLinesq, x_lineCountq, x_codeCountq, x_cursorq, x_stopq, x_waitingCountq, x_openCountq, x_classCountq, x_callCountq, x_operandCountq, x_stepsTakenq, x_errorq, x_raisedCodeq, x_printCountq, x_lastResultq, x_lastPlaceq, x_pendingq, x_lineTableq, x_codeq, x_waitingq, x_globalsq, x_entriesq, x_ordersq, x_mergingq, x_letterClassq, x_objectClassq, x_attributesq, x_callsq, x_heldq, x_operandsq, x_lastPrintsq) => post (x_objectLimitq, x_stepLimitq, x_depthLimitq, x_pendingCountq, x_keptTokensq, x_keptLinesq, x_lineCountq, x_codeCountq, x_cursorq, x_stopq, x_waitingCountq, x_openCountq, x_classCountq, x_callCountq, x_operandCountq, x_stepsTakenq, x_errorq, x_raisedCodeq, x_printCountq, x_lastResultq, x_lastPlaceq, x_pendingq, x_lineTableq, x_codeq, x_waitingq, x_globalsq, x_entriesq, x_ordersq, x_mergingq, x_letterClassq, x_objectClassq, x_attributesq, x_callsq, x_heldq, x_operandsq, x_lastPrintsq)) x x_objectLimit x_stepLimit x_depthLimit x_pendingCount x_keptTokens x_keptLines x_lineCount x_codeCount x_cursor x_stop x_waitingCount x_openCount x_classCount (nI (d + 1)) (nI vt) x_stepsTaken x_error x_raisedCode x_printCount x_lastResult x_lastPlace x_pending LT x_code x_waiting gl ex ox x_merging lt oc at1 CL HE op x_lastPrints := by
        intro x hx
        unfold wX_pushName_33
        refine ⟨fun y => He 2 _ (Or.inl ⟨rfl, by rw [← hx]; exact y, rfl⟩), fun y => hs_xPush hvt (Hv 0 _ (Or.inr (Or.inr (Or.inl ⟨rfl, rfl, hx, y⟩))) (Nat.zero_le _))⟩
      refine hs_xIsLocal (dl := dl) hd h0 h1 (fun y y2 => br_f (by decide) ?_) (fun y => br_t rfl (And.intro (vp_in_nI q1 (by decide)) ?_))
      · have e : (nI (d + 1) - 1) * 27 + nI q = nI (d * 27 + q) := by
          rw [show nI (d + 1) - 1 = nI d from pk_sub (b := 1) (by omega)]; exact hs_ixMul d 27 q
        rw [e, nI_clamp (show d * 27 + q < 2 ^ 31 by omega)]
        refine And.intro (vp_in_nI (by omega) (by decide)) (fin _ ?_)
        unfold hs_gv
        rw [hmk, if_neg y]
      · rw [nI_clamp (show q < 2 ^ 31 by omega)]
        refine fin _ ?_
        unfold hs_gv
        rw [hmk, if_pos y]
    · exact br_f (by decide) (br_f (by decide) (br_t rfl (hs_xPush hvt (Hv 0 _ (Or.inr (Or.inl ⟨rfl, rfl, rfl⟩)) (Nat.zero_le _)))))
    · have a1 : 1 ≤ vt := har
      exact br_f (by decide) (br_f (by decide) (br_f (by decide) (br_t rfl (hs_xGetAttr W' hop (by omega) a1 (q26 (by decide) (by decide)) Hv He))))
    · refine br_f (by decide) (br_f (by decide) (br_f (by decide) (br_f (by decide) (br_t rfl ?_))))
      have q6 := p6 rfl
      have e1 : nI q / 26 = nI (q / 26) := pk_div (a := q) (d := 26) p4 (by decide) (by decide)
      have e2 : nI q - nI q / 26 * 26 = nI (q % 26) := pk_rem (a := q) (d := 26) p4 (by decide) (by decide)
      rw [e2, e1, nI_clamp (show q / 26 < 2 ^ 31 by omega)]
      refine And.intro (by decide) (And.intro (vp_in_nI (by omega) (by decide)) (And.intro (by decide) ?_))
      rcases w9 (q / 26) (by omega) with y | ⟨c, c1, c2⟩
      · rw [y]
        exact br_f (by decide) (He 2 _ (Or.inr (Or.inl ⟨rfl, y, rfl⟩)))
      · rw [c2]
        refine hs_xGetEntry (vt := vt) W' c1 (by omega) hvt (fun v hv => ?_) (fun er hr => ?_)
        · exact Hv 0 v (Or.inr (Or.inr (Or.inr (Or.inl ⟨rfl, rfl, c, c1, c2, hv⟩)))) (Nat.zero_le _)
        · exact He er _ (Or.inr (Or.inr (Or.inl ⟨rfl, c, c1, c2, hr⟩)))
    · have a1 : 1 ≤ vt := har
      refine br_f (by decide) (br_f (by decide) (br_f (by decide) (br_f (by decide) (br_f (by decide) (br_t rfl ?_)))))
      unfold wX_runCode_127
      refine hs_xCallM (mk := mk) (q := q) (n := q) (a := 0) W' hop (by omega) (by omega) (q26 (by decide) (by decide)) (fun k => ?_) (fun b' c k1 k2 k3 k4 => ?_)
      · rcases k with k | ⟨b', k1, k2⟩
        · exact He 3 _ (Or.inr (Or.inr (Or.inr (Or.inr (Or.inr (Or.inr (Or.inr (Or.inl ⟨Or.inl rfl, k, rfl⟩))))))))
        · exact He 3 _ (Or.inr (Or.inr (Or.inr (Or.inr (Or.inr (Or.inr (Or.inr (Or.inr (Or.inl ⟨Or.inl rfl, b', k1, k2, rfl⟩)))))))))
      · exact Hm _ q _ 0 1 (Or.inl ⟨Or.inl rfl, rfl, rfl, rfl, rfl, b', c, k1, k2, k3, k4, rfl⟩)
    · have a1 : 2 ≤ vt := har
      refine br_f (by decide) (br_f (by decide) (br_f (by decide) (br_f (by decide) (br_f (by decide) (br_f (by decide) (br_t rfl ?_))))))
      unfold wX_runCode_127
      refine hs_xCallM (mk := mk) (q := q) (n := q) (a := 1) W' hop (by omega) (by omega) (q26 (by decide) (by decide)) (fun k => ?_) (fun b' c k1 k2 k3 k4 => ?_)
      · rcases k with k | ⟨b', k1, k2⟩
        · exact He 3 _ (Or.inr (Or.inr (Or.inr (Or.inr (Or.inr (Or.inr (Or.inr (Or.inl ⟨Or.inr rfl, k, rfl⟩))))))))
        · exact He 3 _ (Or.inr (Or.inr (Or.inr (Or.inr (Or.inr (Or.inr (Or.inr (Or.inr (Or.inl ⟨Or.inr rfl, b', k1, k2, rfl⟩)))))))))
      · exact Hm _ q _ 1 2 (Or.inl ⟨Or.inr rfl, rfl, rfl, rfl, rfl, b', c, k1, k2, k3, k4, rfl⟩)
    · have d1 := p7 (Or.inl rfl)
      refine br_f (by decide) (br_f (by decide) (br_f (by decide) (br_f (by decide) (br_f (by decide) (br_f (by decide) (br_f (by decide) (br_t rfl ?_)))))))
      unfold wX_runCode_140
      exact hs_xCallSu (mk := mk) (dl := dl) (q := q) (a := 0) W' d1 hd (hr d1) (hh d1) (q26 (by decide) (by decide)) (fun b c k1 k2 k3 => Hm _ q _ 0 0 (Or.inr (Or.inl ⟨Or.inl rfl, rfl, rfl, rfl, d1, rfl, b, c, k1, k2, k3, rfl⟩)))
    · have d1 := p7 (Or.inr rfl)
      refine br_f (by decide) (br_f (by decide) (br_f (by decide) (br_f (by decide) (br_f (by decide) (br_f (by decide) (br_f (by decide) (br_f (by decide) (br_t rfl ?_))))))))
      unfold wX_runCode_140
      exact hs_xCallSu (mk := mk) (dl := dl) (q := q) (a := 1) W' d1 hd (hr d1) (hh d1) (q26 (by decide) (by decide)) (fun b c k1 k2 k3 => Hm _ q _ 1 1 (Or.inr (Or.inl ⟨Or.inr rfl, rfl, rfl, rfl, d1, rfl, b, c, k1, k2, k3, rfl⟩)))
    · refine br_f (by decide) (br_f (by decide) (br_f (by decide) (br_f (by decide) (br_f (by decide) (br_f (by decide) (br_f (by decide) (br_f (by decide) (br_f (by decide) (br_t rfl ?_)))))))))
      unfold wX_runCode_153
      exact Hn (Or.inl rfl)
    · refine br_f (by decide) (br_f (by decide) (br_f (by decide) (br_f (by decide) (br_f (by decide) (br_f (by decide) (br_f (by decide) (br_f (by decide) (br_f (by decide) (br_f (by decide) (br_t rfl ?_))))))))))
      unfold wX_runCode_153
      exact Hn (Or.inr rfl)
end
end
