/-! values: a long below 2^35 as lN m -/
def hs_vv (v : Int64) : Prop := ∃ m : Nat, v = lN m ∧ (m = 4294967296 ∨ (8589934592 ≤ m ∧ m < 12884901888) ∨ (12884901888 ≤ m ∧ m < 12884901896))
def hs_v0 (v : Int64) : Prop := v = 0 ∨ hs_vv v
def hs_int (p : Int32) : Int64 := 8589934592 ||| (p.toInt64 &&& 4294967295)
theorem hs_mod32 (n : Nat) : nI n = nI (n % 4294967296) := by
  apply Int32.toBitVec_inj.mp
  apply BitVec.eq_of_toNat_eq
  show (BitVec.ofNat 32 _).toNat = (BitVec.ofNat 32 _).toNat
  rw [BitVec.toNat_ofNat, BitVec.toNat_ofNat]
  omega
theorem hs_tnI (n : Nat) : (nI n).toBitVec.toNat = n % 4294967296 := by
  show (BitVec.ofNat 32 _).toNat = _
  rw [BitVec.toNat_ofNat]
theorem hs_and32 (p : Int32) : p.toInt64 &&& 4294967295 = lN p.toBitVec.toNat := by
  obtain ⟨n, hn, e⟩ := wb_of p.toInt64
  have h1 : p = nI n := by
    have := lN_i n
    rw [← e] at this
    rw [← this]
    simp
  rw [e]
  have h2 := wb_mask (n := n) (k := 32) hn (by decide)
  have h3 : (lN (2 ^ 32 - 1)) = (4294967295 : Int64) := by decide
  rw [h3] at h2
  rw [h2, h1, hs_tnI]
  
theorem hs_intN (p : Int32) : hs_int p = lN (8589934592 + p.toBitVec.toNat) := by
  unfold hs_int
  rw [hs_and32]
  have := g_or (k := 32) (p := 4294967296) (a := p.toBitVec.toNat) (b := 2) (by decide) p.toBitVec.isLt (by have := p.toBitVec.isLt; omega)
  exact this
theorem hs_intV (p : Int32) : hs_vv (hs_int p) := ⟨_, hs_intN p, Or.inr (Or.inl ⟨by omega, by have := p.toBitVec.isLt; omega⟩)⟩
theorem hs_ofBV (p : Int32) : nI p.toBitVec.toNat = p := by
  apply Int32.toBitVec_inj.mp
  apply BitVec.eq_of_toNat_eq
  rw [hs_tnI]
  have := p.toBitVec.isLt
  omega
theorem hs_intLow (p : Int32) : (hs_int p).toInt32 = p := by
  rw [hs_intN, lN_i, hs_mod32, show (8589934592 + p.toBitVec.toNat) % 4294967296 = p.toBitVec.toNat by have := p.toBitVec.isLt; omega, hs_ofBV]
theorem hs_intOf {m : Nat} (h1 : 8589934592 ≤ m) (h2 : m < 12884901888) : hs_int (nI m) = lN m := by
  rw [hs_intN, hs_tnI]
  exact congrArg lN (by omega)
theorem hs_objN {o : Nat} (h : o < 2 ^ 31) : (12884901888 : Int64) ||| (nI o).toInt64 = lN (12884901888 + o) := by
  rw [nI_l h]
  have := g_or (k := 32) (p := 4294967296) (a := o) (b := 3) (by decide) (by omega) (by omega)
  exact this
theorem hs_metN {o : Nat} (h : o < 2 ^ 31) : (17179869184 : Int64) ||| (nI o).toInt64 = lN (17179869184 + o) := by
  rw [nI_l h]
  have := g_or (k := 32) (p := 4294967296) (a := o) (b := 4) (by decide) (by omega) (by omega)
  exact this
theorem hs_yk {m : Nat} (hm : m < 2 ^ 62) : lN m >>> ((32 : Int32).toInt64 &&& 63) = lN (m / 4294967296) := by
  have := pf_shr (a := m) (d := 32) (D := (32 : Int32).toInt64 &&& 63) (by decide) hm
  exact this
theorem hs_xk {m : Nat} (hm : m < 2 ^ 62) : ((lN m).toUInt64 >>> ((32 : Int32).toInt64.toUInt64 &&& Int64.toUInt64 63)).toInt64 = lN (m / 4294967296) := by
  have := pf_ushr (a := m) (d := 32) (D := (32 : Int32).toInt64.toUInt64 &&& Int64.toUInt64 63) (by decide) hm
  exact this
theorem hs_ykq {m : Nat} (hm : m < 2 ^ 62) (K : Nat) (hK : K < 2 ^ 31) : lN m >>> ((32 : Int32).toInt64 &&& 63) = lN K ↔ m / 4294967296 = K := by
  rw [hs_yk hm, pk_lEQ (by omega) (by omega)]
theorem hs_hk {post : Int32 → Prop} {m : Nat} (hm : m < 2 ^ 62) {k : Nat} (hk : k < 2 ^ 29) (h1 : m / 4294967296 = k → post 1) (h0 : m / 4294967296 ≠ k → post 0) : wpX_hasKind post (lN m) (lN (k * 4294967296)) := by
  unfold wpX_hasKind
  rw [hs_xk hm, hs_xk (by omega), pk_lEQ (by omega) (by omega), Nat.mul_div_cancel _ (by decide)]
  exact ⟨h1, h0⟩
theorem hs_hk2 {post : Int32 → Prop} {m : Nat} (hm : m < 2 ^ 62) (h1 : m / 4294967296 = 2 → post 1) (h0 : m / 4294967296 ≠ 2 → post 0) : wpX_hasKind post (lN m) 8589934592 := hs_hk (k := 2) hm (by decide) h1 h0
theorem hs_hk3 {post : Int32 → Prop} {m : Nat} (hm : m < 2 ^ 62) (h1 : m / 4294967296 = 3 → post 1) (h0 : m / 4294967296 ≠ 3 → post 0) : wpX_hasKind post (lN m) 12884901888 := hs_hk (k := 3) hm (by decide) h1 h0
theorem hs_hk4 {post : Int32 → Prop} {m : Nat} (hm : m < 2 ^ 62) (h1 : m / 4294967296 = 4 → post 1) (h0 : m / 4294967296 ≠ 4 → post 0) : wpX_hasKind post (lN m) 17179869184 := hs_hk (k := 4) hm (by decide) h1 h0
theorem hs_yk2 {m : Nat} (hm : m < 2 ^ 62) : lN m >>> ((32 : Int32).toInt64 &&& 63) = 2 ↔ m / 4294967296 = 2 := hs_ykq hm 2 (by decide)
theorem hs_yk3 {m : Nat} (hm : m < 2 ^ 62) : lN m >>> ((32 : Int32).toInt64 &&& 63) = 3 ↔ m / 4294967296 = 3 := hs_ykq hm 3 (by decide)
theorem hs_yk4 {m : Nat} (hm : m < 2 ^ 62) : lN m >>> ((32 : Int32).toInt64 &&& 63) = 4 ↔ m / 4294967296 = 4 := hs_ykq hm 4 (by decide)
theorem hs_v0N {v : Int64} (h : hs_v0 v) : ∃ m : Nat, v = lN m ∧ (m = 0 ∨ m = 4294967296 ∨ (8589934592 ≤ m ∧ m < 12884901888) ∨ (12884901888 ≤ m ∧ m < 12884901896)) := by
  rcases h with h | ⟨m, e, h⟩
  · exact ⟨0, h, Or.inl rfl⟩
  · exact ⟨m, e, Or.inr h⟩
theorem hs_v0sm {v : Int64} (h : hs_v0 v) : ∃ m : Nat, m < 2 ^ 62 ∧ v = lN m ∧ (m / 4294967296 = 3 → m - 12884901888 < 8 ∧ nI m = nI (m - 12884901888)) := by
  obtain ⟨m, e, h⟩ := hs_v0N h
  refine ⟨m, by omega, e, fun h3 => ⟨by omega, ?_⟩⟩
  rw [hs_mod32]
  exact congrArg nI (by omega)
theorem hs_objV {o : Nat} (h : o < 8) : hs_vv (lN (12884901888 + o)) := ⟨_, rfl, Or.inr (Or.inr ⟨by omega, by omega⟩)⟩
theorem hs_objLow {o : Nat} (h : o < 8) : (lN (12884901888 + o)).toInt32 = nI o := by
  rw [lN_i, hs_mod32]
  exact congrArg nI (by omega)
theorem hs_noneV : hs_vv 4294967296 := ⟨4294967296, rfl, Or.inl rfl⟩
theorem hs_vvne {v : Int64} (h : hs_vv v) : v ≠ 0 := by
  obtain ⟨m, rfl, h⟩ := h
  intro e
  have := (pk_lEQ (a := m) (b := 0) (by omega) (by decide)).mp e
  omega
