/-! the shared picture under a step: inside a frame, one frame more, frames left -/
section
def hs_put1 {α : Type} (f : Nat → α) (k : Nat) (x : α) : Nat → α := fun j => if j = k then x else f j
theorem hs_put1S {α : Type} {f : Nat → α} {k : Nat} {x : α} : hs_put1 f k x k = x := if_pos rfl
theorem hs_put1N {α : Type} {f : Nat → α} {k j : Nat} {x : α} (h : j ≠ k) : hs_put1 f k x j = f j := if_neg h
def hs_pot (ts st : Nat → List Nat) : Nat → Nat
  | 0 => 0
  | k + 1 => hs_pot ts st k + (3 * (2 * (ts k).length + (st k).length) + 3)
theorem hs_potE {ts st ts' st' : Nat → List Nat} : ∀ (d : Nat), (∀ k, k < d → ts' k = ts k) → (∀ k, k < d → st' k = st k) → hs_pot ts' st' d = hs_pot ts st d
  | 0, _, _ => rfl
  | d + 1, h1, h2 => by
    show hs_pot ts' st' d + (3 * (2 * (ts' d).length + (st' d).length) + 3) = hs_pot ts st d + (3 * (2 * (ts d).length + (st d).length) + 3)
    rw [hs_potE d (fun k hk => h1 k (by omega)) (fun k hk => h2 k (by omega)), h1 d (by omega), h2 d (by omega)]
theorem hs_potLe {ts st : Nat → List Nat} : ∀ {j d : Nat}, j ≤ d → hs_pot ts st j ≤ hs_pot ts st d
  | j, 0, h => by
    have : j = 0 := by omega
    subst this; exact Nat.le_refl _
  | j, d + 1, h => by
    rcases Nat.lt_or_ge j (d + 1) with z | z
    · have := hs_potLe (ts := ts) (st := st) (j := j) (d := d) (by omega)
      show hs_pot ts st j ≤ hs_pot ts st d + _
      omega
    · have : j = d + 1 := by omega
      subst this; exact Nat.le_refl _
variable {tx nu LT : Nat → Int32} {cd : Nat → Int64} {lc kp cc : Nat} {P ind h : Nat → Nat} {tk : Nat → List Nat} {ca cb us ue : Nat → Nat} {mo mS mD s d vt cn : Nat} {ml : Nat → List Nat} {gl ex at1 : Nat → Int64} {ox oc lt : Nat → Int32} {HE : Nat → Int64} {CL : Nat → Int32} {op : Nat → Int64} {fl dl vb ob : Nat → Nat} {ts st : Nat → List Nat} {ho : Bool}
variable {s' vt' cn' : Nat} {ml' : Nat → List Nat} {gl' ex' at1' : Nat → Int64} {ox' oc' lt' : Nat → Int32} {HE' : Nat → Int64} {CL' : Nat → Int32} {op' : Nat → Int64} {fl' dl' vb' ob' : Nat → Nat} {ts' st' : Nat → List Nat} {w : Bool}
theorem hs_XIh (I : hs_XI tx nu LT cd lc kp cc P ind h tk ca cb us ue mo mS mD s d vt cn ml gl ex at1 ox oc lt HE CL op fl dl vb ob ts st ho) : (∀ j, j < 27 → HE j = 0) ∧ ∀ k, 1 ≤ k → k ≤ d → HE (k * 27 + 26) = HE (k * 27 + 26) ∧ ∀ j, j < 26 → hs_v0 (HE (k * 27 + j)) := by
  obtain ⟨T, B, W, MC, OV, H0, XCk, XLk, XSk, HO, v0, o0⟩ := I
  exact ⟨H0, fun k k1 k2 => ⟨rfl, ((XCk k k2).2.2.2.2 k1).2.2.2.2⟩⟩
theorem hs_XIin (I : hs_XI tx nu LT cd lc kp cc P ind h tk ca cb us ue mo mS mD s d vt cn ml gl ex at1 ox oc lt HE CL op fl dl vb ob ts st ho) (hfl : ∀ k, k < d → fl' k = fl k) (hts : ∀ k, k < d → ts' k = ts k) (hst : ∀ k, k < d → st' k = st k) (hCL : ∀ j, j ≠ d * 6 + 2 → j ≠ d * 6 + 3 → CL' j = CL j) (hs : s' ≤ mS) (W' : hs_WX P h lc cn' ml' gl' ex' at1' ox' oc' lt') (hcn : cn ≤ cn') (MC' : ∀ c, c < cn' → c ∈ ml' c) (OV' : ∀ j, j < vt' → hs_vv (op' j)) (hH : (∀ j, j < 27 → HE' j = 0) ∧ ∀ k, 1 ≤ k → k ≤ d → HE' (k * 27 + 26) = HE (k * 27 + 26) ∧ ∀ j, j < 26 → hs_v0 (HE' (k * 27 + j))) :
    hs_XI tx nu LT cd lc kp cc P ind h tk ca cb us ue mo mS mD s' d vt' cn' ml' gl' ex' at1' ox' oc' lt' HE' CL' op' fl' dl vb ob ts' st' ho := by
  obtain ⟨T, ⟨B1, B2, B3, B4, B5, B6⟩, W, MC, OV, H0, XCk, XLk, XSk, HO, v0, o0⟩ := I
  refine ⟨T, ⟨B1, B2, B3, B4, B5, hs⟩, W', MC', OV', hH.1, fun k hk => ?_, fun k hk => ?_, fun k hk nh => ?_, HO, v0, o0⟩
  · obtain ⟨c1, c2, c3, c4, c5⟩ := XCk k hk
    refine ⟨by rw [hCL _ (by omega) (by omega)]; exact c1, c2, c3, fun z => by rw [hCL _ (by omega) (by omega)]; exact c4 z, fun z => ?_⟩
    obtain ⟨e1, ⟨c, e2, e3⟩, e4, e5, e6⟩ := c5 z
    refine ⟨by rw [hCL _ (by omega) (by omega)]; exact e1, ⟨c, by omega, by rw [hCL _ (by omega) (by omega)]; exact e3⟩, by rw [hCL _ (by omega) (by omega)]; exact e4, ?_, (hH.2 k z hk).2⟩
    rw [(hH.2 k z hk).1]
    exact e5
  · obtain ⟨c1, c2, c3, c4⟩ := XLk k hk
    rw [hfl k hk]
    refine ⟨fun z => by rw [hCL _ (by omega) (by omega)]; exact c1 z, fun z => by rw [hCL _ (by omega) (by omega)]; exact c2 z, fun z1 z2 => ?_, c4⟩
    obtain ⟨e1, e2, e3⟩ := c3 z1 z2
    exact ⟨e1, e2, fun z => by have := e3 z; omega⟩
  · obtain ⟨⟨c, e, rs, fs, c1, c2⟩, c3, c4⟩ := XSk k hk nh
    rw [hfl k hk, hts k hk, hst k hk]
    exact ⟨⟨c, e, rs, fs, by rw [hCL _ (by omega) (by omega)]; exact c1, c2⟩, c3, c4⟩
theorem hs_XLin {flk dlk : Nat} (L : hs_XL h ind ca cb lc cn CL ho flk dlk d) (hCL : CL' (d * 6 + 2) = CL (d * 6 + 2)) (hcn : cn ≤ cn') : hs_XL h ind ca cb lc cn' CL' ho flk dlk d := by
  obtain ⟨c1, c2, c3, c4⟩ := L
  refine ⟨fun z => ?_, fun z => by rw [hCL]; exact c2 z, fun z1 z2 => ?_, c4⟩
  · have e : CL' 2 = CL 2 := by
      have := hCL
      rw [z.2] at this
      exact this
    rw [e]; exact c1 z
  · obtain ⟨e1, e2, e3⟩ := c3 z1 z2
    exact ⟨e1, e2, fun z => by have := e3 z; omega⟩
theorem hs_XIpop {j : Nat} (I : hs_XI tx nu LT cd lc kp cc P ind h tk ca cb us ue mo mS mD s d vt cn ml gl ex at1 ox oc lt HE CL op fl dl vb ob ts st ho) (hj : j ≤ d) (OV' : ∀ i, i < vt' → hs_vv (op' i)) : hs_XI tx nu LT cd lc kp cc P ind h tk ca cb us ue mo mS mD s j vt' cn ml gl ex at1 ox oc lt HE CL op' fl dl vb ob ts st ho := by
  obtain ⟨T, ⟨B1, B2, B3, B4, B5, B6⟩, W, MC, OV, H0, XCk, XLk, XSk, HO, v0, o0⟩ := I
  exact ⟨T, ⟨B1, B2, B3, by omega, B5, B6⟩, W, MC, OV', H0, fun k hk => XCk k (by omega), fun k hk => XLk k (by omega), fun k hk nh => XSk k (by omega) nh, fun z1 z2 => HO z1 (by omega), v0, o0⟩
/-- one frame more -/
theorem hs_XIpush {l vn on : Nat} (I : hs_XI tx nu LT cd lc kp cc P ind h tk ca cb us ue mo mS mD s d vt cn ml gl ex at1 ox oc lt HE CL op fl dl vb ob ts st ho) (L : hs_XL h ind ca cb lc cn CL ho (fl d) (dl d) d) (hS : ¬ (ho = true ∧ d = 0) → hs_XS LT cd CL (fl d) (ts d) (st d) false d ∧ vn = vb d + hs_nst (st d) ∧ on = ob d + (st d).length) (hS0 : ho = true → d = 0 → vn = 0 ∧ on = 0) (hd : d < mD) (hvn : vn ≤ 39 * (d + 1)) (hon : on ≤ 39 * (d + 1))
    (OV' : ∀ j, j < vt' → hs_vv (op' j)) (W' : hs_WX P h lc cn ml gl ex at1' ox oc' lt)
    (hCL : ∀ j, j < (d + 1) * 6 → CL' j = CL j) (k4 : CL' ((d + 1) * 6 + 4) = nI vn) (k0 : CL' ((d + 1) * 6) = nI l) (k1 : ∃ c, c < cn ∧ CL' ((d + 1) * 6 + 1) = nI c) (k5 : CL' ((d + 1) * 6 + 5) = 0 ∨ CL' ((d + 1) * 6 + 5) = 1)
    (hHE : ∀ j, j < (d + 1) * 27 → HE' j = HE j) (hr : ∃ o, o < 8 ∧ HE' ((d + 1) * 27 + 26) = lN (12884901888 + o)) (hv : ∀ j, j < 26 → hs_v0 (HE' ((d + 1) * 27 + j)))
    (hfl : ∀ k, k ≤ d → fl' k = fl k) (hdl : ∀ k, k ≤ d → dl' k = dl k) (hdl1 : dl' (d + 1) = l) (hvb : ∀ k, k ≤ d → vb' k = vb k) (hvb1 : vb' (d + 1) = vn) (hob : ∀ k, k ≤ d → ob' k = ob k) (hob1 : ob' (d + 1) = on) (hts : ∀ k, k ≤ d → ts' k = ts k) (hst : ∀ k, k ≤ d → st' k = st k) :
    hs_XI tx nu LT cd lc kp cc P ind h tk ca cb us ue mo mS mD s (d + 1) vt' cn ml gl ex at1' ox oc' lt HE' CL' op' fl' dl' vb' ob' ts' st' ho := by
  obtain ⟨T, ⟨B1, B2, B3, B4, B5, B6⟩, W, MC, OV, H0, XCk, XLk, XSk, HO, v0, o0⟩ := I
  refine ⟨T, ⟨B1, B2, B3, by omega, B5, B6⟩, W', MC, OV', fun j hj => by rw [hHE j (by omega)]; exact H0 j hj, fun k hk => ?_, fun k hk => ?_, fun k hk nh => ?_, fun z1 z2 => ?_, by rw [hvb 0 (by omega)]; exact v0, by rw [hob 0 (by omega)]; exact o0⟩
  · rcases Nat.lt_or_ge d k with z | z
    · have ek : k = d + 1 := by omega
      subst ek
      rw [hdl1, hvb1, hob1]
      exact ⟨k4, hvn, hon, fun y => by omega, fun _ => ⟨k0, k1, k5, hr, hv⟩⟩
    · obtain ⟨c1, c2, c3, c4, c5⟩ := XCk k z
      rw [hdl k z, hvb k z, hob k z]
      refine ⟨by rw [hCL _ (by omega)]; exact c1, c2, c3, fun y => by rw [hCL _ (by omega)]; exact c4 y, fun y => ?_⟩
      obtain ⟨e1, e2, e3, e4, e5⟩ := c5 y
      refine ⟨by rw [hCL _ (by omega)]; exact e1, by rw [hCL _ (by omega)]; exact e2, by rw [hCL _ (by omega)]; exact e3, by rw [hHE _ (by omega)]; exact e4, fun j hj => by rw [hHE _ (by omega)]; exact e5 j hj⟩
  · have L' : hs_XL h ind ca cb lc cn CL ho (fl k) (dl k) k := by
      rcases Nat.lt_or_ge k d with z | z
      · exact XLk k z
      · have ek : k = d := by omega
        subst ek; exact L
    obtain ⟨c1, c2, c3, c4⟩ := L'
    rw [hfl k (by omega), hdl k (by omega)]
    exact ⟨fun z => by rw [hCL _ (by omega)]; exact c1 z, fun z => by rw [hCL _ (by omega)]; exact c2 z, c3, c4⟩
  · have S' : hs_XS LT cd CL (fl k) (ts k) (st k) false k ∧ vb' (k + 1) = vb k + hs_nst (st k) ∧ ob' (k + 1) = ob k + (st k).length := by
      rcases Nat.lt_or_ge k d with z | z
      · rw [hvb (k + 1) (by omega), hob (k + 1) (by omega)]
        exact XSk k z nh
      · have ek : k = d := by omega
        subst ek
        rw [hvb1, hob1]
        exact hS nh
    obtain ⟨⟨c, e, rs, fs, c1, c2⟩, c3, c4⟩ := S'
    rw [hfl k (by omega), hts k (by omega), hst k (by omega), hvb k (by omega), hob k (by omega)]
    exact ⟨⟨c, e, rs, fs, by rw [hCL _ (by omega)]; exact c1, c2⟩, c3, c4⟩
  · rcases Nat.lt_or_ge 0 d with z | z
    · rw [hvb 1 (by omega), hob 1 (by omega)]
      exact HO z1 z
    · have ed : d = 0 := by omega
      subst ed
      rw [hvb1, hob1]
      exact hS0 z1 rfl
end
