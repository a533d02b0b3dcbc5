/-! the world under a step: values stay values, counts stay small -/
section
variable {P h : Nat → Nat} {lc cn : Nat} {ml : Nat → List Nat} {gl ex at1 HE op : Nat → Int64} {ox oc lt : Nat → Int32} {mk : Int32} {d vt o q dr c n : Nat} {v : Int64}
theorem hs_RVdr (R : hs_RV ml gl ex at1 HE op oc lt mk cn d vt o q dr v) : dr = hs_arr o := by
  rcases R with ⟨rfl, rfl, _⟩ | ⟨rfl, rfl, _⟩ | ⟨rfl, rfl, _⟩ | ⟨rfl, rfl, _⟩ | ⟨rfl, rfl, _⟩ | ⟨ho, rfl, _⟩
  · rfl
  · rfl
  · rfl
  · rfl
  · rfl
  · unfold hs_arr
    rw [if_neg (by omega), if_pos (Or.inr ho)]
theorem hs_v0v (h1 : hs_v0 v) (h2 : v ≠ 0) : hs_vv v := h1.resolve_left h2
theorem hs_RVvv (W : hs_WX P h lc cn ml gl ex at1 ox oc lt) (OV : ∀ j, j < vt → hs_vv (op j)) (hHE : ∀ j, j < 26 → hs_v0 (HE (d * 27 + j))) (hoq : hs_oq d o q) (R : hs_RV ml gl ex at1 HE op oc lt mk cn d vt o q dr v) : hs_vv v := by
  obtain ⟨w1, w2, w3, w4, w5, w6, w7, w8, w9⟩ := W
  rcases R with ⟨rfl, rfl, e⟩ | ⟨rfl, rfl, e⟩ | ⟨rfl, rfl, e, e2⟩ | ⟨rfl, rfl, c, e1, e2, m, e3, e4, e5, e6⟩ | ⟨rfl, rfl, b, e1, e2⟩ | ⟨ho, rfl, e⟩
  · rw [e]; exact hs_intV _
  · rw [e]; exact hs_noneV
  · have hq : q < 26 := hoq.2.2.2.2.1 (by decide) (by decide)
    refine hs_v0v ?_ e2
    rw [e]
    unfold hs_gv
    split
    · exact w3 q hq
    · exact hHE q hq
  · exact e6
  · have hq : q < 26 := hoq.2.2.2.2.1 (by decide) (by decide)
    rcases e2 with ⟨e2, e3⟩ | ⟨_, c, _, _, m, _, _, _, e6⟩
    · rw [e3]
      exact hs_v0v (w5 _ (by have := e1.1; omega)) e2
    · exact e6
  · rcases e with ⟨_, e⟩ | ⟨_, a, b, _, _, _, e⟩
    · rw [e]; exact hs_intV _
    · rw [e]; exact hs_intV _
theorem hs_naC {a1 a2 : Nat → Int64} {r : Nat} : ∀ (n i : Nat), (∀ j, i ≤ j → j < i + n → a1 (r + j) = a2 (r + j)) → hs_na a1 r n i = hs_na a2 r n i
  | 0, _, _ => rfl
  | n + 1, i, e => by
    show (if a1 (r + i) = 0 then 0 else 1) + hs_na a1 r n (i + 1) = (if a2 (r + i) = 0 then 0 else 1) + hs_na a2 r n (i + 1)
    rw [hs_naC n (i + 1) (fun j j1 j2 => e j (by omega) (by omega)), e i (Nat.le_refl _) (by omega)]
theorem hs_naZ {a1 : Nat → Int64} {r : Nat} : ∀ (n i : Nat), (∀ j, i ≤ j → j < i + n → a1 (r + j) = 0) → hs_na a1 r n i = 0
  | 0, _, _ => rfl
  | n + 1, i, e => by
    show (if a1 (r + i) = 0 then 0 else 1) + hs_na a1 r n (i + 1) = 0
    rw [hs_naZ n (i + 1) (fun j j1 j2 => e j (by omega) (by omega)), if_pos (e i (Nat.le_refl _) (by omega))]
theorem hs_naU {a1 : Nat → Int64} {r m : Nat} {x : Int64} : ∀ (n i : Nat), (a1 (r + m) ≠ 0 → x ≠ 0 → hs_na (vp_updL a1 (r + m) x) r n i = hs_na a1 r n i) ∧ hs_na (vp_updL a1 (r + m) x) r n i ≤ hs_na a1 r n i + 1
  | 0, _ => ⟨fun _ _ => rfl, Nat.zero_le _⟩
  | n + 1, i => by
    obtain ⟨h1, h2⟩ := hs_naU (a1 := a1) (r := r) (m := m) (x := x) n (i + 1)
    have e0 : hs_na (vp_updL a1 (r + m) x) r (n + 1) i = (if vp_updL a1 (r + m) x (r + i) = 0 then 0 else 1) + hs_na (vp_updL a1 (r + m) x) r n (i + 1) := rfl
    have e1 : hs_na a1 r (n + 1) i = (if a1 (r + i) = 0 then 0 else 1) + hs_na a1 r n (i + 1) := rfl
    rw [e0, e1]
    by_cases z : i = m
    · subst z
      rw [pk_uLs]
      refine ⟨fun y1 y2 => ?_, ?_⟩
      · rw [if_neg y1, if_neg y2, h1 y1 y2]
      · have h3 : hs_na (vp_updL a1 (r + i) x) r n (i + 1) = hs_na a1 r n (i + 1) := hs_naC n (i + 1) (fun j j1 j2 => pk_uLn (by omega))
        rw [h3]
        split <;> split <;> omega
    · rw [pk_uLn (by omega)]
      refine ⟨fun y1 y2 => by rw [h1 y1 y2], by omega⟩
theorem hs_WXnew (W : hs_WX P h lc cn ml gl ex at1 ox oc lt) (hc : c < cn) (ho : o < 8) : hs_WX P h lc cn ml gl ex (hs_zr at1 o) ox (upd oc o (nI c)) lt := by
  obtain ⟨w1, w2, w3, w4, w5, w6, w7, w8, w9⟩ := W
  refine ⟨w1, w2, w3, w4, fun j hj => ?_, fun r hr => ?_, fun r hr => ?_, w8, w9⟩
  · unfold hs_zr
    split
    · exact Or.inl rfl
    · exact w5 j hj
  · by_cases z : r = o
    · subst z
      rw [hs_naZ 26 0 (fun j j1 j2 => by unfold hs_zr; rw [if_pos (by omega)])]
      omega
    · rw [hs_naC (a2 := at1) 26 0 (fun j j1 j2 => by unfold hs_zr; rw [if_neg (by omega)])]
      exact w6 r hr
  · by_cases z : r = o
    · subst z
      exact ⟨c, hc, pk_us⟩
    · obtain ⟨c', e1, e2⟩ := w7 r hr
      exact ⟨c', e1, by rw [pk_un z]; exact e2⟩
theorem hs_WXgl (W : hs_WX P h lc cn ml gl ex at1 ox oc lt) (hv : hs_vv v) : hs_WX P h lc cn ml (vp_updL gl n v) ex at1 ox oc lt := by
  obtain ⟨w1, w2, w3, w4, w5, w6, w7, w8, w9⟩ := W
  refine ⟨w1, w2, fun j hj => ?_, w4, w5, w6, w7, w8, w9⟩
  by_cases z : j = n
  · subst z; rw [pk_uLs]; exact Or.inr hv
  · rw [pk_uLn z]; exact w3 j hj
theorem hs_WXent (W : hs_WX P h lc cn ml gl ex at1 ox oc lt) (hc : 1 ≤ c) (hn : n < 26) (hx : hs_v0 v ∨ ∃ l, hs_df h lc l ∧ l < 1024 ∧ P l < 1024 ∧ v = lN (17179869184 + l)) : hs_WX P h lc cn ml gl (vp_updL ex (c * 26 + n) v) at1 ox oc lt := by
  obtain ⟨w1, w2, w3, w4, w5, w6, w7, w8, w9⟩ := W
  refine ⟨w1, by rw [pk_uLn (by omega)]; exact w2, w3, fun c' n' hc' hn' => ?_, w5, w6, w7, w8, w9⟩
  by_cases z : c' * 26 + n' = c * 26 + n
  · rw [z, pk_uLs]
    rcases hx with hx | ⟨l, e1, e2, e3, e4⟩
    · exact Or.inl hx
    · exact Or.inr ⟨l, e1, e2, e3, e4⟩
  · rw [pk_uLn z]; exact w4 c' n' hc' hn'
theorem hs_WXat (W : hs_WX P h lc cn ml gl ex at1 ox oc lt) (ho : o < 8) (hn : n < 26) (hv : hs_vv v) (hna : at1 (o * 26 + n) ≠ 0 ∨ hs_na at1 (o * 26) 26 0 < 4) : hs_WX P h lc cn ml gl ex (vp_updL at1 (o * 26 + n) v) ox oc lt := by
  obtain ⟨w1, w2, w3, w4, w5, w6, w7, w8, w9⟩ := W
  refine ⟨w1, w2, w3, w4, fun j hj => ?_, fun r hr => ?_, w7, w8, w9⟩
  · by_cases z : j = o * 26 + n
    · subst z; rw [pk_uLs]; exact Or.inr hv
    · rw [pk_uLn z]; exact w5 j hj
  · by_cases z : r = o
    · subst z
      obtain ⟨h1, h2⟩ := hs_naU (a1 := at1) (r := r * 26) (m := n) (x := v) 26 0
      rcases hna with y | y
      · rw [h1 y (hs_vvne hv)]; exact w6 r hr
      · omega
    · rw [hs_naC (a2 := at1) 26 0 (fun j j1 j2 => pk_uLn (by omega))]
      exact w6 r hr
theorem hs_EEupd {ey : Nat → Int64} {df : Nat → Prop} {y : Int64} (E : hs_EE P df ex ey) (hn : n < 26) (he : hs_ee P df c v y) : hs_EE P df (vp_updL ex (c * 26 + n) v) (vp_updL ey (c * 26 + n) y) := by
  intro c' n' hc' hn'
  by_cases z : c' * 26 + n' = c * 26 + n
  · have e1 : c' = c := by omega
    have e2 : n' = n := by omega
    subst e1 e2
    rw [pk_uLs, pk_uLs]; exact he
  · rw [pk_uLn z, pk_uLn z]; exact E c' n' hc' hn'
/-- what the store of live objects asks of the held values -/
theorem hs_WXrv (W : hs_WX P h lc cn ml gl ex at1 ox oc lt) (OV : ∀ j, j < vt → hs_vv (op j)) (hH : (∀ j, j < 27 → HE j = 0) ∧ ∀ k, 1 ≤ k → k ≤ d → (∃ o, o < 8 ∧ HE (k * 27 + 26) = lN (12884901888 + o)) ∧ ∀ j, j < 26 → hs_v0 (HE (k * 27 + j))) :
    (∀ j, j < 208 → hs_rv (at1 j)) ∧ (∀ j, j < vt → hs_rv (op j)) ∧ (∀ j, j < (d + 1) * 27 → hs_rv (HE j)) ∧ (∀ j, j < 260 → hs_rv (ex j)) ∧ (∀ j, j < 26 → hs_rv (gl j)) := by
  obtain ⟨w1, w2, w3, w4, w5, w6, w7, w8, w9⟩ := W
  refine ⟨fun j hj => hs_rvV (w5 j hj), fun j hj => hs_rvV (Or.inr (OV j hj)), fun j hj => ?_, fun j hj => ?_, fun j hj => hs_rvV (w3 j hj)⟩
  · rcases Nat.lt_or_ge j 27 with z | z
    · rw [hH.1 j z]; exact hs_rvV (Or.inl rfl)
    · obtain ⟨k, r, hr, e⟩ : ∃ k r, r < 27 ∧ j = k * 27 + r := ⟨j / 27, j % 27, Nat.mod_lt _ (by decide), by omega⟩
      subst e
      obtain ⟨⟨o, o1, o2⟩, o3⟩ := hH.2 k (by omega) (by omega)
      rcases Nat.lt_or_ge r 26 with y | y
      · exact hs_rvV (o3 r y)
      · have : r = 26 := by omega
        subst this
        rw [o2]
        exact hs_rvV (Or.inr (hs_objV o1))
  · obtain ⟨k, r, hr, e⟩ : ∃ k r, r < 26 ∧ j = k * 26 + r := ⟨j / 26, j % 26, Nat.mod_lt _ (by decide), by omega⟩
    subst e
    rcases w4 k r (by omega) hr with z | ⟨l, _, l2, _, l4⟩
    · exact hs_rvV z
    · rw [l4]
      exact hs_rvM (by omega)
end
