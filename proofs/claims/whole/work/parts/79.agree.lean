/-! Types that stay when one more comes: own work. -/
def zAg (E E2 : zEnv) (n : Int) : Prop := (∀ c : Nat, (c = 13 ∨ c = 14 ∨ c = 15 ∨ c = 16 ∨ c = 17 ∨ c = 20 ∨ c = 22) → ∀ j, 0 ≤ j → j < n → E2.1 c j = E.1 c j) ∧ (∀ j, 0 ≤ j → j < 96 * n → E2.1 21 j = E.1 21 j) ∧ (∀ j, 0 ≤ j → j < 6 * n → E2.1 23 j = E.1 23 j ∧ E2.1 24 j = E.1 24 j ∧ E2.2 25 j = E.2 25 j) ∧ (∀ j, 0 ≤ j → j < n → E2.2 18 j = E.2 18 j ∧ E2.2 19 j = E.2 19 j)
def zAc (s s2 : ym_S) (k : Nat) : Prop := s2.1 k = s.1 k ∧ s2.2.1 k = s.2.1 k ∧ ym_R s2 k = ym_R s k ∧ ym_T s2 k = ym_T s k
section
variable {E E2 : zEnv} {n : Int}
theorem zAg_r (E : zEnv) (n : Int) : zAg E E n := ⟨fun _ _ _ _ _ => rfl, fun _ _ _ => rfl, fun _ _ _ => ⟨rfl, rfl, rfl⟩, fun _ _ _ => ⟨rfl, rfl⟩⟩
theorem zAg_b (hA : zAg E E2 n) {t g : Int} (h0 : 0 ≤ t) (h1 : t < n) (hf : zWf E t) : eBg E2 t g = eBg E t g := by
  obtain ⟨a1, a2, a3, a4⟩ := hA
  obtain ⟨f1, f2, -⟩ := hf
  unfold eBg
  rw [a1 20 (by simp) t h0 h1]
  have : ∀ (m : Nat) (j : Int), 0 ≤ j → j + m ≤ 96 → eb E2 t g m j = eb E t g m j := by
    intro m
    induction m with
    | zero => intro j _ _; rfl
    | succ m ih =>
      intro j j0 jm
      rw [eb, eb, a2 (96 * t + j) (by omega) (by omega), ih (j + 1) (by omega) (by omega)]
  exact this _ 0 (by decide) (by omega)
theorem zAg_ch (hA : zAg E E2 n) {t : Int} (h0 : 0 ≤ t) (h1 : t < n) : eCh E2 t = eCh E t := by
  unfold eCh
  rw [hA.1 13 (by simp) t h0 h1, hA.1 15 (by simp) t h0 h1]
theorem zAg_co (hA : zAg E E2 n) (hW : zWF E n) : ∀ (f : Nat) (t : Int), 0 ≤ t → t < n → eCo E2 f t = eCo E f t
  | 0, t, _, _ => rfl
  | f + 1, t, h0, h1 => by
    rw [eCo, eCo, hA.1 13 (by simp) t h0 h1, hA.1 16 (by simp) t h0 h1]
    by_cases s1 : E.1 13 t = 1
    · obtain ⟨wi, -⟩ := zW_w1 hW h0 h1 s1
      have := wi.2
      rw [if_pos s1, if_pos s1]
      exact zAg_co hA hW f _ wi.1 (by omega)
    · rw [if_neg s1, if_neg s1]
theorem eNc_wi (hW : zWF E n) {t : Int} (h0 : 0 ≤ t) (h1 : t < n) (h : E.1 13 t = 1 ∨ E.1 13 t = 2) : zWi E t := by
  rcases h with h | h
  · exact (zW_w1 hW h0 h1 h).1
  · exact (zW_w2 hW h0 h1 h).1
theorem zAg_nc (hA : zAg E E2 n) (hW : zWF E n) : ∀ (f : Nat) (t : Int), 0 ≤ t → t < n → eNc E2 f t = eNc E f t
  | 0, t, _, _ => rfl
  | f + 1, t, h0, h1 => by
    rw [eNc, eNc, hA.1 13 (by simp) t h0 h1, hA.1 16 (by simp) t h0 h1]
    by_cases s1 : E.1 13 t = 1 ∨ E.1 13 t = 2
    · obtain ⟨w1, w2⟩ := eNc_wi hW h0 h1 s1
      rw [if_pos s1, if_pos s1]
      exact zAg_nc hA hW f _ w1 (by omega)
    · rw [if_neg s1, if_neg s1]
theorem eNc_ok (hW : zWF E n) : ∀ (f : Nat) (t : Int), 0 ≤ t → t < n → 0 ≤ eNc E f t ∧ eNc E f t ≤ t
  | 0, t, h0, _ => ⟨h0, Int.le_refl _⟩
  | f + 1, t, h0, h1 => by
    rw [eNc]
    by_cases s1 : E.1 13 t = 1 ∨ E.1 13 t = 2
    · obtain ⟨w1, w2⟩ := eNc_wi hW h0 h1 s1
      rw [if_pos s1]
      have := eNc_ok hW f _ w1 (by omega)
      exact ⟨this.1, by omega⟩
    · rw [if_neg s1]
      exact ⟨h0, Int.le_refl _⟩
theorem zAg_wf (hA : zAg E E2 n) {t : Int} (h0 : 0 ≤ t) (h1 : t < n) (hf : zWf E t) : zWf E2 t := by
  obtain ⟨f1, f2, f3, f4⟩ := hf
  unfold zWf
  rw [hA.1 20 (by simp) t h0 h1, zAg_ch hA h0 h1, hA.1 14 (by simp) t h0 h1, hA.2.1 (96 * t) (by omega) (by omega)]
  refine ⟨f1, f2, fun j j0 j1 => ?_, f4⟩
  rw [hA.2.1 (96 * t + j) (by omega) (by omega)]
  exact f3 j j0 j1
theorem zAg_wt (hA : zAg E E2 n) (hW : zWF E n) {t : Int} (h0 : 0 ≤ t) (h1 : t < n) : zWt E2 t := by
  obtain ⟨wf, w⟩ := hW.2 t h0 h1
  have e13 := hA.1 13 (by simp) t h0 h1
  have e14 := hA.1 14 (by simp) t h0 h1
  have e15 := hA.1 15 (by simp) t h0 h1
  have e16 := hA.1 16 (by simp) t h0 h1
  have e17 := hA.1 17 (by simp) t h0 h1
  have e22 := hA.1 22 (by simp) t h0 h1
  refine ⟨zAg_wf hA h0 h1 wf, ?_⟩
  unfold zW0 zWi zWg zW4
  unfold zW0 zWi zWg zW4 at w
  rw [e13, e14, e15, e16, e17, e22]
  rcases w with w | w | w | w | w
  · exact Or.inl w
  · refine Or.inr (Or.inl ⟨w.1, w.2.1, w.2.2.1, ?_⟩)
    have := w.2.1
    rw [zAg_ch hA this.1 (by omega)]
    exact w.2.2.2
  · exact Or.inr (Or.inr (Or.inl w))
  · exact Or.inr (Or.inr (Or.inr (Or.inl w)))
  · obtain ⟨w0, w1, w2, w3, w4, w5, w6⟩ := w
    refine Or.inr (Or.inr (Or.inr (Or.inr ⟨w0, w1, w2, w3, w4, fun k k0 k1 => ?_, fun h17 k j g k0 kj j1 => ?_⟩)))
    · obtain ⟨m1, m2, m3, m4, m5⟩ := w5 k k0 k1
      obtain ⟨a23, a24, a25⟩ := hA.2.2.1 (6 * t + k) (by omega) (by omega)
      rw [a23, a24, a25, zAg_nc hA hW 17 _ m1 (by omega)]
      obtain ⟨c1, c2⟩ := eNc_ok hW 17 _ m1 (by omega : E.1 23 (6 * t + k) < n)
      rw [hA.1 13 (by simp) _ c1 (by omega), hA.1 15 (by simp) _ c1 (by omega)]
      exact ⟨m1, m2, m3, m4, m5⟩
    · obtain ⟨m1, m2, -⟩ := w5 k k0 (by omega)
      obtain ⟨n1, n2, -⟩ := w5 j (by omega) j1
      rw [(hA.2.2.1 (6 * t + k) (by omega) (by omega)).1, (hA.2.2.1 (6 * t + j) (by omega) (by omega)).1, zAg_b hA m1 (by omega) (zWf_of hW m1 (by omega)), zAg_b hA n1 (by omega) (zWf_of hW n1 (by omega))]
      exact w6 h17 k j g k0 kj j1
/-- a type's cell stays a type's cell -/
theorem zCt_tr {s s2 : ym_S} {t : Int} {c : Nat} (hA : zAg E E2 n) (hW : zWF E n) (h0 : 0 ≤ t) (h1 : t < n) (hR : ∀ j, 0 ≤ j → j < n → ym_R s2 2 j = ym_R s 2 j) (hc : zAc s s2 c) (hc1 : zAc s s2 (c + 1)) (hm : ∀ m, ym_R s c 6 = some m → zMb E s (eCo E 17 t) m → zAc s s2 m ∧ zAc s s2 (m + 1) ∧ zAc s s2 (m + 2) ∧ zAc s s2 (m + 3)) (h : zCt E s t c) : zCt E2 s2 t c := by
  have hn := hW.1
  obtain ⟨c0, c1', c2, c3, c4⟩ := eCo_ok hW 17 t h0 h1 (by omega)
  obtain ⟨u, hu⟩ : ∃ u, u = eCo E 17 t := ⟨_, rfl⟩
  have e13 := hA.1 13 (by simp) (eCo E 17 t) c0 (by omega)
  have e15 := hA.1 15 (by simp) (eCo E 17 t) c0 (by omega)
  have e16 := hA.1 16 (by simp) (eCo E 17 t) c0 (by omega)
  have e17 := hA.1 17 (by simp) (eCo E 17 t) c0 (by omega)
  have e22 := hA.1 22 (by simp) (eCo E 17 t) c0 (by omega)
  obtain ⟨e18, e19⟩ := hA.2.2.2 (eCo E 17 t) c0 (by omega)
  have e14 := hA.1 14 (by simp) t h0 h1
  have e20 := hA.1 20 (by simp) t h0 h1
  obtain ⟨f1, f2, -⟩ := zWf_of hW h0 h1
  obtain ⟨a1, a2, a3, a4, a5, a6, a7, a8, a9, a10, a11⟩ := h
  unfold zCt zFo
  rw [zAg_co hA hW 17 t h0 h1, e13, e15, e16, e17, e18, e19, e14, e20, zAg_ch hA h0 h1]
  obtain ⟨k1, k2, k3, k4⟩ := hc
  rw [k1, k2, k3, k4, hc1.1, hc1.2.2.2]
  unfold zFo at a3
  refine ⟨a1, a2, a3, a4, a5, a6, fun w => ?_, fun w => ?_, a9, a10, fun j j0 j1 => ?_⟩
  · have hi : 0 ≤ E.1 16 (eCo E 17 t) ∧ E.1 16 (eCo E 17 t) < eCo E 17 t := by
      rcases w with w | w
      · exact (zW_w2 hW c0 (by omega) w).1
      · exact (zW_w3 hW c0 (by omega) w).1
    rw [hR _ hi.1 (by omega)]
    exact a7 w
  · obtain ⟨m, hm1, hm2⟩ := a8 w
    refine ⟨m, hm1, ?_⟩
    obtain ⟨g0, g1, g2, g3⟩ := hm m hm1 hm2
    obtain ⟨-, -, w5, w6, w7, -⟩ := zW_w4 hW c0 (by omega : eCo E 17 t < n) w
    obtain ⟨b1, b2, b3, b4, b5, b6, b7, b8, b9, b10, b11⟩ := hm2
    unfold zMb
    rw [g0.1, g0.2.2.1, g0.2.2.2, g1.2.2.1, g1.2.2.2, g2.1, g2.2.2.2, g3.2.1, g3.2.2.2, e15, e22]
    refine ⟨b1, b2, b3, b4, b5, b6, b7, b8, b9, b10, fun k k0 k1 => ?_⟩
    obtain ⟨m1, m2, -⟩ := w7 k k0 k1
    obtain ⟨a23, a24, a25⟩ := hA.2.2.1 (6 * eCo E 17 t + k) (by omega) (by omega)
    rw [a23, a24, a25, hR _ m1 (by omega)]
    exact b11 k k0 k1
  · rw [hA.2.1 (96 * t + j) (by omega) (by omega)]
    exact a11 j j0 j1
end
