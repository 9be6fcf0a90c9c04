/-! The class' reading of identifiers and lengths: own work. -/
def zh (sc : xm_S) (K : List ym_F) (d : Nat) : Prop := K.length + d < 1000 ∧ sc.1 ≤ 67108864
def zIn (s : ym_S) (r : Int → Int) (N : Int) : Prop := s.1 10 1 = N ∧ N ≤ 200 ∧ zs_oct r N ∧ ∀ j, 0 ≤ j → j < N → s.1 11 j = r j
def zBad (sc : xm_S) (P : xm_O → xm_H → Prop) (K : List ym_F) (s : ym_S) : Prop := ∀ (p g c i e w u q : Int) (m : Int64) (o : Int → Int), ym_Ex sc P K 1 (ym_ex (zc s p g c i e w u q m o))
section
variable {sc : xm_S} {P : xm_O → xm_H → Prop} {K : List ym_F} {s : ym_S} {p g c i e w u q : Int} {m : Int64} {o : Int → Int} {r : Int → Int} {N l : Int}
theorem zy {d : Nat} (H : zh sc K d) : ym_Hy sc K := ⟨by have := H.1; omega, H.2⟩
theorem zk {d : Nat} {f : ym_F} (H : zh sc K (d + 1)) : zh sc (f :: K) d := ⟨by have := H.1; rw [List.length_cons]; omega, H.2⟩
theorem zm {d d' : Nat} (H : zh sc K d) (h : d' ≤ d) : zh sc K d' := ⟨by have := H.1; omega, H.2⟩
theorem zbc {k pc : Nat} {L : ym_L} {st : List ym_V} (h : zBad sc P K s) (hv : xm_vt k pc = true) (hh : xm_hh k = []) : zBad sc P ((k, pc, L, st) :: K) s := fun p g c i e w u q m o => ym_ex_cons hv hh (h p g c i e w u q m o)
theorem cc_56 (H : zh sc K 0) (hI : zIn s r N) (hp : 0 ≤ p) (hl0 : 0 ≤ l) (hl : l ≤ N) (kx : l ≤ p → zBad sc P K s) (kr : p < l → 0 ≤ r p → r p < 256 → ym_Rt sc P K (some (ym_I (r p))) (zc s (p+1) g c i e w u q m o)) : ym_Go sc P K (56, 0, [some (ym_P 7), some (ym_I l)], []) (zc s p g c i e w u q m o) := by
  obtain ⟨i1, i2, i3, i4⟩ := hI
  refine sg_56_0 (zy H) _ ?_
  simp only [zc_7_2, zc_7_3, zc_7_4, zc_7_5, zc_7_6, zc_7_8, zc_7_9, zc_8_1, zc_7_7, zc_9, zc_1, zc_2, zc_3, zc_4, zc_5, zc_6, zc_10, zc_11, zc_r, zc_w7_2, zc_w7_3, zc_w7_4, zc_w7_5, zc_w7_6, zc_w7_8, zc_w7_9, zc_w8_1, zc_w7_7, zc_w9, zc_p9]
  rw [i1]
  refine ⟨⟨by omega, by omega⟩, fun h1 => ⟨fun h2 => ⟨⟨by omega, by omega⟩, ⟨by omega, by omega⟩, ?_⟩, fun h2 => by exfalso; omega⟩, fun h1 => kx h1 _ _ _ _ _ _ _ _ _ _⟩
  obtain ⟨o1, o2⟩ := i3 p hp (by omega)
  have := kr h1 o1 o2
  rw [show p + 1 - 1 = p by omega, i4 p hp (by omega)]
  exact this
theorem cc_58 (H : zh sc K 1) (hI : zIn s r N) (hl0 : 0 ≤ l) (hl : l ≤ N) (g c i e w u q : Int) (m : Int64) (o : Int → Int) : ∀ (f : Nat) (k n d p : Int), k + f = 3 → 0 ≤ k → 0 ≤ n → n < 2 ^ (21 - 7 * f) → 128 ≤ d → d < 256 → 0 ≤ p → (zs_ln r l f k p n = none → zBad sc P K s) → (∀ x b, zs_ln r l f k p n = some (x, b) → ym_Rt sc P K (some (ym_I x)) (zc s b g c i e w u q m o)) → ym_Go sc P K (58, 9, [some (ym_P 7), some (ym_I l), some (ym_I n), some (ym_I d), some (ym_I k)], []) (zc s p g c i e w u q m o)
  | 0, k, n, d, p, hk, hk0, hn0, hn, hd, hd2, hp, kx, kr => by
    refine sg_58_9 (zy H) _ _ _ _ ⟨⟨by omega, by omega⟩, fun h1 => by exfalso; omega, fun _ => ⟨⟨by omega, by omega⟩, fun h1 => by exfalso; omega, fun _ => kx rfl _ _ _ _ _ _ _ _ _ _⟩⟩
  | f + 1, k, n, d, p, hk, hk0, hn0, hn, hd, hd2, hp, kx, kr => by
    refine sg_58_9 (zy H) _ _ _ _ ⟨⟨by omega, by omega⟩, fun h1 => ⟨⟨by omega, by omega⟩, fun h1 => by exfalso; omega, fun _ => ?_⟩, fun h1 => by exfalso; omega⟩
    refine cc_56 (zk H) hI hp hl0 hl (fun h2 => zbc (kx ?_) (by decide) (by decide)) (fun h2 o1 o2 => ym_rt_cons (sg_58_27 (zy H) _ _ _ _ _ ?_))
    · unfold zs_ln
      rw [if_neg (by omega)]
    have hf : f = 0 ∨ f = 1 ∨ f = 2 := by omega
    have hb : n < 16384 := Int.lt_of_lt_of_le hn (by rcases hf with rfl | rfl | rfl <;> decide)
    have e0 : ym_or (ym_shl n 7) (ym_and (r p) 127) = n * 128 + r p % 128 := by
      rw [zn_127 o1 (by omega), zn_shl7 hn0 (by omega), zn_or7 hn0 (by omega) (by omega) (by omega)]
    rw [e0]
    have hn3 : n * 128 + r p % 128 < 2 ^ (21 - 7 * f) := by
      rcases hf with rfl | rfl | rfl
      · simp at hn ⊢; omega
      · simp at hn ⊢; omega
      · simp at hn ⊢; omega
    have hb3 : n * 128 + r p % 128 < 2097152 := by omega
    have rest : ¬ (k = 0 ∧ r p = 128) → ym_Go sc P K (58, 9, [some (ym_P 7), some (ym_I l), some (ym_I (n * 128 + r p % 128)), some (ym_I (r p)), some (ym_I (k + 1))], []) (zc s (p+1) g c i e w u q m o) := by
      intro h3
      by_cases h4 : r p < 128
      · have goal2 : (n * 128 + r p % 128 < 31 → ym_Ex sc P K 1 (ym_ex (zc s (p+1) g c i e w u q m o))) ∧ (31 ≤ n * 128 + r p % 128 → ym_Rt sc P K (some (ym_I (n * 128 + r p % 128))) (zc s (p+1) g c i e w u q m o)) := by
          constructor
          · intro h5
            refine kx ?_ _ _ _ _ _ _ _ _ _ _
            unfold zs_ln
            rw [if_pos h2, if_neg h3, if_pos h4, if_pos h5]
          · intro h5
            refine kr _ _ ?_
            unfold zs_ln
            rw [if_pos h2, if_neg h3, if_pos h4, if_neg (by omega)]
        exact sg_58_9 (zy H) _ _ _ _ ⟨⟨by omega, by omega⟩, fun _ => ⟨⟨by omega, by omega⟩, fun _ => ⟨⟨by omega, by omega⟩, fun _ => ⟨⟨by omega, by omega⟩, goal2⟩, fun h5 => by exfalso; omega⟩, fun h5 => by exfalso; omega⟩, fun _ => ⟨⟨by omega, by omega⟩, fun _ => ⟨⟨by omega, by omega⟩, goal2⟩, fun h5 => by exfalso; omega⟩⟩
      · have e1 : zs_ln r l (f + 1) k p n = zs_ln r l f (k + 1) (p + 1) (n * 128 + r p % 128) := by
          rw [zs_ln, if_pos h2, if_neg h3, if_neg h4]
        rw [e1] at kx kr
        exact cc_58 H hI hl0 hl g c i e w u q m o f (k + 1) _ _ (p + 1) (by omega) (by omega) (by omega) hn3 (by omega) (by omega) (by omega) kx kr
    refine ⟨⟨by omega, by omega⟩, fun h3 => ⟨⟨by omega, by omega⟩, fun h4 => ?_, fun h4 => rest (by omega)⟩, fun h3 => rest (by omega)⟩
    refine kx ?_ _ _ _ _ _ _ _ _ _ _
    unfold zs_ln
    rw [if_pos h2, if_pos ⟨h3, h4⟩]
theorem cc_57 (H : zh sc K 2) (hI : zIn s r N) (hp : 0 ≤ p) (hl0 : 0 ≤ l) (hl : l ≤ N) (kx : zs_id r l p = none → zBad sc P K s) (kr : ∀ c2 g2 b, zs_id r l p = some (c2, g2, b) → ym_Rt sc P K none (zc s b g2 c2 i e w u q m o)) : ym_Go sc P K (57, 0, [some (ym_P 7), some (ym_I l), none, none], []) (zc s p g c i e w u q m o) := by
  refine sg_57_0 (zy H) _ (cc_56 (zm (zk H) (by omega)) hI hp hl0 hl (fun h => zbc (kx ?_) (by decide) (by decide)) (fun h o1 o2 => ym_rt_cons (sg_57_5 (zy H) _ _ ?_)))
  · unfold zs_id
    rw [if_neg (by omega)]
  simp only [zc_7_2, zc_7_3, zc_7_4, zc_7_5, zc_7_6, zc_7_8, zc_7_9, zc_8_1, zc_7_7, zc_9, zc_1, zc_2, zc_3, zc_4, zc_5, zc_6, zc_10, zc_11, zc_r, zc_w7_2, zc_w7_3, zc_w7_4, zc_w7_5, zc_w7_6, zc_w7_8, zc_w7_9, zc_w8_1, zc_w7_7, zc_w9, zc_p9]
  have e1 : ym_shl (ym_shr (r p) 6) 21 = r p / 64 * 2097152 := by
    rw [zn_shr6 o1 (by omega), zn_shl21 (by omega) (by omega)]
  rw [zn_a32 o1 o2, zn_31 o1 (by omega), e1]
  refine ⟨fun h2 => ?_, fun h2 => ⟨⟨by omega, by omega⟩, kr _ _ _ ?_⟩⟩
  · refine sg_58_0 (zy (zm (zk H) (Nat.le_refl _))) _ (cc_58 (zk H) hI hl0 hl _ _ _ _ _ _ _ _ _ 3 0 0 128 (p + 1) (by omega) (by omega) (by omega) (by decide) (by omega) (by omega) (by omega) (fun h3 => zbc (kx ?_) (by decide) (by decide)) (fun x b h3 => ym_rt_cons (sg_57_38 (zy H) _ _ _ _ ?_)))
    · unfold zs_id
      rw [if_pos h, if_pos h2, h3]
      rfl
    · simp only [zc_7_2, zc_7_3, zc_7_4, zc_7_5, zc_7_6, zc_7_8, zc_7_9, zc_8_1, zc_7_7, zc_9, zc_1, zc_2, zc_3, zc_4, zc_5, zc_6, zc_10, zc_11, zc_r, zc_w7_2, zc_w7_3, zc_w7_4, zc_w7_5, zc_w7_6, zc_w7_8, zc_w7_9, zc_w8_1, zc_w7_7, zc_w9, zc_p9]
      rw [e1]
      have hx := zs_ln_ok hI.2.2.1 hl 3 0 (p + 1) 0 _ (by omega) (by omega) (by decide) (by omega) h3
      refine ⟨⟨by omega, by omega⟩, kr _ _ _ ?_⟩
      unfold zs_id
      rw [if_pos h, if_pos h2, h3]
      rfl
  · unfold zs_id
    rw [if_pos h, if_neg h2]
theorem cc_59 (H : zh sc K 3) (hI : zIn s r N) (hp : 0 ≤ p) (hp1 : p ≤ 200) (hl0 : 0 ≤ l) (hl : l ≤ N) (kx : zs_id r l p = none → zBad sc P K s) (kr : ∀ c2 g2 b, zs_id r l p = some (c2, g2, b) → ym_Rt sc P K (some (ym_I g2)) (zc s p g2 c2 i e w u q m o)) : ym_Go sc P K (59, 0, [some (ym_P 7), some (ym_I l), none], []) (zc s p g c i e w u q m o) := by
  refine sg_59_0 (zy H) _ (cc_57 (zk H) hI hp hl0 hl (fun h => zbc (kx h) (by decide) (by decide)) (fun c2 g2 b h => ym_rt_cons (sg_59_10 (zy H) _ _ ?_)))
  simp only [zc_7_2, zc_7_3, zc_7_4, zc_7_5, zc_7_6, zc_7_8, zc_7_9, zc_8_1, zc_7_7, zc_9, zc_1, zc_2, zc_3, zc_4, zc_5, zc_6, zc_10, zc_11, zc_r, zc_w7_2, zc_w7_3, zc_w7_4, zc_w7_5, zc_w7_6, zc_w7_8, zc_w7_9, zc_w8_1, zc_w7_7, zc_w9, zc_p9]
  exact ⟨⟨by omega, by omega⟩, kr _ _ _ h⟩
theorem cc_60l (H : zh sc K 1) (hI : zIn s r N) (hl0 : 0 ≤ l) (hl : l ≤ N) (g c i e w u q : Int) (m : Int64) (o : Int → Int) (a2 : Int) (ha2 : a2 ≤ 132) (ha20 : 0 ≤ a2) : ∀ (f : Nat) (k p n : Int) (b3 : Int64), (a2 - k).toNat = f → 128 ≤ k → k ≤ 132 → b3.toInt = n → 0 ≤ n → n < 256 ^ (4 - f) → f ≤ 4 → 0 ≤ p → p ≤ l → (∀ x, (zs_ll r l f p n = none ∨ (zs_ll r l f p n = some x ∧ l - x.2 < x.1)) → zBad sc P K s) → (∀ x b, zs_ll r l f p n = some (x, b) → ¬ l - b < x → ym_Rt sc P K none (zc s b g c i (b+x) w u q m o)) → ym_Go sc P K (60, 83, [some (ym_P 7), some (ym_I l), some (ym_I a2), some (ym_J b3), none, some (ym_I k)], []) (zc s p g c i e w u q m o)
  | 0, k, p, n, b3, hf, hk, hk2, hb, hn0, hn, hf4, hp, hpl, kx, kr => by
    obtain ⟨i1, i2, i3, i4⟩ := hI
    have e1 : (ym_i2l (l - p)).toInt = l - p := zl_i2l ⟨by omega, by omega⟩
    refine sg_60_83 (zy H) _ _ _ _ ⟨⟨by omega, by omega⟩, ⟨by omega, by omega⟩, fun h1 => by exfalso; omega, fun _ => ?_⟩
    simp only [zc_7_2, zc_7_3, zc_7_4, zc_7_5, zc_7_6, zc_7_8, zc_7_9, zc_8_1, zc_7_7, zc_9, zc_1, zc_2, zc_3, zc_4, zc_5, zc_6, zc_10, zc_11, zc_r, zc_w7_2, zc_w7_3, zc_w7_4, zc_w7_5, zc_w7_6, zc_w7_8, zc_w7_9, zc_w8_1, zc_w7_7, zc_w9, zc_p9]
    rw [show (ym_cmp b3 (ym_i2l (l - p)) ≤ 0) = ¬ 0 < ym_cmp b3 (ym_i2l (l - p)) by simp, zl_gt, e1, hb]
    refine ⟨fun h1 => kx (n, p) (Or.inr ⟨rfl, h1⟩) _ _ _ _ _ _ _ _ _ _, fun h1 => ?_⟩
    have e2 : ym_l2i b3 = n := by rw [zl_l2i (by omega) (by omega), hb]
    rw [e2]
    exact ⟨⟨by omega, by omega⟩, kr n p rfl h1⟩
  | f + 1, k, p, n, b3, hf, hk, hk2, hb, hn0, hn, hf4, hp, hpl, kx, kr => by
    refine sg_60_83 (zy H) _ _ _ _ ⟨⟨by omega, by omega⟩, ⟨by omega, by omega⟩, fun _ => ?_, fun h1 => by exfalso; omega⟩
    have hfc : f = 0 ∨ f = 1 ∨ f = 2 ∨ f = 3 := by omega
    refine cc_56 (zk H) hI hp hl0 hl (fun h2 => zbc (kx (0, 0) (Or.inl ?_)) (by decide) (by decide)) (fun h2 o1 o2 => ym_rt_cons (sg_60_98 (zy H) _ _ _ _ _ _ ?_))
    · unfold zs_ll
      rw [if_neg (by omega)]
    have hb4 : n < 4294967296 := Int.lt_of_lt_of_le hn (by rcases hfc with rfl | rfl | rfl | rfl <;> decide)
    have e1 : zs_ll r l (f + 1) p n = zs_ll r l f (p + 1) (n * 256 + r p) := by
      rw [zs_ll, if_pos h2]
    rw [e1] at kx kr
    refine cc_60l H hI hl0 hl g c i e w u q m o a2 ha2 ha20 f (k + 1) (p + 1) (n * 256 + r p) _ (by omega) (by omega) (by omega) ?_ (by omega) ?_ (by omega) (by omega) (by omega) kx kr
    · rw [zl_or8 (by omega) (by omega) o1 o2, hb]
    · rcases hfc with rfl | rfl | rfl | rfl
      · simp at hn ⊢; omega
      · simp at hn ⊢; omega
      · simp at hn ⊢; omega
      · simp at hn ⊢; omega
theorem cc_60 (H : zh sc K 1) (hI : zIn s r N) (hp : 0 ≤ p) (hl0 : 0 ≤ l) (hl : l ≤ N) (kx : zs_le r l p c = none → zBad sc P K s) (kr : ∀ i2 e2 b, zs_le r l p c = some (i2, e2, b) → ym_Rt sc P K none (zc s b g c i2 e2 w u q m o)) : ym_Go sc P K (60, 0, [some (ym_P 7), some (ym_I l), none, none, none, none], []) (zc s p g c i e w u q m o) := by
  refine sg_60_0 (zy H) _ (cc_56 (zk H) hI hp hl0 hl (fun h => zbc (kx ?_) (by decide) (by decide)) (fun h o1 o2 => ym_rt_cons (sg_60_5 (zy H) _ _ ?_)))
  · unfold zs_le
    rw [if_neg (by omega)]
  simp only [zc_7_2, zc_7_3, zc_7_4, zc_7_5, zc_7_6, zc_7_8, zc_7_9, zc_8_1, zc_7_7, zc_9, zc_1, zc_2, zc_3, zc_4, zc_5, zc_6, zc_10, zc_11, zc_r, zc_w7_2, zc_w7_3, zc_w7_4, zc_w7_5, zc_w7_6, zc_w7_8, zc_w7_9, zc_w8_1, zc_w7_7, zc_w9, zc_p9]
  have i2 := hI.2.1
  have rt : r p ≤ 132 → r p ≠ 128 → ∀ (b3 : Int64), b3.toInt = (if r p < 128 then r p else 0) → ym_Go sc P K (60, 83, [some (ym_P 7), some (ym_I l), some (ym_I (r p)), some (ym_J b3), none, some (ym_I 128)], []) (zc s (p+1) g c 0 e w u q m o) := by
    intro h1 h2 b3 hb
    have hz : zs_le r l p c = (zs_ll r l (r p - 128).toNat (p + 1) (if r p < 128 then r p else 0)).bind (fun x => if l - x.2 < x.1 then none else some (0, x.2 + x.1, x.2)) := by
      unfold zs_le
      rw [if_pos h, if_neg (by omega), if_neg h2]
    refine cc_60l H hI hl0 hl _ _ _ _ _ _ _ _ _ (r p) h1 o1 (r p - 128).toNat 128 (p + 1) _ b3 rfl (by omega) (by omega) hb (by split <;> omega) ?_ (by omega) (by omega) (by omega) (fun x hx => kx ?_) (fun x b hx hn => kr _ _ _ ?_)
    · by_cases h3 : r p < 128
      · rw [if_pos h3, show (r p - 128).toNat = 0 by omega]
        show r p < 4294967296
        omega
      · rw [if_neg h3]
        exact Int.pow_pos (by decide)
    · rw [hz]
      rcases hx with hx | ⟨hx, hx2⟩
      · rw [hx]
        rfl
      · rw [hx]
        show (if l - x.2 < x.1 then none else _) = _
        rw [if_pos hx2]
    · rw [hz, hx]
      show (if l - b < x then none else some (0, b + x, b)) = _
      rw [if_neg hn]
  refine ⟨⟨by omega, by omega⟩, ⟨by omega, by omega⟩, fun h1 => kx ?_ _ _ _ _ _ _ _ _ _ _, fun h1 => ?_⟩
  · unfold zs_le
    rw [if_pos h, if_pos h1]
  by_cases h2 : r p = 128
  · rw [if_pos h2]
    refine ⟨fun z => absurd z (by decide), fun _ => ⟨fun h3 => kx ?_ _ _ _ _ _ _ _ _ _ _, fun h3 => ⟨fun z => absurd z (by decide), fun _ => ⟨⟨by omega, by omega⟩, kr _ _ _ ?_⟩⟩⟩⟩
    · unfold zs_le
      rw [if_pos h, if_neg (by omega), if_pos h2, if_pos h3]
    · unfold zs_le
      rw [if_pos h, if_neg (by omega), if_pos h2, if_neg h3]
  · rw [if_neg h2]
    refine ⟨fun _ => ⟨fun _ => ⟨⟨by omega, by omega⟩, fun h3 => rt h1 h2 _ ?_, fun h3 => rt h1 h2 _ ?_⟩, fun z => absurd rfl z⟩, fun z => absurd rfl z⟩
    · rw [if_pos h3, zl_i2l ⟨by omega, by omega⟩]
    · rw [if_neg (by omega)]
      rfl
theorem cc_61 (H : zh sc K 0) (hI : zIn s r N) (hp : 0 ≤ p) (hp1 : p ≤ 200) (hl0 : 0 ≤ l) (hl : l ≤ N) {d : Int} (hd : d = 0 ∨ d = 1) (kr : ym_Rt sc P K (some (ym_I (if zs_on r l d p then 1 else 0))) (zc s (if zs_on r l d p then p else zs_sk d p) g c i e w u q m o)) : ym_Go sc P K (61, 0, [some (ym_P 7), some (ym_I l), some (ym_I d)], []) (zc s p g c i e w u q m o) := by
  obtain ⟨i1, i2, i3, i4⟩ := hI
  have hon : ∀ b : Bool, zs_on r l d p = b → ym_Rt sc P K (some (ym_I (if b then 1 else 0))) (zc s (if b then p else zs_sk d p) g c i e w u q m o) := by
    intro b hb
    rw [← hb]
    exact kr
  refine sg_61_0 (zy H) _ _ ?_
  simp only [zc_7_2, zc_7_3, zc_7_4, zc_7_5, zc_7_6, zc_7_8, zc_7_9, zc_8_1, zc_7_7, zc_9, zc_1, zc_2, zc_3, zc_4, zc_5, zc_6, zc_10, zc_11, zc_r, zc_w7_2, zc_w7_3, zc_w7_4, zc_w7_5, zc_w7_6, zc_w7_8, zc_w7_9, zc_w8_1, zc_w7_7, zc_w9, zc_p9]
  refine ⟨⟨by omega, by omega⟩, fun h1 => ⟨⟨by omega, by omega⟩, ?_⟩, fun h1 => ⟨⟨by omega, by omega⟩, ⟨by omega, by omega⟩, fun h2 => ⟨⟨by omega, by omega⟩, ?_⟩, fun h2 => hon true (by unfold zs_on; rw [if_neg h1]; simp; omega)⟩⟩
  · by_cases h2 : p < l
    · have := hon true (by unfold zs_on; rw [if_pos h1]; simp [h2])
      rw [if_pos h2]
      exact this
    · have := hon false (by unfold zs_on; rw [if_pos h1]; simp [h2])
      rw [if_neg h2]
      have e : zs_sk d p = p := if_pos h1
      simp only [e] at this
      exact this
  · rw [i4 p hp (by omega), i4 (p + 1) (by omega) (by omega)]
    refine ⟨fun h3 => ⟨⟨by omega, by omega⟩, fun h4 => ⟨⟨by omega, by omega⟩, ?_⟩, fun h4 => hon true (by unfold zs_on; rw [if_neg h1]; simp [h4])⟩, fun h3 => hon true (by unfold zs_on; rw [if_neg h1]; simp [h3])⟩
    have := hon false (by unfold zs_on; rw [if_neg h1]; simp [h2, h3, h4])
    have e : zs_sk d p = p + 2 := if_neg h1
    simp only [e] at this
    exact this
end
