/-! The reference's reading of identifiers and lengths: own work. -/
def rIn (s : ym_S) (r : Int → Int) (N : Int) : Prop := N ≤ 200 ∧ zs_oct r N ∧ ∀ j, 0 ≤ j → j < N → s.1 26 j = r j
section
variable {sc : xm_S} {P : xm_O → xm_H → Prop} {K : List ym_F} {s : ym_S} {p l g x c e z : Int} {b : Int → Int} {f : Int} {F : Nat → Int → Int} {q : Int} {A B C : Int → Int} {h : Int} {o W : Int → Int} {S : Nat → Int → Int} {r : Int → Int} {N : Int}
theorem rc_101 (H : zh sc K 0) (hI : rIn s r N) (hp : 0 ≤ p) (hl : l ≤ N) (k1 : p < l → 0 ≤ r p → r p < 256 → ym_Rt sc P K (some (ym_I (r p))) (rv s (p+1) l g x c e z b f F q A B C h o W S)) (k2 : l ≤ p → ym_Rt sc P K (some (ym_I 0)) (rv s p l g 1 c e z b f F q A B C h o W S)) : ym_Go sc P K (101, 0, [some (ym_P 12)], []) (rv s p l g x c e z b f F q A B C h o W S) := by
  obtain ⟨i1, i2, i3⟩ := hI
  refine sg_101_0 (zy H) ?_
  simp only [rv_12_20, rv_12_21, rv_12_22, rv_12_23, rv_12_24, rv_12_25, rv_12_26, rv_12_28, rv_12_38, rv_12_42, rv_12_0, rv_12_1, rv_12_15, rv_12_16, rv_12_18, rv_28, rv_37, rv_38, rv_39, rv_40, rv_41, rv_29, rv_30, rv_31, rv_32, rv_33, rv_34, rv_35, rv_36, rv_42, rv_43, rv_44, rv_13, rv_14, rv_15, rv_16, rv_17, rv_18, rv_19, rv_20, rv_21, rv_22, rv_23, rv_24, rv_25, rv_26, rv_27, rv_r, rv_w12_20, rv_w12_21, rv_w12_22, rv_w12_23, rv_w12_24, rv_w12_25, rv_w12_26, rv_w12_28, rv_w12_38, rv_w12_42, rv_w28, rv_w37, rv_w38, rv_w39, rv_w40, rv_w41, rv_w29, rv_w30, rv_w31, rv_w32, rv_w33, rv_w34, rv_w35, rv_w36, rv_w42, rv_w43, rv_w44]
  refine ⟨fun h1 => ⟨⟨by omega, by omega⟩, ⟨by omega, by omega⟩, ?_⟩, k2⟩
  obtain ⟨o1, o2⟩ := i2 p hp (by omega)
  rw [show p + 1 - 1 = p by omega, i3 p hp (by omega)]
  exact k1 h1 o1 o2
/-- the loop is left -/
theorem rc_102e (H : zh sc K 0) {a1 a2 a3 a4 : Int} (h1 : 0 ≤ a1) (h11 : a1 < 256) (h2 : 0 ≤ a2) (h22 : a2 < 300000000) (h4 : 0 ≤ a4) (h44 : a4 < 256) (hx : x = 0 ∨ x = 1) (hex : a4 ≤ 127 ∨ x = 1) (kr : ym_Rt sc P K none (rv s p l (a1 / 64 * 2097152 + a2) (if x = 0 then (if a2 < 31 then 1 else 0) else 1) c e z b f F q A B C h o W S)) : ym_Go sc P K (102, 41, [some (ym_P 12), some (ym_I a1), some (ym_I a2), some (ym_I a3), some (ym_I a4)], []) (rv s p l g x c e z b f F q A B C h o W S) := by
  refine sg_102_41 (zy H) _ _ _ _ ?_
  simp only [rv_12_20, rv_12_21, rv_12_22, rv_12_23, rv_12_24, rv_12_25, rv_12_26, rv_12_28, rv_12_38, rv_12_42, rv_12_0, rv_12_1, rv_12_15, rv_12_16, rv_12_18, rv_28, rv_37, rv_38, rv_39, rv_40, rv_41, rv_29, rv_30, rv_31, rv_32, rv_33, rv_34, rv_35, rv_36, rv_42, rv_43, rv_44, rv_13, rv_14, rv_15, rv_16, rv_17, rv_18, rv_19, rv_20, rv_21, rv_22, rv_23, rv_24, rv_25, rv_26, rv_27, rv_r, rv_w12_20, rv_w12_21, rv_w12_22, rv_w12_23, rv_w12_24, rv_w12_25, rv_w12_26, rv_w12_28, rv_w12_38, rv_w12_42, rv_w28, rv_w37, rv_w38, rv_w39, rv_w40, rv_w41, rv_w29, rv_w30, rv_w31, rv_w32, rv_w33, rv_w34, rv_w35, rv_w36, rv_w42, rv_w43, rv_w44]
  rw [zn_div h1 (by omega) (by decide) (by decide), Int.mul_comm 2097152]
  refine ⟨⟨by omega, by omega⟩, fun hd => ⟨fun h0 => by exfalso; omega, fun h0 => ⟨fun _ => ⟨by omega, by omega⟩, ⟨by omega, by omega⟩, kr⟩⟩, fun hd => ⟨fun _ => ⟨by omega, by omega⟩, ⟨by omega, by omega⟩, kr⟩⟩
theorem rc_102l (H : zh sc K 1) (hI : rIn s r N) (hl : l ≤ N) (c e z : Int) (b : Int → Int) (f : Int) (F : Nat → Int → Int) (q : Int) (A B C : Int → Int) (h : Int) (o W : Int → Int) (S : Nat → Int → Int) {a1 : Int} (h1 : 0 ≤ a1) (h11 : a1 < 256) : ∀ (u : Nat) (k n d p g x : Int), x = 0 → k + u = 3 → 0 ≤ k → 0 ≤ n → n < 2 ^ (21 - 7 * u) → 128 ≤ d → d < 256 → 0 ≤ p → p ≤ 200 → (zs_ln r l u k p n = none → ∀ p2 g2, 0 ≤ p2 → p2 ≤ 200 → 0 ≤ g2 → g2 < 1000000000 → ym_Rt sc P K none (rv s p2 l g2 1 c e z b f F q A B C h o W S)) → (∀ y b2, zs_ln r l u k p n = some (y, b2) → ym_Rt sc P K none (rv s b2 l (a1 / 64 * 2097152 + y) x c e z b f F q A B C h o W S)) → ym_Go sc P K (102, 41, [some (ym_P 12), some (ym_I a1), some (ym_I n), some (ym_I k), some (ym_I d)], []) (rv s p l g x c e z b f F q A B C h o W S)
  | u, k, n, d, p, g, x, hx, hk, hk0, hn0, hn, hd, hd2, hp, hp2, kx, kr => by
    have hN := hI.1
    have hn21 : n < 2097152 := Int.lt_of_lt_of_le hn (by
      have : u = 0 ∨ u = 1 ∨ u = 2 ∨ u = 3 := by omega
      rcases this with rfl | rfl | rfl | rfl <;> decide)
    refine sg_102_41 (zy H) _ _ _ _ ?_
    simp only [rv_12_20, rv_12_21, rv_12_22, rv_12_23, rv_12_24, rv_12_25, rv_12_26, rv_12_28, rv_12_38, rv_12_42, rv_12_0, rv_12_1, rv_12_15, rv_12_16, rv_12_18, rv_28, rv_37, rv_38, rv_39, rv_40, rv_41, rv_29, rv_30, rv_31, rv_32, rv_33, rv_34, rv_35, rv_36, rv_42, rv_43, rv_44, rv_13, rv_14, rv_15, rv_16, rv_17, rv_18, rv_19, rv_20, rv_21, rv_22, rv_23, rv_24, rv_25, rv_26, rv_27, rv_r, rv_w12_20, rv_w12_21, rv_w12_22, rv_w12_23, rv_w12_24, rv_w12_25, rv_w12_26, rv_w12_28, rv_w12_38, rv_w12_42, rv_w28, rv_w37, rv_w38, rv_w39, rv_w40, rv_w41, rv_w29, rv_w30, rv_w31, rv_w32, rv_w33, rv_w34, rv_w35, rv_w36, rv_w42, rv_w43, rv_w44]
    refine ⟨⟨by omega, by omega⟩, fun _ => ⟨fun _ => ?_, fun y => absurd hx y⟩, fun y => by exfalso; omega⟩
    refine rc_101 (zk H) hI hp hl (fun hpl o1 o2 => ym_rt_cons (sg_102_59 (zy H) _ _ _ _ _ ?_)) (fun hpl => ?_)
    · simp only [rv_12_20, rv_12_21, rv_12_22, rv_12_23, rv_12_24, rv_12_25, rv_12_26, rv_12_28, rv_12_38, rv_12_42, rv_12_0, rv_12_1, rv_12_15, rv_12_16, rv_12_18, rv_28, rv_37, rv_38, rv_39, rv_40, rv_41, rv_29, rv_30, rv_31, rv_32, rv_33, rv_34, rv_35, rv_36, rv_42, rv_43, rv_44, rv_13, rv_14, rv_15, rv_16, rv_17, rv_18, rv_19, rv_20, rv_21, rv_22, rv_23, rv_24, rv_25, rv_26, rv_27, rv_r, rv_w12_20, rv_w12_21, rv_w12_22, rv_w12_23, rv_w12_24, rv_w12_25, rv_w12_26, rv_w12_28, rv_w12_38, rv_w12_42, rv_w28, rv_w37, rv_w38, rv_w39, rv_w40, rv_w41, rv_w29, rv_w30, rv_w31, rv_w32, rv_w33, rv_w34, rv_w35, rv_w36, rv_w42, rv_w43, rv_w44]
      refine ⟨fun _ => ⟨⟨by omega, by omega⟩, fun _ => ⟨⟨by omega, by omega⟩, fun _ => ⟨by omega, by omega⟩⟩, fun _ => ⟨by omega, by omega⟩⟩, ?_⟩
      rw [zn_rem o1 (by omega) (by decide) (by decide), if_pos hx]
      by_cases hbad : (k = 0 ∧ r p = 128) ∨ k = 3
      · have e1 : (if k = 0 then (if r p = 128 then (1 : Int) else (if k = 3 then 1 else 0)) else (if k = 3 then (1 : Int) else 0)) = 1 := by
          rcases hbad with ⟨y1, y2⟩ | y1
          · rw [if_pos y1, if_pos y2]
          · rw [if_neg (by omega), if_pos y1]
        rw [e1]
        refine rc_102e (zm H (by omega)) h1 h11 (by omega) (by omega) o1 o2 (Or.inr rfl) (Or.inr rfl) ?_
        rw [if_neg (by decide)]
        refine kx ?_ _ _ (by omega) (by omega) (by omega) (by omega)
        cases u with
        | zero => rfl
        | succ u =>
          unfold zs_ln
          rw [if_pos hpl, if_pos (hbad.elim id (fun y => by exfalso; omega))]
      · have e1 : (if k = 0 then (if r p = 128 then (1 : Int) else (if k = 3 then 1 else 0)) else (if k = 3 then (1 : Int) else 0)) = 0 := by
          by_cases y1 : k = 0
          · rw [if_pos y1, if_neg (fun y => hbad (Or.inl ⟨y1, y⟩)), if_neg (by omega)]
          · rw [if_neg y1, if_neg (fun y => hbad (Or.inr y))]
        rw [e1]
        obtain ⟨u2, rfl⟩ : ∃ u2, u = u2 + 1 := ⟨u - 1, by omega⟩
        have hu : u2 = 0 ∨ u2 = 1 ∨ u2 = 2 := by omega
        have hn3 : n * 128 + r p % 128 < 2 ^ (21 - 7 * u2) := by
          rcases hu with rfl | rfl | rfl
          · simp at hn ⊢; omega
          · simp at hn ⊢; omega
          · simp at hn ⊢; omega
        unfold zs_ln at kx kr
        rw [if_pos hpl, if_neg (fun y => hbad (Or.inl y))] at kx kr
        by_cases h4 : r p < 128
        · rw [if_pos h4] at kx kr
          refine rc_102e (zm H (by omega)) h1 h11 (by omega) (by omega) o1 o2 (Or.inl rfl) (Or.inl (by omega)) ?_
          rw [if_pos rfl]
          by_cases h5 : n * 128 + r p % 128 < 31
          · rw [if_pos h5] at kx ⊢
            exact kx rfl _ _ (by omega) (by omega) (by omega) (by omega)
          · rw [if_neg h5] at kr ⊢
            rw [hx] at kr
            exact kr _ _ rfl
        · rw [if_neg h4] at kx kr
          rw [hx] at kr
          exact rc_102l H hI hl c e z b f F q A B C h o W S h1 h11 u2 (k + 1) _ _ (p + 1) _ 0 rfl (by omega) (by omega) (by omega) hn3 (by omega) (by omega) (by omega) (by omega) kx kr
    · obtain ⟨x1, hx1⟩ : ∃ x1 : Int, x1 = 1 := ⟨1, rfl⟩
      rw [← hx1]
      refine ym_rt_cons (sg_102_59 (zy H) _ _ _ _ _ ?_)
      simp only [rv_12_20, rv_12_21, rv_12_22, rv_12_23, rv_12_24, rv_12_25, rv_12_26, rv_12_28, rv_12_38, rv_12_42, rv_12_0, rv_12_1, rv_12_15, rv_12_16, rv_12_18, rv_28, rv_37, rv_38, rv_39, rv_40, rv_41, rv_29, rv_30, rv_31, rv_32, rv_33, rv_34, rv_35, rv_36, rv_42, rv_43, rv_44, rv_13, rv_14, rv_15, rv_16, rv_17, rv_18, rv_19, rv_20, rv_21, rv_22, rv_23, rv_24, rv_25, rv_26, rv_27, rv_r, rv_w12_20, rv_w12_21, rv_w12_22, rv_w12_23, rv_w12_24, rv_w12_25, rv_w12_26, rv_w12_28, rv_w12_38, rv_w12_42, rv_w28, rv_w37, rv_w38, rv_w39, rv_w40, rv_w41, rv_w29, rv_w30, rv_w31, rv_w32, rv_w33, rv_w34, rv_w35, rv_w36, rv_w42, rv_w43, rv_w44]
      refine ⟨fun y => by exfalso; omega, ?_⟩
      rw [zn_rem (by decide) (by decide) (by decide) (by decide), if_neg (show ¬ x1 = 0 by omega)]
      refine rc_102e (zm H (by omega)) h1 h11 (by omega) (by omega) (by decide) (by decide) (Or.inr rfl) (Or.inr rfl) ?_
      rw [if_neg (by decide)]
      refine kx ?_ _ _ (by omega) (by omega) (by omega) (by omega)
      cases u with
      | zero => rfl
      | succ u =>
        unfold zs_ln
        rw [if_neg (by omega)]
theorem rc_102 (H : zh sc K 2) (hI : rIn s r N) (hp : 0 ≤ p) (hp2 : p ≤ 200) (hl : l ≤ N) (hx : x = 0) (kx : zs_id r l p = none → ∀ p2 c2 g2, 0 ≤ p2 → p2 ≤ 200 → (c2 = 0 ∨ c2 = 1) → 0 ≤ g2 → g2 < 1000000000 → ym_Rt sc P K none (rv s p2 l g2 1 c2 e z b f F q A B C h o W S)) (kr : ∀ c2 g2 b2, zs_id r l p = some (c2, g2, b2) → ym_Rt sc P K none (rv s b2 l g2 x c2 e z b f F q A B C h o W S)) : ym_Go sc P K (102, 0, [some (ym_P 12), none, none, none, none], []) (rv s p l g x c e z b f F q A B C h o W S) := by
  have hN := hI.1
  refine sg_102_0 (zy H) (rc_101 (zm (zk H) (by omega)) hI hp hl (fun z o1 o2 => ym_rt_cons (sg_102_4 (zy H) _ ?_)) (fun z => ym_rt_cons (sg_102_4 (zy H) _ ?_)))
  · simp only [rv_12_20, rv_12_21, rv_12_22, rv_12_23, rv_12_24, rv_12_25, rv_12_26, rv_12_28, rv_12_38, rv_12_42, rv_12_0, rv_12_1, rv_12_15, rv_12_16, rv_12_18, rv_28, rv_37, rv_38, rv_39, rv_40, rv_41, rv_29, rv_30, rv_31, rv_32, rv_33, rv_34, rv_35, rv_36, rv_42, rv_43, rv_44, rv_13, rv_14, rv_15, rv_16, rv_17, rv_18, rv_19, rv_20, rv_21, rv_22, rv_23, rv_24, rv_25, rv_26, rv_27, rv_r, rv_w12_20, rv_w12_21, rv_w12_22, rv_w12_23, rv_w12_24, rv_w12_25, rv_w12_26, rv_w12_28, rv_w12_38, rv_w12_42, rv_w28, rv_w37, rv_w38, rv_w39, rv_w40, rv_w41, rv_w29, rv_w30, rv_w31, rv_w32, rv_w33, rv_w34, rv_w35, rv_w36, rv_w42, rv_w43, rv_w44]
    rw [zn_a32 o1 o2, zn_31 o1 (by omega), zn_div o1 (by omega) (by decide) (by decide), Int.mul_comm 2097152]
    refine ⟨fun h2 => ?_, fun h2 => ⟨⟨by omega, by omega⟩, kr _ _ _ ?_⟩⟩
    · refine rc_102l (zm H (by omega)) hI hl _ _ _ _ _ _ _ _ _ _ _ _ _ _ o1 o2 3 0 0 128 (p + 1) _ x hx (by omega) (by omega) (by omega) (by decide) (by omega) (by omega) (by omega) (by omega) (fun h3 p2 g2 y1 y2 y3 y4 => kx ?_ p2 _ g2 y1 y2 (by omega) y3 y4) (fun y b2 h3 => kr _ _ _ ?_)
      · unfold zs_id
        rw [if_pos z, if_pos h2, h3]
        rfl
      · unfold zs_id
        rw [if_pos z, if_pos h2, h3]
        rfl
    · unfold zs_id
      rw [if_pos z, if_neg h2]
  · simp only [rv_12_20, rv_12_21, rv_12_22, rv_12_23, rv_12_24, rv_12_25, rv_12_26, rv_12_28, rv_12_38, rv_12_42, rv_12_0, rv_12_1, rv_12_15, rv_12_16, rv_12_18, rv_28, rv_37, rv_38, rv_39, rv_40, rv_41, rv_29, rv_30, rv_31, rv_32, rv_33, rv_34, rv_35, rv_36, rv_42, rv_43, rv_44, rv_13, rv_14, rv_15, rv_16, rv_17, rv_18, rv_19, rv_20, rv_21, rv_22, rv_23, rv_24, rv_25, rv_26, rv_27, rv_r, rv_w12_20, rv_w12_21, rv_w12_22, rv_w12_23, rv_w12_24, rv_w12_25, rv_w12_26, rv_w12_28, rv_w12_38, rv_w12_42, rv_w28, rv_w37, rv_w38, rv_w39, rv_w40, rv_w41, rv_w29, rv_w30, rv_w31, rv_w32, rv_w33, rv_w34, rv_w35, rv_w36, rv_w42, rv_w43, rv_w44]
    rw [zn_a32 (by decide) (by decide), zn_31 (by decide) (by decide), zn_div (by decide) (by decide) (by decide) (by decide)]
    refine ⟨fun h2 => absurd h2 (by decide), fun h2 => ⟨by decide, kx ?_ _ _ _ hp hp2 (Or.inl (by decide)) (by decide) (by decide)⟩⟩
    unfold zs_id
    rw [if_neg (by omega)]
theorem rc_102b (H : zh sc K 2) (hI : rIn s r N) (hp : 0 ≤ p) (hp2 : p ≤ 200) (hl : l ≤ N) (hx : x = 1) (kx : ∀ p2 c2 g2, 0 ≤ p2 → p2 ≤ 200 → (c2 = 0 ∨ c2 = 1) → 0 ≤ g2 → g2 < 1000000000 → ym_Rt sc P K none (rv s p2 l g2 1 c2 e z b f F q A B C h o W S)) : ym_Go sc P K (102, 0, [some (ym_P 12), none, none, none, none], []) (rv s p l g x c e z b f F q A B C h o W S) := by
  have hN := hI.1
  refine sg_102_0 (zy H) (rc_101 (zm (zk H) (by omega)) hI hp hl (fun z o1 o2 => ym_rt_cons (sg_102_4 (zy H) _ ?_)) (fun z => ym_rt_cons (sg_102_4 (zy H) _ ?_)))
  · simp only [rv_12_20, rv_12_21, rv_12_22, rv_12_23, rv_12_24, rv_12_25, rv_12_26, rv_12_28, rv_12_38, rv_12_42, rv_12_0, rv_12_1, rv_12_15, rv_12_16, rv_12_18, rv_28, rv_37, rv_38, rv_39, rv_40, rv_41, rv_29, rv_30, rv_31, rv_32, rv_33, rv_34, rv_35, rv_36, rv_42, rv_43, rv_44, rv_13, rv_14, rv_15, rv_16, rv_17, rv_18, rv_19, rv_20, rv_21, rv_22, rv_23, rv_24, rv_25, rv_26, rv_27, rv_r, rv_w12_20, rv_w12_21, rv_w12_22, rv_w12_23, rv_w12_24, rv_w12_25, rv_w12_26, rv_w12_28, rv_w12_38, rv_w12_42, rv_w28, rv_w37, rv_w38, rv_w39, rv_w40, rv_w41, rv_w29, rv_w30, rv_w31, rv_w32, rv_w33, rv_w34, rv_w35, rv_w36, rv_w42, rv_w43, rv_w44]
    rw [zn_a32 o1 o2, zn_31 o1 (by omega), zn_div o1 (by omega) (by decide) (by decide), Int.mul_comm 2097152]
    refine ⟨fun h2 => ?_, fun h2 => ⟨⟨by omega, by omega⟩, by rw [hx]; exact kx _ _ _ (by omega) (by omega) (by omega) (by omega) (by omega)⟩⟩
    refine rc_102e (zm H (by omega)) o1 o2 (by decide) (by decide) (by decide) (by decide) (Or.inr hx) (Or.inr hx) ?_
    rw [if_neg (by omega)]
    exact kx _ _ _ (by omega) (by omega) (by omega) (by omega) (by omega)
  · simp only [rv_12_20, rv_12_21, rv_12_22, rv_12_23, rv_12_24, rv_12_25, rv_12_26, rv_12_28, rv_12_38, rv_12_42, rv_12_0, rv_12_1, rv_12_15, rv_12_16, rv_12_18, rv_28, rv_37, rv_38, rv_39, rv_40, rv_41, rv_29, rv_30, rv_31, rv_32, rv_33, rv_34, rv_35, rv_36, rv_42, rv_43, rv_44, rv_13, rv_14, rv_15, rv_16, rv_17, rv_18, rv_19, rv_20, rv_21, rv_22, rv_23, rv_24, rv_25, rv_26, rv_27, rv_r, rv_w12_20, rv_w12_21, rv_w12_22, rv_w12_23, rv_w12_24, rv_w12_25, rv_w12_26, rv_w12_28, rv_w12_38, rv_w12_42, rv_w28, rv_w37, rv_w38, rv_w39, rv_w40, rv_w41, rv_w29, rv_w30, rv_w31, rv_w32, rv_w33, rv_w34, rv_w35, rv_w36, rv_w42, rv_w43, rv_w44]
    rw [zn_a32 (by decide) (by decide), zn_31 (by decide) (by decide), zn_div (by decide) (by decide) (by decide) (by decide)]
    exact ⟨fun h2 => absurd h2 (by decide), fun h2 => ⟨by decide, kx _ _ _ hp hp2 (Or.inl (by decide)) (by decide) (by decide)⟩⟩
theorem rc_103 (H : zh sc K 3) (hI : rIn s r N) (hp : 0 ≤ p) (hp2 : p ≤ 200) (hl : l ≤ N) (hx : x = 0 ∨ x = 1) (k1 : x = 0 → ∀ c2 g2 b2, zs_id r l p = some (c2, g2, b2) → ym_Rt sc P K (some (ym_I g2)) (rv s p l g2 x c2 e z b f F q A B C h o W S)) (k2 : l ≤ p → ym_Rt sc P K (some (ym_I (-1))) (rv s p l g x c e z b f F q A B C h o W S)) (k3 : p < l → (x = 1 ∨ zs_id r l p = none) → ∀ c2 g2, (c2 = 0 ∨ c2 = 1) → 0 ≤ g2 → g2 < 1000000000 → ym_Rt sc P K (some (ym_I g2)) (rv s p l g2 1 c2 e z b f F q A B C h o W S)) : ym_Go sc P K (103, 0, [some (ym_P 12), none], []) (rv s p l g x c e z b f F q A B C h o W S) := by
  refine sg_103_0 (zy H) ?_
  simp only [rv_12_20, rv_12_21, rv_12_22, rv_12_23, rv_12_24, rv_12_25, rv_12_26, rv_12_28, rv_12_38, rv_12_42, rv_12_0, rv_12_1, rv_12_15, rv_12_16, rv_12_18, rv_28, rv_37, rv_38, rv_39, rv_40, rv_41, rv_29, rv_30, rv_31, rv_32, rv_33, rv_34, rv_35, rv_36, rv_42, rv_43, rv_44, rv_13, rv_14, rv_15, rv_16, rv_17, rv_18, rv_19, rv_20, rv_21, rv_22, rv_23, rv_24, rv_25, rv_26, rv_27, rv_r, rv_w12_20, rv_w12_21, rv_w12_22, rv_w12_23, rv_w12_24, rv_w12_25, rv_w12_26, rv_w12_28, rv_w12_38, rv_w12_42, rv_w28, rv_w37, rv_w38, rv_w39, rv_w40, rv_w41, rv_w29, rv_w30, rv_w31, rv_w32, rv_w33, rv_w34, rv_w35, rv_w36, rv_w42, rv_w43, rv_w44]
  refine ⟨fun h1 => ?_, k2⟩
  rcases hx with hx | hx
  · refine rc_102 (zk H) hI hp hp2 hl hx (fun h2 p2 c2 g2 y1 y2 y3 y4 y5 => ym_rt_cons (sg_103_22 (zy H) _ ?_)) (fun c2 g2 b2 h2 => ym_rt_cons (sg_103_22 (zy H) _ ?_))
    · simp only [rv_12_20, rv_12_21, rv_12_22, rv_12_23, rv_12_24, rv_12_25, rv_12_26, rv_12_28, rv_12_38, rv_12_42, rv_12_0, rv_12_1, rv_12_15, rv_12_16, rv_12_18, rv_28, rv_37, rv_38, rv_39, rv_40, rv_41, rv_29, rv_30, rv_31, rv_32, rv_33, rv_34, rv_35, rv_36, rv_42, rv_43, rv_44, rv_13, rv_14, rv_15, rv_16, rv_17, rv_18, rv_19, rv_20, rv_21, rv_22, rv_23, rv_24, rv_25, rv_26, rv_27, rv_r, rv_w12_20, rv_w12_21, rv_w12_22, rv_w12_23, rv_w12_24, rv_w12_25, rv_w12_26, rv_w12_28, rv_w12_38, rv_w12_42, rv_w28, rv_w37, rv_w38, rv_w39, rv_w40, rv_w41, rv_w29, rv_w30, rv_w31, rv_w32, rv_w33, rv_w34, rv_w35, rv_w36, rv_w42, rv_w43, rv_w44]
      exact ⟨⟨by omega, by omega⟩, k3 h1 (Or.inr h2) c2 g2 y3 y4 y5⟩
    · simp only [rv_12_20, rv_12_21, rv_12_22, rv_12_23, rv_12_24, rv_12_25, rv_12_26, rv_12_28, rv_12_38, rv_12_42, rv_12_0, rv_12_1, rv_12_15, rv_12_16, rv_12_18, rv_28, rv_37, rv_38, rv_39, rv_40, rv_41, rv_29, rv_30, rv_31, rv_32, rv_33, rv_34, rv_35, rv_36, rv_42, rv_43, rv_44, rv_13, rv_14, rv_15, rv_16, rv_17, rv_18, rv_19, rv_20, rv_21, rv_22, rv_23, rv_24, rv_25, rv_26, rv_27, rv_r, rv_w12_20, rv_w12_21, rv_w12_22, rv_w12_23, rv_w12_24, rv_w12_25, rv_w12_26, rv_w12_28, rv_w12_38, rv_w12_42, rv_w28, rv_w37, rv_w38, rv_w39, rv_w40, rv_w41, rv_w29, rv_w30, rv_w31, rv_w32, rv_w33, rv_w34, rv_w35, rv_w36, rv_w42, rv_w43, rv_w44]
      exact ⟨⟨by omega, by omega⟩, k1 hx c2 g2 b2 h2⟩
  · refine rc_102b (zk H) hI hp hp2 hl hx (fun p2 c2 g2 y1 y2 y3 y4 y5 => ym_rt_cons (sg_103_22 (zy H) _ ?_))
    simp only [rv_12_20, rv_12_21, rv_12_22, rv_12_23, rv_12_24, rv_12_25, rv_12_26, rv_12_28, rv_12_38, rv_12_42, rv_12_0, rv_12_1, rv_12_15, rv_12_16, rv_12_18, rv_28, rv_37, rv_38, rv_39, rv_40, rv_41, rv_29, rv_30, rv_31, rv_32, rv_33, rv_34, rv_35, rv_36, rv_42, rv_43, rv_44, rv_13, rv_14, rv_15, rv_16, rv_17, rv_18, rv_19, rv_20, rv_21, rv_22, rv_23, rv_24, rv_25, rv_26, rv_27, rv_r, rv_w12_20, rv_w12_21, rv_w12_22, rv_w12_23, rv_w12_24, rv_w12_25, rv_w12_26, rv_w12_28, rv_w12_38, rv_w12_42, rv_w28, rv_w37, rv_w38, rv_w39, rv_w40, rv_w41, rv_w29, rv_w30, rv_w31, rv_w32, rv_w33, rv_w34, rv_w35, rv_w36, rv_w42, rv_w43, rv_w44]
    exact ⟨⟨by omega, by omega⟩, k3 h1 (Or.inl hx) c2 g2 y3 y4 y5⟩
theorem rc_105 (H : zh sc K 0) (hI : rIn s r N) (hp : 0 ≤ p) (hp2 : p ≤ 200) (hl : l ≤ N) (hl0 : 0 ≤ l) {a ind : Int} (hi : ind = 0 ∨ ind = 1) (ha : a = if ind = 0 then l else -1) (kr : ym_Rt sc P K (some (ym_I (if zs_on r l ind p then 1 else 0))) (rv s p l g x c e z b f F q A B C h o W S)) : ym_Go sc P K (105, 0, [some (ym_P 12), some (ym_I a)], []) (rv s p l g x c e z b f F q A B C h o W S) := by
  obtain ⟨i1, i2, i3⟩ := hI
  refine sg_105_0 (zy H) _ ?_
  simp only [rv_12_20, rv_12_21, rv_12_22, rv_12_23, rv_12_24, rv_12_25, rv_12_26, rv_12_28, rv_12_38, rv_12_42, rv_12_0, rv_12_1, rv_12_15, rv_12_16, rv_12_18, rv_28, rv_37, rv_38, rv_39, rv_40, rv_41, rv_29, rv_30, rv_31, rv_32, rv_33, rv_34, rv_35, rv_36, rv_42, rv_43, rv_44, rv_13, rv_14, rv_15, rv_16, rv_17, rv_18, rv_19, rv_20, rv_21, rv_22, rv_23, rv_24, rv_25, rv_26, rv_27, rv_r, rv_w12_20, rv_w12_21, rv_w12_22, rv_w12_23, rv_w12_24, rv_w12_25, rv_w12_26, rv_w12_28, rv_w12_38, rv_w12_42, rv_w28, rv_w37, rv_w38, rv_w39, rv_w40, rv_w41, rv_w29, rv_w30, rv_w31, rv_w32, rv_w33, rv_w34, rv_w35, rv_w36, rv_w42, rv_w43, rv_w44]
  have hon : ∀ v : Int, (if zs_on r l ind p then (1 : Int) else 0) = v → ym_Rt sc P K (some (ym_I v)) (rv s p l g x c e z b f F q A B C h o W S) := fun v hv => hv ▸ kr
  rcases hi with hi | hi
  · rw [if_pos hi] at ha
    refine ⟨⟨⟨by omega, by omega⟩, fun y => by exfalso; omega, fun _ => ⟨by omega, by omega⟩⟩, hon _ ?_⟩
    rw [if_neg (show ¬ a < 0 by omega), ha]
    unfold zs_on
    rw [if_pos hi]
    by_cases h1 : p < l <;> simp [h1]
  · rw [if_neg (by omega)] at ha
    refine ⟨⟨⟨by omega, by omega⟩, fun _ => ⟨⟨by omega, by omega⟩, fun _ => ⟨⟨by omega, by omega⟩, fun _ => ⟨by omega, by omega⟩⟩⟩, fun y => by exfalso; omega⟩, hon _ ?_⟩
    rw [if_pos (show a < 0 by omega)]
    unfold zs_on
    rw [if_neg (show ¬ ind = 0 by omega)]
    by_cases h1 : p + 1 < l
    · rw [if_pos h1, i3 p hp (by omega), i3 (p + 1) (by omega) (by omega)]
      by_cases h2 : r p = 0
      · by_cases h3 : r (p + 1) = 0
        · simp [h1, h2, h3]
        · simp [h1, h2, h3]
      · simp [h1, h2]
    · rw [if_neg h1]
      simp [h1]
end
