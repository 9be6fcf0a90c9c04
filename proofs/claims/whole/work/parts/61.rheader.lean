/-! The reference's header: own work. -/
def zs_h (r : Int → Int) (l p w : Int) : Option (Int × Int × Int × Int) := (zs_id r l p).bind (fun y => if y.2.1 = w then (zs_le r l y.2.2 y.1).map (fun t => (y.1, t)) else none)
section
variable {sc : xm_S} {P : xm_O → xm_H → Prop} {K : List ym_F} {s : ym_S} {p l g x c e z : Int} {b : Int → Int} {f : Int} {F : Nat → Int → Int} {q : Int} {A B C : Int → Int} {h : Int} {o W : Int → Int} {S : Nat → Int → Int} {r : Int → Int} {N : Int}
theorem rc_104e (H : zh sc K 0) {a1 a2 a5 n : Int} {b3 : Int64} (hn : b3.toInt = n) (hn0 : 0 ≤ n) (hp : 0 ≤ p) (hp2 : p ≤ 200) (hl0 : 0 ≤ l) (hl : l ≤ 200) (h2 : ym_in a2) (h5 : ym_in a5) (hx : x = 0 ∨ x = 1) (hex : a2 ≤ a5 ∨ x = 1) (kr : ∀ x2 e2, x2 = (if x = 0 then (if l - p < n then 1 else 0) else 1) → e2 = (if x2 = 0 then p + n else p) → ym_Rt sc P K none (rv s p l g x2 c e2 z b f F q A B C h o W S)) : ym_Go sc P K (104, 109, [some (ym_P 12), some (ym_I a1), some (ym_I a2), some (ym_J b3), none, some (ym_I a5)], []) (rv s p l g x c e z b f F q A B C h o W S) := by
  refine sg_104_109 (zy H) _ _ _ _ ?_
  simp only [rv_12_20, rv_12_21, rv_12_22, rv_12_23, rv_12_24, rv_12_25, rv_12_26, rv_12_28, rv_12_38, rv_12_42, rv_12_0, rv_12_1, rv_12_15, rv_12_16, rv_12_18, rv_28, rv_37, rv_38, rv_39, rv_40, rv_41, rv_29, rv_30, rv_31, rv_32, rv_33, rv_34, rv_35, rv_36, rv_42, rv_43, rv_44, rv_13, rv_14, rv_15, rv_16, rv_17, rv_18, rv_19, rv_20, rv_21, rv_22, rv_23, rv_24, rv_25, rv_26, rv_27, rv_r, rv_w12_20, rv_w12_21, rv_w12_22, rv_w12_23, rv_w12_24, rv_w12_25, rv_w12_26, rv_w12_28, rv_w12_38, rv_w12_42, rv_w28, rv_w37, rv_w38, rv_w39, rv_w40, rv_w41, rv_w29, rv_w30, rv_w31, rv_w32, rv_w33, rv_w34, rv_w35, rv_w36, rv_w42, rv_w43, rv_w44]
  have e1 : (ym_i2l (l - p)).toInt = l - p := zl_i2l ⟨by omega, by omega⟩
  have e0 : (if x = 0 then (if 0 < ym_cmp b3 (ym_i2l (l - p)) then (1 : Int) else 0) else 1) = (if x = 0 then (if l - p < n then 1 else 0) else 1) := by
    by_cases hx0 : x = 0
    · rw [if_pos hx0, if_pos hx0]
      by_cases h1 : l - p < n
      · rw [if_pos h1, if_pos (zl_gt.mpr (by rw [e1, hn]; exact h1))]
      · rw [if_neg h1, if_neg (fun y => h1 (by have := zl_gt.mp y; rw [e1, hn] at this; exact this))]
    · rw [if_neg hx0, if_neg hx0]
  rw [e0]
  obtain ⟨x2, hx2⟩ : ∃ x2, x2 = (if x = 0 then (if l - p < n then (1 : Int) else 0) else 1) := ⟨_, rfl⟩
  rw [← hx2]
  have e3 : (if x2 = 0 then p + ym_l2i b3 else p) = (if x2 = 0 then p + n else p) := by
    by_cases h1 : x2 = 0
    · rw [if_pos h1, if_pos h1]
      have : n ≤ l - p := by
        rw [hx2] at h1
        split at h1
        · split at h1 <;> omega
        · omega
      rw [zl_l2i (by omega) (by omega), hn]
    · rw [if_neg h1, if_neg h1]
  rw [e3]
  have hb : -2147483648 ≤ (if x2 = 0 then p + n else p) ∧ (if x2 = 0 then p + n else p) < 2147483648 := by
    by_cases h1 : x2 = 0
    · rw [if_pos h1]
      have : n ≤ l - p := by
        rw [hx2] at h1
        split at h1
        · split at h1 <;> omega
        · omega
      omega
    · rw [if_neg h1]
      omega
  have fin := kr x2 _ hx2 rfl
  exact ⟨h5, h2, fun h1 => ⟨fun y => by exfalso; omega, fun y => ⟨hb, fin⟩⟩, fun _ => ⟨hb, fin⟩⟩
theorem rc_104l (H : zh sc K 1) (hI : rIn s r N) (hl0 : 0 ≤ l) (hl : l ≤ N) (g c z : Int) (b : Int → Int) (f : Int) (F : Nat → Int → Int) (q : Int) (A B C : Int → Int) (h : Int) (o W : Int → Int) (S : Nat → Int → Int) (a1 a2 : Int) (ha2 : a2 ≤ 132) (ha20 : 0 ≤ a2) : ∀ (u : Nat) (k p n e x : Int) (b3 : Int64), x = 0 → (a2 - k).toNat = u → 128 ≤ k → k ≤ 132 → b3.toInt = n → 0 ≤ n → n < 256 ^ (4 - u) → u ≤ 4 → 0 ≤ p → p ≤ 200 → (∀ y, (zs_ll r l u p n = none ∨ (zs_ll r l u p n = some y ∧ l - y.2 < y.1)) → ∀ p2 e2, 0 ≤ p2 → p2 ≤ 200 → -1 ≤ e2 → e2 ≤ 200 → ym_Rt sc P K none (rv s p2 l g 1 c e2 z b f F q A B C h o W S)) → (∀ y b2, zs_ll r l u p n = some (y, b2) → ¬ l - b2 < y → ym_Rt sc P K none (rv s b2 l g x c (b2+y) z b f F q A B C h o W S)) → ym_Go sc P K (104, 109, [some (ym_P 12), some (ym_I a1), some (ym_I a2), some (ym_J b3), none, some (ym_I k)], []) (rv s p l g x c e z b f F q A B C h o W S)
  | 0, k, p, n, e, x, b3, hx, hu, hk, hk2, hb, hn0, hn, hu4, hp, hp2, kx, kr => by
    have hN := hI.1
    refine rc_104e (zm H (by omega)) hb hn0 hp hp2 hl0 (by omega) ⟨by omega, by omega⟩ ⟨by omega, by omega⟩ (Or.inl hx) (Or.inl (by omega)) (fun x2 e2 y1 y2 => ?_)
    rw [if_pos hx] at y1
    by_cases h1 : l - p < n
    · rw [if_pos h1] at y1
      rw [if_neg (by omega)] at y2
      rw [y1, y2]
      exact kx (n, p) (Or.inr ⟨rfl, h1⟩) p p hp hp2 (by omega) hp2
    · rw [if_neg h1] at y1
      rw [if_pos y1] at y2
      rw [y1, y2, ← hx]
      exact kr n p rfl h1
  | u + 1, k, p, n, e, x, b3, hx, hu, hk, hk2, hb, hn0, hn, hu4, hp, hp2, kx, kr => by
    have hN := hI.1
    have hfc : u = 0 ∨ u = 1 ∨ u = 2 ∨ u = 3 := by omega
    have hb4 : n < 4294967296 := Int.lt_of_lt_of_le hn (by rcases hfc with rfl | rfl | rfl | rfl <;> decide)
    refine sg_104_109 (zy H) _ _ _ _ ?_
    simp only [rv_12_20, rv_12_21, rv_12_22, rv_12_23, rv_12_24, rv_12_25, rv_12_26, rv_12_28, rv_12_38, rv_12_42, rv_12_0, rv_12_1, rv_12_15, rv_12_16, rv_12_18, rv_28, rv_37, rv_38, rv_39, rv_40, rv_41, rv_29, rv_30, rv_31, rv_32, rv_33, rv_34, rv_35, rv_36, rv_42, rv_43, rv_44, rv_13, rv_14, rv_15, rv_16, rv_17, rv_18, rv_19, rv_20, rv_21, rv_22, rv_23, rv_24, rv_25, rv_26, rv_27, rv_r, rv_w12_20, rv_w12_21, rv_w12_22, rv_w12_23, rv_w12_24, rv_w12_25, rv_w12_26, rv_w12_28, rv_w12_38, rv_w12_42, rv_w28, rv_w37, rv_w38, rv_w39, rv_w40, rv_w41, rv_w29, rv_w30, rv_w31, rv_w32, rv_w33, rv_w34, rv_w35, rv_w36, rv_w42, rv_w43, rv_w44]
    refine ⟨⟨by omega, by omega⟩, ⟨by omega, by omega⟩, fun _ => ⟨fun _ => ?_, fun y => absurd hx y⟩, fun y => by exfalso; omega⟩
    refine rc_101 (zk H) hI hp hl (fun h2 o1 o2 => ym_rt_cons (sg_104_131 (zy H) _ _ _ _ _ _ ?_)) (fun h2 => ym_rt_cons (sg_104_131 (zy H) _ _ _ _ _ _ ?_))
    · have e1 : zs_ll r l (u + 1) p n = zs_ll r l u (p + 1) (n * 256 + r p) := by
        rw [zs_ll, if_pos h2]
      rw [e1] at kx kr
      refine rc_104l H hI hl0 hl g c z b f F q A B C h o W S a1 a2 ha2 ha20 u (k + 1) (p + 1) (n * 256 + r p) e x _ hx (by omega) (by omega) (by omega) ?_ (by omega) ?_ (by omega) (by omega) (by omega) kx kr
      · rw [zl_mul (by omega) (by omega) o1 o2, hb]
      · rcases hfc with rfl | rfl | rfl | rfl
        · simp at hn ⊢; omega
        · simp at hn ⊢; omega
        · simp at hn ⊢; omega
        · simp at hn ⊢; omega
    · have hb2 : (b3 * 256 + ym_i2l 0).toInt = n * 256 + 0 := by rw [zl_mul (by omega) (by omega) (by decide) (by decide), hb]
      refine rc_104e (zm H (by omega)) hb2 (by omega) hp hp2 hl0 (by omega) ⟨by omega, by omega⟩ ⟨by omega, by omega⟩ (Or.inr rfl) (Or.inr rfl) (fun x2 e2 y1 y2 => ?_)
      rw [if_neg (by decide)] at y1
      rw [if_neg (by omega)] at y2
      rw [y1, y2]
      refine kx (0, 0) (Or.inl ?_) p p hp hp2 (by omega) hp2
      unfold zs_ll
      rw [if_neg (by omega)]
theorem rc_104 (H : zh sc K 3) (hI : rIn s r N) (hp : 0 ≤ p) (hp2 : p ≤ 200) (hl0 : 0 ≤ l) (hl : l ≤ N) (hx : x = 0 ∨ x = 1) {w : Int} (hw : ym_in w) (kx : (x = 1 ∨ zs_h r l p w = none) → ∀ p2 g2 c2 e2, 0 ≤ p2 → p2 ≤ 200 → 0 ≤ g2 → g2 < 1000000000 → (c2 = 0 ∨ c2 = 1) → -1 ≤ e2 → e2 ≤ 200 → ym_Rt sc P K none (rv s p2 l g2 1 c2 e2 z b f F q A B C h o W S)) (kr : x = 0 → ∀ c2 i2 e2 b2, zs_h r l p w = some (c2, i2, e2, b2) → ym_Rt sc P K none (rv s b2 l w x c2 (if i2 = 0 then e2 else -1) z b f F q A B C h o W S)) : ym_Go sc P K (104, 0, [some (ym_P 12), some (ym_I w), none, none, none, none], []) (rv s p l g x c e z b f F q A B C h o W S) := by
  have hN := hI.1
  -- once bad, always bad
  have bad : ∀ p2 c2 g2 x2, x2 = 1 → (x = 1 ∨ zs_h r l p w = none) → 0 ≤ p2 → p2 ≤ 200 → (c2 = 0 ∨ c2 = 1) → 0 ≤ g2 → g2 < 1000000000 → ym_Go sc P ((104, 29, [some (ym_P 12), some (ym_I w), none, none, none, none], []) :: K) (101, 0, [some (ym_P 12)], []) (rv s p2 l g2 x2 c2 e z b f F q A B C h o W S) := by
    intro p2 c2 g2 x2 hx2 hb y1 y2 y3 y4 y5
    have fin : ∀ p3 x3 t0, x3 = 1 → 0 ≤ p3 → p3 ≤ 200 → ym_Go sc P K (104, 32, [some (ym_P 12), some (ym_I w), none, none, none, none], [ym_I t0]) (rv s p3 l g2 x3 c2 e z b f F q A B C h o W S) := by
      intro p3 x3 t0 hx3 w1 w2
      refine sg_104_32 (zy H) _ _ ?_
      simp only [rv_12_20, rv_12_21, rv_12_22, rv_12_23, rv_12_24, rv_12_25, rv_12_26, rv_12_28, rv_12_38, rv_12_42, rv_12_0, rv_12_1, rv_12_15, rv_12_16, rv_12_18, rv_28, rv_37, rv_38, rv_39, rv_40, rv_41, rv_29, rv_30, rv_31, rv_32, rv_33, rv_34, rv_35, rv_36, rv_42, rv_43, rv_44, rv_13, rv_14, rv_15, rv_16, rv_17, rv_18, rv_19, rv_20, rv_21, rv_22, rv_23, rv_24, rv_25, rv_26, rv_27, rv_r, rv_w12_20, rv_w12_21, rv_w12_22, rv_w12_23, rv_w12_24, rv_w12_25, rv_w12_26, rv_w12_28, rv_w12_38, rv_w12_42, rv_w28, rv_w37, rv_w38, rv_w39, rv_w40, rv_w41, rv_w29, rv_w30, rv_w31, rv_w32, rv_w33, rv_w34, rv_w35, rv_w36, rv_w42, rv_w43, rv_w44]
      refine ⟨fun y => by exfalso; omega, fun _ => ?_⟩
      rw [if_neg (show ¬ x3 = 0 by omega)]
      exact kx hb p3 g2 c2 (-1) w1 w2 y4 y5 y3 (by omega) (by omega)
    exact rc_101 (zm (zk H) (by omega)) hI y1 hl (fun y o1 o2 => ym_rt_cons (fin _ _ _ hx2 (by omega) (by omega))) (fun y => ym_rt_cons (fin _ _ _ rfl y1 y2))
  refine sg_104_0 (zy H) _ ?_
  rcases hx with hx | hx
  · refine rc_102 (zk H) hI hp hp2 hl hx (fun h2 p2 c2 g2 y1 y2 y3 y4 y5 => ?_) (fun c2 g2 b2 h2 => ym_rt_cons (sg_104_4 (zy H) _ ?_))
    · obtain ⟨x1, hx1⟩ : ∃ x1 : Int, x1 = 1 := ⟨1, rfl⟩
      rw [← hx1]
      refine ym_rt_cons (sg_104_4 (zy H) _ ?_)
      simp only [rv_12_20, rv_12_21, rv_12_22, rv_12_23, rv_12_24, rv_12_25, rv_12_26, rv_12_28, rv_12_38, rv_12_42, rv_12_0, rv_12_1, rv_12_15, rv_12_16, rv_12_18, rv_28, rv_37, rv_38, rv_39, rv_40, rv_41, rv_29, rv_30, rv_31, rv_32, rv_33, rv_34, rv_35, rv_36, rv_42, rv_43, rv_44, rv_13, rv_14, rv_15, rv_16, rv_17, rv_18, rv_19, rv_20, rv_21, rv_22, rv_23, rv_24, rv_25, rv_26, rv_27, rv_r, rv_w12_20, rv_w12_21, rv_w12_22, rv_w12_23, rv_w12_24, rv_w12_25, rv_w12_26, rv_w12_28, rv_w12_38, rv_w12_42, rv_w28, rv_w37, rv_w38, rv_w39, rv_w40, rv_w41, rv_w29, rv_w30, rv_w31, rv_w32, rv_w33, rv_w34, rv_w35, rv_w36, rv_w42, rv_w43, rv_w44]
      refine ⟨fun y => by exfalso; omega, ?_⟩
      rw [if_neg (show ¬ x1 = 0 by omega)]
      exact bad p2 c2 g2 1 rfl (Or.inr (by unfold zs_h; rw [h2]; rfl)) y1 y2 y3 y4 y5
    · have o1 := zs_id_ok hI.2.1 hl hp h2
      simp only [rv_12_20, rv_12_21, rv_12_22, rv_12_23, rv_12_24, rv_12_25, rv_12_26, rv_12_28, rv_12_38, rv_12_42, rv_12_0, rv_12_1, rv_12_15, rv_12_16, rv_12_18, rv_28, rv_37, rv_38, rv_39, rv_40, rv_41, rv_29, rv_30, rv_31, rv_32, rv_33, rv_34, rv_35, rv_36, rv_42, rv_43, rv_44, rv_13, rv_14, rv_15, rv_16, rv_17, rv_18, rv_19, rv_20, rv_21, rv_22, rv_23, rv_24, rv_25, rv_26, rv_27, rv_r, rv_w12_20, rv_w12_21, rv_w12_22, rv_w12_23, rv_w12_24, rv_w12_25, rv_w12_26, rv_w12_28, rv_w12_38, rv_w12_42, rv_w28, rv_w37, rv_w38, rv_w39, rv_w40, rv_w41, rv_w29, rv_w30, rv_w31, rv_w32, rv_w33, rv_w34, rv_w35, rv_w36, rv_w42, rv_w43, rv_w44]
      refine ⟨fun _ => hw, ?_⟩
      rw [if_pos hx]
      by_cases hg : g2 = w
      · rw [if_pos hg]
        have hh : zs_h r l p w = (zs_le r l b2 c2).map (fun t => (c2, t)) := by
          unfold zs_h
          rw [h2]
          show (if g2 = w then _ else none) = _
          rw [if_pos hg]
        rw [hh] at kx kr
        obtain ⟨x1, hx1⟩ : ∃ x1 : Int, x1 = 0 := ⟨0, rfl⟩
        rw [← hx1]
        have hxx : x = x1 := by omega
        refine rc_101 (zm (zk H) (by omega)) hI (by omega) hl (fun y o3 o4 => ym_rt_cons (sg_104_32 (zy H) _ _ ?_)) (fun y => ?_)
        · simp only [rv_12_20, rv_12_21, rv_12_22, rv_12_23, rv_12_24, rv_12_25, rv_12_26, rv_12_28, rv_12_38, rv_12_42, rv_12_0, rv_12_1, rv_12_15, rv_12_16, rv_12_18, rv_28, rv_37, rv_38, rv_39, rv_40, rv_41, rv_29, rv_30, rv_31, rv_32, rv_33, rv_34, rv_35, rv_36, rv_42, rv_43, rv_44, rv_13, rv_14, rv_15, rv_16, rv_17, rv_18, rv_19, rv_20, rv_21, rv_22, rv_23, rv_24, rv_25, rv_26, rv_27, rv_r, rv_w12_20, rv_w12_21, rv_w12_22, rv_w12_23, rv_w12_24, rv_w12_25, rv_w12_26, rv_w12_28, rv_w12_38, rv_w12_42, rv_w28, rv_w37, rv_w38, rv_w39, rv_w40, rv_w41, rv_w29, rv_w30, rv_w31, rv_w32, rv_w33, rv_w34, rv_w35, rv_w36, rv_w42, rv_w43, rv_w44]
          refine ⟨fun _ => ⟨⟨by omega, by omega⟩, fun h128 => ?_, fun h128 => ⟨⟨by omega, by omega⟩, fun h3 => ⟨⟨by omega, by omega⟩, ?_⟩, fun h3 => ?_⟩⟩, fun y => absurd hx1 y⟩
          · rw [if_pos hx1]
            have hle : zs_le r l b2 c2 = if c2 = 0 then none else some (1, l, b2 + 1) := by
              unfold zs_le
              rw [if_pos y, if_neg (by omega), if_pos h128]
            rw [hle] at kx kr
            by_cases hc : c2 = 0
            · rw [if_pos hc] at kx ⊢
              exact kx (Or.inr rfl) _ _ _ _ (by omega) (by omega) (by omega) (by omega) o1.1 (by omega) (by omega)
            · rw [if_neg hc] at kr ⊢
              have := kr hx c2 1 l (b2 + 1) rfl
              rw [if_neg (by decide), ← hg, hx] at this
              exact this
          · have hle : zs_le r l b2 c2 = if 132 < r b2 then none else (zs_ll r l (r b2 - 128).toNat (b2 + 1) 0).bind (fun x => if l - x.2 < x.1 then none else some (0, x.2 + x.1, x.2)) := by
              unfold zs_le
              rw [if_pos y]
              by_cases h5 : 132 < r b2
              · rw [if_pos h5, if_pos h5]
              · rw [if_neg h5, if_neg h5, if_neg h128, if_neg (by omega)]
            rw [hle] at kx kr
            by_cases h5 : 132 < r b2
            · rw [if_pos h5] at kx ⊢
              refine rc_104e (n := 0) (zm H (by omega)) rfl (by omega) (by omega) (by omega) hl0 (by omega) ⟨by omega, by omega⟩ (by decide) (Or.inr rfl) (Or.inr rfl) (fun x2 e2 w1 w2 => ?_)
              rw [if_neg (by decide)] at w1
              rw [if_neg (by omega)] at w2
              rw [w1, w2]
              exact kx (Or.inr rfl) _ _ _ _ (by omega) (by omega) (by omega) (by omega) o1.1 (by omega) (by omega)
            · rw [if_neg h5] at kx kr ⊢
              refine rc_104l (zm H (by omega)) hI hl0 hl _ _ _ _ _ _ _ _ _ _ _ _ _ _ w (r b2) (by omega) o3 (r b2 - 128).toNat 128 (b2 + 1) 0 _ 0 _ rfl rfl (by omega) (by omega) rfl (by omega) (Int.pow_pos (by decide)) (by omega) (by omega) (by omega) (fun v hv p3 e3 w1 w2 w3 w4 => kx (Or.inr ?_) _ _ _ _ w1 w2 (by omega) (by omega) o1.1 w3 w4) (fun v b4 hv hnv => ?_)
              · rcases hv with hv | ⟨hv, hv2⟩
                · rw [hv]; rfl
                · rw [hv]
                  show Option.map _ (if l - v.2 < v.1 then none else _) = none
                  rw [if_pos hv2]
                  rfl
              · have := kr hx c2 0 (b4 + v) b4 (by
                  rw [hv]
                  show Option.map _ (if l - b4 < v then none else some (0, b4 + v, b4)) = _
                  rw [if_neg hnv]
                  rfl)
                rw [if_pos rfl, ← hg, hx] at this
                exact this
          · have hle : zs_le r l b2 c2 = if l - (b2 + 1) < r b2 then none else some (0, b2 + 1 + r b2, b2 + 1) := by
              unfold zs_le
              rw [if_pos y, if_neg (by omega), if_neg h128, if_pos (show r b2 < 128 by omega), show (r b2 - 128).toNat = 0 by omega]
              rfl
            rw [hle] at kx kr
            have e1 : (ym_i2l (l - (b2 + 1))).toInt = l - (b2 + 1) := zl_i2l ⟨by omega, by omega⟩
            have e2 : (ym_i2l (r b2)).toInt = r b2 := zl_i2l ⟨by omega, by omega⟩
            have e3 : ym_l2i (ym_i2l (r b2)) = r b2 := by rw [zl_l2i (by omega) (by omega), e2]
            rw [if_pos hx1, e3]
            by_cases h5 : l - (b2 + 1) < r b2
            · rw [if_pos h5] at kx
              rw [if_pos (zl_gt.mpr (by rw [e1, e2]; exact h5)), if_neg (by decide)]
              exact ⟨⟨by omega, by omega⟩, kx (Or.inr rfl) _ _ _ _ (by omega) (by omega) (by omega) (by omega) o1.1 (by omega) (by omega)⟩
            · rw [if_neg h5] at kr
              have h6 : ¬ 0 < ym_cmp (ym_i2l (r b2)) (ym_i2l (l - (b2 + 1))) := by
                intro v
                have := zl_gt.mp v
                rw [e1, e2] at this
                exact h5 this
              rw [if_neg h6, if_pos rfl]
              have := kr hx c2 0 (b2 + 1 + r b2) (b2 + 1) rfl
              rw [if_pos rfl, ← hg, hx] at this
              exact ⟨⟨by omega, by omega⟩, this⟩
        · have hle : zs_le r l b2 c2 = none := by
            unfold zs_le
            rw [if_neg (by omega)]
          rw [hle] at kx
          obtain ⟨x3, hx3⟩ : ∃ x3 : Int, x3 = 1 := ⟨1, rfl⟩
          rw [← hx3]
          refine ym_rt_cons (sg_104_32 (zy H) _ _ ?_)
          simp only [rv_12_20, rv_12_21, rv_12_22, rv_12_23, rv_12_24, rv_12_25, rv_12_26, rv_12_28, rv_12_38, rv_12_42, rv_12_0, rv_12_1, rv_12_15, rv_12_16, rv_12_18, rv_28, rv_37, rv_38, rv_39, rv_40, rv_41, rv_29, rv_30, rv_31, rv_32, rv_33, rv_34, rv_35, rv_36, rv_42, rv_43, rv_44, rv_13, rv_14, rv_15, rv_16, rv_17, rv_18, rv_19, rv_20, rv_21, rv_22, rv_23, rv_24, rv_25, rv_26, rv_27, rv_r, rv_w12_20, rv_w12_21, rv_w12_22, rv_w12_23, rv_w12_24, rv_w12_25, rv_w12_26, rv_w12_28, rv_w12_38, rv_w12_42, rv_w28, rv_w37, rv_w38, rv_w39, rv_w40, rv_w41, rv_w29, rv_w30, rv_w31, rv_w32, rv_w33, rv_w34, rv_w35, rv_w36, rv_w42, rv_w43, rv_w44]
          refine ⟨fun y => by exfalso; omega, fun _ => ?_⟩
          rw [if_neg (show ¬ x3 = 0 by omega)]
          exact kx (Or.inr rfl) _ _ _ _ (by omega) (by omega) (by omega) (by omega) o1.1 (by omega) (by omega)
      · rw [if_neg hg]
        exact bad b2 c2 g2 1 rfl (Or.inr (by unfold zs_h; rw [h2]; show (if g2 = w then _ else none) = _; rw [if_neg hg])) (by omega) (by omega) o1.1 (by omega) (by omega)
  · refine rc_102b (zk H) hI hp hp2 hl hx (fun p2 c2 g2 y1 y2 y3 y4 y5 => ?_)
    obtain ⟨x1, hx1⟩ : ∃ x1 : Int, x1 = 1 := ⟨1, rfl⟩
    rw [← hx1]
    refine ym_rt_cons (sg_104_4 (zy H) _ ?_)
    simp only [rv_12_20, rv_12_21, rv_12_22, rv_12_23, rv_12_24, rv_12_25, rv_12_26, rv_12_28, rv_12_38, rv_12_42, rv_12_0, rv_12_1, rv_12_15, rv_12_16, rv_12_18, rv_28, rv_37, rv_38, rv_39, rv_40, rv_41, rv_29, rv_30, rv_31, rv_32, rv_33, rv_34, rv_35, rv_36, rv_42, rv_43, rv_44, rv_13, rv_14, rv_15, rv_16, rv_17, rv_18, rv_19, rv_20, rv_21, rv_22, rv_23, rv_24, rv_25, rv_26, rv_27, rv_r, rv_w12_20, rv_w12_21, rv_w12_22, rv_w12_23, rv_w12_24, rv_w12_25, rv_w12_26, rv_w12_28, rv_w12_38, rv_w12_42, rv_w28, rv_w37, rv_w38, rv_w39, rv_w40, rv_w41, rv_w29, rv_w30, rv_w31, rv_w32, rv_w33, rv_w34, rv_w35, rv_w36, rv_w42, rv_w43, rv_w44]
    refine ⟨fun y => by exfalso; omega, ?_⟩
    rw [if_neg (show ¬ x1 = 0 by omega)]
    exact bad p2 c2 g2 1 rfl (Or.inl hx) y1 y2 y3 y4 y5
end
