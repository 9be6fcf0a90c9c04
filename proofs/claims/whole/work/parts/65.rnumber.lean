/-! The reference's numbers and object identifiers: own work. -/
def zs_o2 : Bool → List Int → Bool
  | _, [] => true
  | b, x :: t => !(b && decide (x = 128)) && zs_o2 (decide (x < 128)) t
theorem zs_od_eq : ∀ (l : List Int) (b : Bool) (h : l ≠ []), zs_od b l = (zs_o2 b l && decide (l.getLast h < 128))
  | [], b, h => absurd rfl h
  | [x], b, h => by
    show (!(b && decide (x = 128)) && decide (x < 128)) = (!(b && decide (x = 128)) && true && decide (x < 128))
    rw [Bool.and_true]
  | x :: y :: t, b, h => by
    have hne : y :: t ≠ [] := by simp
    have e : (x :: y :: t).getLast h = (y :: t).getLast hne := List.getLast_cons hne
    rw [zs_od, zs_o2, zs_od_eq (y :: t) _ hne, e, Bool.and_assoc]
section
variable {sc : xm_S} {P : xm_O → xm_H → Prop} {K : List ym_F} {s : ym_S} {p l g x c e z : Int} {b : Int → Int} {f : Int} {F : Nat → Int → Int} {q : Int} {A B C : Int → Int} {h : Int} {o W : Int → Int} {S : Nat → Int → Int}
theorem rc_118l (H : zh sc K 0) {t : Int} (ht : 0 ≤ t) (ht2 : t < 16) (hz : z ≤ 8) : ∀ (a : List Int) (k v X : Int) (m : Int64), k + a.length = z → 1 ≤ k → zr b k a → zs_all a → m.toInt = v → -(128 * X) ≤ v → v < 128 * X → X = 256 ^ (k - 1).toNat → ym_Rt sc P K (some (ym_I (if zs_kp 1 (s.2.1 18 t) (s.2.1 19 t) (zs_nv a v) then 1 else 0))) (rv s p l g x c e z b f F q A B C h o W S) → ym_Go sc P K (118, 105, [some (ym_P 12), some (ym_I t), some (ym_J m), none, some (ym_I k)], []) (rv s p l g x c e z b f F q A B C h o W S)
  | [], k, v, X, m, hk, hk1, hzr, hall, hm, hv1, hv2, hX, kr => by
    simp at hk
    refine sg_118_105 (zy H) _ _ _ ?_
    simp only [rv_12_20, rv_12_21, rv_12_22, rv_12_23, rv_12_24, rv_12_25, rv_12_26, rv_12_28, rv_12_38, rv_12_42, rv_12_0, rv_12_1, rv_12_15, rv_12_16, rv_12_18, rv_28, rv_37, rv_38, rv_39, rv_40, rv_41, rv_29, rv_30, rv_31, rv_32, rv_33, rv_34, rv_35, rv_36, rv_42, rv_43, rv_44, rv_13, rv_14, rv_15, rv_16, rv_17, rv_18, rv_19, rv_20, rv_21, rv_22, rv_23, rv_24, rv_25, rv_26, rv_27, rv_r, rv_w12_20, rv_w12_21, rv_w12_22, rv_w12_23, rv_w12_24, rv_w12_25, rv_w12_26, rv_w12_28, rv_w12_38, rv_w12_42, rv_w28, rv_w37, rv_w38, rv_w39, rv_w40, rv_w41, rv_w29, rv_w30, rv_w31, rv_w32, rv_w33, rv_w34, rv_w35, rv_w36, rv_w42, rv_w43, rv_w44]
    have e1 : (if ym_cmp m (s.2.1 18 t) < 0 then (0 : Int) else (if 0 < ym_cmp m (s.2.1 19 t) then 0 else 1)) = if zs_kp 1 (s.2.1 18 t) (s.2.1 19 t) v then 1 else 0 := by
      unfold zs_kp
      by_cases h2 : ym_cmp m (s.2.1 18 t) < 0
      · have := zl_lt.mp h2
        rw [if_pos h2]
        simp
        omega
      · have h3 : ¬ m.toInt < (s.2.1 18 t).toInt := fun y => h2 (zl_lt.mpr y)
        rw [if_neg h2]
        by_cases h4 : 0 < ym_cmp m (s.2.1 19 t)
        · have := zl_gt.mp h4
          rw [if_pos h4]
          simp
          omega
        · have h5 : ¬ (s.2.1 19 t).toInt < m.toInt := fun y => h4 (zl_gt.mpr y)
          rw [if_neg h4]
          simp
          omega
    rw [e1]
    exact ⟨⟨by omega, by omega⟩, fun y => by exfalso; omega, fun _ => ⟨⟨by omega, by omega⟩, fun _ => ⟨by omega, by omega⟩, kr⟩⟩
  | y :: a, k, v, X, m, hk, hk1, hzr, hall, hm, hv1, hv2, hX, kr => by
    obtain ⟨y0, y1⟩ := hall y (List.mem_cons_self ..)
    rw [List.length_cons] at hk
    refine sg_118_105 (zy H) _ _ _ ?_
    simp only [rv_12_20, rv_12_21, rv_12_22, rv_12_23, rv_12_24, rv_12_25, rv_12_26, rv_12_28, rv_12_38, rv_12_42, rv_12_0, rv_12_1, rv_12_15, rv_12_16, rv_12_18, rv_28, rv_37, rv_38, rv_39, rv_40, rv_41, rv_29, rv_30, rv_31, rv_32, rv_33, rv_34, rv_35, rv_36, rv_42, rv_43, rv_44, rv_13, rv_14, rv_15, rv_16, rv_17, rv_18, rv_19, rv_20, rv_21, rv_22, rv_23, rv_24, rv_25, rv_26, rv_27, rv_r, rv_w12_20, rv_w12_21, rv_w12_22, rv_w12_23, rv_w12_24, rv_w12_25, rv_w12_26, rv_w12_28, rv_w12_38, rv_w12_42, rv_w28, rv_w37, rv_w38, rv_w39, rv_w40, rv_w41, rv_w29, rv_w30, rv_w31, rv_w32, rv_w33, rv_w34, rv_w35, rv_w36, rv_w42, rv_w43, rv_w44]
    rw [hzr.1]
    have hX2 : X ≤ 281474976710656 := by
      rw [hX]
      have h6 : (k - 1).toNat = 0 ∨ (k - 1).toNat = 1 ∨ (k - 1).toNat = 2 ∨ (k - 1).toNat = 3 ∨ (k - 1).toNat = 4 ∨ (k - 1).toNat = 5 ∨ (k - 1).toNat = 6 := by omega
      rcases h6 with h | h | h | h | h | h | h <;> rw [h] <;> decide
    refine ⟨⟨by omega, by omega⟩, fun _ => ⟨⟨by omega, by omega⟩, ?_⟩, fun w => by exfalso; omega⟩
    refine rc_118l H ht ht2 hz a (k + 1) (v * 256 + y) (X * 256) _ (by omega) (by omega) hzr.2 (fun w hw => hall w (List.mem_cons_of_mem _ hw)) ?_ (by omega) (by omega) ?_ kr
    · rw [zl_or8s (by omega) (by omega) y0 y1, hm]
    · rw [hX, show (k + 1 - 1).toNat = (k - 1).toNat + 1 by omega, Int.pow_succ]
theorem rc_118 (H : zh sc K 0) {t : Int} (ht : 0 ≤ t) (ht2 : t < 16) {a : List Int} (hz : z = a.length) (hz2 : z ≤ 200) (hb : zr b 0 a) (hall : zs_all a) (hbd : s.1 17 t = 0 ∨ s.1 17 t = 1) (kr : ym_Rt sc P K (some (ym_I (if zs_ig (s.1 17 t) (s.2.1 18 t) (s.2.1 19 t) a then 1 else 0))) (rv s p l g x c e z b f F q A B C h o W S)) : ym_Go sc P K (118, 0, [some (ym_P 12), some (ym_I t), none, none, none], []) (rv s p l g x c e z b f F q A B C h o W S) := by
  have k0 : zs_ig (s.1 17 t) (s.2.1 18 t) (s.2.1 19 t) a = false → ym_Rt sc P K (some (ym_I 0)) (rv s p l g x c e z b f F q A B C h o W S) := fun y => by rw [y] at kr; exact kr
  have k1 : zs_ig (s.1 17 t) (s.2.1 18 t) (s.2.1 19 t) a = true → ym_Rt sc P K (some (ym_I 1)) (rv s p l g x c e z b f F q A B C h o W S) := fun y => by rw [y] at kr; exact kr
  refine sg_118_0 (zy H) _ ?_
  simp only [rv_12_20, rv_12_21, rv_12_22, rv_12_23, rv_12_24, rv_12_25, rv_12_26, rv_12_28, rv_12_38, rv_12_42, rv_12_0, rv_12_1, rv_12_15, rv_12_16, rv_12_18, rv_28, rv_37, rv_38, rv_39, rv_40, rv_41, rv_29, rv_30, rv_31, rv_32, rv_33, rv_34, rv_35, rv_36, rv_42, rv_43, rv_44, rv_13, rv_14, rv_15, rv_16, rv_17, rv_18, rv_19, rv_20, rv_21, rv_22, rv_23, rv_24, rv_25, rv_26, rv_27, rv_r, rv_w12_20, rv_w12_21, rv_w12_22, rv_w12_23, rv_w12_24, rv_w12_25, rv_w12_26, rv_w12_28, rv_w12_38, rv_w12_42, rv_w28, rv_w37, rv_w38, rv_w39, rv_w40, rv_w41, rv_w29, rv_w30, rv_w31, rv_w32, rv_w33, rv_w34, rv_w35, rv_w36, rv_w42, rv_w43, rv_w44]
  cases a with
  | nil =>
    simp at hz
    exact ⟨fun _ => k0 rfl, fun y => absurd hz y⟩
  | cons v a =>
    obtain ⟨v0, v1⟩ := hall v (List.mem_cons_self ..)
    have hall2 : zs_all a := fun w hw => hall w (List.mem_cons_of_mem _ hw)
    rw [List.length_cons] at hz
    have hb0 : b 0 = v := hb.1
    rw [hb0]
    -- it has no octet too many
    have cont : zs_min (v :: a) = true → ((0 : Int) ≤ t ∧ t < 16) ∧ (s.1 17 t = 0 → ym_Rt sc P K (some (ym_I 1)) (rv s p l g x c e z b f F q A B C h o W S)) ∧ (¬ s.1 17 t = 0 → (8 < z → ym_Rt sc P K (some (ym_I 0)) (rv s p l g x c e z b f F q A B C h o W S)) ∧ (z ≤ 8 → (127 < v → ym_Go sc P K (118, 105, [some (ym_P 12), some (ym_I t), some (ym_J (-1)), none, some (ym_I 0)], []) (rv s p l g x c e z b f F q A B C h o W S)) ∧ (v ≤ 127 → ym_Go sc P K (118, 105, [some (ym_P 12), some (ym_I t), some (ym_J (Int64.ofNat 0)), none, some (ym_I 0)], []) (rv s p l g x c e z b f F q A B C h o W S)))) := by
      intro hmin
      refine ⟨⟨ht, ht2⟩, fun h0 => k1 ?_, fun h0 => ⟨fun h8 => k0 ?_, fun h8 => ?_⟩⟩
      · unfold zs_ig
        rw [hmin, decide_eq_true h0]
        rfl
      · unfold zs_ig
        rw [hmin, decide_eq_false h0, decide_eq_false (show ¬ (v :: a).length ≤ 8 by rw [List.length_cons]; omega)]
        rfl
      · have e1 : zs_ig (s.1 17 t) (s.2.1 18 t) (s.2.1 19 t) (v :: a) = zs_kp 1 (s.2.1 18 t) (s.2.1 19 t) (zs_nv a (zs_v1 v)) := by
          unfold zs_ig
          rw [hmin, decide_eq_false h0, decide_eq_true (show (v :: a).length ≤ 8 by rw [List.length_cons]; omega), Bool.true_and, Bool.false_or, Bool.true_and]
          rw [show s.1 17 t = 1 by omega]
          rfl
        rw [e1] at kr
        have first : ∀ m : Int64, (m.toInt = -1 ∧ 128 ≤ v ∨ m.toInt = 0 ∧ v ≤ 127) → ym_Go sc P K (118, 105, [some (ym_P 12), some (ym_I t), some (ym_J m), none, some (ym_I 0)], []) (rv s p l g x c e z b f F q A B C h o W S) := by
          intro m hm
          refine sg_118_105 (zy H) _ _ _ ?_
          simp only [rv_12_20, rv_12_21, rv_12_22, rv_12_23, rv_12_24, rv_12_25, rv_12_26, rv_12_28, rv_12_38, rv_12_42, rv_12_0, rv_12_1, rv_12_15, rv_12_16, rv_12_18, rv_28, rv_37, rv_38, rv_39, rv_40, rv_41, rv_29, rv_30, rv_31, rv_32, rv_33, rv_34, rv_35, rv_36, rv_42, rv_43, rv_44, rv_13, rv_14, rv_15, rv_16, rv_17, rv_18, rv_19, rv_20, rv_21, rv_22, rv_23, rv_24, rv_25, rv_26, rv_27, rv_r, rv_w12_20, rv_w12_21, rv_w12_22, rv_w12_23, rv_w12_24, rv_w12_25, rv_w12_26, rv_w12_28, rv_w12_38, rv_w12_42, rv_w28, rv_w37, rv_w38, rv_w39, rv_w40, rv_w41, rv_w29, rv_w30, rv_w31, rv_w32, rv_w33, rv_w34, rv_w35, rv_w36, rv_w42, rv_w43, rv_w44]
          rw [hb0]
          refine ⟨by decide, fun _ => ⟨by decide, ?_⟩, fun w => by exfalso; omega⟩
          refine rc_118l H ht ht2 h8 a (0 + 1) (zs_v1 v) 1 _ (by omega) (by omega) hb.2 hall2 ?_ ?_ ?_ rfl kr
          · rw [zl_or8s (by omega) (by omega) v0 v1]
            unfold zs_v1
            split <;> omega
          · unfold zs_v1; split <;> omega
          · unfold zs_v1; split <;> omega
        exact ⟨fun w => first _ (Or.inl ⟨rfl, by omega⟩), fun w => first _ (Or.inr ⟨rfl, w⟩)⟩
    refine ⟨fun y => by exfalso; omega, fun _ => ⟨fun h1 => ?_, fun h1 => cont ?_⟩⟩
    · cases a with
      | nil => simp at hz; exfalso; omega
      | cons w a =>
        obtain ⟨w0, w1⟩ := hall2 w (List.mem_cons_self ..)
        have hb1 : b 1 = w := hb.2.1
        rw [hb1]
        have mt : ¬ (v = 0 ∧ w < 128) → ¬ (v = 255 ∧ 128 ≤ w) → zs_min (v :: w :: a) = true := by
          intro m1 m2
          unfold zs_min
          simp
          omega
        have mf : (v = 0 ∧ w < 128) ∨ (v = 255 ∧ 128 ≤ w) → zs_ig (s.1 17 t) (s.2.1 18 t) (s.2.1 19 t) (v :: w :: a) = false := by
          intro m1
          have : zs_min (v :: w :: a) = false := by
            unfold zs_min
            simp
            omega
          unfold zs_ig
          rw [this]
          rfl
        exact ⟨fun h2 => ⟨fun h3 => k0 (mf (by omega)), fun h3 => ⟨fun h4 => by exfalso; omega, fun h4 => cont (mt (by omega) (by omega))⟩⟩, fun h2 => ⟨fun h4 => ⟨fun h5 => k0 (mf (by omega)), fun h5 => cont (mt (by omega) (by omega))⟩, fun h4 => cont (mt (by omega) (by omega))⟩⟩
    · cases a with
      | nil => rfl
      | cons w a => simp at hz; exfalso; omega
theorem rc_119l (H : zh sc K 0) (hz : z ≤ 200) : ∀ (t : List Int) (k a1 : Int) (beg : Bool) (y : Option Int), k + t.length = z → 0 ≤ k → zr b k t → zs_all t → (a1 = 0 ∨ a1 = 1) → (if k = 0 then (1 : Int) else (if b (k - 1) < 128 then 1 else 0)) = (if beg then 1 else 0) → ym_Rt sc P K (some (ym_I (if a1 = 1 ∧ zs_o2 beg t = true then 1 else 0))) (rv s p l g x c e z b f F q A B C h o W S) → ym_Go sc P K (119, 32, [some (ym_P 12), some (ym_I a1), some (ym_I k), y.map ym_I], []) (rv s p l g x c e z b f F q A B C h o W S)
  | [], k, a1, beg, y, hk, hk0, hzr, hall, ha, hbeg, kr => by
    simp at hk
    have e1 : (if a1 = 1 ∧ zs_o2 beg [] = true then (1 : Int) else 0) = a1 := by
      rcases ha with rfl | rfl <;> simp [zs_o2]
    rw [e1] at kr
    cases y
    · refine sg_119_32 (zy H) _ _ ?_
      simp only [rv_12_20, rv_12_21, rv_12_22, rv_12_23, rv_12_24, rv_12_25, rv_12_26, rv_12_28, rv_12_38, rv_12_42, rv_12_0, rv_12_1, rv_12_15, rv_12_16, rv_12_18, rv_28, rv_37, rv_38, rv_39, rv_40, rv_41, rv_29, rv_30, rv_31, rv_32, rv_33, rv_34, rv_35, rv_36, rv_42, rv_43, rv_44, rv_13, rv_14, rv_15, rv_16, rv_17, rv_18, rv_19, rv_20, rv_21, rv_22, rv_23, rv_24, rv_25, rv_26, rv_27, rv_r, rv_w12_20, rv_w12_21, rv_w12_22, rv_w12_23, rv_w12_24, rv_w12_25, rv_w12_26, rv_w12_28, rv_w12_38, rv_w12_42, rv_w28, rv_w37, rv_w38, rv_w39, rv_w40, rv_w41, rv_w29, rv_w30, rv_w31, rv_w32, rv_w33, rv_w34, rv_w35, rv_w36, rv_w42, rv_w43, rv_w44]
      exact ⟨⟨by omega, by omega⟩, fun w => by exfalso; omega, fun _ => ⟨ha, kr⟩⟩
    · refine sg_119_32b (zy H) _ _ _ ?_
      simp only [rv_12_20, rv_12_21, rv_12_22, rv_12_23, rv_12_24, rv_12_25, rv_12_26, rv_12_28, rv_12_38, rv_12_42, rv_12_0, rv_12_1, rv_12_15, rv_12_16, rv_12_18, rv_28, rv_37, rv_38, rv_39, rv_40, rv_41, rv_29, rv_30, rv_31, rv_32, rv_33, rv_34, rv_35, rv_36, rv_42, rv_43, rv_44, rv_13, rv_14, rv_15, rv_16, rv_17, rv_18, rv_19, rv_20, rv_21, rv_22, rv_23, rv_24, rv_25, rv_26, rv_27, rv_r, rv_w12_20, rv_w12_21, rv_w12_22, rv_w12_23, rv_w12_24, rv_w12_25, rv_w12_26, rv_w12_28, rv_w12_38, rv_w12_42, rv_w28, rv_w37, rv_w38, rv_w39, rv_w40, rv_w41, rv_w29, rv_w30, rv_w31, rv_w32, rv_w33, rv_w34, rv_w35, rv_w36, rv_w42, rv_w43, rv_w44]
      exact ⟨⟨by omega, by omega⟩, fun w => by exfalso; omega, fun _ => ⟨ha, kr⟩⟩
  | v :: t, k, a1, beg, y, hk, hk0, hzr, hall, ha, hbeg, kr => by
    obtain ⟨v0, v1⟩ := hall v (List.mem_cons_self ..)
    rw [List.length_cons] at hk
    have bin : (if beg then (1 : Int) else 0) = 0 ∨ (if beg then (1 : Int) else 0) = 1 := by cases beg <;> simp
    have nxt : ym_Go sc P K (119, 32, [some (ym_P 12), some (ym_I (if a1 = 0 then (0 : Int) else (if (if beg then (1 : Int) else 0) = 0 then (1 : Int) else (if v = 128 then (0 : Int) else 1)))), some (ym_I (k + 1)), some (ym_I (if beg then (1 : Int) else 0))], []) (rv s p l g x c e z b f F q A B C h o W S) := by
      refine rc_119l H hz t (k + 1) _ (decide (v < 128)) (some _) (by omega) (by omega) hzr.2 (fun w hw => hall w (List.mem_cons_of_mem _ hw)) ?_ ?_ ?_
      · cases beg <;> by_cases w1 : a1 = 0 <;> by_cases w2 : v = 128 <;> simp [w1, w2]
      · rw [if_neg (by omega), show k + 1 - 1 = k by omega, hzr.1]
        by_cases hv : v < 128 <;> simp [hv]
      · have e1 : (if (if a1 = 0 then (0 : Int) else (if (if beg then (1 : Int) else 0) = 0 then (1 : Int) else (if v = 128 then (0 : Int) else 1))) = 1 ∧ zs_o2 (decide (v < 128)) t = true then (1 : Int) else 0) = (if a1 = 1 ∧ zs_o2 beg (v :: t) = true then 1 else 0) := by
          rw [zs_o2]
          rcases ha with rfl | rfl
          · simp
          · cases beg
            · simp
            · by_cases hv : v = 128 <;> simp [hv]
        rw [e1]
        exact kr
    have ain : ym_in a1 := ⟨by omega, by omega⟩
    cases y
    · refine sg_119_32 (zy H) _ _ ?_
      simp only [rv_12_20, rv_12_21, rv_12_22, rv_12_23, rv_12_24, rv_12_25, rv_12_26, rv_12_28, rv_12_38, rv_12_42, rv_12_0, rv_12_1, rv_12_15, rv_12_16, rv_12_18, rv_28, rv_37, rv_38, rv_39, rv_40, rv_41, rv_29, rv_30, rv_31, rv_32, rv_33, rv_34, rv_35, rv_36, rv_42, rv_43, rv_44, rv_13, rv_14, rv_15, rv_16, rv_17, rv_18, rv_19, rv_20, rv_21, rv_22, rv_23, rv_24, rv_25, rv_26, rv_27, rv_r, rv_w12_20, rv_w12_21, rv_w12_22, rv_w12_23, rv_w12_24, rv_w12_25, rv_w12_26, rv_w12_28, rv_w12_38, rv_w12_42, rv_w28, rv_w37, rv_w38, rv_w39, rv_w40, rv_w41, rv_w29, rv_w30, rv_w31, rv_w32, rv_w33, rv_w34, rv_w35, rv_w36, rv_w42, rv_w43, rv_w44]
      rw [hbeg, hzr.1]
      exact ⟨⟨by omega, by omega⟩, fun _ => ⟨⟨⟨by omega, by omega⟩, fun _ => ⟨by omega, by omega⟩⟩, ⟨ain, fun _ _ => ⟨by omega, by omega⟩⟩, nxt⟩, fun w => by exfalso; omega⟩
    · refine sg_119_32b (zy H) _ _ _ ?_
      simp only [rv_12_20, rv_12_21, rv_12_22, rv_12_23, rv_12_24, rv_12_25, rv_12_26, rv_12_28, rv_12_38, rv_12_42, rv_12_0, rv_12_1, rv_12_15, rv_12_16, rv_12_18, rv_28, rv_37, rv_38, rv_39, rv_40, rv_41, rv_29, rv_30, rv_31, rv_32, rv_33, rv_34, rv_35, rv_36, rv_42, rv_43, rv_44, rv_13, rv_14, rv_15, rv_16, rv_17, rv_18, rv_19, rv_20, rv_21, rv_22, rv_23, rv_24, rv_25, rv_26, rv_27, rv_r, rv_w12_20, rv_w12_21, rv_w12_22, rv_w12_23, rv_w12_24, rv_w12_25, rv_w12_26, rv_w12_28, rv_w12_38, rv_w12_42, rv_w28, rv_w37, rv_w38, rv_w39, rv_w40, rv_w41, rv_w29, rv_w30, rv_w31, rv_w32, rv_w33, rv_w34, rv_w35, rv_w36, rv_w42, rv_w43, rv_w44]
      rw [hbeg, hzr.1]
      exact ⟨⟨by omega, by omega⟩, fun _ => ⟨⟨⟨by omega, by omega⟩, fun _ => ⟨by omega, by omega⟩⟩, ⟨ain, fun _ _ => ⟨by omega, by omega⟩⟩, nxt⟩, fun w => by exfalso; omega⟩
theorem rc_119 (H : zh sc K 0) {a : List Int} (hz : z = a.length) (hz2 : z ≤ 200) (hb : zr b 0 a) (hall : zs_all a) (kr : ym_Rt sc P K (some (ym_I (if zs_oi a then 1 else 0))) (rv s p l g x c e z b f F q A B C h o W S)) : ym_Go sc P K (119, 0, [some (ym_P 12), none, none, none], []) (rv s p l g x c e z b f F q A B C h o W S) := by
  refine sg_119_0 (zy H) ?_
  simp only [rv_12_20, rv_12_21, rv_12_22, rv_12_23, rv_12_24, rv_12_25, rv_12_26, rv_12_28, rv_12_38, rv_12_42, rv_12_0, rv_12_1, rv_12_15, rv_12_16, rv_12_18, rv_28, rv_37, rv_38, rv_39, rv_40, rv_41, rv_29, rv_30, rv_31, rv_32, rv_33, rv_34, rv_35, rv_36, rv_42, rv_43, rv_44, rv_13, rv_14, rv_15, rv_16, rv_17, rv_18, rv_19, rv_20, rv_21, rv_22, rv_23, rv_24, rv_25, rv_26, rv_27, rv_r, rv_w12_20, rv_w12_21, rv_w12_22, rv_w12_23, rv_w12_24, rv_w12_25, rv_w12_26, rv_w12_28, rv_w12_38, rv_w12_42, rv_w28, rv_w37, rv_w38, rv_w39, rv_w40, rv_w41, rv_w29, rv_w30, rv_w31, rv_w32, rv_w33, rv_w34, rv_w35, rv_w36, rv_w42, rv_w43, rv_w44]
  refine ⟨fun _ => ⟨by omega, by omega⟩, ?_⟩
  refine rc_119l H hz2 a 0 _ true none (by omega) (by decide) hb hall ?_ rfl ?_
  · split
    · split
      · exact Or.inr rfl
      · exact Or.inl rfl
    · exact Or.inl rfl
  · have e1 : (if (if 0 < z then (if b (z - 1) < 128 then (1 : Int) else 0) else 0) = 1 ∧ zs_o2 true a = true then (1 : Int) else 0) = (if zs_oi a then 1 else 0) := by
      unfold zs_oi
      cases a with
      | nil =>
        simp at hz
        rw [hz]
        rfl
      | cons v t =>
        have hne : v :: t ≠ [] := by simp
        rw [zs_od_eq (v :: t) true hne]
        have hl : b (z - 1) = (v :: t).getLast hne := by
          rw [List.getLast_eq_getElem]
          have := zr_get hb ((v :: t).length - 1) (by simp)
          rw [show z - 1 = 0 + (((v :: t).length - 1 : Nat) : Int) by rw [List.length_cons] at *; omega]
          exact this
        have hpos : 0 < z := by rw [hz, List.length_cons]; omega
        rw [if_pos hpos, hl]
        cases hq2 : zs_o2 true (v :: t) with
        | false => simp
        | true =>
          by_cases hl2 : (v :: t).getLast hne < 128
          · rw [if_pos hl2]
            simp [hl2]
          · rw [if_neg hl2]
            simp [hl2]
    rw [e1]
    exact kr
end
