/-! The reference's transcode: own work. -/
theorem zr_ix {o : Int → Int} : ∀ (l : List Int) (a : Int), (∀ (i : Nat) (hi : i < l.length), o (a + i) = l[i]) → zr o a l
  | [], a, h => trivial
  | x :: l, a, h => ⟨by have := h 0 (by simp); simpa using this, zr_ix l (a + 1) (fun i hi => by
      have := h (i + 1) (by simpa using hi)
      rw [show a + 1 + (i : Int) = a + ((i + 1 : Nat) : Int) by omega, this]
      rfl)⟩
theorem wI_c {s : ym_S} {c c' : Nat} {j v j' : Int} (h : c' ≠ c) : (ym_wI s c j v).1 c' j' = s.1 c' j' := ym_u_ne h
theorem wI_f {s : ym_S} {c c' : Nat} {j v : Int} (h : c' ≠ c) : (ym_wI s c j v).1 c' = s.1 c' := funext fun _ => ym_u_ne h
theorem wI_j {s : ym_S} {c c' : Nat} {j v j' : Int} (h : j' ≠ j) : (ym_wI s c j v).1 c' j' = s.1 c' j' := ym_u_j h
theorem wI_e {s : ym_S} {c : Nat} {j v : Int} : (ym_wI s c j v).1 c j = v := ym_u_eq
/-- what transcoding leaves as it was -/
def zG (s s2 : ym_S) : Prop := (∀ c, c ≠ 12 → ¬ (27 ≤ c ∧ c ≤ 44) → s2.1 c = s.1 c) ∧ s2.2 = s.2 ∧ s2.1 12 1 = s.1 12 1 ∧ s2.1 12 15 = s.1 12 15 ∧ s2.1 12 16 = s.1 12 16
section
variable {sc : xm_S} {P : xm_O → xm_H → Prop} {K : List ym_F} {s : ym_S} {p l g x c e z : Int} {b : Int → Int} {f : Int} {F : Nat → Int → Int} {q : Int} {A B C : Int → Int} {h : Int} {o W : Int → Int} {S : Nat → Int → Int} {r : Int → Int} {N : Int} {E : zEnv} {n : Int}
theorem zb_t {k : Nat} : (Nat.beq k k) = true := Nat.beq_refl k
theorem rv_out {k : Nat} (h12 : k ≠ 12) (h2 : ¬ (28 ≤ k ∧ k ≤ 44)) : ((rv s p l g x c e z b f F q A B C h o W S) : ym_S).1 k = s.1 k := by
  funext j
  have a1 : (Nat.ble 29 k && Nat.ble k 36) = false := by
    rw [Bool.eq_false_iff]
    intro hh
    rw [Bool.and_eq_true] at hh
    have := Nat.le_of_ble_eq_true hh.1
    have := Nat.le_of_ble_eq_true hh.2
    omega
  have a2 : (Nat.ble 42 k && Nat.ble k 44) = false := by
    rw [Bool.eq_false_iff]
    intro hh
    rw [Bool.and_eq_true] at hh
    have := Nat.le_of_ble_eq_true hh.1
    have := Nat.le_of_ble_eq_true hh.2
    omega
  show (bif Nat.beq k 12 then _ else bif Nat.beq k 28 then _ else bif Nat.beq k 37 then _ else bif Nat.beq k 38 then _ else bif Nat.beq k 39 then _ else bif Nat.beq k 40 then _ else bif Nat.beq k 41 then _ else bif (Nat.ble 29 k && Nat.ble k 36) then _ else bif (Nat.ble 42 k && Nat.ble k 44) then _ else s.1 k j) = _
  rw [zb_ne h12, zb_ne (show k ≠ 28 by omega), zb_ne (show k ≠ 37 by omega), zb_ne (show k ≠ 38 by omega), zb_ne (show k ≠ 39 by omega), zb_ne (show k ≠ 40 by omega), zb_ne (show k ≠ 41 by omega), a1, a2]
  rfl
theorem zG_rv : zG s (rv s p l g x c e z b f F q A B C h o W S) := ⟨fun k h1 h2 => rv_out h1 (by omega), rfl, rfl, rfl, rfl⟩
theorem zG_w {s2 : ym_S} (h : zG s s2) {j v : Int} (h1 : j ≠ 1) (h15 : j ≠ 15) (h16 : j ≠ 16) : zG s (ym_wI s2 12 j v) := by
  obtain ⟨a, b, c, d, e⟩ := h
  refine ⟨fun k k1 k2 => ?_, b, ?_, ?_, ?_⟩
  · rw [← a k k1 k2]
    exact wI_f k1
  · rw [← c]; exact wI_j (by omega)
  · rw [← d]; exact wI_j (by omega)
  · rw [← e]; exact wI_j (by omega)
theorem zG_r {s2 : ym_S} (h : zG s s2) {j v : Int} : zG s (ym_wI s2 27 j v) := by
  obtain ⟨a, b, c, d, e⟩ := h
  refine ⟨fun k k1 k2 => ?_, b, ?_, ?_, ?_⟩
  · rw [← a k k1 k2]
    exact wI_f (by omega)
  · rw [← c]; exact wI_c (by decide)
  · rw [← d]; exact wI_c (by decide)
  · rw [← e]; exact wI_c (by decide)
/-- the result is copied -/
theorem rc_129c (H : zh sc K 1) {a1 : Int} {y : List Int} (hy : (y.length : Int) ≤ 200) {a0 : Int} (ha0 : 0 ≤ a0) (ha1 : a0 + y.length ≤ 9000) : ∀ (m : Nat) (j : Int) (s2 : ym_S), (y.length : Int) - j = m → 0 ≤ j → zG s s2 → s2.1 12 18 = y.length → s2.1 12 0 = 0 → s2.1 38 0 = a0 → zr (s2.1 41) a0 y → (∀ i : Nat, (i : Int) < j → ∀ hi : i < y.length, s2.1 27 i = y[i]) → (∀ s3, zG s s3 → s3.1 12 0 = 0 → s3.1 12 18 = y.length → zr (s3.1 27) 0 y → ym_Rt sc P K (some (ym_I y.length)) s3) → ym_Go sc P K (129, 114, [some (ym_P 12), some (ym_I a1), some (ym_I j)], []) s2 := by
  intro m
  induction m with
  | zero =>
    intro j s2 hj j0 hG h18 h0 h38 hz hc kr
    refine sg_129_114 (zy H) _ _ ?_
    rw [h18]
    refine ⟨⟨by omega, by omega⟩, fun w => by exfalso; omega, fun _ => kr s2 hG h0 h18 ?_⟩
    refine zr_ix _ _ (fun i hi => ?_)
    rw [Int.zero_add]
    exact hc i (by omega) hi
  | succ m ih =>
    intro j s2 hj j0 hG h18 h0 h38 hz hc kr
    refine sg_129_114 (zy H) _ _ ?_
    rw [h18, h38]
    refine ⟨⟨by omega, by omega⟩, fun _ => ⟨⟨by omega, by omega⟩, ⟨by omega, by omega⟩, ?_⟩, fun w => by exfalso; omega⟩
    obtain ⟨jn, rfl⟩ := zn_nat j0
    have hjl : jn < y.length := by omega
    refine ih ((jn : Int) + 1) _ (by omega) (by omega) (zG_r hG) ?_ ?_ ?_ ?_ (fun i h1 hi => ?_) kr
    · rw [← h18]; exact wI_c (by decide)
    · exact (wI_c (by decide)).trans h0
    · rw [← h38]; exact wI_c (by decide)
    · have : (ym_wI s2 27 (jn : Int) (s2.1 41 (a0 + jn))).1 41 = s2.1 41 := wI_f (by decide)
      rw [this]
      exact hz
    · by_cases hij : i = jn
      · subst hij
        show ym_u s2.1 27 (i : Int) (s2.1 41 (a0 + i)) 27 (i : Int) = _
        rw [ym_u_eq]
        exact zr_get hz i hi
      · show ym_u s2.1 27 (jn : Int) (s2.1 41 (a0 + jn)) 27 (i : Int) = _
        rw [ym_u_jn (by omega)]
        exact hc i (by omega) hi
theorem rc_129 (H : zh sc K 20) (hE : zRE s E) (hW : zWF E n) (hn1 : s.1 12 1 = n) (hN1 : s.1 12 16 = N) (hN0 : 0 ≤ N) (hN : N ≤ 200) (hr : zs_oct r N) (hrow : ∀ j, 0 ≤ j → j < N → s.1 26 j = r j) {a : Int} (ha : ym_in a) (k0 : (a < 0 ∨ n ≤ a) → ym_Rt sc P K (some (ym_I 0)) (ym_wI s 12 0 1)) (kx : 0 ≤ a → a < n → zs_t E r a N = none → ∀ s2, zG s s2 → s2.1 12 0 = 2 → s2.1 12 18 = s.1 12 18 → s2.1 27 = s.1 27 → ym_Rt sc P K (some (ym_I 0)) s2) (kr : 0 ≤ a → a < n → ∀ y, zs_t E r a N = some y → (y.length : Int) ≤ 200 → ∀ s2, zG s s2 → s2.1 12 0 = 0 → s2.1 12 18 = y.length → zr (s2.1 27) 0 y → ym_Rt sc P K (some (ym_I y.length)) s2) : ym_Go sc P K (129, 0, [some (ym_P 12), some (ym_I a), none], []) s := by
  have hn := hW.1
  refine sg_129_0 (zy H) _ (sg_85_0 (zy (zk H)) _ ?_)
  rw [hn1]
  refine ⟨⟨ha, fun _ => ha⟩, ym_rt_cons (sg_129_5 (zy H) _ _ ?_)⟩
  by_cases hb : a < 0 ∨ n ≤ a
  · have e1 : (if a < 0 then (0 : Int) else if a < n then 1 else 0) = 0 := by
      by_cases w : a < 0
      · rw [if_pos w]
      · rw [if_neg w, if_neg (by omega)]
    rw [e1]
    exact ⟨by decide, fun _ => sg_84_0 (zy (zk H)) _ ⟨by decide, ym_rt_cons (sg_129_13 (zy H) _ _ (k0 hb))⟩, fun w => absurd rfl w⟩
  · have e1 : (if a < 0 then (0 : Int) else if a < n then 1 else 0) = 1 := by
      rw [if_neg (by omega), if_pos (by omega)]
    rw [e1]
    refine ⟨by decide, fun w => absurd w (by decide), fun _ => ?_⟩
    have a0 : 0 ≤ a := by omega
    have a1 : a < n := by omega
    rw [hN1]
    have hI : rIn s r N := ⟨hN, hr, hrow⟩
    have raise : zs_t E r a N = none → ∀ s2, zG s s2 → s2.1 12 18 = s.1 12 18 → s2.1 27 = s.1 27 → ym_Go sc P ((129, 93, [some (ym_P 12), some (ym_I a), none], []) :: K) (84, 0, [some (ym_P 12), some (ym_I 2)], []) s2 := by
      intro hz s2 hG g1 g2
      refine sg_84_0 (zy (zk H)) _ ⟨by decide, ym_rt_cons (sg_129_96 (zy H) _ _ (kx a0 a1 hz _ (zG_w hG (by decide) (by decide) (by decide)) rfl ?_ ?_))⟩
      · rw [← g1]; exact wI_j (by decide)
      · rw [← g2]; exact wI_f (by decide)
    have bad : zs_t E r a N = none → rBadP sc P K a s := by
      intro hz p l g c e z b f F q A B C h o W S
      unfold rLp
      refine (fun (k : ∀ x : Int, x = 1 → ym_Go sc P _ _ (rv s p l g x c e z b f F q A B C h o W S)) => k 1 rfl) (fun x hx => ?_)
      refine sg_129_52 (zy H) _ ?_
      simp only [rv_12_20, rv_12_21, rv_12_22, rv_12_23, rv_12_24, rv_12_25, rv_12_26, rv_12_28, rv_12_38, rv_12_42, rv_12_0, rv_12_1, rv_12_15, rv_12_16, rv_12_18, rv_28, rv_37, rv_38, rv_39, rv_40, rv_41, rv_29, rv_30, rv_31, rv_32, rv_33, rv_34, rv_35, rv_36, rv_42, rv_43, rv_44, rv_13, rv_14, rv_15, rv_16, rv_17, rv_18, rv_19, rv_20, rv_21, rv_22, rv_23, rv_24, rv_25, rv_26, rv_27, rv_r, rv_w12_20, rv_w12_21, rv_w12_22, rv_w12_23, rv_w12_24, rv_w12_25, rv_w12_26, rv_w12_28, rv_w12_38, rv_w12_42, rv_w28, rv_w37, rv_w38, rv_w39, rv_w40, rv_w41, rv_w29, rv_w30, rv_w31, rv_w32, rv_w33, rv_w34, rv_w35, rv_w36, rv_w42, rv_w43, rv_w44]
      have := raise hz (rv s p l g x c e z b f F q A B C h o W S) zG_rv rfl (rv_out (by decide) (by decide))
      exact ⟨fun _ => ⟨fun w => by exfalso; omega, fun _ => ⟨fun w => by exfalso; omega, fun _ => this⟩⟩, fun _ => ⟨fun w => by exfalso; omega, fun _ => this⟩⟩
    have key : ∀ s2 : ym_S, s2 = s → ym_Go sc P ((129, 49, [some (ym_P 12), some (ym_I a), none], []) :: K) (123, 0, [some (ym_P 12), some (ym_I a), none, none, none, none], []) (ym_wI (ym_wI (ym_wI (ym_wI (ym_wI (ym_wI s2 12 20 0) 12 21 0) 12 22 N) 12 28 0) 12 38 0) 12 42 0) := by
      intro s2 hs2
      rw [← rv_self s2, rv_w12_20, rv_w12_21, rv_w12_22, rv_w12_28, rv_w12_38, rv_w12_42, hs2]
      have m1 : (a + 1) * (N - 0) ≤ 16 * 200 := zmul (by omega) (by omega) (by omega) (by omega)
      refine rV (zm H (by omega)) hI hE hW 17 _ a 0 N _ _ _ _ _ 0 _ 0 _ _ _ 0 _ _ _ (fun _ _ _ _ _ _ _ _ _ _ _ _ _ _ _ _ _ _ k => ym_rt_cons k) (zk (zm H (show 8 ≤ 20 by omega))) a0 a1 (by omega) (by decide) hN0 (Int.le_refl _) (by decide) (by omega) (by decide) (by decide) (by decide) (by omega) (fun hz => bad (by unfold zs_t; rw [hz]; rfl)) (fun gl y b2 hv g2 c2 e2 z2 bb F2 A2 B2 C2 h2 o2 W2 S2 w1 w2 w3 w4 w5 w6 => ?_)
      obtain ⟨v1, v2, v3, v4⟩ := zs_v_ok hW hr hN 17 a N 0 _ a0 a1 (Int.le_refl _) (by omega) hN0 hv
      change b2 ≤ N at v2
      change (y.length : Int) ≤ b2 - 0 at v3
      have ht : zs_t E r a N = if b2 = N then some y else none := by
        unfold zs_t
        rw [hv]
        rfl
      obtain ⟨p1, p2, p3, p4, p5⟩ := w4
      change B2 0 = (y.length : Int) at p2
      change zr o2 (A2 0) y at p3
      have m2 : (a + 1) * (b2 - 0) ≤ 16 * 200 := zmul (by omega) (by omega) (by omega) (by omega)
      unfold rLp
      refine (fun (k : ∀ x f : Int, x = 0 → f = 0 → ym_Go sc P _ _ (rv s b2 N g2 x c2 e2 z2 bb f F2 (0+1) A2 B2 C2 h2 o2 W2 S2)) => k 0 0 rfl rfl) (fun x f hx hf => ?_)
      refine sg_129_52 (zy H) _ ?_
      simp only [rv_12_20, rv_12_21, rv_12_22, rv_12_23, rv_12_24, rv_12_25, rv_12_26, rv_12_28, rv_12_38, rv_12_42, rv_12_0, rv_12_1, rv_12_15, rv_12_16, rv_12_18, rv_28, rv_37, rv_38, rv_39, rv_40, rv_41, rv_29, rv_30, rv_31, rv_32, rv_33, rv_34, rv_35, rv_36, rv_42, rv_43, rv_44, rv_13, rv_14, rv_15, rv_16, rv_17, rv_18, rv_19, rv_20, rv_21, rv_22, rv_23, rv_24, rv_25, rv_26, rv_27, rv_r, rv_w12_20, rv_w12_21, rv_w12_22, rv_w12_23, rv_w12_24, rv_w12_25, rv_w12_26, rv_w12_28, rv_w12_38, rv_w12_42, rv_w28, rv_w37, rv_w38, rv_w39, rv_w40, rv_w41, rv_w29, rv_w30, rv_w31, rv_w32, rv_w33, rv_w34, rv_w35, rv_w36, rv_w42, rv_w43, rv_w44]
      rw [hN1, p2]
      refine ⟨fun w => by exfalso; omega, fun _ => ⟨fun _ => ⟨fun hb => ?_, fun hb => ?_⟩, fun w => absurd hx w⟩⟩
      · exact raise (by rw [ht, if_neg (by omega)]) _ zG_rv rfl (rv_out (by decide) (by decide))
      · refine rc_129c (zm H (by omega)) (y := y) (by omega) p4 (by omega) y.length 0 _ (by omega) (by decide) (zG_w (zG_w zG_rv (by decide) (by decide) (by decide)) (by decide) (by decide) (by decide)) rfl rfl rfl ?_ (fun i hi => by exfalso; omega) (fun s3 => kr a0 a1 y (by rw [ht, if_pos (by omega)]) (by omega) s3)
        exact p3
    exact key s rfl
end
