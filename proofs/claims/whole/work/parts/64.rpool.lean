/-! The reference's pool: own work. -/
/-- a part of the pool is an encoding -/
def rP (A B C o : Int → Int) (h k : Int) (y : Int × List Int) : Prop := C k = y.1 ∧ B k = y.2.length ∧ zr o (A k) y.2 ∧ 0 ≤ A k ∧ A k + B k ≤ h
def rPs (A B C o : Int → Int) (h : Int) : Int → List (Int × List Int) → Prop
  | _, [] => True
  | k, y :: t => rP A B C o h k y ∧ rPs A B C o h (k + 1) t
theorem rP_of {A B C o A2 B2 C2 o2 : Int → Int} {h h2 k : Int} {y : Int × List Int} (H : rP A B C o h k y) (a : A2 k = A k) (b : B2 k = B k) (c : C2 k = C k) (ho : ∀ j, 0 ≤ j → j < h → o2 j = o j) (hh : h ≤ h2) : rP A2 B2 C2 o2 h2 k y := by
  obtain ⟨h1, h3, h4, h5, h6⟩ := H
  refine ⟨by rw [c]; exact h1, by rw [b]; exact h3, ?_, by rw [a]; exact h5, by rw [a, b]; omega⟩
  rw [a]
  exact zr_of o o2 _ _ h4 (fun j j0 j1 => ho j (by omega) (by omega))
theorem rPs_of {A B C o A2 B2 C2 o2 : Int → Int} {h h2 : Int} : ∀ {t : List (Int × List Int)} {k : Int}, rPs A B C o h k t → (∀ j, k ≤ j → j < k + t.length → A2 j = A j ∧ B2 j = B j ∧ C2 j = C j) → (∀ j, 0 ≤ j → j < h → o2 j = o j) → h ≤ h2 → rPs A2 B2 C2 o2 h2 k t
  | [], k, H, hA, ho, hh => trivial
  | y :: t, k, H, hA, ho, hh => by
    rw [List.length_cons] at hA
    obtain ⟨a, b, c⟩ := hA k (by omega) (by omega)
    exact ⟨rP_of H.1 a b c ho hh, rPs_of H.2 (fun j j0 j1 => hA j (by omega) (by omega)) ho hh⟩
theorem rPs_app {A B C o : Int → Int} {h : Int} : ∀ {t t2 : List (Int × List Int)} {k : Int}, rPs A B C o h k t → rPs A B C o h (k + t.length) t2 → rPs A B C o h k (t ++ t2)
  | [], t2, k, H, H2 => by
    rw [show k + (([] : List (Int × List Int)).length : Int) = k by simp] at H2
    exact H2
  | y :: t, t2, k, H, H2 => ⟨H.1, rPs_app H.2 (by rw [List.length_cons] at H2; rw [show k + 1 + (t.length : Int) = k + ((t.length + 1 : Nat) : Int) by omega]; exact H2)⟩
theorem rPs_split {A B C o : Int → Int} {h : Int} : ∀ {t t2 : List (Int × List Int)} {k : Int}, rPs A B C o h k (t ++ t2) → rPs A B C o h k t ∧ rPs A B C o h (k + t.length) t2
  | [], t2, k, H => ⟨trivial, by rw [show k + (([] : List (Int × List Int)).length : Int) = k by simp]; exact H⟩
  | y :: t, t2, k, H => by
    have := rPs_split (t := t) H.2
    refine ⟨⟨H.1, this.1⟩, ?_⟩
    rw [List.length_cons, show k + ((t.length + 1 : Nat) : Int) = k + 1 + (t.length : Int) by omega]
    exact this.2
theorem zs_hd_6 (g c n : Int) : ((zs_hd g c n).length : Int) ≤ 6 := by
  rw [zs_hd_len]
  obtain ⟨m, hm⟩ : ∃ m, m = zs_sc (g % 2097152) := ⟨_, rfl⟩
  have := zs_sc_b (g % 2097152)
  rw [← hm] at this ⊢
  split <;> omega
theorem zn_o128 : ∀ x : Fin 128, ym_or ((x.val : Nat) : Int) 128 = ((x.val : Nat) : Int) + 128 := by decide +kernel
theorem zn_or128 {x : Int} (h0 : 0 ≤ x) (h1 : x < 128) : ym_or x 128 = x + 128 := by
  obtain ⟨n, rfl⟩ := zn_nat h0
  exact zn_o128 ⟨n, by omega⟩
section
variable {sc : xm_S} {P : xm_O → xm_H → Prop} {K : List ym_F} {s : ym_S} {p l g x c e z : Int} {b : Int → Int} {f : Int} {F : Nat → Int → Int} {q : Int} {A B C : Int → Int} {h : Int} {o W : Int → Int} {S : Nat → Int → Int}
theorem rc_106 (H : zh sc K 0) (h0 : 0 ≤ h) (h1 : h < 9000) {v : Int} (v0 : 0 ≤ v) (v1 : v < 256) (kr : ym_Rt sc P K none (rv s p l g x c e z b f F q A B C (h+1) (zu o h v) W S)) : ym_Go sc P K (106, 0, [some (ym_P 12), some (ym_I v)], []) (rv s p l g x c e z b f F q A B C h o W S) := by
  refine sg_106_0 (zy H) _ ?_
  simp only [rv_12_20, rv_12_21, rv_12_22, rv_12_23, rv_12_24, rv_12_25, rv_12_26, rv_12_28, rv_12_38, rv_12_42, rv_12_0, rv_12_1, rv_12_15, rv_12_16, rv_12_18, rv_28, rv_37, rv_38, rv_39, rv_40, rv_41, rv_29, rv_30, rv_31, rv_32, rv_33, rv_34, rv_35, rv_36, rv_42, rv_43, rv_44, rv_13, rv_14, rv_15, rv_16, rv_17, rv_18, rv_19, rv_20, rv_21, rv_22, rv_23, rv_24, rv_25, rv_26, rv_27, rv_r, rv_w12_20, rv_w12_21, rv_w12_22, rv_w12_23, rv_w12_24, rv_w12_25, rv_w12_26, rv_w12_28, rv_w12_38, rv_w12_42, rv_w28, rv_w37, rv_w38, rv_w39, rv_w40, rv_w41, rv_w29, rv_w30, rv_w31, rv_w32, rv_w33, rv_w34, rv_w35, rv_w36, rv_w42, rv_w43, rv_w44]
  rw [zn_255 v0 (by omega), Int.emod_eq_of_lt v0 v1]
  exact ⟨⟨h0, h1⟩, ⟨by omega, by omega⟩, kr⟩
theorem rc_107 (H : zh sc K 1) (h0 : 0 ≤ h) (h1 : h + 6 ≤ 9000) {a1 a2 a3 : Int} (hg : 0 ≤ a1) (hg2 : a1 < 8388608) (hc : a2 = 0 ∨ a2 = 1) (h3 : 0 ≤ a3) (h33 : a3 < 256) (kr : ym_Rt sc P K none (rv s p l g x c e z b f F q A B C (h+(zs_hd a1 a2 a3).length) (za o h (zs_hd a1 a2 a3)) W S)) : ym_Go sc P K (107, 0, [some (ym_P 12), some (ym_I a1), some (ym_I a2), some (ym_I a3), none], []) (rv s p l g x c e z b f F q A B C h o W S) := by
  obtain ⟨n, hn⟩ : ∃ n, n = a1 % 2097152 := ⟨_, rfl⟩
  have b0 := (zs_ld_b hg hg2 hc).1
  have b1 := (zs_ld_b hg hg2 hc).2.1
  have e1 : ym_rem a1 2097152 = n := by rw [zn_rem hg (by omega) (by decide) (by decide), hn]
  have e2 : ym_div a1 2097152 = a1 / 2097152 := zn_div hg (by omega) (by decide) (by decide)
  have hd : zs_hd a1 a2 a3 = zs_ld a1 a2 :: (zs_sv n ++ zs_l2 a3) := by rw [hn]; rfl
  rw [hd] at kr
  have e3 : a1 / 2097152 * 64 + (if a2 = 0 then (0 : Int) else 32) + (if n < 31 then n else 31) = zs_ld a1 a2 := by
    rw [hn]
    rfl
  -- the length
  have len : ∀ (h2 : Int) (o2 : Int → Int), 0 ≤ h2 → h2 + 2 ≤ 9000 → ym_Rt sc P K none (rv s p l g x c e z b f F q A B C (h2+(zs_l2 a3).length) (za o2 h2 (zs_l2 a3)) W S) → (127 < a3 → ym_Go sc P ((107, 114, [some (ym_P 12), some (ym_I a1), some (ym_I a2), some (ym_I a3), some (ym_I n)], []) :: K) (106, 0, [some (ym_P 12), some (ym_I 129)], []) (rv s p l g x c e z b f F q A B C h2 o2 W S)) ∧ (a3 ≤ 127 → ym_Go sc P ((107, 119, [some (ym_P 12), some (ym_I a1), some (ym_I a2), some (ym_I a3), some (ym_I n)], []) :: K) (106, 0, [some (ym_P 12), some (ym_I a3)], []) (rv s p l g x c e z b f F q A B C h2 o2 W S)) := by
    intro h2 o2 y0 y1 kr2
    refine ⟨fun y => ?_, fun y => ?_⟩
    · have el : zs_l2 a3 = [129, a3] := if_neg (by omega)
      rw [el] at kr2
      refine rc_106 (zk H) y0 (by omega) (by decide) (by decide) (ym_rt_cons (sg_107_117 (zy H) _ _ _ _ ?_))
      refine rc_106 (zk H) (by omega) (by omega) h3 h33 (ym_rt_cons (sg_107_122 (zy H) _ _ _ _ ?_))
      rw [show h2 + 1 + 1 = h2 + (([129, a3] : List Int).length : Int) by simp; omega]
      exact kr2
    · have el : zs_l2 a3 = [a3] := if_pos (by omega)
      rw [el] at kr2
      refine rc_106 (zk H) y0 (by omega) h3 h33 (ym_rt_cons (sg_107_122 (zy H) _ _ _ _ ?_))
      rw [show h2 + 1 = h2 + (([a3] : List Int).length : Int) by simp]
      exact kr2
  have a3in : ym_in a3 := ⟨by omega, by omega⟩
  have nb : 0 ≤ n ∧ n < 2097152 := by omega
  have nin : ym_in n := ⟨by omega, by omega⟩
  refine sg_107_0 (zy H) _ _ _ ⟨⟨by omega, by omega⟩, ?_⟩
  rw [e1, e2, e3]
  refine rc_106 (zk H) h0 (by omega) b0 b1 (ym_rt_cons (sg_107_43 (zy H) _ _ _ _ ?_))
  unfold zs_sv at kr
  by_cases a : n < 31
  · rw [if_pos a] at kr
    refine ⟨nin, fun _ => ⟨nin, fun _ => ⟨nin, fun _ => ⟨a3in, len (h + 1) _ (by omega) (by omega) ?_⟩, fun y => by exfalso; omega⟩, fun y => by exfalso; omega⟩, fun y => by exfalso; omega⟩
    rw [List.nil_append, List.length_cons, show h + (((zs_l2 a3).length + 1 : Nat) : Int) = h + 1 + ((zs_l2 a3).length : Int) by omega] at kr
    exact kr
  · rw [if_neg a] at kr
    have f1 : ∀ (h2 : Int) (o2 : Int → Int), 0 ≤ h2 → h2 + 3 ≤ 9000 → ym_Rt sc P K none (rv s p l g x c e z b f F q A B C (h2+((n % 128) :: zs_l2 a3).length) (za o2 h2 ((n % 128) :: zs_l2 a3)) W S) → ym_Go sc P ((107, 101, [some (ym_P 12), some (ym_I a1), some (ym_I a2), some (ym_I a3), some (ym_I n)], []) :: K) (106, 0, [some (ym_P 12), some (ym_I (ym_and n 127))], []) (rv s p l g x c e z b f F q A B C h2 o2 W S) := by
      intro h2 o2 y0 y1 kr2
      rw [zn_127 nb.1 (by omega)]
      refine rc_106 (zk H) y0 (by omega) (by omega) (by omega) (ym_rt_cons (sg_107_104 (zy H) _ _ _ _ ⟨a3in, len (h2 + 1) _ (by omega) (by omega) ?_⟩))
      rw [List.length_cons, show h2 + (((zs_l2 a3).length + 1 : Nat) : Int) = h2 + 1 + ((zs_l2 a3).length : Int) by omega] at kr2
      exact kr2
    have f2 : 128 ≤ n → ∀ (h2 : Int) (o2 : Int → Int), 0 ≤ h2 → h2 + 4 ≤ 9000 → ym_Rt sc P K none (rv s p l g x c e z b f F q A B C (h2+((n / 128 % 128 + 128) :: (n % 128) :: zs_l2 a3).length) (za o2 h2 ((n / 128 % 128 + 128) :: (n % 128) :: zs_l2 a3)) W S) → ym_Go sc P ((107, 85, [some (ym_P 12), some (ym_I a1), some (ym_I a2), some (ym_I a3), some (ym_I n)], []) :: K) (106, 0, [some (ym_P 12), some (ym_I (ym_or (ym_and (ym_shr n 7) 127) 128))], []) (rv s p l g x c e z b f F q A B C h2 o2 W S) := by
      intro hn128 h2 o2 y0 y1 kr2
      rw [zn_shr7 nb.1 (by omega), zn_127 (by omega) (by omega), zn_or128 (by omega) (by omega)]
      refine rc_106 (zk H) y0 (by omega) (by omega) (by omega) (ym_rt_cons (sg_107_88 (zy H) _ _ _ _ ⟨nin, fun y => by exfalso; omega, fun _ => f1 (h2 + 1) _ (by omega) (by omega) ?_⟩))
      rw [List.length_cons, show h2 + ((((n % 128) :: zs_l2 a3).length + 1 : Nat) : Int) = h2 + 1 + (((n % 128) :: zs_l2 a3).length : Int) by omega] at kr2
      exact kr2
    by_cases a2' : n < 128
    · rw [if_pos a2'] at kr
      refine ⟨nin, fun _ => ⟨nin, fun _ => ⟨nin, fun y => by exfalso; omega, fun _ => f1 (h + 1) _ (by omega) (by omega) ?_⟩, fun y => by exfalso; omega⟩, fun y => by exfalso; omega⟩
      rw [show n % 128 = n by omega]
      rw [List.length_cons, show h + ((([n] ++ zs_l2 a3).length + 1 : Nat) : Int) = h + 1 + ((n :: zs_l2 a3).length : Int) by rw [List.cons_append, List.nil_append]; omega] at kr
      exact kr
    · rw [if_neg a2'] at kr
      by_cases a3' : n < 16384
      · rw [if_pos a3'] at kr
        refine ⟨nin, fun _ => ⟨nin, fun y => by exfalso; omega, fun y => f2 y (h + 1) _ (by omega) (by omega) ?_⟩, fun y => by exfalso; omega⟩
        rw [show n / 128 % 128 = n / 128 by omega]
        rw [List.length_cons, show h + ((([n / 128 + 128, n % 128] ++ zs_l2 a3).length + 1 : Nat) : Int) = h + 1 + (((n / 128 + 128) :: (n % 128) :: zs_l2 a3).length : Int) by rw [List.cons_append, List.cons_append, List.nil_append]; omega] at kr
        exact kr
      · rw [if_neg a3'] at kr
        refine ⟨nin, fun y => by exfalso; omega, fun _ => ?_⟩
        rw [zn_shr14 nb.1 (by omega), zn_or128 (by omega) (by omega)]
        refine rc_106 (zk H) (by omega) (by omega) (by omega) (by omega) (ym_rt_cons (sg_107_64 (zy H) _ _ _ _ ⟨nin, fun y => by exfalso; omega, fun y => f2 y (h + 1 + 1) _ (by omega) (by omega) ?_⟩))
        rw [List.length_cons, show h + ((([n / 16384 + 128, n / 128 % 128 + 128, n % 128] ++ zs_l2 a3).length + 1 : Nat) : Int) = h + 1 + 1 + (((n / 128 % 128 + 128) :: (n % 128) :: zs_l2 a3).length : Int) by rw [List.cons_append, List.cons_append, List.cons_append, List.nil_append, List.length_cons]; omega] at kr
        exact kr
theorem rc_108 (H : zh sc K 0) {a1 a2 : Int} (hq : 0 ≤ q) (hq2 : q < 130) (h1 : 0 ≤ a1) (h2 : a1 ≤ h) (hh : h ≤ 9000) (ha2 : ym_in a2) (kr : ym_Rt sc P K none (rv s p l g x c e z b f F (q+1) (zu A q a1) (zu B q (h - a1)) (zu C q a2) h o W S)) : ym_Go sc P K (108, 0, [some (ym_P 12), some (ym_I a1), some (ym_I a2)], []) (rv s p l g x c e z b f F q A B C h o W S) := by
  refine sg_108_0 (zy H) _ _ ?_
  simp only [rv_12_20, rv_12_21, rv_12_22, rv_12_23, rv_12_24, rv_12_25, rv_12_26, rv_12_28, rv_12_38, rv_12_42, rv_12_0, rv_12_1, rv_12_15, rv_12_16, rv_12_18, rv_28, rv_37, rv_38, rv_39, rv_40, rv_41, rv_29, rv_30, rv_31, rv_32, rv_33, rv_34, rv_35, rv_36, rv_42, rv_43, rv_44, rv_13, rv_14, rv_15, rv_16, rv_17, rv_18, rv_19, rv_20, rv_21, rv_22, rv_23, rv_24, rv_25, rv_26, rv_27, rv_r, rv_w12_20, rv_w12_21, rv_w12_22, rv_w12_23, rv_w12_24, rv_w12_25, rv_w12_26, rv_w12_28, rv_w12_38, rv_w12_42, rv_w28, rv_w37, rv_w38, rv_w39, rv_w40, rv_w41, rv_w29, rv_w30, rv_w31, rv_w32, rv_w33, rv_w34, rv_w35, rv_w36, rv_w42, rv_w43, rv_w44]
  exact ⟨⟨hq, hq2⟩, ⟨by omega, by omega⟩, ⟨hq, hq2⟩, ⟨by omega, by omega⟩, ⟨hq, hq2⟩, ha2, ⟨by omega, by omega⟩, kr⟩
theorem rc_109 (H : zh sc K 2) {a1 : Int} {a : List Int} (hg : 0 ≤ a1) (hg2 : a1 < 8388608) (hz : z = a.length) (hz2 : z ≤ 200) (hb : zr b 0 a) (hall : zs_all a) (h0 : 0 ≤ h) (h1 : h + 210 ≤ 9000) (hq : 0 ≤ q) (hq2 : q < 130) (kr : ym_Rt sc P K none (rv s p l g x c e z b f F (q+1) (zu A q h) (zu B q (zs_enc a1 0 a).length) (zu C q a1) (h+(zs_enc a1 0 a).length) (za o h (zs_enc a1 0 a)) W S)) : ym_Go sc P K (109, 0, [some (ym_P 12), some (ym_I a1), none, none], []) (rv s p l g x c e z b f F q A B C h o W S) := by
  subst hz
  have hhd : ((zs_hd a1 0 (a.length : Int)).length : Int) ≤ 6 := zs_hd_6 _ _ _
  have hel : ((zs_enc a1 0 a).length : Int) = (zs_hd a1 0 (a.length : Int)).length + a.length := by
    unfold zs_enc
    rw [List.length_append]
    omega
  refine sg_109_0 (zy H) _ ?_
  simp only [rv_12_20, rv_12_21, rv_12_22, rv_12_23, rv_12_24, rv_12_25, rv_12_26, rv_12_28, rv_12_38, rv_12_42, rv_12_0, rv_12_1, rv_12_15, rv_12_16, rv_12_18, rv_28, rv_37, rv_38, rv_39, rv_40, rv_41, rv_29, rv_30, rv_31, rv_32, rv_33, rv_34, rv_35, rv_36, rv_42, rv_43, rv_44, rv_13, rv_14, rv_15, rv_16, rv_17, rv_18, rv_19, rv_20, rv_21, rv_22, rv_23, rv_24, rv_25, rv_26, rv_27, rv_r, rv_w12_20, rv_w12_21, rv_w12_22, rv_w12_23, rv_w12_24, rv_w12_25, rv_w12_26, rv_w12_28, rv_w12_38, rv_w12_42, rv_w28, rv_w37, rv_w38, rv_w39, rv_w40, rv_w41, rv_w29, rv_w30, rv_w31, rv_w32, rv_w33, rv_w34, rv_w35, rv_w36, rv_w42, rv_w43, rv_w44]
  refine rc_107 (zk H) h0 (by omega) hg hg2 (Or.inl rfl) (by omega) (by omega) (ym_rt_cons (sg_109_15 (zy H) _ _ ?_))
  have loop : ∀ (t : List Int) (k h2 : Int) (o2 : Int → Int), k + t.length = a.length → 0 ≤ k → zr b k t → zs_all t → 0 ≤ h2 → h2 + t.length ≤ 9000 → h ≤ h2 → ym_Rt sc P K none (rv s p l g x c e ((a.length : Int)) b f F (q+1) (zu A q h) (zu B q (h2 + t.length - h)) (zu C q a1) (h2+t.length) (za o2 h2 t) W S) → ym_Go sc P K (109, 17, [some (ym_P 12), some (ym_I a1), some (ym_I h), some (ym_I k)], []) (rv s p l g x c e ((a.length : Int)) b f F q A B C h2 o2 W S) := by
    intro t
    induction t with
    | nil =>
      intro k h2 o2 hk hk0 hzr hal y0 y1 y2 kr2
      refine sg_109_17 (zy H) _ _ _ ?_
      simp only [rv_12_20, rv_12_21, rv_12_22, rv_12_23, rv_12_24, rv_12_25, rv_12_26, rv_12_28, rv_12_38, rv_12_42, rv_12_0, rv_12_1, rv_12_15, rv_12_16, rv_12_18, rv_28, rv_37, rv_38, rv_39, rv_40, rv_41, rv_29, rv_30, rv_31, rv_32, rv_33, rv_34, rv_35, rv_36, rv_42, rv_43, rv_44, rv_13, rv_14, rv_15, rv_16, rv_17, rv_18, rv_19, rv_20, rv_21, rv_22, rv_23, rv_24, rv_25, rv_26, rv_27, rv_r, rv_w12_20, rv_w12_21, rv_w12_22, rv_w12_23, rv_w12_24, rv_w12_25, rv_w12_26, rv_w12_28, rv_w12_38, rv_w12_42, rv_w28, rv_w37, rv_w38, rv_w39, rv_w40, rv_w41, rv_w29, rv_w30, rv_w31, rv_w32, rv_w33, rv_w34, rv_w35, rv_w36, rv_w42, rv_w43, rv_w44]
      simp at hk y1
      refine ⟨⟨by omega, by omega⟩, fun y => by exfalso; omega, fun _ => ?_⟩
      refine rc_108 (zm (zk H) (by omega)) hq hq2 h0 y2 (by omega) ⟨by omega, by omega⟩ (ym_rt_cons (sg_109_47 (zy H) _ _ _ ?_))
      rw [show h2 + (([] : List Int).length : Int) = h2 by simp] at kr2
      exact kr2
    | cons y t ih =>
      intro k h2 o2 hk hk0 hzr hal y0 y1 y2 kr2
      obtain ⟨v0, v1⟩ := hal y (List.mem_cons_self ..)
      rw [List.length_cons] at hk y1
      refine sg_109_17 (zy H) _ _ _ ?_
      simp only [rv_12_20, rv_12_21, rv_12_22, rv_12_23, rv_12_24, rv_12_25, rv_12_26, rv_12_28, rv_12_38, rv_12_42, rv_12_0, rv_12_1, rv_12_15, rv_12_16, rv_12_18, rv_28, rv_37, rv_38, rv_39, rv_40, rv_41, rv_29, rv_30, rv_31, rv_32, rv_33, rv_34, rv_35, rv_36, rv_42, rv_43, rv_44, rv_13, rv_14, rv_15, rv_16, rv_17, rv_18, rv_19, rv_20, rv_21, rv_22, rv_23, rv_24, rv_25, rv_26, rv_27, rv_r, rv_w12_20, rv_w12_21, rv_w12_22, rv_w12_23, rv_w12_24, rv_w12_25, rv_w12_26, rv_w12_28, rv_w12_38, rv_w12_42, rv_w28, rv_w37, rv_w38, rv_w39, rv_w40, rv_w41, rv_w29, rv_w30, rv_w31, rv_w32, rv_w33, rv_w34, rv_w35, rv_w36, rv_w42, rv_w43, rv_w44]
      rw [hzr.1]
      refine ⟨⟨by omega, by omega⟩, fun _ => ⟨⟨by omega, by omega⟩, ?_⟩, fun y => by exfalso; omega⟩
      refine rc_106 (zm (zk H) (by omega)) y0 (by omega) v0 v1 (ym_rt_cons (sg_109_35 (zy H) _ _ _ ?_))
      refine ih (k + 1) (h2 + 1) _ (by omega) (by omega) hzr.2 (fun w hw => hal w (List.mem_cons_of_mem _ hw)) (by omega) (by omega) (by omega) ?_
      rw [List.length_cons, show h2 + ((t.length + 1 : Nat) : Int) = h2 + 1 + (t.length : Int) by omega] at kr2
      exact kr2
  refine loop a 0 _ _ (by omega) (by decide) hb hall (by omega) (by omega) (by omega) ?_
  have e1 : za (za o h (zs_hd a1 0 (a.length : Int))) (h + (zs_hd a1 0 (a.length : Int)).length) a = za o h (zs_enc a1 0 a) := by
    unfold zs_enc
    rw [za_app]
  rw [e1, show h + ((zs_hd a1 0 (a.length : Int)).length : Int) + (a.length : Int) = h + ((zs_enc a1 0 a).length : Int) by omega, show h + ((zs_enc a1 0 a).length : Int) - h = ((zs_enc a1 0 a).length : Int) by omega]
  exact kr
end
