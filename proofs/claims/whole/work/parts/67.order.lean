/-! The order of encodings: from the front and from the back: own work. -/
theorem zs_bl_as : ∀ (n : Nat) (x y : List Int), zs_bl n x y = true → zs_bl n y x = false
  | 0, x, y, h => by cases h
  | n + 1, x, y, h => by
    unfold zs_bl at h ⊢
    by_cases e : x.headD 0 = y.headD 0
    · rw [if_pos e] at h
      rw [if_pos e.symm]
      exact zs_bl_as n _ _ h
    · rw [if_neg e] at h
      rw [if_neg (fun z => e z.symm)]
      have := of_decide_eq_true h
      exact decide_eq_false (by omega)
theorem zs_bl_wo : ∀ (n : Nat) (x y z : List Int), zs_bl n x y = true → zs_bl n z y = false → zs_bl n x z = true
  | 0, x, y, z, h, h2 => by cases h
  | n + 1, x, y, z, h, h2 => by
    unfold zs_bl at h h2 ⊢
    by_cases e : x.headD 0 = y.headD 0
    · rw [if_pos e] at h
      by_cases e2 : z.headD 0 = y.headD 0
      · rw [if_pos e2] at h2
        rw [if_pos (e.trans e2.symm)]
        exact zs_bl_wo n _ _ _ h h2
      · rw [if_neg e2] at h2
        have := of_decide_eq_false h2
        rw [if_neg (by omega)]
        exact decide_eq_true (by omega)
    · rw [if_neg e] at h
      have h3 := of_decide_eq_true h
      by_cases e2 : z.headD 0 = y.headD 0
      · rw [if_neg (by omega)]
        exact decide_eq_true (by omega)
      · rw [if_neg e2] at h2
        have := of_decide_eq_false h2
        rw [if_neg (by omega)]
        exact decide_eq_true (by omega)
theorem zs_bl_s : ∀ (n : Nat) (x y : List Int), x.length ≤ n → y.length ≤ n → zs_bl (n + 1) x y = zs_bl n x y
  | 0, x, y, hx, hy => by
    have e1 : x = [] := List.length_eq_zero_iff.mp (by omega)
    have e2 : y = [] := List.length_eq_zero_iff.mp (by omega)
    subst e1 e2
    rfl
  | n + 1, x, y, hx, hy => by
    rw [zs_bl]
    conv => rhs; rw [zs_bl]
    rw [zs_bl_s n x.tail y.tail (by rw [List.length_tail]; omega) (by rw [List.length_tail]; omega)]
theorem zs_bl_k (n : Nat) (x y : List Int) (hx : x.length ≤ n) (hy : y.length ≤ n) : ∀ k : Nat, zs_bl (n + k) x y = zs_bl n x y
  | 0 => rfl
  | k + 1 => by
    rw [show n + (k + 1) = (n + k) + 1 by omega, zs_bl_s (n + k) x y (by omega) (by omega)]
    exact zs_bl_k n x y hx hy k
theorem zs_blt_n {x y : List Int} {M : Nat} (hx : x.length ≤ M) (hy : y.length ≤ M) : zs_blt x y = zs_bl M x y := by
  unfold zs_blt
  have h1 : max x.length y.length ≤ M := Nat.max_le.mpr ⟨hx, hy⟩
  have := zs_bl_k (max x.length y.length) x y (Nat.le_max_left ..) (Nat.le_max_right ..) (M - max x.length y.length)
  rw [show max x.length y.length + (M - max x.length y.length) = M by omega] at this
  exact this.symm
theorem zs_lt_as {b : Bool} {x y : Int × List Int} (h : zs_lt b x y = true) : zs_lt b y x = false := by
  cases b with
  | true =>
    have := of_decide_eq_true (show decide (x.1 < y.1) = true from h)
    exact decide_eq_false (by omega)
  | false =>
    have h1 : zs_blt x.2 y.2 = true := h
    rw [zs_blt_n (Nat.le_max_left ..) (Nat.le_max_right ..)] at h1
    have h2 := zs_bl_as _ _ _ h1
    show zs_blt y.2 x.2 = false
    rw [zs_blt_n (M := max x.2.length y.2.length) (Nat.le_max_right ..) (Nat.le_max_left ..)]
    exact h2
theorem zs_lt_wo {b : Bool} {x y z : Int × List Int} (h : zs_lt b x y = true) (h2 : zs_lt b z y = false) : zs_lt b x z = true := by
  cases b with
  | true =>
    have := of_decide_eq_true (show decide (x.1 < y.1) = true from h)
    have := of_decide_eq_false (show decide (z.1 < y.1) = false from h2)
    exact decide_eq_true (by omega)
  | false =>
    have h1 : zs_blt x.2 y.2 = true := h
    have h3 : zs_blt z.2 y.2 = false := h2
    show zs_blt x.2 z.2 = true
    obtain ⟨M, hx, hy, hz⟩ : ∃ M, x.2.length ≤ M ∧ y.2.length ≤ M ∧ z.2.length ≤ M := ⟨x.2.length + y.2.length + z.2.length, by omega, by omega, by omega⟩
    rw [zs_blt_n hx hy] at h1
    rw [zs_blt_n hz hy] at h3
    rw [zs_blt_n hx hz]
    exact zs_bl_wo M _ _ _ h1 h3
def zs_so (b : Bool) : List (Int × List Int) → Prop
  | [] => True
  | y :: t => (∀ z ∈ t, zs_lt b z y = false) ∧ zs_so b t
theorem zs_so_ins (b : Bool) (x : Int × List Int) : ∀ l, zs_so b l → zs_so b (zs_ins b x l)
  | [], h => ⟨fun z hz => (by cases hz), trivial⟩
  | y :: t, h => by
    unfold zs_ins
    cases hb : zs_lt b x y with
    | true =>
      rw [if_pos rfl]
      refine ⟨fun z hz => ?_, h⟩
      rcases List.mem_cons.mp hz with rfl | hz
      · exact zs_lt_as hb
      · cases hc : zs_lt b z x with
        | false => rfl
        | true =>
          have := zs_lt_wo hc (zs_lt_as hb)
          rw [h.1 z hz] at this
          cases this
    | false =>
      rw [if_neg (by decide)]
      refine ⟨fun z hz => ?_, zs_so_ins b x t h.2⟩
      rcases zs_ins_mem b x t z hz with rfl | hz
      · exact hb
      · exact h.1 z hz
theorem zs_so_fold (b : Bool) : ∀ (l a : List (Int × List Int)), zs_so b a → zs_so b (l.foldl (fun a x => zs_ins b x a) a)
  | [], a, h => h
  | x :: l, a, h => zs_so_fold b l _ (zs_so_ins b x a h)
theorem zs_is_so (b : Bool) (l : List (Int × List Int)) : zs_so b (zs_is b l) := zs_so_fold b l [] trivial
theorem zs_is_snoc (b : Bool) (l : List (Int × List Int)) (x : Int × List Int) : zs_is b (l ++ [x]) = zs_ins b x (zs_is b l) := by
  unfold zs_is
  rw [List.foldl_append]
  rfl
/-- where it is put from the back -/
theorem zs_ins_at (b : Bool) (x : Int × List Int) : ∀ (S1 S2 : List (Int × List Int)), (∀ y ∈ S1, zs_lt b x y = false) → (∀ y ∈ S2.head?, zs_lt b x y = true) → zs_ins b x (S1 ++ S2) = S1 ++ x :: S2
  | [], [], h1, h2 => rfl
  | [], y :: t, h1, h2 => by
    rw [List.nil_append, zs_ins, h2 y rfl, if_pos rfl]
    rfl
  | y :: S1, S2, h1, h2 => by
    rw [List.cons_append, zs_ins, h1 y (List.mem_cons_self ..), if_neg (by decide), zs_ins_at b x S1 S2 (fun z hz => h1 z (List.mem_cons_of_mem _ hz)) h2]
    rfl
theorem zs_so_last (b : Bool) (x y : Int × List Int) : ∀ (S : List (Int × List Int)), zs_so b (S ++ [y]) → zs_lt b x y = false → ∀ z ∈ S ++ [y], zs_lt b x z = false
  | [], h, hx, z, hz => by
    rw [List.nil_append, List.mem_singleton] at hz
    rw [hz]
    exact hx
  | w :: S, h, hx, z, hz => by
    rcases List.mem_cons.mp hz with rfl | hz
    · cases hc : zs_lt b x z with
      | false => rfl
      | true =>
        have hy : zs_lt b y z = false := h.1 y (List.mem_append.mpr (Or.inr (List.mem_singleton.mpr rfl)))
        have := zs_lt_wo hc hy
        rw [hx] at this
        cases this
    · exact zs_so_last b x y S h.2 hx z hz
theorem zs_so_pre (b : Bool) : ∀ (S T : List (Int × List Int)), zs_so b (S ++ T) → zs_so b S
  | [], T, h => trivial
  | w :: S, T, h => ⟨fun z hz => h.1 z (List.mem_append.mpr (Or.inl hz)), zs_so_pre b S T h.2⟩
section
variable {sc : xm_S} {P : xm_O → xm_H → Prop} {K : List ym_F} {s : ym_S} {p l g x c e z : Int} {b : Int → Int} {f : Int} {F : Nat → Int → Int} {q : Int} {A B C : Int → Int} {h : Int} {o W : Int → Int} {S : Nat → Int → Int}
theorem rc_111 (H : zh sc K 0) (byTag : Bool) {i k : Int} {X Y : Int × List Int} (hi : 0 ≤ i) (hi2 : i < 130) (hk : 0 ≤ k) (hk2 : k < 130) (hX : rP A B C o h i X) (hY : rP A B C o h k Y) (hh : h ≤ 9000) (aX : zs_all X.2) (aY : zs_all Y.2) (kr : ym_Rt sc P K (some (ym_I (if zs_lt byTag Y X then 1 else 0))) (rv s p l g x c e z b f F q A B C h o W S)) : ym_Go sc P K (111, 0, [some (ym_P 12), some (ym_I i), some (ym_I k), some (ym_I (if byTag then 1 else 0)), none, none, none, none], []) (rv s p l g x c e z b f F q A B C h o W S) := by
  obtain ⟨x1, x2, x3, x4, x5⟩ := hX
  obtain ⟨y1, y2, y3, y4, y5⟩ := hY
  refine sg_111_0 (zy H) _ _ _ ?_
  simp only [rv_12_20, rv_12_21, rv_12_22, rv_12_23, rv_12_24, rv_12_25, rv_12_26, rv_12_28, rv_12_38, rv_12_42, rv_12_0, rv_12_1, rv_12_15, rv_12_16, rv_12_18, rv_28, rv_37, rv_38, rv_39, rv_40, rv_41, rv_29, rv_30, rv_31, rv_32, rv_33, rv_34, rv_35, rv_36, rv_42, rv_43, rv_44, rv_13, rv_14, rv_15, rv_16, rv_17, rv_18, rv_19, rv_20, rv_21, rv_22, rv_23, rv_24, rv_25, rv_26, rv_27, rv_r, rv_w12_20, rv_w12_21, rv_w12_22, rv_w12_23, rv_w12_24, rv_w12_25, rv_w12_26, rv_w12_28, rv_w12_38, rv_w12_42, rv_w28, rv_w37, rv_w38, rv_w39, rv_w40, rv_w41, rv_w29, rv_w30, rv_w31, rv_w32, rv_w33, rv_w34, rv_w35, rv_w36, rv_w42, rv_w43, rv_w44]
  cases byTag with
  | true =>
    rw [if_pos rfl]
    refine ⟨by decide, fun w => absurd w (by decide), fun _ => ⟨⟨hi, hi2⟩, ⟨hk, hk2⟩, ?_⟩⟩
    rw [x1, y1]
    have e1 : (if zs_lt true Y X then (1 : Int) else 0) = if Y.1 < X.1 then 1 else 0 := by
      show (if decide (Y.1 < X.1) = true then (1 : Int) else 0) = _
      by_cases w : Y.1 < X.1 <;> simp [w]
    rw [e1] at kr
    exact kr
  | false =>
    rw [if_neg (by decide)]
    have e1 : (if B k < B i then B i else B k) = ((max Y.2.length X.2.length : Nat) : Int) := by
      rw [x2, y2]
      by_cases w : Y.2.length < X.2.length
      · rw [if_pos (by omega), Nat.max_eq_right (by omega)]
      · rw [if_neg (by omega), Nat.max_eq_left (by omega)]
    rw [e1]
    have loop : ∀ (n : Nat) (j : Int) (xs ys : List Int) (w : Option (Int × Int)), ((max Y.2.length X.2.length : Nat) : Int) - j = n → 0 ≤ j → xs.length = (B i - j).toNat → ys.length = (B k - j).toNat → zr o (A i + j) xs → zr o (A k + j) ys → zs_all xs → zs_all ys → ym_Rt sc P K (some (ym_I (if zs_bl n ys xs then 1 else 0))) (rv s p l g x c e z b f F q A B C h o W S) → ym_Go sc P K (111, 60, [some (ym_P 12), some (ym_I i), some (ym_I k), some (ym_I 0), some (ym_I ((max Y.2.length X.2.length : Nat) : Int)), some (ym_I j), w.map (fun v => ym_I v.1), w.map (fun v => ym_I v.2)], []) (rv s p l g x c e z b f F q A B C h o W S) := by
      intro n
      induction n with
      | zero =>
        intro j xs ys w hn hj hxl hyl hzx hzy hax hay kr2
        cases w
        · exact sg_111_60 (zy H) _ _ _ _ _ ⟨⟨by omega, by omega⟩, ⟨by omega, by omega⟩, fun v => by exfalso; omega, fun _ => kr2⟩
        · exact sg_111_60b (zy H) _ _ _ _ _ _ _ ⟨⟨by omega, by omega⟩, ⟨by omega, by omega⟩, fun v => by exfalso; omega, fun _ => kr2⟩
      | succ n ih =>
        intro j xs ys w hn hj hxl hyl hzx hzy hax hay kr2
        have e2 := zr_hd hzx hxl
        have e3 := zr_hd hzy hyl
        obtain ⟨b1, b2⟩ := zs_all_hd hax
        obtain ⟨b3, b4⟩ := zs_all_hd hay
        have go : xs.headD 0 = ys.headD 0 → ym_Go sc P K (111, 60, [some (ym_P 12), some (ym_I i), some (ym_I k), some (ym_I 0), some (ym_I ((max Y.2.length X.2.length : Nat) : Int)), some (ym_I (j + 1)), some (ym_I (xs.headD 0)), some (ym_I (ys.headD 0))], []) (rv s p l g x c e z b f F q A B C h o W S) := by
          intro he
          rw [zs_bl, if_pos he.symm] at kr2
          refine ih (j + 1) xs.tail ys.tail (some (xs.headD 0, ys.headD 0)) (by omega) (by omega) (by rw [List.length_tail]; omega) (by rw [List.length_tail]; omega) ?_ ?_ (zs_all_tl hax) (zs_all_tl hay) kr2
          · rw [show A i + (j + 1) = A i + j + 1 by omega]; exact zr_tl hzx
          · rw [show A k + (j + 1) = A k + j + 1 by omega]; exact zr_tl hzy
        have fin : ¬ xs.headD 0 = ys.headD 0 → ym_Rt sc P K (some (ym_I (if ys.headD 0 < xs.headD 0 then 1 else 0))) (rv s p l g x c e z b f F q A B C h o W S) := by
          intro he
          have he2 : ¬ ys.headD 0 = xs.headD 0 := fun v => he v.symm
          rw [zs_bl, if_neg he2] at kr2
          rw [show (if decide (ys.headD 0 < xs.headD 0) = true then (1 : Int) else 0) = if ys.headD 0 < xs.headD 0 then 1 else 0 by by_cases v : ys.headD 0 < xs.headD 0 <;> simp [v]] at kr2
          exact kr2
        cases w
        · refine sg_111_60 (zy H) _ _ _ _ _ ⟨⟨by omega, by omega⟩, ⟨by omega, by omega⟩, fun _ => ?_, fun v => by exfalso; omega⟩
          simp only [rv_12_20, rv_12_21, rv_12_22, rv_12_23, rv_12_24, rv_12_25, rv_12_26, rv_12_28, rv_12_38, rv_12_42, rv_12_0, rv_12_1, rv_12_15, rv_12_16, rv_12_18, rv_28, rv_37, rv_38, rv_39, rv_40, rv_41, rv_29, rv_30, rv_31, rv_32, rv_33, rv_34, rv_35, rv_36, rv_42, rv_43, rv_44, rv_13, rv_14, rv_15, rv_16, rv_17, rv_18, rv_19, rv_20, rv_21, rv_22, rv_23, rv_24, rv_25, rv_26, rv_27, rv_r, rv_w12_20, rv_w12_21, rv_w12_22, rv_w12_23, rv_w12_24, rv_w12_25, rv_w12_26, rv_w12_28, rv_w12_38, rv_w12_42, rv_w28, rv_w37, rv_w38, rv_w39, rv_w40, rv_w41, rv_w29, rv_w30, rv_w31, rv_w32, rv_w33, rv_w34, rv_w35, rv_w36, rv_w42, rv_w43, rv_w44]
          rw [e2, e3]
          exact ⟨⟨hi, hi2⟩, ⟨⟨by omega, by omega⟩, fun _ => ⟨⟨hi, hi2⟩, by omega, by omega⟩⟩, ⟨hk, hk2⟩, ⟨⟨by omega, by omega⟩, fun _ => ⟨⟨hk, hk2⟩, by omega, by omega⟩⟩, ⟨by omega, by omega⟩, ⟨by omega, by omega⟩, go, fun v => ⟨⟨⟨by omega, by omega⟩, ⟨by omega, by omega⟩⟩, fin v⟩⟩
        · refine sg_111_60b (zy H) _ _ _ _ _ _ _ ⟨⟨by omega, by omega⟩, ⟨by omega, by omega⟩, fun _ => ?_, fun v => by exfalso; omega⟩
          simp only [rv_12_20, rv_12_21, rv_12_22, rv_12_23, rv_12_24, rv_12_25, rv_12_26, rv_12_28, rv_12_38, rv_12_42, rv_12_0, rv_12_1, rv_12_15, rv_12_16, rv_12_18, rv_28, rv_37, rv_38, rv_39, rv_40, rv_41, rv_29, rv_30, rv_31, rv_32, rv_33, rv_34, rv_35, rv_36, rv_42, rv_43, rv_44, rv_13, rv_14, rv_15, rv_16, rv_17, rv_18, rv_19, rv_20, rv_21, rv_22, rv_23, rv_24, rv_25, rv_26, rv_27, rv_r, rv_w12_20, rv_w12_21, rv_w12_22, rv_w12_23, rv_w12_24, rv_w12_25, rv_w12_26, rv_w12_28, rv_w12_38, rv_w12_42, rv_w28, rv_w37, rv_w38, rv_w39, rv_w40, rv_w41, rv_w29, rv_w30, rv_w31, rv_w32, rv_w33, rv_w34, rv_w35, rv_w36, rv_w42, rv_w43, rv_w44]
          rw [e2, e3]
          exact ⟨⟨hi, hi2⟩, ⟨⟨by omega, by omega⟩, fun _ => ⟨⟨hi, hi2⟩, by omega, by omega⟩⟩, ⟨hk, hk2⟩, ⟨⟨by omega, by omega⟩, fun _ => ⟨⟨hk, hk2⟩, by omega, by omega⟩⟩, ⟨by omega, by omega⟩, ⟨by omega, by omega⟩, go, fun v => ⟨⟨⟨by omega, by omega⟩, ⟨by omega, by omega⟩⟩, fin v⟩⟩
    refine ⟨by decide, fun _ => ⟨⟨hi, hi2⟩, ⟨hk, hk2⟩, ⟨fun _ => ⟨hi, hi2⟩, fun _ => ⟨hk, hk2⟩⟩, ?_⟩, fun w => absurd rfl w⟩
    have hm : max Y.2.length X.2.length ≤ 9000 := Nat.max_le.mpr ⟨by omega, by omega⟩
    exact loop (max Y.2.length X.2.length) 0 X.2 Y.2 none (by omega) (by decide) (by omega) (by omega) (by rw [Int.add_zero]; exact x3) (by rw [Int.add_zero]; exact y3) aX aY kr
end
