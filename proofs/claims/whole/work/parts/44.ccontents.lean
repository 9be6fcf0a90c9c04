/-! The class' contents of simple types: own work. -/
/-- a type's cell -/
def zT (s : ym_S) (k : Nat) (f g bd : Int) (lo hi : Int64) : Prop := ym_T s k = some (5, 0) ∧ 9 < k ∧ s.1 k 0 = f ∧ s.1 k 1 = g ∧ s.1 k 2 = bd ∧ s.2.1 k 3 = lo ∧ s.2.1 k 4 = hi
section
variable {sc : xm_S} {P : xm_O → xm_H → Prop} {K : List ym_F} {s : ym_S} {p g c i e w u q : Int} {m : Int64} {o : Int → Int} {r : Int → Int} {N l : Int} {k : Nat} {ff gg bd : Int} {lo hi : Int64}
theorem cc_29 (H : zh sc K 0) (hT : zT s k ff gg bd lo hi) {b : Int64} (kr : ym_Rt sc P K (some (ym_I (if zs_kp bd lo hi b.toInt then 1 else 0))) (zc s p g c i e w u q m o)) : ym_Go sc P K (29, 0, [some (ym_Q k), some (ym_J b), none], []) (zc s p g c i e w u q m o) := by
  obtain ⟨t1, t2, t3, t4, t5, t6, t7⟩ := hT
  refine sg_29_0 (zy H) _ _ ⟨t1, ?_⟩
  rw [zc_hi t2, zc_hj t2, zc_hj t2, t5, t6, t7]
  have e1 : (if bd = 0 then (1 : Int) else (if ym_cmp b lo < 0 then (0 : Int) else (if 0 < ym_cmp b hi then (0 : Int) else 1))) = if zs_kp bd lo hi b.toInt then 1 else 0 := by
    unfold zs_kp
    by_cases h1 : bd = 0
    · simp [h1]
    · by_cases h2 : ym_cmp b lo < 0
      · have := zl_lt.mp h2
        rw [if_neg h1, if_pos h2]
        simp [h1]
        omega
      · have h3 : ¬ b.toInt < lo.toInt := fun z => h2 (zl_lt.mpr z)
        by_cases h4 : 0 < ym_cmp b hi
        · have := zl_gt.mp h4
          rw [if_neg h1, if_neg h2, if_pos h4]
          simp [h1]
          omega
        · have h5 : ¬ hi.toInt < b.toInt := fun z => h4 (zl_gt.mpr z)
          rw [if_neg h1, if_neg h2, if_neg h4]
          simp [h1]
          omega
  rw [e1]
  exact kr
theorem cc_67 (H : zh sc K 8) (hI : zIn s r N) (hp : 0 ≤ p) (hpe : p ≤ e) (he : e ≤ N) (hi : i = 0 ∨ i = 1) (hq : 0 ≤ q) (hqp : q + 1 ≤ p) (kx : zs_bits r c i e p = none → zBad sc P K s) (kr : ∀ l b, zs_bits r c i e p = some (l, b) → ∀ g2 c2 i2 e2 u2, ym_Rt sc P K none (zc s b g2 c2 i2 e2 w u2 (q+l.length) m (za o q l))) : ym_Go sc P K (67, 0, [some (ym_P 7), none, none], []) (zc s p g c i e w u q m o) := by
  have hN := hI.2.1
  refine sg_67_0 (zy H) ?_
  simp only [zc_7_2, zc_7_3, zc_7_4, zc_7_5, zc_7_6, zc_7_8, zc_7_9, zc_8_1, zc_7_7, zc_9, zc_1, zc_2, zc_3, zc_4, zc_5, zc_6, zc_10, zc_11, zc_r, zc_w7_2, zc_w7_3, zc_w7_4, zc_w7_5, zc_w7_6, zc_w7_8, zc_w7_9, zc_w8_1, zc_w7_7, zc_w9, zc_p9]
  refine cc_44 (zm (zk H) (by omega)) (by decide) hq (by omega) (ym_rt_cons (sg_67_21 (zy H) _ ?_))
  have := cc_69 (sc := sc) (P := P) hI true 4 (Nat.le_refl _)
  refine this _ _ _ _ _ _ _ _ _ _ _ (zm (zk H) (by omega)) hp hpe he hi (by omega) hqp (fun z => zbc (kx (by unfold zs_bits; rw [z]; rfl)) (by decide) (by decide)) (fun l u2 b h g2 c2 i2 e2 => ym_rt_cons (sg_67_27 (zy H) _ ?_))
  obtain ⟨⟨q1, q2, q3, q4, q5, q6⟩, q7⟩ := zs_st_ok hI.2.2.1 true 4 _ _ _ _ _ _ he hp hpe h
  change ((l.length : Nat) : Int) ≤ b - p at q1
  change b ≤ e at q3
  change zs_all l at q4
  obtain ⟨u0, u7⟩ := q5 ⟨by omega, by omega⟩
  change 0 ≤ u2 at u0
  change u2 ≤ 7 at u7
  have kr2 := kr _ _ (by unfold zs_bits; rw [h]; rfl) g2 c2 i2 e2 u2
  have e1 : za (zu o q 0) (q + 1) l = za o q (0 :: l) := rfl
  simp only [zc_7_2, zc_7_3, zc_7_4, zc_7_5, zc_7_6, zc_7_8, zc_7_9, zc_8_1, zc_7_7, zc_9, zc_1, zc_2, zc_3, zc_4, zc_5, zc_6, zc_10, zc_11, zc_r, zc_w7_2, zc_w7_3, zc_w7_4, zc_w7_5, zc_w7_6, zc_w7_8, zc_w7_9, zc_w8_1, zc_w7_7, zc_w9, zc_p9]
  rw [e1]
  refine ⟨⟨by omega, by omega⟩, ⟨by omega, by omega⟩, fun h1 => ⟨⟨by omega, by omega⟩, ⟨by omega, by omega⟩, ⟨by omega, by omega⟩, ?_⟩, fun h1 => ?_⟩
  · have hl : l ≠ [] := fun z => by rw [z] at h1; simp at h1
    have hlen : 0 < l.length := List.length_pos_iff.mpr hl
    have e2 : zu (za o q (0 :: l)) q u2 = za o q (u2 :: l) := by
      have := za_set (0 :: l) o q 0 u2 (by simp)
      rw [show q + ((0 : Nat) : Int) = q by omega] at this
      exact this
    rw [e2, show q + 1 + (l.length : Int) - 1 = q + ((l.length : Nat) : Int) by omega]
    have e3 : za o q (u2 :: l) (q + (l.length : Int)) = l.getLast hl := by
      rw [za_get _ _ _ _ (by simp), List.getLast_eq_getElem]
      rw [List.getElem_cons, dif_neg (by omega)]
    have hx := q4 _ (List.getLast_mem hl)
    obtain ⟨n, rfl⟩ := zn_nat u0
    have hn : n = 0 ∨ n = 1 ∨ n = 2 ∨ n = 3 ∨ n = 4 ∨ n = 5 ∨ n = 6 ∨ n = 7 := by omega
    have e4 : ym_shl (ym_shr (l.getLast hl) (n : Int)) (n : Int) = l.getLast hl / ((2 ^ n : Nat) : Int) * ((2 ^ n : Nat) : Int) := by
      have hb : (0 : Int) < ((2 ^ n : Nat) : Int) := Int.natCast_pos.mpr (Nat.two_pow_pos n)
      have hm := Int.ediv_mul_le (l.getLast hl) (b := ((2 ^ n : Nat) : Int)) (by omega)
      rw [zn_shr n (by omega) hx.1 (by omega), zn_shl n (by omega) (Int.ediv_nonneg hx.1 (by omega)) (by omega)]
    rw [e3, e4]
    have e5 : zu (za o q ((n : Int) :: l)) (q + (l.length : Int)) (l.getLast hl / ((2 ^ n : Nat) : Int) * ((2 ^ n : Nat) : Int)) = za o q ((n : Int) :: zs_mk (n : Int) l) := by
      rw [za_set _ _ _ _ _ (by simp), ← zs_mk_set (n : Int) l hl]
      congr 1
      cases l with
      | nil => exact absurd rfl hl
      | cons x t => rfl
    rw [e5]
    rw [if_neg hl, List.length_cons, zs_mk_len] at kr2
    rw [show q + 1 + (l.length : Int) = q + ((l.length + 1 : Nat) : Int) by omega]
    exact kr2
  · have hl : l = [] := by
      cases l with
      | nil => rfl
      | cons x t => rw [List.length_cons] at h1; omega
    subst hl
    rw [if_pos rfl] at kr2
    rw [show q + 1 + (([] : List Int).length : Int) = q + (([0] : List Int).length : Int) by simp]
    exact kr2
theorem cc_72 (H : zh sc K 0) (a1 : Int) : ∀ (t : List Int) (a : Int), a + t.length = q → q ≤ 200 → 0 ≤ a → zr o a t → (t.all (fun x => decide (x < 128)) = false → zBad sc P K s) → (t.all (fun x => decide (x < 128)) = true → ym_Rt sc P K none (zc s p g c i e w u q m o)) → ym_Go sc P K (72, 2, [some (ym_P 7), some (ym_I a1), some (ym_I a)], []) (zc s p g c i e w u q m o)
  | [], a, hq, hq2, ha, hz, kx, kr => by
    refine sg_72_2 (zy H) _ _ ?_
    simp only [zc_7_2, zc_7_3, zc_7_4, zc_7_5, zc_7_6, zc_7_8, zc_7_9, zc_8_1, zc_7_7, zc_9, zc_1, zc_2, zc_3, zc_4, zc_5, zc_6, zc_10, zc_11, zc_r, zc_w7_2, zc_w7_3, zc_w7_4, zc_w7_5, zc_w7_6, zc_w7_8, zc_w7_9, zc_w8_1, zc_w7_7, zc_w9, zc_p9]
    simp at hq
    exact ⟨⟨by omega, by omega⟩, fun z => by exfalso; omega, fun _ => kr rfl⟩
  | x :: t, a, hq, hq2, ha, hz, kx, kr => by
    rw [List.length_cons] at hq
    refine sg_72_2 (zy H) _ _ ?_
    simp only [zc_7_2, zc_7_3, zc_7_4, zc_7_5, zc_7_6, zc_7_8, zc_7_9, zc_8_1, zc_7_7, zc_9, zc_1, zc_2, zc_3, zc_4, zc_5, zc_6, zc_10, zc_11, zc_r, zc_w7_2, zc_w7_3, zc_w7_4, zc_w7_5, zc_w7_6, zc_w7_8, zc_w7_9, zc_w8_1, zc_w7_7, zc_w9, zc_p9]
    rw [hz.1]
    refine ⟨⟨by omega, by omega⟩, fun _ => ⟨⟨by omega, by omega⟩, fun h => ?_, fun h => kx ?_ _ _ _ _ _ _ _ _ _ _⟩, fun z => by exfalso; omega⟩
    · refine cc_72 H a1 t (a + 1) (by omega) hq2 (by omega) hz.2 (fun z => kx ?_) (fun z => kr ?_)
      · rw [List.all_cons, z]; simp
      · rw [List.all_cons, z]; simp [h]
    · rw [List.all_cons]
      simp
      intro z
      omega
theorem cc_74 (H : zh sc K 0) {x : Int} (h0 : 0 ≤ x) (h1 : x < 256) {s : ym_S} (kr : ym_Rt sc P K (some (ym_I (zs_fol x))) s) : ym_Go sc P K (74, 0, [some (ym_I x)], []) s := by
  have hr : ∀ y, zs_fol x = y → ym_Rt sc P K (some (ym_I y)) s := fun y hy => hy ▸ kr
  refine sg_74_0 (zy H) _ ⟨⟨by omega, by omega⟩, fun a => hr _ ?_, fun a => ⟨⟨by omega, by omega⟩, fun b => hr _ ?_, fun b => ⟨⟨by omega, by omega⟩, fun d => ⟨⟨by omega, by omega⟩, fun f => hr _ ?_, fun f => ⟨⟨by omega, by omega⟩, hr _ ?_⟩⟩, fun d => hr _ ?_⟩⟩⟩
  · unfold zs_fol; rw [if_pos a]
  · unfold zs_fol; rw [if_neg (by omega), if_pos b]
  · unfold zs_fol; rw [if_neg (by omega), if_neg (by omega), if_neg (by omega), if_pos f]
  · unfold zs_fol; rw [if_neg (by omega), if_neg (by omega), if_neg (by omega), if_neg (by omega)]
  · unfold zs_fol; rw [if_neg (by omega), if_neg (by omega), if_pos d]
theorem cc_75 (H : zh sc K 0) {x : Int} (h0 : -1 ≤ x) (h1 : x < 256) {s : ym_S} (kr : ym_Rt sc P K (some (ym_I (zs_lst x))) s) : ym_Go sc P K (75, 0, [some (ym_I x)], []) s := by
  have hr : ∀ y, zs_lst x = y → ym_Rt sc P K (some (ym_I y)) s := fun y hy => hy ▸ kr
  refine sg_75_0 (zy H) _ ⟨⟨by omega, by omega⟩, fun a => ⟨⟨by omega, by omega⟩, fun b => hr _ ?_, fun b => ⟨⟨by omega, by omega⟩, hr _ ?_⟩⟩, fun a => hr _ ?_⟩
  · unfold zs_lst; rw [if_neg (by omega), if_pos b]
  · unfold zs_lst; rw [if_neg (by omega), if_neg b]
  · unfold zs_lst; rw [if_pos a]
theorem cc_76 (H : zh sc K 0) {x y : Int} (h0 : 0 ≤ x) (h1 : x < 2147483648) (h2 : ym_in y) {s : ym_S} (kr : ym_Rt sc P K (some (ym_I (if zs_ch x y then 1 else 0))) s) : ym_Go sc P K (76, 0, [some (ym_I x), some (ym_I y)], []) s := by
  refine sg_76_0 (zy H) _ _ ⟨⟨⟨by omega, by omega⟩, h2, fun _ => ⟨⟨by omega, by omega⟩, fun _ => ⟨⟨by omega, by omega⟩, fun _ => ⟨by omega, by omega⟩⟩⟩⟩, ?_⟩
  have e1 : (if x < y then (0 : Int) else (if 1114111 < x then (0 : Int) else (if x < 55296 then (1 : Int) else (if 57343 < x then (1 : Int) else 0)))) = if zs_ch x y then 1 else 0 := by
    unfold zs_ch
    by_cases a : x < y
    · rw [if_pos a]
      simp
      omega
    · by_cases b : 1114111 < x
      · rw [if_neg a, if_pos b]
        simp
        omega
      · by_cases d : x < 55296
        · rw [if_neg a, if_neg b, if_pos d]
          simp
          omega
        · by_cases f : 57343 < x
          · rw [if_neg a, if_neg b, if_neg d, if_pos f]
            simp
            omega
          · rw [if_neg a, if_neg b, if_neg d, if_neg f]
            simp
            omega
  rw [e1]
  exact kr
theorem zs_fol_b (x : Int) : -1 ≤ zs_fol x ∧ zs_fol x ≤ 3 := by
  unfold zs_fol
  repeat' split
  all_goals omega
theorem zs_lst_b (x : Int) : 0 ≤ zs_lst x ∧ zs_lst x ≤ 65536 := by
  unfold zs_lst
  repeat' split
  all_goals omega
theorem cc_cod {x : Int} (h0 : 0 ≤ x) (h1 : x < 256) {f : Int} (hf : -1 ≤ f) (hf3 : f ≤ 3) : (if 0 < f then (ym_and x (ym_shr 63 f) : Int) else x) = zs_cod f x := by
  unfold zs_cod
  by_cases a : f ≤ 0
  · rw [if_pos a, if_neg (by omega)]
  · rw [if_neg a, if_pos (by omega)]
    have : f = 1 ∨ f = 2 ∨ f = 3 := by omega
    rcases this with rfl | rfl | rfl
    · exact zn_mod 5 h0 (by omega) (by decide)
    · exact zn_mod 4 h0 (by omega) (by decide)
    · exact zn_mod 3 h0 (by omega) (by decide)
theorem cc_73 (H : zh sc K 1) (a1 : Int) : ∀ (t : List Int) (a cnt miss code least : Int) (x7 : Option Int), a + t.length = q → q ≤ 200 → 0 ≤ a → zr o a t → zs_all t → 0 ≤ cnt → cnt ≤ a → 0 ≤ miss → miss ≤ 3 → 0 ≤ code → code < 2097152 → (miss = 1 → code < 32768) → (miss = 2 → code < 512) → (miss = 3 → code < 8) → 0 ≤ least → least ≤ 65536 → (zs_ut t miss code least cnt = none → zBad sc P K s) → (∀ n, zs_ut t miss code least cnt = some n → ym_Rt sc P K (some (ym_I n)) (zc s p g c i e w u q m o)) → ym_Go sc P K (73, 13, [some (ym_P 7), some (ym_I a1), some (ym_I cnt), some (ym_I miss), some (ym_I code), some (ym_I least), some (ym_I a), x7.map ym_I], []) (zc s p g c i e w u q m o)
  | [], a, cnt, miss, code, least, x7, hq, hq2, ha, hz, hall, hc0, hc1, hm0, hm3, hcd0, hcd, hm1, hm2, hm33, hl0, hl, kx, kr => by
    simp at hq
    cases x7
    all_goals
      first | refine sg_73_13 (zy H) _ _ _ _ _ _ ?_ | refine sg_73_13b (zy H) _ _ _ _ _ _ _ ?_
      simp only [zc_7_2, zc_7_3, zc_7_4, zc_7_5, zc_7_6, zc_7_8, zc_7_9, zc_8_1, zc_7_7, zc_9, zc_1, zc_2, zc_3, zc_4, zc_5, zc_6, zc_10, zc_11, zc_r, zc_w7_2, zc_w7_3, zc_w7_4, zc_w7_5, zc_w7_6, zc_w7_8, zc_w7_9, zc_w8_1, zc_w7_7, zc_w9, zc_p9]
      refine ⟨⟨by omega, by omega⟩, fun z => by exfalso; omega, fun _ => ⟨⟨by omega, by omega⟩, fun h => kr _ (by rw [zs_ut, if_pos h]), fun h => kx (by rw [zs_ut, if_neg h]) _ _ _ _ _ _ _ _ _ _⟩⟩
  | x :: t, a, cnt, miss, code, least, x7, hq, hq2, ha, hz, hall, hc0, hc1, hm0, hm3, hcd0, hcd, hm1, hm2, hm33, hl0, hl, kx, kr => by
    rw [List.length_cons] at hq
    obtain ⟨x0, x1⟩ := hall x (List.mem_cons_self ..)
    have hall2 : zs_all t := fun y hy => hall y (List.mem_cons_of_mem _ hy)
    have hb := zs_fol_b x
    have hlb := zs_lst_b (zs_fol x)
    cases x7
    all_goals
      first | refine sg_73_13 (zy H) _ _ _ _ _ _ ?_ | refine sg_73_13b (zy H) _ _ _ _ _ _ _ ?_
      simp only [zc_7_2, zc_7_3, zc_7_4, zc_7_5, zc_7_6, zc_7_8, zc_7_9, zc_8_1, zc_7_7, zc_9, zc_1, zc_2, zc_3, zc_4, zc_5, zc_6, zc_10, zc_11, zc_r, zc_w7_2, zc_w7_3, zc_w7_4, zc_w7_5, zc_w7_6, zc_w7_8, zc_w7_9, zc_w8_1, zc_w7_7, zc_w9, zc_p9]
      rw [hz.1, zn_shr6 x0 (by omega)]
      refine ⟨⟨by omega, by omega⟩, fun _ => ⟨⟨by omega, by omega⟩, ⟨by omega, by omega⟩, fun h1 => ?_, fun h1 => ?_⟩, fun z => by exfalso; omega⟩
      · rw [zs_ut, if_pos h1] at kx kr
        by_cases h2 : x / 64 = 2
        · rw [if_pos h2] at kx kr ⊢
          have hc2 : code < 32768 := by
            have : miss = 1 ∨ miss = 2 ∨ miss = 3 := by omega
            rcases this with h | h | h
            · exact hm1 h
            · have := hm2 h; omega
            · have := hm33 h; omega
          have e1 : ym_or (ym_shl code 6) (ym_and x 63) = code * 64 + x % 64 := by
            rw [zn_63 x0 (by omega), zn_shl6 hcd0 (by omega), zn_or6 hcd0 (by omega) (by omega) (by omega)]
          rw [e1]
          refine ⟨⟨by omega, by omega⟩, fun z => by exfalso; omega, fun _ => ⟨⟨by omega, by omega⟩, fun h3 => ?_, fun h3 => ?_⟩⟩
          · rw [if_pos (by omega)] at kx kr
            refine cc_76 (zk H) (by omega) (by omega) ⟨by omega, by omega⟩ (ym_rt_cons (sg_73_122 (zy H) _ _ _ _ _ _ _ _ ?_))
            cases hch : zs_ch (code * 64 + x % 64) least with
            | false =>
              rw [hch] at kx
              exact ⟨by decide, fun _ => kx rfl _ _ _ _ _ _ _ _ _ _, fun z => absurd rfl z⟩
            | true =>
              rw [hch, if_pos rfl] at kx kr
              refine ⟨by decide, fun z => absurd z (by decide), fun _ => ?_⟩
              rw [h3]
              exact cc_73 H a1 t (a + 1) cnt 0 (code * 64 + x % 64) least (some x) (by omega) hq2 (by omega) hz.2 hall2 hc0 (by omega) (by omega) (by omega) (by omega) (by omega) (fun z => by exfalso; omega) (fun z => by exfalso; omega) (fun z => by exfalso; omega) hl0 hl kx kr
          · rw [if_neg (by omega)] at kx kr
            refine cc_73 H a1 t (a + 1) cnt (miss - 1) (code * 64 + x % 64) least (some x) (by omega) hq2 (by omega) hz.2 hall2 hc0 (by omega) (by omega) (by omega) (by omega) (by omega) (fun z => ?_) (fun z => ?_) (fun z => by exfalso; omega) hl0 hl kx kr
            · have := hm2 (by omega); omega
            · have := hm33 (by omega); omega
        · rw [if_neg h2] at kx ⊢
          exact ⟨by decide, fun _ => kx rfl _ _ _ _ _ _ _ _ _ _, fun z => absurd z (by decide)⟩
      · rw [zs_ut, if_neg (by omega)] at kx kr
        refine cc_74 (zm (zk H) (by omega)) x0 x1 (ym_rt_cons (sg_73_79 (zy H) _ _ _ _ _ _ _ _ ⟨⟨by omega, by omega⟩, ?_⟩))
        rw [cc_cod x0 x1 hb.1 hb.2]
        refine cc_75 (zm (zk H) (by omega)) (by omega) (by omega) (ym_rt_cons (sg_73_102 (zy H) _ _ _ _ _ _ _ _ ⟨⟨by omega, by omega⟩, fun h2 => ?_, fun h2 => ?_⟩))
        · rw [if_pos h2] at kx
          exact kx rfl _ _ _ _ _ _ _ _ _ _
        · rw [if_neg (by omega)] at kx kr
          refine ⟨⟨by omega, by omega⟩, fun h3 => ?_, fun h3 => ?_⟩
          · rw [if_pos h3] at kx kr
            have e2 : zs_cod (zs_fol x) x = x := by unfold zs_cod; rw [if_pos (by omega)]
            have e3 : zs_lst (zs_fol x) = 0 := by unfold zs_lst; rw [if_pos (by omega)]
            rw [e2, e3, h3]
            refine cc_76 (zk H) (by omega) (by omega) (by decide) (ym_rt_cons (sg_73_122 (zy H) _ _ _ _ _ _ _ _ ?_))
            cases hch : zs_ch x 0 with
            | false =>
              rw [hch] at kx
              exact ⟨by decide, fun _ => kx rfl _ _ _ _ _ _ _ _ _ _, fun z => absurd rfl z⟩
            | true =>
              rw [hch, if_pos rfl] at kx kr
              refine ⟨by decide, fun z => absurd z (by decide), fun _ => ?_⟩
              exact cc_73 H a1 t (a + 1) (cnt + 1) 0 x 0 (some x) (by omega) hq2 (by omega) hz.2 hall2 (by omega) (by omega) (by omega) (by omega) (by omega) (by omega) (fun z => by exfalso; omega) (fun z => by exfalso; omega) (fun z => by exfalso; omega) (by omega) (by omega) kx kr
          · rw [if_neg h3] at kx kr
            have hcod : 0 ≤ zs_cod (zs_fol x) x ∧ zs_cod (zs_fol x) x < 32 ∧ (zs_fol x = 3 → zs_cod (zs_fol x) x < 8) := by
              unfold zs_cod
              rw [if_neg (by omega)]
              repeat' split
              all_goals omega
            exact cc_73 H a1 t (a + 1) (cnt + 1) (zs_fol x) (zs_cod (zs_fol x) x) (zs_lst (zs_fol x)) (some x) (by omega) hq2 (by omega) hz.2 hall2 (by omega) (by omega) (by omega) (by omega) (by omega) (by omega) (fun z => by omega) (fun z => by omega) hcod.2.2 (by omega) (by omega) kx kr
end
