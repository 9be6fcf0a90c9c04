/-! The class' order of encodings, second part: own work. -/
theorem zs_all_tl {l : List Int} (h : zs_all l) : zs_all l.tail := fun x hx => h x (List.mem_of_mem_tail hx)
theorem zs_all_hd {l : List Int} (h : zs_all l) : 0 ≤ l.headD 0 ∧ l.headD 0 < 256 := by
  cases l with
  | nil => exact ⟨by decide, by decide⟩
  | cons x t => exact h x (List.mem_cons_self ..)
theorem zr_tl {o : Int → Int} {l : List Int} {a : Int} (h : zr o a l) : zr o (a + 1) l.tail := by
  cases l with
  | nil => exact trivial
  | cons x t => exact h.2
theorem zr_hd {o : Int → Int} {l : List Int} {a b k : Int} (h : zr o (a + k) l) (hl : l.length = (b - k).toNat) : (if k < b then o (a + k) else 0) = l.headD 0 := by
  cases l with
  | nil =>
    rw [if_neg]
    · rfl
    · simp at hl
      omega
  | cons x t =>
    rw [if_pos]
    · exact h.1
    · rw [List.length_cons] at hl
      omega
section
variable {sc : xm_S} {P : xm_O → xm_H → Prop} {K : List ym_F} {s : ym_S} {p g c i e w u q : Int} {m : Int64} {o : Int → Int} {r : Int → Int} {N : Int}
theorem cc_81l (H : zh sc K 0) (a1 a2 a3 a4 a5 a6 : Int) (h1 : 0 ≤ a1) (h2 : 0 ≤ a2) (h4 : 0 ≤ a4) (h5 : 0 ≤ a5) (h14 : a1 + a4 ≤ 200) (h25 : a2 + a5 ≤ 200) (h6 : a6 ≤ 200) : ∀ (n : Nat) (a7 : Int) (xs ys : List Int) (x : Option (Int × Int)), a6 - a7 = n → 0 ≤ a7 → xs.length = (a4 - a7).toNat → ys.length = (a5 - a7).toNat → zr o (a1 + a7) xs → zr o (a2 + a7) ys → zs_all xs → zs_all ys → ym_Rt sc P K (some (ym_I (if zs_bl n xs ys then 1 else 0))) (zc s p g c i e w u q m o) → ym_Go sc P K (81, 28, [some (ym_P 7), some (ym_I a1), some (ym_I a2), some (ym_I a3), some (ym_I a4), some (ym_I a5), some (ym_I a6), some (ym_I a7), x.map (fun z => ym_I z.1), x.map (fun z => ym_I z.2)], []) (zc s p g c i e w u q m o)
  | 0, a7, xs, ys, x, hn, h7, hx, hy, zx, zy2, ax, ay, kr => by
    cases x
    · exact sg_81_28 (zy H) _ _ _ _ _ _ _ ⟨⟨by omega, by omega⟩, ⟨by omega, by omega⟩, fun z => by exfalso; omega, fun _ => kr⟩
    · exact sg_81_28b (zy H) _ _ _ _ _ _ _ _ _ ⟨⟨by omega, by omega⟩, ⟨by omega, by omega⟩, fun z => by exfalso; omega, fun _ => kr⟩
  | n + 1, a7, xs, ys, x, hn, h7, hx, hy, zx, zy2, ax, ay, kr => by
    have e1 := zr_hd zx hx
    have e2 := zr_hd zy2 hy
    obtain ⟨b1, b2⟩ := zs_all_hd ax
    obtain ⟨b3, b4⟩ := zs_all_hd ay
    have go : xs.headD 0 = ys.headD 0 → ym_Go sc P K (81, 28, [some (ym_P 7), some (ym_I a1), some (ym_I a2), some (ym_I a3), some (ym_I a4), some (ym_I a5), some (ym_I a6), some (ym_I (a7 + 1)), some (ym_I (xs.headD 0)), some (ym_I (ys.headD 0))], []) (zc s p g c i e w u q m o) := by
      intro h
      rw [zs_bl, if_pos h] at kr
      refine cc_81l H a1 a2 a3 a4 a5 a6 h1 h2 h4 h5 h14 h25 h6 n (a7 + 1) xs.tail ys.tail (some (xs.headD 0, ys.headD 0)) (by omega) (by omega) ?_ ?_ ?_ ?_ (zs_all_tl ax) (zs_all_tl ay) kr
      · rw [List.length_tail]; omega
      · rw [List.length_tail]; omega
      · rw [show a1 + (a7 + 1) = a1 + a7 + 1 by omega]; exact zr_tl zx
      · rw [show a2 + (a7 + 1) = a2 + a7 + 1 by omega]; exact zr_tl zy2
    have fin : ¬ xs.headD 0 = ys.headD 0 → ym_Rt sc P K (some (ym_I (if xs.headD 0 < ys.headD 0 then 1 else 0))) (zc s p g c i e w u q m o) := by
      intro h
      rw [zs_bl, if_neg h] at kr
      rw [show (if decide (xs.headD 0 < ys.headD 0) = true then (1 : Int) else 0) = if xs.headD 0 < ys.headD 0 then 1 else 0 by by_cases z : xs.headD 0 < ys.headD 0 <;> simp [z]] at kr
      exact kr
    cases x
    · refine sg_81_28 (zy H) _ _ _ _ _ _ _ ⟨⟨by omega, by omega⟩, ⟨by omega, by omega⟩, fun _ => ⟨⟨⟨by omega, by omega⟩, ⟨by omega, by omega⟩, fun _ => ⟨by omega, by omega⟩⟩, ⟨⟨by omega, by omega⟩, ⟨by omega, by omega⟩, fun _ => ⟨by omega, by omega⟩⟩, ?_⟩, fun z => by exfalso; omega⟩
      simp only [zc_7_2, zc_7_3, zc_7_4, zc_7_5, zc_7_6, zc_7_8, zc_7_9, zc_8_1, zc_7_7, zc_9, zc_1, zc_2, zc_3, zc_4, zc_5, zc_6, zc_10, zc_11, zc_r, zc_w7_2, zc_w7_3, zc_w7_4, zc_w7_5, zc_w7_6, zc_w7_8, zc_w7_9, zc_w8_1, zc_w7_7, zc_w9, zc_p9]
      rw [e1, e2]
      exact ⟨⟨by omega, by omega⟩, ⟨by omega, by omega⟩, go, fun h => ⟨⟨⟨by omega, by omega⟩, ⟨by omega, by omega⟩⟩, fin h⟩⟩
    · refine sg_81_28b (zy H) _ _ _ _ _ _ _ _ _ ⟨⟨by omega, by omega⟩, ⟨by omega, by omega⟩, fun _ => ⟨⟨⟨by omega, by omega⟩, ⟨by omega, by omega⟩, fun _ => ⟨by omega, by omega⟩⟩, ⟨⟨by omega, by omega⟩, ⟨by omega, by omega⟩, fun _ => ⟨by omega, by omega⟩⟩, ?_⟩, fun z => by exfalso; omega⟩
      simp only [zc_7_2, zc_7_3, zc_7_4, zc_7_5, zc_7_6, zc_7_8, zc_7_9, zc_8_1, zc_7_7, zc_9, zc_1, zc_2, zc_3, zc_4, zc_5, zc_6, zc_10, zc_11, zc_r, zc_w7_2, zc_w7_3, zc_w7_4, zc_w7_5, zc_w7_6, zc_w7_8, zc_w7_9, zc_w8_1, zc_w7_7, zc_w9, zc_p9]
      rw [e1, e2]
      exact ⟨⟨by omega, by omega⟩, ⟨by omega, by omega⟩, go, fun h => ⟨⟨⟨by omega, by omega⟩, ⟨by omega, by omega⟩⟩, fin h⟩⟩
theorem cc_81 (H : zh sc K 0) {a1 a2 : Int} {X Y : List Int} (h1 : 0 ≤ a1) (h2 : 0 ≤ a2) (hq : q = a1 + X.length) (hq2 : q ≤ 200) (hY : a2 + Y.length ≤ 200) (zX : zr o a1 X) (zY : zr o a2 Y) (aX : zs_all X) (aY : zs_all Y) (kr : ym_Rt sc P K (some (ym_I (if zs_blt X Y then 1 else 0))) (zc s p g c i e w u q m o)) : ym_Go sc P K (81, 0, [some (ym_P 7), some (ym_I a1), some (ym_I a2), some (ym_I (a2 + Y.length)), none, none, none, none, none, none], []) (zc s p g c i e w u q m o) := by
  refine sg_81_0 (zy H) _ _ _ ?_
  simp only [zc_7_2, zc_7_3, zc_7_4, zc_7_5, zc_7_6, zc_7_8, zc_7_9, zc_8_1, zc_7_7, zc_9, zc_1, zc_2, zc_3, zc_4, zc_5, zc_6, zc_10, zc_11, zc_r, zc_w7_2, zc_w7_3, zc_w7_4, zc_w7_5, zc_w7_6, zc_w7_8, zc_w7_9, zc_w8_1, zc_w7_7, zc_w9, zc_p9]
  rw [show q - a1 = (X.length : Int) by omega, show a2 + (Y.length : Int) - a2 = (Y.length : Int) by omega]
  have e1 : (if (X.length : Int) < (Y.length : Int) then (Y.length : Int) else (X.length : Int)) = ((max X.length Y.length : Nat) : Int) := by
    by_cases h : X.length < Y.length
    · rw [if_pos (by omega), Nat.max_eq_right (by omega)]
    · rw [if_neg (by omega), Nat.max_eq_left (by omega)]
  rw [e1]
  have hm : max X.length Y.length ≤ 200 := Nat.max_le.mpr ⟨by omega, by omega⟩
  refine ⟨⟨by omega, by omega⟩, ⟨by omega, by omega⟩, cc_81l H a1 a2 _ _ _ _ h1 h2 (by omega) (by omega) (by omega) hY (by omega) (max X.length Y.length) 0 X Y none (by omega) (by omega) (by omega) (by omega) ?_ ?_ aX aY kr⟩
  · rw [Int.add_zero]; exact zX
  · rw [Int.add_zero]; exact zY
theorem zs_fl_len_cons (y : Int × List Int) (t : List (Int × List Int)) : ((zs_fl (y :: t)).length : Int) = y.2.length + (zs_fl t).length := by
  rw [zs_fl, List.length_append]
  omega
theorem cc_80l (H : zh sc K 2) (byTag : Bool) (x : Int × List Int) (hx : zs_kd x) (a1 a2 a3 : Int) (h3 : a3 = if byTag then 1 else 0) (hq : q = a2 + x.2.length) (hq2 : q ≤ 200) (ha2 : 0 ≤ a2) (hzx : zr o a2 x.2) : ∀ (T : List (Int × List Int)) (a4 a5 : Int) (x6 : Option Int), (∀ y ∈ T, zs_kd y) → a4 + (zs_fl T).length = a2 → zr o a4 (zs_fl T) → 0 ≤ a4 → 0 ≤ a5 → 2 * a5 ≤ a4 → (∀ o2 : Int → Int, (∀ j, j < a4 → o2 j = o j) → zr o2 a4 (zs_fl (zs_ins byTag x T)) → ym_Rt sc P K none (zc s p g c i e w u q m o2)) → ym_Go sc P K (80, 18, [some (ym_P 7), some (ym_I a1), some (ym_I a2), some (ym_I a3), some (ym_I a4), some (ym_I a5), x6.map ym_I], []) (zc s p g c i e w u q m o)
  | [], a4, a5, x6, hT, h4, hz, h40, h5, h54, kr => by
    have e1 : a4 = a2 := by
      have : ((zs_fl []).length : Int) = 0 := rfl
      omega
    subst e1
    have fin := kr o (fun _ _ => rfl) (by show zr o a4 (x.2 ++ []); rw [List.append_nil]; exact hzx)
    cases x6
    · exact sg_80_18 (zy H) _ _ _ _ _ ⟨⟨by omega, by omega⟩, fun _ => ⟨⟨by omega, by omega⟩, ⟨by omega, by omega⟩, fun z => by exfalso; omega, fun _ => ⟨⟨by omega, by omega⟩, ⟨by omega, by omega⟩, fun z => by exfalso; omega, fun _ => fin⟩⟩, fun z => by exfalso; omega⟩
    · exact sg_80_18b (zy H) _ _ _ _ _ _ ⟨⟨by omega, by omega⟩, fun _ => ⟨⟨by omega, by omega⟩, ⟨by omega, by omega⟩, fun z => by exfalso; omega, fun _ => ⟨⟨by omega, by omega⟩, ⟨by omega, by omega⟩, fun z => by exfalso; omega, fun _ => fin⟩⟩, fun z => by exfalso; omega⟩
  | y :: T, a4, a5, x6, hT, h4, hz, h40, h5, h54, kr => by
    have hy := hT y (List.mem_cons_self ..)
    obtain ⟨y1, y2, y3, cy, ly, y4, y5⟩ := hy
    obtain ⟨x1, x2, x3, cx, lx, x4, x5⟩ := hx
    have hsp := zr_split (l := y.2) (l2 := zs_fl T) hz
    have hlen := zs_fl_len_cons y T
    have ylen : 2 ≤ (y.2.length : Int) := by
      rw [y5, zs_enc_len]
      have := zs_sc_b (y.1 % 2097152)
      split <;> omega
    have hx' : zs_kd x := ⟨x1, x2, x3, cx, lx, x4, x5⟩
    -- the place is found
    have brk : ∀ z6 : Int, zs_lt byTag x y = true → ym_in a4 ∧ ym_in a2 ∧ (a4 < a2 → ym_Go sc P ((80, 108, [some (ym_P 7), some (ym_I a1), some (ym_I a2), some (ym_I a3), some (ym_I a4), some (ym_I a5), some (ym_I z6)], []) :: K) (51, 0, [some (ym_P 8), some (ym_I a4), some (ym_I a2)], []) (zc s p g c i e w u q m o)) ∧ (a2 ≤ a4 → ym_Rt sc P K none (zc s p g c i e w u q m o)) := by
      intro z6 hlt
      refine ⟨⟨by omega, by omega⟩, ⟨by omega, by omega⟩, fun _ => ?_, fun z => by exfalso; omega⟩
      refine cc_51 (zk H) h40 h4.symm hq hq2 hz hzx (fun o2 w1 w2 => ym_rt_cons (sg_80_111b (zy H) _ _ _ _ _ _ (kr o2 w1 ?_)))
      rw [zs_ins, if_pos hlt]
      exact w2
    -- it goes on
    have on : zs_lt byTag x y = false → ym_Go sc P K (80, 18, [some (ym_P 7), some (ym_I a1), some (ym_I a2), some (ym_I a3), some (ym_I (a4 + y.2.length)), some (ym_I (a5 + 1)), some (ym_I (a4 + y.2.length))], []) (zc s p g c i e w u q m o) := by
      intro hlt
      refine cc_80l H byTag x hx' a1 a2 a3 h3 hq hq2 ha2 hzx T (a4 + y.2.length) (a5 + 1) (some _) (fun z hz => hT z (List.mem_cons_of_mem _ hz)) (by omega) hsp.2 (by omega) (by omega) (by omega) (fun o2 w1 w2 => kr o2 (fun j hj => w1 j (by omega)) ?_)
      rw [zs_ins, hlt, if_neg (by decide)]
      exact zr_app (zr_of o o2 y.2 a4 hsp.1 (fun j _ h => w1 j h)) w2
    have cmp : ym_in a3 ∧ (a3 = 0 → ym_Go sc P ((80, 76, [some (ym_P 7), some (ym_I a1), some (ym_I a2), some (ym_I a3), some (ym_I a4), some (ym_I a5), some (ym_I (a4 + y.2.length))], []) :: K) (81, 0, [some (ym_P 7), some (ym_I a2), some (ym_I a4), some (ym_I (a4 + y.2.length)), none, none, none, none, none, none], []) (zc s p g c i e w u q m o)) ∧ (¬ a3 = 0 → ym_Go sc P ((80, 52, [some (ym_P 7), some (ym_I a1), some (ym_I a2), some (ym_I a3), some (ym_I a4), some (ym_I a5), some (ym_I (a4 + y.2.length))], []) :: K) (49, 0, [some (ym_P 8), some (ym_I a2), none, none, none], []) (zc s p g c i e w u q m o)) := by
      cases byTag with
      | false =>
        rw [if_neg (by decide)] at h3
        refine ⟨⟨by omega, by omega⟩, fun _ => ?_, fun z => absurd h3 z⟩
        refine cc_81 (zm (zk H) (by omega)) ha2 h40 hq hq2 (by omega) hzx hsp.1 x3 y3 (ym_rt_cons (sg_80_79 (zy H) _ _ _ _ _ _ _ ?_))
        have e1 : zs_lt false x y = zs_blt x.2 y.2 := rfl
        rw [← e1]
        cases hlt : zs_lt false x y with
        | false => exact ⟨by decide, fun _ => on hlt, fun z => absurd rfl z⟩
        | true => exact ⟨by decide, fun z => absurd z (by decide), fun _ => brk _ hlt⟩
      | true =>
        rw [if_pos rfl] at h3
        refine ⟨⟨by omega, by omega⟩, fun z => by exfalso; omega, fun _ => ?_⟩
        refine cc_49 (zk H) ha2 x1 x2 x4 (by rw [← x5]; exact hzx) (by rw [← x5]; omega) hq2 (ym_rt_cons (sg_80_55 (zy H) _ _ _ _ _ _ _ ?_))
        refine cc_49 (zk H) h40 y1 y2 y4 (by rw [← y5]; exact hsp.1) (by rw [← y5]; omega) hq2 (ym_rt_cons (sg_80_64 (zy H) _ _ _ _ _ _ _ _ ⟨⟨by omega, by omega⟩, ⟨by omega, by omega⟩, fun h => ?_, fun h => ?_⟩))
        · exact brk _ (by show decide (x.1 < y.1) = true; exact decide_eq_true h)
        · exact on (by show decide (x.1 < y.1) = false; exact decide_eq_false (by omega))
    have call : ∀ z6 : Option Int, ym_Go sc P ((80, 38, [some (ym_P 7), some (ym_I a1), some (ym_I a2), some (ym_I a3), some (ym_I a4), some (ym_I a5), z6.map ym_I], []) :: K) (50, 0, [some (ym_P 8), some (ym_I a4), none, none], []) (zc s p g c i e w u q m o) := by
      intro z6
      refine cc_50 (zk H) h40 y1 y2 y4 (by rw [← y5]; exact hsp.1) (by rw [← y5]; omega) hq2 ?_
      rw [← y5]
      cases z6
      · exact ym_rt_cons (sg_80_41 (zy H) _ _ _ _ _ _ cmp)
      · exact ym_rt_cons (sg_80_41b (zy H) _ _ _ _ _ _ _ cmp)
    cases x6
    · exact sg_80_18 (zy H) _ _ _ _ _ ⟨⟨by omega, by omega⟩, fun _ => ⟨⟨by omega, by omega⟩, ⟨by omega, by omega⟩, fun _ => call none, fun z => by exfalso; omega⟩, fun z => by exfalso; omega⟩
    · rename_i z6
      exact sg_80_18b (zy H) _ _ _ _ _ _ ⟨⟨by omega, by omega⟩, fun _ => ⟨⟨by omega, by omega⟩, ⟨by omega, by omega⟩, fun _ => call (some z6), fun z => by exfalso; omega⟩, fun z => by exfalso; omega⟩
theorem cc_80 (H : zh sc K 2) (byTag : Bool) {x : Int × List Int} (hx : zs_kd x) {a1 a2 a3 : Int} (h3 : a3 = if byTag then 1 else 0) (hq : q = a2 + x.2.length) (hq2 : q ≤ 200) (hzx : zr o a2 x.2) {T : List (Int × List Int)} (hT : ∀ y ∈ T, zs_kd y) (hl : a1 + (zs_fl T).length = a2) (hz : zr o a1 (zs_fl T)) (h1 : 0 ≤ a1) (kr : ∀ o2 : Int → Int, (∀ j, j < a1 → o2 j = o j) → zr o2 a1 (zs_fl (zs_ins byTag x T)) → ym_Rt sc P K none (zc s p g c i e w u q m o2)) : ym_Go sc P K (80, 0, [some (ym_P 7), some (ym_I a1), some (ym_I a2), some (ym_I a3), none, none, none], []) (zc s p g c i e w u q m o) := by
  have xlen : 2 ≤ (x.2.length : Int) := by
    obtain ⟨x1, x2, x3, cx, lx, x4, x5⟩ := hx
    rw [x5, zs_enc_len]
    have := zs_sc_b (x.1 % 2097152)
    split <;> omega
  refine sg_80_0 (zy H) _ _ _ ?_
  simp only [zc_7_2, zc_7_3, zc_7_4, zc_7_5, zc_7_6, zc_7_8, zc_7_9, zc_8_1, zc_7_7, zc_9, zc_1, zc_2, zc_3, zc_4, zc_5, zc_6, zc_10, zc_11, zc_r, zc_w7_2, zc_w7_3, zc_w7_4, zc_w7_5, zc_w7_6, zc_w7_8, zc_w7_9, zc_w8_1, zc_w7_7, zc_w9, zc_p9]
  exact ⟨⟨by omega, by omega⟩, fun _ => cc_80l H byTag x hx a1 a2 a3 h3 hq hq2 (by omega) hzx T a1 0 none hT hl hz h1 (by omega) (by omega) kr, fun z => by exfalso; omega⟩
/-- nothing was added: it stays -/
theorem cc_80n (H : zh sc K 0) {a1 a2 a3 : Int} (h2 : 0 ≤ a2) (h22 : a2 ≤ 200) (hq : q ≤ a2) (kr : ym_Rt sc P K none (zc s p g c i e w u q m o)) : ym_Go sc P K (80, 0, [some (ym_P 7), some (ym_I a1), some (ym_I a2), some (ym_I a3), none, none, none], []) (zc s p g c i e w u q m o) := by
  refine sg_80_0 (zy H) _ _ _ ?_
  simp only [zc_7_2, zc_7_3, zc_7_4, zc_7_5, zc_7_6, zc_7_8, zc_7_9, zc_8_1, zc_7_7, zc_9, zc_1, zc_2, zc_3, zc_4, zc_5, zc_6, zc_10, zc_11, zc_r, zc_w7_2, zc_w7_3, zc_w7_4, zc_w7_5, zc_w7_6, zc_w7_8, zc_w7_9, zc_w8_1, zc_w7_7, zc_w9, zc_p9]
  exact ⟨⟨by omega, by omega⟩, fun z => by exfalso; omega, fun _ => kr⟩
end
