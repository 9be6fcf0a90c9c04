/-! The reference's SET: own work. -/
def pk (E : zEnv) (u g : Int) (seen : Int → Bool) : Nat → Int → Int → Int
  | 0, _, a => a
  | n + 1, j, a => pk E u g seen n (j + 1) (if seen j then a else if eBg E (E.1 23 (6 * u + j)) g then j else a)
theorem ef_none {E : zEnv} {u g : Int} : ∀ (n : Nat) (j : Int), (∀ i, j ≤ i → i < j + n → eBg E (E.1 23 (6 * u + i)) g = false) → ef E u g n j = none
  | 0, j, h => rfl
  | n + 1, j, h => by
    rw [ef, h j (by omega) (by omega), if_neg (by decide)]
    exact ef_none n (j + 1) (fun i h1 h2 => h i (by omega) (by omega))
theorem pk_none {E : zEnv} {u g : Int} {seen : Int → Bool} : ∀ (n : Nat) (j a : Int), ef E u g n j = none → pk E u g seen n j a = a
  | 0, j, a, h => rfl
  | n + 1, j, a, h => by
    rw [ef] at h
    cases hb : eBg E (E.1 23 (6 * u + j)) g with
    | true => rw [hb, if_pos rfl] at h; cases h
    | false =>
      rw [hb, if_neg (by decide)] at h
      rw [pk, hb, pk_none n (j + 1) _ h]
      split <;> rfl
theorem pk_some {E : zEnv} {u g : Int} {seen : Int → Bool} (hd : ∀ k j, 0 ≤ k → k < j → j < E.1 22 u → eBg E (E.1 23 (6 * u + k)) g = true → eBg E (E.1 23 (6 * u + j)) g = false) : ∀ (n : Nat) (j a k : Int), 0 ≤ j → E.1 22 u - j = n → ef E u g n j = some k → pk E u g seen n j a = if seen k then a else k
  | 0, j, a, k, h0, hn, h => by cases h
  | n + 1, j, a, k, h0, hn, h => by
    rw [ef] at h
    cases hb : eBg E (E.1 23 (6 * u + j)) g with
    | true =>
      rw [hb, if_pos rfl] at h
      obtain rfl := Option.some.inj h
      rw [pk, hb, if_pos rfl, pk_none n (j + 1) _ (ef_none _ _ (fun i h1 h2 => hd j i h0 (by omega) (by omega) hb))]
    | false =>
      rw [hb, if_neg (by decide)] at h
      rw [pk, hb, if_neg (show ¬ (false = true) by decide), pk_some hd n (j + 1) _ k (by omega) (by omega) h]
      have : (if seen j = true then a else a) = a := by split <;> rfl
      rw [this]
theorem pk_b {E : zEnv} {u g : Int} {seen : Int → Bool} : ∀ (n : Nat) (j a : Int), 0 ≤ j → j + n ≤ 6 → -1 ≤ a → a < 6 → -1 ≤ pk E u g seen n j a ∧ pk E u g seen n j a < 6
  | 0, j, a, h0, hn, h1, h2 => ⟨h1, h2⟩
  | n + 1, j, a, h0, hn, h1, h2 => by
    rw [pk]
    refine pk_b n (j + 1) _ (by omega) (by omega) ?_ ?_
    · split
      · exact h1
      · split <;> omega
    · split
      · exact h2
      · split <;> omega
section
variable {sc : xm_S} {P : xm_O → xm_H → Prop} {K : List ym_F} {a1 a8 : Int} {s : ym_S} {p l g x c e z : Int} {b : Int → Int} {f : Int} {F : Nat → Int → Int} {q : Int} {A B C : Int → Int} {h : Int} {o W : Int → Int} {S : Nat → Int → Int} {r : Int → Int} {N : Int} {E : zEnv} {n : Int} {ff what u gg ind lim l0 q0 h0 p1 t p0 : Int} {F0 : Nat → Int → Int} {A0 B0 C0 o0 : Int → Int} {ks : List (Int × List Int)} {res : Option ((Int × List Int) × Int)}
theorem rBack9 (H : zh sc K 12) : rRet sc P K a1 s ((128, 189, [some (ym_P 12), some (ym_I ff), some (ym_I u), some (ym_I a8)], []) :: (129, 67, [some (ym_P 12), some (ym_I a1), none], []) :: K) := rRet_c (rBack (zm H (by omega))) (fun st k => ym_rt_cons (sg_128_192 (zy (zk (zm H (show 1 ≤ 12 by omega)))) _ _ _ k))
/-- nothing comes any more -/
theorem rMd (H : zh sc K 12) (hI : rIn s r N) (hE : zRE s E) (hW : zWF E n) (hc : rCx N ff u gg ind lim q0 h0 p1 t p0) (hun : u < n) (s4 : E.1 13 u = 4) (hG : rGd sc P K a1 s ff l0 q0 h0 F0 A0 B0 C0 o0 t p0 res) (hf : f = ff + 1) (hl : l = lim) (hon : zs_on r lim ind p = false) {seen : Int → Bool} (hk : rK E ff what u gg ind lim l0 q0 h0 p1 F0 A0 B0 C0 o0 p F q A B C h o ks) (hM : zMk (F 35 ff) seen) : ∀ (cnt : Nat) (j x : Int), (x = 0 ∨ x = 1) → 0 ≤ j → E.1 22 u - j = cnt → (x = 1 → res = none) → (x = 0 → res = if em E u seen cnt j then none else some ((gg, zs_enc gg 1 (zs_fl (rKs E u ks))), zs_sk ind p)) → ym_Go sc P ((128, 189, [some (ym_P 12), some (ym_I ff), some (ym_I u), some (ym_I a8)], []) :: (129, 67, [some (ym_P 12), some (ym_I a1), none], []) :: K) (127, 164, [some (ym_P 12), some (ym_I ff), some (ym_I u), some (ym_I j), none, none], []) (rv s p l g x c e z b f F q A B C h o W S) := by
  have hE2 := hE
  obtain ⟨h13, h14, h15, h16, h17, h20, h21, h22, h23, h24, h18, h19, h25⟩ := hE2
  have hc2 := hc
  obtain ⟨c1, c2, c3, c4, c5, c6, c7, c8, c9, c10, c11, c12, c13, c14, c15⟩ := hc2
  obtain ⟨-, -, w5, w6, w7, -⟩ := zW_w4 hW c2 hun s4
  have fb : (0 : Int) ≤ ff ∧ ff < 20 := ⟨c1, by omega⟩
  intro cnt
  induction cnt with
  | zero =>
    intro j x hx h0 hj r1 r0
    refine sg_127_164 (zy (zk (zk (zm H (show 2 ≤ 12 by omega))))) _ _ _ ?_
    simp only [rv_12_20, rv_12_21, rv_12_22, rv_12_23, rv_12_24, rv_12_25, rv_12_26, rv_12_28, rv_12_38, rv_12_42, rv_12_0, rv_12_1, rv_12_15, rv_12_16, rv_12_18, rv_28, rv_37, rv_38, rv_39, rv_40, rv_41, rv_29, rv_30, rv_31, rv_32, rv_33, rv_34, rv_35, rv_36, rv_42, rv_43, rv_44, rv_13, rv_14, rv_15, rv_16, rv_17, rv_18, rv_19, rv_20, rv_21, rv_22, rv_23, rv_24, rv_25, rv_26, rv_27, rv_r, rv_w12_20, rv_w12_21, rv_w12_22, rv_w12_23, rv_w12_24, rv_w12_25, rv_w12_26, rv_w12_28, rv_w12_38, rv_w12_42, rv_w28, rv_w37, rv_w38, rv_w39, rv_w40, rv_w41, rv_w29, rv_w30, rv_w31, rv_w32, rv_w33, rv_w34, rv_w35, rv_w36, rv_w42, rv_w43, rv_w44]
    rw [h22]
    refine ⟨⟨c2, by omega⟩, ⟨by omega, by omega⟩, fun y => by exfalso; omega, fun _ => ?_⟩
    refine rEnd hI hE hW (rRet_c (rBack9 H) (fun st k => ym_rt_cons (sg_127_227 (zy (zk (zk (zm H (show 2 ≤ 12 by omega))))) _ _ _ k))) (zk (zk (zk (zm H (show 6 ≤ 12 by omega))))) hc hG hk hf hl hx r1 (fun w => ?_)
    rw [r0 w, hon]
    rfl
  | succ cnt im =>
    intro j x hx h0 hj r1 r0
    refine sg_127_164 (zy (zk (zk (zm H (show 2 ≤ 12 by omega))))) _ _ _ ?_
    simp only [rv_12_20, rv_12_21, rv_12_22, rv_12_23, rv_12_24, rv_12_25, rv_12_26, rv_12_28, rv_12_38, rv_12_42, rv_12_0, rv_12_1, rv_12_15, rv_12_16, rv_12_18, rv_28, rv_37, rv_38, rv_39, rv_40, rv_41, rv_29, rv_30, rv_31, rv_32, rv_33, rv_34, rv_35, rv_36, rv_42, rv_43, rv_44, rv_13, rv_14, rv_15, rv_16, rv_17, rv_18, rv_19, rv_20, rv_21, rv_22, rv_23, rv_24, rv_25, rv_26, rv_27, rv_r, rv_w12_20, rv_w12_21, rv_w12_22, rv_w12_23, rv_w12_24, rv_w12_25, rv_w12_26, rv_w12_28, rv_w12_38, rv_w12_42, rv_w28, rv_w37, rv_w38, rv_w39, rv_w40, rv_w41, rv_w29, rv_w30, rv_w31, rv_w32, rv_w33, rv_w34, rv_w35, rv_w36, rv_w42, rv_w43, rv_w44]
    rw [h22, h24, zMk_bit hM h0 (by omega)]
    refine ⟨⟨c2, by omega⟩, ⟨by omega, by omega⟩, fun _ => ⟨fun _ => ⟨⟨by omega, by omega⟩, fun _ => fb⟩, ?_⟩, fun y => by exfalso; omega⟩
    rcases hx with hx | hx
    · have r2 := r0 hx
      rw [em] at r2
      rw [if_pos hx]
      by_cases hm : E.1 24 (6 * u + j) = 0
      · rw [decide_eq_true hm, Bool.true_and] at r2
        rw [if_pos hm]
        cases hs : seen j with
        | true =>
          rw [hs] at r2
          exact im (j + 1) 0 (Or.inl rfl) (by omega) (by omega) (fun y => absurd y (by decide)) (fun _ => r2)
        | false =>
          rw [hs] at r2
          exact im (j + 1) 1 (Or.inr rfl) (by omega) (by omega) (fun _ => r2) (fun y => absurd y (by decide))
      · rw [decide_eq_false hm, Bool.false_and, Bool.false_or] at r2
        rw [if_neg hm]
        exact im (j + 1) 0 (Or.inl rfl) (by omega) (by omega) (fun y => absurd y (by decide)) (fun _ => r2)
    · rw [if_neg (by omega)]
      exact im (j + 1) 1 (Or.inr rfl) (by omega) (by omega) (fun _ => r1 hx) (fun y => absurd y (by decide))
/-- the look for the member -/
theorem r31 (H : zh sc K 12) (hE : zRE s E) (hW : zWF E n) (hc : rCx N ff u gg ind lim q0 h0 p1 t p0) (hun : u < n) (s4 : E.1 13 u = 4) {seen : Int → Bool} (hM : zMk (F 35 ff) seen) {g0 : Int} (hg0 : ym_in g0) : ∀ (cnt : Nat) (j a4 : Int), 0 ≤ j → E.1 22 u - j = cnt → ym_Go sc P ((128, 189, [some (ym_P 12), some (ym_I ff), some (ym_I u), some (ym_I a8)], []) :: (129, 67, [some (ym_P 12), some (ym_I a1), none], []) :: K) (127, 31, [some (ym_P 12), some (ym_I ff), some (ym_I u), some (ym_I g0), some (ym_I (pk E u g0 seen cnt j a4)), some (ym_I (E.1 22 u))], []) (rv s p l g x c e z b f F q A B C h o W S) → ym_Go sc P ((128, 189, [some (ym_P 12), some (ym_I ff), some (ym_I u), some (ym_I a8)], []) :: (129, 67, [some (ym_P 12), some (ym_I a1), none], []) :: K) (127, 31, [some (ym_P 12), some (ym_I ff), some (ym_I u), some (ym_I g0), some (ym_I a4), some (ym_I j)], []) (rv s p l g x c e z b f F q A B C h o W S) := by
  have hE2 := hE
  obtain ⟨h13, h14, h15, h16, h17, h20, h21, h22, h23, h24, h18, h19, h25⟩ := hE2
  have hc2 := hc
  obtain ⟨c1, c2, c3, c4, c5, c6, c7, c8, c9, c10, c11, c12, c13, c14, c15⟩ := hc2
  obtain ⟨-, -, w5, w6, w7, -⟩ := zW_w4 hW c2 hun s4
  have hn := hW.1
  have fb : (0 : Int) ≤ ff ∧ ff < 20 := ⟨c1, by omega⟩
  intro cnt
  induction cnt with
  | zero =>
    intro j a4 h0 hj kr
    rw [pk, show E.1 22 u = j by omega] at kr
    exact kr
  | succ cnt im =>
    intro j a4 h0 hj kr
    obtain ⟨m1, m2, -⟩ := w7 j h0 (by omega)
    refine sg_127_31 (zy (zk (zk (zm H (show 2 ≤ 12 by omega))))) _ _ _ _ _ ?_
    simp only [rv_12_20, rv_12_21, rv_12_22, rv_12_23, rv_12_24, rv_12_25, rv_12_26, rv_12_28, rv_12_38, rv_12_42, rv_12_0, rv_12_1, rv_12_15, rv_12_16, rv_12_18, rv_28, rv_37, rv_38, rv_39, rv_40, rv_41, rv_29, rv_30, rv_31, rv_32, rv_33, rv_34, rv_35, rv_36, rv_42, rv_43, rv_44, rv_13, rv_14, rv_15, rv_16, rv_17, rv_18, rv_19, rv_20, rv_21, rv_22, rv_23, rv_24, rv_25, rv_26, rv_27, rv_r, rv_w12_20, rv_w12_21, rv_w12_22, rv_w12_23, rv_w12_24, rv_w12_25, rv_w12_26, rv_w12_28, rv_w12_38, rv_w12_42, rv_w28, rv_w37, rv_w38, rv_w39, rv_w40, rv_w41, rv_w29, rv_w30, rv_w31, rv_w32, rv_w33, rv_w34, rv_w35, rv_w36, rv_w42, rv_w43, rv_w44]
    rw [h22, zMk_bit hM h0 (by omega), h23]
    rw [pk] at kr
    refine ⟨⟨c2, by omega⟩, ⟨by omega, by omega⟩, fun _ => ⟨fb, fun y => ⟨⟨by omega, by omega⟩, ?_⟩, fun y => ?_⟩, fun y => by exfalso; omega⟩
    · refine rc_95 (s := (rv s p l g x c e z b f F q A B C h o W S)) (g := g0) (E := E) (zk (zk (zk (zm H (show 3 ≤ 12 by omega))))) h20 h21 m1 (by omega) (zWf_of hW m1 (by omega)) hg0 (ym_rt_cons (sg_127_73 (zy (zk (zk (zm H (show 2 ≤ 12 by omega))))) _ _ _ _ _ _ ?_))
      have hs : seen j = false := by
        cases hs : seen j with
        | false => rfl
        | true => rw [hs] at y; exact absurd y (by decide)
      rw [hs, if_neg (by decide)] at kr
      cases hb : eBg E (E.1 23 (6 * u + j)) g0 with
      | false =>
        rw [hb] at kr
        exact ⟨by decide, im (j + 1) a4 (by omega) (by omega) kr⟩
      | true =>
        rw [hb] at kr
        exact ⟨by decide, im (j + 1) j (by omega) (by omega) kr⟩
    · have hs : seen j = true := by
        cases hs : seen j with
        | true => rfl
        | false => rw [hs] at y; exact absurd rfl y
      rw [hs, if_pos rfl] at kr
      exact im (j + 1) a4 (by omega) (by omega) kr
/-- a SET -/
theorem rStt {fu : Nat} (H : zh sc K 12) (hI : rIn s r N) (hE : zRE s E) (hW : zWF E n) (ih : rVP sc P K a1 s r N E n fu) (hc : rCx N ff u gg ind lim q0 h0 p1 t p0) (hfu : u ≤ fu) (hun : u < n) (hw : what = 4) (s4 : E.1 13 u = 4) (s17 : E.1 15 u = 17) (hG : rGd sc P K a1 s ff l0 q0 h0 F0 A0 B0 C0 o0 t p0 res) (hf : f = ff + 1) (hl : l = lim) : ∀ (m : Nat) (p g c e z : Int) (b : Int → Int) (F : Nat → Int → Int) (q : Int) (A B C : Int → Int) (h : Int) (o W : Int → Int) (S : Nat → Int → Int) (ks : List (Int × List Int)) (seen : Int → Bool), rK E ff what u gg ind lim l0 q0 h0 p1 F0 A0 B0 C0 o0 p F q A B C h o ks → zMk (F 35 ff) seen → lim - p < m → res = (zs_ms E r (zs_v E r fu) u true m lim ind p 0 seen).map (fun z => ((gg, zs_enc gg 1 (zs_fl (rKs E u (ks ++ z.1)))), z.2)) → rGp sc P K a1 E ff u (rv s p l g 0 c e z b f F q A B C h o W S) := by
  have hE2 := hE
  obtain ⟨h13, h14, h15, h16, h17, h20, h21, h22, h23, h24, h18, h19, h25⟩ := hE2
  have hc2 := hc
  obtain ⟨c1, c2, c3, c4, c5, c6, c7, c8, c9, c10, c11, c12, c13, c14, c15⟩ := hc2
  obtain ⟨-, -, w5, w6, w7, w8⟩ := zW_w4 hW c2 hun s4
  have w8 := w8 s17
  have hN := hI.1
  have hn := hW.1
  have fb : (0 : Int) ≤ ff ∧ ff < 20 := ⟨c1, by omega⟩
  intro m
  induction m with
  | zero =>
    intro p g c e z b F q A B C h o W S ks seen hk hM hm hres
    obtain ⟨-, -, -, -, -, -, -, -, -, -, -, -, hpl⟩ := hk
    exfalso; omega
  | succ m im =>
    intro p g c e z b F q A B C h o W S ks seen hk hM hm hres a8
    refine ⟨fun y => by exfalso; omega, fun _ => ?_⟩
    obtain ⟨⟨k1, k2, k3, k4, k5, k6⟩, -, -, -, -, -, -, -, -, -, -, hp1, hpl⟩ := id hk
    refine sg_127_0 (zy (zk (zk (zm H (show 2 ≤ 12 by omega))))) _ ?_
    simp only [rv_12_20, rv_12_21, rv_12_22, rv_12_23, rv_12_24, rv_12_25, rv_12_26, rv_12_28, rv_12_38, rv_12_42, rv_12_0, rv_12_1, rv_12_15, rv_12_16, rv_12_18, rv_28, rv_37, rv_38, rv_39, rv_40, rv_41, rv_29, rv_30, rv_31, rv_32, rv_33, rv_34, rv_35, rv_36, rv_42, rv_43, rv_44, rv_13, rv_14, rv_15, rv_16, rv_17, rv_18, rv_19, rv_20, rv_21, rv_22, rv_23, rv_24, rv_25, rv_26, rv_27, rv_r, rv_w12_20, rv_w12_21, rv_w12_22, rv_w12_23, rv_w12_24, rv_w12_25, rv_w12_26, rv_w12_28, rv_w12_38, rv_w12_42, rv_w28, rv_w37, rv_w38, rv_w39, rv_w40, rv_w41, rv_w29, rv_w30, rv_w31, rv_w32, rv_w33, rv_w34, rv_w35, rv_w36, rv_w42, rv_w43, rv_w44]
    rw [k2]
    refine ⟨fb, fb, ?_⟩
    refine rc_105 (zk (zk (zk (zm H (show 3 ≤ 12 by omega))))) hI (by omega) (by omega) (by omega) (by omega) c4 (by rw [k4, hl]) (ym_rt_cons (sg_127_17 (zy (zk (zk (zm H (show 2 ≤ 12 by omega))))) _ _ _ ?_))
    rw [zs_ms] at hres
    cases hon : zs_on r lim ind p with
    | false =>
      have hon2 : zs_on r l ind p = false := by rw [hl]; exact hon
      rw [hon, if_neg (by decide)] at hres
      rw [hon2]
      refine ⟨by decide, fun _ => ?_, fun y => absurd rfl y⟩
      refine rMd H hI hE hW hc hun s4 hG hf hl hon hk hM (E.1 22 u).toNat 0 0 (Or.inl rfl) (by decide) (by omega) (fun y => absurd y (by decide)) (fun _ => ?_)
      rw [hres]
      split
      · rfl
      · show some ((gg, zs_enc gg 1 (zs_fl (rKs E u (ks ++ [])))), zs_sk ind p) = _
        rw [List.append_nil]
    | true =>
      have hon2 : zs_on r l ind p = true := by rw [hl]; exact hon
      rw [hon, if_pos rfl] at hres
      rw [hon2]
      refine ⟨by decide, fun y => absurd y (by decide), fun _ => ?_⟩
      -- it is bad
      have bad : res = none → ∀ (g2 cx g0 a4 x : Int), (x = 0 ∨ x = 1) → (x = 1 ∨ a4 < 0) → ym_in a4 → ym_Go sc P ((128, 189, [some (ym_P 12), some (ym_I ff), some (ym_I u), some (ym_I a8)], []) :: (129, 67, [some (ym_P 12), some (ym_I a1), none], []) :: K) (127, 31, [some (ym_P 12), some (ym_I ff), some (ym_I u), some (ym_I g0), some (ym_I a4), some (ym_I (E.1 22 u))], []) (rv s p l g2 x cx e z b f F q A B C h o W S) := by
        intro hnone g2 cx g0 a4 x hx hb ha
        refine sg_127_31 (zy (zk (zk (zm H (show 2 ≤ 12 by omega))))) _ _ _ _ _ ?_
        simp only [rv_12_20, rv_12_21, rv_12_22, rv_12_23, rv_12_24, rv_12_25, rv_12_26, rv_12_28, rv_12_38, rv_12_42, rv_12_0, rv_12_1, rv_12_15, rv_12_16, rv_12_18, rv_28, rv_37, rv_38, rv_39, rv_40, rv_41, rv_29, rv_30, rv_31, rv_32, rv_33, rv_34, rv_35, rv_36, rv_42, rv_43, rv_44, rv_13, rv_14, rv_15, rv_16, rv_17, rv_18, rv_19, rv_20, rv_21, rv_22, rv_23, rv_24, rv_25, rv_26, rv_27, rv_r, rv_w12_20, rv_w12_21, rv_w12_22, rv_w12_23, rv_w12_24, rv_w12_25, rv_w12_26, rv_w12_28, rv_w12_38, rv_w12_42, rv_w28, rv_w37, rv_w38, rv_w39, rv_w40, rv_w41, rv_w29, rv_w30, rv_w31, rv_w32, rv_w33, rv_w34, rv_w35, rv_w36, rv_w42, rv_w43, rv_w44]
        rw [h22]
        have e1 : (if x = 0 then (if a4 < 0 then (1 : Int) else 0) else 1) = 1 := by
          by_cases w : x = 0
          · rw [if_pos w, if_pos (by omega)]
          · rw [if_neg w]
        rw [e1]
        refine ⟨⟨c2, by omega⟩, ⟨by omega, by omega⟩, fun y => by exfalso; omega, fun _ => ⟨fun _ => ha, fun y => absurd y (by decide), fun _ => ?_⟩⟩
        exact rBack9 H _ _ _ _ _ _ _ _ _ _ _ _ _ _ _ _ _ _ (hG.1 hnone _ _ _ _ _ _ _ _ _ _ _ _ _ _ _ _ _)
      refine (fun (k : ∀ x0 : Int, x0 = 0 → ym_Go sc P _ _ (rv s p l g x0 c e z b f F q A B C h o W S)) => k 0 rfl) (fun x0 hx0 => ?_)
      refine rc_103 (zk (zk (zk (zm H (show 6 ≤ 12 by omega))))) hI (by omega) (by omega) (by omega) (Or.inl hx0) (fun _ cc2 g2 b2 hid => ym_rt_cons (sg_127_24 (zy (zk (zk (zm H (show 2 ≤ 12 by omega))))) _ _ _ ?_)) (fun hlp => ym_rt_cons (sg_127_24 (zy (zk (zk (zm H (show 2 ≤ 12 by omega))))) _ _ _ ?_)) (fun hpl hb cc2 g2 y1 y2 y3 => ym_rt_cons (sg_127_24 (zy (zk (zk (zm H (show 2 ≤ 12 by omega))))) _ _ _ ?_))
      · rw [hl] at hid
        have o1 := zs_id_ok hI.2.1 c8 (by omega) hid
        have gin : ym_in g2 := ⟨by omega, by omega⟩
        rw [hid] at hres
        change res = Option.map _ ((eIx E u g2 0).bind (fun k => if seen k then none else (zs_v E r fu (E.1 23 (6 * u + k)) lim p).bind (fun z => (zs_ms E r (zs_v E r fu) u true m lim ind z.2 0 (fun j => decide (j = k) || seen j)).map (fun y => ((if zs_dr E u k z.1.2 then y.1 else z.1 :: y.1), y.2))))) at hres
        refine r31 H hE hW hc hun s4 hM gin (E.1 22 u).toNat 0 (-1) (by decide) (by omega) ?_
        have hix : eIx E u g2 0 = ef E u g2 (E.1 22 u).toNat 0 := by
          unfold eIx
          rw [Int.sub_zero]
        cases hk3 : eIx E u g2 0 with
        | none =>
          rw [hk3] at hres
          rw [pk_none _ _ _ (hix.symm.trans hk3)]
          exact bad hres _ _ _ _ _ (Or.inl hx0) (Or.inr (by decide)) (by decide)
        | some k =>
          rw [hk3] at hres
          change res = Option.map _ (if seen k then none else (zs_v E r fu (E.1 23 (6 * u + k)) lim p).bind _) at hres
          rw [pk_some (fun i j i0 ij j1 => w8 i j g2 i0 ij j1) _ _ _ _ (by decide) (by omega) (hix.symm.trans hk3)]
          obtain ⟨kk1, kk2, -⟩ := ef_ok _ _ _ hk3
          have kk3 : k < E.1 22 u := by omega
          obtain ⟨m1, m2, -⟩ := w7 k kk1 kk3
          cases hs : seen k with
          | true =>
            rw [hs, if_pos rfl] at hres
            rw [if_pos rfl]
            exact bad hres _ _ _ _ _ (Or.inl hx0) (Or.inr (by decide)) (by decide)
          | false =>
            rw [hs, if_neg (by decide)] at hres
            rw [if_neg (show ¬ (false = true) by decide)]
            refine sg_127_31 (zy (zk (zk (zm H (show 2 ≤ 12 by omega))))) _ _ _ _ _ ?_
            simp only [rv_12_20, rv_12_21, rv_12_22, rv_12_23, rv_12_24, rv_12_25, rv_12_26, rv_12_28, rv_12_38, rv_12_42, rv_12_0, rv_12_1, rv_12_15, rv_12_16, rv_12_18, rv_28, rv_37, rv_38, rv_39, rv_40, rv_41, rv_29, rv_30, rv_31, rv_32, rv_33, rv_34, rv_35, rv_36, rv_42, rv_43, rv_44, rv_13, rv_14, rv_15, rv_16, rv_17, rv_18, rv_19, rv_20, rv_21, rv_22, rv_23, rv_24, rv_25, rv_26, rv_27, rv_r, rv_w12_20, rv_w12_21, rv_w12_22, rv_w12_23, rv_w12_24, rv_w12_25, rv_w12_26, rv_w12_28, rv_w12_38, rv_w12_42, rv_w28, rv_w37, rv_w38, rv_w39, rv_w40, rv_w41, rv_w29, rv_w30, rv_w31, rv_w32, rv_w33, rv_w34, rv_w35, rv_w36, rv_w42, rv_w43, rv_w44]
            rw [h22, if_pos hx0, if_neg (show ¬ k < 0 by omega), h23]
            refine ⟨⟨c2, by omega⟩, ⟨by omega, by omega⟩, fun y => by exfalso; omega, fun _ => ⟨fun _ => ⟨by omega, by omega⟩, fun _ => ⟨fb, fb, fb, ⟨by omega, by omega⟩, ⟨by omega, by omega⟩, ?_⟩, fun y => absurd rfl y⟩⟩
            have hM2 := zMk_add hM kk1 (by omega) hs
            have hk2 := rK_u (v := 6 * u + k) (Or.inr rfl) (rK_u (v := ym_or (F 35 ff) (ym_shl 1 k)) (Or.inl rfl) hk)
            refine rKid hI hW ih (rRet_c (rBack9 H) (fun st k => ym_rt_cons (sg_127_161 (zy (zk (zk (zm H (show 2 ≤ 12 by omega))))) _ _ _ _ _ k))) (zk (zk (zk (zm H (show 10 ≤ 12 by omega))))) hk2 m1 (by omega) m2 (by omega) c1 (by omega) hf c7 c8 hl c9 c10 c11 c12 (fun y => hG.1 (by rw [hres, y]; rfl)) (fun y b2 hv g2 cc2 e2 z2 bb F2 q2 A2 B2 C2 h2 o2 W2 S2 v1 v2 hk4 v3 => ?_)
            rw [ym_u_ne (by decide), ym_u_eq] at v1
            rw [ym_u_eq] at v2
            rw [hv] at hres
            change res = ((zs_ms E r (zs_v E r fu) u true m lim ind b2 0 (fun j => decide (j = k) || seen j)).map (fun w => ((if zs_dr E u k y.2 then w.1 else y :: w.1), w.2)) : Option (List (Int × List Int) × Int)).map _ at hres
            refine rPend H hI hE hW hc hun hw s4 hk4 hf rfl kk1 kk3 v2 (fun z3 b3 F3 q3 A3 B3 C3 o3 W3 f35 f36 hk5 => ?_)
            rw [v1] at f35
            refine im b2 _ _ _ _ _ F3 q3 A3 B3 C3 h2 o3 W3 S2 _ (fun j => decide (j = k) || seen j) hk5 (by rw [f35]; exact hM2) (by omega) ?_
            rw [hres]
            cases zs_dr E u k y.2 with
            | true =>
              simp only [if_pos]
              rw [Option.map_map]
              rfl
            | false =>
              have : ∀ (X Y : List (Int × List Int)), (if false = true then X else Y) = Y := fun _ _ => rfl
              simp only [this]
              exact zs_mc (fun l => (gg, zs_enc gg 1 (zs_fl (rKs E u l)))) ks y _
      · have hid : zs_id r lim p = none := by
          unfold zs_id
          rw [if_neg (by omega)]
        rw [hid] at hres
        refine r31 H hE hW hc hun s4 hM (by decide) (E.1 22 u).toNat 0 (-1) (by decide) (by omega) ?_
        have hpk := pk_b (E := E) (u := u) (g := -1) (seen := seen) (E.1 22 u).toNat 0 (-1) (by decide) (by omega) (by decide) (by decide)
        refine bad hres _ _ _ _ _ (Or.inl hx0) (Or.inr ?_) ⟨by omega, by omega⟩
        rw [pk_none _ _ _ (ef_none _ _ (fun i i0 i1 => ?_))]
        · decide
        · obtain ⟨m1, m2, -⟩ := w7 i i0 (by omega)
          exact eBg_neg (zWf_of hW m1 (by omega)) (by decide)
      · have hid : zs_id r lim p = none := by
          rw [← hl]
          exact hb.elim (fun w => by exfalso; omega) id
        rw [hid] at hres
        refine r31 H hE hW hc hun s4 hM ⟨by omega, by omega⟩ (E.1 22 u).toNat 0 (-1) (by decide) (by omega) ?_
        have hpk := pk_b (E := E) (u := u) (g := g2) (seen := seen) (E.1 22 u).toNat 0 (-1) (by decide) (by omega) (by decide) (by decide)
        exact bad hres _ _ _ _ 1 (Or.inr rfl) (Or.inl rfl) ⟨by omega, by omega⟩
end
