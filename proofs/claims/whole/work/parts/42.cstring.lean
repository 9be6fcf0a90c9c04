/-! The class' strings: own work. -/
section
variable {sc : xm_S} {P : xm_O → xm_H → Prop} {K : List ym_F} {s : ym_S} {p g c i e w u q : Int} {m : Int64} {o : Int → Int} {r : Int → Int} {N l : Int}
theorem cc_44 (H : zh sc K 0) {x : Int} (hx : ym_in x) (hq0 : 0 ≤ q) (hq : q < 200) (kr : ym_Rt sc P K none (zc s p g c i e w u (q+1) m (zu o q x))) : ym_Go sc P K (44, 0, [some (ym_P 8), some (ym_I x)], []) (zc s p g c i e w u q m o) := by
  refine sg_44_0b (zy H) _ ?_
  simp only [zc_7_2, zc_7_3, zc_7_4, zc_7_5, zc_7_6, zc_7_8, zc_7_9, zc_8_1, zc_7_7, zc_9, zc_1, zc_2, zc_3, zc_4, zc_5, zc_6, zc_10, zc_11, zc_r, zc_w7_2, zc_w7_3, zc_w7_4, zc_w7_5, zc_w7_6, zc_w7_8, zc_w7_9, zc_w8_1, zc_w7_7, zc_w9, zc_p9]
  exact ⟨fun _ => ⟨⟨hq0, hq⟩, hx, ⟨by omega, by omega⟩, kr⟩, fun h => by exfalso; omega⟩
theorem cc_70l (H : zh sc K 1) (hI : zIn s r N) (a1 : Int) (g c i e w u : Int) (m : Int64) (he0 : 0 ≤ e) (he : e ≤ N) (a2 : Int) (ha2 : a2 ≤ 200) : ∀ (n : Nat) (a3 p q : Int) (o : Int → Int), e - p = n → a2 - a3 = n → 0 ≤ a3 → 0 ≤ p → 0 ≤ q → q ≤ p → ym_Rt sc P K none (zc s e g c i e w u (q+n) m (za o q (zs_tk r p n))) → ym_Go sc P K (70, 21, [some (ym_P 7), some (ym_I a1), some (ym_I a2), some (ym_I a3)], []) (zc s p g c i e w u q m o)
  | 0, a3, p, q, o, h1, h2, h3, hp, hq, hqp, kr => by
    refine sg_70_21 (zy H) _ _ _ ⟨⟨by omega, by omega⟩, ⟨by omega, by omega⟩, fun z => by exfalso; omega, fun _ => ?_⟩
    have e1 : e = p := by omega
    subst e1
    rw [show q + ((0 : Nat) : Int) = q by omega] at kr
    exact kr
  | n + 1, a3, p, q, o, h1, h2, h3, hp, hq, hqp, kr => by
    have hN := hI.2.1
    refine sg_70_21 (zy H) _ _ _ ⟨⟨by omega, by omega⟩, ⟨by omega, by omega⟩, fun _ => ?_, fun z => by exfalso; omega⟩
    simp only [zc_7_2, zc_7_3, zc_7_4, zc_7_5, zc_7_6, zc_7_8, zc_7_9, zc_8_1, zc_7_7, zc_9, zc_1, zc_2, zc_3, zc_4, zc_5, zc_6, zc_10, zc_11, zc_r, zc_w7_2, zc_w7_3, zc_w7_4, zc_w7_5, zc_w7_6, zc_w7_8, zc_w7_9, zc_w8_1, zc_w7_7, zc_w9, zc_p9]
    refine cc_56 (zm (zk H) (by omega)) hI hp he0 he (fun z => by exfalso; omega) (fun z o1 o2 => ym_rt_cons (sg_70_38 (zy H) _ _ _ _ ?_))
    refine cc_44 (zm (zk H) (by omega)) ⟨by omega, by omega⟩ hq (by omega) (ym_rt_cons (sg_70_41 (zy H) _ _ _ ?_))
    refine cc_70l H hI a1 g c i e w u m he0 he a2 ha2 n (a3 + 1) (p + 1) (q + 1) _ (by omega) (by omega) (by omega) (by omega) (by omega) (by omega) ?_
    rw [show q + 1 + (n : Int) = q + ((n + 1 : Nat) : Int) by omega]
    exact kr
theorem cc_71 (H : zh sc K 1) (hI : zIn s r N) (hp : 0 ≤ p) (hp1 : p ≤ 200) (he0 : 0 ≤ e) (he : e ≤ N) (kx : (u ≠ 0 ∨ e ≤ p ∨ 7 < r p ∨ (r p ≠ 0 ∧ p + 1 = e)) → zBad sc P K s) (kr : u = 0 → p < e → r p ≤ 7 → 0 ≤ r p → ¬ (r p ≠ 0 ∧ p + 1 = e) → ym_Rt sc P K none (zc s (p+1) g c i e w (r p) q m o)) : ym_Go sc P K (71, 0, [some (ym_P 7)], []) (zc s p g c i e w u q m o) := by
  refine sg_71_0 (zy H) ?_
  simp only [zc_7_2, zc_7_3, zc_7_4, zc_7_5, zc_7_6, zc_7_8, zc_7_9, zc_8_1, zc_7_7, zc_9, zc_1, zc_2, zc_3, zc_4, zc_5, zc_6, zc_10, zc_11, zc_r, zc_w7_2, zc_w7_3, zc_w7_4, zc_w7_5, zc_w7_6, zc_w7_8, zc_w7_9, zc_w8_1, zc_w7_7, zc_w9, zc_p9]
  refine ⟨fun hu => ?_, fun hu => kx (Or.inl hu) _ _ _ _ _ _ _ _ _ _⟩
  refine cc_56 (zk H) hI hp he0 he (fun z => zbc (kx (Or.inr (Or.inl z))) (by decide) (by decide)) (fun z o1 o2 => ym_rt_cons (sg_71_24 (zy H) _ ?_))
  simp only [zc_7_2, zc_7_3, zc_7_4, zc_7_5, zc_7_6, zc_7_8, zc_7_9, zc_8_1, zc_7_7, zc_9, zc_1, zc_2, zc_3, zc_4, zc_5, zc_6, zc_10, zc_11, zc_r, zc_w7_2, zc_w7_3, zc_w7_4, zc_w7_5, zc_w7_6, zc_w7_8, zc_w7_9, zc_w8_1, zc_w7_7, zc_w9, zc_p9]
  refine ⟨⟨by omega, by omega⟩, fun h7 => kx (Or.inr (Or.inr (Or.inl h7))) _ _ _ _ _ _ _ _ _ _, fun h7 => ⟨fun h0 => kr hu z h7 o1 (fun y => y.1 h0), fun h0 => ⟨fun he => kx (Or.inr (Or.inr (Or.inr ⟨h0, he⟩))) _ _ _ _ _ _ _ _ _ _, fun he => kr hu z h7 o1 (fun y => he y.2)⟩⟩⟩
theorem cc_70 (H : zh sc K 2) (hI : zIn s r N) (bits : Bool) (hp : 0 ≤ p) (hpe : p ≤ e) (he : e ≤ N) (hq : 0 ≤ q) (hqp : q ≤ p) (kx : zs_pc r bits e p u = none → zBad sc P K s) (kr : ∀ l u2 b, zs_pc r bits e p u = some (l, u2, b) → ym_Rt sc P K none (zc s b g c i e w u2 (q+l.length) m (za o q l))) : ym_Go sc P K (70, 0, [some (ym_P 7), some (ym_I (zs_pt bits)), none, none], []) (zc s p g c i e w u q m o) := by
  have hN := hI.2.1
  cases bits with
  | false =>
    refine sg_70_0 (zy H) _ ⟨by decide, fun z => absurd z (by decide), fun _ => ?_⟩
    simp only [zc_7_2, zc_7_3, zc_7_4, zc_7_5, zc_7_6, zc_7_8, zc_7_9, zc_8_1, zc_7_7, zc_9, zc_1, zc_2, zc_3, zc_4, zc_5, zc_6, zc_10, zc_11, zc_r, zc_w7_2, zc_w7_3, zc_w7_4, zc_w7_5, zc_w7_6, zc_w7_8, zc_w7_9, zc_w8_1, zc_w7_7, zc_w9, zc_p9]
    refine cc_70l (zm H (by omega)) hI _ _ _ _ _ _ _ _ (by omega) he _ (by omega) (e - p).toNat 0 p q o (by omega) (by omega) (by omega) hp hq hqp ?_
    have := kr _ _ _ rfl
    rw [zs_tk_len] at this
    exact this
  | true =>
    refine sg_70_0 (zy H) _ ⟨by decide, fun _ => ?_, fun z => absurd rfl z⟩
    refine cc_71 (zk H) hI hp (by omega) (by omega) he (fun z => zbc (kx ?_) (by decide) (by decide)) (fun h1 h2 h3 h4 h5 => ym_rt_cons (sg_70_9 (zy H) _ ?_))
    · unfold zs_pc
      rw [if_pos rfl]
      by_cases z1 : u = 0
      · rw [if_pos z1]
        by_cases z2 : p < e
        · rw [if_pos z2]
          by_cases z3 : 7 < r p
          · rw [if_pos z3]
          · rw [if_neg z3]
            by_cases z4 : r p ≠ 0 ∧ p + 1 = e
            · rw [if_pos z4]
            · exfalso
              rcases z with z | z | z | z
              · exact z z1
              · omega
              · omega
              · exact z4 z
        · rw [if_neg z2]
      · rw [if_neg z1]
    · simp only [zc_7_2, zc_7_3, zc_7_4, zc_7_5, zc_7_6, zc_7_8, zc_7_9, zc_8_1, zc_7_7, zc_9, zc_1, zc_2, zc_3, zc_4, zc_5, zc_6, zc_10, zc_11, zc_r, zc_w7_2, zc_w7_3, zc_w7_4, zc_w7_5, zc_w7_6, zc_w7_8, zc_w7_9, zc_w8_1, zc_w7_7, zc_w9, zc_p9]
      refine cc_70l (zm H (by omega)) hI _ _ _ _ _ _ _ _ (by omega) he _ (by omega) (e - (p + 1)).toNat 0 (p + 1) q o (by omega) (by omega) (by omega) (by omega) hq (by omega) ?_
      have := kr (zs_tk r (p + 1) (e - (p + 1)).toNat) (r p) e (by unfold zs_pc; rw [if_pos rfl, if_pos h1, if_pos h2, if_neg (by omega), if_neg h5])
      rw [zs_tk_len] at this
      exact this
def cc_69P (sc : xm_S) (P : xm_O → xm_H → Prop) (s : ym_S) (r : Int → Int) (N : Int) (bits : Bool) (d : Nat) : Prop := ∀ (K : List ym_F) (p g c i e w u q : Int) (m : Int64) (o : Int → Int), zh sc K (d + 3) → 0 ≤ p → p ≤ e → e ≤ N → (i = 0 ∨ i = 1) → 0 ≤ q → q ≤ p → (zs_st r bits d c i e p u = none → zBad sc P K s) → (∀ l u2 b, zs_st r bits d c i e p u = some (l, u2, b) → ∀ g2 c2 i2 e2, ym_Rt sc P K none (zc s b g2 c2 i2 e2 w u2 (q+l.length) m (za o q l))) → ym_Go sc P K (69, 0, [some (ym_P 7), some (ym_I (zs_pt bits)), some (ym_I (5 - (d : Int))), none, none, none, none], []) (zc s p g c i e w u q m o)
theorem cc_pt (bits : Bool) : ym_in (zs_pt bits) := by cases bits <;> decide
theorem cc_69l (hI : zIn s r N) (bits : Bool) (d : Nat) (hd : d ≤ 3) (ih : cc_69P sc P s r N bits d) (H : zh sc K (d + 4)) (lim ind : Int) (hl0 : 0 ≤ lim) (hl : lim ≤ N) (hind : ind = 0 ∨ ind = 1) : ∀ (f : Nat) (p g c i e w u q : Int) (m : Int64) (o : Int → Int) (parts n : Int), lim - p < f → 0 ≤ p → p ≤ lim → 2 * n ≤ p → 0 ≤ n → 0 ≤ parts → parts ≤ n → 0 ≤ q → q ≤ p → (zs_sl r bits (zs_st r bits d) f lim ind p u parts = none → zBad sc P K s) → (∀ l u2 b, zs_sl r bits (zs_st r bits d) f lim ind p u parts = some (l, u2, b) → ∀ g2 c2 i2 e2, ym_Rt sc P K none (zc s b g2 c2 i2 e2 w u2 (q+l.length) m (za o q l))) → ym_Go sc P K (69, 43, [some (ym_P 7), some (ym_I (zs_pt bits)), some (ym_I (5 - ((d + 1 : Nat) : Int))), some (ym_I lim), some (ym_I ind), some (ym_I parts), some (ym_I n)], []) (zc s p g c i e w u q m o)
  | 0, p, g, c, i, e, w, u, q, m, o, parts, n, hf, hp, hpl, hn, hn0, hpa, hpn, hq, hqp, kx, kr => by exfalso; omega
  | f + 1, p, g, c, i, e, w, u, q, m, o, parts, n, hf, hp, hpl, hn, hn0, hpa, hpn, hq, hqp, kx, kr => by
    have hN := hI.2.1
    refine sg_69_43 (zy H) _ _ _ _ _ _ ⟨⟨by omega, by omega⟩, fun _ => ?_, fun z => by exfalso; omega⟩
    refine cc_61 (zm (zk H) (by omega)) hI hp (by omega) hl0 hl hind (ym_rt_cons (sg_69_58 (zy H) _ _ _ _ _ _ _ ?_))
    cases hon : zs_on r lim ind p with
    | false =>
      rw [if_neg (by decide), if_neg (by decide)]
      have e1 : zs_sl r bits (zs_st r bits d) (f + 1) lim ind p u parts = if bits = true ∧ parts = 0 then none else some ([], u, zs_sk ind p) := by
        rw [zs_sl, hon, if_neg (by decide)]
      rw [e1] at kx kr
      refine ⟨by decide, fun _ => ⟨cc_pt bits, fun hb => ⟨⟨by omega, by omega⟩, fun h0 => kx ?_ _ _ _ _ _ _ _ _ _ _, fun h0 => ?_⟩, fun hb => ?_⟩, fun z => absurd rfl z⟩
      · rw [if_pos ⟨by cases bits <;> first | rfl | exact absurd hb (by decide), h0⟩]
      · have := kr [] u (zs_sk ind p) (by rw [if_neg (fun z => h0 z.2)]) g c i e
        rw [show q + (([] : List Int).length : Int) = q by simp] at this
        exact this
      · have := kr [] u (zs_sk ind p) (by rw [if_neg (fun z => hb (by rw [z.1]; rfl))]) g c i e
        rw [show q + (([] : List Int).length : Int) = q by simp] at this
        exact this
    | true =>
      rw [if_pos rfl, if_pos rfl]
      refine ⟨by decide, fun z => absurd z (by decide), fun _ => ?_⟩
      rw [zs_sl, hon, if_pos rfl] at kx kr
      refine cc_57 (zm (zk H) (by omega)) hI hp hl0 hl (fun z => zbc (kx (by rw [z]; rfl)) (by decide) (by decide)) (fun c2 g2 b h1 => ym_rt_cons (sg_69_66 (zy H) _ _ _ _ _ _ ?_))
      rw [h1] at kx kr
      have o1 := zs_id_ok hI.2.2.1 hl hp h1
      refine cc_60 (zm (zk H) (by omega)) hI (by omega) hl0 hl (fun z => zbc (kx (by show Option.bind (zs_le r lim b c2) _ = none; rw [z]; rfl)) (by decide) (by decide)) (fun i2 e2 b2 h2 => ym_rt_cons (sg_69_71 (zy H) _ _ _ _ _ _ ?_))
      have o2 := zs_le_ok hI.2.2.1 hl (by omega) h2
      simp only [zc_7_2, zc_7_3, zc_7_4, zc_7_5, zc_7_6, zc_7_8, zc_7_9, zc_8_1, zc_7_7, zc_9, zc_1, zc_2, zc_3, zc_4, zc_5, zc_6, zc_10, zc_11, zc_r, zc_w7_2, zc_w7_3, zc_w7_4, zc_w7_5, zc_w7_6, zc_w7_8, zc_w7_9, zc_w8_1, zc_w7_7, zc_w9, zc_p9]
      have e3 : Option.bind (some (c2, g2, b)) (fun x => (zs_le r lim x.2.2 x.1).bind (fun y => if x.2.1 = zs_pt bits then (zs_st r bits d x.1 y.1 y.2.1 y.2.2 u).bind (fun z => (zs_sl r bits (zs_st r bits d) f lim ind z.2.2 z.2.1 (parts + 1)).map (fun t => (z.1 ++ t.1, t.2))) else none)) = if g2 = zs_pt bits then (zs_st r bits d c2 i2 e2 b2 u).bind (fun z => (zs_sl r bits (zs_st r bits d) f lim ind z.2.2 z.2.1 (parts + 1)).map (fun t => (z.1 ++ t.1, t.2))) else none := by
        show (zs_le r lim b c2).bind _ = _
        rw [h2]
        rfl
      rw [e3] at kx kr
      refine ⟨cc_pt bits, fun hg => ?_, fun hg => kx (by rw [if_neg hg]) _ _ _ _ _ _ _ _ _ _⟩
      rw [if_pos hg] at kx kr
      rw [show 5 - ((d + 1 : Nat) : Int) + 1 = 5 - (d : Int) by omega]
      refine ih _ _ _ _ _ _ _ _ _ _ _ (zk H) (by omega) (by omega) (by omega) o2.1 hq (by omega) (fun z => zbc (kx (by rw [z]; rfl)) (by decide) (by decide)) (fun l3 u3 b3 h3 g4 c4 i4 e4 => ym_rt_cons (sg_69_95 (zy H) _ _ _ _ _ _ ?_))
      rw [h3] at kx kr
      obtain ⟨⟨q1, q2, q3, q4, q5, q6⟩, q7⟩ := zs_st_ok hI.2.2.1 bits d _ _ _ _ _ _ (by omega) (by omega) (by omega) h3
      change ((l3.length : Nat) : Int) ≤ b3 - b2 at q1
      change b2 ≤ b3 at q2
      change b3 ≤ e2 at q3
      refine cc_69l hI bits d hd ih H lim ind hl0 hl hind f _ _ _ _ _ _ _ _ _ _ _ _ (by omega) (by omega) (by omega) (by omega) (by omega) (by omega) (by omega) (by omega) (by omega) (fun z => kx ?_) (fun l5 u5 b5 h5 g6 c6 i6 e6 => ?_)
      · show Option.map _ (zs_sl r bits (zs_st r bits d) f lim ind b3 u3 (parts + 1)) = none
        rw [z]
        rfl
      · have := kr (l3 ++ l5) u5 b5 (by show Option.map _ (zs_sl r bits (zs_st r bits d) f lim ind b3 u3 (parts + 1)) = _; rw [h5]; rfl) g6 c6 i6 e6
        rw [List.length_append, za_app] at this
        rw [show q + (l3.length : Int) + (l5.length : Int) = q + ((l3.length + l5.length : Nat) : Int) by omega]
        exact this
theorem cc_69 (hI : zIn s r N) (bits : Bool) : ∀ d : Nat, d ≤ 4 → cc_69P sc P s r N bits d
  | 0, hd => by
    intro K p g c i e w u q m o H hp hpe he hi hq hqp kx kr
    have hN := hI.2.1
    refine sg_69_0 (zy H) _ _ ?_
    simp only [zc_7_2, zc_7_3, zc_7_4, zc_7_5, zc_7_6, zc_7_8, zc_7_9, zc_8_1, zc_7_7, zc_9, zc_1, zc_2, zc_3, zc_4, zc_5, zc_6, zc_10, zc_11, zc_r, zc_w7_2, zc_w7_3, zc_w7_4, zc_w7_5, zc_w7_6, zc_w7_8, zc_w7_9, zc_w8_1, zc_w7_7, zc_w9, zc_p9]
    refine ⟨fun hc => ?_, fun hc => ⟨by decide, fun _ => kx ?_ _ _ _ _ _ _ _ _ _ _, fun z => absurd z (by decide)⟩⟩
    · have e1 : zs_st r bits 0 c i e p u = zs_pc r bits e p u := by rw [zs_st, if_pos hc]
      rw [e1] at kx kr
      exact cc_70 (zm (zk H) (by omega)) hI bits hp hpe he hq hqp (fun z => zbc (kx z) (by decide) (by decide)) (fun l u2 b h => ym_rt_cons (sg_69_12 (zy H) _ _ (kr l u2 b h _ _ _ _)))
    · rw [zs_st, if_neg hc]
  | d + 1, hd => by
    intro K p g c i e w u q m o H hp hpe he hi hq hqp kx kr
    have hN := hI.2.1
    refine sg_69_0 (zy H) _ _ ?_
    simp only [zc_7_2, zc_7_3, zc_7_4, zc_7_5, zc_7_6, zc_7_8, zc_7_9, zc_8_1, zc_7_7, zc_9, zc_1, zc_2, zc_3, zc_4, zc_5, zc_6, zc_10, zc_11, zc_r, zc_w7_2, zc_w7_3, zc_w7_4, zc_w7_5, zc_w7_6, zc_w7_8, zc_w7_9, zc_w8_1, zc_w7_7, zc_w9, zc_p9]
    refine ⟨fun hc => ?_, fun hc => ⟨⟨by omega, by omega⟩, fun z => by exfalso; omega, fun _ => ?_⟩⟩
    · have e1 : zs_st r bits (d + 1) c i e p u = zs_pc r bits e p u := by rw [zs_st, if_pos hc]
      rw [e1] at kx kr
      exact cc_70 (zm (zk H) (by omega)) hI bits hp hpe he hq hqp (fun z => zbc (kx z) (by decide) (by decide)) (fun l u2 b h => ym_rt_cons (sg_69_12 (zy H) _ _ (kr l u2 b h _ _ _ _)))
    · have e1 : zs_st r bits (d + 1) c i e p u = zs_sl r bits (zs_st r bits d) 201 e i p u 0 := by rw [zs_st, if_neg hc]
      rw [e1] at kx kr
      exact cc_69l hI bits d (by omega) (cc_69 hI bits d (by omega)) (zm H (by omega)) e i (by omega) he hi 201 _ _ _ _ _ _ _ _ _ _ 0 0 (by omega) hp hpe (by omega) (by omega) (by omega) (by omega) hq hqp kx kr
end
