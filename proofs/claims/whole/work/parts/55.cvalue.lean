/-! The class' values: own work. -/
theorem zCl_zc {E : zEnv} {s : ym_S} {n : Int} {p g c i e w u q : Int} {m : Int64} {o : Int → Int} (h : zCl E s n) : zCl E (zc s p g c i e w u q m o) n := by
  intro t h0 h1
  obtain ⟨k, hk, a1, a2, a3, a4, a5, a6, a7, a8, a9, a10, a11⟩ := h t h0 h1
  refine ⟨k, hk, a1, a2, ?_, ?_, ?_, ?_, a7, ?_, a9, a10, ?_⟩
  · rw [zc_hi (by omega)]; exact a3
  · rw [zc_hi (by omega)]; exact a4
  · rw [zc_hi (by omega)]; exact a5
  · rw [zc_hj (by omega), zc_hj (by omega)]; exact a6
  · intro h4
    obtain ⟨mm, hm, b1, b2, b3, b4, b5, b6, b7, b8, b9, b10, b11⟩ := a8 h4
    refine ⟨mm, hm, b1, b2, ?_, ?_, b5, b6, b7, b8, b9, b10, fun k k0 k1 => ?_⟩
    · rw [zc_hi (by omega)]; exact b3
    · rw [zc_hi (by omega)]; exact b4
    · obtain ⟨d1, d2, d3⟩ := b11 k k0 k1
      refine ⟨d1, ?_, ?_⟩
      · rw [zc_hi (by omega)]; exact d2
      · rw [zc_hj (by omega)]; exact d3
  · intro j j0 j1
    rw [zc_hi (by omega)]
    exact a11 j j0 j1
theorem zMb_zc {E : zEnv} {s : ym_S} {t : Int} {mm : Nat} {p g c i e w u q : Int} {m : Int64} {o : Int → Int} (h : zMb E s t mm) : zMb E (zc s p g c i e w u q m o) t mm := by
  obtain ⟨b1, b2, b3, b4, b5, b6, b7, b8, b9, b10, b11⟩ := h
  refine ⟨b1, b2, ?_, ?_, b5, b6, b7, b8, b9, b10, fun k k0 k1 => ?_⟩
  · rw [zc_hi (by omega)]; exact b3
  · rw [zc_hi (by omega)]; exact b4
  · obtain ⟨d1, d2, d3⟩ := b11 k k0 k1
    refine ⟨d1, ?_, ?_⟩
    · rw [zc_hi (by omega)]; exact d2
    · rw [zc_hj (by omega)]; exact d3
theorem zs_fl_app : ∀ a b : List (Int × List Int), zs_fl (a ++ b) = zs_fl a ++ zs_fl b
  | [], b => rfl
  | y :: a, b => by rw [List.cons_append, zs_fl, zs_fl, zs_fl_app a b, List.append_assoc]
def cvP (sc : xm_S) (P : xm_O → xm_H → Prop) (s : ym_S) (r : Int → Int) (N : Int) (E : zEnv) (n : Int) (f : Nat) : Prop := ∀ (K : List ym_F) (t : Int) (k : Nat) (p g c i e w u q : Int) (m : Int64) (o : Int → Int) (lim d : Int), 0 ≤ t → t < n → t < f → ym_R s 2 t = some k → zh sc K (2 * f + 12) → 0 ≤ p → p ≤ lim → lim ≤ N → 0 ≤ q → q ≤ p → 1 ≤ d → d + t ≤ 16 → (zs_v E r f t lim p = none → zBad sc P K s) → (∀ gl l b, zs_v E r f t lim p = some ((gl, l), b) → ∀ (g2 c2 i2 e2 w2 u2 : Int) (m2 : Int64) (o2 : Int → Int), zr o2 q l → (∀ j, j < q → o2 j = o j) → zs_np E t l w2 m2 → ym_Rt sc P K none (zc s b g2 c2 i2 e2 w2 u2 (q+l.length) m2 o2)) → ym_Go sc P K (55, 0, [some (ym_P 7), some (ym_Q k), some (ym_I lim), some (ym_I d), none, none, none], []) (zc s p g c i e w u q m o)
section
variable {sc : xm_S} {P : xm_O → xm_H → Prop} {K : List ym_F} {s : ym_S} {p g c i e w u q : Int} {m : Int64} {o : Int → Int} {r : Int → Int} {N : Int} {E : zEnv} {n : Int} {f : Nat}
theorem cc_77 (H : zh sc K (2 * f + 13)) (hI : zIn s r N) (hW : zWF E n) (ih : cvP sc P s r N E n f) {x : Int} {kx ki : Nat} (hT : ym_T s kx = some (5, 0)) (hR : ym_R s kx 5 = some ki) (hki : ym_R s 2 x = some ki) (h0 : 0 ≤ x) (h1 : x < n) (hf : x < f) {d : Int} (hd : 1 ≤ d) (hdx : d + 1 + x ≤ 16) (hp : 0 ≤ p) (hpe : p ≤ e) (he : e ≤ N) (hi : i = 0 ∨ i = 1) (hq : 0 ≤ q) (hqp : q ≤ p) (kx' : (zs_v E r f x e p).bind (fun z => if zs_on r e i z.2 then none else some (z.1.2, zs_sk i z.2)) = none → zBad sc P K s) (kr : ∀ l b, (zs_v E r f x e p).bind (fun z => if zs_on r e i z.2 then none else some (z.1.2, zs_sk i z.2)) = some (l, b) → ∀ (g2 c2 i2 e2 w2 u2 : Int) (m2 : Int64) (o2 : Int → Int), zr o2 q l → (∀ j, j < q → o2 j = o j) → zs_np E x l w2 m2 → ym_Rt sc P K none (zc s b g2 c2 i2 e2 w2 u2 (q+l.length) m2 o2)) : ym_Go sc P K (77, 0, [some (ym_P 7), some (ym_Q kx), some (ym_I d), none, none], []) (zc s p g c i e w u q m o) := by
  have hN := hI.2.1
  refine sg_77_0 (zy H) _ _ ⟨hT, ?_⟩
  simp only [zc_7_2, zc_7_3, zc_7_4, zc_7_5, zc_7_6, zc_7_8, zc_7_9, zc_8_1, zc_7_7, zc_9, zc_1, zc_2, zc_3, zc_4, zc_5, zc_6, zc_10, zc_11, zc_r, zc_w7_2, zc_w7_3, zc_w7_4, zc_w7_5, zc_w7_6, zc_w7_8, zc_w7_9, zc_w8_1, zc_w7_7, zc_w9, zc_p9]
  have hR2 : s.2.2.1 kx 5 = some ki := hR
  refine ⟨fun z => (zno hR2 z).elim, fun z hz => ?_⟩
  rw [hR2] at hz
  obtain rfl := Option.some.inj hz
  refine ih _ x ki _ _ _ _ _ _ _ _ _ _ e (d + 1) h0 h1 hf hki (zk H) hp hpe he hq hqp (by omega) (by omega) (fun z => zbc (kx' (by rw [z]; rfl)) (by decide) (by decide)) (fun gl l b h g2 c2 i2 e2 w2 u2 m2 o2 z1 z2 z3 => ym_rt_cons (sg_77_23 (zy H) _ _ _ _ ?_))
  obtain ⟨v1, v2, v3, v4⟩ := zs_v_ok hW hI.2.2.1 hN f x e p _ h0 h1 he hp hpe h
  change p + 2 ≤ b at v1
  change b ≤ e at v2
  rw [h] at kx' kr
  refine cc_61 (zm (zk H) (by omega)) hI (by omega) (by omega) (by omega) he hi (ym_rt_cons (sg_77_30 (zy H) _ _ _ _ _ ?_))
  cases hon : zs_on r e i b with
  | true =>
    exact ⟨by decide, fun z => absurd z (by decide), fun _ => kx' (by show (if zs_on r e i b then none else _) = none; rw [hon, if_pos rfl]) _ _ _ _ _ _ _ _ _ _⟩
  | false =>
    exact ⟨by decide, fun _ => kr l (zs_sk i b) (by show (if zs_on r e i b then none else _) = _; rw [hon, if_neg (by decide)]) g2 c2 i2 e2 w2 u2 m2 o2 z1 z2 z3, fun z => absurd rfl z⟩
theorem cc_78l (H : zh sc K (2 * f + 13)) (hI : zIn s r N) (hW : zWF E n) (ih : cvP sc P s r N E n f) {x : Int} {kx ki : Nat} (hT : ym_T s kx = some (5, 0)) (hkx : 46 ≤ kx) (set : Bool) (hset : s.1 kx 0 = if set then 117 else 116) (hR : ym_R s kx 5 = some ki) (hki : ym_R s 2 x = some ki) (h0 : 0 ≤ x) (h1 : x < n) (hf : x < f) (d lim ind start : Int) (hd : 1 ≤ d) (hdx : d + 1 + x ≤ 16) (hl : lim ≤ N) (hind : ind = 0 ∨ ind = 1) (hst : 0 ≤ start) : ∀ (f2 : Nat) (p g c i e w u q : Int) (m : Int64) (o : Int → Int) (a6 : Int) (x7 : Option Int) (S : List (Int × List Int)), lim - p < f2 → 0 ≤ p → p ≤ lim → 2 * a6 ≤ p → 0 ≤ a6 → start + (zs_fl S).length = q → q ≤ p → zr o start (zs_fl S) → (∀ y ∈ S, zs_kd y) → (zs_vs r (zs_v E r f x) f2 lim ind p = none → zBad sc P K s) → (∀ ks b, zs_vs r (zs_v E r f x) f2 lim ind p = some (ks, b) → ∀ (g2 c2 i2 e2 w2 u2 : Int) (m2 : Int64) (o2 : Int → Int), zr o2 start (zs_fl (if set then ks.foldl (fun a y => zs_ins false y a) S else S ++ ks)) → (∀ j, j < start → o2 j = o j) → ym_Rt sc P K none (zc s b g2 c2 i2 e2 w2 u2 (start + (zs_fl (if set then ks.foldl (fun a y => zs_ins false y a) S else S ++ ks)).length) m2 o2)) → ym_Go sc P K (78, 23, [some (ym_P 7), some (ym_Q kx), some (ym_I d), some (ym_I lim), some (ym_I ind), some (ym_I start), some (ym_I a6), x7.map ym_I], []) (zc s p g c i e w u q m o)
  | 0, p, g, c, i, e, w, u, q, m, o, a6, x7, S, hf2, hp, hpl, ha, ha0, hS, hqp, hz, hk, kx', kr => by exfalso; omega
  | f2 + 1, p, g, c, i, e, w, u, q, m, o, a6, x7, S, hf2, hp, hpl, ha, ha0, hS, hqp, hz, hk, kx', kr => by
    have hN := hI.2.1
    have hR2 : s.2.2.1 kx 5 = some ki := hR
    have hin : ym_in a6 := ⟨by omega, by omega⟩
    rw [zs_vs] at kx' kr
    have nxt : ∀ (x8 : Option Int), ym_Go sc P ((78, 35, [some (ym_P 7), some (ym_Q kx), some (ym_I d), some (ym_I lim), some (ym_I ind), some (ym_I start), some (ym_I a6), x8.map ym_I], []) :: K) (61, 0, [some (ym_P 7), some (ym_I lim), some (ym_I ind)], []) (zc s p g c i e w u q m o) := by
      intro x8
      refine cc_61 (zm (zk H) (by omega)) hI hp (by omega) (by omega) hl hind (ym_rt_cons ?_)
      cases hon : zs_on r lim ind p with
      | false =>
        rw [hon, if_neg (by decide)] at kr
        have fin := kr [] (zs_sk ind p) rfl g c i e w u m o (by cases set <;> simp <;> exact hz) (fun _ _ => rfl)
        have e1 : start + (zs_fl (if set then ([] : List (Int × List Int)).foldl (fun a y => zs_ins false y a) S else S ++ [])).length = q := by cases set <;> simp <;> exact hS
        rw [e1] at fin
        rw [if_neg (by decide), if_neg (by decide)]
        cases x8
        · exact sg_78_38 (zy H) _ _ _ _ _ _ _ ⟨by decide, fun _ => fin, fun z => absurd rfl z⟩
        · exact sg_78_38b (zy H) _ _ _ _ _ _ _ _ ⟨by decide, fun _ => fin, fun z => absurd rfl z⟩
      | true =>
        rw [hon, if_pos rfl] at kx' kr
        rw [if_pos rfl, if_pos rfl]
        have val : ym_Go sc P ((78, 59, [some (ym_P 7), some (ym_Q kx), some (ym_I d), some (ym_I lim), some (ym_I ind), some (ym_I start), some (ym_I a6), some (ym_I q)], []) :: K) (55, 0, [some (ym_P 7), some (ym_Q ki), some (ym_I lim), some (ym_I (d + 1)), none, none, none], []) (zc s p g c i e w u q m o) := by
          refine ih _ x ki _ _ _ _ _ _ _ _ _ _ lim (d + 1) h0 h1 hf hki (zk H) hp hpl hl (by omega) hqp (by omega) (by omega) (fun z => zbc (kx' (by rw [z]; rfl)) (by decide) (by decide)) (fun gl l b h g2 c2 i2 e2 w2 u2 m2 o2 z1 z2 z3 => ym_rt_cons (sg_78_62 (zy H) _ _ _ _ _ _ _ ⟨hT, ?_⟩))
          obtain ⟨v1, v2, v3, v4⟩ := zs_v_ok hW hI.2.2.1 hN f x lim p _ h0 h1 hl hp hpl h
          change p + 2 ≤ b at v1
          change b ≤ lim at v2
          change (l.length : Int) ≤ b - p at v3
          rw [h] at kx' kr
          rw [zc_hi (by omega), hset]
          have hz2 : zr o2 start (zs_fl S) := zr_of o o2 _ _ hz (fun j _ h => z2 j (by omega))
          have kx2 : zs_vs r (zs_v E r f x) f2 lim ind b = none → zBad sc P K s := fun z => kx' (by show Option.map _ (zs_vs r (zs_v E r f x) f2 lim ind b) = none; rw [z]; rfl)
          cases set with
          | false =>
            rw [if_neg (by decide)]
            refine ⟨fun z => absurd z (by decide), fun _ => ?_⟩
            refine cc_78l H hI hW ih hT hkx false hset hR hki h0 h1 hf d lim ind start hd hdx hl hind hst f2 b g2 c2 i2 e2 w2 u2 (q + l.length) m2 o2 (a6 + 1) (some q) (S ++ [(gl, l)]) (by omega) (by omega) v2 (by omega) (by omega) ?_ (by omega) ?_ ?_ kx2 (fun ks b3 h3 g3 c3 i3 e3 w3 u3 m3 o3 y1 y2 => ?_)
            · rw [zs_fl_app, List.length_append]
              show start + (((zs_fl S).length + (l ++ []).length : Nat) : Int) = q + l.length
              rw [List.append_nil]
              omega
            · rw [zs_fl_app]
              refine zr_app hz2 ?_
              rw [hS]
              show zr o2 q (l ++ [])
              rw [List.append_nil]
              exact z1
            · intro y hy
              rcases List.mem_append.mp hy with hy | hy
              · exact hk y hy
              · rw [List.mem_singleton.mp hy]
                exact v4
            · rw [if_neg (by decide), List.append_assoc] at y1 ⊢
              refine kr ((gl, l) :: ks) b3 (by show Option.map _ (zs_vs r (zs_v E r f x) f2 lim ind b) = _; rw [h3]; rfl) g3 c3 i3 e3 w3 u3 m3 o3 y1 (fun j hj => ?_)
              rw [y2 j hj, z2 j (by omega)]
          | true =>
            rw [if_pos rfl]
            refine ⟨fun _ => ?_, fun z => absurd rfl z⟩
            refine cc_80 (zm (zk H) (by omega)) false v4 (by rfl) rfl (by show q + (l.length : Int) ≤ 200; omega) z1 hk hS hz2 hst (fun o3 y1 y2 => ym_rt_cons (sg_78_80 (zy H) _ _ _ _ _ _ _ ?_))
            refine cc_78l H hI hW ih hT hkx true hset hR hki h0 h1 hf d lim ind start hd hdx hl hind hst f2 b g2 c2 i2 e2 w2 u2 (q + l.length) m2 o3 (a6 + 1) (some q) (zs_ins false (gl, l) S) (by omega) (by omega) v2 (by omega) (by omega) ?_ (by omega) y2 ?_ kx2 (fun ks b3 h3 g3 c3 i3 e3 w3 u3 m3 o4 y3 y4 => ?_)
            · rw [zs_ins_len]
              show start + ((l.length + (zs_fl S).length : Nat) : Int) = q + l.length
              omega
            · intro y hy
              rcases zs_ins_mem _ _ _ _ hy with hy | hy
              · rw [hy]
                exact v4
              · exact hk y hy
            · rw [if_pos rfl] at y3 ⊢
              refine kr ((gl, l) :: ks) b3 (by show Option.map _ (zs_vs r (zs_v E r f x) f2 lim ind b) = _; rw [h3]; rfl) g3 c3 i3 e3 w3 u3 m3 o4 y3 (fun j hj => ?_)
              rw [y4 j hj, y1 j hj, z2 j (by omega)]
        have val2 : ym_T s kx = some (5, 0) ∧ (s.2.2.1 kx 5 = none → ym_Go sc P ((78, 59, [some (ym_P 7), some (ym_Q kx), some (ym_I d), some (ym_I lim), some (ym_I ind), some (ym_I start), some (ym_I a6), some (ym_I q)], []) :: K) (55, 0, [some (ym_P 7), some (ym_N), some (ym_I lim), some (ym_I (d + 1)), none, none, none], []) (zc s p g c i e w u q m o)) ∧ (∀ zq4 : Nat, s.2.2.1 kx 5 = some zq4 → ym_Go sc P ((78, 59, [some (ym_P 7), some (ym_Q kx), some (ym_I d), some (ym_I lim), some (ym_I ind), some (ym_I start), some (ym_I a6), some (ym_I q)], []) :: K) (55, 0, [some (ym_P 7), some (ym_Q zq4), some (ym_I lim), some (ym_I (d + 1)), none, none, none], []) (zc s p g c i e w u q m o)) := by
          refine ⟨hT, fun z => (zno hR2 z).elim, fun z hz => ?_⟩
          rw [hR2] at hz
          obtain rfl := Option.some.inj hz
          exact val
        cases x8
        · exact sg_78_38 (zy H) _ _ _ _ _ _ _ ⟨by decide, fun z => absurd z (by decide), fun _ => val2⟩
        · exact sg_78_38b (zy H) _ _ _ _ _ _ _ _ ⟨by decide, fun z => absurd z (by decide), fun _ => val2⟩
    cases x7
    · exact sg_78_23 (zy H) _ _ _ _ _ _ ⟨hin, fun _ => nxt none, fun z => by exfalso; omega⟩
    · rename_i x8
      exact sg_78_23b (zy H) _ _ _ _ _ _ _ ⟨hin, fun _ => nxt (some x8), fun z => by exfalso; omega⟩
end
