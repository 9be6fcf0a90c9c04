/-! The class' members: own work. -/
section
variable {sc : xm_S} {P : xm_O → xm_H → Prop} {K : List ym_F} {s : ym_S} {p g c i e w u q : Int} {m : Int64} {o : Int → Int} {r : Int → Int} {N : Int} {E : zEnv} {n : Int} {f : Nat}
theorem cc_79l (H : zh sc K (2 * f + 13)) (hI : zIn s r N) (hW : zWF E n) (hC : zCl E s n) (ih : cvP sc P s r N E n f) {t : Int} {mm : Nat} (hM : zMb E s t mm) (h0 : 0 ≤ t) (h1 : t < n) (hf : t ≤ f) (h4 : E.1 13 t = 4) (set : Bool) (hset : E.1 15 t = if set then 17 else 16) (d lim ind start : Int) (hd : 1 ≤ d) (hdx : d + t ≤ 16) (hl : lim ≤ N) (hind : ind = 0 ∨ ind = 1) (hst : 0 ≤ start) : ∀ (f2 : Nat) (p g c i e w u q : Int) (m : Int64) (o : Int → Int) (M fr a8 : Int) (seen : Int → Bool) (x7 : Option (Int × Int)) (S : List (Int × List Int)), lim - p < f2 → 0 ≤ p → p ≤ lim → 2 * a8 ≤ p → 0 ≤ a8 → 0 ≤ fr → fr ≤ E.1 22 t → zMk M seen → start + (zs_fl S).length = q → q ≤ p → zr o start (zs_fl S) → (∀ y ∈ S, zs_kd y) → (zs_ms E r (zs_v E r f) t set f2 lim ind p fr seen = none → zBad sc P K s) → (∀ ks b, zs_ms E r (zs_v E r f) t set f2 lim ind p fr seen = some (ks, b) → ∀ (g2 c2 i2 e2 w2 u2 : Int) (m2 : Int64) (o2 : Int → Int), zr o2 start (zs_fl (if set then ks.foldl (fun a y => zs_ins true y a) S else S ++ ks)) → (∀ j, j < start → o2 j = o j) → ym_Rt sc P K none (zc s b g2 c2 i2 e2 w2 u2 (start + (zs_fl (if set then ks.foldl (fun a y => zs_ins true y a) S else S ++ ks)).length) m2 o2)) → ym_Go sc P K (79, 29, [some (ym_P 7), some (ym_Q mm), some (ym_I d), some (ym_I lim), some (ym_I ind), some (ym_I start), some (ym_I M), some (ym_I fr), some (ym_I a8), x7.map (fun z => ym_I z.1), x7.map (fun z => ym_I z.2)], []) (zc s p g c i e w u q m o)
  | 0, p, g, c, i, e, w, u, q, m, o, M, fr, a8, seen, x7, S, hf2, hp, hpl, ha, ha0, hfr, hfr2, hMk, hS, hqp, hz, hk, kx', kr => by exfalso; omega
  | f2 + 1, p, g, c, i, e, w, u, q, m, o, M, fr, a8, seen, x7, S, hf2, hp, hpl, ha, ha0, hfr, hfr2, hMk, hS, hqp, hz, hk, kx', kr => by
    have hN := hI.2.1
    have hn := hW.1
    have hin : ym_in a8 := ⟨by omega, by omega⟩
    obtain ⟨w1, w2, w5, w6, w7, w8⟩ := zW_w4 hW h0 h1 h4
    have hM2 := hM
    obtain ⟨m1, m2, m3, m4, m5, m6, m7, m8, m9, m10, m11⟩ := hM2
    rw [zs_ms] at kx' kr
    have nxt : ∀ (x8 : Option (Int × Int)), ym_Go sc P ((79, 41, [some (ym_P 7), some (ym_Q mm), some (ym_I d), some (ym_I lim), some (ym_I ind), some (ym_I start), some (ym_I M), some (ym_I fr), some (ym_I a8), x8.map (fun z => ym_I z.1), x8.map (fun z => ym_I z.2)], []) :: K) (61, 0, [some (ym_P 7), some (ym_I lim), some (ym_I ind)], []) (zc s p g c i e w u q m o) := by
      intro x8
      refine cc_61 (zm (zk H) (by omega)) hI hp (by omega) (by omega) hl hind (ym_rt_cons ?_)
      cases hon : zs_on r lim ind p with
      | false =>
        rw [hon, if_neg (by decide)] at kx' kr
        rw [if_neg (by decide), if_neg (by decide)]
        have fin : ∀ x8 : Option (Int × Int), ym_Go sc P ((79, 194, [some (ym_P 7), some (ym_Q mm), some (ym_I d), some (ym_I lim), some (ym_I ind), some (ym_I start), some (ym_I M), some (ym_I fr), some (ym_I a8), x8.map (fun z => ym_I z.1), x8.map (fun z => ym_I z.2)], []) :: K) (41, 0, [some (ym_Q mm), some (ym_I M), none], []) (zc s (zs_sk ind p) g c i e w u q m o) := by
          intro x8
          refine cc_41 (zm (zk H) (by omega)) hW h0 h1 h4 (zMb_zc hM) hMk (ym_rt_cons ?_)
          have fin2 : ym_in (if em E t seen (E.1 22 t).toNat 0 then 1 else 0) ∧ ((if em E t seen (E.1 22 t).toNat 0 then (1 : Int) else 0) = 0 → ym_Rt sc P K none (zc s (zs_sk ind p) g c i e w u q m o)) ∧ (¬ (if em E t seen (E.1 22 t).toNat 0 then (1 : Int) else 0) = 0 → ym_Ex sc P K 1 (ym_ex (zc s (zs_sk ind p) g c i e w u q m o))) := by
            cases hem : em E t seen (E.1 22 t).toNat 0 with
            | true =>
              rw [hem] at kx'
              exact ⟨by decide, fun z => absurd z (by decide), fun _ => kx' rfl _ _ _ _ _ _ _ _ _ _⟩
            | false =>
              rw [hem, if_neg (by decide)] at kr
              have fin := kr [] (zs_sk ind p) rfl g c i e w u m o (by cases set <;> simp <;> exact hz) (fun _ _ => rfl)
              have e1 : start + (zs_fl (if set then ([] : List (Int × List Int)).foldl (fun a y => zs_ins true y a) S else S ++ [])).length = q := by cases set <;> simp <;> exact hS
              rw [e1] at fin
              exact ⟨by decide, fun _ => fin, fun z => absurd rfl z⟩
          cases x8
          · exact sg_79_197 (zy H) _ _ _ _ _ _ _ _ _ fin2
          · exact sg_79_197b (zy H) _ _ _ _ _ _ _ _ _ _ _ fin2
        cases x8
        · exact sg_79_44b (zy H) _ _ _ _ _ _ _ _ _ ⟨by decide, fun _ => ⟨m1, fin none⟩, fun z => absurd rfl z⟩
        · rename_i x9
          exact sg_79_44c (zy H) _ _ _ _ _ _ _ _ _ _ _ ⟨by decide, fun _ => ⟨m1, fin (some x9)⟩, fun z => absurd rfl z⟩
      | true =>
        rw [hon, if_pos rfl] at kx' kr
        rw [if_pos rfl, if_pos rfl]
        have peek : ∀ x8 : Option (Int × Int), ym_Go sc P ((79, 50, [some (ym_P 7), some (ym_Q mm), some (ym_I d), some (ym_I lim), some (ym_I ind), some (ym_I start), some (ym_I M), some (ym_I fr), some (ym_I a8), x8.map (fun z => ym_I z.1), x8.map (fun z => ym_I z.2)], [ym_Q mm]) :: K) (59, 0, [some (ym_P 7), some (ym_I lim), none], []) (zc s p g c i e w u q m o) := by
          intro x8
          refine cc_59 (zm (zk H) (by omega)) hI hp (by omega) (by omega) hl (fun z => zbc (kx' (by rw [z]; rfl)) (by decide) (by decide)) (fun c2 g2 b h2 => ym_rt_cons ?_)
          rw [h2] at kx' kr
          have o1 := zs_id_ok hI.2.2.1 hl hp h2
          change (eIx E t g2 fr).bind _ = none → _ at kx'
          change ∀ ks b, (eIx E t g2 fr).bind _ = _ → _ at kr
          have idx : ym_T s mm = some (6, 0) ∧ ym_Go sc P ((79, 55, [some (ym_P 7), some (ym_Q mm), some (ym_I d), some (ym_I lim), some (ym_I ind), some (ym_I start), some (ym_I M), some (ym_I fr), some (ym_I a8), x8.map (fun z => ym_I z.1), x8.map (fun z => ym_I z.2)], []) :: K) (40, 0, [some (ym_Q mm), some (ym_I g2), some (ym_I fr), none], []) (zc s p g2 c2 i e w u q m o) := by
            refine ⟨m1, cc_40 (zm (zk H) (by omega)) hW (zCl_zc hC) h0 h1 h4 (zMb_zc hM) ⟨by omega, by omega⟩ hfr hfr2 (ym_rt_cons ?_)⟩
            have go : ym_in (eIi (eIx E t g2 fr)) ∧ (eIi (eIx E t g2 fr) < 0 → ym_Ex sc P K 1 (ym_ex (zc s p g2 c2 i e w u q m o))) ∧ (0 ≤ eIi (eIx E t g2 fr) → (ym_and (ym_shr M (eIi (eIx E t g2 fr))) 1 = 0 → ym_T s mm = some (6, 0) ∧ (s.2.2.1 mm 1 = none → False) ∧ (∀ zq4 : Nat, s.2.2.1 mm 1 = some zq4 → (∃ zn5 : Nat, ym_T s zq4 = some (3, zn5) ∧ ((0 : Int) ≤ eIi (eIx E t g2 fr) ∧ eIi (eIx E t g2 fr) < (zn5 : Int)) ∧ (s.2.2.1 zq4 (eIi (eIx E t g2 fr)) = none → ym_Go sc P ((79, 113, [some (ym_P 7), some (ym_Q mm), some (ym_I d), some (ym_I lim), some (ym_I ind), some (ym_I start), some (ym_I (ym_or M (ym_shl 1 (eIi (eIx E t g2 fr))))), some (ym_I fr), some (ym_I a8), some (ym_I (eIi (eIx E t g2 fr))), some (ym_I q)], []) :: K) (55, 0, [some (ym_P 7), some (ym_N), some (ym_I lim), some (ym_I (d + 1)), none, none, none], []) (zc s p g2 c2 i e w u q m o)) ∧ (∀ zq8 : Nat, s.2.2.1 zq4 (eIi (eIx E t g2 fr)) = some zq8 → ym_Go sc P ((79, 113, [some (ym_P 7), some (ym_Q mm), some (ym_I d), some (ym_I lim), some (ym_I ind), some (ym_I start), some (ym_I (ym_or M (ym_shl 1 (eIi (eIx E t g2 fr))))), some (ym_I fr), some (ym_I a8), some (ym_I (eIi (eIx E t g2 fr))), some (ym_I q)], []) :: K) (55, 0, [some (ym_P 7), some (ym_Q zq8), some (ym_I lim), some (ym_I (d + 1)), none, none, none], []) (zc s p g2 c2 i e w u q m o))))) ∧ (¬ ym_and (ym_shr M (eIi (eIx E t g2 fr))) 1 = 0 → ym_Ex sc P K 1 (ym_ex (zc s p g2 c2 i e w u q m o)))) := by
              cases hix : eIx E t g2 fr with
              | none =>
                rw [hix] at kx'
                exact ⟨by decide, fun _ => kx' rfl _ _ _ _ _ _ _ _ _ _, fun z => absurd z (by decide)⟩
              | some k =>
                rw [hix] at kx' kr
                obtain ⟨k1, k2, k3⟩ := ef_ok _ _ _ hix
                have ek : eIi (some k) = k := rfl
                rw [ek]
                have hk6 : k < E.1 22 t := by omega
                obtain ⟨v1, v2, v3, v4, v5⟩ := w7 k (by omega) hk6
                obtain ⟨n1, n2, n3⟩ := m11 k (by omega) hk6
                rw [zMk_bit hMk (by omega) (by omega)]
                refine ⟨⟨by omega, by omega⟩, fun z => by exfalso; omega, fun _ => ⟨fun hb => ?_, fun hb => kx' ?_ _ _ _ _ _ _ _ _ _ _⟩⟩
                · have hs : seen k = false := by
                    cases hs : seen k with
                    | false => rfl
                    | true => rw [hs] at hb; exact absurd hb (by decide)
                  have m5' : s.2.2.1 mm 1 = some (mm + 1) := m5
                  obtain ⟨ck, hck, hctk⟩ := hC (E.1 23 (6 * t + k)) v1 (by omega)
                  have n1' : s.2.2.1 (mm + 1) k = some ck := by rw [← hck]; exact n1
                  refine ⟨m1, zno m5', fun z hz2 => ?_⟩
                  rw [m5'] at hz2
                  obtain rfl := Option.some.inj hz2
                  refine ⟨6, m6, ⟨by omega, by omega⟩, fun z => (zno n1' z).elim, fun z hz2 => ?_⟩
                  rw [n1'] at hz2
                  obtain rfl := Option.some.inj hz2
                  change (if seen k then none else (zs_v E r f (E.1 23 (6 * t + k)) lim p).bind _) = none → _ at kx'
                  change ∀ ks b, (if seen k then none else (zs_v E r f (E.1 23 (6 * t + k)) lim p).bind _) = _ → _ at kr
                  rw [hs, if_neg (by decide)] at kx' kr
                  refine ih _ (E.1 23 (6 * t + k)) ck _ _ _ _ _ _ _ _ _ _ lim (d + 1) v1 (by omega) (by omega) hck (zk H) hp hpl hl (by omega) hqp (by omega) (by omega) (fun z => zbc (kx' (by rw [z]; rfl)) (by decide) (by decide)) (fun gl l b h g3 c3 i3 e3 w3 u3 m3' o3 z1 z2 z3 => ym_rt_cons (sg_79_116 (zy H) _ _ _ _ _ _ _ _ _ _ ?_))
                  obtain ⟨y1, y2, y3, y4⟩ := zs_v_ok hW hI.2.2.1 hN f _ lim p _ v1 (by omega) hl hp hpl h
                  change p + 2 ≤ b at y1
                  change b ≤ lim at y2
                  change (l.length : Int) ≤ b - p at y3
                  rw [h] at kx' kr
                  have hMk2 := zMk_add hMk (by omega) (show k < 6 by omega) hs
                  have hz2 : zr o3 start (zs_fl S) := zr_of o o3 _ _ hz (fun j _ h => z2 j (by omega))
                  change (zs_ms E r (zs_v E r f) t set f2 lim ind b (if set then fr else k + 1) (fun j => decide (j = k) || seen j)).map _ = none → _ at kx'
                  change ∀ ks b2, (zs_ms E r (zs_v E r f) t set f2 lim ind b (if set then fr else k + 1) (fun j => decide (j = k) || seen j)).map (fun y => ((if zs_dr E t k l then y.1 else (gl, l) :: y.1), y.2)) = some (ks, b2) → _ at kr
                  have kx2 : zs_ms E r (zs_v E r f) t set f2 lim ind b (if set then fr else k + 1) (fun j => decide (j = k) || seen j) = none → zBad sc P K s := fun z => kx' (by rw [z]; rfl)
                  -- kept
                  have keep : zs_dr E t k l = false → (s.1 mm 0 = 17 → ym_Go sc P ((79, 173, [some (ym_P 7), some (ym_Q mm), some (ym_I d), some (ym_I lim), some (ym_I ind), some (ym_I start), some (ym_I (ym_or M (ym_shl 1 k))), some (ym_I fr), some (ym_I a8), some (ym_I k), some (ym_I q)], []) :: K) (80, 0, [some (ym_P 7), some (ym_I start), some (ym_I q), some (ym_I 1), none, none, none], []) (zc s b g3 c3 i3 e3 w3 u3 (q+l.length) m3' o3)) ∧ (¬ s.1 mm 0 = 17 → ym_Go sc P K (79, 29, [some (ym_P 7), some (ym_Q mm), some (ym_I d), some (ym_I lim), some (ym_I ind), some (ym_I start), some (ym_I (ym_or M (ym_shl 1 k))), some (ym_I (k + 1)), some (ym_I (a8 + 1)), some (ym_I k), some (ym_I q)], []) (zc s b g3 c3 i3 e3 w3 u3 (q+l.length) m3' o3)) := by
                    intro hdr
                    rw [hdr] at kr
                    rw [m3, hset]
                    cases set with
                    | false =>
                      rw [if_neg (by decide)]
                      refine ⟨fun z => absurd z (by decide), fun _ => ?_⟩
                      refine cc_79l H hI hW hC ih hM h0 h1 hf h4 false hset d lim ind start hd hdx hl hind hst f2 b g3 c3 i3 e3 w3 u3 (q + l.length) m3' o3 _ (k + 1) (a8 + 1) _ (some (k, q)) (S ++ [(gl, l)]) (by omega) (by omega) y2 (by omega) (by omega) (by omega) (by omega) hMk2 ?_ (by omega) ?_ ?_ kx2 (fun ks b3 h3 g4 c4 i4 e4 w4 u4 m4 o4 q1 q2 => ?_)
                      · rw [zs_fl_app, List.length_append]
                        show start + (((zs_fl S).length + (l ++ []).length : Nat) : Int) = q + l.length
                        rw [List.append_nil]
                        omega
                      · rw [zs_fl_app]
                        refine zr_app hz2 ?_
                        rw [hS]
                        show zr o3 q (l ++ [])
                        rw [List.append_nil]
                        exact z1
                      · intro y hy
                        rcases List.mem_append.mp hy with hy | hy
                        · exact hk y hy
                        · rw [List.mem_singleton.mp hy]
                          exact y4
                      · rw [if_neg (by decide), List.append_assoc] at q1 ⊢
                        refine kr ((gl, l) :: ks) b3 (by rw [show (if false = true then fr else k + 1) = k + 1 from rfl, h3]; rfl) g4 c4 i4 e4 w4 u4 m4 o4 q1 (fun j hj => ?_)
                        rw [q2 j hj, z2 j (by omega)]
                    | true =>
                      rw [if_pos rfl]
                      refine ⟨fun _ => ?_, fun z => absurd rfl z⟩
                      refine cc_80 (zm (zk H) (by omega)) true y4 (by rfl) rfl (by show q + (l.length : Int) ≤ 200; omega) z1 hk hS hz2 hst (fun o4 q1 q2 => ym_rt_cons (sg_79_176 (zy H) _ _ _ _ _ _ _ _ _ _ ?_))
                      refine cc_79l H hI hW hC ih hM h0 h1 hf h4 true hset d lim ind start hd hdx hl hind hst f2 b g3 c3 i3 e3 w3 u3 (q + l.length) m3' o4 _ fr (a8 + 1) _ (some (k, q)) (zs_ins true (gl, l) S) (by omega) (by omega) y2 (by omega) (by omega) hfr hfr2 hMk2 ?_ (by omega) q2 ?_ kx2 (fun ks b3 h3 g4 c4 i4 e4 w4 u4 m4 o5 q3 q4 => ?_)
                      · rw [zs_ins_len]
                        show start + ((l.length + (zs_fl S).length : Nat) : Int) = q + l.length
                        omega
                      · intro y hy
                        rcases zs_ins_mem _ _ _ _ hy with hy | hy
                        · rw [hy]
                          exact y4
                        · exact hk y hy
                      · rw [if_pos rfl] at q3 ⊢
                        refine kr ((gl, l) :: ks) b3 (by rw [show (if true = true then fr else k + 1) = fr from rfl, h3]; rfl) g4 c4 i4 e4 w4 u4 m4 o5 q3 (fun j hj => ?_)
                        rw [q4 j hj, q1 j hj, z2 j (by omega)]
                  -- left out
                  have drop : zs_dr E t k l = true → ym_in q ∧ (s.1 mm 0 = 17 → ym_Go sc P ((79, 173, [some (ym_P 7), some (ym_Q mm), some (ym_I d), some (ym_I lim), some (ym_I ind), some (ym_I start), some (ym_I (ym_or M (ym_shl 1 k))), some (ym_I fr), some (ym_I a8), some (ym_I k), some (ym_I q)], []) :: K) (80, 0, [some (ym_P 7), some (ym_I start), some (ym_I q), some (ym_I 1), none, none, none], []) (zc s b g3 c3 i3 e3 w3 u3 q m3' o3)) ∧ (¬ s.1 mm 0 = 17 → ym_Go sc P K (79, 29, [some (ym_P 7), some (ym_Q mm), some (ym_I d), some (ym_I lim), some (ym_I ind), some (ym_I start), some (ym_I (ym_or M (ym_shl 1 k))), some (ym_I (k + 1)), some (ym_I (a8 + 1)), some (ym_I k), some (ym_I q)], []) (zc s b g3 c3 i3 e3 w3 u3 q m3' o3)) := by
                    intro hdr
                    rw [hdr] at kr
                    rw [m3, hset]
                    refine ⟨⟨by omega, by omega⟩, ?_⟩
                    cases set with
                    | false =>
                      rw [if_neg (by decide)]
                      refine ⟨fun z => absurd z (by decide), fun _ => ?_⟩
                      refine cc_79l H hI hW hC ih hM h0 h1 hf h4 false hset d lim ind start hd hdx hl hind hst f2 b g3 c3 i3 e3 w3 u3 q m3' o3 _ (k + 1) (a8 + 1) _ (some (k, q)) S (by omega) (by omega) y2 (by omega) (by omega) (by omega) (by omega) hMk2 hS (by omega) hz2 hk kx2 (fun ks b3 h3 g4 c4 i4 e4 w4 u4 m4 o4 q1 q2 => ?_)
                      refine kr ks b3 (by rw [show (if false = true then fr else k + 1) = k + 1 from rfl, h3]; rfl) g4 c4 i4 e4 w4 u4 m4 o4 q1 (fun j hj => ?_)
                      rw [q2 j hj, z2 j (by omega)]
                    | true =>
                      rw [if_pos rfl]
                      refine ⟨fun _ => ?_, fun z => absurd rfl z⟩
                      refine cc_80n (zm (zk H) (by omega)) (by omega) (by omega) (Int.le_refl _) (ym_rt_cons (sg_79_176 (zy H) _ _ _ _ _ _ _ _ _ _ ?_))
                      refine cc_79l H hI hW hC ih hM h0 h1 hf h4 true hset d lim ind start hd hdx hl hind hst f2 b g3 c3 i3 e3 w3 u3 q m3' o3 _ fr (a8 + 1) _ (some (k, q)) S (by omega) (by omega) y2 (by omega) (by omega) hfr hfr2 hMk2 hS (by omega) hz2 hk kx2 (fun ks b3 h3 g4 c4 i4 e4 w4 u4 m4 o4 q1 q2 => ?_)
                      refine kr ks b3 (by rw [show (if true = true then fr else k + 1) = fr from rfl, h3]; rfl) g4 c4 i4 e4 w4 u4 m4 o4 q1 (fun j hj => ?_)
                      rw [q2 j hj, z2 j (by omega)]
                  simp only [zc_7_2, zc_7_3, zc_7_4, zc_7_5, zc_7_6, zc_7_8, zc_7_9, zc_8_1, zc_7_7, zc_9, zc_1, zc_2, zc_3, zc_4, zc_5, zc_6, zc_10, zc_11, zc_r, zc_w7_2, zc_w7_3, zc_w7_4, zc_w7_5, zc_w7_6, zc_w7_8, zc_w7_9, zc_w8_1, zc_w7_7, zc_w9, zc_p9]
                  have m7' : s.2.2.1 mm 2 = some (mm + 2) := m7
                  have m9' : s.2.2.1 mm 3 = some (mm + 3) := m9
                  refine ⟨m1, zno m7', fun z hz3 => ?_⟩
                  rw [m7'] at hz3
                  obtain rfl := Option.some.inj hz3
                  refine ⟨6, m8, ⟨by omega, by omega⟩, ?_⟩
                  rw [zc_hi (by omega), zc_hi (by omega), zc_hi (by omega), n2]
                  refine ⟨fun hw2 => ⟨fun hw => ⟨zno m9', fun z hz3 => ?_⟩, fun hw => keep ?_⟩, fun hw2 => keep ?_⟩
                  · rw [m9'] at hz3
                    obtain rfl := Option.some.inj hz3
                    refine ⟨6, m10, ⟨by omega, by omega⟩, ?_⟩
                    rw [zc_hj (by omega), n3]
                    obtain ⟨e5, e6⟩ := v5 hw2
                    have hnp := z3 e5 (E.2 25 (6 * t + k)) e6
                    refine ⟨fun hc => drop ?_, fun hc => keep ?_⟩
                    · have e7 : m3' = E.2 25 (6 * t + k) := Int64.toInt_inj.mp (zl_eq.mp hc)
                      unfold zs_dr
                      rw [decide_eq_true hw2, decide_eq_true (hnp.mp ⟨hw, e7⟩)]
                      rfl
                    · unfold zs_dr
                      rw [decide_eq_true hw2, decide_eq_false]
                      · rfl
                      · intro z
                        have := (hnp.mpr z).2
                        exact hc (zl_eq.mpr (by rw [this]))
                  · obtain ⟨e5, e6⟩ := v5 hw2
                    have hnp := z3 e5 (E.2 25 (6 * t + k)) e6
                    unfold zs_dr
                    rw [decide_eq_true hw2, decide_eq_false]
                    · rfl
                    · intro z
                      exact hw (hnp.mpr z).1
                  · unfold zs_dr
                    rw [decide_eq_false hw2]
                    rfl
                · have hs : seen k = true := by
                    cases hs : seen k with
                    | false => rw [hs] at hb; exact absurd rfl hb
                    | true => rfl
                  show (if seen k then none else _) = none
                  rw [hs]
                  rfl
            cases x8
            · exact sg_79_58 (zy H) _ _ _ _ _ _ _ _ _ go
            · exact sg_79_58b (zy H) _ _ _ _ _ _ _ _ _ _ _ go
          cases x8
          · exact sg_79_53b (zy H) _ _ _ _ _ _ _ _ _ _ idx
          · exact sg_79_53c (zy H) _ _ _ _ _ _ _ _ _ _ _ _ idx
        cases x8
        · exact sg_79_44b (zy H) _ _ _ _ _ _ _ _ _ ⟨by decide, fun z => absurd z (by decide), fun _ => peek none⟩
        · rename_i x9
          exact sg_79_44c (zy H) _ _ _ _ _ _ _ _ _ _ _ ⟨by decide, fun z => absurd z (by decide), fun _ => peek (some x9)⟩
    cases x7
    · exact sg_79_29b (zy H) _ _ _ _ _ _ _ _ ⟨hin, fun _ => nxt none, fun z => by exfalso; omega⟩
    · rename_i x9
      exact sg_79_29c (zy H) _ _ _ _ _ _ _ _ _ _ ⟨hin, fun _ => nxt (some x9), fun z => by exfalso; omega⟩
end
