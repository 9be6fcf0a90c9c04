/-! The class' values, all together: own work. -/
theorem zs_kp_0 (lo hi : Int64) (n : Int) : zs_kp 0 lo hi n = true := rfl
theorem zs_co_lh {r : Int → Int} {k bd : Int} {lo hi lo2 hi2 : Int64} {c i e p : Int} (h : bd = 0 ∨ (lo = lo2 ∧ hi = hi2)) : zs_co r k bd lo hi c i e p = zs_co r k bd lo2 hi2 c i e p := by
  rcases h with rfl | ⟨rfl, rfl⟩
  · have hos : zs_os r k 0 lo hi c i e p = zs_os r k 0 lo2 hi2 c i e p := by
      unfold zs_os
      simp only [zs_kp_0]
    have hsm : ∀ l, zs_sm k 0 lo hi l = zs_sm k 0 lo2 hi2 l := by
      intro l
      have hig : zs_ig 0 lo hi l = zs_ig 0 lo2 hi2 l := by
        unfold zs_ig
        simp only [zs_kp_0]
      unfold zs_sm
      rw [hig]
    unfold zs_co zs_ps
    rw [hos, hsm]
  · rfl
section
variable {sc : xm_S} {P : xm_O → xm_H → Prop} {s : ym_S} {r : Int → Int} {N : Int} {E : zEnv} {n : Int}
theorem zs_np_kind (hW : zWF E n) {t : Int} (h0 : 0 ≤ t) (h1 : t < n) (s0 : E.1 13 (eCo E 17 t) = 0) (k1 : E.1 15 (eCo E 17 t) ≠ 1) (k2 : E.1 15 (eCo E 17 t) ≠ 2) (l : List Int) (w : Int) (m : Int64) : zs_np E t l w m := by
  have hn16 := hW.1
  have e1 := eNc_co hW 17 t h0 h1 (by omega)
  rw [if_neg (by omega)] at e1
  intro _ v hv
  rw [e1] at hv
  exact absurd hv (fun z => z.elim (fun y => k1 y.1) k2)
theorem cc_55 (hI : zIn s r N) (hW : zWF E n) (hC : zCl E s n) : ∀ f : Nat, cvP sc P s r N E n f
  | 0 => by
    intro K t k p g c i e w u q m o lim d h0 h1 hf
    exfalso
    omega
  | f + 1 => by
    intro K t k p g c i e w u q m o lim d h0 h1 hf hk H hp hpl hl hq hqp hd hdt kx kr
    have ih : cvP sc P s r N E n f := cc_55 hI hW hC f
    have hN := hI.2.1
    have hn := hW.1
    have hr := hI.2.2.1
    obtain ⟨k', hk', hct⟩ := hC t h0 h1
    have hkk : k' = k := by rw [hk'] at hk; exact Option.some.inj hk
    subst hkk
    rw [zs_v] at kx kr
    refine sg_55_0 (zy H) _ _ _ ⟨⟨by omega, by omega⟩, fun z => by exfalso; omega, fun _ => ?_⟩
    refine cc_57 (zm (zk H) (by omega)) hI hp (by omega) hl (fun z => zbc (kx (by rw [z]; rfl)) (by decide) (by decide)) (fun c2 g2 b h2 => ym_rt_cons (sg_55_23 (zy H) _ _ _ ?_))
    rw [h2] at kx kr
    change (zs_le r lim b c2).bind _ = none → _ at kx
    change ∀ gl l b', (zs_le r lim b c2).bind _ = _ → _ at kr
    have o1 := zs_id_ok hr hl hp h2
    have l1 := zs_id_len hr hl hp h2
    refine cc_60 (zm (zk H) (by omega)) hI (by omega) (by omega) hl (fun z => zbc (kx (by rw [z]; rfl)) (by decide) (by decide)) (fun i2 e2 b2 h3 => ym_rt_cons (sg_55_28 (zy H) _ _ _ ⟨hct.1, ?_⟩))
    rw [h3] at kx kr
    change (eRs E g2 17 t).bind _ = none → _ at kx
    change ∀ gl l b', (eRs E g2 17 t).bind _ = _ → _ at kr
    have o2 := zs_le_ok hr hl (by omega) h3
    have l2 := zs_le_len hr hl (by omega) h3
    simp only [zc_7_2, zc_7_3, zc_7_4, zc_7_5, zc_7_6, zc_7_8, zc_7_9, zc_8_1, zc_7_7, zc_9, zc_1, zc_2, zc_3, zc_4, zc_5, zc_6, zc_10, zc_11, zc_r, zc_w7_2, zc_w7_3, zc_w7_4, zc_w7_5, zc_w7_6, zc_w7_8, zc_w7_9, zc_w8_1, zc_w7_7, zc_w9, zc_p9]
    refine cc_33 (zm (zk H) (by omega)) hW (zCl_zc hC) ⟨by omega, by omega⟩ h0 h1 hk' (fun z => ym_rt_cons (sg_55_40 (zy H) _ _ _ _ (kx (by rw [z]; rfl) _ _ _ _ _ _ _ _ _ _))) (fun v cv h4 hcv => ?_)
    rw [h4] at kx kr
    obtain ⟨r1, r2, r3, r4⟩ := eRs_ok hW 17 t v h0 h1 h4
    obtain ⟨x0, x1, x2, x3, x4⟩ := eCo_ok hW 17 v r1 (by omega) (by omega)
    have hnp : ∀ l w m, zs_np E v l w m → zs_np E t l w m := by
      intro l w m hh
      cases hb : eCh E t with
      | false =>
        rw [eRs_own hb 16] at h4
        split at h4
        · obtain rfl := Option.some.inj h4
          exact hh
        · cases h4
      | true =>
        have y := (eCo_ok hW 17 t h0 h1 (by omega)).2.2.2.2 hb
        have y4 : E.1 13 t = 4 := by
          unfold eCh at hb
          simp at hb
          exact hb.1
        exact zs_np_other hW h0 h1 (by rw [y]; omega) (by rw [y]; omega) l w m
    obtain ⟨cv', hcv', hctv⟩ := hC v r1 (by omega)
    have hcc : cv' = cv := by
      have : ym_R s 2 v = some cv := hcv
      rw [hcv'] at this
      exact Option.some.inj this
    subst hcc
    obtain ⟨t1, t2, t3, t4, t5, t6, t7, t8, -⟩ := hctv
    obtain ⟨xu, hxu⟩ : ∃ xu, xu = eCo E 17 v := ⟨_, rfl⟩
    rw [← hxu] at x0 x1 x2 x3 x4 t3 t5 t6 t7 t8
    change (zs_bd E r (zs_v E r f) (eCo E 17 v) c2 i2 e2 b2).map _ = none → _ at kx
    change ∀ gl l b', (zs_bd E r (zs_v E r f) (eCo E 17 v) c2 i2 e2 b2).map (fun z => ((g2, zs_enc g2 (if E.1 13 (eCo E 17 v) = 0 then 0 else 1) z.1), z.2)) = some ((gl, l), b') → _ at kr
    rw [← hxu] at kx kr
    have hxn : xu < n := by omega
    have hxch : eCh E xu = false := by rw [← x3]; exact r3
    have srt := zW_srt hW x0 hxn
    have hcons : zFc (zFo E xu) = if E.1 13 xu = 0 then 0 else 1 := by
      unfold zFo
      rcases srt with z | z | z | z | z
      · rw [z, if_neg (by decide), if_neg (by decide), if_pos rfl]
        obtain ⟨wk, -⟩ := zW_w0 hW x0 hxn z
        rcases wk with y | y | y | y | y | y | y | y <;> rw [y] <;> rfl
      · exact absurd z x2
      · rw [z]
        rfl
      · rw [z, if_neg (by decide), if_pos rfl, if_neg (by decide)]
        obtain ⟨-, wk, -⟩ := zW_w3 hW x0 hxn z
        rcases wk with y | y <;> rw [y] <;> rfl
      · rw [z, if_neg (by decide), if_neg (by decide), if_neg (by decide)]
        obtain ⟨wk, -⟩ := zW_w4 hW x0 hxn z
        rcases wk with y | y | y
        · rw [y]; rfl
        · rw [y]; rfl
        · exfalso
          unfold eCh at hxch
          rw [z, y] at hxch
          cases hxch
    have kx2 : zs_bd E r (zs_v E r f) xu c2 i2 e2 b2 = none → zBad sc P K s := fun z => kx (by rw [z]; rfl)
    have hcc2 : (if E.1 13 xu = 0 then (0 : Int) else 1) = 0 ∨ (if E.1 13 xu = 0 then (0 : Int) else 1) = 1 := by split <;> simp
    have fin : ∀ (l : List Int) (b3 : Int), zs_bd E r (zs_v E r f) xu c2 i2 e2 b2 = some (l, b3) → ∀ (g3 c3 i3 e3 w3 u3 : Int) (m3 : Int64) (o3 : Int → Int), zr o3 q l → (∀ j, j < q → o3 j = o j) → zs_np E v (zs_enc g2 (if E.1 13 xu = 0 then 0 else 1) l) w3 m3 → ym_Go sc P ((55, 229, [some (ym_P 7), some (ym_Q k'), some (ym_I lim), some (ym_I d), some (ym_I g2), some (ym_Q cv'), some (ym_I q)], [ym_I g2, ym_I q, ym_P 8]) :: K) (27, 0, [some (ym_Q cv')], []) (zc s b3 g3 c3 i3 e3 w3 u3 (q+l.length) m3 o3) := by
      intro l b3 hbd g3 c3 i3 e3 w3 u3 m3 o3 z1 z2 z3
      have hv : zs_v E r (f + 1) t lim p = some ((g2, zs_enc g2 (if E.1 13 xu = 0 then 0 else 1) l), b3) := by
        rw [zs_v, h2]
        show (zs_le r lim b c2).bind _ = _
        rw [h3]
        show (eRs E g2 17 t).bind _ = _
        rw [h4]
        show (zs_bd E r (zs_v E r f) (eCo E 17 v) c2 i2 e2 b2).map _ = _
        rw [← hxu, hbd, hxu]
        rfl
      obtain ⟨v1, v2, v3, v4⟩ := zs_v_ok hW hr hN (f + 1) t lim p _ h0 h1 hl hp hpl hv
      change b3 ≤ lim at v2
      change ((zs_enc g2 (if E.1 13 xu = 0 then 0 else 1) l).length : Int) ≤ b3 - p at v3
      refine cc_27 (zm (zk H) (by omega)) t1 ?_
      rw [zc_hi (by omega), t3, hcons]
      refine ym_rt_cons (sg_55_232 (zy H) _ _ _ _ _ _ _ _ _ ?_)
      refine cc_46 (zm (zk H) (by omega)) hq rfl o1.2.1 o1.2.2.1 hcc2 z1 (by omega) (fun o4 y1 y2 => ym_rt_cons (sg_55_235 (zy H) _ _ _ _ _ _ ?_))
      exact kr g2 _ b3 (by rw [hbd]; rfl) g3 c3 i3 e3 w3 u3 m3 o4 y2 (fun j hj => by rw [y1 j hj, z2 j hj]) (hnp _ _ _ z3)
    refine ym_rt_cons (sg_55_40b (zy H) _ _ _ _ _ ⟨t1, ?_⟩)
    simp only [zc_7_2, zc_7_3, zc_7_4, zc_7_5, zc_7_6, zc_7_8, zc_7_9, zc_8_1, zc_7_7, zc_9, zc_1, zc_2, zc_3, zc_4, zc_5, zc_6, zc_10, zc_11, zc_r, zc_w7_2, zc_w7_3, zc_w7_4, zc_w7_5, zc_w7_6, zc_w7_8, zc_w7_9, zc_w8_1, zc_w7_7, zc_w9, zc_p9]
    refine cc_28 (s := (zc s b2 g2 c2 i2 e2 w u q m o)) (zm (zk H) (by omega)) t1 o1.1 ?_
    rw [zc_hi (by omega), t3]
    refine ym_rt_cons (sg_55_56 (zy H) _ _ _ _ _ _ ?_)
    simp only [zc_7_2, zc_7_3, zc_7_4, zc_7_5, zc_7_6, zc_7_8, zc_7_9, zc_8_1, zc_7_7, zc_9, zc_1, zc_2, zc_3, zc_4, zc_5, zc_6, zc_10, zc_11, zc_r, zc_w7_2, zc_w7_3, zc_w7_4, zc_w7_5, zc_w7_6, zc_w7_8, zc_w7_9, zc_w8_1, zc_w7_7, zc_w9, zc_p9]
    rw [zc_hi (by omega), t3]
    have hq1 : q + 1 ≤ b2 := by omega
    have hic : i2 ≠ 0 → c2 ≠ 0 := fun z => (o2.2.2.2.2 (by omega)).2
    rcases srt with z | z | z | z | z
    · -- simple
      have hbd : zs_bd E r (zs_v E r f) xu c2 i2 e2 b2 = zs_co r (E.1 15 xu) (E.1 17 xu) (s.2.1 cv' 3) (s.2.1 cv' 4) c2 i2 e2 b2 := by
        rw [zs_bd, if_pos z]
        refine zs_co_lh ?_
        by_cases hb : E.1 17 xu = 0
        · exact Or.inl hb
        · exact Or.inr ⟨(t6 z hb).1.symm, (t6 z hb).2.symm⟩
      have hFo : zFo E xu = E.1 15 xu := by
        unfold zFo
        rw [if_neg (by omega), if_neg (by omega)]
      rw [if_pos z] at t5
      have hT : zT s cv' (E.1 15 xu) (s.1 cv' 1) (E.1 17 xu) (s.2.1 cv' 3) (s.2.1 cv' 4) := ⟨t1, by omega, by rw [t3, hFo], rfl, t5, rfl, rfl⟩
      rw [hFo]
      rw [hbd] at kx2
      have fin2 : ∀ (l : List Int) (b3 : Int), zs_co r (E.1 15 xu) (E.1 17 xu) (s.2.1 cv' 3) (s.2.1 cv' 4) c2 i2 e2 b2 = some (l, b3) → ∀ (g3 c3 i3 e3 w3 u3 : Int) (m3 : Int64) (o3 : Int → Int), zr o3 q l → (∀ j, j < q → o3 j = o j) → zs_np E v (zs_enc g2 0 l) w3 m3 → ym_Go sc P ((55, 229, [some (ym_P 7), some (ym_Q k'), some (ym_I lim), some (ym_I d), some (ym_I g2), some (ym_Q cv'), some (ym_I q)], [ym_I g2, ym_I q, ym_P 8]) :: K) (27, 0, [some (ym_Q cv')], []) (zc s b3 g3 c3 i3 e3 w3 u3 (q+l.length) m3 o3) := by
        intro l b3 hh g3 c3 i3 e3 w3 u3 m3 o3 y1 y2 y3
        exact fin l b3 (by rw [hbd]; exact hh) g3 c3 i3 e3 w3 u3 m3 o3 y1 y2 (by rw [if_pos z]; exact y3)
      have npk : E.1 15 xu ≠ 1 → E.1 15 xu ≠ 2 → ∀ l w m, zs_np E v l w m := fun a1 a2 l w m => zs_np_kind hW r1 (by omega) (by rw [← hxu]; exact z) (by rw [← hxu]; exact a1) (by rw [← hxu]; exact a2) l w m
      obtain ⟨wk, -⟩ := zW_w0 hW x0 hxn z
      have simple : (E.1 15 xu = 1 ∨ E.1 15 xu = 2 ∨ E.1 15 xu = 5 ∨ E.1 15 xu = 6) → c2 = 0 → ym_Go sc P ((55, 216, [some (ym_P 7), some (ym_Q k'), some (ym_I lim), some (ym_I d), some (ym_I g2), some (ym_Q cv'), some (ym_I q)], []) :: K) (62, 0, [some (ym_P 7), some (ym_Q cv')], []) (zc s b2 g2 c2 i2 e2 w u q m o) := by
        intro hk hc
        have hco : zs_co r (E.1 15 xu) (E.1 17 xu) (s.2.1 cv' 3) (s.2.1 cv' 4) c2 i2 e2 b2 = (zs_sm (E.1 15 xu) (E.1 17 xu) (s.2.1 cv' 3) (s.2.1 cv' 4) (zs_tk r b2 (e2 - b2).toNat)).map (fun l => (l, e2)) := by
          unfold zs_co zs_ps
          rw [if_neg (by omega), if_neg (by omega), if_pos hc]
        rw [hco] at kx2 fin2
        refine cc_62 (zm (zk H) (by omega)) hI hT (by omega) (by omega) (by omega) hq (by omega) hk (fun y => zbc (kx2 (by rw [y]; rfl)) (by decide) (by decide)) (fun l hl2 w2 m2 hnm => ym_rt_cons (sg_55_219 (zy H) _ _ _ _ _ _ ⟨t1, fin2 l e2 (by rw [hl2]; rfl) _ _ _ _ _ _ _ _ (zr_za l o q) (fun j hj => za_lt _ _ _ _ hj) ?_⟩))
        rw [← r4]
        refine zs_np_simple (bd := E.1 17 xu) (lo := s.2.1 cv' 3) (hi := s.2.1 cv' 4) (l0 := zs_tk r b2 (e2 - b2).toNat) hW r1 (by omega) (by rw [← hxu]; exact z) (zs_tk_all hr _ _ (by omega) (by omega)) ?_ ?_
        · rw [← hxu]; exact hl2
        · rw [← hxu]; exact hnm
      have nosimple : (E.1 15 xu = 1 ∨ E.1 15 xu = 2 ∨ E.1 15 xu = 5 ∨ E.1 15 xu = 6) → ¬ c2 = 0 → zBad sc P K s := by
        intro hk hc
        refine kx2 ?_
        unfold zs_co zs_ps
        rw [if_neg (by omega), if_neg (by omega), if_neg hc]
      have octs : (E.1 15 xu = 4 ∨ E.1 15 xu = 12 ∨ E.1 15 xu = 22) → ym_Go sc P ((55, 207, [some (ym_P 7), some (ym_Q k'), some (ym_I lim), some (ym_I d), some (ym_I g2), some (ym_Q cv'), some (ym_I q)], []) :: K) (68, 0, [some (ym_P 7), some (ym_Q cv'), none, none], []) (zc s b2 g2 c2 i2 e2 w u q m o) := by
        intro hk
        have hco : zs_co r (E.1 15 xu) (E.1 17 xu) (s.2.1 cv' 3) (s.2.1 cv' 4) c2 i2 e2 b2 = zs_os r (E.1 15 xu) (E.1 17 xu) (s.2.1 cv' 3) (s.2.1 cv' 4) c2 i2 e2 b2 := by
          unfold zs_co
          rw [if_neg (by omega), if_pos hk]
        rw [hco] at kx2 fin2
        exact cc_68 (zm (zk H) (by omega)) hI hT (by omega) (by omega) (by omega) o2.1 hq (by omega) (fun y => zbc (kx2 y) (by decide) (by decide)) (fun l b3 hl2 g3 c3 i3 e3 => ym_rt_cons (sg_55_210 (zy H) _ _ _ _ _ _ ⟨t1, fin2 l b3 hl2 _ _ _ _ _ _ _ _ (zr_za l o q) (fun j hj => za_lt _ _ _ _ hj) (npk (by omega) (by omega) _ _ _)⟩))
      rcases wk with y | y | y | y | y | y | y | y
      · rw [y]
        rw [show (if (1 : Int) = 3 ∨ (1 : Int) = 4 ∨ (1 : Int) = 12 ∨ (1 : Int) = 22 ∨ c2 = zFc 1 then (1 : Int) else 0) = if c2 = 0 then 1 else 0 by rw [show zFc 1 = 0 from rfl]; simp]
        by_cases hc : c2 = 0
        · rw [if_pos hc]
          exact ⟨by decide, fun z => absurd z (by decide), fun _ => ⟨t1, ⟨fun z => absurd z (by decide), fun _ => ⟨fun z => absurd z (by decide), fun _ => ⟨fun z => absurd z (by decide), fun _ => ⟨fun z => absurd z (by decide), fun _ => ⟨fun z => absurd z (by decide), fun _ => ⟨fun z => absurd z (by decide), fun _ => ⟨fun z => absurd z (by decide), fun _ => ⟨fun z => absurd z (by decide), fun _ => ⟨fun z => absurd z (by decide), fun _ => simple (by omega) hc⟩⟩⟩⟩⟩⟩⟩⟩⟩⟩⟩
        · rw [if_neg hc]
          exact ⟨by decide, fun _ => nosimple (by omega) hc _ _ _ _ _ _ _ _ _ _, fun z => absurd rfl z⟩
      · rw [y]
        rw [show (if (2 : Int) = 3 ∨ (2 : Int) = 4 ∨ (2 : Int) = 12 ∨ (2 : Int) = 22 ∨ c2 = zFc 2 then (1 : Int) else 0) = if c2 = 0 then 1 else 0 by rw [show zFc 2 = 0 from rfl]; simp]
        by_cases hc : c2 = 0
        · rw [if_pos hc]
          exact ⟨by decide, fun z => absurd z (by decide), fun _ => ⟨t1, ⟨fun z => absurd z (by decide), fun _ => ⟨fun z => absurd z (by decide), fun _ => ⟨fun z => absurd z (by decide), fun _ => ⟨fun z => absurd z (by decide), fun _ => ⟨fun z => absurd z (by decide), fun _ => ⟨fun z => absurd z (by decide), fun _ => ⟨fun z => absurd z (by decide), fun _ => ⟨fun z => absurd z (by decide), fun _ => ⟨fun z => absurd z (by decide), fun _ => simple (by omega) hc⟩⟩⟩⟩⟩⟩⟩⟩⟩⟩⟩
        · rw [if_neg hc]
          exact ⟨by decide, fun _ => nosimple (by omega) hc _ _ _ _ _ _ _ _ _ _, fun z => absurd rfl z⟩
      · rw [y, if_pos (by omega)]
        refine ⟨by decide, fun z => absurd z (by decide), fun _ => ⟨t1, ⟨fun _ => ?_, fun z => absurd rfl z⟩⟩⟩
        have hco : zs_co r (E.1 15 xu) (E.1 17 xu) (s.2.1 cv' 3) (s.2.1 cv' 4) c2 i2 e2 b2 = zs_bits r c2 i2 e2 b2 := by
          unfold zs_co
          rw [if_pos y]
        rw [hco] at kx2 fin2
        exact cc_67 (zm (zk H) (by omega)) hI (by omega) (by omega) (by omega) o2.1 hq hq1 (fun y => zbc (kx2 y) (by decide) (by decide)) (fun l b3 hl2 g3 c3 i3 e3 u3 => ym_rt_cons (sg_55_201 (zy H) _ _ _ _ _ _ ⟨t1, fin2 l b3 hl2 _ _ _ _ _ _ _ _ (zr_za l o q) (fun j hj => za_lt _ _ _ _ hj) (npk (by omega) (by omega) _ _ _)⟩))
      · rw [y]
        rw [if_pos (by omega)]
        exact ⟨by decide, fun z => absurd z (by decide), fun _ => ⟨t1, ⟨fun z => absurd z (by decide), fun _ => ⟨fun _ => octs (by omega), fun z => absurd rfl z⟩⟩⟩⟩
      · rw [y]
        rw [show (if (5 : Int) = 3 ∨ (5 : Int) = 4 ∨ (5 : Int) = 12 ∨ (5 : Int) = 22 ∨ c2 = zFc 5 then (1 : Int) else 0) = if c2 = 0 then 1 else 0 by rw [show zFc 5 = 0 from rfl]; simp]
        by_cases hc : c2 = 0
        · rw [if_pos hc]
          exact ⟨by decide, fun z => absurd z (by decide), fun _ => ⟨t1, ⟨fun z => absurd z (by decide), fun _ => ⟨fun z => absurd z (by decide), fun _ => ⟨fun z => absurd z (by decide), fun _ => ⟨fun z => absurd z (by decide), fun _ => ⟨fun z => absurd z (by decide), fun _ => ⟨fun z => absurd z (by decide), fun _ => ⟨fun z => absurd z (by decide), fun _ => ⟨fun z => absurd z (by decide), fun _ => ⟨fun z => absurd z (by decide), fun _ => simple (by omega) hc⟩⟩⟩⟩⟩⟩⟩⟩⟩⟩⟩
        · rw [if_neg hc]
          exact ⟨by decide, fun _ => nosimple (by omega) hc _ _ _ _ _ _ _ _ _ _, fun z => absurd rfl z⟩
      · rw [y]
        rw [show (if (6 : Int) = 3 ∨ (6 : Int) = 4 ∨ (6 : Int) = 12 ∨ (6 : Int) = 22 ∨ c2 = zFc 6 then (1 : Int) else 0) = if c2 = 0 then 1 else 0 by rw [show zFc 6 = 0 from rfl]; simp]
        by_cases hc : c2 = 0
        · rw [if_pos hc]
          exact ⟨by decide, fun z => absurd z (by decide), fun _ => ⟨t1, ⟨fun z => absurd z (by decide), fun _ => ⟨fun z => absurd z (by decide), fun _ => ⟨fun z => absurd z (by decide), fun _ => ⟨fun z => absurd z (by decide), fun _ => ⟨fun z => absurd z (by decide), fun _ => ⟨fun z => absurd z (by decide), fun _ => ⟨fun z => absurd z (by decide), fun _ => ⟨fun z => absurd z (by decide), fun _ => ⟨fun z => absurd z (by decide), fun _ => simple (by omega) hc⟩⟩⟩⟩⟩⟩⟩⟩⟩⟩⟩
        · rw [if_neg hc]
          exact ⟨by decide, fun _ => nosimple (by omega) hc _ _ _ _ _ _ _ _ _ _, fun z => absurd rfl z⟩
      · rw [y]
        rw [if_pos (by omega)]
        exact ⟨by decide, fun z => absurd z (by decide), fun _ => ⟨t1, ⟨fun z => absurd z (by decide), fun _ => ⟨fun z => absurd z (by decide), fun _ => ⟨fun _ => octs (by omega), fun z => absurd rfl z⟩⟩⟩⟩⟩
      · rw [y]
        rw [if_pos (by omega)]
        exact ⟨by decide, fun z => absurd z (by decide), fun _ => ⟨t1, ⟨fun z => absurd z (by decide), fun _ => ⟨fun z => absurd z (by decide), fun _ => ⟨fun z => absurd z (by decide), fun _ => ⟨fun z => absurd z (by decide), fun _ => ⟨fun z => absurd z (by decide), fun _ => ⟨fun _ => octs (by omega), fun z => absurd rfl z⟩⟩⟩⟩⟩⟩⟩⟩
    · exact absurd z x2
    · -- EXPLICIT
      obtain ⟨wi, wg⟩ := zW_w2 hW x0 hxn z
      have hFo : zFo E xu = 118 := by
        unfold zFo
        rw [if_pos z]
      rw [hFo]
      rw [show (if (118 : Int) = 3 ∨ (118 : Int) = 4 ∨ (118 : Int) = 12 ∨ (118 : Int) = 22 ∨ c2 = zFc 118 then (1 : Int) else 0) = if c2 = 1 then 1 else 0 by rw [show zFc 118 = 1 from rfl]; simp]
      have t7' := t7 (Or.inl z)
      obtain ⟨ki, hki, -⟩ := hC (E.1 16 xu) wi.1 (by have := wi.2; omega)
      by_cases hc : c2 = 1
      · rw [if_pos hc]
        have wi2 := wi.2
        have hbd : zs_bd E r (zs_v E r f) xu c2 i2 e2 b2 = (zs_v E r f (E.1 16 xu) e2 b2).bind (fun z => if zs_on r e2 i2 z.2 then none else some (z.1.2, zs_sk i2 z.2)) := by
          rw [zs_bd, if_neg (by omega), if_neg (by omega), if_pos z]
        rw [hbd] at kx2 fin
        rw [if_neg (show ¬ E.1 13 xu = 0 by omega)] at fin
        refine ⟨by decide, fun z => absurd z (by decide), fun _ => ⟨t1, ⟨fun z => absurd z (by decide), fun _ => ⟨fun z => absurd z (by decide), fun _ => ⟨fun z => absurd z (by decide), fun _ => ⟨fun z => absurd z (by decide), fun _ => ⟨fun z => absurd z (by decide), fun _ => ⟨fun z => absurd z (by decide), fun _ => ⟨fun z => absurd z (by decide), fun _ => ⟨fun z => absurd z (by decide), fun _ => ⟨fun _ => ?_, fun z => absurd rfl z⟩⟩⟩⟩⟩⟩⟩⟩⟩⟩⟩
        refine cc_77 (zm (zk H) (by omega)) hI hW ih t1 (t7'.trans hki) hki wi.1 (by omega) (by omega) hd (by omega) (by omega) (by omega) (by omega) o2.1 hq (by omega) (fun y => zbc (kx2 y) (by decide) (by decide)) (fun l b3 hl2 g3 c3 i3 e3 w3 u3 m3 o3 y1 y2 y3 => ym_rt_cons (sg_55_194 (zy H) _ _ _ _ _ _ ⟨t1, fin l b3 hl2 _ _ _ _ _ _ _ _ y1 y2 ?_⟩))
        rw [← r4]
        refine zs_np_explicit hW r1 (by omega) (by rw [← hxu]; exact z) ?_
        rw [← hxu]
        exact y3
      · rw [if_neg hc]
        refine ⟨by decide, fun _ => kx2 ?_ _ _ _ _ _ _ _ _ _ _, fun z => absurd rfl z⟩
        rw [zs_bd, if_neg (by omega), if_pos (by omega)]
    · -- a list
      obtain ⟨wi, wk, wt⟩ := zW_w3 hW x0 hxn z
      have hFo : zFo E xu = E.1 15 xu + 100 := by
        unfold zFo
        rw [if_neg (by omega), if_pos z]
      rw [hFo]
      have t7' := t7 (Or.inr z)
      obtain ⟨ki, hki, -⟩ := hC (E.1 16 xu) wi.1 (by have := wi.2; omega)
      have wi2 := wi.2
      have call : ∀ set : Bool, (E.1 15 xu = if set then 17 else 16) → c2 = 1 → ym_Go sc P ((55, 181, [some (ym_P 7), some (ym_Q k'), some (ym_I lim), some (ym_I d), some (ym_I g2), some (ym_Q cv'), some (ym_I q)], []) :: K) (78, 0, [some (ym_P 7), some (ym_Q cv'), some (ym_I d), none, none, none, none, none], []) (zc s b2 g2 c2 i2 e2 w u q m o) := by
        intro set hset hc
        have hs : (if E.1 15 xu = 17 then true else false) = set := by
          cases set
          · rw [hset]; rfl
          · rw [hset]; rfl
        have hbd : zs_bd E r (zs_v E r f) xu c2 i2 e2 b2 = (zs_vs r (zs_v E r f (E.1 16 xu)) 201 e2 i2 b2).map (fun z => (zs_fl (if set then zs_is false z.1 else z.1), z.2)) := by
          rw [zs_bd, if_neg (by omega), if_neg (by omega), if_neg (by omega), if_pos z]
          cases set
          · rw [hset]; rfl
          · rw [hset]; rfl
        rw [hbd] at kx2 fin
        rw [if_neg (show ¬ E.1 13 xu = 0 by omega)] at fin
        refine sg_78_0 (zy (zm (zk H) (Nat.le_refl _))) _ _ ?_
        simp only [zc_7_2, zc_7_3, zc_7_4, zc_7_5, zc_7_6, zc_7_8, zc_7_9, zc_8_1, zc_7_7, zc_9, zc_1, zc_2, zc_3, zc_4, zc_5, zc_6, zc_10, zc_11, zc_r, zc_w7_2, zc_w7_3, zc_w7_4, zc_w7_5, zc_w7_6, zc_w7_8, zc_w7_9, zc_w8_1, zc_w7_7, zc_w9, zc_p9]
        refine cc_78l (zm (zk H) (by omega)) hI hW ih t1 t2 set (by rw [t3, hFo, hset]; cases set <;> rfl) (t7'.trans hki) hki wi.1 (by omega) (by omega) d e2 i2 q hd (by omega) (by omega) o2.1 hq 201 _ _ _ _ _ _ _ _ _ _ 0 none [] (by omega) (by omega) (by omega) (by omega) (by omega) (by show q + ((0 : Nat) : Int) = q; omega) (by omega) trivial (fun y hy => by cases hy) (fun y => zbc (kx2 (by rw [y]; rfl)) (by decide) (by decide)) (fun ks b3 hks g3 c3 i3 e3 w3 u3 m3 o3 y1 y2 => ym_rt_cons (sg_55_184 (zy H) _ _ _ _ _ _ ⟨t1, ?_⟩))
        have e5 : (if set then ks.foldl (fun a y => zs_ins false y a) [] else [] ++ ks) = if set then zs_is false ks else ks := rfl
        rw [e5] at y1 ⊢
        exact fin _ b3 (by rw [hks]; rfl) g3 c3 i3 e3 w3 u3 m3 o3 y1 y2 (zs_np_other hW r1 (by omega) (by rw [← hxu]; omega) (by rw [← hxu]; omega) _ _ _)
      have none0 : ¬ c2 = 1 → zBad sc P K s := by
        intro hc
        refine kx2 ?_
        rw [zs_bd, if_neg (by omega), if_pos (by omega)]
      rcases wk with y | y
      · rw [y, show (16 : Int) + 100 = 116 by rfl]
        rw [show (if (116 : Int) = 3 ∨ (116 : Int) = 4 ∨ (116 : Int) = 12 ∨ (116 : Int) = 22 ∨ c2 = zFc 116 then (1 : Int) else 0) = if c2 = 1 then 1 else 0 by rw [show zFc 116 = 1 from rfl]; simp]
        by_cases hc : c2 = 1
        · rw [if_pos hc]
          exact ⟨by decide, fun z => absurd z (by decide), fun _ => ⟨t1, ⟨fun z => absurd z (by decide), fun _ => ⟨fun z => absurd z (by decide), fun _ => ⟨fun z => absurd z (by decide), fun _ => ⟨fun z => absurd z (by decide), fun _ => ⟨fun z => absurd z (by decide), fun _ => ⟨fun z => absurd z (by decide), fun _ => ⟨fun _ => call false y hc, fun z => absurd rfl z⟩⟩⟩⟩⟩⟩⟩⟩⟩
        · rw [if_neg hc]
          exact ⟨by decide, fun _ => none0 hc _ _ _ _ _ _ _ _ _ _, fun z => absurd rfl z⟩
      · rw [y, show (17 : Int) + 100 = 117 by rfl]
        rw [show (if (117 : Int) = 3 ∨ (117 : Int) = 4 ∨ (117 : Int) = 12 ∨ (117 : Int) = 22 ∨ c2 = zFc 117 then (1 : Int) else 0) = if c2 = 1 then 1 else 0 by rw [show zFc 117 = 1 from rfl]; simp]
        by_cases hc : c2 = 1
        · rw [if_pos hc]
          exact ⟨by decide, fun z => absurd z (by decide), fun _ => ⟨t1, ⟨fun z => absurd z (by decide), fun _ => ⟨fun z => absurd z (by decide), fun _ => ⟨fun z => absurd z (by decide), fun _ => ⟨fun z => absurd z (by decide), fun _ => ⟨fun z => absurd z (by decide), fun _ => ⟨fun z => absurd z (by decide), fun _ => ⟨fun z => absurd z (by decide), fun _ => ⟨fun _ => call true y hc, fun z => absurd rfl z⟩⟩⟩⟩⟩⟩⟩⟩⟩⟩
        · rw [if_neg hc]
          exact ⟨by decide, fun _ => none0 hc _ _ _ _ _ _ _ _ _ _, fun z => absurd rfl z⟩
    · -- members
      obtain ⟨wk, wt, w5, w6, w7, w8⟩ := zW_w4 hW x0 hxn z
      obtain ⟨mm, hmm, hM⟩ := t8 z
      have hmm' : s.2.2.1 cv' 6 = some mm := hmm
      have hFo : zFo E xu = E.1 15 xu := by
        unfold zFo
        rw [if_neg (by omega), if_neg (by omega)]
      rw [hFo]
      have call : ∀ set : Bool, (E.1 15 xu = if set then 17 else 16) → c2 = 1 → (s.2.2.1 cv' 6 = none → ym_Go sc P ((55, 171, [some (ym_P 7), some (ym_Q k'), some (ym_I lim), some (ym_I d), some (ym_I g2), some (ym_Q cv'), some (ym_I q)], []) :: K) (79, 0, [some (ym_P 7), some (ym_N), some (ym_I d), none, none, none, none, none, none, none, none], []) (zc s b2 g2 c2 i2 e2 w u q m o)) ∧ (∀ zq : Nat, s.2.2.1 cv' 6 = some zq → ym_Go sc P ((55, 171, [some (ym_P 7), some (ym_Q k'), some (ym_I lim), some (ym_I d), some (ym_I g2), some (ym_Q cv'), some (ym_I q)], []) :: K) (79, 0, [some (ym_P 7), some (ym_Q zq), some (ym_I d), none, none, none, none, none, none, none, none], []) (zc s b2 g2 c2 i2 e2 w u q m o)) := by
        intro set hset hc
        refine ⟨fun y => (zno hmm' y).elim, fun zq hzq => ?_⟩
        rw [hmm'] at hzq
        obtain rfl := Option.some.inj hzq
        have hbd : zs_bd E r (zs_v E r f) xu c2 i2 e2 b2 = (zs_ms E r (zs_v E r f) xu set 201 e2 i2 b2 0 (fun _ => false)).map (fun z => (zs_fl (if set then zs_is true z.1 else z.1), z.2)) := by
          rw [zs_bd, if_neg (by omega), if_neg (by omega), if_neg (by omega), if_neg (by omega)]
          cases set
          · rw [hset]; rfl
          · rw [hset]; rfl
        rw [hbd] at kx2 fin
        rw [if_neg (show ¬ E.1 13 xu = 0 by omega)] at fin
        refine sg_79_0b (zy (zm (zk H) (Nat.le_refl _))) _ _ ?_
        simp only [zc_7_2, zc_7_3, zc_7_4, zc_7_5, zc_7_6, zc_7_8, zc_7_9, zc_8_1, zc_7_7, zc_9, zc_1, zc_2, zc_3, zc_4, zc_5, zc_6, zc_10, zc_11, zc_r, zc_w7_2, zc_w7_3, zc_w7_4, zc_w7_5, zc_w7_6, zc_w7_8, zc_w7_9, zc_w8_1, zc_w7_7, zc_w9, zc_p9]
        refine cc_79l (zm (zk H) (by omega)) hI hW hC ih hM x0 hxn (by omega) z set hset d e2 i2 q hd (by omega) (by omega) o2.1 hq 201 _ _ _ _ _ _ _ _ _ _ 0 0 0 (fun _ => false) none [] (by omega) (by omega) (by omega) (by omega) (by omega) (by omega) w5 zMk_0 (by show q + ((0 : Nat) : Int) = q; omega) (by omega) trivial (fun y hy => by cases hy) (fun y => zbc (kx2 (by rw [y]; rfl)) (by decide) (by decide)) (fun ks b3 hks g3 c3 i3 e3 w3 u3 m3 o3 y1 y2 => ym_rt_cons (sg_55_174 (zy H) _ _ _ _ _ _ ⟨t1, ?_⟩))
        have e5 : (if set then ks.foldl (fun a y => zs_ins true y a) [] else [] ++ ks) = if set then zs_is true ks else ks := rfl
        rw [e5] at y1 ⊢
        exact fin _ b3 (by rw [hks]; rfl) g3 c3 i3 e3 w3 u3 m3 o3 y1 y2 (zs_np_other hW r1 (by omega) (by rw [← hxu]; omega) (by rw [← hxu]; omega) _ _ _)
      have none0 : ¬ c2 = 1 → zBad sc P K s := by
        intro hc
        refine kx2 ?_
        rw [zs_bd, if_neg (by omega), if_pos (by omega)]
      rcases wk with y | y | y
      · rw [y]
        rw [show (if (16 : Int) = 3 ∨ (16 : Int) = 4 ∨ (16 : Int) = 12 ∨ (16 : Int) = 22 ∨ c2 = zFc 16 then (1 : Int) else 0) = if c2 = 1 then 1 else 0 by rw [show zFc 16 = 1 from rfl]; simp]
        by_cases hc : c2 = 1
        · rw [if_pos hc]
          exact ⟨by decide, fun z => absurd z (by decide), fun _ => ⟨t1, ⟨fun z => absurd z (by decide), fun _ => ⟨fun z => absurd z (by decide), fun _ => ⟨fun z => absurd z (by decide), fun _ => ⟨fun _ => call false y hc, fun z => absurd rfl z⟩⟩⟩⟩⟩⟩
        · rw [if_neg hc]
          exact ⟨by decide, fun _ => none0 hc _ _ _ _ _ _ _ _ _ _, fun z => absurd rfl z⟩
      · rw [y]
        rw [show (if (17 : Int) = 3 ∨ (17 : Int) = 4 ∨ (17 : Int) = 12 ∨ (17 : Int) = 22 ∨ c2 = zFc 17 then (1 : Int) else 0) = if c2 = 1 then 1 else 0 by rw [show zFc 17 = 1 from rfl]; simp]
        by_cases hc : c2 = 1
        · rw [if_pos hc]
          exact ⟨by decide, fun z => absurd z (by decide), fun _ => ⟨t1, ⟨fun z => absurd z (by decide), fun _ => ⟨fun z => absurd z (by decide), fun _ => ⟨fun z => absurd z (by decide), fun _ => ⟨fun z => absurd z (by decide), fun _ => ⟨fun _ => call true y hc, fun z => absurd rfl z⟩⟩⟩⟩⟩⟩⟩
        · rw [if_neg hc]
          exact ⟨by decide, fun _ => none0 hc _ _ _ _ _ _ _ _ _ _, fun z => absurd rfl z⟩
      · exfalso
        unfold eCh at hxch
        rw [z, y] at hxch
        cases hxch
end
