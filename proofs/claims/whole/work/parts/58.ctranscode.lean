/-! The class' transcode: own work. -/
/-- nothing else has changed -/
def zF (a b : Nat) (s s2 : ym_S) : Prop := (∀ c, ¬ (a ≤ c ∧ c ≤ b) → s2.1 c = s.1 c) ∧ (∀ c, ¬ (a ≤ c ∧ c ≤ b) → s2.2.1 c = s.2.1 c) ∧ s2.2.2 = s.2.2
theorem zF_trans {a b : Nat} {s s2 s3 : ym_S} (h : zF a b s s2) (h2 : zF a b s2 s3) : zF a b s s3 := ⟨fun c hc => (h2.1 c hc).trans (h.1 c hc), fun c hc => (h2.2.1 c hc).trans (h.2.1 c hc), h2.2.2.trans h.2.2⟩
theorem zF_mono {a b a2 b2 : Nat} {s s2 : ym_S} (h : zF a b s s2) (ha : a2 ≤ a) (hb : b ≤ b2) : zF a2 b2 s s2 := ⟨fun c hc => h.1 c (by omega), fun c hc => h.2.1 c (by omega), h.2.2⟩
theorem zF_refl {a b : Nat} (s : ym_S) : zF a b s s := ⟨fun _ _ => rfl, fun _ _ => rfl, rfl⟩
theorem zF_wI {a b c : Nat} {s : ym_S} {j v : Int} (h : a ≤ c) (h2 : c ≤ b) : zF a b s (ym_wI s c j v) := ⟨fun c' hc => funext fun j' => ym_u_ne (by omega), fun _ _ => rfl, rfl⟩
theorem zF_cpy {a b x d : Nat} {s : ym_S} {sp dp n : Int} (h : a ≤ d) (h2 : d ≤ b) : zF a b s (ym_cpy s x d sp dp n) := ⟨fun c' hc => funext fun j' => by
  show (bif Nat.beq c' d then _ else s.1 c' j') = _
  rw [zb_ne (show c' ≠ d by omega)]
  rfl, fun _ _ => rfl, rfl⟩
theorem zF_zc {s : ym_S} {p g c i e w u q : Int} {m : Int64} {o : Int → Int} : zF 7 9 s (zc s p g c i e w u q m o) := ⟨fun k hk => funext fun j => by
  show (bif Nat.beq k 7 then _ else bif Nat.beq k 8 then _ else bif Nat.beq k 9 then _ else _) = _
  rw [zb_ne (show k ≠ 7 by omega), zb_ne (show k ≠ 8 by omega), zb_ne (show k ≠ 9 by omega)]
  rfl, fun k hk => funext fun j => by
  show (bif Nat.beq k 7 then _ else _) = _
  rw [zb_ne (show k ≠ 7 by omega)]
  rfl, rfl⟩
theorem zc_self (s : ym_S) : zc s (s.1 7 2) (s.1 7 3) (s.1 7 4) (s.1 7 5) (s.1 7 6) (s.1 7 8) (s.1 7 9) (s.1 8 1) (s.2.1 7 7) (s.1 9) = s := by
  refine Prod.ext (funext fun k => funext fun j => ?_) (Prod.ext (funext fun k => funext fun j => ?_) rfl)
  · unfold zc
    dsimp only
    rcases Nat.decEq k 7 with h | h
    · rw [zb_ne h]
      rcases Nat.decEq k 8 with h2 | h2
      · rw [zb_ne h2]
        rcases Nat.decEq k 9 with h3 | h3
        · rw [zb_ne h3]
          rfl
        · subst h3
          rfl
      · subst h2
        dsimp only [cond, Nat.beq]
        split
        · rename_i h3
          rw [h3]
        · rfl
    · subst h
      dsimp only [cond, Nat.beq]
      repeat' split
      all_goals first | rfl | (rename_i h3; rw [h3])
  · unfold zc
    dsimp only
    rcases Nat.decEq k 7 with h | h
    · rw [zb_ne h]
      rfl
    · subst h
      dsimp only [cond, Nat.beq]
      split
      · rename_i h3
        rw [h3]
      · rfl
/-- all of transcoding -/
def zs_t (E : zEnv) (r : Int → Int) (a N : Int) : Option (List Int) := (zs_v E r 17 a N 0).bind (fun z => if z.2 = N then some z.1.2 else none)
theorem zCl_F {E : zEnv} {s s2 : ym_S} {n : Int} (hF : zF 3 11 s s2) (h : zCl E s n) : zCl E s2 n := by
  obtain ⟨f1, f2, f3⟩ := hF
  have hI : ∀ c, 46 ≤ c → ∀ j, s2.1 c j = s.1 c j := fun c hc j => by rw [f1 c (by omega)]
  have hJ : ∀ c, 46 ≤ c → ∀ j, s2.2.1 c j = s.2.1 c j := fun c hc j => by rw [f2 c (by omega)]
  have hR : ∀ c j, ym_R s2 c j = ym_R s c j := fun c j => by show s2.2.2.1 c j = _; rw [f3]
  have hT : ∀ c, ym_T s2 c = ym_T s c := fun c => by show s2.2.2.2.1 c = _; rw [f3]
  intro t h0 h1
  obtain ⟨k, hk, a1, a2, a3, a4, a5, a6, a7, a8, a9, a10, a11⟩ := h t h0 h1
  refine ⟨k, ?_, ?_, a2, ?_, ?_, ?_, ?_, ?_, ?_, ?_, ?_, ?_⟩
  · rw [hR]; exact hk
  · rw [hT]; exact a1
  · rw [hI k a2]; exact a3
  · rw [hI k a2]; exact a4
  · rw [hI k a2]; exact a5
  · rw [hJ k a2, hJ k a2]; exact a6
  · rw [hR, hR]; exact a7
  · intro h4
    obtain ⟨mm, hm, b1, b2, b3, b4, b5, b6, b7, b8, b9, b10, b11⟩ := a8 h4
    refine ⟨mm, ?_, ?_, b2, ?_, ?_, ?_, ?_, ?_, ?_, ?_, ?_, fun k k0 k1 => ?_⟩
    · rw [hR]; exact hm
    · rw [hT]; exact b1
    · rw [hI mm b2]; exact b3
    · rw [hI mm b2]; exact b4
    · rw [hR]; exact b5
    · rw [hT]; exact b6
    · rw [hR]; exact b7
    · rw [hT]; exact b8
    · rw [hR]; exact b9
    · rw [hT]; exact b10
    · rw [hR, hR, hI (mm + 2) (by omega), hJ (mm + 3) (by omega)]
      exact b11 k k0 k1
  · rw [hR]; exact a9
  · rw [hT]; exact a10
  · intro j j0 j1
    rw [hI (k + 1) (by omega)]
    exact a11 j j0 j1
section
variable {sc : xm_S} {P : xm_O → xm_H → Prop} {K : List ym_F} {s : ym_S} {E : zEnv} {n : Int} {r : Int → Int} {N : Int}
theorem cc_54 (H : zh sc K 47) (hW : zWF E n) (hC : zCl E s n) (hN1 : s.1 3 1 = N) (hN0 : 0 ≤ N) (hN : N ≤ 200) (hr : zs_oct r N) (hrow : ∀ j, 0 ≤ j → j < N → s.1 4 j = r j) {a : Int} {k : Nat} (h0 : 0 ≤ a) (h1 : a < n) (hk : ym_R s 2 a = some k) (kx : zs_t E r a N = none → ∀ s2, zF 7 11 s s2 → ym_Ex sc P K 1 (ym_ex s2)) (kr : ∀ l, zs_t E r a N = some l → ∀ s2, zF 7 11 s s2 → s2.1 8 1 = l.length → zr (s2.1 9) 0 l → (l.length : Int) ≤ 200 → ym_Rt sc P K none s2) : ym_Go sc P K (54, 0, [some (ym_P 7), some (ym_P 3), some (ym_Q k)], []) s := by
  have hn := hW.1
  refine sg_54_0 (zy H) _ (sg_45_0 (zy (zk H)) ?_)
  rw [hN1]
  refine ⟨⟨by omega, by omega, by omega, by omega, by omega⟩, ym_rt_cons (sg_54_8 (zy H) _ ?_)⟩
  obtain ⟨s1, hs1⟩ : ∃ s1, s1 = ym_wI (ym_cpy s 4 11 0 0 N) 10 1 N := ⟨_, rfl⟩
  have g10 : s1.1 10 1 = N := by rw [hs1]; rfl
  have g11 : ∀ j, 0 ≤ j → j < N → s1.1 11 j = r j := by
    intro j j0 j1
    have : s1.1 11 j = if 0 ≤ j ∧ j < 0 + N then s.1 4 (0 + (j - 0)) else s.1 11 j := by rw [hs1]; rfl
    rw [this, if_pos (by omega), show 0 + (j - 0) = j by omega]
    exact hrow j j0 j1
  have hF1 : zF 7 11 s s1 := by
    rw [hs1]
    exact zF_trans (zF_cpy (by decide) (by decide)) (zF_wI (by decide) (by decide))
  rw [show ym_wI (ym_cpy s 4 11 0 0 N) 10 1 N = s1 from hs1.symm, g10]
  have hI : zIn s1 r N := ⟨g10, hN, hr, g11⟩
  have hC1 : zCl E s1 n := zCl_F (zF_mono hF1 (by decide) (by decide)) hC
  have hk1 : ym_R s1 2 a = some k := by
    rw [← hk]
    show s1.2.2.1 2 a = _
    rw [hF1.2.2]
  have key : ∀ s2 : ym_S, s2 = s1 → ym_Go sc P ((54, 31, [some (ym_P 7), some (ym_P 3), some (ym_Q k)], []) :: K) (55, 0, [some (ym_P 7), some (ym_Q k), some (ym_I N), some (ym_I 1), none, none, none], []) (ym_wI (ym_wI s2 7 2 0) 8 1 0) := by
    intro s2 hs2
    rw [← zc_self s2, zc_w7_2, zc_w8_1, hs2]
    have hv := cc_55 (sc := sc) (P := P) hI hW hC1 17
    have bad : (zs_t E r a N = none) → zBad sc P K s1 := fun z p g c i e w u q m o => kx z _ (zF_trans hF1 (zF_mono zF_zc (by decide) (by decide)))
    refine hv _ a k _ _ _ _ _ _ _ _ _ _ N 1 h0 h1 (by omega) hk1 (zk H) (by omega) hN0 (Int.le_refl _) (by omega) (by omega) (by omega) (by omega) (fun z => zbc (bad (by unfold zs_t; rw [z]; rfl)) (by decide) (by decide)) (fun gl l b h g2 c2 i2 e2 w2 u2 m2 o2 z1 z2 z3 => ym_rt_cons (sg_54_34 (zy H) _ ?_))
    obtain ⟨v1, v2, v3, v4⟩ := zs_v_ok hW hr hN 17 a N 0 _ h0 h1 (Int.le_refl _) (by omega) hN0 h
    change b ≤ N at v2
    change (l.length : Int) ≤ b - 0 at v3
    simp only [zc_7_2, zc_7_3, zc_7_4, zc_7_5, zc_7_6, zc_7_8, zc_7_9, zc_8_1, zc_7_7, zc_9, zc_1, zc_2, zc_3, zc_4, zc_5, zc_6, zc_10, zc_11, zc_r, zc_w7_2, zc_w7_3, zc_w7_4, zc_w7_5, zc_w7_6, zc_w7_8, zc_w7_9, zc_w8_1, zc_w7_7, zc_w9, zc_p9]
    rw [g10]
    have ht : zs_t E r a N = if b = N then some l else none := by
      unfold zs_t
      rw [h]
      rfl
    refine ⟨fun hb => ?_, fun hb => bad (by rw [ht, if_neg hb]) _ _ _ _ _ _ _ _ _ _⟩
    exact kr l (by rw [ht, if_pos hb]) _ (zF_trans hF1 (zF_mono zF_zc (by decide) (by decide))) (by rw [zc_8_1]; omega) z1 (by omega)
  exact key s1 rfl
theorem cc_16 (H : zh sc K 0) (hn : n ≤ 16) (hn1 : s.1 1 1 = n) (hC : zCl E s n) {a : Int} (ha : ym_in a) (kx : (a < 0 ∨ n ≤ a) → ym_Rt sc P K (some ym_N) s) (kr : ∀ k, 0 ≤ a → a < n → ym_R s 2 a = some k → ym_Rt sc P K (some (ym_Q k)) s) : ym_Go sc P K (16, 0, [some (ym_P 1), some (ym_I a)], []) s := by
  refine sg_16_0 (zy H) _ ?_
  rw [hn1]
  refine ⟨ha, fun h => kx (Or.inl h), fun h0 => ⟨ha, fun h1 => ⟨⟨h0, by omega⟩, ?_⟩, fun h1 => kx (Or.inr h1)⟩⟩
  obtain ⟨k, hk, -⟩ := hC a h0 h1
  have hk' : s.2.2.1 2 a = some k := hk
  refine ⟨fun z => (zno hk' z).elim, fun z hz => ?_⟩
  rw [hk'] at hz
  obtain rfl := Option.some.inj hz
  exact kr k h0 h1 hk
theorem cc_134 (H : zh sc K 50) (hW : zWF E n) (hC : zCl E s n) (hn1 : s.1 1 1 = n) (hN1 : s.1 3 1 = N) (hN0 : 0 ≤ N) (hN : N ≤ 200) (hr : zs_oct r N) (hrow : ∀ j, 0 ≤ j → j < N → s.1 4 j = r j) {a : Int} (ha : ym_in a) (k0 : (a < 0 ∨ n ≤ a) → ym_Rt sc P K (some (ym_I 1)) (ym_ex s)) (kx : 0 ≤ a → a < n → zs_t E r a N = none → ∀ s2, zF 7 11 s s2 → ym_Rt sc P K (some (ym_I 2)) (ym_ex s2)) (kr : 0 ≤ a → a < n → ∀ l, zs_t E r a N = some l → ∀ s2, zF 5 11 s s2 → s2.1 5 1 = l.length → zr (s2.1 6) 0 l → (l.length : Int) ≤ 200 → ym_Rt sc P K (some (ym_I 0)) (ym_wJ s2 45 0 (ym_i2l l.length))) : ym_Go sc P K (134, 0, [some (ym_P 1), some (ym_I a), some (ym_P 45), none], []) s := by
  have hn := hW.1
  have H1 : zh sc ((134, 4, [some (ym_P 1), some (ym_I a), some (ym_P 45), none], [ym_I 0, ym_P 45]) :: K) 49 := zk H
  refine sg_134_0 (zy H) _ (sg_10_0 (zy H1) _ ?_)
  refine cc_16 (zm (zk H1) (by omega)) hn hn1 hC ha (fun h => ym_rt_cons (sg_10_5 (zy H1) _ ?_)) (fun k h0 h1 hk => ym_rt_cons (sg_10_5b (zy H1) _ _ ?_))
  · exact ym_ex_catch (pc2 := 12) (j := 3) (show xm_vt 134 4 = true by decide) (show xm_hh 134 ≠ [] by decide) (show xm_cat 134 4 0 = some (12, 3) by decide) (sg_134_13 (zy H) _ (k0 h))
  · refine cc_54 (zm (zk H1) (by omega)) hW hC hN1 hN0 hN hr hrow h0 h1 hk (fun z s2 hF => ?_) (fun l z s2 hF f1 f2 f3 => ym_rt_cons (sg_10_30 (zy H1) _ _ ?_))
    · refine ym_ex_cons (show xm_vt 10 27 = true by decide) (show xm_hh 10 = [] by decide) ?_
      exact ym_ex_catch (pc2 := 15) (j := 3) (show xm_vt 134 4 = true by decide) (show xm_hh 134 ≠ [] by decide) (show xm_cat 134 4 1 = some (15, 3) by decide) (sg_134_16 (zy H) _ (kx h0 h1 z s2 hF))
    · refine sg_45_0b (zy (zk H1)) ?_
      rw [f1]
      refine ⟨⟨by omega, by omega, by omega, by omega, by omega⟩, ym_rt_cons (sg_10_44 (zy H1) _ _ (ym_rt_cons (sg_134_7 (zy H) _ _ _ ⟨⟨by decide, by decide⟩, ?_⟩)))⟩
      have e1 : (ym_wI (ym_cpy s2 9 6 0 0 (l.length : Int)) 5 1 (l.length : Int)).1 5 1 = (l.length : Int) := rfl
      rw [e1]
      refine kr h0 h1 l z _ (zF_trans (zF_mono hF (by decide) (by decide)) (zF_trans (zF_cpy (by decide) (by decide)) (zF_wI (by decide) (by decide)))) e1 ?_ f3
      refine zr_shift l (s2.1 9) _ 0 0 f2 (fun j j0 j1 => ?_)
      have : (ym_wI (ym_cpy s2 9 6 0 0 (l.length : Int)) 5 1 (l.length : Int)).1 6 (0 + j) = if 0 ≤ 0 + j ∧ 0 + j < 0 + (l.length : Int) then s2.1 9 (0 + (0 + j - 0)) else s2.1 6 (0 + j) := rfl
      rw [this, if_pos (by omega), show 0 + (0 + j - 0) = 0 + j by omega]
end
