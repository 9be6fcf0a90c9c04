/-! The class' INTEGER, and the simple types together: own work. -/
section
variable {sc : xm_S} {P : xm_O → xm_H → Prop} {K : List ym_F} {s : ym_S} {p g c i e w u q : Int} {m : Int64} {o : Int → Int} {r : Int → Int} {N l : Int} {k : Nat} {ff gg bd : Int} {lo hi : Int64}
theorem cc_64l (H : zh sc K 1) (hI : zIn s r N) (hT : zT s k ff gg bd lo hi) (g c i e w u : Int) (he0 : 0 ≤ e) (he : e ≤ N) (a2 a3 : Int) (ha2 : a2 ≤ 200) : ∀ (n : Nat) (a4 p q v : Int) (m : Int64) (o : Int → Int) (x5 : Option Int) (X : Int), e - p = n → a2 - a4 = n → 1 ≤ a4 → 0 ≤ p → 0 ≤ q → q ≤ p → (a2 ≤ 8 → m.toInt = v ∧ -(128 * X) ≤ v ∧ v < 128 * X) → X = 256 ^ (a4 - 1).toNat → (∀ m2 : Int64, (a2 ≤ 8 → m2.toInt = zs_nv (zs_tk r p n) v) → ¬ (bd = 0 ∨ (w = 0 ∧ zs_kp bd lo hi m2.toInt = true)) → zBad sc P K s) → (∀ m2 : Int64, (a2 ≤ 8 → m2.toInt = zs_nv (zs_tk r p n) v) → (bd = 0 ∨ (w = 0 ∧ zs_kp bd lo hi m2.toInt = true)) → ym_Rt sc P K none (zc s e g c i e w u (q+n) m2 (za o q (zs_tk r p n)))) → ym_Go sc P K (64, 113, [some (ym_P 7), some (ym_Q k), some (ym_I a2), some (ym_I a3), some (ym_I a4), x5.map ym_I], []) (zc s p g c i e w u q m o)
  | 0, a4, p, q, v, m, o, x5, X, h1, h2, h3, hp, hq, hqp, hm, hX, kx, kr => by
    have e1 : e = p := by omega
    subst e1
    have hT2 := hT
    obtain ⟨t1, t2, t3, t4, t5, t6, t7⟩ := hT2
    have fin : ∀ x : Option Int, (bd = 0 ∨ w = 0) → ym_Go sc P ((64, 178, [some (ym_P 7), some (ym_Q k), some (ym_I a2), some (ym_I a3), some (ym_I a4), x.map ym_I], []) :: K) (29, 0, [some (ym_Q k), some (ym_J m), none], []) (zc s e g c i e w u q m o) := by
      intro x hw
      refine cc_29 (zm (zk H) (by omega)) hT (ym_rt_cons ?_)
      have fin2 : ym_in (if zs_kp bd lo hi m.toInt then 1 else 0) ∧ ((if zs_kp bd lo hi m.toInt then (1 : Int) else 0) = 0 → ym_Ex sc P K 1 (ym_ex (zc s e g c i e w u q m o))) ∧ (¬ (if zs_kp bd lo hi m.toInt then (1 : Int) else 0) = 0 → ym_Rt sc P K none (zc s e g c i e w u q m o)) := by
        cases h6 : zs_kp bd lo hi m.toInt with
        | false =>
          refine ⟨by decide, fun _ => kx m (fun z => (hm z).1) (fun z => ?_) _ _ _ _ _ _ _ _ _ _, fun z => absurd rfl z⟩
          rcases z with z | z
          · unfold zs_kp at h6
            simp [z] at h6
          · rw [h6] at z
            exact absurd z.2 (by decide)
        | true =>
          refine ⟨by decide, fun z => absurd z (by decide), fun _ => ?_⟩
          have := kr m (fun z => (hm z).1) (hw.elim Or.inl (fun z => Or.inr ⟨z, h6⟩))
          rw [show q + ((0 : Nat) : Int) = q by omega] at this
          exact this
      cases x
      · exact sg_64_181 (zy H) _ _ _ _ _ fin2
      · exact sg_64_181b (zy H) _ _ _ _ _ _ fin2
    have bad : ¬ bd = 0 → ¬ w = 0 → zBad sc P K s := fun z1 z2 => kx m (fun z => (hm z).1) (fun z => z.elim z1 (fun y => z2 y.1))
    cases x5
    · refine sg_64_113 (zy H) _ _ _ _ ⟨⟨by omega, by omega⟩, ⟨by omega, by omega⟩, fun z => by exfalso; omega, fun _ => ⟨t1, ?_⟩⟩
      simp only [zc_7_2, zc_7_3, zc_7_4, zc_7_5, zc_7_6, zc_7_8, zc_7_9, zc_8_1, zc_7_7, zc_9, zc_1, zc_2, zc_3, zc_4, zc_5, zc_6, zc_10, zc_11, zc_r, zc_w7_2, zc_w7_3, zc_w7_4, zc_w7_5, zc_w7_6, zc_w7_8, zc_w7_9, zc_w8_1, zc_w7_7, zc_w9, zc_p9]
      rw [zc_hi t2, t5]
      exact ⟨fun z => fin none (Or.inl z), fun z => ⟨fun y => fin none (Or.inr y), fun y => bad z y _ _ _ _ _ _ _ _ _ _⟩⟩
    · rename_i x
      refine sg_64_113b (zy H) _ _ _ _ _ ⟨⟨by omega, by omega⟩, ⟨by omega, by omega⟩, fun z => by exfalso; omega, fun _ => ⟨t1, ?_⟩⟩
      simp only [zc_7_2, zc_7_3, zc_7_4, zc_7_5, zc_7_6, zc_7_8, zc_7_9, zc_8_1, zc_7_7, zc_9, zc_1, zc_2, zc_3, zc_4, zc_5, zc_6, zc_10, zc_11, zc_r, zc_w7_2, zc_w7_3, zc_w7_4, zc_w7_5, zc_w7_6, zc_w7_8, zc_w7_9, zc_w8_1, zc_w7_7, zc_w9, zc_p9]
      rw [zc_hi t2, t5]
      exact ⟨fun z => fin (some x) (Or.inl z), fun z => ⟨fun y => fin (some x) (Or.inr y), fun y => bad z y _ _ _ _ _ _ _ _ _ _⟩⟩
  | n + 1, a4, p, q, v, m, o, x5, X, h1, h2, h3, hp, hq, hqp, hm, hX, kx, kr => by
    have hN := hI.2.1
    have call : ∀ x : Option Int, ym_Go sc P ((64, 124, [some (ym_P 7), some (ym_Q k), some (ym_I a2), some (ym_I a3), some (ym_I a4), x.map ym_I], []) :: K) (56, 0, [some (ym_P 7), some (ym_I e)], []) (zc s p g c i e w u q m o) := by
      intro x
      refine cc_56 (zk H) hI hp he0 he (fun z => by exfalso; omega) (fun z o1 o2 => ym_rt_cons ?_)
      have fin : ym_Go sc P ((64, 150, [some (ym_P 7), some (ym_Q k), some (ym_I a2), some (ym_I a3), some (ym_I a4), some (ym_I (r p))], []) :: K) (44, 0, [some (ym_P 8), some (ym_I (r p))], []) (zc s (p+1) g c i e w u q (ym_lshl m 8 ||| ym_i2l (r p)) o) := by
        refine cc_44 (zm (zk H) (by omega)) ⟨by omega, by omega⟩ hq (by omega) (ym_rt_cons (sg_64_153 (zy H) _ _ _ _ _ ?_))
        refine cc_64l H hI hT g c i e w u he0 he a2 a3 ha2 n (a4 + 1) (p + 1) (q + 1) (v * 256 + r p) _ _ (some (r p)) (X * 256) (by omega) (by omega) (by omega) (by omega) (by omega) (by omega) (fun z => ?_) ?_ (fun m2 z => kx m2 z) (fun m2 z y => ?_)
        · obtain ⟨y1, y2, y3⟩ := hm z
          have hX2 : X ≤ 281474976710656 := by
            rw [hX]
            have h6 : (a4 - 1).toNat = 0 ∨ (a4 - 1).toNat = 1 ∨ (a4 - 1).toNat = 2 ∨ (a4 - 1).toNat = 3 ∨ (a4 - 1).toNat = 4 ∨ (a4 - 1).toNat = 5 ∨ (a4 - 1).toNat = 6 := by omega
            rcases h6 with h | h | h | h | h | h | h <;> rw [h] <;> decide
          refine ⟨?_, by omega, by omega⟩
          rw [zl_or8s (by omega) (by omega) o1 o2, y1]
        · rw [hX, show (a4 + 1 - 1).toNat = (a4 - 1).toNat + 1 by omega, Int.pow_succ]
        · have := kr m2 z y
          rw [zs_tk, za] at this
          rw [show q + 1 + (n : Int) = q + ((n + 1 : Nat) : Int) by omega]
          exact this
      cases x
      · refine sg_64_127 (zy H) _ _ _ _ _ ?_
        simp only [zc_7_2, zc_7_3, zc_7_4, zc_7_5, zc_7_6, zc_7_8, zc_7_9, zc_8_1, zc_7_7, zc_9, zc_1, zc_2, zc_3, zc_4, zc_5, zc_6, zc_10, zc_11, zc_r, zc_w7_2, zc_w7_3, zc_w7_4, zc_w7_5, zc_w7_6, zc_w7_8, zc_w7_9, zc_w8_1, zc_w7_7, zc_w9, zc_p9]
        exact fin
      · refine sg_64_127b (zy H) _ _ _ _ _ _ ?_
        simp only [zc_7_2, zc_7_3, zc_7_4, zc_7_5, zc_7_6, zc_7_8, zc_7_9, zc_8_1, zc_7_7, zc_9, zc_1, zc_2, zc_3, zc_4, zc_5, zc_6, zc_10, zc_11, zc_r, zc_w7_2, zc_w7_3, zc_w7_4, zc_w7_5, zc_w7_6, zc_w7_8, zc_w7_9, zc_w8_1, zc_w7_7, zc_w9, zc_p9]
        exact fin
    cases x5
    · exact sg_64_113 (zy H) _ _ _ _ ⟨⟨by omega, by omega⟩, ⟨by omega, by omega⟩, fun _ => call none, fun z => by exfalso; omega⟩
    · rename_i x
      exact sg_64_113b (zy H) _ _ _ _ _ ⟨⟨by omega, by omega⟩, ⟨by omega, by omega⟩, fun _ => call (some x), fun z => by exfalso; omega⟩
theorem cc_64 (H : zh sc K 1) (hI : zIn s r N) (hT : zT s k ff gg bd lo hi) (hp : 0 ≤ p) (hpe : p ≤ e) (he : e ≤ N) (hq : 0 ≤ q) (hqp : q ≤ p) (kx : zs_sm 2 bd lo hi (zs_tk r p (e - p).toNat) = none → zBad sc P K s) (kr : ∀ l, zs_sm 2 bd lo hi (zs_tk r p (e - p).toNat) = some l → ∀ w2 m2, zs_nm 2 l w2 m2 → ym_Rt sc P K none (zc s e g c i e w2 u (q+l.length) m2 (za o q l))) : ym_Go sc P K (64, 0, [some (ym_P 7), some (ym_Q k), none, none, none, none], []) (zc s p g c i e w u q m o) := by
  have hI2 := hI
  obtain ⟨i1, i2, i3, i4⟩ := hI2
  have e0 : zs_sm 2 bd lo hi (zs_tk r p (e - p).toNat) = if zs_ig bd lo hi (zs_tk r p (e - p).toNat) then some (zs_tk r p (e - p).toNat) else none := rfl
  rw [e0] at kx kr
  refine sg_64_0 (zy H) _ ?_
  simp only [zc_7_2, zc_7_3, zc_7_4, zc_7_5, zc_7_6, zc_7_8, zc_7_9, zc_8_1, zc_7_7, zc_9, zc_1, zc_2, zc_3, zc_4, zc_5, zc_6, zc_10, zc_11, zc_r, zc_w7_2, zc_w7_3, zc_w7_4, zc_w7_5, zc_w7_6, zc_w7_8, zc_w7_9, zc_w8_1, zc_w7_7, zc_w9, zc_p9]
  refine cc_56 (zk H) hI hp (by omega) he (fun z => zbc (kx ?_) (by decide) (by decide)) (fun z o1 o2 => ym_rt_cons (sg_64_18 (zy H) _ _ _ ?_))
  · rw [show (e - p).toNat = 0 by omega]
    rfl
  simp only [zc_7_2, zc_7_3, zc_7_4, zc_7_5, zc_7_6, zc_7_8, zc_7_9, zc_8_1, zc_7_7, zc_9, zc_1, zc_2, zc_3, zc_4, zc_5, zc_6, zc_10, zc_11, zc_r, zc_w7_2, zc_w7_3, zc_w7_4, zc_w7_5, zc_w7_6, zc_w7_8, zc_w7_9, zc_w8_1, zc_w7_7, zc_w9, zc_p9]
  obtain ⟨n, hn⟩ : ∃ n : Nat, e - p = (n : Int) + 1 := ⟨(e - p - 1).toNat, by omega⟩
  have e1 : (e - p).toNat = n + 1 := by omega
  rw [e1] at kx kr
  have e2 : zs_tk r p (n + 1) = r p :: zs_tk r (p + 1) n := rfl
  -- the octets go on
  have go : zs_min (zs_tk r p (n + 1)) = true → ∀ m2 : Int64, m2.toInt = zs_v1 (r p) → ym_Go sc P ((64, 107, [some (ym_P 7), some (ym_Q k), some (ym_I (e - p)), some (ym_I (r p)), none, none], []) :: K) (44, 0, [some (ym_P 8), some (ym_I (r p))], []) (zc s (p+1) g c i e (if 8 < e - p then 1 else 0) u q m2 o) := by
    intro hmin m2 hm2
    refine cc_44 (zm (zk H) (by omega)) ⟨by omega, by omega⟩ hq (by omega) (ym_rt_cons (sg_64_110 (zy H) _ _ _ ?_))
    have hig : ∀ m3 : Int64, (e - p ≤ 8 → m3.toInt = zs_nv (zs_tk r (p + 1) n) (zs_v1 (r p))) → (zs_ig bd lo hi (zs_tk r p (n + 1)) = true ↔ (bd = 0 ∨ ((if 8 < e - p then (1 : Int) else 0) = 0 ∧ zs_kp bd lo hi m3.toInt = true))) := by
      intro m3 hm3
      unfold zs_ig
      rw [hmin, zs_tk_len]
      by_cases hb : bd = 0
      · simp [hb]
      · by_cases h8 : 8 < e - p
        · have : ¬ n + 1 ≤ 8 := by omega
          simp [hb, h8, this]
        · have h9 : n + 1 ≤ 8 := by omega
          rw [hm3 (by omega)]
          simp [hb, h8, h9]
          rfl
    refine cc_64l H hI hT g c i e _ u (by omega) he (e - p) (r p) (by omega) n 1 (p + 1) (q + 1) (zs_v1 (r p)) m2 _ none 1 (by omega) (by omega) (by omega) (by omega) (by omega) (by omega) (fun _ => ⟨hm2, ?_, ?_⟩) rfl (fun m3 z1 z2 => kx ?_) (fun m3 z1 z2 => ?_)
    · unfold zs_v1; split <;> omega
    · unfold zs_v1; split <;> omega
    · rw [if_neg]
      intro y
      exact z2 ((hig m3 z1).mp y)
    · have := kr (zs_tk r p (n + 1)) (by rw [(hig m3 z1).mpr z2]; rfl) (if 8 < e - p then 1 else 0) m3 ⟨fun y => absurd y (by decide), fun _ => ⟨?_, fun y => ?_⟩⟩
      · rw [zs_tk_len, e2, za] at this
        rw [show q + 1 + (n : Int) = q + ((n + 1 : Nat) : Int) by omega]
        exact this
      · rw [zs_tk_len]
        by_cases h8 : 8 < e - p
        · rw [if_pos h8, if_pos (by omega)]
        · rw [if_neg h8, if_neg (by omega)]
      · rw [zs_tk_len] at y
        rw [z1 (by omega), e2]
        rfl
  have both : zs_min (zs_tk r p (n + 1)) = true → (ym_in (e - p)) ∧ ym_in (r p) ∧ (r p < 128 → ym_Go sc P ((64, 107, [some (ym_P 7), some (ym_Q k), some (ym_I (e - p)), some (ym_I (r p)), none, none], []) :: K) (44, 0, [some (ym_P 8), some (ym_I (r p))], []) (zc s (p+1) g c i e (if 8 < e - p then 1 else 0) u q (ym_i2l (r p)) o)) ∧ (128 ≤ r p → ym_Go sc P ((64, 107, [some (ym_P 7), some (ym_Q k), some (ym_I (e - p)), some (ym_I (r p)), none, none], []) :: K) (44, 0, [some (ym_P 8), some (ym_I (r p))], []) (zc s (p+1) g c i e (if 8 < e - p then 1 else 0) u q (ym_i2l (r p - 256)) o)) := by
    intro hmin
    refine ⟨⟨by omega, by omega⟩, ⟨by omega, by omega⟩, fun h => go hmin _ ?_, fun h => go hmin _ ?_⟩
    · rw [zl_i2l ⟨by omega, by omega⟩, zs_v1, if_pos h]
    · rw [zl_i2l ⟨by omega, by omega⟩, zs_v1, if_neg (by omega)]
  have two : 1 < e - p → ∃ y t, zs_tk r (p + 1) n = y :: t ∧ y = r (p + 1) ∧ s.1 11 (p + 1) = r (p + 1) ∧ 0 ≤ r (p + 1) ∧ r (p + 1) < 256 := by
    intro h
    obtain ⟨n2, rfl⟩ : ∃ n2, n = n2 + 1 := ⟨n - 1, by omega⟩
    exact ⟨_, _, rfl, rfl, i4 _ (by omega) (by omega), i3 _ (by omega) (by omega)⟩
  refine ⟨⟨by omega, by omega⟩, fun h1 => ?_, fun h1 => both ?_⟩
  · obtain ⟨y, t, hy, rfl, hs, y0, y1⟩ := two h1
    rw [hs, zn_shr7 y0 (by omega), zn_shr7 o1 (by omega)]
    refine ⟨⟨by omega, by omega⟩, fun h2 => ⟨⟨by omega, by omega⟩, fun h3 => kx ?_ _ _ _ _ _ _ _ _ _ _, fun h3 => both ?_⟩, fun h2 => ⟨⟨by omega, by omega⟩, fun h4 => ⟨⟨by omega, by omega⟩, fun h3 => kx ?_ _ _ _ _ _ _ _ _ _ _, fun h3 => both ?_⟩, fun h4 => both ?_⟩⟩
    · rw [e2, hy, if_neg]
      unfold zs_ig zs_min
      have : r (p + 1) < 128 := by omega
      simp [h2, this]
    · rw [e2, hy, zs_min]
      have : ¬ r (p + 1) < 128 := by omega
      simp [h2]
      omega
    · rw [e2, hy, if_neg]
      unfold zs_ig zs_min
      have : 128 ≤ r (p + 1) := by omega
      simp [h4, this]
    · rw [e2, hy, zs_min]
      have : ¬ 128 ≤ r (p + 1) := by omega
      simp [h4]
      omega
    · rw [e2, hy, zs_min]
      simp [h2, h4]
  · have : n = 0 := by omega
    subst this
    rfl
theorem cc_62 (H : zh sc K 2) (hI : zIn s r N) (hT : zT s k ff gg bd lo hi) (hp : 0 ≤ p) (hpe : p ≤ e) (he : e ≤ N) (hq : 0 ≤ q) (hqp : q ≤ p) (hf : ff = 1 ∨ ff = 2 ∨ ff = 5 ∨ ff = 6) (kx : zs_sm ff bd lo hi (zs_tk r p (e - p).toNat) = none → zBad sc P K s) (kr : ∀ l, zs_sm ff bd lo hi (zs_tk r p (e - p).toNat) = some l → ∀ w2 m2, zs_nm ff l w2 m2 → ym_Rt sc P K none (zc s e g c i e w2 u (q+l.length) m2 (za o q l))) : ym_Go sc P K (62, 0, [some (ym_P 7), some (ym_Q k)], []) (zc s p g c i e w u q m o) := by
  have hT2 := hT
  obtain ⟨t1, t2, t3, t4, t5, t6, t7⟩ := hT2
  refine sg_62_0 (zy H) _ ⟨t1, ?_⟩
  rw [zc_hi t2, t3]
  refine ⟨fun z => ?_, fun z => ?_, fun z => ?_, fun z => by exfalso; omega, fun z => by exfalso; omega, fun z => ?_⟩
  · have : ff = 6 := by omega
    subst this
    exact cc_66 (zk H) hI hp hpe he hq hqp (by decide) (by decide) (by decide) (fun y => zbc (kx y) (by decide) (by decide)) (fun l h w2 m2 hn => ym_rt_cons (sg_62_66 (zy H) _ (kr l h w2 m2 hn)))
  · subst z
    exact cc_63 (zk H) hI hp hpe he hq hqp (fun y => zbc (kx y) (by decide) (by decide)) (fun l h w2 m2 hn => ym_rt_cons (sg_62_44 (zy H) _ (kr l h w2 m2 hn)))
  · subst z
    exact cc_64 (zk H) hI hT hp hpe he hq hqp (fun y => zbc (kx y) (by decide) (by decide)) (fun l h w2 m2 hn => ym_rt_cons (sg_62_52 (zy H) _ (kr l h w2 m2 hn)))
  · subst z
    exact cc_65 (zm (zk H) (by omega)) hpe (fun y => zbc (kx y) (by decide) (by decide)) (fun l h w2 m2 hn => ym_rt_cons (sg_62_59 (zy H) _ (kr l h w2 m2 hn)))
end
