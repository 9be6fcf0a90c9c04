/-! member on both sides: own work. -/
theorem ym_cmp_eq {x y : Int64} (h : ym_cmp x y = 0) : x = y := by
  unfold ym_cmp at h
  by_cases w : x > y
  · rw [if_pos w] at h
    exact absurd h (by decide)
  · rw [if_neg w] at h
    by_cases w2 : x = y
    · exact w2
    · rw [if_neg w2] at h
      exact absurd h (by decide)
/-- a number as a default -/
def zCb (E : zEnv) (u : Int) (v : Int64) : Int := if E.1 13 u = 0 then (if E.1 15 u = 1 then ((if (ym_cmp v (Int64.ofNat 0)) = 0 then (1 : Int) else (if (ym_cmp v (Int64.ofNat 1)) = 0 then (1 : Int) else 0)) : Int) else (if E.1 15 u = 2 then ((if E.1 17 u = 0 then (1 : Int) else (if (ym_cmp v (E.2 18 u)) < 0 then (0 : Int) else (if 0 < (ym_cmp v (E.2 19 u)) then (0 : Int) else 1))) : Int) else 0)) else 0
theorem zCb_b (E : zEnv) (u : Int) (v : Int64) : zCb E u v = 0 ∨ zCb E u v = 1 := by
  unfold zCb
  repeat' split
  all_goals simp
theorem zCb_1 {E : zEnv} {u : Int} {v : Int64} (h : zCb E u v = 1) : E.1 13 u = 0 ∧ ((E.1 15 u = 1 ∧ (v.toInt = 0 ∨ v.toInt = 1)) ∨ E.1 15 u = 2) := by
  unfold zCb at h
  by_cases s0 : E.1 13 u = 0
  · refine ⟨s0, ?_⟩
    rw [if_pos s0] at h
    by_cases k1 : E.1 15 u = 1
    · refine Or.inl ⟨k1, ?_⟩
      rw [if_pos k1] at h
      by_cases w0 : ym_cmp v (Int64.ofNat 0) = 0
      · rw [ym_cmp_eq w0]
        exact Or.inl (by decide)
      · rw [if_neg w0] at h
        by_cases w1 : ym_cmp v (Int64.ofNat 1) = 0
        · rw [ym_cmp_eq w1]
          exact Or.inr (by decide)
        · rw [if_neg w1] at h
          exact absurd h (by decide)
    · rw [if_neg k1] at h
      by_cases k2 : E.1 15 u = 2
      · exact Or.inr k2
      · rw [if_neg k2] at h
        exact absurd h (by decide)
  · rw [if_neg s0] at h
    exact absurd h (by decide)
section
variable {E : zEnv} {n : Int}
theorem eNd_co (hW : zWF E n) : ∀ (f : Nat) (t : Int), 0 ≤ t → t < n → t < f → eNc E 17 t = eNc E 17 (eCo E f t)
  | 0, t, h0, h1, hf => by exfalso; omega
  | f + 1, t, h0, h1, hf => by
    have hn := hW.1
    rw [eCo]
    by_cases s1 : E.1 13 t = 1
    · obtain ⟨wi, -⟩ := zW_w1 hW h0 h1 s1
      have wi2 := wi.2
      rw [if_pos s1, ← eNd_co hW f _ wi.1 (by omega) (by omega)]
      have : eNc E 17 t = eNc E 16 (E.1 16 t) := by rw [eNc, if_pos (Or.inl s1)]
      rw [this]
      exact eNc_fuel hW 16 17 _ wi.1 (by omega) (by omega) (by omega)
    · rw [if_neg s1]
end
section
variable {sc : xm_S} {P : xm_O → xm_H → Prop} {K : List ym_F} {s : ym_S} {E : zEnv} {n : Int}
theorem cc_30l (H : zh sc K 3) (hW : zWF E n) (hC : zCl E s n) {c0 : Nat} {v : Int64} : ∀ (k : Nat) (t : Int) (c3 : Nat) (a4 : Int), 0 ≤ t → t < n → t < k → ym_R s 2 t = some c3 → 0 ≤ a4 → a4 + t ≤ 15 → ym_Rt sc P K (some (ym_I (zCb E (eNc E 17 t) v))) s → ym_Go sc P K (30, 5, [some (ym_Q c0), some (ym_J v), none, some (ym_Q c3), some (ym_I a4)], []) s
  | 0, t, c3, a4, t0, t1, tk, hc, ha, hb, kr => by exfalso; omega
  | k + 1, t, c3, a4, t0, t1, tk, hc, ha, hb, kr => by
    have hn := hW.1
    obtain ⟨c', hc', hct⟩ := hC t t0 t1
    obtain rfl : c3 = c' := Option.some.inj (hc.symm.trans hc')
    obtain ⟨x1, x2, x3, x4, x5, x6, x7, -⟩ := hct
    obtain ⟨u0, u1, u2, u3, u4⟩ := eCo_ok hW 17 t t0 t1 (by omega)
    rw [eNd_co hW 17 t t0 t1 (by omega)] at kr
    obtain ⟨u, hu⟩ : ∃ u, u = eCo E 17 t := ⟨_, rfl⟩
    rw [← hu] at kr x3 x5 x6 x7 u0 u1 u2
    have srt := zW_srt hW u0 (by omega : u < n)
    refine sg_30_5 (zy H) _ _ _ _ ⟨⟨by omega, by omega⟩, fun _ => ⟨x1, fun w => ?_, fun w => ?_⟩, fun w => by exfalso; omega⟩
    · -- an EXPLICIT tag
      have s2 : E.1 13 u = 2 := by
        rw [x3] at w
        unfold zFo at w
        rcases srt with z | z | z | z | z
        · rw [if_neg (by omega), if_neg (by omega)] at w
          have := (zW_w0 hW u0 (by omega) z).1
          omega
        · exact absurd z u2
        · exact z
        · rw [if_neg (by omega), if_pos z] at w
          have := (zW_w3 hW u0 (by omega) z).2.1
          omega
        · rw [if_neg (by omega), if_neg (by omega)] at w
          have := (zW_w4 hW u0 (by omega) z).1
          omega
      obtain ⟨wi, -⟩ := zW_w2 hW u0 (by omega) s2
      have wi2 := wi.2
      have h5 : s.2.2.1 c3 5 = ym_R s 2 (E.1 16 u) := x7 (Or.inl s2)
      obtain ⟨ci, hci, -⟩ := hC (E.1 16 u) wi.1 (by omega)
      rw [hci] at h5
      rw [h5]
      refine ⟨fun z => (by cases z), fun q hq => ⟨fun z => (by cases z), fun q2 hq2 => ?_⟩⟩
      obtain rfl := Option.some.inj hq2
      refine cc_30l H hW hC k (E.1 16 u) ci (a4 + 1) wi.1 (by omega) (by omega) hci (by omega) (by omega) ?_
      have : eNc E 17 u = eNc E 17 (E.1 16 u) := by
        have e1 : eNc E 17 u = eNc E 16 (E.1 16 u) := by rw [eNc, if_pos (Or.inr s2)]
        rw [e1]
        exact eNc_fuel hW 16 17 _ wi.1 (by omega) (by omega) (by omega)
      rw [← this]
      exact kr
    · have s2 : ¬ E.1 13 u = 2 := by
        intro z
        rw [x3] at w
        unfold zFo at w
        rw [if_pos z] at w
        exact w rfl
      have hnc : eNc E 17 u = u := by rw [eNc, if_neg (by omega)]
      rw [hnc] at kr
      unfold zCb at kr
      by_cases s0 : E.1 13 u = 0
      · have e0 : s.1 c3 0 = E.1 15 u := by
          rw [x3]
          unfold zFo
          rw [if_neg (by omega), if_neg (by omega)]
        rw [if_pos s0] at kr x5
        rw [e0]
        refine ⟨fun w1 => ?_, fun w1 => ⟨fun w2 => ?_, fun w2 => ?_⟩⟩
        · rw [if_pos w1] at kr
          exact kr
        · rw [if_neg w1, if_pos w2] at kr
          refine sg_29_0 (zy (zk H)) _ _ ⟨x1, ?_⟩
          rw [x5]
          have e1 : (if E.1 17 u = 0 then (1 : Int) else (if (ym_cmp v (s.2.1 c3 3)) < 0 then (0 : Int) else (if 0 < (ym_cmp v (s.2.1 c3 4)) then (0 : Int) else 1))) = (if E.1 17 u = 0 then (1 : Int) else (if (ym_cmp v (E.2 18 u)) < 0 then (0 : Int) else (if 0 < (ym_cmp v (E.2 19 u)) then (0 : Int) else 1))) := by
            by_cases b0 : E.1 17 u = 0
            · rw [if_pos b0, if_pos b0]
            · obtain ⟨y1, y2⟩ := x6 s0 b0
              rw [y1, y2]
          rw [e1]
          have hx : (if E.1 17 u = 0 then (1 : Int) else (if (ym_cmp v (E.2 18 u)) < 0 then (0 : Int) else (if 0 < (ym_cmp v (E.2 19 u)) then (0 : Int) else 1))) = 0 ∨ (if E.1 17 u = 0 then (1 : Int) else (if (ym_cmp v (E.2 18 u)) < 0 then (0 : Int) else (if 0 < (ym_cmp v (E.2 19 u)) then (0 : Int) else 1))) = 1 := by
            repeat' split
            all_goals simp
          generalize (if E.1 17 u = 0 then (1 : Int) else (if (ym_cmp v (E.2 18 u)) < 0 then (0 : Int) else (if 0 < (ym_cmp v (E.2 19 u)) then (0 : Int) else 1))) = q at hx kr ⊢
          refine ym_rt_cons (sg_30_78 (zy H) _ _ _ _ _ ⟨⟨by omega, by omega⟩, ?_⟩)
          have e2 : (if q = 0 then (0 : Int) else 1) = q := by
            rcases hx with rfl | rfl <;> rfl
          rw [e2]
          exact kr
        · rw [if_neg w1, if_neg w2] at kr
          exact kr
      · rw [if_neg s0] at kr
        have ne : ¬ s.1 c3 0 = 1 ∧ ¬ s.1 c3 0 = 2 := by
          rw [x3]
          unfold zFo
          rcases srt with z | z | z | z | z
          · exact absurd z s0
          · exact absurd z u2
          · exact absurd z s2
          · rw [if_neg (by omega), if_pos z]
            have := (zW_w3 hW u0 (by omega) z).2.1
            omega
          · rw [if_neg (by omega), if_neg (by omega)]
            have := (zW_w4 hW u0 (by omega) z).1
            omega
        exact ⟨fun w1 => absurd w1 ne.1, fun _ => ⟨fun w2 => absurd w2 ne.2, fun _ => kr⟩⟩
theorem rc_93 (H : zh sc K 3) (hW : zWF E n) (hE : zRE s E) {a1 : Int} {v : Int64} : ∀ (k : Nat) (t : Int), 0 ≤ t → t < n → t < k → ym_Rt sc P K (some (ym_I (zCb E (eNc E 17 t) v))) s → ym_Go sc P K (93, 3, [some (ym_P 12), some (ym_I a1), some (ym_J v), none, some (ym_I t)], []) s
  | 0, t, t0, t1, tk, kr => by exfalso; omega
  | k + 1, t, t0, t1, tk, kr => by
    have hn := hW.1
    obtain ⟨h13, h14, h15, h16, h17, h20, h21, h22, h23, h24, h18, h19, h25⟩ := hE
    have tb : (0 : Int) ≤ t ∧ t < 16 := ⟨t0, by omega⟩
    have srt := zW_srt hW t0 t1
    have deep : (E.1 13 t = 1 ∨ E.1 13 t = 2) → ym_Go sc P K (93, 3, [some (ym_P 12), some (ym_I a1), some (ym_J v), none, some (ym_I (E.1 16 t))], []) s := by
      intro s1
      obtain ⟨w1, w2⟩ := eNc_wi hW t0 t1 s1
      refine rc_93 H hW ⟨h13, h14, h15, h16, h17, h20, h21, h22, h23, h24, h18, h19, h25⟩ k _ w1 (by omega) (by omega) ?_
      have : eNc E 17 t = eNc E 17 (E.1 16 t) := by
        have e1 : eNc E 17 t = eNc E 16 (E.1 16 t) := by rw [eNc, if_pos s1]
        rw [e1]
        exact eNc_fuel hW 16 17 _ w1 (by omega) (by omega) (by omega)
      rw [← this]
      exact kr
    refine sg_93_3 (zy H) _ _ _ ?_
    rw [h13, h15, h16, h17, h18, h19]
    refine ⟨tb, fun w => ⟨tb, deep (Or.inl w)⟩, fun w => ⟨tb, fun w2 => ⟨tb, deep (Or.inr w2)⟩, fun w2 => ⟨tb, fun w0 => ⟨tb, fun _ => ⟨tb, fun _ => ⟨tb, fun _ => ⟨tb, fun _ => tb⟩⟩⟩, ?_⟩, fun w0 => ?_⟩⟩⟩
    · have hnc : eNc E 17 t = t := by rw [eNc, if_neg (by omega)]
      rw [hnc] at kr
      unfold zCb at kr
      rw [if_pos w0] at kr
      exact kr
    · have hnc : eNc E 17 t = t := by rw [eNc, if_neg (by omega)]
      rw [hnc] at kr
      unfold zCb at kr
      rw [if_neg w0] at kr
      exact kr
/-- what member takes -/
def zMo (E : zEnv) (n op a h : Int) (v : Int64) : Prop := op ≠ 0 ∧ E.1 22 16 < 6 ∧ (0 ≤ a ∧ a < n) ∧ (0 ≤ h ∧ h ≤ 2) ∧ (op = 20 → h = 0) ∧ (h = 2 → zCb E (eNc E 17 a) v = 1)
/-- the draft with one more member -/
def zAd (s : ym_S) (d c : Nat) (k h : Int) (v : Int64) : ym_S := ym_wI (ym_wJ (ym_wI (ym_wR s (d + 1) k (some c)) (d + 2) k h) (d + 3) k v) d 4 (k + 1)
theorem cc_6 (H : zh sc K 8) (hW : zWF E n) (hC : zCl E s n) {op : Int} (hD : zDr E s n op) (h22 : 0 ≤ E.1 22 16 ∧ E.1 22 16 ≤ 6) (hn1 : s.1 1 1 = n) {a h : Int} {v : Int64} (ha : ym_in a) (hh : ym_in h) (kN : ¬ zMo E n op a h v → ym_Rt sc P K (some (ym_I 0)) s) (kY : zMo E n op a h v → ∀ d c, ym_R s 1 2 = some d → zDd E s n op d → ym_R s 2 a = some c → ym_Rt sc P K (some (ym_I 1)) (zAd s d c (E.1 22 16) h v)) : ym_Go sc P K (6, 0, [some (ym_P 1), some (ym_I a), some (ym_I h), some (ym_J v), none, none], []) s := by
  have hn := hW.1
  refine sg_6_0 (zy H) _ _ _ (cc_16 (zk (zm H (show 1 ≤ 8 by omega))) hn hn1 hC ha (fun w => ym_rt_cons (sg_6_5 (zy H) _ _ _ ?_)) (fun c h0 h1 hc => ym_rt_cons (sg_6_5b (zy H) _ _ _ _ ?_)))
  · have no := kN (fun z => by have := z.2.2.1; omega)
    exact ⟨fun _ => no, fun _ _ => no⟩
  · rcases hD with ⟨d1, d2⟩ | ⟨d, d1, hd⟩
    · have d1 : s.2.2.1 1 2 = none := d1
      rw [d1]
      exact ⟨fun _ => kN (fun z => z.1 d2), fun q hq => by cases hq⟩
    · have d1' : s.2.2.1 1 2 = some d := d1
      rw [d1']
      refine ⟨fun z => (by cases z), fun q hq => ⟨fun z => (by cases z), fun q2 hq2 => ?_⟩⟩
      obtain rfl := Option.some.inj hq2
      have hd0 := hd
      obtain ⟨e1, e2, e3, e4, e5, e6, e7, e8, e9, e10, e11, e12, e13⟩ := hd
      refine ⟨e2, ?_⟩
      -- the answer of mayTake
      have ans : ∀ t0 : Int, (t0 = 0 ∨ t0 = 1) → (t0 = 0 → ¬ zMo E n op a h v) → (t0 = 1 → zMo E n op a h v) → ym_Go sc P K (6, 30, [some (ym_P 1), some (ym_I a), some (ym_I h), some (ym_J v), none, some (ym_Q c)], [ym_I t0]) s := by
        intro t0 ht n0 n1
        refine sg_6_30 (zy H) _ _ _ _ _ ⟨⟨by omega, by omega⟩, fun w => kN (n0 w), fun w => ?_⟩
        have hok := n1 (by omega)
        rw [d1']
        refine ⟨fun z => (by cases z), fun q3 hq3 => ?_⟩
        obtain rfl := Option.some.inj hq3
        refine ⟨e2, ?_⟩
        obtain ⟨c', hc', hct⟩ := hC a h0 h1
        obtain rfl : c = c' := Option.some.inj (hc.symm.trans hc')
        have lt6 := hok.2.1
        have r2 : (ym_wR s (d + 1) (E.1 22 16) (some c)).2.2.1 d 2 = some (d + 2) := (ym_u_ne (show d ≠ d + 1 by omega)).trans e8
        have r3 : (ym_wR s (d + 1) (E.1 22 16) (some c)).2.2.1 d 3 = some (d + 3) := (ym_u_ne (show d ≠ d + 1 by omega)).trans e10
        have r4 : (ym_wI (ym_wR s (d + 1) (E.1 22 16) (some c)) (d + 2) (E.1 22 16) h).1 d 4 = E.1 22 16 := (wI_c (by omega)).trans e5
        have e6' : s.2.2.1 d 1 = some (d + 1) := e6
        refine sg_36_0 (zy (zk H)) _ _ _ _ ?_
        rw [e5, e6']
        refine ⟨e2, fun z => (by cases z), fun q4 hq4 => ?_⟩
        obtain rfl := Option.some.inj hq4
        refine ⟨6, e7, ⟨by omega, by omega⟩, hct.1, by omega, fun z => (by rw [r2] at z; cases z), fun q5 hq5 => ?_⟩
        rw [r2] at hq5
        obtain rfl := Option.some.inj hq5
        refine ⟨6, e9, ⟨by omega, by omega⟩, hh, fun z => (by rw [r3] at z; cases z), fun q6 hq6 => ?_⟩
        rw [r3] at hq6
        obtain rfl := Option.some.inj hq6
        rw [r4]
        refine ⟨6, e11, ⟨by omega, by omega⟩, ⟨by omega, by omega⟩, ym_rt_cons (sg_6_46 (zy H) _ _ _ _ ?_)⟩
        exact kY hok d c d1 hd0 hc
      refine sg_35_0 (zy (zk H)) _ _ _ _ ?_
      rw [e4, e5]
      have op0 : op ≠ 0 := by omega
      refine ⟨e2, fun lt6 => ⟨hh, fun w0 => ym_rt_cons (ans 1 (Or.inr rfl) (fun z => absurd z (by decide)) (fun _ => ⟨op0, lt6, ⟨h0, h1⟩, ⟨by omega, by omega⟩, fun _ => w0, fun z => by exfalso; omega⟩)), fun w0 => ⟨fun w20 => ym_rt_cons (ans 0 (Or.inl rfl) (fun _ z => w0 (z.2.2.2.2.1 w20)) (fun z => absurd z (by decide))), fun w20 => ⟨hh, fun w1 => ym_rt_cons (ans 1 (Or.inr rfl) (fun z => absurd z (by decide)) (fun _ => ⟨op0, lt6, ⟨h0, h1⟩, ⟨by omega, by omega⟩, fun z => absurd z w20, fun z => by exfalso; omega⟩)), fun w1 => ⟨hh, fun w2 => ?_, fun w2 => ym_rt_cons (ans 0 (Or.inl rfl) (fun _ z => by have := z.2.2.2.1; omega) (fun z => absurd z (by decide)))⟩⟩⟩⟩, fun ge6 => ym_rt_cons (ans 0 (Or.inl rfl) (fun _ z => by have := z.2.1; omega) (fun z => absurd z (by decide)))⟩
      obtain ⟨c', hc', hct⟩ := hC a h0 h1
      obtain rfl : c = c' := Option.some.inj (hc.symm.trans hc')
      refine ⟨hct.1, sg_30_0 (zy (zk (zk (zm H (show 2 ≤ 8 by omega))))) _ _ (cc_30l (zk (zk (zm H (show 5 ≤ 8 by omega)))) hW hC 17 a c 0 h0 h1 (by omega) hc (by decide) (by omega) (ym_rt_cons (sg_35_43 (zy (zk H)) _ _ _ _ _ ?_)))⟩
      have hb := zCb_b E (eNc E 17 a) v
      have e2' : (if zCb E (eNc E 17 a) v = 0 then (0 : Int) else 1) = zCb E (eNc E 17 a) v := by
        rcases hb with z | z <;> rw [z] <;> rfl
      refine ⟨⟨by omega, by omega⟩, ym_rt_cons ?_⟩
      rw [e2']
      refine ans _ hb (fun z y => ?_) (fun z => ⟨op0, lt6, ⟨h0, h1⟩, ⟨by omega, by omega⟩, fun y => absurd y w20, fun _ => z⟩)
      have := y.2.2.2.2.2 w2
      omega
/-- what the reference makes of it -/
def rAd (s : ym_S) (k a h : Int) (v : Int64) : ym_S := ym_wI (ym_wJ (ym_wI (ym_wI (ym_wI s 12 0 0) 23 (96 + k) a) 24 (96 + k) h) 25 (96 + k) v) 22 16 (k + 1)
theorem rc_94 (H : zh sc K 8) (hW : zWF E n) (hE : zRE s E) {op : Int} (h22 : 0 ≤ E.1 22 16 ∧ E.1 22 16 ≤ 6) (hn1 : s.1 12 1 = n) (hop : s.1 12 15 = op) {a h : Int} {v : Int64} (ha : ym_in a) (hh : ym_in h) (kN : ¬ zMo E n op a h v → ym_Rt sc P K (some (ym_I 0)) (ym_wI s 12 0 0)) (kY : zMo E n op a h v → ym_Rt sc P K (some (ym_I 1)) (rAd s (E.1 22 16) a h v)) : ym_Go sc P K (94, 0, [some (ym_P 12), some (ym_I a), some (ym_I h), some (ym_J v), none, none], []) s := by
  have hn := hW.1
  have hE2 := hE
  obtain ⟨h13, h14, h15, h16, h17, h20, h21, h22', h23, h24, h18, h19, h25⟩ := hE2
  refine sg_94_0 (zy H) _ _ _ ?_
  rw [hop, h22']
  refine ⟨fun w => kN (fun z => z.1 w), fun op0 => ⟨fun w => kN (fun z => by have := z.2.1; omega), fun n6 => ?_⟩⟩
  refine rc_85 (zk (zm H (show 1 ≤ 8 by omega))) ((wI_j (by decide)).trans hn1) ha (fun w => ym_rt_cons (sg_94_33 (zy H) _ _ _ _ _ ⟨by decide, fun _ => kN (fun z => by have := z.2.2.1; omega), fun z => absurd rfl z⟩)) (fun h0 h1 => ym_rt_cons (sg_94_33 (zy H) _ _ _ _ _ ⟨by decide, fun z => absurd z (by decide), fun _ => ?_⟩))
  have e15 : (ym_wI s 12 0 0).1 12 15 = op := (wI_j (by decide)).trans hop
  have e22 : (ym_wI s 12 0 0).1 22 16 = E.1 22 16 := (wI_c (by decide)).trans (by rw [h22'])
  rw [e15, e22]
  have kb : (0 : Int) ≤ 96 + E.1 22 16 ∧ 96 + E.1 22 16 < 102 := ⟨by omega, by omega⟩
  have ib : (-2147483648 : Int) ≤ E.1 22 16 + 1 ∧ E.1 22 16 + 1 < 2147483648 := ⟨by omega, by omega⟩
  have dflt : h = 2 → (op = 20 → h = 0) → ym_Go sc P ((94, 66, [some (ym_P 12), some (ym_I a), some (ym_I h), some (ym_J v), none, some (ym_I (E.1 22 16))], []) :: K) (93, 0, [some (ym_P 12), some (ym_I a), some (ym_J v), none, none], []) (ym_wI s 12 0 0) := by
    intro w2 w20
    have hE3 : zRE (ym_wI s 12 0 0) E := hE
    refine sg_93_0 (zy (zk H)) _ _ (rc_93 (zk (zm H (show 4 ≤ 8 by omega))) hW hE3 17 a h0 h1 (by omega) (ym_rt_cons (sg_94_69 (zy H) _ _ _ _ _ ?_)))
    have hb := zCb_b E (eNc E 17 a) v
    rw [e22]
    refine ⟨⟨by omega, by omega⟩, fun z => kN (fun y => ?_), fun z => ⟨kb, ha, kb, hh, kb, ib, kY ⟨op0, by omega, ⟨h0, h1⟩, ⟨by omega, by omega⟩, w20, fun _ => by omega⟩⟩⟩
    have := y.2.2.2.2.2 w2
    omega
  refine ⟨hh, fun w => kN (fun z => by have := z.2.2.2.1; omega), fun w0 => ⟨hh, fun w => kN (fun z => by have := z.2.2.2.1; omega), fun w2 => ⟨fun w20 => ⟨hh, fun w => kN (fun z => by have := z.2.2.2.2.1 w20; omega), fun w => ⟨hh, fun z => by exfalso; omega, fun z => ⟨kb, ha, kb, hh, kb, ib, kY ⟨op0, by omega, ⟨h0, h1⟩, ⟨w0, w2⟩, fun _ => by omega, fun y => absurd y z⟩⟩⟩⟩, fun w20 => ⟨hh, fun z => dflt z (fun y => absurd y w20), fun z => ⟨kb, ha, kb, hh, kb, ib, kY ⟨op0, by omega, ⟨h0, h1⟩, ⟨w0, w2⟩, fun y => absurd y w20, fun y => absurd y z⟩⟩⟩⟩⟩⟩
end
