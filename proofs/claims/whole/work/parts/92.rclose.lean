/-! The reference closes a draft: own work. -/
def rCp (s s2 : ym_S) (n k : Int) : Prop := (∀ c, c ≠ 23 → c ≠ 24 → s2.1 c = s.1 c) ∧ (∀ c, c ≠ 25 → s2.2.1 c = s.2.1 c) ∧ s2.2.2 = s.2.2 ∧ (∀ j, (j < 6 * n ∨ 6 * n + k ≤ j) → s2.1 23 j = s.1 23 j ∧ s2.1 24 j = s.1 24 j ∧ s2.2.1 25 j = s.2.1 25 j) ∧ ∀ i, 0 ≤ i → i < k → s2.1 23 (6 * n + i) = s.1 23 (96 + i) ∧ s2.1 24 (6 * n + i) = s.1 24 (96 + i) ∧ s2.2.1 25 (6 * n + i) = s.2.1 25 (96 + i)
def rAp (s s2 : ym_S) (n : Int) (L : List Int) : Prop := (∀ c, c ≠ 20 → c ≠ 21 → s2.1 c = s.1 c) ∧ s2.2 = s.2 ∧ (∀ j, j ≠ n → s2.1 20 j = s.1 20 j) ∧ s2.1 20 n = (L.length : Int) ∧ (∀ j, j < 96 * n → s2.1 21 j = s.1 21 j) ∧ zr (s2.1 21) (96 * n) L
def rCl (E : zEnv) (s s3 : ym_S) (n op : Int) (L : List Int) : Prop := zKR s s3 ∧ zAg (s.1, s.2.1) (s3.1, s3.2.1) n ∧ (s3.1 12 1 = n + 1 ∧ s3.1 12 15 = 0 ∧ s3.1 12 16 = s.1 12 16 ∧ s3.1 12 18 = s.1 12 18 ∧ s3.1 26 = s.1 26 ∧ s3.1 27 = s.1 27) ∧ (s3.1 22 16 = 0 ∧ s3.1 22 n = E.1 22 16 ∧ ∀ k, 0 ≤ k → k < 6 → s3.1 23 (6 * n + k) = E.1 23 (96 + k) ∧ s3.1 24 (6 * n + k) = E.1 24 (96 + k) ∧ s3.2.1 25 (6 * n + k) = E.2 25 (96 + k)) ∧ (s3.1 13 n = 4 ∧ s3.1 14 n = op ∧ s3.1 15 n = op ∧ s3.1 17 n = 0) ∧ s3.1 20 n = (L.length : Int) ∧ zr (s3.1 21) (96 * n) L
section
variable {E : zEnv} {s s1 s2 s3 s5 : ym_S} {n op : Int} {L : List Int}
theorem rCp_0 (s : ym_S) (n : Int) : rCp s s n 0 := ⟨fun _ _ _ => rfl, fun _ _ => rfl, rfl, fun _ _ => ⟨rfl, rfl, rfl⟩, fun i h0 h1 => by exfalso; omega⟩
theorem rCp_s {k : Int} (h : rCp s s2 n k) (hn : n < 16) (k0 : 0 ≤ k) (k6 : k < 6) : rCp s (ym_wJ (ym_wI (ym_wI s2 23 (6 * n + k) (s2.1 23 (96 + k))) 24 (6 * n + k) (s2.1 24 (96 + k))) 25 (6 * n + k) (s2.2.1 25 (96 + k))) n (k + 1) := by
  obtain ⟨a1, a2, a3, a4, a5⟩ := h
  obtain ⟨v1, v2, v3⟩ := a4 (96 + k) (by omega)
  rw [v1, v2, v3]
  have r23 : ∀ j, (ym_wJ (ym_wI (ym_wI s2 23 (6 * n + k) (s.1 23 (96 + k))) 24 (6 * n + k) (s.1 24 (96 + k))) 25 (6 * n + k) (s.2.1 25 (96 + k))).1 23 j = ym_u s2.1 23 (6 * n + k) (s.1 23 (96 + k)) 23 j := fun j => by
    show (ym_wI (ym_wI s2 23 (6 * n + k) (s.1 23 (96 + k))) 24 (6 * n + k) (s.1 24 (96 + k))).1 23 j = (ym_wI s2 23 (6 * n + k) (s.1 23 (96 + k))).1 23 j
    exact wI_c (by decide)
  have r24 : ∀ j, (ym_wJ (ym_wI (ym_wI s2 23 (6 * n + k) (s.1 23 (96 + k))) 24 (6 * n + k) (s.1 24 (96 + k))) 25 (6 * n + k) (s.2.1 25 (96 + k))).1 24 j = ym_u (ym_u s2.1 23 (6 * n + k) (s.1 23 (96 + k))) 24 (6 * n + k) (s.1 24 (96 + k)) 24 j := fun j => rfl
  have r25 : ∀ j, (ym_wJ (ym_wI (ym_wI s2 23 (6 * n + k) (s.1 23 (96 + k))) 24 (6 * n + k) (s.1 24 (96 + k))) 25 (6 * n + k) (s.2.1 25 (96 + k))).2.1 25 j = ym_u s2.2.1 25 (6 * n + k) (s.2.1 25 (96 + k)) 25 j := fun j => rfl
  refine ⟨fun c c1 c2 => ((u_f c2).trans (u_f c1)).trans (a1 c c1 c2), fun c c1 => (u_f c1).trans (a2 c c1), a3, fun j hj => ?_, fun i i0 i1 => ?_⟩
  · obtain ⟨x1, x2, x3⟩ := a4 j (by omega)
    have hne : j ≠ 6 * n + k := by omega
    rw [r23, r24, r25, ym_u_jn hne, ym_u_jn hne, ym_u_ne (show (24 : Nat) ≠ 23 by decide), ym_u_jn hne]
    exact ⟨x1, x2, x3⟩
  · by_cases hi : i = k
    · rw [hi, r23, r24, r25, ym_u_eq, ym_u_eq, ym_u_eq]
      exact ⟨rfl, rfl, rfl⟩
    · obtain ⟨x1, x2, x3⟩ := a5 i i0 (by omega)
      have hne : 6 * n + i ≠ 6 * n + k := by omega
      rw [r23, r24, r25, ym_u_jn hne, ym_u_jn hne, ym_u_ne (show (24 : Nat) ≠ 23 by decide), ym_u_jn hne]
      exact ⟨x1, x2, x3⟩
theorem rAp_0 (s : ym_S) (n : Int) : rAp s (ym_wI s 20 n 0) n [] := ⟨fun _ c1 _ => u_f c1, rfl, fun _ hj => wI_j hj, wI_e, fun _ _ => wI_c (by decide), trivial⟩
theorem rAp_s {x : Int} (h : rAp s s2 n L) : rAp s (ym_wI (ym_wI s2 21 (96 * n + (L.length : Int)) x) 20 n ((L.length : Int) + 1)) n (L ++ [x]) := by
  obtain ⟨a1, a2, a3, a4, a5, a6⟩ := h
  have r21 : ∀ j, (ym_wI (ym_wI s2 21 (96 * n + (L.length : Int)) x) 20 n ((L.length : Int) + 1)).1 21 j = ym_u s2.1 21 (96 * n + (L.length : Int)) x 21 j := fun j => by
    show (ym_wI (ym_wI s2 21 (96 * n + (L.length : Int)) x) 20 n ((L.length : Int) + 1)).1 21 j = (ym_wI s2 21 (96 * n + (L.length : Int)) x).1 21 j
    exact wI_c (by decide)
  refine ⟨fun c c1 c2 => ((u_f c1).trans (u_f c2)).trans (a1 c c1 c2), a2, fun j hj => ?_, ?_, fun j hj => ?_, zr_app ?_ ⟨?_, trivial⟩⟩
  · exact (wI_j hj).trans ((wI_c (by decide)).trans (a3 j hj))
  · rw [List.length_append]
    exact wI_e
  · rw [r21, ym_u_jn (by omega)]
    exact a5 j hj
  · refine zr_of _ _ _ _ a6 (fun j j0 j1 => ?_)
    rw [r21, ym_u_jn (by omega)]
  · rw [r21, ym_u_eq]
theorem rCl_of (hn0 : 0 ≤ n) (hn : n < 16) (hE : zRE s E) (h1 : rMade s s1 n 4 op op) (h17 : s1.1 17 n = 0) (h2 : rCp (ym_wI s1 22 n (s1.1 22 16)) s3 n 6) (h3 : rAp s3 s5 n L) : rCl E s (ym_wI (ym_wI s5 12 15 0) 22 16 0) n op L := by
  obtain ⟨q1, ⟨q2a, q2b, q2c, q2d⟩, q3, ⟨q4, q5, q6, q7, q8⟩, ⟨q9, q10, q11, q12⟩, ⟨f13, f14, f15, f20, f21⟩⟩ := h1
  obtain ⟨a1, a2, a3, a4, a5⟩ := h2
  obtain ⟨b1, b2, b3, b4, b5, b6⟩ := h3
  obtain ⟨g13, g14, g15, g16, g17, g20, g21, g22, g23, g24, g18, g19, g25⟩ := hE
  obtain ⟨sf, hsf⟩ : ∃ sf, sf = ym_wI (ym_wI s5 12 15 0) 22 16 0 := ⟨_, rfl⟩
  rw [← hsf]
  -- rows from the end to the start
  have R : ∀ c, c ≠ 12 → c ≠ 22 → c ≠ 20 → c ≠ 21 → c ≠ 23 → c ≠ 24 → sf.1 c = s1.1 c := fun c c1 c2 c3 c4 c5 c6 => by
    rw [hsf]
    exact (((u_f c2).trans (u_f c1)).trans (b1 c c3 c4)).trans ((a1 c c5 c6).trans (u_f c2))
  have R12 : ∀ j, j ≠ 15 → sf.1 12 j = s1.1 12 j := fun j hj => by
    rw [hsf]
    refine ((wI_c (by decide)).trans (wI_j hj)).trans ?_
    rw [b1 12 (by decide) (by decide), a1 12 (by decide) (by decide)]
    exact wI_c (by decide)
  have R22 : ∀ j, j ≠ 16 → sf.1 22 j = (ym_wI s1 22 n (s1.1 22 16)).1 22 j := fun j hj => by
    rw [hsf]
    refine ((wI_j hj).trans (wI_c (by decide))).trans ?_
    rw [b1 22 (by decide) (by decide), a1 22 (by decide) (by decide)]
  have R20 : ∀ j, sf.1 20 j = s5.1 20 j := fun j => by
    rw [hsf]
    exact (wI_c (by decide)).trans (wI_c (by decide))
  have R21 : sf.1 21 = s5.1 21 := by
    rw [hsf]
    exact (wI_f (by decide)).trans (wI_f (by decide))
  have R23 : sf.1 23 = s3.1 23 := by
    rw [hsf]
    exact ((wI_f (by decide)).trans (wI_f (by decide))).trans (b1 23 (by decide) (by decide))
  have R24 : sf.1 24 = s3.1 24 := by
    rw [hsf]
    exact ((wI_f (by decide)).trans (wI_f (by decide))).trans (b1 24 (by decide) (by decide))
  have RJ : sf.2.1 = s3.2.1 := by
    rw [hsf]
    show s5.2.1 = _
    rw [b2]
  have R2 : sf.2.2 = s3.2.2 := by
    rw [hsf]
    show s5.2.2 = _
    rw [b2]
  have s20 : ∀ j, s3.1 20 j = s1.1 20 j := fun j => by
    rw [a1 20 (by decide) (by decide)]
    exact wI_c (by decide)
  have s21 : ∀ j, s3.1 21 j = s1.1 21 j := fun j => by
    rw [a1 21 (by decide) (by decide)]
    exact wI_c (by decide)
  have w23 : ∀ j, (ym_wI s1 22 n (s1.1 22 16)).1 23 j = E.1 23 j := fun j => by
    rw [← g23, ← q10]
    exact wI_c (by decide)
  have w24 : ∀ j, (ym_wI s1 22 n (s1.1 22 16)).1 24 j = E.1 24 j := fun j => by
    rw [← g24, ← q11]
    exact wI_c (by decide)
  have w25 : ∀ j, (ym_wI s1 22 n (s1.1 22 16)).2.1 25 j = E.2 25 j := fun j => by
    rw [← g25, ← q12]
    rfl
  refine ⟨⟨fun c hc => ⟨?_, ?_⟩, ?_⟩, ⟨fun c hc j j0 j1 => ?_, fun j j0 j1 => ?_, fun j j0 j1 => ?_, fun j j0 j1 => ?_⟩, ⟨?_, ?_, ?_, ?_, ?_, ?_⟩, ⟨?_, ?_, fun k k0 k1 => ?_⟩, ⟨?_, ?_, ?_, ?_⟩, ?_, ?_⟩
  · rw [R c (by omega) (by omega) (by omega) (by omega) (by omega) (by omega)]
    exact (q1.1 c hc).1
  · rw [RJ, a2 c (by omega)]
    exact (q1.1 c hc).2
  · rw [R2, a3]
    exact q1.2
  · show sf.1 c j = s.1 c j
    have e := q2a c hc j j0 j1
    change s1.1 c j = s.1 c j at e
    rw [← e]
    rcases hc with rfl | rfl | rfl | rfl | rfl | rfl | rfl
    · rw [R 13 (by decide) (by decide) (by decide) (by decide) (by decide) (by decide)]
    · rw [R 14 (by decide) (by decide) (by decide) (by decide) (by decide) (by decide)]
    · rw [R 15 (by decide) (by decide) (by decide) (by decide) (by decide) (by decide)]
    · rw [R 16 (by decide) (by decide) (by decide) (by decide) (by decide) (by decide)]
    · rw [R 17 (by decide) (by decide) (by decide) (by decide) (by decide) (by decide)]
    · rw [R20, b3 j (by omega), s20]
    · rw [R22 j (by omega)]
      exact wI_j (by omega)
  · show sf.1 21 j = s.1 21 j
    rw [R21, b5 j j1, s21]
    exact q2b j j0 j1
  · obtain ⟨x1, x2, x3⟩ := a4 j (Or.inl j1)
    show sf.1 23 j = s.1 23 j ∧ sf.1 24 j = s.1 24 j ∧ sf.2.1 25 j = s.2.1 25 j
    rw [R23, R24, RJ, x1, x2, x3, w23, w24, w25, g23, g24, g25]
    exact ⟨rfl, rfl, rfl⟩
  · show sf.2.1 18 j = s.2.1 18 j ∧ sf.2.1 19 j = s.2.1 19 j
    rw [RJ, a2 18 (by decide), a2 19 (by decide)]
    exact q2d j j0 j1
  · rw [R12 1 (by decide)]
    exact q3
  · rw [hsf]
    exact (wI_c (by decide)).trans wI_e
  · rw [R12 16 (by decide)]
    exact q5
  · rw [R12 18 (by decide)]
    exact q6
  · rw [R 26 (by decide) (by decide) (by decide) (by decide) (by decide) (by decide)]
    exact q7
  · rw [R 27 (by decide) (by decide) (by decide) (by decide) (by decide) (by decide)]
    exact q8
  · rw [hsf]
    exact wI_e
  · rw [R22 n (by omega)]
    refine wI_e.trans ?_
    rw [q9, g22]
  · obtain ⟨x1, x2, x3⟩ := a5 k k0 k1
    rw [R23, R24, RJ, x1, x2, x3, w23, w24, w25]
    exact ⟨rfl, rfl, rfl⟩
  · rw [R 13 (by decide) (by decide) (by decide) (by decide) (by decide) (by decide)]
    exact f13
  · rw [R 14 (by decide) (by decide) (by decide) (by decide) (by decide) (by decide)]
    exact f14
  · rw [R 15 (by decide) (by decide) (by decide) (by decide) (by decide) (by decide)]
    exact f15
  · rw [R 17 (by decide) (by decide) (by decide) (by decide) (by decide) (by decide)]
    exact h17
  · rw [R20]
    exact b4
  · rw [R21]
    exact b6
end
section
variable {sc : xm_S} {P : xm_O → xm_H → Prop} {K : List ym_F} {s : ym_S} {E : zEnv} {n op : Int}
theorem rc_98 (H : zh sc K 10) (hW : zWF E n) (hE : zRE s E) (hn0 : 0 ≤ n) (hn1 : s.1 12 1 = n) (hop : s.1 12 15 = op) (hop2 : op = 0 ∨ op = 16 ∨ op = 17 ∨ op = 20) (h22 : 0 ≤ E.1 22 16 ∧ E.1 22 16 ≤ 6) (hv : ∀ k, 0 ≤ k → k < E.1 22 16 → zMv E n (96 + k)) {L : List Int} (hL : L = if op = 20 then zFL E (E.1 22 16).toNat 0 else [op]) (hl : zBr E op = false → L.length ≤ 16) (k0 : (op = 0 ∨ n = 16 ∨ zBr E op = true) → ym_Rt sc P K (some (ym_I (-1))) (ym_wI s 12 0 0)) (k1 : op ≠ 0 → n < 16 → zBr E op = false → ∀ s3, rCl E s s3 n op L → ym_Rt sc P K (some (ym_I n)) s3) : ym_Go sc P K (98, 0, [some (ym_P 12), none, none, none, none], []) s := by
  have hn := hW.1
  have hE0 := hE
  obtain ⟨h13, h14, h15, h16, h17, h20, h21, h22', h23, h24, h18, h19, h25⟩ := hE
  refine sg_98_0 (zy H) ?_
  rw [hop, hn1]
  refine ⟨fun w => k0 (Or.inl w), fun w0 => ⟨fun w => k0 (Or.inr (Or.inl w)), fun w1 => ?_⟩⟩
  have hE1 : zRE (ym_wI s 12 0 0) E := ⟨(wI_f (by decide)).trans h13, (wI_f (by decide)).trans h14, (wI_f (by decide)).trans h15, (wI_f (by decide)).trans h16, (wI_f (by decide)).trans h17, (wI_f (by decide)).trans h20, (wI_f (by decide)).trans h21, (wI_f (by decide)).trans h22', (wI_f (by decide)).trans h23, (wI_f (by decide)).trans h24, h18, h19, h25⟩
  have o15 : (ym_wI s 12 0 0).1 12 15 = op := (wI_j (by decide)).trans hop
  refine rc_97 (zk (zm H (show 5 ≤ 10 by omega))) hW hE1 o15 h22 hv (ym_rt_cons (sg_98_25 (zy H) _ ?_))
  rw [o15]
  cases hb : zBr E op with
  | true => exact ⟨by decide, fun _ => k0 (Or.inr (Or.inr hb)), fun z => absurd rfl z⟩
  | false =>
    have hl2 := hl hb
    refine ⟨by decide, fun z => absurd z (by decide), fun _ => ?_⟩
    refine rc_86 (zk (zm H (show 1 ≤ 10 by omega))) ((wI_j (by decide)).trans hn1) hn0 (by omega) (by decide) ⟨by omega, by omega⟩ ⟨by omega, by omega⟩ (fun s1 h1 g17 => ym_rt_cons (sg_98_43 (zy H) _ ⟨⟨hn0, by omega⟩, ?_⟩))
    have h1' := rMade_0 h1
    have fin : ∀ s3 s5, rCp (ym_wI s1 22 n (s1.1 22 16)) s3 n 6 → rAp s3 s5 n L → ym_Rt sc P K (some (ym_I n)) (ym_wI (ym_wI s5 12 15 0) 22 16 0) := fun s3 s5 x y => k1 w0 (by omega) hb _ (rCl_of hn0 (by omega) hE0 h1' g17 x y)
    obtain ⟨q1, ⟨q2a, q2b, q2c, q2d⟩, q3, ⟨q4, q5, q6, q7, q8⟩, ⟨q9, q10, q11, q12⟩, ⟨f13, f14, f15, f20, f21⟩⟩ := h1'
    -- the six are copied
    have six : ∀ (m : Nat) (k : Int) (s3 : ym_S), 0 ≤ k → k + m = 6 → rCp (ym_wI s1 22 n (s1.1 22 16)) s3 n k → (∀ s3, rCp (ym_wI s1 22 n (s1.1 22 16)) s3 n 6 → (s3.1 12 15 = 20 → ym_Go sc P K (98, 149, [some (ym_P 12), some (ym_I n), some (ym_I 0), none, none], []) (ym_wI s3 20 n 0)) ∧ (¬ s3.1 12 15 = 20 → ym_Rt sc P K (some (ym_I n)) (ym_wI (ym_wI s3 12 15 0) 22 16 0))) → ym_Go sc P K (98, 59, [some (ym_P 12), some (ym_I n), some (ym_I k), none, none], []) s3 := by
      intro m
      induction m with
      | zero =>
        intro k s3 k0 km hc kk
        obtain rfl : k = 6 := by omega
        obtain ⟨x, y⟩ := kk s3 hc
        exact sg_98_59 (zy H) _ _ ⟨by decide, fun w => by exfalso; omega, fun _ => ⟨fun w => ⟨⟨hn0, by omega⟩, x w⟩, y⟩⟩
      | succ m ih =>
        intro k s3 k0 km hc kk
        exact sg_98_59 (zy H) _ _ ⟨⟨by omega, by omega⟩, fun _ => ⟨⟨by omega, by omega⟩, ⟨by omega, by omega⟩, ⟨by omega, by omega⟩, ⟨by omega, by omega⟩, ⟨by omega, by omega⟩, ⟨by omega, by omega⟩, ih (k + 1) _ (by omega) (by omega) (rCp_s hc (by omega) k0 (by omega)) kk⟩, fun w => by exfalso; omega⟩
    refine six 6 0 _ (by decide) (by decide) (rCp_0 _ _) (fun s3 hc => ?_)
    have t15 : s3.1 12 15 = op := by
      rw [hc.1 12 (by decide) (by decide)]
      exact (wI_c (by decide)).trans (q4.trans hop)
    have t20 : ∀ t, t ≠ n → 0 ≤ t → t < n → s3.1 20 t = E.1 20 t := fun t _ t0 t1 => by
      rw [hc.1 20 (by decide) (by decide), ← h20]
      exact (wI_c (by decide)).trans (q2a 20 (by simp) t t0 t1)
    have t21 : ∀ j, 0 ≤ j → j < 96 * n → s3.1 21 j = E.1 21 j := fun j j0 j1 => by
      rw [hc.1 21 (by decide) (by decide), ← h21]
      exact (wI_c (by decide)).trans (q2b j j0 j1)
    rw [t15]
    refine ⟨fun w => ?_, fun w => fin s3 s3 hc ?_⟩
    · rw [if_pos w] at hL
      -- first tags of one member
      have inner : ∀ (a2 t : Int), 0 ≤ t → t < n → ∀ (m : Nat) (j : Int) (s5 : ym_S) (L1 : List Int), 0 ≤ j → E.1 20 t - j = m → rAp s3 s5 n L1 → (L1 ++ zfl E t m j).length ≤ 16 → (∀ s5 a4, rAp s3 s5 n (L1 ++ zfl E t m j) → ym_Go sc P K (98, 149, [some (ym_P 12), some (ym_I n), some (ym_I (a2 + 1)), some (ym_I t), some (ym_I a4)], []) s5) → ym_Go sc P K (98, 174, [some (ym_P 12), some (ym_I n), some (ym_I a2), some (ym_I t), some (ym_I j)], []) s5 := by
        intro a2 t t0 t1 m
        obtain ⟨f1, f2, -⟩ := zWf_of hW t0 t1
        induction m with
        | zero =>
          intro j s5 L1 j0 jm hA hlen kk
          rw [zfl, List.append_nil] at kk
          refine sg_98_174 (zy H) _ _ _ _ ?_
          rw [hA.2.2.1 t (by omega), t20 t (by omega) t0 t1]
          exact ⟨⟨t0, by omega⟩, ⟨by omega, by omega⟩, fun w => by exfalso; omega, fun _ => kk s5 j hA⟩
        | succ m ih =>
          intro j s5 L1 j0 jm hA hlen kk
          rw [zfl] at kk hlen
          rw [List.length_append, List.length_cons] at hlen
          refine sg_98_174 (zy H) _ _ _ _ ?_
          rw [hA.2.2.1 t (by omega), t20 t (by omega) t0 t1, hA.2.2.2.1, hA.2.2.2.2.1 (96 * t + j) (by omega), t21 (96 * t + j) (by omega) (by omega)]
          refine ⟨⟨t0, by omega⟩, ⟨by omega, by omega⟩, fun _ => ⟨⟨hn0, by omega⟩, ⟨by omega, by omega⟩, ⟨by omega, by omega⟩, ⟨hn0, by omega⟩, ⟨hn0, by omega⟩, ⟨by omega, by omega⟩, ?_⟩, fun w => by exfalso; omega⟩
          refine ih (j + 1) _ (L1 ++ [E.1 21 (96 * t + j)]) (by omega) (by omega) (rAp_s hA) ?_ (fun s6 a4 h6 => kk s6 a4 ?_)
          · rw [List.length_append, List.length_append, List.length_cons, List.length_nil]
            omega
          · rw [List.append_assoc] at h6
            exact h6
      have outer : ∀ (m : Nat) (k : Int) (s5 : ym_S) (L1 : List Int) (x : Option (Int × Int)), 0 ≤ k → E.1 22 16 - k = m → rAp s3 s5 n L1 → L1 ++ zFL E m k = L → ym_Go sc P K (98, 149, [some (ym_P 12), some (ym_I n), some (ym_I k), x.map (fun y => ym_I y.1), x.map (fun y => ym_I y.2)], []) s5 := by
        intro m
        induction m with
        | zero =>
          intro k s5 L1 x k0 km hA hLL
          rw [zFL, List.append_nil] at hLL
          rw [hLL] at hA
          have e22 : s5.1 22 n = E.1 22 16 := by
            rw [hA.1 22 (by decide) (by decide), hc.1 22 (by decide) (by decide), ← h22', ← q9]
            exact wI_e
          have kf := fin s3 s5 hc hA
          cases x with
          | none =>
            refine sg_98_149 (zy H) _ _ ?_
            rw [e22]
            exact ⟨⟨hn0, by omega⟩, ⟨by omega, by omega⟩, fun w => by exfalso; omega, fun _ => kf⟩
          | some x =>
            refine sg_98_149b (zy H) _ _ _ _ ?_
            rw [e22]
            exact ⟨⟨hn0, by omega⟩, ⟨by omega, by omega⟩, fun w => by exfalso; omega, fun _ => kf⟩
        | succ m ih =>
          intro k s5 L1 x k0 km hA hLL
          rw [zFL] at hLL
          have e22 : s5.1 22 n = E.1 22 16 := by
            rw [hA.1 22 (by decide) (by decide), hc.1 22 (by decide) (by decide), ← h22', ← q9]
            exact wI_e
          have e23 : s5.1 23 (6 * n + k) = E.1 23 (96 + k) := by
            rw [hA.1 23 (by decide) (by decide), (hc.2.2.2.2 k k0 (by omega)).1, ← h23, ← q10]
            exact wI_c (by decide)
          obtain ⟨v1, v2, -⟩ := hv k k0 (by omega)
          have f0 := (zWf_of hW v1 v2).1
          have hle : (L1 ++ zfl E (E.1 23 (96 + k)) (E.1 20 (E.1 23 (96 + k))).toNat 0).length ≤ 16 := by
            have : (L1 ++ (zft E (E.1 23 (96 + k)) ++ zFL E m (k + 1))).length ≤ 16 := by
              rw [hLL]
              exact hl2
            rw [List.length_append, List.length_append] at this
            rw [List.length_append]
            unfold zft at this
            omega
          have go := inner k (E.1 23 (96 + k)) v1 v2 (E.1 20 (E.1 23 (96 + k))).toNat 0 s5 L1 (by decide) (by omega) hA hle (fun s6 a4 h6 => ih (k + 1) s6 _ (some (E.1 23 (96 + k), a4)) (by omega) (by omega) h6 (by rw [List.append_assoc]; exact hLL))
          cases x with
          | none =>
            refine sg_98_149 (zy H) _ _ ?_
            rw [e22, e23]
            exact ⟨⟨hn0, by omega⟩, ⟨by omega, by omega⟩, fun _ => ⟨⟨by omega, by omega⟩, go⟩, fun w => by exfalso; omega⟩
          | some x =>
            refine sg_98_149b (zy H) _ _ _ _ ?_
            rw [e22, e23]
            exact ⟨⟨hn0, by omega⟩, ⟨by omega, by omega⟩, fun _ => ⟨⟨by omega, by omega⟩, go⟩, fun w => by exfalso; omega⟩
      exact outer (E.1 22 16).toNat 0 _ [] none (by decide) (by omega) (rAp_0 s3 n) (by rw [hL]; rfl)
    · rw [if_neg w] at hL
      rw [hL]
      have y20 : s3.1 20 n = s1.1 20 n := by
        rw [hc.1 20 (by decide) (by decide)]
        exact wI_c (by decide)
      have y21 : s3.1 21 (96 * n) = s1.1 21 (96 * n) := by
        rw [hc.1 21 (by decide) (by decide)]
        exact wI_c (by decide)
      exact ⟨fun _ _ _ => rfl, rfl, fun _ _ => rfl, y20.trans f20, fun _ _ => rfl, y21.trans f21, trivial⟩
end
