/-! What holds after member: own work. -/
section
variable {s s2 : ym_S} {E E2 : zEnv} {n op : Int} {d c : Nat} {k h : Int} {v : Int64}
theorem zAd_ac {q : Nat} (h0 : q ≠ d) (h1 : q ≠ d + 1) (h2 : q ≠ d + 2) (h3 : q ≠ d + 3) : zAc s (zAd s d c k h v) q := ⟨(u_f h0).trans (u_f h2), u_f h3, u_f h1, rfl⟩
/-- the types' cells stay, where all cells but the draft's stay -/
theorem zCl_tr2 (hT : zTn s) (hA : zAg E E2 n) (hW : zWF E n) (hd : zDd E s n op d) (hm : ∀ q, 46 ≤ q → q < ym_n s → q ≠ d → q ≠ d + 1 → q ≠ d + 2 → q ≠ d + 3 → zAc s s2 q) (hR : ∀ j, 0 ≤ j → j < n → ym_R s2 2 j = ym_R s 2 j) (h : zCl E s n) : zCl E2 s2 n := by
  obtain ⟨e1, e2, e3, e4, e5, e6, e7, e8, e9, e10, e11, e12, e13⟩ := hd
  intro t h0 h1
  obtain ⟨c, hc, hct⟩ := h t h0 h1
  refine ⟨c, (hR t h0 h1).trans hc, ?_⟩
  obtain ⟨a1, a2, a3, a4, a5, a6, a7, a8, a9, a10, a11⟩ := id hct
  have n0 : c ≠ d := fun z => by rw [z, e2] at a1; cases a1
  have n1 : c ≠ d + 1 := fun z => by rw [z, e7] at a1; cases a1
  have n2 : c ≠ d + 2 := fun z => by rw [z, e9] at a1; cases a1
  have n3 : c ≠ d + 3 := fun z => by rw [z, e11] at a1; cases a1
  have m0 : c + 1 ≠ d := fun z => by rw [z, e2] at a10; cases a10
  refine zCt_tr hA hW h0 h1 hR (hm c a2 (hT.1 _ _ a1) n0 n1 n2 n3) (hm (c + 1) (by omega) (hT.1 _ _ a10) m0 (by omega) (by omega) (by omega)) (fun m hm1 hm2 => ?_) hct
  obtain ⟨b1, b2, b3, b4, b5, b6, b7, b8, b9, b10, b11⟩ := hm2
  have w0 : m ≠ d := fun z => e13 t c h0 h1 hc (by rw [hm1, z])
  have w1 : m ≠ d + 1 := fun z => by rw [z, e7] at b1; cases b1
  have w2 : m ≠ d + 2 := fun z => by rw [z, e9] at b1; cases b1
  have w3 : m ≠ d + 3 := fun z => by rw [z, e11] at b1; cases b1
  have x0 : m + 1 ≠ d := fun z => by rw [z, e2] at b6; cases b6
  have x2 : m + 1 ≠ d + 2 := fun z => by rw [z, e9] at b6; cases b6
  have x3 : m + 1 ≠ d + 3 := fun z => by rw [z, e11] at b6; cases b6
  have y0 : m + 2 ≠ d := fun z => by rw [z, e2] at b8; cases b8
  have y1 : m + 2 ≠ d + 1 := fun z => by rw [z, e7] at b8; cases b8
  have y3 : m + 2 ≠ d + 3 := fun z => by rw [z, e11] at b8; cases b8
  have z0 : m + 3 ≠ d := fun z => by rw [z, e2] at b10; cases b10
  have z1 : m + 3 ≠ d + 1 := fun z => by rw [z, e7] at b10; cases b10
  have z2 : m + 3 ≠ d + 2 := fun z => by rw [z, e9] at b10; cases b10
  exact ⟨hm m b2 (hT.1 _ _ b1) w0 w1 w2 w3, hm _ (by omega) (hT.1 _ _ b6) x0 (by omega) x2 x3, hm _ (by omega) (hT.1 _ _ b8) y0 y1 (by omega) y3, hm _ (by omega) (hT.1 _ _ b10) z0 z1 z2 (by omega)⟩
end
section
variable {sc : xm_S} {P : xm_O → xm_H → Prop} {K : List ym_F} {s : ym_S}
theorem zInv_5 (hT : zTn s) {E : zEnv} {n op N M : Int} {r rr : Int → Int} (hP : zPI E n op N r M) (hC : zCI s E n op N r M rr) (hR : zRI s E n op N r M rr) {a h : Int} {v : Int64} (hok : zMo E n op a h v) {d c : Nat} (hd1 : ym_R s 1 2 = some d) (hd : zDd E s n op d) (hc : ym_R s 2 a = some c) : zInv (rAd (zAd s d c (E.1 22 16) h v) (E.1 22 16) a h v) := by
  obtain ⟨c1, c2, c3, c4, c5, c6⟩ := id hC
  obtain ⟨p1, p2, p3, p4, p5, p6, p7, p8⟩ := id hP
  obtain ⟨e1, e2, e3, e4, e5, e6, e7, e8, e9, e10, e11, e12, e13⟩ := id hd
  obtain ⟨o1, o2, ⟨a0, a1⟩, ⟨h0, h2⟩, o5, o6⟩ := hok
  have hn := p1.1
  have h46 := hT.2
  obtain ⟨k, hk⟩ : ∃ k, k = E.1 22 16 := ⟨_, rfl⟩
  rw [← hk]
  rw [← hk] at e5 e12 o2 p6 p7 p8
  obtain ⟨s2, hs2⟩ : ∃ s2, s2 = zAd s d c k h v := ⟨_, rfl⟩
  rw [← hs2]
  have hac : ∀ q, q ≠ d → q ≠ d + 1 → q ≠ d + 2 → q ≠ d + 3 → zAc s s2 q := fun q q0 q1 q2 q3 => by rw [hs2]; exact zAd_ac q0 q1 q2 q3
  have hk2 : zKC s s2 := fun q q1 q2 => ⟨(hac q (by omega) (by omega) (by omega) (by omega)).1, (hac q (by omega) (by omega) (by omega) (by omega)).2.1⟩
  obtain ⟨v1, v2, v3, v4, v5, v6, v7⟩ := zRI_C hR hk2
  obtain ⟨h13, h14, h15, h16, h17, h20, h21, h22, h23, h24, h18, h19, h25⟩ := id v1
  obtain ⟨s3, hs3⟩ : ∃ s3, s3 = rAd s2 k a h v := ⟨_, rfl⟩
  rw [← hs3]
  have hKR : zKR s2 s3 := by
    rw [hs3]
    exact zKR_w (zKR_wJ (zKR_w (zKR_w (zKR_w (zKR_r _) (by decide) (by decide)) (by decide) (by decide)) (by decide) (by decide)) (by decide) (by decide)) (by decide) (by decide)
  obtain ⟨n1, n2⟩ := zCnt hKR
  have n3 : ym_n s2 = ym_n s := by rw [hs2]; rfl
  have rr1 : ∀ q, q ≠ 12 → q ≠ 22 → q ≠ 23 → q ≠ 24 → s3.1 q = s2.1 q := fun q q1 q2 q3 q4 => by
    rw [hs3]
    exact (u_f q2).trans ((u_f q4).trans ((u_f q3).trans (u_f q1)))
  have rr12 : ∀ j, j ≠ 0 → s3.1 12 j = s2.1 12 j := fun j hj => by
    rw [hs3]
    show ym_u (ym_u (ym_u (ym_u s2.1 12 0 0) 23 (96 + k) a) 24 (96 + k) h) 22 16 (k + 1) 12 j = _
    rw [ym_u_ne (by decide), ym_u_ne (by decide), ym_u_ne (by decide), ym_u_jn hj]
  have g22 : s3.1 22 16 = k + 1 := by rw [hs3]; exact wI_e
  have g22j : ∀ j, j ≠ 16 → s3.1 22 j = E.1 22 j := fun j hj => by
    rw [hs3, ← h22]
    show ym_u (ym_u (ym_u (ym_u s2.1 12 0 0) 23 (96 + k) a) 24 (96 + k) h) 22 16 (k + 1) 22 j = _
    rw [ym_u_jn hj, ym_u_ne (by decide), ym_u_ne (by decide), ym_u_ne (by decide)]
  have g23 : ∀ j, s3.1 23 j = if j = 96 + k then a else E.1 23 j := fun j => by
    rw [hs3, ← h23]
    show ym_u (ym_u (ym_u (ym_u s2.1 12 0 0) 23 (96 + k) a) 24 (96 + k) h) 22 16 (k + 1) 23 j = _
    rw [ym_u_ne (by decide), ym_u_ne (by decide)]
    split
    · rename_i hj
      rw [hj, ym_u_eq]
    · rename_i hj
      rw [ym_u_jn hj, ym_u_ne (by decide)]
  have g24 : ∀ j, s3.1 24 j = if j = 96 + k then h else E.1 24 j := fun j => by
    rw [hs3, ← h24]
    show ym_u (ym_u (ym_u (ym_u s2.1 12 0 0) 23 (96 + k) a) 24 (96 + k) h) 22 16 (k + 1) 24 j = _
    rw [ym_u_ne (by decide)]
    split
    · rename_i hj
      rw [hj, ym_u_eq]
    · rename_i hj
      rw [ym_u_jn hj, ym_u_ne (by decide), ym_u_ne (by decide)]
  have g25 : ∀ j, s3.2.1 25 j = if j = 96 + k then v else E.2 25 j := fun j => by
    rw [hs3, ← h25]
    show ym_u s2.2.1 25 (96 + k) v 25 j = _
    split
    · rename_i hj
      rw [hj, ym_u_eq]
    · rename_i hj
      rw [ym_u_jn hj]
  have gJ : ∀ q, q ≠ 25 → s3.2.1 q = s2.2.1 q := fun q hq => by
    rw [hs3]
    exact u_f hq
  have hA : zAg E (s3.1, s3.2.1) n := by
    refine ⟨fun q hq j j0 j1 => ?_, fun j _ _ => ?_, fun j j0 j1 => ⟨?_, ?_, ?_⟩, fun j _ _ => ⟨?_, ?_⟩⟩
    · show s3.1 q j = E.1 q j
      rcases hq with rfl | rfl | rfl | rfl | rfl | rfl | rfl
      · rw [rr1 13 (by decide) (by decide) (by decide) (by decide), h13]
      · rw [rr1 14 (by decide) (by decide) (by decide) (by decide), h14]
      · rw [rr1 15 (by decide) (by decide) (by decide) (by decide), h15]
      · rw [rr1 16 (by decide) (by decide) (by decide) (by decide), h16]
      · rw [rr1 17 (by decide) (by decide) (by decide) (by decide), h17]
      · rw [rr1 20 (by decide) (by decide) (by decide) (by decide), h20]
      · exact g22j j (by omega)
    · show s3.1 21 j = E.1 21 j
      rw [rr1 21 (by decide) (by decide) (by decide) (by decide), h21]
    · exact (g23 j).trans (if_neg (by omega))
    · exact (g24 j).trans (if_neg (by omega))
    · exact (g25 j).trans (if_neg (by omega))
    · show s3.2.1 18 j = E.2 18 j
      rw [gJ 18 (by decide), h18]
    · show s3.2.1 19 j = E.2 19 j
      rw [gJ 19 (by decide), h19]
  have hcells : ∀ q, q < 12 ∨ 46 ≤ q → q ≠ d → q ≠ d + 1 → q ≠ d + 2 → q ≠ d + 3 → zAc s s3 q := fun q q1 q2 q3 q4 q5 => zAc_t (hac q q2 q3 q4 q5) (zAc_KR hKR (by omega))
  have small : ∀ q, q < 12 → zAc s s3 q := fun q hq => hcells q (Or.inl hq) (by omega) (by omega) (by omega) (by omega)
  have hRef : ∀ j, 0 ≤ j → j < n → ym_R s3 2 j = ym_R s 2 j := fun j _ _ => by rw [(small 2 (by decide)).2.2.1]
  have cell : ∀ q, 46 ≤ q → s3.1 q = s2.1 q ∧ s3.2.1 q = s2.2.1 q ∧ ym_R s3 q = ym_R s2 q ∧ ym_T s3 q = ym_T s2 q := fun q hq => zAc_KR hKR (by omega)
  have sixes : ∀ t c q, 0 ≤ t → t < n → ym_R s3 2 t = some c → ym_R s3 c 6 = some q → q < ym_n s ∧ q ≠ d := fun t c q t0 t1 hc hq => by
    rw [hRef t t0 t1] at hc
    obtain ⟨c', hc', hct'⟩ := c2 t t0 t1
    obtain rfl : c = c' := Option.some.inj (hc.symm.trans hc')
    have t5 := hct'.1
    rw [(hcells c (Or.inr hct'.2.1) (fun z => by rw [z, e2] at t5; cases t5) (fun z => by rw [z, e7] at t5; cases t5) (fun z => by rw [z, e9] at t5; cases t5) (fun z => by rw [z, e11] at t5; cases t5)).2.2.1] at hq
    exact ⟨c6 t c q t0 t1 hc hq, fun z => e13 t c t0 t1 hc (by rw [hq, z])⟩
  refine ⟨(s3.1, s3.2.1), n, op, N, r, M, rr, ⟨⟨hn, fun t t0 t1 => zAg_wt hA p1 t0 t1⟩, fun t t0 t1 => zFs_tr hA p1 t0 t1 (p2 t t0 t1), p3, p4, p5, fun w => absurd w o1, ?_, fun j j0 j1 => ?_⟩, ⟨?_, zCl_tr2 hT hA p1 hd (fun q q1 _ q2 q3 q4 q5 => hcells q (Or.inr q1) q2 q3 q4 q5) hRef c2, ?_, ?_, Or.inr ⟨d, ?_, e1, ?_⟩, fun t c q t0 t1 hc hq => ?_⟩, ⟨⟨rfl, rfl, rfl, rfl, rfl, rfl, rfl, rfl, rfl, rfl, rfl, rfl, rfl⟩, ?_, ?_, ?_, ?_, ?_, ?_⟩⟩
  · show 0 ≤ s3.1 22 16 ∧ s3.1 22 16 ≤ 6
    omega
  · have j1 : j < s3.1 22 16 := j1
    by_cases hj : j = k
    · have x1 : s3.1 23 (96 + j) = a := (g23 _).trans (if_pos (by omega))
      have x2 : s3.1 24 (96 + j) = h := (g24 _).trans (if_pos (by omega))
      have x3 : s3.2.1 25 (96 + j) = v := (g25 _).trans (if_pos (by omega))
      show 0 ≤ s3.1 23 (96 + j) ∧ s3.1 23 (96 + j) < n ∧ 0 ≤ s3.1 24 (96 + j) ∧ s3.1 24 (96 + j) ≤ 2 ∧ (s3.1 24 (96 + j) = 2 → s3.1 13 (eNc (s3.1, s3.2.1) 17 (s3.1 23 (96 + j))) = 0 ∧ ((s3.1 15 (eNc (s3.1, s3.2.1) 17 (s3.1 23 (96 + j))) = 1 ∧ ((s3.2.1 25 (96 + j)).toInt = 0 ∨ (s3.2.1 25 (96 + j)).toInt = 1)) ∨ s3.1 15 (eNc (s3.1, s3.2.1) 17 (s3.1 23 (96 + j))) = 2))
      rw [x1, x2, x3, zAg_nc hA p1 17 a a0 a1]
      obtain ⟨y1, y2⟩ := eNc_ok p1 17 a a0 a1
      have b13 : s3.1 13 (eNc E 17 a) = E.1 13 (eNc E 17 a) := hA.1 13 (by simp) _ y1 (by omega)
      have b15 : s3.1 15 (eNc E 17 a) = E.1 15 (eNc E 17 a) := hA.1 15 (by simp) _ y1 (by omega)
      rw [b13, b15]
      exact ⟨a0, a1, h0, h2, fun z => zCb_1 (o6 z)⟩
    · exact zMv_tr hA p1 (Int.le_refl _) ((g23 _).trans (if_neg (by omega))) ((g24 _).trans (if_neg (by omega))) ((g25 _).trans (if_neg (by omega))) (p8 j j0 (by omega))
  · rw [(small 1 (by decide)).1]; exact c1
  · rw [(small 3 (by decide)).1, (small 4 (by decide)).1]; exact c3
  · rw [(small 5 (by decide)).1, (small 6 (by decide)).1]; exact c4
  · rw [(small 1 (by decide)).2.2.1]; exact hd1
  · rw [(cell d e3).1, (cell d e3).2.2.1, (cell d e3).2.2.2, (cell (d + 1) (by omega)).2.2.1, (cell (d + 1) (by omega)).2.2.2, (cell (d + 2) (by omega)).1, (cell (d + 2) (by omega)).2.2.2, (cell (d + 3) (by omega)).2.1, (cell (d + 3) (by omega)).2.2.2]
    have d0 : ∀ j, j ≠ 4 → s2.1 d j = s.1 d j := fun j hj => by
      rw [hs2]
      exact (wI_j hj).trans (wI_c (by omega))
    have dR : ym_R s2 d = ym_R s d := by
      rw [hs2]
      exact u_f (by omega)
    have dT : ∀ q, ym_T s2 q = ym_T s q := fun q => by rw [hs2]; rfl
    rw [d0 0 (by decide), dR, dT, dT, dT, dT]
    refine ⟨e2, e3, e4, ?_, e6, e7, e8, e9, e10, e11, fun j j0 j1 => ?_, fun t c t0 t1 hc hq => (sixes t c d t0 t1 hc hq).2 rfl⟩
    · show s2.1 d 4 = s3.1 22 16
      rw [g22, hs2]
      exact wI_e
    · have j1 : j < s3.1 22 16 := j1
      have y1 : ym_R s2 (d + 1) j = if j = k then some c else ym_R s (d + 1) j := by
        rw [hs2]
        show ym_u s.2.2.1 (d + 1) k (some c) (d + 1) j = _
        split
        · rename_i hj
          rw [hj, ym_u_eq]
        · rename_i hj
          rw [ym_u_jn hj]
      have y2 : s2.1 (d + 2) j = if j = k then h else s.1 (d + 2) j := by
        rw [hs2]
        refine (wI_c (by omega)).trans ?_
        show ym_u s.1 (d + 2) k h (d + 2) j = _
        split
        · rename_i hj
          rw [hj, ym_u_eq]
        · rename_i hj
          rw [ym_u_jn hj]
      have y3 : s2.2.1 (d + 3) j = if j = k then v else s.2.1 (d + 3) j := by
        rw [hs2]
        show ym_u s.2.1 (d + 3) k v (d + 3) j = _
        split
        · rename_i hj
          rw [hj, ym_u_eq]
        · rename_i hj
          rw [ym_u_jn hj]
      show ym_R s2 (d + 1) j = ym_R s3 2 (s3.1 23 (96 + j)) ∧ s2.1 (d + 2) j = s3.1 24 (96 + j) ∧ s2.2.1 (d + 3) j = s3.2.1 25 (96 + j)
      rw [y1, y2, y3, g23, g24, g25]
      by_cases hj : j = k
      · rw [if_pos hj, if_pos hj, if_pos hj, if_pos (by omega), if_pos (by omega), if_pos (by omega), hRef a a0 a1]
        exact ⟨hc.symm, rfl, rfl⟩
      · rw [if_neg hj, if_neg hj, if_neg hj, if_neg (by omega), if_neg (by omega), if_neg (by omega)]
        obtain ⟨q1, q2, -⟩ := p8 j j0 (by omega)
        rw [hRef _ q1 q2]
        exact e12 j j0 (by omega)
  · have := (sixes t c q t0 t1 hc hq).1
    omega
  · rw [rr12 1 (by decide)]; exact v2
  · rw [rr12 15 (by decide)]; exact v3
  · rw [rr12 16 (by decide)]; exact v4
  · rw [rr1 26 (by decide) (by decide) (by decide) (by decide)]; exact v5
  · rw [rr12 18 (by decide)]; exact v6
  · rw [rr1 27 (by decide) (by decide) (by decide) (by decide)]; exact v7
theorem st_5 (H : zh sc K 30) (hT : zTn s) (hI : zInv s) {a h : Int} {v : Int64} (ha : ym_in a) (hh : ym_in h) (kr : ∀ u s2, stQ sc P s (94, 0, [some (ym_P 12), some (ym_I a), some (ym_I h), some (ym_J v), none, none], []) u s2 → ym_Rt sc P K (some (ym_I u)) s2) : ym_Go sc P K (6, 0, [some (ym_P 1), some (ym_I a), some (ym_I h), some (ym_J v), none, none], []) s := by
  have hI0 := hI
  obtain ⟨E, n, op, N, r, M, rr, hP, hC, hR⟩ := hI
  have h22 := hP.2.2.2.2.2.2.1
  refine cc_6 (zm H (by omega)) hP.1 hC.2.1 hC.2.2.2.2.1 h22 hC.1 ha hh (fun w => kr 0 s ⟨by decide, fun K2 H2 k => ?_⟩) (fun hok d c d1 hd hc => kr 1 _ ⟨by decide, fun K2 H2 k => ?_⟩)
  · have k2 := k _ (zStay0 hT hI0 (zOld_r s)) (by show ym_n s ≤ _; omega) (by show ym_z s ≤ _; omega)
    exact rc_94 (zm H2 (by omega)) hP.1 hR.1 h22 hR.2.1 hR.2.2.1 ha hh (fun _ => k2) (fun z => absurd z w)
  · have e3 := hd.2.2.1
    have hk2 : zKC s (zAd s d c (E.1 22 16) h v) := fun q q1 q2 => ⟨(zAd_ac (by omega) (by omega) (by omega) (by omega)).1, (zAd_ac (by omega) (by omega) (by omega) (by omega)).2.1⟩
    have hR2 := zRI_C hR hk2
    exact rc_94 (zm H2 (by omega)) hP.1 hR2.1 h22 hR2.2.1 hR2.2.2.1 ha hh (fun z => absurd hok z) (fun _ => k _ (zInv_5 hT hP hC hR hok d1 hd hc) (by show ym_n s ≤ _; omega) (by show ym_z s ≤ _; omega))
end
