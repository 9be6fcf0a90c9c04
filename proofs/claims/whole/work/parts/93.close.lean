/-! What holds after close: own work. -/
section
variable {sc : xm_S} {P : xm_O → xm_H → Prop} {K : List ym_F} {s s2 s3 : ym_S} {E : zEnv} {n op N M : Int} {r rr : Int → Int} {d : Nat} {L : List Int}
theorem zr_at {o : Int → Int} {a : Int} (h : zr o a L) {j : Int} (j0 : 0 ≤ j) (j1 : j < (L.length : Int)) : ∃ g, g ∈ L ∧ o (a + j) = g ∧ L[j.toNat]? = some g := by
  have hj : j.toNat < L.length := by omega
  have e := zr_get h j.toNat hj
  rw [show ((j.toNat : Nat) : Int) = j by omega] at e
  exact ⟨L[j.toNat], List.getElem_mem hj, e, List.getElem?_eq_getElem hj⟩
theorem zNd_at : ∀ {L : List Int} {o : Int → Int} {a : Int}, zNd L → zr o a L → ∀ i j, 0 ≤ i → i < j → j < (L.length : Int) → o (a + i) ≠ o (a + j)
  | [], o, a, _, _, i, j, h0, h1, h2 => by
    rw [List.length_nil] at h2
    exfalso
    omega
  | x :: t, o, a, hn, hz, i, j, h0, h1, h2 => by
    rw [List.length_cons] at h2
    obtain ⟨n1, n2⟩ := List.pairwise_cons.mp hn
    by_cases hi : i = 0
    · obtain ⟨g, g1, g2, -⟩ := zr_at (L := t) hz.2 (j := j - 1) (by omega) (by omega)
      rw [hi, Int.add_zero, hz.1, show a + j = a + 1 + (j - 1) by omega, g2]
      exact n1 g g1
    · rw [show a + i = a + 1 + (i - 1) by omega, show a + j = a + 1 + (j - 1) by omega]
      exact zNd_at n2 hz.2 (i - 1) (j - 1) (by omega) (by omega) (by omega)
theorem zJoin6 (hT : zTn s) (hP : zPI E n op N r M) (hC : zCI s E n op N r M rr) (hR : zRI s E n op N r M rr) (hd : zDd E s n op d) (hb : zBr E op = false) (hL : L = if op = 20 then zFL E (E.1 22 16).toNat 0 else [op]) (hM : zMade s s2 n op (if op = 20 then -1 else op) 0 (Int64.ofNat 0) (Int64.ofNat 0) none (some d) L) (hk : ∀ k, 12 ≤ k → k ≤ 27 → zAc s s2 k) (hr : rCl E (ym_wR s2 1 2 none) s3 n op L) (hn : n < 16) : zInv s3 := by
  obtain ⟨p1, p2, p3, p4, p5, p6, p7, p8⟩ := id hP
  obtain ⟨c1, c2, c3, c4, c5, c6⟩ := id hC
  obtain ⟨e1, e2, e3, e4, e5, e6, e7, e8, e9, e10, e11, e12, e13⟩ := id hd
  obtain ⟨m1, m2, m3, m4, m5, m6, m7⟩ := hM
  have h46 := hT.2
  obtain ⟨sw, hsw⟩ : ∃ sw, sw = ym_wR s2 1 2 none := ⟨_, rfl⟩
  rw [← hsw] at hr
  have hw : ∀ k, k ≠ 1 → zAc s2 sw k := fun k k1 => by
    rw [hsw]
    exact ⟨rfl, rfl, u_f k1, rfl⟩
  have hk2 : zKC s sw := fun k k1 k2 => by
    have a := zAc_t (hk k k1 k2) (hw k (by omega))
    exact ⟨a.1, a.2.1⟩
  obtain ⟨r1, r2, r3, r4, r5, r6, r7⟩ := zRI_C hR hk2
  obtain ⟨q1, q2, ⟨q3, q4, q5, q6, q7, q8⟩, ⟨q9, q10, q11⟩, ⟨f13, f14, f15, f17⟩, f20, f21⟩ := hr
  have hA : zAg E (s3.1, s3.2.1) n := zAg_of hR.1 hk2 q2
  have hcells : ∀ k, 46 ≤ k → k < ym_n s → zAc s s3 k := fun k k1 k2 => zAc_t (zAc_t (m1 k k2 (by omega) (by omega)) (hw k (by omega))) (zAc_KR q1 (by omega))
  have a2 : zAc s2 s3 2 := zAc_t (hw 2 (by decide)) (zAc_KR q1 (by omega))
  have hRef : ∀ j, 0 ≤ j → j < n → ym_R s3 2 j = ym_R s 2 j := fun j j0 j1 => by
    rw [a2.2.2.1]
    exact m2 j (by omega)
  have hRn : ym_R s3 2 n = some (ym_n s) := by
    rw [a2.2.2.1]
    exact m3
  have hR1 : ym_R s3 1 2 = none := by
    rw [(zAc_KR q1 (k := 1) (by omega)).2.2.1, hsw]
    show ym_u s2.2.2.1 1 2 none 1 2 = _
    exact ym_u_eq
  have row : ∀ k, k < 12 → k ≠ 1 → k ≠ 2 → s3.1 k = s.1 k := fun k k1 k2 k3 => by
    rw [(zAc_KR q1 (k := k) (by omega)).1, (hw k k2).1]
    exact (m1 k (by omega) k2 k3).1
  have hcn : zAc s2 s3 (ym_n s) := zAc_t (hw _ (by omega)) (zAc_KR q1 (by omega))
  have hcn1 : zAc s2 s3 (ym_n s + 1) := zAc_t (hw _ (by omega)) (zAc_KR q1 (by omega))
  obtain ⟨t1, t2, t3, t4, t5, t6, t7, t8, t9, t10, t11, t12⟩ := m4
  rw [← hcn.2.2.2] at t1
  rw [← hcn.1] at t3 t4 t5
  rw [← hcn.2.2.1] at t8 t9 t10
  rw [← hcn1.2.2.2] at t11
  rw [← hcn1.1] at t12
  have hle : ym_n s ≤ ym_n s3 := by
    have x1 : ym_n s3 = ym_n sw := by show s3.2.2.2.2.1 = _; rw [q1.2]
    have x2 : ym_n sw = ym_n s2 := by rw [hsw]; rfl
    omega
  have hch : eCh (s3.1, s3.2.1) n = decide (op = 20) := by
    unfold eCh
    rw [decide_eq_true (show (s3.1, s3.2.1).1 13 n = 4 from f13), Bool.true_and]
    show decide (s3.1 15 n = 20) = _
    rw [f15]
  have hco : eCo (s3.1, s3.2.1) 17 n = n := by
    rw [eCo, if_neg]
    show ¬ s3.1 13 n = 1
    omega
  -- what is so of L
  have hLf : zNd L ∧ (∀ g, g ∈ L → 0 ≤ g ∧ g < 8388608 ∧ ∃ v, 0 ≤ v ∧ v ≤ n ∧ s3.1 14 v = g) ∧ L.length ≤ 16 ∧ (op ≠ 20 → L = [op]) := by
    by_cases h20 : op = 20
    · rw [if_pos h20] at hL
      obtain ⟨x1, x2, x3⟩ := zFL_ok p1 p2 (show op ≠ 16 by omega) hb p7 p8 p3
      rw [← hL] at x1 x2 x3
      refine ⟨x1, fun g hg => ?_, by omega, fun z => absurd h20 z⟩
      obtain ⟨y1, y2, v, v0, v1, v2⟩ := x2 g hg
      have y3 : s3.1 14 v = E.1 14 v := hA.1 14 (by simp) v v0 v1
      exact ⟨y1, y2, v, v0, by omega, by rw [y3]; exact v2⟩
    · rw [if_neg h20] at hL
      rw [hL]
      refine ⟨List.Pairwise.cons (fun g hg => by cases hg) List.Pairwise.nil, fun g hg => ?_, (show 1 ≤ 16 by decide), fun _ => rfl⟩
      have hg2 : g = op := by
        rcases List.mem_cons.mp hg with h | h
        · exact h
        · cases h
      rw [hg2]
      exact ⟨by omega, by omega, n, p3, Int.le_refl _, f14⟩
  obtain ⟨l1, l2, l3, l4⟩ := hLf
  have hwf : zWf (s3.1, s3.2.1) n := by
    refine ⟨?_, ?_, fun j j0 j1 => ?_, fun z => ?_⟩
    · show 0 ≤ s3.1 20 n
      omega
    · show s3.1 20 n ≤ 96
      omega
    · have j1 : j < s3.1 20 n := j1
      obtain ⟨g, g1, g2, -⟩ := zr_at f21 j0 (by omega)
      show 0 ≤ s3.1 21 (96 * n + j) ∧ s3.1 21 (96 * n + j) < 8388608
      rw [g2]
      exact ⟨(l2 g g1).1, (l2 g g1).2.1⟩
    · rw [hch] at z
      have h20 := of_decide_eq_false z
      have e := l4 h20
      rw [e] at f20 f21
      refine ⟨f20, ?_⟩
      show s3.1 21 (96 * n) = s3.1 14 n
      rw [f14]
      exact f21.1
  have mem : ∀ k, 0 ≤ k → k < E.1 22 16 → s3.1 23 (6 * n + k) = E.1 23 (96 + k) ∧ s3.1 24 (6 * n + k) = E.1 24 (96 + k) ∧ s3.2.1 25 (6 * n + k) = E.2 25 (96 + k) := fun k k0 k1 => q11 k k0 (by omega)
  have hw4 : zW4 (s3.1, s3.2.1) n := by
    show (s3.1 15 n = 16 ∨ s3.1 15 n = 17 ∨ s3.1 15 n = 20) ∧ s3.1 14 n = s3.1 15 n ∧ 0 ≤ s3.1 22 n ∧ s3.1 22 n ≤ 6 ∧ (∀ k, 0 ≤ k → k < s3.1 22 n → 0 ≤ s3.1 23 (6 * n + k) ∧ s3.1 23 (6 * n + k) < n ∧ 0 ≤ s3.1 24 (6 * n + k) ∧ s3.1 24 (6 * n + k) ≤ 2 ∧ (s3.1 24 (6 * n + k) = 2 → s3.1 13 (eNc (s3.1, s3.2.1) 17 (s3.1 23 (6 * n + k))) = 0 ∧ ((s3.1 15 (eNc (s3.1, s3.2.1) 17 (s3.1 23 (6 * n + k))) = 1 ∧ ((s3.2.1 25 (6 * n + k)).toInt = 0 ∨ (s3.2.1 25 (6 * n + k)).toInt = 1)) ∨ s3.1 15 (eNc (s3.1, s3.2.1) 17 (s3.1 23 (6 * n + k))) = 2))) ∧ (s3.1 15 n = 17 → ∀ k j g, 0 ≤ k → k < j → j < s3.1 22 n → eBg (s3.1, s3.2.1) (s3.1 23 (6 * n + k)) g = true → eBg (s3.1, s3.2.1) (s3.1 23 (6 * n + j)) g = false)
    rw [f14, f15, q10]
    refine ⟨e1, rfl, p7.1, p7.2, fun k k0 k1 => ?_, fun h17 k j g k0 kj j1 hg => ?_⟩
    · obtain ⟨x1, x2, x3⟩ := mem k k0 k1
      obtain ⟨y1, y2, y3, y4, y5⟩ := p8 k k0 k1
      obtain ⟨u1, u2⟩ := eNc_ok p1 17 _ y1 y2
      have b13 : s3.1 13 (eNc E 17 (E.1 23 (96 + k))) = E.1 13 (eNc E 17 (E.1 23 (96 + k))) := hA.1 13 (by simp) _ u1 (by omega)
      have b15 : s3.1 15 (eNc E 17 (E.1 23 (96 + k))) = E.1 15 (eNc E 17 (E.1 23 (96 + k))) := hA.1 15 (by simp) _ u1 (by omega)
      rw [x1, x2, x3, zAg_nc hA p1 17 _ y1 y2, b13, b15]
      exact ⟨y1, y2, y3, y4, y5⟩
    · obtain ⟨y1, y2, -⟩ := p8 k k0 (by omega)
      obtain ⟨z1, z2, -⟩ := p8 j (by omega) j1
      rw [(mem k k0 (by omega)).1, zAg_b hA y1 y2 (zWf_of p1 y1 y2)] at hg
      rw [(mem j (by omega) j1).1, zAg_b hA z1 z2 (zWf_of p1 z1 z2)]
      exact zft_mt (zBr_f (show op ≠ 16 by omega) hb k j k0 kj j1) (zft_bg.mp hg)
  have hfs : zFs1 (s3.1, s3.2.1) n := by
    refine ⟨fun i j i0 ij j1 => ?_, fun j j0 j1 => ?_⟩
    · have j1 : j < s3.1 20 n := j1
      exact zNd_at l1 f21 i j i0 ij (by omega)
    · have j1 : j < s3.1 20 n := j1
      obtain ⟨g, g1, g2, -⟩ := zr_at f21 j0 (by omega)
      obtain ⟨-, -, v, v0, v1, v2⟩ := l2 g g1
      refine ⟨v, v0, v1, ?_⟩
      show s3.1 14 v = s3.1 21 (96 * n + j)
      rw [g2]
      exact v2
  have hmb : zMb (s3.1, s3.2.1) s3 n d := by
    have g0 := hcells d e3 (hT.1 _ _ e2)
    have g1 := hcells (d + 1) (by omega) (hT.1 _ _ e7)
    have g2 := hcells (d + 2) (by omega) (hT.1 _ _ e9)
    have g3 := hcells (d + 3) (by omega) (hT.1 _ _ e11)
    unfold zMb
    rw [g0.1, g0.2.2.1, g0.2.2.2, g1.2.2.1, g1.2.2.2, g2.1, g2.2.2.2, g3.2.1, g3.2.2.2]
    show ym_T s d = some (6, 0) ∧ 46 ≤ d ∧ s.1 d 0 = s3.1 15 n ∧ s.1 d 4 = s3.1 22 n ∧ ym_R s d 1 = some (d + 1) ∧ ym_T s (d + 1) = some (3, 6) ∧ ym_R s d 2 = some (d + 2) ∧ ym_T s (d + 2) = some (0, 6) ∧ ym_R s d 3 = some (d + 3) ∧ ym_T s (d + 3) = some (1, 6) ∧ ∀ k, 0 ≤ k → k < s3.1 22 n → ym_R s (d + 1) k = ym_R s3 2 (s3.1 23 (6 * n + k)) ∧ s.1 (d + 2) k = s3.1 24 (6 * n + k) ∧ s.2.1 (d + 3) k = s3.2.1 25 (6 * n + k)
    rw [f15, q10]
    refine ⟨e2, e3, e4, e5, e6, e7, e8, e9, e10, e11, fun k k0 k1 => ?_⟩
    obtain ⟨x1, x2, x3⟩ := mem k k0 k1
    obtain ⟨y1, y2, -⟩ := p8 k k0 k1
    rw [x1, x2, x3, hRef _ y1 y2]
    exact e12 k k0 k1
  have hct : zCt (s3.1, s3.2.1) s3 n (ym_n s) := by
    unfold zCt
    rw [hco, hch]
    show ym_T s3 (ym_n s) = some (5, 0) ∧ 46 ≤ ym_n s ∧ s3.1 (ym_n s) 0 = zFo (s3.1, s3.2.1) n ∧ s3.1 (ym_n s) 1 = (if decide (op = 20) = true then -1 else s3.1 14 n) ∧ s3.1 (ym_n s) 2 = (if s3.1 13 n = 0 then s3.1 17 n else 0) ∧ (s3.1 13 n = 0 → s3.1 17 n ≠ 0 → s3.2.1 (ym_n s) 3 = s3.2.1 18 n ∧ s3.2.1 (ym_n s) 4 = s3.2.1 19 n) ∧ ((s3.1 13 n = 2 ∨ s3.1 13 n = 3) → ym_R s3 (ym_n s) 5 = ym_R s3 2 (s3.1 16 n)) ∧ (s3.1 13 n = 4 → ∃ m, ym_R s3 (ym_n s) 6 = some m ∧ zMb (s3.1, s3.2.1) s3 n m) ∧ ym_R s3 (ym_n s) 7 = some (ym_n s + 1) ∧ ym_T s3 (ym_n s + 1) = some (0, (s3.1 20 n).toNat) ∧ ∀ j, 0 ≤ j → j < s3.1 20 n → s3.1 (ym_n s + 1) j = s3.1 21 (96 * n + j)
    refine ⟨t1, t2, ?_, ?_, ?_, fun w => by exfalso; omega, fun w => by exfalso; omega, fun _ => ⟨d, t9, hmb⟩, t10, ?_, fun j j0 j1 => ?_⟩
    · rw [t3]
      unfold zFo
      rw [if_neg (show ¬ s3.1 13 n = 2 by omega), if_neg (show ¬ s3.1 13 n = 3 by omega)]
      exact f15.symm
    · rw [t4, f14]
      by_cases h20 : op = 20
      · rw [if_pos h20, if_pos (decide_eq_true h20)]
      · rw [if_neg h20, if_neg (show ¬ (decide (op = 20) = true) from fun z => h20 (of_decide_eq_true z))]
    · rw [t5, if_neg (show ¬ s3.1 13 n = 0 by omega)]
    · rw [t11, f20, Int.toNat_natCast]
    · obtain ⟨g, -, g2, g3⟩ := zr_at f21 j0 (by omega)
      obtain ⟨g', -, g2', g3'⟩ := zr_at t12 j0 (by omega)
      rw [g3] at g3'
      rw [g2, Option.some.inj g3', ← g2', Int.zero_add]
  refine ⟨(s3.1, s3.2.1), n + 1, 0, N, r, M, rr, ⟨⟨by omega, fun t t0 t1 => ?_⟩, fun t t0 t1 => ?_, by omega, p4, p5, fun _ => q9, ?_, fun k k0 k1 => ?_⟩, ⟨?_, fun t t0 t1 => ?_, ?_, ?_, Or.inl ⟨hR1, rfl⟩, fun t c q t0 t1 hc hq => ?_⟩, ⟨⟨rfl, rfl, rfl, rfl, rfl, rfl, rfl, rfl, rfl, rfl, rfl, rfl, rfl⟩, q3, q4, ?_, ?_, ?_, ?_⟩⟩
  · by_cases ht : t < n
    · exact zAg_wt hA p1 t0 ht
    · rw [show t = n by omega]
      exact ⟨hwf, Or.inr (Or.inr (Or.inr (Or.inr ⟨f13, hw4⟩)))⟩
  · by_cases ht : t < n
    · exact zFs_tr hA p1 t0 ht (p2 t t0 ht)
    · rw [show t = n by omega]
      exact hfs
  · show 0 ≤ s3.1 22 16 ∧ s3.1 22 16 ≤ 6
    omega
  · have k1 : k < s3.1 22 16 := k1
    exfalso
    omega
  · rw [(zAc_KR q1 (k := 1) (by omega)).1, hsw]
    exact m5
  · by_cases ht : t < n
    · exact zCl_tr hT hA p1 hcells hRef c2 t t0 ht
    · rw [show t = n by omega]
      exact ⟨ym_n s, hRn, hct⟩
  · rw [row 3 (by decide) (by decide) (by decide), row 4 (by decide) (by decide) (by decide)]
    exact c3
  · rw [row 5 (by decide) (by decide) (by decide), row 6 (by decide) (by decide) (by decide)]
    exact c4
  · by_cases ht : t < n
    · rw [hRef t t0 ht] at hc
      obtain ⟨c', hc', hct'⟩ := c2 t t0 ht
      obtain rfl : c = c' := Option.some.inj (hc.symm.trans hc')
      rw [(hcells c hct'.2.1 (hT.1 _ _ hct'.1)).2.2.1] at hq
      exact Nat.lt_of_lt_of_le (c6 t c q t0 ht hc hq) hle
    · rw [show t = n by omega] at hc
      obtain rfl : ym_n s = c := Option.some.inj (hRn.symm.trans hc)
      rw [t9] at hq
      obtain rfl : d = q := Option.some.inj hq
      exact Nat.lt_of_lt_of_le (hT.1 _ _ e2) hle
  · rw [q5]; exact r4
  · rw [q7]; exact r5
  · rw [q6]; exact r6
  · rw [q8]; exact r7
theorem st_6 (H : zh sc K 30) (hT : zTn s) (hI : zInv s) (kr : ∀ v s2, stQ sc P s (98, 0, [some (ym_P 12), none, none, none, none], []) v s2 → ym_Rt sc P K (some (ym_I v)) s2) : ym_Go sc P K (7, 0, [some (ym_P 1), none], []) s := by
  have hI0 := hI
  obtain ⟨E, n, op, N, r, M, rr, hP, hC, hR⟩ := hI
  obtain ⟨p1, p2, p3, p4, p5, p6, p7, p8⟩ := id hP
  have hn := p1.1
  have hop2 : op = 0 ∨ op = 16 ∨ op = 17 ∨ op = 20 := by
    rcases hC.2.2.2.2.1 with ⟨-, h⟩ | ⟨d, -, h⟩
    · exact Or.inl h
    · exact Or.inr h.1
  obtain ⟨L, hL⟩ : ∃ L, L = if op = 20 then zFL E (E.1 22 16).toNat 0 else [op] := ⟨_, rfl⟩
  have hl : zBr E op = false → L.length ≤ 16 := fun hb => by
    by_cases h20 : op = 20
    · rw [if_pos h20] at hL
      have x := (zFL_ok p1 p2 (show op ≠ 16 by omega) hb p7 p8 p3).2.2
      rw [← hL] at x
      omega
    · rw [if_neg h20] at hL
      rw [hL]
      show 1 ≤ 16
      decide
  refine cc_7 (zm H (by omega)) hT hP hC hL hl (fun w => kr _ _ (st_no hT hI0 (zOld_r s) (by omega) (by omega) (fun K2 H2 k => ?_))) (fun w0 w1 hb d d1 hd s2 hM e1 e2 hk => kr _ _ ⟨⟨by omega, by omega⟩, fun K2 H2 k => ?_⟩)
  · exact rc_98 (zm H2 (by omega)) p1 hR.1 p3 hR.2.1 hR.2.2.1 hop2 p7 p8 hL hl (fun _ => k) (fun y0 y1 yb => (w.elim y0 (fun z => z.elim (fun z => by omega) (fun z => by rw [yb] at z; cases z)) : False).elim)
  · have hk2 : zKC s (ym_wR s2 1 2 none) := fun k k1 k2 => ⟨(hk k k1 k2).1, (hk k k1 k2).2.1⟩
    have hR2 := zRI_C hR hk2
    refine rc_98 (zm H2 (by omega)) p1 hR2.1 p3 hR2.2.1 hR2.2.2.1 hop2 p7 p8 hL hl (fun y => (y.elim w0 (fun z => z.elim (fun z => by omega) (fun z => by rw [hb] at z; cases z)) : False).elim) (fun _ _ _ s3 h3 => ?_)
    obtain ⟨z1, z2⟩ := zCnt h3.1
    have z3 : ym_n (ym_wR s2 1 2 none) = ym_n s2 := rfl
    have z4 : ym_z (ym_wR s2 1 2 none) = ym_z s2 := rfl
    exact k s3 (zJoin6 hT hP hC hR hd hb hL hM hk h3 w1) (by omega) (by omega)
end
