/-! What holds between the calls: own work. -/
def zFs1 (E : zEnv) (t : Int) : Prop := (∀ i j, 0 ≤ i → i < j → j < E.1 20 t → E.1 21 (96 * t + i) ≠ E.1 21 (96 * t + j)) ∧ (∀ j, 0 ≤ j → j < E.1 20 t → ∃ v, 0 ≤ v ∧ v ≤ t ∧ E.1 14 v = E.1 21 (96 * t + j))
def zFs (E : zEnv) (n : Int) : Prop := ∀ t, 0 ≤ t → t < n → zFs1 E t
def zMv (E : zEnv) (n j : Int) : Prop := 0 ≤ E.1 23 j ∧ E.1 23 j < n ∧ 0 ≤ E.1 24 j ∧ E.1 24 j ≤ 2 ∧ (E.1 24 j = 2 → E.1 13 (eNc E 17 (E.1 23 j)) = 0 ∧ ((E.1 15 (eNc E 17 (E.1 23 j)) = 1 ∧ ((E.2 25 j).toInt = 0 ∨ (E.2 25 j).toInt = 1)) ∨ E.1 15 (eNc E 17 (E.1 23 j)) = 2))
def zDd (E : zEnv) (s : ym_S) (n op : Int) (d : Nat) : Prop := (op = 16 ∨ op = 17 ∨ op = 20) ∧ ym_T s d = some (6, 0) ∧ 46 ≤ d ∧ s.1 d 0 = op ∧ s.1 d 4 = E.1 22 16 ∧ ym_R s d 1 = some (d + 1) ∧ ym_T s (d + 1) = some (3, 6) ∧ ym_R s d 2 = some (d + 2) ∧ ym_T s (d + 2) = some (0, 6) ∧ ym_R s d 3 = some (d + 3) ∧ ym_T s (d + 3) = some (1, 6) ∧ (∀ k, 0 ≤ k → k < E.1 22 16 → ym_R s (d + 1) k = ym_R s 2 (E.1 23 (96 + k)) ∧ s.1 (d + 2) k = E.1 24 (96 + k) ∧ s.2.1 (d + 3) k = E.2 25 (96 + k)) ∧ (∀ t c, 0 ≤ t → t < n → ym_R s 2 t = some c → ym_R s c 6 ≠ some d)
def zDr (E : zEnv) (s : ym_S) (n op : Int) : Prop := (ym_R s 1 2 = none ∧ op = 0) ∨ ∃ d, ym_R s 1 2 = some d ∧ zDd E s n op d
def zPI (E : zEnv) (n op N : Int) (r : Int → Int) (M : Int) : Prop := zWF E n ∧ zFs E n ∧ 0 ≤ n ∧ (0 ≤ N ∧ N ≤ 200 ∧ zs_oct r N) ∧ (0 ≤ M ∧ M ≤ 200) ∧ (op = 0 → E.1 22 16 = 0) ∧ (0 ≤ E.1 22 16 ∧ E.1 22 16 ≤ 6) ∧ ∀ k, 0 ≤ k → k < E.1 22 16 → zMv E n (96 + k)
def zM6 (s : ym_S) (n : Int) : Prop := ∀ t c q, 0 ≤ t → t < n → ym_R s 2 t = some c → ym_R s c 6 = some q → q < ym_n s
def zCI (s : ym_S) (E : zEnv) (n op N : Int) (r : Int → Int) (M : Int) (rr : Int → Int) : Prop := s.1 1 1 = n ∧ zCl E s n ∧ (s.1 3 1 = N ∧ ∀ j, 0 ≤ j → j < N → s.1 4 j = r j) ∧ (s.1 5 1 = M ∧ ∀ j, 0 ≤ j → j < M → s.1 6 j = rr j) ∧ zDr E s n op ∧ zM6 s n
def zRI (s : ym_S) (E : zEnv) (n op N : Int) (r : Int → Int) (M : Int) (rr : Int → Int) : Prop := zRE s E ∧ s.1 12 1 = n ∧ s.1 12 15 = op ∧ s.1 12 16 = N ∧ (∀ j, 0 ≤ j → j < N → s.1 26 j = r j) ∧ s.1 12 18 = M ∧ (∀ j, 0 ≤ j → j < M → s.1 27 j = rr j)
def zInv (s : ym_S) : Prop := ∃ E n op N r M rr, zPI E n op N r M ∧ zCI s E n op N r M rr ∧ zRI s E n op N r M rr
/-- the reference's cells are as they were -/
def zKC (s s2 : ym_S) : Prop := ∀ k, 12 ≤ k → k ≤ 27 → s2.1 k = s.1 k ∧ s2.2.1 k = s.2.1 k
section
variable {s s2 s3 : ym_S} {E E2 : zEnv} {n op N M : Int} {r rr : Int → Int}
theorem zKC_o (h : zOld s s2) (h46 : 46 ≤ ym_n s) : zKC s s2 := fun k _ h2 => ⟨(h.1 k (by omega)).1, (h.1 k (by omega)).2.1⟩
theorem zRI_C (h : zRI s E n op N r M rr) (hk : zKC s s2) : zRI s2 E n op N r M rr := by
  obtain ⟨⟨a1, a2, a3, a4, a5, a6, a7, a8, a9, a10, a11, a12, a13⟩, b, c, d, e, f, g⟩ := h
  unfold zRI zRE
  rw [(hk 12 (by decide) (by decide)).1, (hk 13 (by decide) (by decide)).1, (hk 14 (by decide) (by decide)).1, (hk 15 (by decide) (by decide)).1, (hk 16 (by decide) (by decide)).1, (hk 17 (by decide) (by decide)).1, (hk 18 (by decide) (by decide)).2, (hk 19 (by decide) (by decide)).2, (hk 20 (by decide) (by decide)).1, (hk 21 (by decide) (by decide)).1, (hk 22 (by decide) (by decide)).1, (hk 23 (by decide) (by decide)).1, (hk 24 (by decide) (by decide)).1, (hk 25 (by decide) (by decide)).2, (hk 26 (by decide) (by decide)).1, (hk 27 (by decide) (by decide)).1]
  exact ⟨⟨a1, a2, a3, a4, a5, a6, a7, a8, a9, a10, a11, a12, a13⟩, b, c, d, e, f, g⟩
theorem zAg_of (hE : zRE s E) (hk : zKC s s2) (hA : zAg (s2.1, s2.2.1) E2 n) : zAg E E2 n := by
  obtain ⟨h13, h14, h15, h16, h17, h20, h21, h22, h23, h24, h18, h19, h25⟩ := hE
  obtain ⟨a, b, c, d⟩ := hA
  refine ⟨fun k hk2 j j0 j1 => ?_, fun j j0 j1 => ?_, fun j j0 j1 => ?_, fun j j0 j1 => ?_⟩
  · have e1 := a k hk2 j j0 j1
    change E2.1 k j = s2.1 k j at e1
    rw [(hk k (by omega) (by omega)).1] at e1
    rw [e1]
    rcases hk2 with rfl | rfl | rfl | rfl | rfl | rfl | rfl
    · rw [h13]
    · rw [h14]
    · rw [h15]
    · rw [h16]
    · rw [h17]
    · rw [h20]
    · rw [h22]
  · have e1 := b j j0 j1
    change E2.1 21 j = s2.1 21 j at e1
    rw [e1, (hk 21 (by decide) (by decide)).1, h21]
  · obtain ⟨x, y, z⟩ := c j j0 j1
    change E2.1 23 j = s2.1 23 j at x
    change E2.1 24 j = s2.1 24 j at y
    change E2.2 25 j = s2.2.1 25 j at z
    rw [x, y, z, (hk 23 (by decide) (by decide)).1, (hk 24 (by decide) (by decide)).1, (hk 25 (by decide) (by decide)).2, h23, h24, h25]
    exact ⟨rfl, rfl, rfl⟩
  · obtain ⟨x, y⟩ := d j j0 j1
    change E2.2 18 j = s2.2.1 18 j at x
    change E2.2 19 j = s2.2.1 19 j at y
    rw [x, y, (hk 18 (by decide) (by decide)).2, (hk 19 (by decide) (by decide)).2, h18, h19]
    exact ⟨rfl, rfl⟩
theorem zAc_KR (h : zKR s s2) {k : Nat} (hk : k < 12 ∨ 45 ≤ k) : zAc s s2 k := by
  refine ⟨(h.1 k hk).1, (h.1 k hk).2, ?_, ?_⟩
  · show s2.2.2.1 k = _
    rw [h.2]
  · show s2.2.2.2.1 k = _
    rw [h.2]
/-- class cells that agree -/
def zMc (E : zEnv) (s : ym_S) (n : Int) (s2 : ym_S) : Prop := ∀ k, 46 ≤ k → k < ym_n s → zAc s s2 k
/-- the types' cells stay, where all cells stay -/
theorem zCl_tr (hT : zTn s) (hA : zAg E E2 n) (hW : zWF E n) (hm : ∀ k, 46 ≤ k → k < ym_n s → zAc s s2 k) (hR : ∀ j, 0 ≤ j → j < n → ym_R s2 2 j = ym_R s 2 j) (h : zCl E s n) : zCl E2 s2 n := by
  intro t h0 h1
  obtain ⟨c, hc, hct⟩ := h t h0 h1
  refine ⟨c, (hR t h0 h1).trans hc, ?_⟩
  obtain ⟨a1, a2, a3, a4, a5, a6, a7, a8, a9, a10, a11⟩ := id hct
  refine zCt_tr hA hW h0 h1 hR (hm c a2 (hT.1 _ _ a1)) (hm (c + 1) (by omega) (hT.1 _ _ a10)) (fun m hm1 hm2 => ?_) hct
  obtain ⟨b1, b2, b3, b4, b5, b6, b7, b8, b9, b10, b11⟩ := hm2
  exact ⟨hm m b2 (hT.1 _ _ b1), hm _ (by omega) (hT.1 _ _ b6), hm _ (by omega) (hT.1 _ _ b8), hm _ (by omega) (hT.1 _ _ b10)⟩
/-- the draft stays, where all cells stay -/
theorem zDr_tr (hT : zTn s) (hC : zCl E s n) (h22 : E2.1 22 16 = E.1 22 16) (h23 : E2.1 23 = E.1 23) (h24 : E2.1 24 = E.1 24) (h25 : E2.2 25 = E.2 25) (hv : ∀ k, 0 ≤ k → k < E.1 22 16 → zMv E n (96 + k)) (hm : ∀ k, 46 ≤ k → k < ym_n s → zAc s s2 k) (hR : ∀ j, 0 ≤ j → j < n → ym_R s2 2 j = ym_R s 2 j) (h1 : ym_R s2 1 = ym_R s 1) {n2 : Int} (hnew : ∀ d t c, ym_R s 1 2 = some d → n ≤ t → t < n2 → ym_R s2 2 t = some c → ym_R s2 c 6 ≠ some d) (h : zDr E s n op) : zDr E2 s2 n2 op := by
  unfold zDr
  rw [h1]
  rcases h with h | ⟨d, hd, e1, e2, e3, e4, e5, e6, e7, e8, e9, e10, e11, e12, e13⟩
  · exact Or.inl h
  · refine Or.inr ⟨d, hd, ?_⟩
    have g0 := hm d e3 (hT.1 _ _ e2)
    have g1 := hm (d + 1) (by omega) (hT.1 _ _ e7)
    have g2 := hm (d + 2) (by omega) (hT.1 _ _ e9)
    have g3 := hm (d + 3) (by omega) (hT.1 _ _ e11)
    unfold zDd
    rw [g0.1, g0.2.2.1, g0.2.2.2, g1.2.2.1, g1.2.2.2, g2.1, g2.2.2.2, g3.2.1, g3.2.2.2, h22, h23, h24, h25]
    refine ⟨e1, e2, e3, e4, e5, e6, e7, e8, e9, e10, e11, fun k k0 k1 => ?_, fun t c t0 t1 hc => ?_⟩
    · obtain ⟨v1, v2, -⟩ := hv k k0 k1
      rw [hR _ v1 v2]
      exact e12 k k0 k1
    · by_cases ht : t < n
      · rw [hR t t0 ht] at hc
        obtain ⟨c', hc', hct⟩ := hC t t0 ht
        obtain rfl : c = c' := Option.some.inj (hc.symm.trans hc')
        rw [(hm c hct.2.1 (hT.1 _ _ hct.1)).2.2.1]
        exact e13 t c t0 ht hc
      · exact hnew d t c hd (by omega) t1 hc
theorem zMv_tr (hA : zAg E E2 n) (hW : zWF E n) {j n2 : Int} (hn2 : n ≤ n2) (h23 : E2.1 23 j = E.1 23 j) (h24 : E2.1 24 j = E.1 24 j) (h25 : E2.2 25 j = E.2 25 j) (h : zMv E n j) : zMv E2 n2 j := by
  obtain ⟨a, b, c, d, e⟩ := h
  unfold zMv
  obtain ⟨c1, c2⟩ := eNc_ok hW 17 _ a b
  rw [h23, h24, h25, zAg_nc hA hW 17 _ a b, hA.1 13 (by simp) _ c1 (by omega), hA.1 15 (by simp) _ c1 (by omega)]
  exact ⟨a, by omega, c, d, e⟩
theorem zFs_tr (hA : zAg E E2 n) (hW : zWF E n) {t : Int} (h0 : 0 ≤ t) (h1 : t < n) (h : zFs1 E t) : zFs1 E2 t := by
  obtain ⟨f1, f2, -⟩ := zWf_of hW h0 h1
  unfold zFs1
  rw [hA.1 20 (by simp) t h0 h1]
  refine ⟨fun i j i0 ij j1 => ?_, fun j j0 j1 => ?_⟩
  · rw [hA.2.1 _ (by omega) (by omega), hA.2.1 _ (by omega) (by omega)]
    exact h.1 i j i0 ij j1
  · obtain ⟨v, v0, v1, v2⟩ := h.2 j j0 j1
    refine ⟨v, v0, v1, ?_⟩
    rw [hA.2.1 _ (by omega) (by omega), hA.1 14 (by simp) v v0 (by omega)]
    exact v2
/-- one more type, on both sides -/
theorem zJoin (hT : zTn s) (hP : zPI E n op N r M) (hC : zCI s E n op N r M rr) (hR : zRI s E n op N r M rr) {fo tg b : Int} {lo hi : Int64} {i m : Option Nat} {L : List Int} (hM : zMade s s2 n fo tg b lo hi i m L) (hk : zKC s s2) {what tag kind : Int} (hr : rMade s2 s3 n what tag kind) (hm : ∀ d, ym_R s 1 2 = some d → m ≠ some d) (hm2 : ∀ q, m = some q → q < ym_n s) (hn : n < 16) (hw : zWt (s3.1, s3.2.1) n) (hf : zFs1 (s3.1, s3.2.1) n) (hct : zCt (s3.1, s3.2.1) s3 n (ym_n s)) : zInv s3 := by
  obtain ⟨p1, p2, p3, p4, p5, p6, p7, p8⟩ := hP
  obtain ⟨c1, c2, c3, c4, c5, c6⟩ := hC
  have hR2 := zRI_C hR hk
  obtain ⟨r1, r2, r3, r4, r5, r6, r7⟩ := hR2
  obtain ⟨m1, m2, m3, m4, m5, m6, m7⟩ := hM
  obtain ⟨q1, q2, q3, ⟨q4, q5, q6, q7, q8⟩, ⟨q9, q10, q11, q12⟩, q13⟩ := hr
  have hA : zAg E (s3.1, s3.2.1) n := zAg_of hR.1 hk q2
  obtain ⟨h13, h14, h15, h16, h17, h20, h21, h22, h23, h24, h18, h19, h25⟩ := r1
  have g22 : (s3.1, s3.2.1).1 22 16 = E.1 22 16 := by show s3.1 22 16 = _; rw [q9, h22]
  have g23 : (s3.1, s3.2.1).1 23 = E.1 23 := by show s3.1 23 = _; rw [q10, h23]
  have g24 : (s3.1, s3.2.1).1 24 = E.1 24 := by show s3.1 24 = _; rw [q11, h24]
  have g25 : (s3.1, s3.2.1).2 25 = E.2 25 := by show s3.2.1 25 = _; rw [q12, h25]
  have hn46 := hT.2
  have hcells : ∀ k, 46 ≤ k → k < ym_n s → zAc s s3 k := fun k k1 k2 => zAc_t (m1 k k2 (by omega) (by omega)) (zAc_KR q1 (by omega))
  have hRef : ∀ j, 0 ≤ j → j < n → ym_R s3 2 j = ym_R s 2 j := fun j j0 j1 => by
    rw [(zAc_KR q1 (k := 2) (by omega)).2.2.1]
    exact m2 j (by omega)
  have hR1 : ym_R s3 1 = ym_R s 1 := by
    rw [(zAc_KR q1 (k := 1) (by omega)).2.2.1]
    exact m6
  have hRn : ym_R s3 2 n = some (ym_n s) := by
    rw [(zAc_KR q1 (k := 2) (by omega)).2.2.1]
    exact m3
  have row : ∀ k, k < 12 → k ≠ 1 → k ≠ 2 → s3.1 k = s.1 k := fun k k1 k2 k3 => by
    rw [(zAc_KR q1 (k := k) (by omega)).1]
    exact (m1 k (by omega) k2 k3).1
  refine ⟨(s3.1, s3.2.1), n + 1, op, N, r, M, rr, ⟨⟨by omega, fun t t0 t1 => ?_⟩, fun t t0 t1 => ?_, by omega, p4, p5, fun w => ?_, ?_, fun k k0 k1 => ?_⟩, ⟨?_, fun t t0 t1 => ?_, ?_, ?_, ?_, fun t c q t0 t1 hc hq => ?_⟩, ⟨⟨rfl, rfl, rfl, rfl, rfl, rfl, rfl, rfl, rfl, rfl, rfl, rfl, rfl⟩, q3, ?_, ?_, ?_, ?_, ?_⟩⟩
  · by_cases ht : t < n
    · exact zAg_wt hA p1 t0 ht
    · rw [show t = n by omega]
      exact hw
  · by_cases ht : t < n
    · exact zFs_tr hA p1 t0 ht (p2 t t0 ht)
    · rw [show t = n by omega]
      exact hf
  · rw [g22]
    exact p6 w
  · rw [g22]
    exact p7
  · rw [g22] at k1
    exact zMv_tr hA p1 (by omega) (by rw [g23]) (by rw [g24]) (by rw [g25]) (p8 k k0 k1)
  · rw [(zAc_KR q1 (k := 1) (by omega)).1]
    exact m5
  · by_cases ht : t < n
    · exact zCl_tr hT hA p1 hcells hRef c2 t t0 ht
    · rw [show t = n by omega]
      exact ⟨ym_n s, hRn, hct⟩
  · rw [row 3 (by decide) (by decide) (by decide), row 4 (by decide) (by decide) (by decide)]
    exact c3
  · rw [row 5 (by decide) (by decide) (by decide), row 6 (by decide) (by decide) (by decide)]
    exact c4
  · refine zDr_tr hT c2 g22 g23 g24 g25 p8 hcells hRef hR1 (fun d t c hd t0 t1 hc => ?_) c5
    rw [show t = n by omega] at hc
    obtain rfl : ym_n s = c := Option.some.inj (hRn.symm.trans hc)
    rw [(zAc_KR q1 (k := ym_n s) (by omega)).2.2.1]
    obtain ⟨-, -, -, -, -, -, -, -, e6, -⟩ := m4
    rw [e6]
    exact hm d hd
  · have hle : ym_n s ≤ ym_n s3 := by
      have : ym_n s3 = ym_n s2 := by show s3.2.2.2.2.1 = _; rw [q1.2]
      omega
    by_cases ht : t < n
    · rw [hRef t t0 ht] at hc
      obtain ⟨c', hc', hct'⟩ := c2 t t0 ht
      obtain rfl : c = c' := Option.some.inj (hc.symm.trans hc')
      rw [(hcells c hct'.2.1 (hT.1 _ _ hct'.1)).2.2.1] at hq
      exact Nat.lt_of_lt_of_le (c6 t c q t0 ht hc hq) hle
    · rw [show t = n by omega] at hc
      obtain rfl : ym_n s = c := Option.some.inj (hRn.symm.trans hc)
      rw [(zAc_KR q1 (k := ym_n s) (by omega)).2.2.1] at hq
      obtain ⟨-, -, -, -, -, -, -, -, e6, -⟩ := m4
      rw [e6] at hq
      exact Nat.lt_of_lt_of_le (hm2 q hq) hle
  · rw [q4]; exact r3
  · rw [q5]; exact r4
  · rw [q7]; exact r5
  · rw [q6]; exact r6
  · rw [q8]; exact r7
/-- nothing but what nobody looks at has changed -/
theorem zStay (hT : zTn s) (hI : zInv s) (ho : zOld s s2) (hr : zKR s2 s3) (hr2 : ∀ k, 13 ≤ k → k ≤ 27 → s3.1 k = s2.1 k ∧ s3.2.1 k = s2.2.1 k) (hr3 : s3.1 12 1 = s2.1 12 1 ∧ s3.1 12 15 = s2.1 12 15 ∧ s3.1 12 16 = s2.1 12 16 ∧ s3.1 12 18 = s2.1 12 18) : zInv s3 := by
  obtain ⟨E, n, op, N, r, M, rr, hP, hC, hR⟩ := hI
  obtain ⟨c1, c2, c3, c4, c5, c6⟩ := hC
  have hR2 := zRI_C hR (zKC_o ho hT.2)
  have hn46 := hT.2
  have hcells : ∀ k, k < 12 ∨ 46 ≤ k → k < ym_n s → zAc s s3 k := fun k k1 k2 => zAc_t (ho.1 k k2) (zAc_KR hr (by omega))
  have hRef : ∀ j, 0 ≤ j → j < n → ym_R s3 2 j = ym_R s 2 j := fun j _ _ => by rw [(hcells 2 (by omega) (by omega)).2.2.1]
  refine ⟨E, n, op, N, r, M, rr, hP, ⟨?_, zCl_tr hT (zAg_r E n) hP.1 (fun k k1 k2 => hcells k (Or.inr k1) k2) hRef c2, ?_, ?_, ?_, fun t c q t0 t1 hc hq => ?_⟩, ?_⟩
  · rw [(hcells 1 (by omega) (by omega)).1]; exact c1
  · rw [(hcells 3 (by omega) (by omega)).1, (hcells 4 (by omega) (by omega)).1]; exact c3
  · rw [(hcells 5 (by omega) (by omega)).1, (hcells 6 (by omega) (by omega)).1]; exact c4
  · exact zDr_tr hT c2 rfl rfl rfl rfl hP.2.2.2.2.2.2.2 (fun k k1 k2 => hcells k (Or.inr k1) k2) hRef (hcells 1 (by omega) (by omega)).2.2.1 (fun d t c hd t0 t1 => by exfalso; omega) c5
  · rw [hRef t t0 t1] at hc
    obtain ⟨c', hc', hct'⟩ := c2 t t0 t1
    obtain rfl : c = c' := Option.some.inj (hc.symm.trans hc')
    rw [(hcells c (Or.inr hct'.2.1) (hT.1 _ _ hct'.1)).2.2.1] at hq
    have : ym_n s3 = ym_n s2 := by show s3.2.2.2.2.1 = _; rw [hr.2]
    have := c6 t c q t0 t1 hc hq
    have := ho.2
    omega
  · obtain ⟨⟨a1, a2, a3, a4, a5, a6, a7, a8, a9, a10, a11, a12, a13⟩, b, c, d, e, f, g⟩ := hR2
    unfold zRI zRE
    rw [hr3.1, hr3.2.1, hr3.2.2.1, hr3.2.2.2, (hr2 13 (by decide) (by decide)).1, (hr2 14 (by decide) (by decide)).1, (hr2 15 (by decide) (by decide)).1, (hr2 16 (by decide) (by decide)).1, (hr2 17 (by decide) (by decide)).1, (hr2 18 (by decide) (by decide)).2, (hr2 19 (by decide) (by decide)).2, (hr2 20 (by decide) (by decide)).1, (hr2 21 (by decide) (by decide)).1, (hr2 22 (by decide) (by decide)).1, (hr2 23 (by decide) (by decide)).1, (hr2 24 (by decide) (by decide)).1, (hr2 25 (by decide) (by decide)).2, (hr2 26 (by decide) (by decide)).1, (hr2 27 (by decide) (by decide)).1]
    exact ⟨⟨a1, a2, a3, a4, a5, a6, a7, a8, a9, a10, a11, a12, a13⟩, b, c, d, e, f, g⟩
theorem zStay0 (hT : zTn s) (hI : zInv s) (ho : zOld s s2) : zInv (ym_wI s2 12 0 0) := zStay hT hI ho (zKR_w (zKR_r s2) (by decide) (by decide)) (fun k k1 k2 => ⟨wI_f (by omega), rfl⟩) ⟨wI_j (by decide), wI_j (by decide), wI_j (by decide), wI_j (by decide)⟩
end
