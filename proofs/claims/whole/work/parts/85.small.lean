/-! feed, clear, result, octet, counts, firstTag: own work. -/
section
variable {s s2 s3 : ym_S} {E : zEnv} {n op N M : Int} {r rr : Int → Int}
theorem zOct (hT : zTn s) (hP : zPI E n op N r M) (hC : zCI s E n op N r M rr) (hcells : ∀ k, 46 ≤ k → k < ym_n s → zAc s s3 k) (hR2 : ym_R s3 2 = ym_R s 2) (hR1 : ym_R s3 1 = ym_R s 1) (h11 : s3.1 1 1 = s.1 1 1) (hE : zRE s3 E) (h1 : s3.1 12 1 = n) (h15 : s3.1 12 15 = op) (hle : ym_n s ≤ ym_n s3) {N2 M2 : Int} {r2 rr2 : Int → Int} (o1 : 0 ≤ N2 ∧ N2 ≤ 200 ∧ zs_oct r2 N2) (o2 : 0 ≤ M2 ∧ M2 ≤ 200) (o3 : s3.1 3 1 = N2 ∧ ∀ j, 0 ≤ j → j < N2 → s3.1 4 j = r2 j) (o4 : s3.1 12 16 = N2 ∧ ∀ j, 0 ≤ j → j < N2 → s3.1 26 j = r2 j) (o5 : s3.1 5 1 = M2 ∧ ∀ j, 0 ≤ j → j < M2 → s3.1 6 j = rr2 j) (o6 : s3.1 12 18 = M2 ∧ ∀ j, 0 ≤ j → j < M2 → s3.1 27 j = rr2 j) : zInv s3 := by
  obtain ⟨c1, c2, c3, c4, c5, c6⟩ := hC
  have hRef : ∀ j, 0 ≤ j → j < n → ym_R s3 2 j = ym_R s 2 j := fun j _ _ => by rw [hR2]
  obtain ⟨p1, p2, p3, p4, p5, p6, p7, p8⟩ := hP
  refine ⟨E, n, op, N2, r2, M2, rr2, ⟨p1, p2, p3, o1, o2, p6, p7, p8⟩, ⟨h11.trans c1, zCl_tr hT (zAg_r E n) p1 hcells hRef c2, o3, o5, zDr_tr hT c2 rfl rfl rfl rfl p8 hcells hRef hR1 (fun d t c hd t0 t1 => by exfalso; omega) c5, fun t c q t0 t1 hc hq => ?_⟩, ⟨hE, h1, h15, o4.1, o4.2, o6.1, o6.2⟩⟩
  rw [hRef t t0 t1] at hc
  obtain ⟨c', hc', hct'⟩ := c2 t t0 t1
  obtain rfl : c = c' := Option.some.inj (hc.symm.trans hc')
  rw [(hcells c hct'.2.1 (hT.1 _ _ hct'.1)).2.2.1] at hq
  have := c6 t c q t0 t1 hc hq
  omega
end
/-- an octet of what is fed -/
def zOc (b : Int64) (n j : Int) : Int := ym_and (ym_l2i (ym_lus b (8 * (n - 1 - j)))) 255
theorem zOc_b (b : Int64) (n j : Int) : 0 ≤ zOc b n j ∧ zOc b n j < 256 := by
  unfold zOc
  rw [zn_255g]
  omega
section
variable {sc : xm_S} {P : xm_O → xm_H → Prop} {K : List ym_F} {b : Int64} {n N : Int} {r2 : Int → Int}
theorem cc_8l (H : zh sc K 3) (hn : n ≤ 8) (hN : N + n ≤ 200) (h0 : 0 ≤ N) (hr : ∀ j, N ≤ j → r2 j = zOc b n (j - N)) : ∀ (m : Nat) (s : ym_S), (m : Int) ≤ n → s.1 3 1 = N + (n - m) → (∀ j, 0 ≤ j → j < N + (n - m) → s.1 4 j = r2 j) → (∀ s2, zF 3 4 s s2 → s2.1 3 1 = N + n → (∀ j, 0 ≤ j → j < N + n → s2.1 4 j = r2 j) → ym_Rt sc P K (some (ym_I 1)) s2) → ym_Go sc P K (8, 33, [some (ym_P 1), some (ym_J b), none, some (ym_I n), some (ym_I ((m : Int) - 1))], []) s
  | 0, s, hm, h3, h4, kr => by
    refine sg_8_33 (zy H) _ _ _ ⟨by decide, fun _ => kr s (zF_refl s) (by omega) (fun j j0 j1 => h4 j j0 (by omega)), fun w => by exfalso; omega⟩
  | m + 1, s, hm, h3, h4, kr => by
    have ha : ym_in (ym_and (ym_l2i (ym_lus b (8 * (((m + 1 : Nat) : Int) - 1)))) 255) := by
      rw [zn_255g]
      omega
    refine sg_8_33 (zy H) _ _ _ ⟨⟨by omega, by omega⟩, fun w => by exfalso; omega, fun _ => sg_44_0 (zy (zk H)) _ ?_⟩
    rw [h3]
    refine ⟨fun _ => ⟨⟨by omega, by omega⟩, ha, ⟨by omega, by omega⟩, ym_rt_cons (sg_8_57 (zy H) _ _ _ ?_)⟩, fun w => by exfalso; omega⟩
    rw [show ((m + 1 : Nat) : Int) - 1 + -1 = (m : Int) - 1 by omega]
    have hf : zF 3 4 s (ym_wI (ym_wI s 4 (N + (n - ((m + 1 : Nat) : Int))) (ym_and (ym_l2i (ym_lus b (8 * (((m + 1 : Nat) : Int) - 1)))) 255)) 3 1 (N + (n - ((m + 1 : Nat) : Int)) + 1)) := zF_trans (zF_wI (by decide) (by decide)) (zF_wI (by decide) (by decide))
    refine cc_8l H hn hN h0 hr m _ (by omega) (wI_e.trans (by omega)) (fun j j0 j1 => ?_) (fun s2 f1 f2 f3 => kr s2 (zF_trans hf f1) f2 f3)
    refine (wI_c (by decide)).trans ?_
    by_cases hj : j = N + (n - ((m + 1 : Nat) : Int))
    · rw [hj]
      refine wI_e.trans ?_
      rw [hr _ (by omega)]
      unfold zOc
      rw [show n - 1 - (N + (n - ((m + 1 : Nat) : Int)) - N) = ((m + 1 : Nat) : Int) - 1 by omega]
    · refine (wI_j hj).trans (h4 j j0 (by omega))
/-- what feeding leaves as it was -/
def zFd (s s2 : ym_S) : Prop := (∀ c, c ≠ 12 → c ≠ 26 → s2.1 c = s.1 c) ∧ s2.2 = s.2 ∧ s2.1 12 1 = s.1 12 1 ∧ s2.1 12 15 = s.1 12 15 ∧ s2.1 12 18 = s.1 12 18
theorem rc_99l (H : zh sc K 3) (hn : n ≤ 8) (hN : N + n ≤ 200) (h0 : 0 ≤ N) (hr : ∀ j, N ≤ j → r2 j = zOc b n (j - N)) : ∀ (m : Nat) (s : ym_S), (m : Int) ≤ n → s.1 12 16 = N + (n - m) → (∀ j, 0 ≤ j → j < N + (n - m) → s.1 26 j = r2 j) → (∀ s2, zFd s s2 → s2.1 12 16 = N + n → (∀ j, 0 ≤ j → j < N + n → s2.1 26 j = r2 j) → ym_Rt sc P K (some (ym_I 1)) s2) → ym_Go sc P K (99, 33, [some (ym_P 12), some (ym_J b), none, some (ym_I n), some (ym_I (n - m))], []) s
  | 0, s, hm, h3, h4, kr => by
    refine sg_99_33 (zy H) _ _ _ ⟨⟨by omega, by omega⟩, ⟨by omega, by omega⟩, fun w => by exfalso; omega, fun _ => kr s ⟨fun _ _ _ => rfl, rfl, rfl, rfl, rfl⟩ (by omega) (fun j j0 j1 => h4 j j0 (by omega))⟩
  | m + 1, s, hm, h3, h4, kr => by
    refine sg_99_33 (zy H) _ _ _ ?_
    rw [h3]
    refine ⟨⟨by omega, by omega⟩, ⟨by omega, by omega⟩, fun _ => ⟨⟨by omega, by omega⟩, ⟨by omega, by omega⟩, ?_⟩, fun w => by exfalso; omega⟩
    rw [show n - ((m + 1 : Nat) : Int) + 1 = n - (m : Int) by omega]
    refine rc_99l H hn hN h0 hr m _ (by omega) (wI_e.trans (by omega)) (fun j j0 j1 => ?_) (fun s2 f1 f2 f3 => kr s2 ?_ f2 f3)
    · refine (wI_c (by decide)).trans ?_
      by_cases hj : j = N + (n - ((m + 1 : Nat) : Int))
      · rw [hj]
        refine wI_e.trans ?_
        rw [hr _ (by omega)]
        unfold zOc
        rw [show n - 1 - (N + (n - ((m + 1 : Nat) : Int)) - N) = n - 1 - (n - ((m + 1 : Nat) : Int)) by omega]
      · refine (wI_j hj).trans (h4 j j0 (by omega))
    · obtain ⟨a, b', c, d, e⟩ := f1
      exact ⟨fun k k1 k2 => (a k k1 k2).trans ((wI_f k1).trans (wI_f k2)), b', c.trans ((wI_j (by decide)).trans (wI_c (by decide))), d.trans ((wI_j (by decide)).trans (wI_c (by decide))), e.trans ((wI_j (by decide)).trans (wI_c (by decide)))⟩
end
section
variable {sc : xm_S} {P : xm_O → xm_H → Prop} {K : List ym_F} {s : ym_S}
theorem st_7 (H : zh sc K 30) (hT : zTn s) (hI : zInv s) {b : Int64} {a : Int} (ha : ym_in a) (kr : ∀ v s2, stQ sc P s (99, 0, [some (ym_P 12), some (ym_J b), none, some (ym_I a), none], []) v s2 → ym_Rt sc P K (some (ym_I v)) s2) : ym_Go sc P K (8, 0, [some (ym_P 1), some (ym_J b), none, some (ym_I a), none], []) s := by
  have hI0 := hI
  obtain ⟨E, n, op, N, r, M, rr, hP, hC, hR⟩ := hI
  obtain ⟨o1, o2, o3⟩ := hP.2.2.2.1
  have h46 := hT.2
  have no : ¬ (1 ≤ a ∧ a ≤ 8 ∧ N + a ≤ 200) → ym_Rt sc P K (some (ym_I 0)) s := by
    intro w
    refine kr 0 s ⟨by decide, fun K2 H2 k => ?_⟩
    have k2 := k _ (zStay0 hT hI0 (zOld_r s)) (by show ym_n s ≤ _; omega) (by show ym_z s ≤ _; omega)
    refine sg_99_0 (zy H2) _ _ ?_
    rw [hR.2.2.2.1]
    exact ⟨ha, fun _ => k2, fun w1 => ⟨ha, fun _ => k2, fun w2 => ⟨⟨by omega, by omega⟩, fun _ => k2, fun w3 => by exfalso; omega⟩⟩⟩
  refine sg_8_0 (zy H) _ _ ?_
  rw [hC.2.2.1.1]
  refine ⟨ha, fun w => no (by omega), fun w1 => ⟨ha, fun w => no (by omega), fun w2 => ⟨⟨by omega, by omega⟩, fun w => no (by omega), fun w3 => ?_⟩⟩⟩
  obtain ⟨m, hm⟩ := zn_nat (show (0 : Int) ≤ a by omega)
  obtain ⟨r2, hr2⟩ : ∃ r2 : Int → Int, r2 = fun j => if j < N then r j else zOc b a (j - N) := ⟨_, rfl⟩
  have hrn : ∀ j, N ≤ j → r2 j = zOc b a (j - N) := fun j hj => by rw [hr2]; exact if_neg (by omega)
  have hro : ∀ j, j < N → r2 j = r j := fun j hj => by rw [hr2]; exact if_pos hj
  have key := cc_8l (sc := sc) (P := P) (K := K) (zm H (by omega)) w2 w3 o1 hrn m s (by omega) (by rw [hC.2.2.1.1]; omega) (fun j j0 j1 => by rw [hro j (by omega)]; exact hC.2.2.1.2 j j0 (by omega)) (fun s2 f1 f2 f3 => kr 1 s2 ⟨by decide, fun K2 H2 k => ?_⟩)
  · rw [show (m : Int) - 1 = a - 1 by omega] at key
    exact key
  · have hk : zKC s s2 := fun k k1 k2 => ⟨f1.1 k (by omega), f1.2.1 k (by omega)⟩
    have hR2 := zRI_C hR hk
    refine sg_99_0 (zy H2) _ _ ?_
    rw [hR2.2.2.2.1]
    refine ⟨ha, fun w => by exfalso; omega, fun _ => ⟨ha, fun w => by exfalso; omega, fun _ => ⟨⟨by omega, by omega⟩, fun w => by exfalso; omega, fun _ => ?_⟩⟩⟩
    have key2 := rc_99l (sc := sc) (P := P) (K := K2) (b := b) (zm H2 (by omega)) w2 w3 o1 hrn m (ym_wI s2 12 0 0) (by omega) ((wI_j (by decide)).trans (by rw [hR2.2.2.2.1]; omega)) (fun j j0 j1 => by rw [hro j (by omega)]; exact (wI_c (by decide)).trans (hR2.2.2.2.2.1 j j0 (by omega))) (fun s3 g1 g2 g3 => k s3 ?_ ?_ ?_)
    · rw [show a - (m : Int) = 0 by omega] at key2
      exact key2
    · obtain ⟨q1, q2, q3, q4, q5⟩ := g1
      obtain ⟨v1, v2, v3, v4, v5, v6, v7⟩ := hR2
      have g22 : s3.2.2 = s2.2.2 := by rw [q2]; rfl
      have row : ∀ k, k ≠ 12 → k ≠ 26 → s3.1 k = s2.1 k := fun k k1 k2 => (q1 k k1 k2).trans (wI_f k1)
      have row2 : ∀ k, k ≠ 12 → k ≠ 26 → ¬ (3 ≤ k ∧ k ≤ 4) → zAc s s3 k := fun k k1 k2 k3 => by
        refine ⟨(row k k1 k2).trans (f1.1 k k3), ?_, ?_, ?_⟩
        · rw [q2]
          exact f1.2.1 k k3
        · show s3.2.2.1 k = _
          rw [g22, f1.2.2]
        · show s3.2.2.2.1 k = _
          rw [g22, f1.2.2]
      refine zOct hT hP hC (fun k k1 k2 => row2 k (by omega) (by omega) (by omega)) (row2 2 (by decide) (by decide) (by decide)).2.2.1 (row2 1 (by decide) (by decide) (by decide)).2.2.1 (by rw [(row2 1 (by decide) (by decide) (by decide)).1]) ?_ (q3.trans ((wI_j (by decide)).trans v2)) (q4.trans ((wI_j (by decide)).trans v3)) ?_ (N2 := N + a) (r2 := r2) ⟨by omega, w3, fun j j0 j1 => ?_⟩ hP.2.2.2.2.1 (M2 := M) (rr2 := rr) ⟨?_, fun j j0 j1 => ?_⟩ ⟨g2, g3⟩ ?_ ⟨q5.trans ((wI_j (by decide)).trans v6), fun j j0 j1 => ?_⟩
      · unfold zRE
        rw [row 13 (by decide) (by decide), row 14 (by decide) (by decide), row 15 (by decide) (by decide), row 16 (by decide) (by decide), row 17 (by decide) (by decide), row 20 (by decide) (by decide), row 21 (by decide) (by decide), row 22 (by decide) (by decide), row 23 (by decide) (by decide), row 24 (by decide) (by decide), q2]
        exact v1
      · show ym_n s ≤ s3.2.2.2.2.1
        rw [g22, f1.2.2]
        exact Nat.le_refl _
      · by_cases hj : j < N
        · rw [hro j hj]
          exact o3 j j0 hj
        · rw [hrn j (by omega)]
          have := zOc_b b a (j - N)
          exact ⟨this.1, by omega⟩
      · rw [row 3 (by decide) (by decide)]; exact f2
      · rw [row 4 (by decide) (by decide)]; exact f3 j j0 j1
      · rw [(row2 5 (by decide) (by decide) (by decide)).1, (row2 6 (by decide) (by decide) (by decide)).1]
        exact hC.2.2.2.1
      · rw [row 27 (by decide) (by decide)]; exact v7 j j0 j1
    · have : ym_n s3 = ym_n s := by show s3.2.2.2.2.1 = _; rw [g1.2.1]; show s2.2.2.2.2.1 = _; rw [f1.2.2]
      omega
    · have : ym_z s3 = ym_z s := by show s3.2.2.2.2.2 = _; rw [g1.2.1]; show s2.2.2.2.2.2 = _; rw [f1.2.2]
      omega
theorem st_8 (hT : zTn s) (hI : zInv s) : zInv (ym_wI (ym_wI (ym_wI s 3 1 0) 12 0 0) 12 16 0) := by
  obtain ⟨E, n, op, N, r, M, rr, hP, hC, hR⟩ := hI
  obtain ⟨v1, v2, v3, v4, v5, v6, v7⟩ := hR
  refine zOct hT hP hC (fun k k1 k2 => ⟨(wI_f (by omega)).trans ((wI_f (by omega)).trans (wI_f (by omega))), rfl, rfl, rfl⟩) rfl rfl ((wI_c (by decide)).trans ((wI_c (by decide)).trans (wI_c (by decide)))) ?_ ((wI_j (by decide)).trans ((wI_j (by decide)).trans ((wI_c (by decide)).trans v2))) ((wI_j (by decide)).trans ((wI_j (by decide)).trans ((wI_c (by decide)).trans v3))) (Nat.le_refl _) (N2 := 0) (r2 := r) ⟨by decide, by decide, fun j j0 j1 => by exfalso; omega⟩ hP.2.2.2.2.1 (M2 := M) (rr2 := rr) ⟨?_, fun j j0 j1 => by exfalso; omega⟩ ⟨wI_e, fun j j0 j1 => by exfalso; omega⟩ ?_ ⟨?_, ?_⟩
  · exact v1
  · exact (wI_c (by decide)).trans ((wI_c (by decide)).trans wI_e)
  · exact hC.2.2.2.1
  · exact (wI_j (by decide)).trans ((wI_j (by decide)).trans ((wI_c (by decide)).trans v6))
  · exact v7
theorem st_10 (H : zh sc K 30) (hT : zTn s) (hin : ∀ c j, ym_in (s.1 c j)) (hI : zInv s) {a : Int} (ha : ym_in a) (kr : ∀ v s2, stQ sc P s (130, 0, [some (ym_P 12), some (ym_I a)], []) v s2 → ym_Rt sc P K (some (ym_I v)) s2) : ym_Go sc P K (11, 0, [some (ym_P 1), some (ym_I a)], []) s := by
  have hI0 := hI
  obtain ⟨E, n, op, N, r, M, rr, hP, hC, hR⟩ := hI
  obtain ⟨o1, o2⟩ := hP.2.2.2.2.1
  obtain ⟨v1, v2, v3, v4, v5, v6, v7⟩ := hR
  obtain ⟨c1, c2⟩ := hC.2.2.2.1
  have fin : ∀ v, ym_in v → v = (if a = (-1) then M else (if a < 0 then ((-1) : Int) else (if a < M then (s.1 27 a : Int) else (-1)))) → ym_Rt sc P K (some (ym_I v)) s := by
    intro v hv ev
    refine kr v s ⟨hv, fun K2 H2 k => ?_⟩
    have k2 := k _ (zStay0 hT hI0 (zOld_r s)) (by show ym_n s ≤ _; omega) (by show ym_z s ≤ _; omega)
    refine sg_130_0 (zy H2) _ ?_
    rw [v6, ← ev]
    exact ⟨⟨ha, fun _ => ⟨ha, fun _ => ⟨ha, fun _ => ⟨by omega, by omega⟩⟩⟩⟩, k2⟩
  refine sg_11_0 (zy H) _ (sg_43_0 (zy (zk H)) _ ?_)
  rw [c1]
  refine ⟨ha, fun e => ym_rt_cons (sg_11_8 (zy H) _ _ (fin M ⟨by omega, by omega⟩ (by rw [if_pos e]))), fun e => ⟨⟨ha, fun _ => ⟨ha, fun _ => ⟨by omega, by omega⟩⟩⟩, ym_rt_cons (sg_11_8 (zy H) _ _ (fin _ ?_ ?_))⟩⟩
  · split
    · decide
    · split
      · exact hin _ _
      · decide
  · rw [if_neg e]
    by_cases w1 : a < 0
    · rw [if_pos w1, if_pos w1]
    · rw [if_neg w1, if_neg w1]
      by_cases w2 : a < M
      · rw [if_pos w2, if_pos w2, c2 a (by omega) w2, v7 a (by omega) w2]
      · rw [if_neg w2, if_neg w2]
theorem st_11 (H : zh sc K 30) (hT : zTn s) (hin : ∀ c j, ym_in (s.1 c j)) (hI : zInv s) {a : Int} (ha : ym_in a) (kr : ∀ v s2, stQ sc P s (131, 0, [some (ym_P 12), some (ym_I a)], []) v s2 → ym_Rt sc P K (some (ym_I v)) s2) : ym_Go sc P K (12, 0, [some (ym_P 1), some (ym_I a)], []) s := by
  have hI0 := hI
  obtain ⟨E, n, op, N, r, M, rr, hP, hC, hR⟩ := hI
  obtain ⟨o1, o2, -⟩ := hP.2.2.2.1
  obtain ⟨v1, v2, v3, v4, v5, v6, v7⟩ := hR
  obtain ⟨c1, c2⟩ := hC.2.2.1
  have fin : ∀ v, ym_in v → v = (if a = (-1) then N else (if a < 0 then ((-1) : Int) else (if a < N then (s.1 26 a : Int) else (-1)))) → ym_Rt sc P K (some (ym_I v)) s := by
    intro v hv ev
    refine kr v s ⟨hv, fun K2 H2 k => ?_⟩
    have k2 := k _ (zStay0 hT hI0 (zOld_r s)) (by show ym_n s ≤ _; omega) (by show ym_z s ≤ _; omega)
    refine sg_131_0 (zy H2) _ ?_
    rw [v4, ← ev]
    exact ⟨⟨ha, fun _ => ⟨ha, fun _ => ⟨ha, fun _ => ⟨by omega, by omega⟩⟩⟩⟩, k2⟩
  refine sg_12_0 (zy H) _ (sg_43_0b (zy (zk H)) _ ?_)
  rw [c1]
  refine ⟨ha, fun e => ym_rt_cons (sg_12_8 (zy H) _ _ (fin N ⟨by omega, by omega⟩ (by rw [if_pos e]))), fun e => ⟨⟨ha, fun _ => ⟨ha, fun _ => ⟨by omega, by omega⟩⟩⟩, ym_rt_cons (sg_12_8 (zy H) _ _ (fin _ ?_ ?_))⟩⟩
  · split
    · decide
    · split
      · exact hin _ _
      · decide
  · rw [if_neg e]
    by_cases w1 : a < 0
    · rw [if_pos w1, if_pos w1]
    · rw [if_neg w1, if_neg w1]
      by_cases w2 : a < N
      · rw [if_pos w2, if_pos w2, c2 a (by omega) w2, v5 a (by omega) w2]
      · rw [if_neg w2, if_neg w2]
theorem st_12 (H : zh sc K 30) (hT : zTn s) (hI : zInv s) (kr : ∀ v s2, stQ sc P s (132, 0, [some (ym_P 12)], []) v s2 → ym_Rt sc P K (some (ym_I v)) s2) : ym_Go sc P K (13, 0, [some (ym_P 1), none], []) s := by
  have hI0 := hI
  obtain ⟨E, n, op, N, r, M, rr, hP, hC, hR⟩ := hI
  obtain ⟨p1, p2, p3, p4, p5, p6, p7, p8⟩ := hP
  have hn := p1.1
  obtain ⟨v1, v2, v3, v4, v5, v6, v7⟩ := hR
  have e22 : s.1 22 = E.1 22 := v1.2.2.2.2.2.2.2.1
  have fin : ∀ v, v = n + 32 * op + 1024 * E.1 22 16 → (op = 0 ∨ op = 16 ∨ op = 17 ∨ op = 20) → ym_Rt sc P K (some (ym_I v)) s := by
    intro v ev hop
    refine kr v s ⟨⟨by omega, by omega⟩, fun K2 H2 k => ?_⟩
    have k2 := k _ (zStay0 hT hI0 (zOld_r s)) (by show ym_n s ≤ _; omega) (by show ym_z s ≤ _; omega)
    refine sg_132_0 (zy H2) ?_
    rw [v2, v3, e22, ← ev]
    exact k2
  refine sg_13_0 (zy H) ?_
  rw [hC.1]
  rcases hC.2.2.2.2.1 with ⟨d1, d2⟩ | ⟨d, d1, d2⟩
  · have d1 : s.2.2.1 1 2 = none := d1
    rw [d1]
    exact ⟨fun _ => fin _ (by rw [d2, p6 d2]; omega) (Or.inl d2), fun q hq => by cases hq⟩
  · have d1 : s.2.2.1 1 2 = some d := d1
    obtain ⟨e1, e2, e3, e4, e5, -⟩ := d2
    rw [d1]
    refine ⟨fun w => (by cases w), fun q hq => ⟨fun w => (by cases w), fun q2 hq2 => ?_⟩⟩
    obtain rfl := Option.some.inj hq2
    refine ⟨e2, fun w => (by cases w), fun q3 hq3 => ?_⟩
    obtain rfl := Option.some.inj hq3
    exact ⟨e2, fin _ (by rw [e4, e5]; omega) (Or.inr e1)⟩
theorem st_13 (H : zh sc K 30) (hT : zTn s) (hin : ∀ c j, ym_in (s.1 c j)) (hI : zInv s) {a a2 : Int} (ha : ym_in a) (ha2 : ym_in a2) (kr : ∀ v s2, stQ sc P s (133, 0, [some (ym_P 12), some (ym_I a), some (ym_I a2)], []) v s2 → ym_Rt sc P K (some (ym_I v)) s2) : ym_Go sc P K (14, 0, [some (ym_P 1), some (ym_I a), some (ym_I a2), none], []) s := by
  have hI0 := hI
  obtain ⟨E, n, op, N, r, M, rr, hP, hC, hR⟩ := hI
  have hn := hP.1.1
  obtain ⟨v1, v2, v3, v4, v5, v6, v7⟩ := hR
  have e20 : s.1 20 = E.1 20 := v1.2.2.2.2.2.1
  have e21 : s.1 21 = E.1 21 := v1.2.2.2.2.2.2.1
  have stay : ∀ (K2 : List ym_F) (v : Int), (∀ s3, zInv s3 → ym_n s3 ≤ ym_n s + 5 → ym_z s3 ≤ ym_z s + 50 → ym_Rt sc P K2 (some (ym_I v)) s3) → ym_Rt sc P K2 (some (ym_I v)) (ym_wI s 12 0 0) := fun K2 v k => k _ (zStay0 hT hI0 (zOld_r s)) (by show ym_n s ≤ _; omega) (by show ym_z s ≤ _; omega)
  refine sg_14_0 (zy H) _ _ (cc_16 (zk (zm H (show 1 ≤ 30 by omega))) hn hC.1 hC.2.1 ha (fun w => ym_rt_cons (sg_14_5 (zy H) _ _ (kr _ s ⟨by decide, fun K2 H2 k => ?_⟩))) (fun c h0 h1 hc => ym_rt_cons (sg_14_5b (zy H) _ _ _ ?_)))
  · refine sg_133_0 (zy H2) _ _ (rc_85 (zk (zm H2 (show 1 ≤ 30 by omega))) ((wI_j (by decide)).trans v2) ha (fun _ => ym_rt_cons (sg_133_10 (zy H2) _ _ _ ⟨⟨by decide, fun z => absurd rfl z⟩, ?_⟩)) (fun g1 g2 => by exfalso; omega))
    rw [if_pos rfl]
    exact stay K2 _ k
  · obtain ⟨c', hc', hct⟩ := hC.2.1 a h0 h1
    obtain rfl : c = c' := Option.some.inj (hc.symm.trans hc')
    obtain ⟨t1, t2, t3, t4, t5, t6, t7, t8, t9, t10, t11⟩ := hct
    obtain ⟨f1, f2, f3, -⟩ := zWf_of hP.1 h0 h1
    have ref : ∀ v, ym_in v → v = (if a2 < 0 then (-1 : Int) else if a2 < E.1 20 a then E.1 21 (96 * a + a2) else -1) → ym_Rt sc P K (some (ym_I v)) s := by
      intro v hv ev
      refine kr _ s ⟨hv, fun K2 H2 k => ?_⟩
      have k2 := stay K2 _ k
      refine sg_133_0 (zy H2) _ _ (rc_85 (zk (zm H2 (show 1 ≤ 30 by omega))) ((wI_j (by decide)).trans v2) ha (fun _ => by exfalso; omega) (fun g1 g2 => ym_rt_cons (sg_133_10 (zy H2) _ _ _ ?_)))
      have r20 : (ym_wI s 12 0 0).1 20 = E.1 20 := (wI_f (by decide)).trans e20
      have r21 : (ym_wI s 12 0 0).1 21 = E.1 21 := (wI_f (by decide)).trans e21
      rw [r20, r21, if_neg (by decide), ← ev]
      exact ⟨⟨by decide, fun _ => ⟨ha2, fun _ => ⟨⟨h0, by omega⟩, ha2, fun _ => ⟨by omega, by omega⟩⟩⟩⟩, k2⟩
    have t9' : s.2.2.1 c 7 = some (c + 1) := t9
    rw [t9']
    refine ⟨ha2, fun w => ref _ (by decide) (by rw [if_pos w]), fun w => ⟨t1, fun z => (by cases z), fun q hq => ?_⟩⟩
    obtain rfl := Option.some.inj hq
    refine ⟨_, t10, ha2, ⟨by omega, by omega⟩, fun w2 => ⟨fun z => (by cases z), fun q2 hq2 => ?_⟩, fun w2 => ref _ (by decide) ?_⟩
    · obtain rfl := Option.some.inj hq2
      refine ⟨_, t10, ⟨w, w2⟩, ref _ (hin _ _) ?_⟩
      rw [if_neg (by omega), if_pos (by omega)]
      exact t11 a2 w (by omega)
    · rw [if_neg (by omega), if_neg (by omega)]
end
