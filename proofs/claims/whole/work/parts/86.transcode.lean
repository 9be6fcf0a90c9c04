/-! transcode and open on both sides: own work. -/
def stT (sc : xm_S) (P : xm_O → xm_H → Prop) (s : ym_S) (a v : Int) (s2 : ym_S) : Prop := ym_in v ∧ ∀ K2, zh sc K2 30 → (∀ b s3, zInv s3 → ym_n s3 ≤ ym_n s + 5 → ym_z s3 ≤ ym_z s + 50 → s3.1 12 0 = v → (v = 0 → ym_cmp (s3.2.1 45 0) (ym_i2l b) = 0) → ym_Rt sc P K2 (some (ym_I b)) s3) → ym_Go sc P K2 (129, 0, [some (ym_P 12), some (ym_I a), none], []) s2
theorem ym_cmp_self (x : Int64) : ym_cmp x x = 0 := by
  unfold ym_cmp
  rw [if_neg (by simp), if_pos rfl]
section
variable {sc : xm_S} {P : xm_O → xm_H → Prop} {K : List ym_F} {s : ym_S}
theorem zOld_ex (s : ym_S) : zOld s (ym_ex s) := ⟨fun _ _ => ⟨rfl, rfl, rfl, rfl⟩, by show ym_n s ≤ ym_n s + 1; omega⟩
theorem zKR_G {s2 s3 : ym_S} (h : zG s2 s3) : zKR s2 s3 := ⟨fun k hk => ⟨h.1 k (by omega) (by omega), by rw [h.2.1]⟩, by rw [h.2.1]⟩
theorem zRE_G {E : zEnv} {s2 s3 : ym_S} (h : zG s2 s3) (hE : zRE s2 E) : zRE s3 E := by
  unfold zRE
  rw [h.1 13 (by decide) (by decide), h.1 14 (by decide) (by decide), h.1 15 (by decide) (by decide), h.1 16 (by decide) (by decide), h.1 17 (by decide) (by decide), h.1 20 (by decide) (by decide), h.1 21 (by decide) (by decide), h.1 22 (by decide) (by decide), h.1 23 (by decide) (by decide), h.1 24 (by decide) (by decide), h.2.1]
  exact hE
theorem st_9 (H : zh sc K 60) (hT : zTn s) (hI : zInv s) {a : Int} (ha : ym_in a) (kr : ∀ v s2, stT sc P s a v s2 → ym_Rt sc P K (some (ym_I v)) s2) : ym_Go sc P K (134, 0, [some (ym_P 1), some (ym_I a), some (ym_P 45), none], []) s := by
  have hI0 := hI
  obtain ⟨E, n, op, N, r, M, rr, hP, hC, hR⟩ := hI
  obtain ⟨o1, o2, o3⟩ := hP.2.2.2.1
  obtain ⟨c1, c2, c3, c4, c5, c6⟩ := id hC
  have h46 := hT.2
  refine cc_134 (zm H (by omega)) hP.1 c2 c1 c3.1 o1 o2 o3 c3.2 ha (fun w => kr 1 _ ⟨by decide, fun K2 H2 k => ?_⟩) (fun a0 a1 hz s2 hF => kr 2 _ ⟨by decide, fun K2 H2 k => ?_⟩) (fun a0 a1 l hz s2 hF f1 f2 f3 => kr 0 _ ⟨by decide, fun K2 H2 k => ?_⟩)
  · have hR2 := zRI_C hR (zKC_o (zOld_ex s) h46)
    refine rc_129 (zm H2 (by omega)) hR2.1 hP.1 hR2.2.1 hR2.2.2.2.1 o1 o2 o3 hR2.2.2.2.2.1 ha (fun _ => k 0 _ ?_ ?_ ?_ wI_e (fun z => absurd z (by decide))) (fun z0 z1 => by exfalso; omega) (fun z0 z1 => by exfalso; omega)
    · exact zStay hT hI0 (zOld_ex s) (zKR_w (zKR_r _) (by decide) (by decide)) (fun k k1 k2 => ⟨wI_f (by omega), rfl⟩) ⟨wI_j (by decide), wI_j (by decide), wI_j (by decide), wI_j (by decide)⟩
    · show ym_n s + 1 ≤ _; omega
    · show ym_z s + 6 ≤ _; omega
  · have hk : zKC s (ym_ex s2) := fun k k1 k2 => ⟨hF.1 k (by omega), hF.2.1 k (by omega)⟩
    have hR2 := zRI_C hR hk
    obtain ⟨v1, v2, v3, v4, v5, v6, v7⟩ := hR2
    refine rc_129 (zm H2 (by omega)) v1 hP.1 v2 v4 o1 o2 o3 v5 ha (fun _ => by exfalso; omega) (fun _ _ _ s3 hG g0 g18 g27 => k 0 s3 ?_ ?_ ?_ g0 (fun z => absurd z (by decide))) (fun _ _ y hy => by rw [hz] at hy; cases hy)
    · have e22 : s3.2.2 = (ym_ex s2).2.2 := by rw [hG.2.1]
      have row : ∀ k, k < 7 ∨ 46 ≤ k → zAc s s3 k := fun k k1 => by
        refine ⟨(hG.1 k (by omega) (by omega)).trans (hF.1 k (by omega)), ?_, ?_, ?_⟩
        · rw [hG.2.1]; exact hF.2.1 k (by omega)
        · show s3.2.2.1 k = _; rw [e22]; show s2.2.2.1 k = _; rw [hF.2.2]
        · show s3.2.2.2.1 k = _; rw [e22]; show s2.2.2.2.1 k = _; rw [hF.2.2]
      refine zOct hT hP hC (fun k k1 k2 => row k (Or.inr k1)) (row 2 (by decide)).2.2.1 (row 1 (by decide)).2.2.1 (by rw [(row 1 (by decide)).1]) (zRE_G hG v1) (hG.2.2.1.trans v2) (hG.2.2.2.1.trans v3) ?_ (N2 := N) (r2 := r) hP.2.2.2.1 hP.2.2.2.2.1 (M2 := M) (rr2 := rr) ?_ ⟨hG.2.2.2.2.trans v4, ?_⟩ ?_ ⟨g18.trans v6, ?_⟩
      · show ym_n s ≤ s3.2.2.2.2.1; rw [e22]; show ym_n s ≤ s2.2.2.2.2.1 + 1; rw [hF.2.2]; exact Nat.le_succ _
      · rw [(row 3 (by decide)).1, (row 4 (by decide)).1]; exact c3
      · rw [hG.1 26 (by decide) (by decide)]; exact v5
      · rw [(row 5 (by decide)).1, (row 6 (by decide)).1]; exact c4
      · rw [g27]; exact v7
    · have : ym_n s3 = ym_n s + 1 := by show s3.2.2.2.2.1 = _; rw [hG.2.1]; show s2.2.2.2.2.1 + 1 = _; rw [hF.2.2]
      omega
    · have : ym_z s3 = ym_z s + 6 := by show s3.2.2.2.2.2 = _; rw [hG.2.1]; show s2.2.2.2.2.2 + 6 = _; rw [hF.2.2]
      omega
  · have hk : zKC s (ym_wJ s2 45 0 (ym_i2l l.length)) := fun k k1 k2 => ⟨hF.1 k (by omega), (u_f (by omega)).trans (hF.2.1 k (by omega))⟩
    have hR2 := zRI_C hR hk
    obtain ⟨v1, v2, v3, v4, v5, v6, v7⟩ := hR2
    refine rc_129 (zm H2 (by omega)) v1 hP.1 v2 v4 o1 o2 o3 v5 ha (fun _ => by exfalso; omega) (fun _ _ hy => by rw [hz] at hy; cases hy) (fun _ _ y hy hyl s3 hG g0 g18 g27 => k _ s3 ?_ ?_ ?_ g0 (fun _ => ?_))
    · obtain rfl : l = y := Option.some.inj (hz.symm.trans hy)
      have e22 : s3.2.2 = s2.2.2 := by rw [hG.2.1]; rfl
      have row : ∀ k, k < 5 ∨ 46 ≤ k → zAc s s3 k := fun k k1 => by
        refine ⟨(hG.1 k (by omega) (by omega)).trans (hF.1 k (by omega)), ?_, ?_, ?_⟩
        · rw [hG.2.1]; exact (u_f (by omega)).trans (hF.2.1 k (by omega))
        · show s3.2.2.1 k = _; rw [e22]; show s2.2.2.1 k = _; rw [hF.2.2]
        · show s3.2.2.2.1 k = _; rw [e22]; show s2.2.2.2.1 k = _; rw [hF.2.2]
      have r5 : s3.1 5 = s2.1 5 := hG.1 5 (by decide) (by decide)
      have r6 : s3.1 6 = s2.1 6 := hG.1 6 (by decide) (by decide)
      refine zOct hT hP hC (fun k k1 k2 => row k (Or.inr k1)) (row 2 (by decide)).2.2.1 (row 1 (by decide)).2.2.1 (by rw [(row 1 (by decide)).1]) (zRE_G hG v1) (hG.2.2.1.trans v2) (hG.2.2.2.1.trans v3) ?_ (N2 := N) (r2 := r) hP.2.2.2.1 (M2 := l.length) (rr2 := s3.1 27) ⟨by omega, hyl⟩ ?_ ⟨hG.2.2.2.2.trans v4, ?_⟩ ⟨?_, fun j j0 j1 => ?_⟩ ⟨g18, fun _ _ _ => rfl⟩
      · show ym_n s ≤ s3.2.2.2.2.1; rw [e22]; show ym_n s ≤ s2.2.2.2.2.1; rw [hF.2.2]; exact Nat.le_refl _
      · rw [(row 3 (by decide)).1, (row 4 (by decide)).1]; exact c3
      · rw [hG.1 26 (by decide) (by decide)]; exact v5
      · rw [r5]; exact f1
      · obtain ⟨i, rfl⟩ := zn_nat j0
        have hi : i < l.length := by omega
        have x1 := zr_get f2 i hi
        have x2 := zr_get g27 i hi
        rw [Int.zero_add] at x1 x2
        rw [r6, x1, x2]
    · have : ym_n s3 = ym_n s := by show s3.2.2.2.2.1 = _; rw [hG.2.1]; show s2.2.2.2.2.1 = _; rw [hF.2.2]
      omega
    · have : ym_z s3 = ym_z s := by show s3.2.2.2.2.2 = _; rw [hG.2.1]; show s2.2.2.2.2.2 = _; rw [hF.2.2]
      omega
    · obtain rfl : l = y := Option.some.inj (hz.symm.trans hy)
      have : s3.2.1 45 0 = ym_i2l l.length := by
        rw [hG.2.1]
        show ym_u s2.2.1 45 0 (ym_i2l l.length) 45 0 = _
        exact ym_u_eq
      rw [this]
      exact ym_cmp_self _
/-- a new draft -/
def zOp (s : ym_S) (a : Int) : ym_S := ym_wI (ym_wI (ym_wR (ym_mk (ym_wR (ym_mk (ym_wR (ym_mk (ym_mk s 6 0 5) 3 6 6) (ym_n s) 1 (some (ym_n s + 1))) 0 6 6) (ym_n s) 2 (some (ym_n s + 2))) 1 6 6) (ym_n s) 3 (some (ym_n s + 3))) (ym_n s) 4 0) (ym_n s) 0 a
theorem zOp_T (s : ym_S) (a : Int) (k : Nat) : ym_T (zOp s a) k = bif Nat.beq k (ym_n s + 3) then some (1, 6) else bif Nat.beq k (ym_n s + 2) then some (0, 6) else bif Nat.beq k (ym_n s + 1) then some (3, 6) else bif Nat.beq k (ym_n s) then some (6, 0) else ym_T s k := rfl
theorem zOp_old (s : ym_S) (a : Int) : zOld s (zOp s a) := by
  refine zOld_wI (zOld_wI (zOld_wR (zOld_t (zOld_wR (zOld_t (zOld_wR (zOld_t (zOld_mk s 6 0 5) (zOld_mk _ 3 6 6)) (Nat.le_refl _)) (zOld_mk _ 0 6 6)) (Nat.le_refl _)) (zOld_mk _ 1 6 6)) (Nat.le_refl _)) (Nat.le_refl _)) (Nat.le_refl _)
theorem zOp_ok (s : ym_S) (a : Int) : ym_T (zOp s a) (ym_n s) = some (6, 0) ∧ (zOp s a).1 (ym_n s) 0 = a ∧ (zOp s a).1 (ym_n s) 4 = 0 ∧ ym_R (zOp s a) (ym_n s) 1 = some (ym_n s + 1) ∧ ym_T (zOp s a) (ym_n s + 1) = some (3, 6) ∧ ym_R (zOp s a) (ym_n s) 2 = some (ym_n s + 2) ∧ ym_T (zOp s a) (ym_n s + 2) = some (0, 6) ∧ ym_R (zOp s a) (ym_n s) 3 = some (ym_n s + 3) ∧ ym_T (zOp s a) (ym_n s + 3) = some (1, 6) := by
  refine ⟨?_, wI_e, ?_, ?_, ?_, ?_, ?_, ?_, ?_⟩
  · rw [zOp_T, zb_ne (by omega), zb_ne (by omega), zb_ne (by omega), zb_eq]; rfl
  · exact (wI_j (by decide)).trans wI_e
  · show ym_u (ym_u (ym_u s.2.2.1 (ym_n s) 1 (some (ym_n s + 1))) (ym_n s) 2 (some (ym_n s + 2))) (ym_n s) 3 (some (ym_n s + 3)) (ym_n s) 1 = _
    rw [ym_u_jn (by decide), ym_u_jn (by decide), ym_u_eq]
  · rw [zOp_T, zb_ne (by omega), zb_ne (by omega), zb_eq]; rfl
  · show ym_u (ym_u (ym_u s.2.2.1 (ym_n s) 1 (some (ym_n s + 1))) (ym_n s) 2 (some (ym_n s + 2))) (ym_n s) 3 (some (ym_n s + 3)) (ym_n s) 2 = _
    rw [ym_u_jn (by decide), ym_u_eq]
  · rw [zOp_T, zb_ne (by omega), zb_eq]; rfl
  · exact ym_u_eq
  · rw [zOp_T, zb_eq]
theorem st_4 (H : zh sc K 30) (hT : zTn s) (hI : zInv s) {a : Int} (ha : ym_in a) (kr : ∀ v s2, stQ sc P s (92, 0, [some (ym_P 12), some (ym_I a)], []) v s2 → ym_Rt sc P K (some (ym_I v)) s2) : ym_Go sc P K (5, 0, [some (ym_P 1), some (ym_I a)], []) s := by
  have hI0 := hI
  obtain ⟨E, n, op, N, r, M, rr, hP, hC, hR⟩ := hI
  obtain ⟨c1, c2, c3, c4, c5, c6⟩ := id hC
  obtain ⟨p1, p2, p3, p4, p5, p6, p7, p8⟩ := id hP
  have hn := p1.1
  have h46 := hT.2
  have yes : (a = 16 ∨ a = 17 ∨ a = 20) → ym_Go sc P ((5, 26, [some (ym_P 1), some (ym_I a)], [ym_Q (ym_n s), ym_P 1]) :: K) (34, 0, [some (ym_Q (ym_n s)), some (ym_I a)], []) (ym_mk s 6 0 5) := by
    intro hk
    obtain ⟨z1, z2, z3, z4, z5, z6, z7, z8, z9⟩ := zOp_ok s a
    have T1 : ym_T (ym_mk (ym_mk s 6 0 5) 3 (Int.toNat 6) (Int.toNat 6)) (ym_n s) = some (6, 0) := by
      show (bif Nat.beq (ym_n s) (ym_n s + 1) then _ else bif Nat.beq (ym_n s) (ym_n s) then some (6, 0) else _) = _
      rw [zb_ne (by omega), zb_eq]; rfl
    have T2 : ym_T (ym_mk (ym_mk (ym_mk s 6 0 5) 3 (Int.toNat 6) (Int.toNat 6)) 0 (Int.toNat 6) (Int.toNat 6)) (ym_n s) = some (6, 0) := by
      show (bif Nat.beq (ym_n s) (ym_n s + 2) then _ else bif Nat.beq (ym_n s) (ym_n s + 1) then _ else bif Nat.beq (ym_n s) (ym_n s) then some (6, 0) else _) = _
      rw [zb_ne (by omega), zb_ne (by omega), zb_eq]; rfl
    have T3 : ym_T (ym_mk (ym_mk (ym_mk (ym_mk s 6 0 5) 3 (Int.toNat 6) (Int.toNat 6)) 0 (Int.toNat 6) (Int.toNat 6)) 1 (Int.toNat 6) (Int.toNat 6)) (ym_n s) = some (6, 0) := by
      show (bif Nat.beq (ym_n s) (ym_n s + 3) then _ else bif Nat.beq (ym_n s) (ym_n s + 2) then _ else bif Nat.beq (ym_n s) (ym_n s + 1) then _ else bif Nat.beq (ym_n s) (ym_n s) then some (6, 0) else _) = _
      rw [zb_ne (by omega), zb_ne (by omega), zb_ne (by omega), zb_eq]; rfl
    refine sg_34_0 (zy (zk H)) _ _ ⟨T1, h46, T2, h46, T3, h46, ha, ?_⟩
    have go : ym_Rt sc P ((5, 26, [some (ym_P 1), some (ym_I a)], [ym_Q (ym_n s), ym_P 1]) :: K) none (zOp s a) := by
      refine ym_rt_cons (sg_5_29 (zy H) _ _ (kr 1 _ ⟨by decide, fun K2 H2 k => ?_⟩))
      obtain ⟨s2, hs2⟩ : ∃ s2, s2 = ym_wR (zOp s a) 1 2 (some (ym_n s)) := ⟨_, rfl⟩
      rw [← hs2]
      have ho := zOp_old s a
      have rows : ∀ k, k < ym_n s → s2.1 k = s.1 k ∧ s2.2.1 k = s.2.1 k ∧ ym_T s2 k = ym_T s k ∧ (k ≠ 1 → ym_R s2 k = ym_R s k) := fun k hk => by
        obtain ⟨a1, a2, a3, a4⟩ := ho.1 k hk
        rw [hs2]
        exact ⟨a1, a2, a4, fun k1 => (u_f k1).trans a3⟩
      have fin : ym_Rt sc P K2 (some (ym_I 1)) (ym_wI (ym_wI (ym_wI s2 12 0 0) 12 15 a) 22 16 0) := by
        obtain ⟨s3, hs3⟩ : ∃ s3, s3 = ym_wI (ym_wI (ym_wI s2 12 0 0) 12 15 a) 22 16 0 := ⟨_, rfl⟩
        rw [← hs3]
        have hKR : zKR s2 s3 := by
          rw [hs3]
          exact zKR_w (zKR_w (zKR_w (zKR_r _) (by decide) (by decide)) (by decide) (by decide)) (by decide) (by decide)
        obtain ⟨n1, n2⟩ := zCnt hKR
        have n3 : ym_n s2 = ym_n s + 4 := by rw [hs2]; rfl
        have n4 : ym_z s2 = ym_z s + 23 := by rw [hs2]; rfl
        refine k s3 ?_ (by omega) (by omega)
        have hk2 : zKC s s2 := fun k k1 k2 => ⟨(rows k (by omega)).1, (rows k (by omega)).2.1⟩
        have hR2 := zRI_C hR hk2
        obtain ⟨v1, v2, v3, v4, v5, v6, v7⟩ := hR2
        have r12 : ∀ k, k ≠ 12 → k ≠ 22 → s3.1 k = s2.1 k := fun k k1 k2 => by
          rw [hs3]
          exact (wI_f k2).trans ((wI_f k1).trans (wI_f k1))
        have hA0 : zAg (s2.1, s2.2.1) (s3.1, s3.2.1) n := by
          refine ⟨fun k hk j j0 j1 => ?_, fun j _ _ => ?_, fun j _ _ => ⟨?_, ?_, ?_⟩, fun j _ _ => ⟨?_, ?_⟩⟩
          · show s3.1 k j = s2.1 k j
            rw [hs3]
            exact (wI_j (by omega)).trans ((wI_c (by omega)).trans (wI_c (by omega)))
          · show s3.1 21 j = s2.1 21 j; rw [r12 21 (by decide) (by decide)]
          · show s3.1 23 j = s2.1 23 j; rw [r12 23 (by decide) (by decide)]
          · show s3.1 24 j = s2.1 24 j; rw [r12 24 (by decide) (by decide)]
          · show s3.2.1 25 j = s2.2.1 25 j; rw [hs3]; rfl
          · show s3.2.1 18 j = s2.2.1 18 j; rw [hs3]; rfl
          · show s3.2.1 19 j = s2.2.1 19 j; rw [hs3]; rfl
        have hA : zAg E (s3.1, s3.2.1) n := zAg_of hR.1 hk2 hA0
        have hcells : ∀ k, 46 ≤ k → k < ym_n s → zAc s s3 k := fun k k1 k2 => by
          obtain ⟨a1, a2, a3, a4⟩ := rows k k2
          exact zAc_t ⟨a1, a2, a4 (by omega), a3⟩ (zAc_KR hKR (by omega))
        have hR2' : ym_R s3 2 = ym_R s 2 := by
          rw [(zAc_KR hKR (k := 2) (by omega)).2.2.1]
          exact (rows 2 (by omega)).2.2.2 (by decide)
        have hRef : ∀ j, 0 ≤ j → j < n → ym_R s3 2 j = ym_R s 2 j := fun j _ _ => by rw [hR2']
        have g22 : s3.1 22 16 = 0 := by rw [hs3]; exact wI_e
        have small : ∀ k, k < 12 → s3.1 k = s.1 k := fun k k1 => by
          rw [(zAc_KR hKR (k := k) (by omega)).1]
          exact (rows k (by omega)).1
        have new : ∀ k, ym_n s ≤ k → s3.1 k = (zOp s a).1 k ∧ ym_R s3 k = ym_R (zOp s a) k ∧ ym_T s3 k = ym_T (zOp s a) k := fun k k1 => by
          have q := zAc_KR hKR (k := k) (by omega)
          rw [q.1, q.2.2.1, q.2.2.2, hs2]
          exact ⟨rfl, u_f (by omega), rfl⟩
        have sixes : ∀ t c q, 0 ≤ t → t < n → ym_R s3 2 t = some c → ym_R s3 c 6 = some q → q < ym_n s := fun t c q t0 t1 hc hq => by
          rw [hRef t t0 t1] at hc
          obtain ⟨c', hc', hct'⟩ := c2 t t0 t1
          obtain rfl : c = c' := Option.some.inj (hc.symm.trans hc')
          rw [(hcells c hct'.2.1 (hT.1 _ _ hct'.1)).2.2.1] at hq
          exact c6 t c q t0 t1 hc hq
        refine ⟨(s3.1, s3.2.1), n, a, N, r, M, rr, ⟨⟨hn, fun t t0 t1 => zAg_wt hA p1 t0 t1⟩, fun t t0 t1 => zFs_tr hA p1 t0 t1 (p2 t t0 t1), p3, p4, p5, fun w => g22, ?_, fun k k0 k1 => ?_⟩, ⟨?_, zCl_tr hT hA p1 hcells hRef c2, ?_, ?_, Or.inr ⟨ym_n s, ?_, hk, ?_⟩, fun t c q t0 t1 hc hq => ?_⟩, ⟨⟨rfl, rfl, rfl, rfl, rfl, rfl, rfl, rfl, rfl, rfl, rfl, rfl, rfl⟩, ?_, ?_, ?_, ?_, ?_, ?_⟩⟩
        · show 0 ≤ s3.1 22 16 ∧ s3.1 22 16 ≤ 6; omega
        · have k1 : k < s3.1 22 16 := k1
          exfalso; omega
        · rw [small 1 (by decide)]; exact c1
        · rw [small 3 (by decide), small 4 (by decide)]; exact c3
        · rw [small 5 (by decide), small 6 (by decide)]; exact c4
        · rw [(zAc_KR hKR (k := 1) (by omega)).2.2.1, hs2]
          show ym_u (zOp s a).2.2.1 1 2 (some (ym_n s)) 1 2 = _
          exact ym_u_eq
        · rw [(new (ym_n s) (Nat.le_refl _)).1, (new (ym_n s) (Nat.le_refl _)).2.1, (new (ym_n s) (Nat.le_refl _)).2.2, (new (ym_n s + 1) (by omega)).2.2, (new (ym_n s + 2) (by omega)).2.2, (new (ym_n s + 3) (by omega)).2.2]
          refine ⟨z1, h46, z2, z3.trans g22.symm, z4, z5, z6, z7, z8, z9, fun k k0 k1 => ?_, fun t c t0 t1 hc hq => ?_⟩
          · have k1 : k < s3.1 22 16 := k1
            exfalso; omega
          · have := sixes t c _ t0 t1 hc hq
            omega
        · have := sixes t c q t0 t1 hc hq
          omega
        · rw [hs3]; exact (wI_c (by decide)).trans ((wI_j (by decide)).trans ((wI_j (by decide)).trans v2))
        · rw [hs3]; exact (wI_c (by decide)).trans wI_e
        · rw [hs3]; exact (wI_c (by decide)).trans ((wI_j (by decide)).trans ((wI_j (by decide)).trans v4))
        · rw [r12 26 (by decide) (by decide)]; exact v5
        · rw [hs3]; exact (wI_c (by decide)).trans ((wI_j (by decide)).trans ((wI_j (by decide)).trans v6))
        · rw [r12 27 (by decide) (by decide)]; exact v7
      refine sg_92_0 (zy H2) _ ⟨ha, fun _ => ⟨ha, fin⟩, fun n1 => ⟨ha, fun _ => ⟨ha, fin⟩, fun n2 => ⟨ha, fun _ => ⟨ha, fin⟩, fun n3 => ?_⟩⟩⟩
      exfalso
      omega
    exact go
  refine sg_5_0 (zy H) _ ⟨ha, fun w => yes (Or.inl w), fun n1 => ⟨ha, fun w => yes (Or.inr (Or.inl w)), fun n2 => ⟨ha, fun w => yes (Or.inr (Or.inr w)), fun n3 => kr 0 s ⟨by decide, fun K2 H2 k => ?_⟩⟩⟩⟩
  have k2 := k _ (zStay0 hT hI0 (zOld_r s)) (by show ym_n s ≤ _; omega) (by show ym_z s ≤ _; omega)
  exact sg_92_0 (zy H2) _ ⟨ha, fun w => absurd w n1, fun _ => ⟨ha, fun w => absurd w n2, fun _ => ⟨ha, fun w => absurd w n3, fun _ => k2⟩⟩⟩
end
