/-! Both sides make a type: own work. -/
def stQ (sc : xm_S) (P : xm_O → xm_H → Prop) (s : ym_S) (f : ym_F) (v : Int) (s2 : ym_S) : Prop := ym_in v ∧ ∀ K2, zh sc K2 30 → (∀ s3, zInv s3 → ym_n s3 ≤ ym_n s + 5 → ym_z s3 ≤ ym_z s + 50 → ym_Rt sc P K2 (some (ym_I v)) s3) → ym_Go sc P K2 f s2
section
variable {E E2 : zEnv} {s s3 : ym_S} {n : Int} {c : Nat} {fo tg b : Int} {lo hi : Int64} {i m : Option Nat}
theorem zTy_KR {s2 : ym_S} {L : List Int} (h : zKR s2 s3) (hT : zTy s2 c fo tg b lo hi i m L) : zTy s3 c fo tg b lo hi i m L := by
  have h46 := hT.2.1
  have a := zAc_KR h (k := c) (by omega)
  have b' := zAc_KR h (k := c + 1) (by omega)
  unfold zTy
  rw [a.1, a.2.1, a.2.2.1, a.2.2.2, b'.1, b'.2.2.2]
  exact hT
theorem zFs_1 (h20 : E.1 20 n = 1) (h21 : E.1 21 (96 * n) = E.1 14 n) (hn : 0 ≤ n) : zFs1 E n := by
  unfold zFs1
  rw [h20]
  refine ⟨fun i j i0 ij j1 => by exfalso; omega, fun j j0 j1 => ⟨n, hn, Int.le_refl _, ?_⟩⟩
  rw [show j = 0 by omega, Int.add_zero]
  exact h21.symm
theorem zWf_1 (h20 : E.1 20 n = 1) (h21 : E.1 21 (96 * n) = E.1 14 n) (h14 : 0 ≤ E.1 14 n ∧ E.1 14 n < 8388608) : zWf E n := by
  unfold zWf
  rw [h20]
  refine ⟨by decide, by decide, fun j j0 j1 => ?_, fun _ => ⟨rfl, h21⟩⟩
  rw [show j = 0 by omega, Int.add_zero, h21]
  exact h14
theorem zCt_n (hT : zTy s c fo tg b lo hi i m [tg]) (hch : eCh E n = false) (h14 : E.1 14 n = tg) (h20 : E.1 20 n = 1) (h21 : E.1 21 (96 * n) = tg) (g1 : fo = zFo E (eCo E 17 n)) (g2 : b = if E.1 13 (eCo E 17 n) = 0 then E.1 17 (eCo E 17 n) else 0) (g3 : E.1 13 (eCo E 17 n) = 0 → E.1 17 (eCo E 17 n) ≠ 0 → lo = E.2 18 (eCo E 17 n) ∧ hi = E.2 19 (eCo E 17 n)) (g4 : (E.1 13 (eCo E 17 n) = 2 ∨ E.1 13 (eCo E 17 n) = 3) → i = ym_R s 2 (E.1 16 (eCo E 17 n))) (g5 : E.1 13 (eCo E 17 n) = 4 → ∃ mm, m = some mm ∧ zMb E s (eCo E 17 n) mm) : zCt E s n c := by
  obtain ⟨t1, t2, t3, t4, t5, t6, t7, t8, t9, t10, t11, t12⟩ := hT
  refine ⟨t1, t2, t3.trans g1, ?_, t5.trans g2, ?_, ?_, ?_, t10, ?_, fun j j0 j1 => ?_⟩
  · rw [hch, if_neg (by decide), h14]; exact t4
  · intro w1 w2
    obtain ⟨x, y⟩ := g3 w1 w2
    exact ⟨t6.trans x, t7.trans y⟩
  · intro w
    rw [t8]
    exact g4 w
  · intro w
    rw [t9]
    exact g5 w
  · rw [h20]
    exact t11
  · rw [h20] at j1
    rw [show j = 0 by omega, Int.add_zero, h21]
    exact t12.1
end
section
variable {sc : xm_S} {P : xm_O → xm_H → Prop} {K : List ym_F} {s : ym_S}
/-- nothing is made -/
theorem st_no (hT : zTn s) (hI : zInv s) {f : ym_F} {s2 : ym_S} (ho : zOld s s2) (h1 : ym_n s2 ≤ ym_n s + 2) (h2 : ym_z s2 ≤ ym_z s + 9) (hgo : ∀ K2, zh sc K2 30 → ym_Rt sc P K2 (some (ym_I (-1))) (ym_wI s2 12 0 0) → ym_Go sc P K2 f s2) : stQ sc P s f (-1) s2 := ⟨by decide, fun K2 H2 kr => hgo K2 H2 (kr _ (zStay0 hT hI ho) (by show ym_n s2 ≤ _; omega) (by show ym_z s2 ≤ _; omega))⟩
theorem st_0 (H : zh sc K 30) (hT : zTn s) (hI : zInv s) {a : Int} (ha : ym_in a) (kr : ∀ v s2, stQ sc P s (87, 0, [some (ym_P 12), some (ym_I a), none], []) v s2 → ym_Rt sc P K (some (ym_I v)) s2) : ym_Go sc P K (1, 0, [some (ym_P 1), some (ym_I a)], []) s := by
  have hI0 := hI
  obtain ⟨E, n, op, N, r, M, rr, hP, hC, hR⟩ := hI
  have hn := hP.1.1
  have hn0 := hP.2.2.1
  have h46 := hT.2
  refine cc_1 (zm H (by omega)) hT.2 hC.1 hn0 hn ha (fun w s2 ho e1 e2 => kr _ _ (st_no hT hI0 ho e1 e2 (fun K2 H2 k => ?_))) (fun hb hn s2 hM e1 e2 hk => kr _ _ ⟨⟨by omega, by omega⟩, fun K2 H2 k => ?_⟩)
  · have hR2 := zRI_C hR (zKC_o ho hT.2)
    exact rc_87 (zm H2 (by omega)) hR2.2.1 hn0 hn ha (fun _ => k) (fun hb w2 => (w.elim (fun z => z hb) (fun z => by omega) : False).elim)
  · have hk2 : zKC s s2 := fun k k1 k2 => ⟨(hk k k1 k2).1, (hk k k1 k2).2.1⟩
    have hR2 := zRI_C hR hk2
    refine rc_87 (zm H2 (by omega)) hR2.2.1 hn0 (by omega) ha (fun w => (w.elim (fun z => z hb) (fun z => by omega) : False).elim) (fun _ _ s3 h3 h17 => k s3 ?_ ?_ ?_)
    · obtain ⟨q1, q2, q3, q4, q5, ⟨f13, f14, f15, f20, f21⟩⟩ := id h3
      have hco : eCo (s3.1, s3.2.1) 17 n = n := by
        rw [eCo, if_neg]
        show ¬ s3.1 13 n = 1
        omega
      have hch : eCh (s3.1, s3.2.1) n = false := by
        unfold eCh
        rw [decide_eq_false (show ¬ s3.1 13 n = 4 by omega)]
        rfl
      refine zJoin hT hP hC hR hM hk2 h3 (fun d hd z => by cases z) (fun q z => by cases z) hn ⟨zWf_1 f20 (f21.trans f14.symm) ⟨by show 0 ≤ s3.1 14 n; unfold zBk at hb; omega, by show s3.1 14 n < _; unfold zBk at hb; omega⟩, Or.inl ⟨f13, ?_, f14.trans f15.symm, Or.inl h17⟩⟩ (zFs_1 f20 (f21.trans f14.symm) hn0) (zCt_n (zTy_KR q1 hM.2.2.2.1) hch f14 f20 f21 ?_ ?_ ?_ ?_ ?_)
      · show s3.1 15 n = 1 ∨ s3.1 15 n = 2 ∨ s3.1 15 n = 3 ∨ s3.1 15 n = 4 ∨ s3.1 15 n = 5 ∨ s3.1 15 n = 6 ∨ s3.1 15 n = 12 ∨ s3.1 15 n = 22
        unfold zBk at hb
        omega
      · rw [hco]
        unfold zFo
        rw [if_neg (show ¬ s3.1 13 n = 2 by omega), if_neg (show ¬ s3.1 13 n = 3 by omega)]
        exact f15.symm
      · rw [hco, if_pos (show s3.1 13 n = 0 from f13)]
        exact h17.symm
      · rw [hco]
        intro _ w
        exact absurd h17 w
      · rw [hco]
        intro w
        exfalso
        rcases w with w | w
        · have w : s3.1 13 n = 2 := w
          omega
        · have w : s3.1 13 n = 3 := w
          omega
      · rw [hco]
        intro w
        exfalso
        have w : s3.1 13 n = 4 := w
        omega
    · have : ym_n s3 = ym_n s2 := by show s3.2.2.2.2.1 = _; rw [h3.1.2]
      omega
    · have : ym_z s3 = ym_z s2 := by show s3.2.2.2.2.2 = _; rw [h3.1.2]
      omega
theorem zJoin_a {E : zEnv} {n op N M : Int} {r rr : Int → Int} {s2 s3 : ym_S} (hT : zTn s) (hP : zPI E n op N r M) (hC : zCI s E n op N r M rr) (hR : zRI s E n op N r M rr) {fo tg b : Int} {lo hi : Int64} {i m : Option Nat} {L : List Int} (hM : zMade s s2 n fo tg b lo hi i m L) (hk : zKC s s2) {what tag kind : Int} (hr : rMade s2 s3 n what tag kind) : zAg E (s3.1, s3.2.1) n ∧ (∀ k, 46 ≤ k → k < ym_n s → zAc s s3 k) ∧ (∀ j, 0 ≤ j → j < n → ym_R s3 2 j = ym_R s 2 j) ∧ zCl (s3.1, s3.2.1) s3 n := by
  obtain ⟨m1, m2, m3, m4, m5, m6, m7⟩ := hM
  have hA : zAg E (s3.1, s3.2.1) n := zAg_of hR.1 hk hr.2.1
  have h46 := hT.2
  have hcells : ∀ k, 46 ≤ k → k < ym_n s → zAc s s3 k := fun k k1 k2 => zAc_t (m1 k k2 (by omega) (by omega)) (zAc_KR hr.1 (by omega))
  have hRef : ∀ j, 0 ≤ j → j < n → ym_R s3 2 j = ym_R s 2 j := fun j j0 j1 => by
    rw [(zAc_KR hr.1 (k := 2) (by omega)).2.2.1]
    exact m2 j (by omega)
  exact ⟨hA, hcells, hRef, zCl_tr hT hA hP.1 hcells hRef hC.2.1⟩
theorem zCnt {s2 s3 : ym_S} (h : zKR s2 s3) : ym_n s3 = ym_n s2 ∧ ym_z s3 = ym_z s2 := by
  constructor
  · show s3.2.2.2.2.1 = _
    rw [h.2]
  · show s3.2.2.2.2.2 = _
    rw [h.2]
/-- a type's members are never the draft's -/
theorem zDr_ne {E : zEnv} {n op : Int} (h : zDr E s n op) {a : Int} {ca : Nat} (a0 : 0 ≤ a) (a1 : a < n) (hca : ym_R s 2 a = some ca) : ∀ d, ym_R s 1 2 = some d → ym_R s ca 6 ≠ some d := by
  intro d hd
  rcases h with h | ⟨d', hd', h⟩
  · rw [h.1] at hd
    cases hd
  · obtain rfl : d = d' := Option.some.inj (hd.symm.trans hd')
    exact h.2.2.2.2.2.2.2.2.2.2.2.2 a ca a0 a1 hca
theorem st_1 (H : zh sc K 30) (hT : zTn s) (hin : ∀ c j, ym_in (s.1 c j)) (hI : zInv s) {a : Int} (ha : ym_in a) {lo hi : Int64} (kr : ∀ v s2, stQ sc P s (88, 0, [some (ym_P 12), some (ym_I a), some (ym_J lo), none, some (ym_J hi), none, none, none], []) v s2 → ym_Rt sc P K (some (ym_I v)) s2) : ym_Go sc P K (2, 0, [some (ym_P 1), some (ym_I a), some (ym_J lo), none, some (ym_J hi), none, none], []) s := by
  have hI0 := hI
  obtain ⟨E, n, op, N, r, M, rr, hP, hC, hR⟩ := hI
  have hn := hP.1.1
  have hn0 := hP.2.2.1
  have h46 := hT.2
  refine cc_2 (zm H (by omega)) hT.2 hP.1 hC.2.1 hT hin hC.1 hn0 ha (fun w s2 ho e1 e2 => kr _ _ (st_no hT hI0 ho e1 e2 (fun K2 H2 k => ?_))) (fun hb hn i m ca hca hm s2 hM e1 e2 hk => kr _ _ ⟨⟨by omega, by omega⟩, fun K2 H2 k => ?_⟩)
  · have hR2 := zRI_C hR (zKC_o ho hT.2)
    exact rc_88 (zm H2 (by omega)) hP.1 hR2.1 hR2.2.1 hn0 ha (fun _ => k) (fun hb w2 => (w.elim (fun z => z hb) (fun z => by omega) : False).elim)
  · have hk2 : zKC s s2 := fun k k1 k2 => ⟨(hk k k1 k2).1, (hk k k1 k2).2.1⟩
    have hR2 := zRI_C hR hk2
    refine rc_88 (zm H2 (by omega)) hP.1 hR2.1 hR2.2.1 hn0 ha (fun w => (w.elim (fun z => z hb) (fun z => by omega) : False).elim) (fun _ _ s3 h3 h17 h18 h19 => ?_)
    obtain ⟨q1, q2, q3, q4, q5, ⟨f13, f14, f15, f20, f21⟩⟩ := id h3
    obtain ⟨z1, z2⟩ := zCnt q1
    refine k s3 ?_ (by omega) (by omega)
    obtain ⟨⟨a0, a1⟩, b1, b2, b3, b4, b5⟩ := hb
    have hco : eCo (s3.1, s3.2.1) 17 n = n := by
      rw [eCo, if_neg]
      show ¬ s3.1 13 n = 1
      omega
    have hch : eCh (s3.1, s3.2.1) n = false := by
      unfold eCh
      rw [decide_eq_false (show ¬ s3.1 13 n = 4 by omega)]
      rfl
    refine zJoin hT hP hC hR hM hk2 h3 (fun d hd => by rw [← hm]; exact zDr_ne hC.2.2.2.2.1 a0 a1 hca d hd) (fun q z => hC.2.2.2.2.2 a ca q a0 a1 hca (hm.trans z)) hn ⟨zWf_1 f20 (f21.trans f14.symm) ⟨by show 0 ≤ s3.1 14 n; omega, by show s3.1 14 n < _; omega⟩, Or.inl ⟨f13, ?_, f14.trans f15.symm, Or.inr h17⟩⟩ (zFs_1 f20 (f21.trans f14.symm) hn0) (zCt_n (zTy_KR q1 hM.2.2.2.1) hch f14 f20 f21 ?_ ?_ ?_ ?_ ?_)
    · show s3.1 15 n = 1 ∨ s3.1 15 n = 2 ∨ s3.1 15 n = 3 ∨ s3.1 15 n = 4 ∨ s3.1 15 n = 5 ∨ s3.1 15 n = 6 ∨ s3.1 15 n = 12 ∨ s3.1 15 n = 22
      omega
    · rw [hco]
      unfold zFo
      rw [if_neg (show ¬ s3.1 13 n = 2 by omega), if_neg (show ¬ s3.1 13 n = 3 by omega)]
      exact f15.symm
    · rw [hco, if_pos (show s3.1 13 n = 0 from f13)]
      exact h17.symm
    · rw [hco]
      intro _ _
      exact ⟨h18.symm, h19.symm⟩
    · rw [hco]
      intro w
      exfalso
      rcases w with w | w
      · have w : s3.1 13 n = 2 := w
        omega
      · have w : s3.1 13 n = 3 := w
        omega
    · rw [hco]
      intro w
      exfalso
      have w : s3.1 13 n = 4 := w
      omega
theorem st_2 (H : zh sc K 30) (hT : zTn s) (hin : ∀ c j, ym_in (s.1 c j)) (hI : zInv s) {tc nu ex a : Int} (htc : ym_in tc) (hnu : ym_in nu) (hex : ym_in ex) (ha : ym_in a) (kr : ∀ v s2, stQ sc P s (90, 0, [some (ym_P 12), some (ym_I tc), some (ym_I nu), some (ym_I ex), some (ym_I a), none], []) v s2 → ym_Rt sc P K (some (ym_I v)) s2) : ym_Go sc P K (3, 0, [some (ym_P 1), some (ym_I tc), some (ym_I nu), some (ym_I ex), some (ym_I a), none, none], []) s := by
  have hI0 := hI
  obtain ⟨E, n, op, N, r, M, rr, hP, hC, hR⟩ := hI
  have hn := hP.1.1
  have hn0 := hP.2.2.1
  have h46 := hT.2
  refine cc_3 (zm H (by omega)) hT.2 hP.1 hC.2.1 hT hin hC.1 hn0 htc hnu hex ha (fun w s2 ho e1 e2 => kr _ _ (st_no hT hI0 ho e1 e2 (fun K2 H2 k => ?_))) (fun hb hn we ca hca s2 hM e1 e2 hk => kr _ _ ⟨⟨by omega, by omega⟩, fun K2 H2 k => ?_⟩) (fun hb hn we ca hca s2 hM e1 e2 hk => kr _ _ ⟨⟨by omega, by omega⟩, fun K2 H2 k => ?_⟩)
  · have hR2 := zRI_C hR (zKC_o ho hT.2)
    exact rc_90 (zm H2 (by omega)) hP.1 hR2.1 hR2.2.1 hn0 htc hnu hex ha (fun _ => k) (fun hb w2 => (w.elim (fun z => z hb) (fun z => by omega) : False).elim)
  · have hk2 : zKC s s2 := fun k k1 k2 => ⟨(hk k k1 k2).1, (hk k k1 k2).2.1⟩
    have hR2 := zRI_C hR hk2
    refine rc_90 (zm H2 (by omega)) hP.1 hR2.1 hR2.2.1 hn0 htc hnu hex ha (fun w => (w.elim (fun z => z hb) (fun z => by omega) : False).elim) (fun _ _ s3 h3 h16 h17 => ?_)
    rw [if_neg we] at h3
    obtain ⟨q1, q2, q3, q4, q5, ⟨f13, f14, f15, f20, f21⟩⟩ := id h3
    obtain ⟨z1, z2⟩ := zCnt q1
    refine k s3 ?_ (by omega) (by omega)
    obtain ⟨⟨a0, a1⟩, ⟨b1, b2⟩, ⟨b3, b4⟩, b5⟩ := hb
    obtain ⟨hA, hcells, hRef, hCl⟩ := zJoin_a hT hP hC hR hM hk2 h3
    have hco : eCo (s3.1, s3.2.1) 17 n = n := by
      rw [eCo, if_neg]
      show ¬ s3.1 13 n = 1
      omega
    have hch : eCh (s3.1, s3.2.1) n = false := by
      unfold eCh
      rw [decide_eq_false (show ¬ s3.1 13 n = 4 by omega)]
      rfl
    refine zJoin hT hP hC hR hM hk2 h3 (fun d hd z => by cases z) (fun q z => by cases z) hn ⟨zWf_1 f20 (f21.trans f14.symm) ⟨by show 0 ≤ s3.1 14 n; omega, by show s3.1 14 n < _; omega⟩, Or.inr (Or.inr (Or.inl ⟨f13, ⟨?_, ?_⟩, ⟨?_, ?_⟩⟩))⟩ (zFs_1 f20 (f21.trans f14.symm) hn0) (zCt_n (zTy_KR q1 hM.2.2.2.1) hch f14 f20 f21 ?_ ?_ ?_ ?_ ?_)
    · show 0 ≤ s3.1 16 n; omega
    · show s3.1 16 n < n; omega
    · show 2097152 ≤ s3.1 14 n; omega
    · show s3.1 14 n ≤ 6293456; omega
    · rw [hco]
      unfold zFo
      rw [if_pos (show s3.1 13 n = 2 from f13)]
    · rw [hco, if_neg (show ¬ s3.1 13 n = 0 by omega)]
    · rw [hco]
      intro w
      exfalso
      have w : s3.1 13 n = 0 := w
      omega
    · rw [hco]
      intro _
      show some ca = ym_R s3 2 (s3.1 16 n)
      rw [h16, hRef a a0 a1]
      exact hca.symm
    · rw [hco]
      intro w
      exfalso
      have w : s3.1 13 n = 4 := w
      omega
  · have hk2 : zKC s s2 := fun k k1 k2 => ⟨(hk k k1 k2).1, (hk k k1 k2).2.1⟩
    have hR2 := zRI_C hR hk2
    refine rc_90 (zm H2 (by omega)) hP.1 hR2.1 hR2.2.1 hn0 htc hnu hex ha (fun w => (w.elim (fun z => z hb) (fun z => by omega) : False).elim) (fun _ _ s3 h3 h16 h17 => ?_)
    rw [if_pos we] at h3
    obtain ⟨q1, q2, q3, q4, q5, ⟨f13, f14, f15, f20, f21⟩⟩ := id h3
    obtain ⟨z1, z2⟩ := zCnt q1
    refine k s3 ?_ (by omega) (by omega)
    obtain ⟨⟨a0, a1⟩, ⟨b1, b2⟩, ⟨b3, b4⟩, b5⟩ := hb
    have hcha := b5 we
    obtain ⟨hA, hcells, hRef, hCl⟩ := zJoin_a hT hP hC hR hM hk2 h3
    have hW2 : zWF (s3.1, s3.2.1) n := ⟨by omega, fun t t0 t1 => zAg_wt hA hP.1 t0 t1⟩
    have hco : eCo (s3.1, s3.2.1) 17 n = eCo (s3.1, s3.2.1) 17 a := by
      rw [eCo, if_pos (show s3.1 13 n = 1 from f13)]
      show eCo (s3.1, s3.2.1) 16 (s3.1 16 n) = _
      rw [h16]
      exact eCo_fuel (s3.1, s3.2.1) hW2 16 17 a a0 a1 (by omega) (by omega)
    have hch : eCh (s3.1, s3.2.1) n = false := by
      unfold eCh
      rw [decide_eq_false (show ¬ s3.1 13 n = 4 by omega)]
      rfl
    obtain ⟨ca', hca', hct⟩ := hCl a a0 a1
    rw [hRef a a0 a1] at hca'
    obtain rfl : ca = ca' := Option.some.inj (hca.symm.trans hca')
    obtain ⟨x1, x2, x3, x4, x5, x6, x7, x8, x9, x10, x11⟩ := hct
    obtain ⟨c0, hc0, hct0⟩ := hC.2.1 a a0 a1
    obtain rfl : ca = c0 := Option.some.inj (hca.symm.trans hc0)
    obtain ⟨y1, y2, y3, y4⟩ := hcells ca hct0.2.1 (hT.1 _ _ hct0.1)
    rw [y1] at x3 x5
    rw [y2] at x6
    rw [y3] at x7 x8
    refine zJoin hT hP hC hR hM hk2 h3 (fun d hd => zDr_ne hC.2.2.2.2.1 a0 a1 hca d hd) (fun q z => hC.2.2.2.2.2 a ca q a0 a1 hca z) hn ⟨zWf_1 f20 (f21.trans f14.symm) ⟨by show 0 ≤ s3.1 14 n; omega, by show s3.1 14 n < _; omega⟩, Or.inr (Or.inl ⟨f13, ⟨?_, ?_⟩, ⟨?_, ?_⟩, ?_⟩)⟩ (zFs_1 f20 (f21.trans f14.symm) hn0) (zCt_n (zTy_KR q1 hM.2.2.2.1) hch f14 f20 f21 ?_ ?_ ?_ ?_ ?_)
    · show 0 ≤ s3.1 16 n; omega
    · show s3.1 16 n < n; omega
    · show 2097152 ≤ s3.1 14 n; omega
    · show s3.1 14 n ≤ 6293456; omega
    · show eCh (s3.1, s3.2.1) (s3.1 16 n) = false
      rw [h16, zAg_ch hA a0 a1]
      exact hcha
    · rw [hco]; exact x3
    · rw [hco]; exact x5
    · rw [hco]; exact x6
    · rw [hco]; exact x7
    · rw [hco]; exact x8
theorem st_3 (H : zh sc K 30) (hT : zTn s) (hI : zInv s) {kd a : Int} (hkd : ym_in kd) (ha : ym_in a) (kr : ∀ v s2, stQ sc P s (91, 0, [some (ym_P 12), some (ym_I kd), some (ym_I a), none], []) v s2 → ym_Rt sc P K (some (ym_I v)) s2) : ym_Go sc P K (4, 0, [some (ym_P 1), some (ym_I kd), some (ym_I a), none], []) s := by
  have hI0 := hI
  obtain ⟨E, n, op, N, r, M, rr, hP, hC, hR⟩ := hI
  have hn := hP.1.1
  have hn0 := hP.2.2.1
  have h46 := hT.2
  refine cc_4 (zm H (by omega)) hT.2 hn hC.2.1 hC.1 hn0 hkd ha (fun w s2 ho e1 e2 => kr _ _ (st_no hT hI0 ho e1 e2 (fun K2 H2 k => ?_))) (fun ab hkk hn ca hca s2 hM e1 e2 hk => kr _ _ ⟨⟨by omega, by omega⟩, fun K2 H2 k => ?_⟩)
  · have hR2 := zRI_C hR (zKC_o ho hT.2)
    exact rc_91 (zm H2 (by omega)) hn hR2.2.1 hn0 hkd ha (fun _ => k) (fun ab hkk w2 => (w.elim (fun z => z ⟨ab, hkk⟩) (fun z => by omega) : False).elim)
  · have hk2 : zKC s s2 := fun k k1 k2 => ⟨(hk k k1 k2).1, (hk k k1 k2).2.1⟩
    have hR2 := zRI_C hR hk2
    refine rc_91 (zm H2 (by omega)) (by omega) hR2.2.1 hn0 hkd ha (fun w => (w.elim (fun z => z ⟨ab, hkk⟩) (fun z => by omega) : False).elim) (fun _ _ _ s3 h3 h16 h17 => ?_)
    obtain ⟨q1, q2, q3, q4, q5, ⟨f13, f14, f15, f20, f21⟩⟩ := id h3
    obtain ⟨z1, z2⟩ := zCnt q1
    refine k s3 ?_ (by omega) (by omega)
    obtain ⟨a0, a1⟩ := ab
    obtain ⟨hA, hcells, hRef, hCl⟩ := zJoin_a hT hP hC hR hM hk2 h3
    have hco : eCo (s3.1, s3.2.1) 17 n = n := by
      rw [eCo, if_neg]
      show ¬ s3.1 13 n = 1
      omega
    have hch : eCh (s3.1, s3.2.1) n = false := by
      unfold eCh
      rw [decide_eq_false (show ¬ s3.1 13 n = 4 by omega)]
      rfl
    refine zJoin hT hP hC hR hM hk2 h3 (fun d hd z => by cases z) (fun q z => by cases z) hn ⟨zWf_1 f20 (f21.trans f14.symm) ⟨by show 0 ≤ s3.1 14 n; omega, by show s3.1 14 n < _; omega⟩, Or.inr (Or.inr (Or.inr (Or.inl ⟨f13, ⟨?_, ?_⟩, ?_, f14.trans f15.symm⟩)))⟩ (zFs_1 f20 (f21.trans f14.symm) hn0) (zCt_n (zTy_KR q1 hM.2.2.2.1) hch f14 f20 f21 ?_ ?_ ?_ ?_ ?_)
    · show 0 ≤ s3.1 16 n; omega
    · show s3.1 16 n < n; omega
    · show s3.1 15 n = 16 ∨ s3.1 15 n = 17; omega
    · rw [hco]
      unfold zFo
      rw [if_neg (show ¬ s3.1 13 n = 2 by omega), if_pos (show s3.1 13 n = 3 from f13)]
      show kd + 100 = s3.1 15 n + 100
      omega
    · rw [hco, if_neg (show ¬ s3.1 13 n = 0 by omega)]
    · rw [hco]
      intro w
      exfalso
      have w : s3.1 13 n = 0 := w
      omega
    · rw [hco]
      intro _
      show some ca = ym_R s3 2 (s3.1 16 n)
      rw [h16, hRef a a0 a1]
      exact hca.symm
    · rw [hco]
      intro w
      exfalso
      have w : s3.1 13 n = 4 := w
      omega
end
