/-! One call on a fresh object, the other calls: own work. -/
section
variable {sc : xm_S} {K : List ym_F} {s : ym_S}
theorem p1_01 : ym_in 0 := by decide
theorem p1_m1 : ym_in (-1) := by decide
theorem p1_1 (h6 : sc.1 = 6) {b2 b4 : Int64} : ym_Go sc p1_P [(135, 188, p1_L, [])] (2, 0, [some (ym_P 1), some (ym_I (p1_v sc 1)), some (ym_J b2), none, some (ym_J b4), none, none], []) ym_s0 := by
  have hk : ym_in (p1_v sc 1) := ym_toin _
  have H0 : ym_Hy sc [] := p1_H (by omega) (by simp)
  have H1 : ∀ g, ym_Hy sc [g] := fun g => p1_H (by omega) (by simp)
  refine sg_2_0 (H1 _) _ _ _ (p1_typeAt (by omega) (by simp) hk rfl (ym_rt_cons (sg_2_5 (H1 _) _ _ _ ?_)))
  refine ym_rt_cons (sg_135_191 H0 _ _ ⟨⟨by omega, by omega⟩, ⟨by omega, by omega⟩, ⟨by omega, by omega⟩, ⟨by omega, by omega⟩, ⟨by omega, by omega⟩, ?_⟩)
  refine sg_88_0 (H1 _) _ _ _ ⟨fun e => absurd e (by decide : ¬ (0 : Int) = 16), fun _ => p1_isType (by omega) (by simp) hk rfl (ym_rt_cons (sg_88_19 (H1 _) _ _ _ _ ⟨p1_01, fun _ => ?_, fun z => absurd rfl z⟩))⟩
  exact ym_rt_cons (sg_135_245 H0 _ _ _ ⟨p1_m1, p1_m1, fun _ => p1_end (by omega) (by decide) (by decide), fun z => absurd rfl z⟩)
theorem p1_2 (h6 : sc.1 = 6) : ym_Go sc p1_P [(135, 283, p1_L, [])] (3, 0, [some (ym_P 1), some (ym_I (p1_v sc 1)), some (ym_I (p1_v sc 2)), some (ym_I (if p1_v sc 3 = 0 then (0 : Int) else 1)), some (ym_I (p1_v sc 4)), none, none], []) ym_s0 := by
  have hk : ym_in (p1_v sc 4) := ym_toin _
  have H0 : ym_Hy sc [] := p1_H (by omega) (by simp)
  have H1 : ∀ g, ym_Hy sc [g] := fun g => p1_H (by omega) (by simp)
  refine sg_3_0 (H1 _) _ _ _ _ (p1_typeAt (by omega) (by simp) hk rfl (ym_rt_cons (sg_3_6 (H1 _) _ _ _ _ ?_)))
  refine ym_rt_cons (sg_135_286 H0 _ _ ⟨⟨by omega, by omega⟩, ⟨by omega, by omega⟩, ⟨by omega, by omega⟩, ⟨by omega, by omega⟩, ?_⟩)
  refine sg_90_0 (H1 _) _ _ _ _ ⟨fun e => absurd e (by decide : ¬ (0 : Int) = 16), fun _ => p1_isType (by omega) (by simp) hk rfl (ym_rt_cons (sg_90_20 (H1 _) _ _ _ _ _ ⟨p1_01, fun _ => ?_, fun z => absurd rfl z⟩))⟩
  exact ym_rt_cons (sg_135_322 H0 _ _ _ ⟨p1_m1, p1_m1, fun _ => p1_end (by omega) (by decide) (by decide), fun z => absurd rfl z⟩)
theorem p1_3 (h6 : sc.1 = 6) : ym_Go sc p1_P [(135, 340, p1_L, [])] (4, 0, [some (ym_P 1), some (ym_I (p1_v sc 1)), some (ym_I (p1_v sc 2)), none], []) ym_s0 := by
  have hk : ym_in (p1_v sc 2) := ym_toin _
  have H0 : ym_Hy sc [] := p1_H (by omega) (by simp)
  have H1 : ∀ g, ym_Hy sc [g] := fun g => p1_H (by omega) (by simp)
  refine sg_4_0 (H1 _) _ _ (p1_typeAt (by omega) (by simp) hk rfl (ym_rt_cons (sg_4_5 (H1 _) _ _ ?_)))
  refine ym_rt_cons (sg_135_343 H0 _ _ ⟨⟨by omega, by omega⟩, ⟨by omega, by omega⟩, ?_⟩)
  refine sg_91_0 (H1 _) _ _ ⟨fun e => absurd e (by decide : ¬ (0 : Int) = 16), fun _ => p1_isType (by omega) (by simp) hk rfl (ym_rt_cons (sg_91_19 (H1 _) _ _ _ ⟨p1_01, fun _ => ?_, fun z => absurd rfl z⟩))⟩
  exact ym_rt_cons (sg_135_359 H0 _ _ _ ⟨p1_m1, p1_m1, fun _ => p1_end (by omega) (by decide) (by decide), fun z => absurd rfl z⟩)
theorem p1_4y (h6 : sc.1 = 6) (hy : p1_v sc 1 = 16 ∨ p1_v sc 1 = 17 ∨ p1_v sc 1 = 20) : ym_Go sc p1_P [(5, 26, [some (ym_P 1), some (ym_I (p1_v sc 1))], [ym_Q 46, ym_P 1]), (135, 371, p1_L, [])] (34, 0, [some (ym_Q 46), some (ym_I (p1_v sc 1))], []) (ym_mk ym_s0 6 0 5) := by
  have hk : ym_in (p1_v sc 1) := ym_toin _
  have H0 : ym_Hy sc [] := p1_H (by omega) (by simp)
  have H1 : ∀ g, ym_Hy sc [g] := fun g => p1_H (by omega) (by simp)
  have H2 : ∀ g g2, ym_Hy sc [g, g2] := fun g g2 => p1_H (by omega) (by simp)
  refine sg_34_0 (H2 _ _) _ _ ⟨rfl, Nat.le_refl _, rfl, Nat.le_refl _, rfl, Nat.le_refl _, hk, ?_⟩
  refine ym_rt_cons (sg_5_29 (H1 _) _ _ (ym_rt_cons (sg_135_374 H0 _ _ ⟨⟨by omega, by omega⟩, ?_⟩)))
  have fin : ym_Rt sc p1_P [(135, 381, p1_L, [ym_I 1])] (some (ym_I 1)) (ym_wI (ym_wI (ym_wI (ym_wR (ym_wI (ym_wI (ym_wR (ym_mk (ym_wR (ym_mk (ym_wR (ym_mk (ym_mk ym_s0 6 0 5) 3 (Int.toNat 6) (Int.toNat 6)) 46 1 (some (ym_n (ym_mk ym_s0 6 0 5)))) 0 (Int.toNat 6) (Int.toNat 6)) 46 2 (some (ym_n (ym_mk (ym_mk ym_s0 6 0 5) 3 (Int.toNat 6) (Int.toNat 6))))) 1 (Int.toNat 6) (Int.toNat 6)) 46 3 (some (ym_n (ym_mk (ym_mk (ym_mk ym_s0 6 0 5) 3 (Int.toNat 6) (Int.toNat 6)) 0 (Int.toNat 6) (Int.toNat 6))))) 46 4 0) 46 0 (p1_v sc 1)) 1 2 (some 46)) 12 0 0) 12 15 (p1_v sc 1)) 22 16 0) := ym_rt_cons (sg_135_384 H0 _ _ _ ⟨by decide, by decide, fun _ => p1_end (by omega) (show (50 : Nat) ≤ 600003 by decide) (show (13253 + 5 + 6 + 6 + 6 : Nat) ≤ 7302232 by decide), fun z => absurd rfl z⟩)
  refine sg_92_0 (H1 _) _ ⟨hk, fun _ => ⟨hk, fin⟩, fun n1 => ⟨hk, fun _ => ⟨hk, fin⟩, fun n2 => ⟨hk, fun _ => ⟨hk, fin⟩, fun n3 => ?_⟩⟩⟩
  exfalso
  exact hy.elim n1 (fun z => z.elim n2 n3)
theorem p1_4 (h6 : sc.1 = 6) : ym_Go sc p1_P [(135, 371, p1_L, [])] (5, 0, [some (ym_P 1), some (ym_I (p1_v sc 1))], []) ym_s0 := by
  have hk : ym_in (p1_v sc 1) := ym_toin _
  have H0 : ym_Hy sc [] := p1_H (by omega) (by simp)
  have H1 : ∀ g, ym_Hy sc [g] := fun g => p1_H (by omega) (by simp)
  refine sg_5_0 (H1 _) _ ⟨hk, fun e => p1_4y h6 (Or.inl e), fun n1 => ⟨hk, fun e => p1_4y h6 (Or.inr (Or.inl e)), fun n2 => ⟨hk, fun e => p1_4y h6 (Or.inr (Or.inr e)), fun n3 => ?_⟩⟩⟩
  refine ym_rt_cons (sg_135_374 H0 _ _ ⟨⟨by omega, by omega⟩, ?_⟩)
  refine sg_92_0 (H1 _) _ ⟨hk, fun e => absurd e n1, fun _ => ⟨hk, fun e => absurd e n2, fun _ => ⟨hk, fun e => absurd e n3, fun _ => ?_⟩⟩⟩
  exact ym_rt_cons (sg_135_384 H0 _ _ _ ⟨p1_01, p1_01, fun _ => p1_end (by omega) (by decide) (by decide), fun z => absurd rfl z⟩)
theorem p1_5 (h6 : sc.1 = 6) {b3 : Int64} : ym_Go sc p1_P [(135, 424, p1_L, [])] (6, 0, [some (ym_P 1), some (ym_I (p1_v sc 1)), some (ym_I (p1_v sc 2)), some (ym_J b3), none, none], []) ym_s0 := by
  have hk : ym_in (p1_v sc 1) := ym_toin _
  have H0 : ym_Hy sc [] := p1_H (by omega) (by simp)
  have H1 : ∀ g, ym_Hy sc [g] := fun g => p1_H (by omega) (by simp)
  have fin : ym_Rt sc p1_P [(135, 424, p1_L, [])] (some (ym_I 0)) ym_s0 := by
    refine ym_rt_cons (sg_135_427 H0 _ _ ⟨⟨by omega, by omega⟩, ⟨by omega, by omega⟩, ⟨by omega, by omega⟩, ⟨by omega, by omega⟩, ?_⟩)
    refine sg_94_0 (H1 _) _ _ _ ⟨fun _ => ?_, fun z => absurd rfl z⟩
    exact ym_rt_cons (sg_135_465 H0 _ _ _ ⟨p1_01, p1_01, fun _ => p1_end (by omega) (by decide) (by decide), fun z => absurd rfl z⟩)
  exact sg_6_0 (H1 _) _ _ _ (p1_typeAt (by omega) (by simp) hk rfl (ym_rt_cons (sg_6_5 (H1 _) _ _ _ ⟨fun _ => fin, fun _ _ => fin⟩)))
theorem p1_6 (h6 : sc.1 = 6) : ym_Go sc p1_P [(135, 471, p1_L, [])] (7, 0, [some (ym_P 1), none], []) ym_s0 := by
  have H0 : ym_Hy sc [] := p1_H (by omega) (by simp)
  have H1 : ∀ g, ym_Hy sc [g] := fun g => p1_H (by omega) (by simp)
  refine sg_7_0 (H1 _) ⟨fun _ => ?_, fun q hq => by cases hq⟩
  refine ym_rt_cons (sg_135_474 H0 _ _ ?_)
  refine sg_98_0 (H1 _) ⟨fun _ => ?_, fun z => absurd rfl z⟩
  exact ym_rt_cons (sg_135_478 H0 _ _ _ ⟨p1_m1, p1_m1, fun _ => p1_end (by omega) (by decide) (by decide), fun z => absurd rfl z⟩)
/-- the class' feeding: nothing changes but its octets -/
theorem p1_feedc (h6 : sc.1 ≤ 6) (hK : K.length < 900) {P : xm_O → xm_H → Prop} {b1 : Int64} {a3 : Int} : ∀ (m : Nat) (a4 : Int) (s : ym_S), a4 = (m : Int) - 1 → m ≤ 8 → 0 ≤ s.1 3 1 → s.1 3 1 + (m : Int) ≤ 200 → (∀ s2 : ym_S, s2.2.2.2 = s.2.2.2 → (∀ (c : Nat) (j : Int), c ≠ 3 → c ≠ 4 → s2.1 c j = s.1 c j) → ym_Rt sc P K (some (ym_I 1)) s2) → ym_Go sc P K (8, 33, [some (ym_P 1), some (ym_J b1), none, some (ym_I a3), some (ym_I a4)], []) s
  | 0, a4, s, ha, hm, h0, h1, kk => sg_8_33 (p1_H h6 (by omega)) _ _ _ ⟨⟨by omega, by omega⟩, fun _ => kk s rfl (fun _ _ _ _ => rfl), fun z => by exfalso; omega⟩
  | m + 1, a4, s, ha, hm, h0, h1, kk => by
    refine sg_8_33 (p1_H h6 (by omega)) _ _ _ ⟨⟨by omega, by omega⟩, fun z => by exfalso; omega, fun _ => ?_⟩
    refine sg_44_0 (p1_H h6 (by rw [List.length_cons]; omega)) _ ⟨fun _ => ⟨⟨by omega, by omega⟩, ym_and_in _ _, ⟨by omega, by omega⟩, ?_⟩, fun z => by exfalso; omega⟩
    refine ym_rt_cons (sg_8_57 (p1_H h6 (by omega)) _ _ _ ?_)
    have e : (ym_wI (ym_wI s 4 (s.1 3 1) (ym_and (ym_l2i (ym_lus b1 (8 * a4))) 255)) 3 1 (s.1 3 1 + 1)).1 3 1 = s.1 3 1 + 1 := rfl
    refine p1_feedc h6 hK m _ _ (by omega) (by omega) (by rw [e]; omega) (by rw [e]; omega) (fun s2 t1 t2 => kk s2 t1 (fun c j hc3 hc4 => ?_))
    rw [t2 c j hc3 hc4]
    show ym_u (ym_u s.1 4 (s.1 3 1) _) 3 1 _ c j = _
    rw [ym_u_ne hc3, ym_u_ne hc4]
theorem p1_feedr (h6 : sc.1 ≤ 6) (hK : K.length < 900) {P : xm_O → xm_H → Prop} {b1 : Int64} {a3 : Int} (h3 : a3 ≤ 8) : ∀ (m : Nat) (a4 : Int) (s : ym_S), a4 = a3 - (m : Int) → 0 ≤ a4 → 0 ≤ s.1 12 16 → s.1 12 16 + (m : Int) ≤ 200 → (∀ s2 : ym_S, s2.2.2.2 = s.2.2.2 → ym_Rt sc P K (some (ym_I 1)) s2) → ym_Go sc P K (99, 33, [some (ym_P 12), some (ym_J b1), none, some (ym_I a3), some (ym_I a4)], []) s
  | 0, a4, s, ha, hm, h0, h1, kk => sg_99_33 (p1_H h6 (by omega)) _ _ _ ⟨⟨by omega, by omega⟩, ⟨by omega, by omega⟩, fun z => by exfalso; omega, fun _ => kk s rfl⟩
  | m + 1, a4, s, ha, hm, h0, h1, kk => by
    refine sg_99_33 (p1_H h6 (by omega)) _ _ _ ⟨⟨by omega, by omega⟩, ⟨by omega, by omega⟩, fun _ => ⟨⟨by omega, by omega⟩, ⟨by omega, by omega⟩, ?_⟩, fun z => by exfalso; omega⟩
    have e : (ym_wI (ym_wI s 26 (s.1 12 16) (ym_and (ym_l2i (ym_lus b1 (8 * ((a3 - 1) - a4)))) 255)) 12 16 (s.1 12 16 + 1)).1 12 16 = s.1 12 16 + 1 := rfl
    exact p1_feedr h6 hK h3 m _ _ (by omega) (by omega) (by rw [e]; omega) (by rw [e]; omega) (fun s2 t1 => kk s2 t1)
theorem p1_7 (h6 : sc.1 = 6) : ym_Go sc p1_P [(135, 512, p1_L, [])] (8, 0, [some (ym_P 1), some (ym_J ((ym_lshl (ym_i2l (p1_v sc 1)) 32) ||| ((ym_i2l (p1_v sc 2)) &&& (4294967295)))), none, some (ym_I (p1_v sc 3)), none], []) ym_s0 := by
  have hk : ym_in (p1_v sc 3) := ym_toin _
  have H0 : ym_Hy sc [] := p1_H (by omega) (by simp)
  have H1 : ∀ g, ym_Hy sc [g] := fun g => p1_H (by omega) (by simp)
  have z0 : ym_s0.1 3 1 = 0 := rfl
  have no : (p1_v sc 3 < 1 ∨ 8 < p1_v sc 3) → ym_Rt sc p1_P [(135, 512, p1_L, [])] (some (ym_I 0)) ym_s0 := by
    intro hn
    refine ym_rt_cons (sg_135_515 H0 _ _ ⟨⟨by omega, by omega⟩, ⟨by omega, by omega⟩, ⟨by omega, by omega⟩, ?_⟩)
    have fin : ym_Rt sc p1_P [(135, 544, p1_L, [ym_I 0])] (some (ym_I 0)) (ym_wI ym_s0 12 0 0) := ym_rt_cons (sg_135_547 H0 _ _ _ ⟨p1_01, p1_01, fun _ => p1_end (by omega) (by decide) (by decide), fun z => absurd rfl z⟩)
    refine sg_99_0 (H1 _) _ _ ⟨hk, fun _ => fin, fun g1 => ⟨hk, fun _ => fin, fun g2 => ?_⟩⟩
    have g1 : 1 ≤ p1_v sc 3 := g1
    have g2 : p1_v sc 3 ≤ 8 := g2
    exfalso
    omega
  refine sg_8_0 (H1 _) _ _ ⟨hk, fun g => no (Or.inl g), fun g1 => ⟨hk, fun g => no (Or.inr g), fun g2 => ⟨⟨by rw [z0]; omega, by rw [z0]; omega⟩, fun g => by rw [z0] at g; exfalso; omega, fun _ => ?_⟩⟩⟩
  obtain ⟨m, hm⟩ : ∃ m : Nat, (m : Int) = p1_v sc 3 := ⟨(p1_v sc 3).toNat, by omega⟩
  refine p1_feedc (by omega) (by simp) m _ _ (by omega) (by omega) (by rw [z0]; omega) (by rw [z0]; omega) (fun s2 t1 t2 => ?_)
  have e16 : s2.1 12 16 = 0 := t2 12 16 (by decide) (by decide)
  refine ym_rt_cons (sg_135_515 H0 _ _ ⟨⟨by omega, by omega⟩, ⟨by omega, by omega⟩, ⟨by omega, by omega⟩, ?_⟩)
  refine sg_99_0 (H1 _) _ _ ⟨hk, fun g => by have g : p1_v sc 3 < 1 := g; exfalso; omega, fun _ => ⟨hk, fun g => by have g : 8 < p1_v sc 3 := g; exfalso; omega, fun _ => ⟨⟨by rw [e16]; omega, by rw [e16]; omega⟩, fun g => by rw [e16] at g; exfalso; omega, fun _ => ?_⟩⟩⟩
  have e16b : (ym_wI s2 12 0 0).1 12 16 = 0 := e16
  refine p1_feedr (by omega) (by simp) g2 m _ _ (by omega) (by omega) (by rw [e16b]; omega) (by rw [e16b]; omega) (fun s3 t3 => ?_)
  have t4 : s3.2.2.2 = ym_s0.2.2.2 := t3.trans t1
  have t5 : s3.2.2.2.2 = ym_s0.2.2.2.2 := by rw [t4]
  refine ym_rt_cons (sg_135_547 H0 _ _ _ ⟨by decide, by decide, fun _ => p1_end (by omega) ?_ ?_, fun z => absurd rfl z⟩)
  · show s3.2.2.2.2.1 ≤ 600003
    rw [t5]
    decide
  · show s3.2.2.2.2.2 ≤ 7302232
    rw [t5]
    decide
theorem p1_8 (h6 : sc.1 = 6) : ym_Go sc p1_P [(135, 553, p1_L, [])] (9, 0, [some (ym_P 1)], []) ym_s0 := by
  have H0 : ym_Hy sc [] := p1_H (by omega) (by simp)
  have H1 : ∀ g, ym_Hy sc [g] := fun g => p1_H (by omega) (by simp)
  refine sg_9_0 (H1 _) (ym_rt_cons (sg_135_556 H0 _ (sg_100_0 (H1 _) (ym_rt_cons (sg_135_560 H0 _ ?_)))))
  exact p1_end (by omega) (show (46 : Nat) ≤ 600003 by decide) (show (13253 : Nat) ≤ 7302232 by decide)
theorem p1_9 (h6 : sc.1 = 6) : ym_Go sc p1_P [(135, 571, p1_L, [])] (134, 0, [some (ym_P 1), some (ym_I (p1_v sc 1)), some (ym_P 45), none], []) ym_s0 := by
  have hk : ym_in (p1_v sc 1) := ym_toin _
  have H0 : ym_Hy sc [] := p1_H (by omega) (by simp)
  have H1 : ∀ g, ym_Hy sc [g] := fun g => p1_H (by omega) (by simp)
  have H2 : ∀ g g2, ym_Hy sc [g, g2] := fun g g2 => p1_H (by omega) (by simp)
  refine sg_134_0 (H1 _) _ (sg_10_0 (H2 _ _) _ (p1_typeAt (by omega) (by simp) hk rfl (ym_rt_cons (sg_10_5 (H2 _ _) _ ?_))))
  refine ym_ex_catch (pc2 := 12) (j := 3) (show xm_vt 134 4 = true by decide) (show xm_hh 134 ≠ [] by decide) (show xm_cat 134 4 0 = some (12, 3) by decide) (sg_134_13 (H1 _) _ (ym_rt_cons (sg_135_574 H0 _ _ ⟨⟨by omega, by omega⟩, ?_⟩)))
  refine sg_129_0 (H1 _) _ (p1_isType (by omega) (by simp) hk rfl (ym_rt_cons (sg_129_5 (H1 _) _ _ ⟨p1_01, fun _ => ?_, fun z => absurd rfl z⟩)))
  refine sg_84_0 (H2 _ _) _ ⟨by decide, ym_rt_cons (sg_129_13 (H1 _) _ _ (ym_rt_cons (sg_135_586 H0 _ _ _ ?_)))⟩
  refine sg_83_0 (H1 _) (ym_rt_cons (sg_135_592 H0 _ _ _ _ ⟨(by decide : (-2147483648 : Int) ≤ 1 ∧ (1 : Int) < 2147483648), by decide, fun _ => ⟨by decide, fun z => absurd z (by decide), fun _ => ?_⟩, fun z => absurd rfl z⟩))
  exact p1_endb (by omega) (show (47 : Nat) ≤ 600003 by decide) (show (13253 + 6 : Nat) ≤ 7302232 by decide)
theorem p1_q (a : Int) : (if a < 0 then (-1 : Int) else (if a < 0 then (0 : Int) else (-1))) = -1 := by
  split
  · rfl
  · rfl
theorem p1_10 (h6 : sc.1 = 6) : ym_Go sc p1_P [(135, 626, p1_L, [])] (11, 0, [some (ym_P 1), some (ym_I (p1_v sc 1))], []) ym_s0 := by
  have hk : ym_in (p1_v sc 1) := ym_toin _
  have H0 : ym_Hy sc [] := p1_H (by omega) (by simp)
  have H1 : ∀ g, ym_Hy sc [g] := fun g => p1_H (by omega) (by simp)
  have H2 : ∀ g g2, ym_Hy sc [g, g2] := fun g g2 => p1_H (by omega) (by simp)
  have fin : ∀ x : Int, ym_in x → x = (if p1_v sc 1 = (-1) then (0 : Int) else (if p1_v sc 1 < 0 then (-1 : Int) else (if p1_v sc 1 < 0 then (0 : Int) else (-1)))) → ym_Rt sc p1_P [(11, 5, [some (ym_P 1), some (ym_I (p1_v sc 1))], []), (135, 626, p1_L, [])] (some (ym_I x)) ym_s0 := by
    intro x hx ex
    refine ym_rt_cons (sg_11_8 (H1 _) _ _ (ym_rt_cons (sg_135_629 H0 _ _ ⟨⟨by omega, by omega⟩, ?_⟩)))
    refine sg_130_0 (H1 _) _ ⟨⟨hk, fun _ => ⟨hk, fun g => ⟨hk, fun z => ?_⟩⟩⟩, ?_⟩
    · exact absurd (show p1_v sc 1 < 0 from z) (Int.not_lt.mpr g)
    · refine ym_rt_cons (sg_135_639 H0 _ _ _ ⟨hx, ?_, fun _ => p1_end (by omega) (by decide) (by decide), fun z => absurd ex z⟩)
      have e : x = _ := ex
      rw [e] at hx
      exact hx
  refine sg_11_0 (H1 _) _ (sg_43_0 (H2 _ _) _ ⟨hk, fun e => fin 0 p1_01 (by rw [if_pos e]), fun n => ⟨⟨hk, fun g => ⟨hk, fun z => ?_⟩⟩, ?_⟩⟩)
  · have z : p1_v sc 1 < 0 := z
    exfalso
    omega
  · have w : ym_Rt sc p1_P [(11, 5, [some (ym_P 1), some (ym_I (p1_v sc 1))], []), (135, 626, p1_L, [])] (some (ym_I (if p1_v sc 1 < 0 then (-1 : Int) else (if p1_v sc 1 < 0 then (0 : Int) else (-1))))) ym_s0 := fin _ (by rw [p1_q]; decide) (by rw [if_neg n])
    exact w
theorem p1_11 (h6 : sc.1 = 6) : ym_Go sc p1_P [(135, 651, p1_L, [])] (12, 0, [some (ym_P 1), some (ym_I (p1_v sc 1))], []) ym_s0 := by
  have hk : ym_in (p1_v sc 1) := ym_toin _
  have H0 : ym_Hy sc [] := p1_H (by omega) (by simp)
  have H1 : ∀ g, ym_Hy sc [g] := fun g => p1_H (by omega) (by simp)
  have H2 : ∀ g g2, ym_Hy sc [g, g2] := fun g g2 => p1_H (by omega) (by simp)
  have fin : ∀ x : Int, ym_in x → x = (if p1_v sc 1 = (-1) then (0 : Int) else (if p1_v sc 1 < 0 then (-1 : Int) else (if p1_v sc 1 < 0 then (0 : Int) else (-1)))) → ym_Rt sc p1_P [(12, 5, [some (ym_P 1), some (ym_I (p1_v sc 1))], []), (135, 651, p1_L, [])] (some (ym_I x)) ym_s0 := by
    intro x hx ex
    refine ym_rt_cons (sg_12_8 (H1 _) _ _ (ym_rt_cons (sg_135_654 H0 _ _ ⟨⟨by omega, by omega⟩, ?_⟩)))
    refine sg_131_0 (H1 _) _ ⟨⟨hk, fun _ => ⟨hk, fun g => ⟨hk, fun z => ?_⟩⟩⟩, ?_⟩
    · exact absurd (show p1_v sc 1 < 0 from z) (Int.not_lt.mpr g)
    · refine ym_rt_cons (sg_135_664 H0 _ _ _ ⟨hx, ?_, fun _ => p1_end (by omega) (by decide) (by decide), fun z => absurd ex z⟩)
      have e : x = _ := ex
      rw [e] at hx
      exact hx
  refine sg_12_0 (H1 _) _ (sg_43_0b (H2 _ _) _ ⟨hk, fun e => fin 0 p1_01 (by rw [if_pos e]), fun n => ⟨⟨hk, fun g => ⟨hk, fun z => ?_⟩⟩, ?_⟩⟩)
  · have z : p1_v sc 1 < 0 := z
    exfalso
    omega
  · have w : ym_Rt sc p1_P [(12, 5, [some (ym_P 1), some (ym_I (p1_v sc 1))], []), (135, 651, p1_L, [])] (some (ym_I (if p1_v sc 1 < 0 then (-1 : Int) else (if p1_v sc 1 < 0 then (0 : Int) else (-1))))) ym_s0 := fin _ (by rw [p1_q]; decide) (by rw [if_neg n])
    exact w
theorem p1_12 (h6 : sc.1 = 6) : ym_Go sc p1_P [(135, 670, p1_L, [])] (13, 0, [some (ym_P 1), none], []) ym_s0 := by
  have H0 : ym_Hy sc [] := p1_H (by omega) (by simp)
  have H1 : ∀ g, ym_Hy sc [g] := fun g => p1_H (by omega) (by simp)
  refine sg_13_0 (H1 _) ⟨fun _ => ?_, fun q hq => by cases hq⟩
  refine ym_rt_cons (sg_135_673 H0 _ _ (sg_132_0 (H1 _) (ym_rt_cons (sg_135_677 H0 _ _ _ ⟨(by decide : (-2147483648 : Int) ≤ 0 + 0 ∧ (0 + 0 : Int) < 2147483648), (by decide : (-2147483648 : Int) ≤ 0 + 32 * 0 + 1024 * 0 ∧ (0 + 32 * 0 + 1024 * 0 : Int) < 2147483648), fun _ => ?_, fun z => absurd rfl z⟩))))
  exact p1_end (by omega) (show (46 : Nat) ≤ 600003 by decide) (show (13253 : Nat) ≤ 7302232 by decide)
theorem p1_13 (h6 : sc.1 = 6) : ym_Go sc p1_P [(135, 695, p1_L, [])] (14, 0, [some (ym_P 1), some (ym_I (p1_v sc 1)), some (ym_I (p1_v sc 2)), none], []) ym_s0 := by
  have hk : ym_in (p1_v sc 1) := ym_toin _
  have H0 : ym_Hy sc [] := p1_H (by omega) (by simp)
  have H1 : ∀ g, ym_Hy sc [g] := fun g => p1_H (by omega) (by simp)
  refine sg_14_0 (H1 _) _ _ (p1_typeAt (by omega) (by simp) hk rfl (ym_rt_cons (sg_14_5 (H1 _) _ _ ?_)))
  refine ym_rt_cons (sg_135_698 H0 _ _ ⟨⟨by omega, by omega⟩, ⟨by omega, by omega⟩, ?_⟩)
  refine sg_133_0 (H1 _) _ _ (p1_isType (by omega) (by simp) hk rfl (ym_rt_cons (sg_133_10 (H1 _) _ _ _ ⟨⟨p1_01, fun z => absurd rfl z⟩, ?_⟩)))
  exact ym_rt_cons (sg_135_714 H0 _ _ _ ⟨p1_m1, p1_m1, fun _ => p1_end (by omega) (by decide) (by decide), fun z => absurd rfl z⟩)
theorem p1_go (h6 : sc.1 ≤ 6) : ym_Go sc p1_P [] (135, 23, p1_L, []) ym_s0 := by
  refine sg_135_23 (p1_H h6 (by simp)) 0 ⟨⟨by omega, by omega⟩, ⟨by omega, by omega⟩, fun _ => p1_fin (by decide) (by decide), fun hc => ?_⟩
  have hs : sc.1 = 6 := by omega
  have b : ∀ j : Int, 0 ≤ j → j < 6 → 0 ≤ 0 + j ∧ 0 + j < (sc.1 : Int) := fun j h1 h2 => ⟨by omega, by omega⟩
  have b1 := b 1 (by decide) (by decide)
  have b2 := b 2 (by decide) (by decide)
  have b3 := b 3 (by decide) (by decide)
  have b4 := b 4 (by decide) (by decide)
  have b5 := b 5 (by decide) (by decide)
  exact ⟨⟨by omega, by omega⟩, fun _ => p1_end h6 (by decide) (by decide), fun _ => ⟨b1, p1_0 hs⟩, fun _ => ⟨b1, b2, b3, b4, b5, p1_1 hs⟩, fun _ => ⟨b1, b2, b3, b4, p1_2 hs⟩, fun _ => ⟨b1, b2, p1_3 hs⟩, fun _ => ⟨b1, p1_4 hs⟩, fun _ => ⟨b1, b2, b3, b4, p1_5 hs⟩, fun _ => p1_6 hs, fun _ => ⟨b1, b2, b3, p1_7 hs⟩, fun _ => p1_8 hs, fun _ => ⟨b1, p1_9 hs⟩, fun _ => ⟨b1, p1_10 hs⟩, fun _ => ⟨b1, p1_11 hs⟩, fun _ => p1_12 hs, fun _ => ⟨b1, b2, p1_13 hs⟩⟩
end
theorem xm_pure : xm_PURE 6 600002 7302232 := by
  intro L xs hL
  have h1 := p1_go (sc := (L, xs)) hL _ ym_s0_H
  obtain ⟨n, o, h2, a, b⟩ := pz_start (P := p1_P) h1
  obtain ⟨rfl, b2, b3⟩ := b
  exact ⟨n, h2, a, b2, b3⟩
