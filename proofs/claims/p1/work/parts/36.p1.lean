/-! One call on a fresh object: own work. -/
def p1_P : xm_O → xm_H → Prop := fun o h => o = .inl (some (.int 1)) ∧ h.1.length ≤ 600003 ∧ h.2 ≤ 7302232
abbrev p1_L : ym_L := [some (ym_P 0), some (ym_P 1), some (ym_P 12), some (ym_P 45), some (ym_I 0), none, none]
abbrev p1_v (sc : xm_S) (j : Int) : Int := (sc.2 (Int.toNat (0 + j))).toInt
section
variable {sc : xm_S} {K : List ym_F} {s : ym_S}
theorem p1_fin (hn : ym_n s ≤ 600003) (hz : ym_z s ≤ 7302232) : ym_Rt sc p1_P [] (some (ym_I 1)) s := by
  intro h hH
  obtain ⟨⟨a, b⟩, -⟩ := hH
  exact ⟨rfl, by rw [a]; exact hn, by rw [b]; exact hz⟩
theorem p1_H (h6 : sc.1 ≤ 6) (hK : K.length < 1000) : ym_Hy sc K := ⟨hK, by omega⟩
theorem p1_end (h6 : sc.1 ≤ 6) (hn : ym_n s ≤ 600003) (hz : ym_z s ≤ 7302232) : ym_Go sc p1_P [] (135, 23, [some (ym_P 0), some (ym_P 1), some (ym_P 12), some (ym_P 45), some (ym_I (0 + 6)), none, none], []) s := by
  refine sg_135_23 (p1_H h6 (by simp)) _ ⟨⟨by omega, by omega⟩, ⟨by omega, by omega⟩, fun _ => p1_fin hn hz, fun hc => ?_⟩
  exfalso
  omega
theorem p1_endb (h6 : sc.1 ≤ 6) {a5 a6 : Int} (hn : ym_n s ≤ 600003) (hz : ym_z s ≤ 7302232) : ym_Go sc p1_P [] (135, 23, [some (ym_P 0), some (ym_P 1), some (ym_P 12), some (ym_P 45), some (ym_I (0 + 6)), some (ym_I a5), some (ym_I a6)], []) s := by
  refine sg_135_23b (p1_H h6 (by simp)) _ _ _ ⟨⟨by omega, by omega⟩, ⟨by omega, by omega⟩, fun _ => p1_fin hn hz, fun hc => ?_⟩
  exfalso
  omega
/-- no type is there yet -/
theorem p1_typeAt (h6 : sc.1 ≤ 6) (hK : K.length < 1000) {P : xm_O → xm_H → Prop} {a : Int} (ha : ym_in a) (h0 : s.1 1 1 = 0) (kk : ym_Rt sc P K (some ym_N) s) : ym_Go sc P K (16, 0, [some (ym_P 1), some (ym_I a)], []) s := by
  refine sg_16_0 (p1_H h6 hK) _ ⟨ha, fun _ => kk, fun h1 => ⟨ha, fun h2 => ?_, fun _ => kk⟩⟩
  rw [h0] at h2
  exfalso
  omega
theorem p1_isType (h6 : sc.1 ≤ 6) (hK : K.length < 1000) {P : xm_O → xm_H → Prop} {a : Int} (ha : ym_in a) (h0 : s.1 12 1 = 0) (kk : ym_Rt sc P K (some (ym_I 0)) s) : ym_Go sc P K (85, 0, [some (ym_P 12), some (ym_I a)], []) s := by
  refine sg_85_0 (p1_H h6 hK) _ ⟨⟨ha, fun _ => ha⟩, ?_⟩
  rw [h0]
  rw [show (if a < 0 then (0 : Int) else (if a < 0 then (1 : Int) else 0)) = 0 by split <;> simp_all]
  exact kk
abbrev p1_b (a : Int) : Int := (if a < 1 then ((if a = 12 then (1 : Int) else (if a = 22 then (1 : Int) else 0)) : Int) else (if 6 < a then ((if a = 12 then (1 : Int) else (if a = 22 then (1 : Int) else 0)) : Int) else 1))
theorem p1_b_in (a : Int) : ym_in (p1_b a) := by
  unfold p1_b
  split
  · split
    · decide
    · split <;> decide
  · split
    · split
      · decide
      · split <;> decide
    · decide
theorem p1_0 (h6 : sc.1 = 6) : ym_Go sc p1_P [(135, 119, p1_L, [])] (1, 0, [some (ym_P 1), some (ym_I (p1_v sc 1))], []) ym_s0 := by
  have hk : ym_in (p1_v sc 1) := ym_toin _
  have hb := p1_b_in (p1_v sc 1)
  have H0 : ym_Hy sc [] := p1_H (by omega) (by simp)
  have H1 : ∀ g, ym_Hy sc [g] := fun g => p1_H (by omega) (by simp)
  have H2 : ∀ g g2, ym_Hy sc [g, g2] := fun g g2 => p1_H (by omega) (by simp)
  have H3 : ∀ g g2 g3, ym_Hy sc [g, g2, g3] := fun g g2 g3 => p1_H (by omega) (by simp)
  have hr : ∀ K, K.length < 1000 → ym_Rt sc p1_P K (some (ym_I (p1_b (p1_v sc 1)))) ym_s0 → ym_Go sc p1_P K (15, 0, [some (ym_I (p1_v sc 1))], []) ym_s0 := fun K hK kk => sg_15_0 (p1_H (by omega) hK) _ ⟨⟨hk, fun _ => ⟨hk, fun _ => hk⟩, fun _ => ⟨hk, fun _ => ⟨hk, fun _ => hk⟩⟩⟩, kk⟩
  refine sg_1_0 (H1 _) _ (hr _ (by simp) ?_)
  refine ym_rt_cons (sg_1_4 (H1 _) _ _ ⟨hb, fun e => ?_, fun e => ?_⟩)
  · refine ym_rt_cons (sg_135_122 H0 _ _ ⟨⟨by omega, by omega⟩, ?_⟩)
    refine sg_87_0 (H1 _) _ ⟨⟨hk, fun _ => ⟨hk, fun _ => hk⟩, fun _ => ⟨hk, fun _ => ⟨hk, fun _ => hk⟩⟩⟩, fun _ => ?_, fun e2 => absurd e e2⟩
    exact ym_rt_cons (sg_135_132 H0 _ _ _ ⟨by decide, by decide, fun _ => p1_end (by omega) (by decide) (by decide), fun z => absurd rfl z⟩)
  · refine sg_19_0 (H2 _ _) _ ?_
    have fin : ym_Go sc p1_P [(1, 9, [some (ym_P 1), some (ym_I (p1_v sc 1))], [ym_P 1]), (135, 119, p1_L, [])] (19, 14, [some (ym_I (p1_v sc 1))], [ym_Q 46]) (ym_wR (ym_wI (ym_mk (ym_wR (ym_wR (ym_wJ (ym_wJ (ym_wI (ym_wI (ym_wI (ym_mk ym_s0 5 0 8) 46 0 (p1_v sc 1)) 46 1 (p1_v sc 1)) 46 2 0) 46 3 (Int64.ofNat 0)) 46 4 (Int64.ofNat 0)) 46 5 none) 46 6 none) 0 (Int.toNat 1) (Int.toNat 1)) 47 0 (p1_v sc 1)) 46 7 (some 47)) := by
      refine sg_19_14 (H2 _ _) _ _ (ym_rt_cons (sg_1_12b (H1 _) _ _ ?_))
      refine sg_17_0b (H2 _ _) _ ⟨fun _ => ⟨(by decide : (0 : Int) ≤ 0 ∧ (0 : Int) < 16), rfl, (by decide : (-2147483648 : Int) ≤ 0 + 1 ∧ (0 + 1 : Int) < 2147483648), ?_⟩, fun hc => absurd hc (by decide : ¬ (16 : Int) ≤ 0)⟩
      refine ym_rt_cons (sg_1_15 (H1 _) _ _ (ym_rt_cons (sg_135_122 H0 _ _ ⟨⟨by omega, by omega⟩, ?_⟩)))
      refine sg_87_0 (H1 _) _ ⟨⟨hk, fun _ => ⟨hk, fun _ => hk⟩, fun _ => ⟨hk, fun _ => ⟨hk, fun _ => hk⟩⟩⟩, fun e2 => absurd e2 e, fun _ => ⟨fun _ => ?_, fun hc => absurd hc (by decide : ¬ (16 : Int) ≤ 0)⟩⟩
      have c16 : (0 : Int) ≤ 0 ∧ (0 : Int) < 16 := by decide
      refine sg_86_0 (H2 _ _) _ _ _ ⟨c16, by decide, c16, hk, c16, hk, c16, (by decide : (0 : Int) ≤ 0 ∧ (0 : Int) < 17), (by decide : (0 : Int) ≤ 96 * 0 ∧ (96 * 0 : Int) < 1632), hk, (by decide : (-2147483648 : Int) ≤ 0 + 1 ∧ (0 + 1 : Int) < 2147483648), ?_⟩
      refine ym_rt_cons (sg_87_54 (H1 _) _ _ _ (ym_rt_cons (sg_135_132 H0 _ _ _ ⟨(by decide : (-2147483648 : Int) ≤ 0 + 1 - 1 ∧ (0 + 1 - 1 : Int) < 2147483648), (by decide : (-2147483648 : Int) ≤ 0 + 1 - 1 ∧ (0 + 1 - 1 : Int) < 2147483648), fun _ => p1_end (by omega) (show (48 : Nat) ≤ 600003 by decide) (show (13253 + 8 + 1 : Nat) ≤ 7302232 by decide), fun z => absurd rfl z⟩)))
    have c1 : ∃ n : Nat, ym_T (ym_mk (ym_mk ym_s0 5 0 8) 0 (Int.toNat 1) (Int.toNat 1)) (ym_n (ym_mk ym_s0 5 0 8)) = some (0, n) ∧ ((0 : Int) ≤ 0 ∧ (0 : Int) < n) ∧ ym_in (p1_v sc 1) ∧ ym_T (ym_mk (ym_mk ym_s0 5 0 8) 0 (Int.toNat 1) (Int.toNat 1)) (ym_n ym_s0) = some (5, 0) ∧ 46 ≤ ym_n ym_s0 ∧ ym_Rt sc p1_P ((19, 11, [some (ym_I (p1_v sc 1))], [ym_Q (ym_n ym_s0)]) :: [(1, 9, [some (ym_P 1), some (ym_I (p1_v sc 1))], [ym_P 1]), (135, 119, p1_L, [])]) none (ym_wR (ym_wI (ym_mk (ym_wR (ym_wR (ym_wJ (ym_wJ (ym_wI (ym_wI (ym_wI (ym_mk ym_s0 5 0 8) (ym_n ym_s0) 0 (p1_v sc 1)) (ym_n ym_s0) 1 (p1_v sc 1)) (ym_n ym_s0) 2 0) (ym_n ym_s0) 3 (Int64.ofNat 0)) (ym_n ym_s0) 4 (Int64.ofNat 0)) (ym_n ym_s0) 5 none) (ym_n ym_s0) 6 none) 0 (Int.toNat 1) (Int.toNat 1)) (ym_n (ym_mk ym_s0 5 0 8)) 0 (p1_v sc 1)) (ym_n ym_s0) 7 (some (ym_n (ym_mk ym_s0 5 0 8)))) := ⟨1, rfl, by decide, hk, rfl, Nat.le_refl _, ym_rt_cons fin⟩
    exact sg_18_0 (H3 _ _ _) _ _ _ _ _ _ ⟨rfl, hk, hk, Or.inl rfl, Nat.le_refl _, Nat.le_refl _, hk, fun _ => c1, fun _ => c1⟩
end
