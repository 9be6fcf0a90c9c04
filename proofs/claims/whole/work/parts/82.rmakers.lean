/-! The reference's basic, bounded, tagged and list: own work. -/
def zKR (s s3 : ym_S) : Prop := (∀ c, c < 12 ∨ 45 ≤ c → s3.1 c = s.1 c ∧ s3.2.1 c = s.2.1 c) ∧ s3.2.2 = s.2.2
def rMade (s s3 : ym_S) (n what tag kind : Int) : Prop := zKR s s3 ∧ zAg (s.1, s.2.1) (s3.1, s3.2.1) n ∧ s3.1 12 1 = n + 1 ∧ (s3.1 12 15 = s.1 12 15 ∧ s3.1 12 16 = s.1 12 16 ∧ s3.1 12 18 = s.1 12 18 ∧ s3.1 26 = s.1 26 ∧ s3.1 27 = s.1 27) ∧ (s3.1 22 = s.1 22 ∧ s3.1 23 = s.1 23 ∧ s3.1 24 = s.1 24 ∧ s3.2.1 25 = s.2.1 25) ∧ (s3.1 13 n = what ∧ s3.1 14 n = tag ∧ s3.1 15 n = kind ∧ s3.1 20 n = 1 ∧ s3.1 21 (96 * n) = tag)
section
variable {sc : xm_S} {P : xm_O → xm_H → Prop} {K : List ym_F} {s : ym_S} {n : Int} {E : zEnv}
theorem zKR_r (s : ym_S) : zKR s s := ⟨fun _ _ => ⟨rfl, rfl⟩, rfl⟩
theorem zKR_w {s3 : ym_S} (h : zKR s s3) {c : Nat} {j v : Int} (h1 : 12 ≤ c) (h2 : c < 45) : zKR s (ym_wI s3 c j v) := ⟨fun k hk => ⟨(u_f (by omega)).trans (h.1 k hk).1, (h.1 k hk).2⟩, h.2⟩
theorem zKR_wJ {s3 : ym_S} (h : zKR s s3) {c : Nat} {j : Int} {v : Int64} (h1 : 12 ≤ c) (h2 : c < 45) : zKR s (ym_wJ s3 c j v) := ⟨fun k hk => ⟨(h.1 k hk).1, (u_f (by omega)).trans (h.1 k hk).2⟩, h.2⟩
theorem rMade_0 {s3 : ym_S} {what tag kind : Int} (h : rMade (ym_wI s 12 0 0) s3 n what tag kind) : rMade s s3 n what tag kind := by
  obtain ⟨⟨a1, a2⟩, ⟨b1, b2, b3, b4⟩, c, ⟨d1, d2, d3, d4, d5⟩, ⟨e1, e2, e3, e4⟩, f⟩ := h
  refine ⟨⟨fun k hk => ⟨(a1 k hk).1.trans (u_f (by omega)), (a1 k hk).2⟩, a2⟩, ⟨fun k hk j j0 j1 => (b1 k hk j j0 j1).trans (wI_c (by omega)), fun j j0 j1 => b2 j j0 j1, fun j j0 j1 => ?_, b4⟩, c, ⟨d1.trans (wI_j (by decide)), d2.trans (wI_j (by decide)), d3.trans (wI_j (by decide)), d4.trans (wI_f (by decide)), d5.trans (wI_f (by decide))⟩, ⟨e1.trans (wI_f (by decide)), e2.trans (wI_f (by decide)), e3.trans (wI_f (by decide)), e4⟩, f⟩
  obtain ⟨x, y, z⟩ := b3 j j0 j1
  exact ⟨x, y, z⟩
theorem rMade_w {s3 : ym_S} {what tag kind v : Int} {m : Nat} (hm : m = 16 ∨ m = 17) (h : rMade s s3 n what tag kind) : rMade s (ym_wI s3 m n v) n what tag kind := by
  obtain ⟨a, ⟨b1, b2, b3, b4⟩, c, ⟨d1, d2, d3, d4, d5⟩, ⟨e1, e2, e3, e4⟩, ⟨f1, f2, f3, f4, f5⟩⟩ := h
  refine ⟨zKR_w a (by omega) (by omega), ⟨fun k hk j j0 j1 => (wI_j (by omega)).trans (b1 k hk j j0 j1), fun j j0 j1 => (wI_c (by omega)).trans (b2 j j0 j1), fun j j0 j1 => ?_, b4⟩, (wI_c (by omega)).trans c, ⟨(wI_c (by omega)).trans d1, (wI_c (by omega)).trans d2, (wI_c (by omega)).trans d3, (wI_f (by omega)).trans d4, (wI_f (by omega)).trans d5⟩, ⟨(wI_f (by omega)).trans e1, (wI_f (by omega)).trans e2, (wI_f (by omega)).trans e3, e4⟩, ⟨(wI_c (by omega)).trans f1, (wI_c (by omega)).trans f2, (wI_c (by omega)).trans f3, (wI_c (by omega)).trans f4, (wI_c (by omega)).trans f5⟩⟩
  obtain ⟨x, y, z⟩ := b3 j j0 j1
  exact ⟨(wI_c (by omega)).trans x, (wI_c (by omega)).trans y, z⟩
theorem ym_u_j2 {G : Nat → Int → Int64} {k2 k : Nat} {i j : Int} {v : Int64} (hj : j ≠ i) : ym_u G k2 i v k j = G k j := by
  by_cases hk : k = k2
  · subst hk
    exact ym_u_jn hj
  · exact ym_u_ne hk
theorem rMade_J {s3 : ym_S} {what tag kind : Int} {v : Int64} {m : Nat} (hm : m = 18 ∨ m = 19) (h : rMade s s3 n what tag kind) : rMade s (ym_wJ s3 m n v) n what tag kind := by
  obtain ⟨a, ⟨b1, b2, b3, b4⟩, c, d, ⟨e1, e2, e3, e4⟩, f⟩ := h
  refine ⟨zKR_wJ a (by omega) (by omega), ⟨b1, b2, fun j j0 j1 => ?_, fun j j0 j1 => ?_⟩, c, d, ⟨e1, e2, e3, (u_f (by omega)).trans e4⟩, f⟩
  · obtain ⟨x, y, z⟩ := b3 j j0 j1
    exact ⟨x, y, (ym_u_ne (I := s3.2.1) (by omega)).trans z⟩
  · obtain ⟨x, y⟩ := b4 j j0 j1
    exact ⟨(ym_u_j2 (by omega)).trans x, (ym_u_j2 (by omega)).trans y⟩
theorem rc_86 (H : zh sc K 0) (hn1 : s.1 12 1 = n) (hn0 : 0 ≤ n) (hn : n < 16) {what tag kind : Int} (h1 : ym_in what) (h2 : ym_in tag) (h3 : ym_in kind) (kr : ∀ s3, rMade s s3 n what tag kind → s3.1 17 n = 0 → ym_Rt sc P K (some (ym_I n)) s3) : ym_Go sc P K (86, 0, [some (ym_P 12), some (ym_I what), some (ym_I tag), some (ym_I kind)], []) s := by
  refine sg_86_0 (zy H) _ _ _ ?_
  rw [hn1, show n + 1 - 1 = n by omega]
  have nb : (0 : Int) ≤ n ∧ n < 16 := ⟨hn0, hn⟩
  refine ⟨nb, h1, nb, h2, nb, h3, nb, ⟨by omega, by omega⟩, ⟨by omega, by omega⟩, h2, ⟨by omega, by omega⟩, kr _ ?_ ?_⟩
  · refine ⟨zKR_w (zKR_w (zKR_w (zKR_w (zKR_w (zKR_w (zKR_w (zKR_r s) (by decide) (by decide)) (by decide) (by decide)) (by decide) (by decide)) (by decide) (by decide)) (by decide) (by decide)) (by decide) (by decide)) (by decide) (by decide), ⟨fun k hk j j0 j1 => ?_, fun j j0 j1 => ?_, fun j j0 j1 => ⟨rfl, rfl, rfl⟩, fun j j0 j1 => ⟨rfl, rfl⟩⟩, wI_e, ⟨?_, ?_, ?_, rfl, rfl⟩, ⟨rfl, rfl, rfl, rfl⟩, ?_, ?_, ?_, ?_, ?_⟩
    · have hk12 : k ≠ 12 := by omega
      have hk21 : k ≠ 21 := by omega
      exact (wI_c hk12).trans ((wI_c hk21).trans ((wI_j (by omega)).trans ((wI_j (by omega)).trans ((wI_j (by omega)).trans ((wI_j (by omega)).trans (wI_j (by omega)))))))
    · show ym_u s.1 21 (96 * n) tag 21 j = s.1 21 j
      exact ym_u_jn (by omega)
    · exact (wI_j (by decide)).trans rfl
    · exact (wI_j (by decide)).trans rfl
    · exact (wI_j (by decide)).trans rfl
    · exact (wI_c (by decide)).trans ((wI_c (by decide)).trans ((wI_c (by decide)).trans ((wI_c (by decide)).trans ((wI_c (by decide)).trans ((wI_c (by decide)).trans wI_e)))))
    · exact (wI_c (by decide)).trans ((wI_c (by decide)).trans ((wI_c (by decide)).trans ((wI_c (by decide)).trans ((wI_c (by decide)).trans wI_e))))
    · exact (wI_c (by decide)).trans ((wI_c (by decide)).trans ((wI_c (by decide)).trans ((wI_c (by decide)).trans wI_e)))
    · exact (wI_c (by decide)).trans ((wI_c (by decide)).trans wI_e)
    · exact (wI_c (by decide)).trans wI_e
  · exact (wI_c (by decide)).trans ((wI_c (by decide)).trans ((wI_c (by decide)).trans wI_e))
theorem rc_87 (H : zh sc K 3) (hn1 : s.1 12 1 = n) (hn0 : 0 ≤ n) (hn : n ≤ 16) {a : Int} (ha : ym_in a) (kN : (¬ zBk a ∨ n = 16) → ym_Rt sc P K (some (ym_I (-1))) (ym_wI s 12 0 0)) (kY : zBk a → n < 16 → ∀ s3, rMade s s3 n 0 a a → s3.1 17 n = 0 → ym_Rt sc P K (some (ym_I n)) s3) : ym_Go sc P K (87, 0, [some (ym_P 12), some (ym_I a), none], []) s := by
  refine sg_87_0 (zy H) _ ⟨⟨ha, fun _ => ⟨ha, fun _ => ha⟩, fun _ => ⟨ha, fun _ => ⟨ha, fun _ => ha⟩⟩⟩, ?_⟩
  have hv := zBk_v a
  generalize (if a < 1 then ((if a = 12 then (1 : Int) else (if a = 22 then (1 : Int) else 0)) : Int) else (if 6 < a then ((if a = 12 then (1 : Int) else (if a = 22 then (1 : Int) else 0)) : Int) else 1)) = v at hv ⊢
  rw [hn1]
  refine ⟨fun w => kN (Or.inl (hv.mp w)), fun w => ⟨fun w2 => ?_, fun w2 => kN (Or.inr (by omega))⟩⟩
  have hb : zBk a := Classical.not_not.mp (fun z => w (hv.mpr z))
  exact rc_86 (zk (zm H (show 1 ≤ 3 by omega))) ((wI_j (by decide)).trans hn1) hn0 w2 (by decide) ha ha (fun s3 h3 h17 => ym_rt_cons (sg_87_54 (zy H) _ _ _ (kY hb w2 s3 (rMade_0 h3) h17)))
/-- is it a type -/
theorem rc_85 (H : zh sc K 0) (hn1 : s.1 12 1 = n) {a : Int} (ha : ym_in a) (k0 : (a < 0 ∨ n ≤ a) → ym_Rt sc P K (some (ym_I 0)) s) (k1 : 0 ≤ a → a < n → ym_Rt sc P K (some (ym_I 1)) s) : ym_Go sc P K (85, 0, [some (ym_P 12), some (ym_I a)], []) s := by
  refine sg_85_0 (zy H) _ ⟨⟨ha, fun _ => ha⟩, ?_⟩
  rw [hn1]
  by_cases w : a < 0
  · rw [if_pos w]
    exact k0 (Or.inl w)
  · rw [if_neg w]
    by_cases w2 : a < n
    · rw [if_pos w2]
      exact k1 (by omega) w2
    · rw [if_neg w2]
      exact k0 (Or.inr (by omega))
theorem rc_88 (H : zh sc K 3) (hW : zWF E n) (hE : zRE s E) (hn1 : s.1 12 1 = n) (hn0 : 0 ≤ n) {a : Int} (ha : ym_in a) {lo hi : Int64} (kN : (¬ zBo E n a lo hi ∨ n = 16) → ym_Rt sc P K (some (ym_I (-1))) (ym_wI s 12 0 0)) (kY : zBo E n a lo hi → n < 16 → ∀ s3, rMade s s3 n 0 (E.1 15 a) (E.1 15 a) → s3.1 17 n = 1 → s3.2.1 18 n = lo → s3.2.1 19 n = hi → ym_Rt sc P K (some (ym_I n)) s3) : ym_Go sc P K (88, 0, [some (ym_P 12), some (ym_I a), some (ym_J lo), none, some (ym_J hi), none, none, none], []) s := by
  have hn := hW.1
  obtain ⟨h13, h14, h15, h16, h17, h20, h21, h22, h23, h24, h18, h19, h25⟩ := hE
  refine sg_88_0 (zy H) _ _ _ ⟨fun w => kN (Or.inr (hn1.symm.trans w)), fun w => ?_⟩
  rw [hn1] at w
  have no : ¬ zBo E n a lo hi → ym_Rt sc P K (some (ym_I (-1))) (ym_wI s 12 0 0) := fun z => kN (Or.inl z)
  refine rc_85 (zk (zm H (show 1 ≤ 3 by omega))) ((wI_j (by decide)).trans hn1) ha (fun w2 => ym_rt_cons (sg_88_19 (zy H) _ _ _ _ ⟨by decide, fun _ => no (fun z => by have := z.1; omega), fun z => absurd rfl z⟩)) (fun h0 h1 => ym_rt_cons (sg_88_19 (zy H) _ _ _ _ ⟨by decide, fun z => absurd z (by decide), fun _ => ?_⟩))
  have ab : (0 : Int) ≤ a ∧ a < 16 := ⟨h0, by omega⟩
  have e13 : (ym_wI s 12 0 0).1 13 a = E.1 13 a := by rw [← h13]; rfl
  have e15 : (ym_wI s 12 0 0).1 15 a = E.1 15 a := by rw [← h15]; rfl
  have e17 : (ym_wI s 12 0 0).1 17 a = E.1 17 a := by rw [← h17]; rfl
  rw [e13, e15, e17]
  refine ⟨fun z => no (fun y => by have := y.2.2.2.2.1; omega), fun hc => ⟨ab, fun s0 => ⟨ab, fun b0 => ⟨ab, ?_⟩, fun b0 => no (fun y => b0 y.2.2.1)⟩, fun s0 => no (fun y => s0 y.2.1)⟩⟩
  obtain ⟨k1, k2, k3⟩ := zW_w0 hW h0 h1 s0
  have make : (E.1 15 a = 2 ∨ E.1 15 a = 4 ∨ E.1 15 a = 12 ∨ E.1 15 a = 22) → (E.1 15 a = 2 ∨ 0 ≤ ym_cmp lo (Int64.ofNat 0)) → ym_Go sc P ((88, 103, [some (ym_P 12), some (ym_I a), some (ym_J lo), none, some (ym_J hi), none, some (ym_I (E.1 15 a)), none], []) :: K) (86, 0, [some (ym_P 12), some (ym_I 0), some (ym_I (E.1 15 a)), some (ym_I (E.1 15 a))], []) (ym_wI s 12 0 0) := by
    intro y1 y2
    refine rc_86 (zk (zm H (show 1 ≤ 3 by omega))) ((wI_j (by decide)).trans hn1) hn0 (by omega) (by decide) ⟨by omega, by omega⟩ ⟨by omega, by omega⟩ (fun s3 h3 g17 => ym_rt_cons (sg_88_106 (zy H) _ _ _ _ _ ⟨⟨hn0, by omega⟩, ⟨hn0, by omega⟩, ⟨hn0, by omega⟩, ?_⟩))
    exact kY ⟨⟨h0, h1⟩, s0, b0, y1, hc, y2⟩ (by omega) _ (rMade_J (Or.inr rfl) (rMade_J (Or.inl rfl) (rMade_w (Or.inr rfl) (rMade_0 h3)))) (show ym_u s3.1 17 n 1 17 n = 1 from ym_u_eq) (show ym_u (ym_u s3.2.1 18 n lo) 19 n hi 18 n = lo from (ym_u_ne (show (18 : Nat) ≠ 19 by decide)).trans ym_u_eq) (show ym_u (ym_u s3.2.1 18 n lo) 19 n hi 19 n = hi from ym_u_eq)
  have tail : (E.1 15 a = 2 ∨ E.1 15 a = 4 ∨ E.1 15 a = 12 ∨ E.1 15 a = 22) → (E.1 15 a = 2 → ym_Go sc P ((88, 103, [some (ym_P 12), some (ym_I a), some (ym_J lo), none, some (ym_J hi), none, some (ym_I (E.1 15 a)), none], []) :: K) (86, 0, [some (ym_P 12), some (ym_I 0), some (ym_I (E.1 15 a)), some (ym_I (E.1 15 a))], []) (ym_wI s 12 0 0)) ∧ (¬ E.1 15 a = 2 → (ym_cmp lo (Int64.ofNat 0) < 0 → ym_Rt sc P K (some (ym_I (-1))) (ym_wI s 12 0 0)) ∧ (0 ≤ ym_cmp lo (Int64.ofNat 0) → ym_Go sc P ((88, 103, [some (ym_P 12), some (ym_I a), some (ym_J lo), none, some (ym_J hi), none, some (ym_I (E.1 15 a)), none], []) :: K) (86, 0, [some (ym_P 12), some (ym_I 0), some (ym_I (E.1 15 a)), some (ym_I (E.1 15 a))], []) (ym_wI s 12 0 0))) := by
    intro y1
    refine ⟨fun z => make y1 (Or.inl z), fun z => ⟨fun z2 => no (fun y => ?_), fun z2 => make y1 (Or.inr z2)⟩⟩
    rcases y.2.2.2.2.2 with y | y <;> omega
  refine ⟨fun z => tail (Or.inl z), fun z1 => ⟨fun z => tail (Or.inr (Or.inl z)), fun z2 => ⟨fun z => tail (Or.inr (Or.inr (Or.inl z))), fun z3 => ⟨fun z => tail (Or.inr (Or.inr (Or.inr z))), fun z4 => no (fun y => ?_)⟩⟩⟩⟩
  rcases y.2.2.2.1 with y | y | y | y
  · exact z1 y
  · exact z2 y
  · exact z3 y
  · exact z4 y
theorem rc_90 (H : zh sc K 3) (hW : zWF E n) (hE : zRE s E) (hn1 : s.1 12 1 = n) (hn0 : 0 ≤ n) {tc nu ex a : Int} (htc : ym_in tc) (hnu : ym_in nu) (hex : ym_in ex) (ha : ym_in a) (kN : (¬ zTg E n tc nu ex a ∨ n = 16) → ym_Rt sc P K (some (ym_I (-1))) (ym_wI s 12 0 0)) (kY : zTg E n tc nu ex a → n < 16 → ∀ s3, rMade s s3 n (if ex = 0 then 1 else 2) (2097152 * tc + nu) 0 → s3.1 16 n = a → s3.1 17 n = 0 → ym_Rt sc P K (some (ym_I n)) s3) : ym_Go sc P K (90, 0, [some (ym_P 12), some (ym_I tc), some (ym_I nu), some (ym_I ex), some (ym_I a), none], []) s := by
  have hn := hW.1
  obtain ⟨h13, h14, h15, h16, h17, h20, h21, h22, h23, h24, h18, h19, h25⟩ := hE
  refine sg_90_0 (zy H) _ _ _ _ ⟨fun w => kN (Or.inr (hn1.symm.trans w)), fun w => ?_⟩
  rw [hn1] at w
  have no : ¬ zTg E n tc nu ex a → ym_Rt sc P K (some (ym_I (-1))) (ym_wI s 12 0 0) := fun z => kN (Or.inl z)
  refine rc_85 (zk (zm H (show 1 ≤ 3 by omega))) ((wI_j (by decide)).trans hn1) ha (fun w2 => ym_rt_cons (sg_90_20 (zy H) _ _ _ _ _ ⟨by decide, fun _ => no (fun z => by have := z.1; omega), fun z => absurd rfl z⟩)) (fun h0 h1 => ym_rt_cons (sg_90_20 (zy H) _ _ _ _ _ ⟨by decide, fun z => absurd z (by decide), fun _ => ?_⟩))
  refine ⟨htc, fun w => no (fun z => by have := z.2.1; omega), fun w1 => ⟨htc, fun w => no (fun z => by have := z.2.1; omega), fun w2 => ⟨hnu, fun w => no (fun z => by have := z.2.2.1; omega), fun w3 => ⟨hnu, fun w => no (fun z => by have := z.2.2.1; omega), fun w4 => ?_⟩⟩⟩⟩
  have make : zTg E n tc nu ex a → ym_Go sc P ((90, 76, [some (ym_P 12), some (ym_I tc), some (ym_I nu), some (ym_I ex), some (ym_I a), none], []) :: K) (86, 0, [some (ym_P 12), some (ym_I (if ex = 0 then (1 : Int) else 2)), some (ym_I (2097152 * tc + nu)), some (ym_I 0)], []) (ym_wI s 12 0 0) := by
    intro hok
    refine rc_86 (zk (zm H (show 1 ≤ 3 by omega))) ((wI_j (by decide)).trans hn1) hn0 (by omega) ⟨by split <;> omega, by split <;> omega⟩ ⟨by omega, by omega⟩ (by decide) (fun s3 h3 g17 => ym_rt_cons (sg_90_79 (zy H) _ _ _ _ _ ⟨⟨hn0, by omega⟩, ha, ?_⟩))
    exact kY hok (by omega) _ (rMade_w (Or.inl rfl) (rMade_0 h3)) wI_e ((wI_c (by decide)).trans g17)
  refine ⟨hex, fun we => ?_, fun we => ⟨hex, make ⟨⟨h0, h1⟩, ⟨w1, w2⟩, ⟨w3, w4⟩, fun z => absurd z we⟩⟩⟩
  refine rc_89 (s := ym_wI s 12 0 0) (E := E) (zk (zm H (show 1 ≤ 3 by omega))) ((wI_f (by decide)).trans h13) ((wI_f (by decide)).trans h15) h0 (by omega) (ym_rt_cons (sg_90_54 (zy H) _ _ _ _ _ ?_))
  cases hc : eCh E a with
  | false => exact ⟨by decide, fun _ => ⟨hex, make ⟨⟨h0, h1⟩, ⟨w1, w2⟩, ⟨w3, w4⟩, fun _ => hc⟩⟩, fun z => absurd rfl z⟩
  | true => exact ⟨by decide, fun z => absurd z (by decide), fun _ => no (fun z => by have := z.2.2.2 we; rw [hc] at this; cases this)⟩
theorem rc_91 (H : zh sc K 3) (hn : n ≤ 16) (hn1 : s.1 12 1 = n) (hn0 : 0 ≤ n) {kd a : Int} (hkd : ym_in kd) (ha : ym_in a) (kN : (¬ ((0 ≤ a ∧ a < n) ∧ (kd = 16 ∨ kd = 17)) ∨ n = 16) → ym_Rt sc P K (some (ym_I (-1))) (ym_wI s 12 0 0)) (kY : (0 ≤ a ∧ a < n) → (kd = 16 ∨ kd = 17) → n < 16 → ∀ s3, rMade s s3 n 3 kd kd → s3.1 16 n = a → s3.1 17 n = 0 → ym_Rt sc P K (some (ym_I n)) s3) : ym_Go sc P K (91, 0, [some (ym_P 12), some (ym_I kd), some (ym_I a), none], []) s := by
  refine sg_91_0 (zy H) _ _ ⟨fun w => kN (Or.inr (hn1.symm.trans w)), fun w => ?_⟩
  rw [hn1] at w
  refine rc_85 (zk (zm H (show 1 ≤ 3 by omega))) ((wI_j (by decide)).trans hn1) ha (fun w2 => ym_rt_cons (sg_91_19 (zy H) _ _ _ ⟨by decide, fun _ => kN (Or.inl (fun z => by omega)), fun z => absurd rfl z⟩)) (fun h0 h1 => ym_rt_cons (sg_91_19 (zy H) _ _ _ ⟨by decide, fun z => absurd z (by decide), fun _ => ?_⟩))
  have make : (kd = 16 ∨ kd = 17) → ym_Go sc P ((91, 40, [some (ym_P 12), some (ym_I kd), some (ym_I a), none], []) :: K) (86, 0, [some (ym_P 12), some (ym_I 3), some (ym_I kd), some (ym_I kd)], []) (ym_wI s 12 0 0) := by
    intro hk
    refine rc_86 (zk (zm H (show 1 ≤ 3 by omega))) ((wI_j (by decide)).trans hn1) hn0 (by omega) (by decide) hkd hkd (fun s3 h3 g17 => ym_rt_cons (sg_91_43 (zy H) _ _ _ ⟨⟨hn0, by omega⟩, ha, ?_⟩))
    exact kY ⟨h0, h1⟩ hk (by omega) _ (rMade_w (Or.inl rfl) (rMade_0 h3)) wI_e ((wI_c (by decide)).trans g17)
  exact ⟨hkd, fun w => make (Or.inl w), fun w => ⟨hkd, fun w2 => make (Or.inr w2), fun w2 => kN (Or.inl (fun z => by omega))⟩⟩
end
