/-! The class' basic, bounded, tagged and list: own work. -/
/-- not made -/
def zNo (sc : xm_S) (P : xm_O → xm_H → Prop) (K : List ym_F) (s : ym_S) : Prop := ∀ s2, zOld s s2 → ym_n s2 ≤ ym_n s + 2 → ym_z s2 ≤ ym_z s + 9 → ym_Rt sc P K (some (ym_I (-1))) s2
/-- made -/
def zYes (sc : xm_S) (P : xm_O → xm_H → Prop) (K : List ym_F) (s : ym_S) (n fo tg b : Int) (lo hi : Int64) (i m : Option Nat) (L : List Int) : Prop := ∀ s3, zMade s s3 n fo tg b lo hi i m L → ym_n s3 ≤ ym_n s + 2 → ym_z s3 ≤ ym_z s + 9 → (∀ k, 12 ≤ k → k ≤ 27 → zAc s s3 k) → ym_Rt sc P K (some (ym_I n)) s3
def zBk (a : Int) : Prop := (1 ≤ a ∧ a ≤ 6) ∨ a = 12 ∨ a = 22
section
variable {sc : xm_S} {P : xm_O → xm_H → Prop} {K : List ym_F} {s : ym_S} {n : Int} {E : zEnv}
theorem zNo_s (h : zNo sc P K s) : ym_Rt sc P K (some (ym_I (-1))) s := h s (zOld_r s) (by omega) (by omega)
theorem zBk_v (a : Int) : (if a < 1 then ((if a = 12 then (1 : Int) else (if a = 22 then (1 : Int) else 0)) : Int) else (if 6 < a then ((if a = 12 then (1 : Int) else (if a = 22 then (1 : Int) else 0)) : Int) else 1)) = 0 ↔ ¬ zBk a := by
  unfold zBk
  repeat' split
  all_goals omega
theorem zBk_in (a : Int) : ym_in (if a < 1 then ((if a = 12 then (1 : Int) else (if a = 22 then (1 : Int) else 0)) : Int) else (if 6 < a then ((if a = 12 then (1 : Int) else (if a = 22 then (1 : Int) else 0)) : Int) else 1)) := by
  repeat' split
  all_goals decide
theorem cc_1 (H : zh sc K 5) (h46 : 46 ≤ ym_n s) (hn1 : s.1 1 1 = n) (hn0 : 0 ≤ n) (hn : n ≤ 16) {a : Int} (ha : ym_in a) (kN : (¬ zBk a ∨ n = 16) → zNo sc P K s) (kY : zBk a → n < 16 → zYes sc P K s n a a 0 (Int64.ofNat 0) (Int64.ofNat 0) none none [a]) : ym_Go sc P K (1, 0, [some (ym_P 1), some (ym_I a)], []) s := by
  refine sg_1_0 (zy H) _ (sg_15_0 (zy (zk H)) _ ⟨⟨ha, fun _ => ⟨ha, fun _ => ha⟩, fun _ => ⟨ha, fun _ => ⟨ha, fun _ => ha⟩⟩⟩, ?_⟩)
  have hv := zBk_v a
  have hi := zBk_in a
  generalize (if a < 1 then ((if a = 12 then (1 : Int) else (if a = 22 then (1 : Int) else 0)) : Int) else (if 6 < a then ((if a = 12 then (1 : Int) else (if a = 22 then (1 : Int) else 0)) : Int) else 1)) = v at hv hi ⊢
  refine ym_rt_cons (sg_1_4 (zy H) _ _ ⟨hi, fun w => zNo_s (kN (Or.inl (hv.mp w))), fun w => ?_⟩)
  have hb : zBk a := Classical.not_not.mp (fun z => w (hv.mpr z))
  refine sg_19_0 (zy (zk H)) _ (cc_18 (zk (zk (zm H (show 2 ≤ 5 by omega)))) h46 ha ha (Or.inl rfl) (by unfold zBk at hb; omega) none none (fun s2 ho hT e1 e2 => ?_))
  refine ym_rt_cons (sg_19_14 (zy (zk H)) _ _ (ym_rt_cons (sg_1_12b (zy H) _ _ ?_)))
  refine cc_17 (zk (zm H (show 1 ≤ 5 by omega))) h46 ho hT hn1 hn0 hn (fun w => ?_) (fun w s3 hM g1 g2 g3 => ?_)
  · exact ym_rt_cons (sg_1_15 (zy H) _ _ (kN (Or.inr w) s2 ho (by omega) (by omega)))
  · exact ym_rt_cons (sg_1_15 (zy H) _ _ (kY hb w s3 hM (by omega) (by omega) g3))
/-- what bounded takes -/
def zBo (E : zEnv) (n a : Int) (lo hi : Int64) : Prop := (0 ≤ a ∧ a < n) ∧ E.1 13 a = 0 ∧ E.1 17 a = 0 ∧ (E.1 15 a = 2 ∨ E.1 15 a = 4 ∨ E.1 15 a = 12 ∨ E.1 15 a = 22) ∧ ym_cmp lo hi ≤ 0 ∧ (E.1 15 a = 2 ∨ 0 ≤ ym_cmp lo (Int64.ofNat 0))
/-- what a type's cell says of bounds -/
theorem zCt_bd (hW : zWF E n) {t : Int} {c : Nat} (h0 : 0 ≤ t) (h1 : t < n) (h : zCt E s t c) : ((s.1 c 1 = s.1 c 0 ∧ s.1 c 2 = 0 ∧ (s.1 c 0 = 2 ∨ s.1 c 0 = 4 ∨ s.1 c 0 = 12 ∨ s.1 c 0 = 22)) ↔ (E.1 13 t = 0 ∧ E.1 17 t = 0 ∧ (E.1 15 t = 2 ∨ E.1 15 t = 4 ∨ E.1 15 t = 12 ∨ E.1 15 t = 22))) ∧ (E.1 13 t = 0 → s.1 c 0 = E.1 15 t) := by
  have hn := hW.1
  obtain ⟨a1, a2, a3, a4, a5, -⟩ := h
  obtain ⟨u0, u1, u2, u3, u4⟩ := eCo_ok hW 17 t h0 h1 (by omega)
  have srt := zW_srt hW h0 h1
  by_cases s0 : E.1 13 t = 0
  · have hco : eCo E 17 t = t := by rw [eCo, if_neg (by omega)]
    have hch : eCh E t = false := by unfold eCh; rw [s0]; rfl
    obtain ⟨k1, k2, k3⟩ := zW_w0 hW h0 h1 s0
    rw [hch, if_neg (by decide)] at a4
    rw [hco] at a3 a5
    rw [if_pos s0] at a5
    have e0 : s.1 c 0 = E.1 15 t := by
      rw [a3]
      unfold zFo
      rw [if_neg (by omega), if_neg (by omega)]
    rw [a4, a5, e0, k2]
    exact ⟨⟨fun w => ⟨s0, w.2⟩, fun w => ⟨rfl, w.2⟩⟩, fun _ => rfl⟩
  · refine ⟨⟨fun w => ?_, fun w => absurd w.1 s0⟩, fun w => absurd w s0⟩
    exfalso
    obtain ⟨w1, w2, w3⟩ := w
    by_cases s1 : E.1 13 t = 1
    · obtain ⟨-, wg, wc⟩ := zW_w1 hW h0 h1 s1
      obtain ⟨g1, g2⟩ := wg
      have hch : eCh E t = false := by unfold eCh; rw [s1]; rfl
      rw [hch, if_neg (by decide)] at a4
      omega
    · have hco : eCo E 17 t = t := by rw [eCo, if_neg s1]
      rw [hco] at a3
      unfold zFo at a3
      rcases srt with z | z | z | z | z
      · exact s0 z
      · exact s1 z
      · rw [if_pos z] at a3
        omega
      · rw [if_neg (by omega), if_pos z] at a3
        obtain ⟨-, k1, -⟩ := zW_w3 hW h0 h1 z
        omega
      · rw [if_neg (by omega), if_neg (by omega)] at a3
        obtain ⟨k1, -⟩ := zW_w4 hW h0 h1 z
        omega
theorem cc_2 (H : zh sc K 5) (h46 : 46 ≤ ym_n s) (hW : zWF E n) (hC : zCl E s n) (hT : zTn s) (hin : ∀ c j, ym_in (s.1 c j)) (hn1 : s.1 1 1 = n) (hn0 : 0 ≤ n) {a : Int} (ha : ym_in a) {lo hi : Int64} (kN : (¬ zBo E n a lo hi ∨ n = 16) → zNo sc P K s) (kY : zBo E n a lo hi → n < 16 → ∀ i m ca, ym_R s 2 a = some ca → ym_R s ca 6 = m → zYes sc P K s n (E.1 15 a) (E.1 15 a) 1 lo hi i m [E.1 15 a]) : ym_Go sc P K (2, 0, [some (ym_P 1), some (ym_I a), some (ym_J lo), none, some (ym_J hi), none, none], []) s := by
  have hn := hW.1
  refine sg_2_0 (zy H) _ _ _ (cc_16 (zk (zm H (show 1 ≤ 5 by omega))) hn hn1 hC ha (fun w => ym_rt_cons (sg_2_5 (zy H) _ _ _ (zNo_s (kN (Or.inl (fun z => by have := z.1; omega)))))) (fun k h0 h1 hk => ym_rt_cons (sg_2_5b (zy H) _ _ _ _ ?_)))
  obtain ⟨k', hk', hct⟩ := hC a h0 h1
  obtain rfl : k = k' := Option.some.inj (hk.symm.trans hk')
  obtain ⟨b1, b2⟩ := zCt_bd hW h0 h1 hct
  obtain ⟨t1, t2, -⟩ := id hct
  have no : ¬ zBo E n a lo hi → ym_Rt sc P K (some (ym_I (-1))) s := fun z => zNo_s (kN (Or.inl z))
  have go : ym_Go sc P K (2, 17, [some (ym_P 1), some (ym_I a), some (ym_J lo), none, some (ym_J hi), none, some (ym_Q k)], [ym_I (if s.1 k 1 = s.1 k 0 ∧ s.1 k 2 = 0 ∧ (s.1 k 0 = 2 ∨ s.1 k 0 = 4 ∨ s.1 k 0 = 12 ∨ s.1 k 0 = 22) then 1 else 0)]) s := by
    refine sg_2_17 (zy H) _ _ _ _ _ ?_
    by_cases hg : s.1 k 1 = s.1 k 0 ∧ s.1 k 2 = 0 ∧ (s.1 k 0 = 2 ∨ s.1 k 0 = 4 ∨ s.1 k 0 = 12 ∨ s.1 k 0 = 22)
    · rw [if_pos hg]
      obtain ⟨g1, g2, g3⟩ := b1.mp hg
      have e0 := b2 g1
      refine ⟨by decide, fun w => absurd w (by decide), fun _ => ⟨fun w => no (fun z => by have := z.2.2.2.2.1; omega), fun w => ?_⟩⟩
      have make : (E.1 15 a = 2 ∨ 0 ≤ ym_cmp lo (Int64.ofNat 0)) → ym_Go sc P ((2, 52, [some (ym_P 1), some (ym_I a), some (ym_J lo), none, some (ym_J hi), none, some (ym_Q k)], [ym_P 1]) :: K) (23, 0, [some (ym_Q k), some (ym_J lo), none, some (ym_J hi), none], []) s := by
        intro hz
        have hbo : zBo E n a lo hi := ⟨⟨h0, h1⟩, g1, g2, g3, w, hz⟩
        have T5 : ym_T (ym_mk s 5 0 8) k = some (5, 0) := ((zOld_mk s 5 0 8).1 k (hT.1 k _ t1)).2.2.2.trans t1
        have body : ∀ i m, ym_R s k 6 = m → ym_Go sc P ((23, 23, [some (ym_Q k), some (ym_J lo), none, some (ym_J hi), none], [ym_Q (ym_n s)]) :: (2, 52, [some (ym_P 1), some (ym_I a), some (ym_J lo), none, some (ym_J hi), none, some (ym_Q k)], [ym_P 1]) :: K) (18, 0, [some (ym_Q (ym_n s)), some (ym_I (s.1 k 0)), some (ym_I (s.1 k 1)), some (ym_I 1), some (ym_J lo), none, some (ym_J hi), none, some (ym_o i), some (ym_o m)], []) (ym_mk s 5 0 8) := by
          intro i m hm6
          refine cc_18 (zk (zk (zm H (show 2 ≤ 5 by omega)))) h46 (hin _ _) (hin _ _) (Or.inr rfl) (by omega) i m (fun s2 ho hTy e1 e2 => ?_)
          refine ym_rt_cons (sg_23_26 (zy (zk H)) _ _ _ _ (ym_rt_cons (sg_2_55b (zy H) _ _ _ _ _ ?_)))
          refine cc_17 (zk (zm H (show 1 ≤ 5 by omega))) h46 ho hTy hn1 hn0 hn (fun w => ?_) (fun w s3 hM q1 q2 q3 => ?_)
          · exact ym_rt_cons (sg_2_58 (zy H) _ _ _ _ _ (kN (Or.inr w) s2 ho (by omega) (by omega)))
          · refine ym_rt_cons (sg_2_58 (zy H) _ _ _ _ _ ?_)
            rw [hg.1, e0] at hM
            exact kY hbo w i m k hk hm6 s3 hM (by omega) (by omega) q3
        refine sg_23_0 (zy (zk H)) _ _ _ ⟨T5, fun _ => ⟨fun e6 => body none none e6, fun q e6 => body none (some q) e6⟩, fun q _ => ⟨fun e6 => body (some q) none e6, fun q2 e6 => body (some q) (some q2) e6⟩⟩
      refine ⟨t1, fun w2 => make (Or.inl (by omega)), fun w2 => ⟨fun w3 => no (fun z => ?_), fun w3 => make (Or.inr w3)⟩⟩
      rcases z.2.2.2.2.2 with z | z <;> omega
    · rw [if_neg hg]
      refine ⟨by decide, fun _ => no (fun z => hg (b1.mpr ⟨z.2.1, z.2.2.1, z.2.2.2.1⟩)), fun w => absurd rfl w⟩
  refine ⟨t1, sg_25_0 (zy (zk H)) _ ⟨t1, fun w => ?_, fun w => sg_26_0 (zy (zk (zk (zm H (show 2 ≤ 5 by omega))))) _ ⟨t1, ym_rt_cons (sg_25_29 (zy (zk H)) _ _ _ ?_)⟩⟩⟩
  · refine ym_rt_cons ?_
    have e1 : (if s.1 k 2 = 0 then ((if (if s.1 k 1 = s.1 k 0 then (0 : Int) else 1) = 0 then (1 : Int) else 0) : Int) else 0) = (if s.1 k 1 = s.1 k 0 ∧ s.1 k 2 = 0 ∧ (s.1 k 0 = 2 ∨ s.1 k 0 = 4 ∨ s.1 k 0 = 12 ∨ s.1 k 0 = 22) then 1 else 0) := by
      by_cases w1 : s.1 k 2 = 0 <;> by_cases w2 : s.1 k 1 = s.1 k 0 <;> simp [w1, w2, w]
    rw [e1]
    exact go
  · have hx : (if (s.1 k 0) = 4 then (1 : Int) else (if (s.1 k 0) = 12 then (1 : Int) else (if (s.1 k 0) = 22 then (1 : Int) else 0))) = 0 ∨ (if (s.1 k 0) = 4 then (1 : Int) else (if (s.1 k 0) = 12 then (1 : Int) else (if (s.1 k 0) = 22 then (1 : Int) else 0))) = 1 := by
      repeat' split
      all_goals simp
    have hx2 : (if (s.1 k 0) = 4 then (1 : Int) else (if (s.1 k 0) = 12 then (1 : Int) else (if (s.1 k 0) = 22 then (1 : Int) else 0))) = 1 ↔ (s.1 k 0 = 4 ∨ s.1 k 0 = 12 ∨ s.1 k 0 = 22) := by
      repeat' split
      all_goals omega
    generalize (if (s.1 k 0) = 4 then (1 : Int) else (if (s.1 k 0) = 12 then (1 : Int) else (if (s.1 k 0) = 22 then (1 : Int) else 0))) = v at hx hx2 ⊢
    refine ⟨⟨by omega, by omega⟩, fun _ => ⟨t1, fun _ => ⟨by split <;> omega, by split <;> omega⟩⟩, ym_rt_cons ?_⟩
    have e1 : (if (if v = 0 then (0 : Int) else 1) = 0 then (0 : Int) else (if s.1 k 2 = 0 then ((if (if s.1 k 1 = s.1 k 0 then (0 : Int) else 1) = 0 then (1 : Int) else 0) : Int) else 0)) = (if s.1 k 1 = s.1 k 0 ∧ s.1 k 2 = 0 ∧ (s.1 k 0 = 2 ∨ s.1 k 0 = 4 ∨ s.1 k 0 = 12 ∨ s.1 k 0 = 22) then 1 else 0) := by
      rcases hx with hx | hx
      · subst hx
        have : ¬ (s.1 k 0 = 4 ∨ s.1 k 0 = 12 ∨ s.1 k 0 = 22) := fun z => by have := hx2.mpr z; omega
        rw [if_pos rfl, if_pos rfl, if_neg (fun z => ?_)]
        rcases z.2.2 with z | z
        · exact w z
        · exact this z
      · subst hx
        have h3 := hx2.mp rfl
        by_cases w1 : s.1 k 2 = 0 <;> by_cases w2 : s.1 k 1 = s.1 k 0 <;> simp [w1, w2, h3]
    rw [e1]
    exact go
/-- what tagged takes -/
def zTg (E : zEnv) (n tc nu ex a : Int) : Prop := (0 ≤ a ∧ a < n) ∧ (1 ≤ tc ∧ tc ≤ 3) ∧ (0 ≤ nu ∧ nu ≤ 2000) ∧ (ex = 0 → eCh E a = false)
theorem zCt_b (hW : zWF E n) {t : Int} {c : Nat} (h0 : 0 ≤ t) (h1 : t < n) (h : zCt E s t c) : s.1 c 2 = 0 ∨ s.1 c 2 = 1 := by
  have hn := hW.1
  obtain ⟨a1, a2, a3, a4, a5, -⟩ := h
  obtain ⟨u0, u1, -⟩ := eCo_ok hW 17 t h0 h1 (by omega)
  rw [a5]
  split
  · rename_i s0
    exact (zW_w0 hW u0 (by omega) s0).2.2
  · exact Or.inl rfl
theorem zTag {a b : Int} (h0 : 1 ≤ a) (h1 : a ≤ 3) : ym_shl a 21 + b = 2097152 * a + b := by
  have : a = 1 ∨ a = 2 ∨ a = 3 := by omega
  have e1 : ym_shl 1 21 = 2097152 := by decide
  have e2 : ym_shl 2 21 = 4194304 := by decide
  have e3 : ym_shl 3 21 = 6291456 := by decide
  rcases this with rfl | rfl | rfl
  · rw [e1]; omega
  · rw [e2]; omega
  · rw [e3]; omega
theorem cc_3 (H : zh sc K 5) (h46 : 46 ≤ ym_n s) (hW : zWF E n) (hC : zCl E s n) (hT : zTn s) (hin : ∀ c j, ym_in (s.1 c j)) (hn1 : s.1 1 1 = n) (hn0 : 0 ≤ n) {tc nu ex a : Int} (htc : ym_in tc) (hnu : ym_in nu) (hex : ym_in ex) (ha : ym_in a) (kN : (¬ zTg E n tc nu ex a ∨ n = 16) → zNo sc P K s) (kE : zTg E n tc nu ex a → n < 16 → ¬ ex = 0 → ∀ ca, ym_R s 2 a = some ca → zYes sc P K s n 118 (2097152 * tc + nu) 0 (Int64.ofNat 0) (Int64.ofNat 0) (some ca) none [2097152 * tc + nu]) (kI : zTg E n tc nu ex a → n < 16 → ex = 0 → ∀ ca, ym_R s 2 a = some ca → zYes sc P K s n (s.1 ca 0) (2097152 * tc + nu) (s.1 ca 2) (s.2.1 ca 3) (s.2.1 ca 4) (ym_R s ca 5) (ym_R s ca 6) [2097152 * tc + nu]) : ym_Go sc P K (3, 0, [some (ym_P 1), some (ym_I tc), some (ym_I nu), some (ym_I ex), some (ym_I a), none, none], []) s := by
  have hn := hW.1
  have no : ¬ zTg E n tc nu ex a → ym_Rt sc P K (some (ym_I (-1))) s := fun z => zNo_s (kN (Or.inl z))
  refine sg_3_0 (zy H) _ _ _ _ (cc_16 (zk (zm H (show 1 ≤ 5 by omega))) hn hn1 hC ha (fun w => ym_rt_cons (sg_3_6 (zy H) _ _ _ _ (no (fun z => by have := z.1; omega)))) (fun k h0 h1 hk => ym_rt_cons (sg_3_6b (zy H) _ _ _ _ _ ?_)))
  obtain ⟨k', hk', hct⟩ := hC a h0 h1
  obtain rfl : k = k' := Option.some.inj (hk.symm.trans hk')
  obtain ⟨t1, t2, t3, -⟩ := id hct
  have hch := zFo_ch hW h0 h1
  rw [← t3] at hch
  have hb := zCt_b hW h0 h1 hct
  refine ⟨htc, fun w => no (fun z => by have := z.2.1; omega), fun w1 => ⟨htc, fun w => no (fun z => by have := z.2.1; omega), fun w2 => ⟨hnu, fun w => no (fun z => by have := z.2.2.1; omega), fun w3 => ⟨hnu, fun w => no (fun z => by have := z.2.2.1; omega), fun w4 => ⟨hex, fun we => ⟨t1, fun w => no (fun z => ?_), fun w => ⟨hex, fun _ => ?_, fun z => absurd we z⟩⟩, fun we => ⟨hex, fun z => absurd z we, fun _ => ?_⟩⟩⟩⟩⟩⟩
  · have := z.2.2.2 we
    rw [hch.mp w] at this
    cases this
  · have hc : eCh E a = false := by
      cases hc : eCh E a with
      | false => rfl
      | true => exact absurd (hch.mpr hc) w
    have hok : zTg E n tc nu ex a := ⟨⟨h0, h1⟩, ⟨w1, w2⟩, ⟨w3, w4⟩, fun _ => hc⟩
    rw [zTag w1 w2]
    have T5 : ym_T (ym_mk s 5 0 8) k = some (5, 0) := ((zOld_mk s 5 0 8).1 k (hT.1 k _ t1)).2.2.2.trans t1
    have body : ∀ i m, ym_R s k 5 = i → ym_R s k 6 = m → ym_Go sc P ((24, 29, [some (ym_Q k), some (ym_I (2097152 * tc + nu))], [ym_Q (ym_n s)]) :: (3, 81, [some (ym_P 1), some (ym_I tc), some (ym_I nu), some (ym_I ex), some (ym_I a), some (ym_Q k), some (ym_I (2097152 * tc + nu))], [ym_P 1]) :: K) (18, 0, [some (ym_Q (ym_n s)), some (ym_I (s.1 k 0)), some (ym_I (2097152 * tc + nu)), some (ym_I (s.1 k 2)), some (ym_J (s.2.1 k 3)), none, some (ym_J (s.2.1 k 4)), none, some (ym_o i), some (ym_o m)], []) (ym_mk s 5 0 8) := by
      intro i m hi hm
      refine cc_18 (zk (zk (zm H (show 2 ≤ 5 by omega)))) h46 (hin _ _) ⟨by omega, by omega⟩ hb w i m (fun s2 ho hTy e1 e2 => ?_)
      refine ym_rt_cons (sg_24_32 (zy (zk H)) _ _ _ (ym_rt_cons (sg_3_84b (zy H) _ _ _ _ _ _ _ ?_)))
      refine cc_17 (zk (zm H (show 1 ≤ 5 by omega))) h46 ho hTy hn1 hn0 hn (fun w => ?_) (fun w s3 hM q1 q2 q3 => ?_)
      · exact ym_rt_cons (sg_3_87 (zy H) _ _ _ _ _ _ _ (kN (Or.inr w) s2 ho (by omega) (by omega)))
      · refine ym_rt_cons (sg_3_87 (zy H) _ _ _ _ _ _ _ ?_)
        rw [← hi, ← hm] at hM
        exact kI hok w we k hk s3 hM (by omega) (by omega) q3
    refine sg_24_0 (zy (zk H)) _ _ ⟨T5, fun e5 => ⟨fun e6 => body none none e5 e6, fun q e6 => body none (some q) e5 e6⟩, fun q e5 => ⟨fun e6 => body (some q) none e5 e6, fun q2 e6 => body (some q) (some q2) e5 e6⟩⟩
  · have hok : zTg E n tc nu ex a := ⟨⟨h0, h1⟩, ⟨w1, w2⟩, ⟨w3, w4⟩, fun z => absurd z we⟩
    rw [zTag w1 w2]
    refine sg_20_0 (zy (zk H)) _ _ (cc_18 (zk (zk (zm H (show 2 ≤ 5 by omega)))) h46 (by decide) ⟨by omega, by omega⟩ (Or.inl rfl) (by decide) (some k) none (fun s2 ho hTy e1 e2 => ?_))
    refine ym_rt_cons (sg_20_15 (zy (zk H)) _ _ _ (ym_rt_cons (sg_3_74b (zy H) _ _ _ _ _ _ _ ?_)))
    refine cc_17 (zk (zm H (show 1 ≤ 5 by omega))) h46 ho hTy hn1 hn0 hn (fun w => ?_) (fun w s3 hM q1 q2 q3 => ?_)
    · exact ym_rt_cons (sg_3_87 (zy H) _ _ _ _ _ _ _ (kN (Or.inr w) s2 ho (by omega) (by omega)))
    · exact ym_rt_cons (sg_3_87 (zy H) _ _ _ _ _ _ _ (kE hok w we k hk s3 hM (by omega) (by omega) q3))
/-- list -/
theorem cc_4 (H : zh sc K 5) (h46 : 46 ≤ ym_n s) (hn : n ≤ 16) (hC : zCl E s n) (hn1 : s.1 1 1 = n) (hn0 : 0 ≤ n) {kd a : Int} (hkd : ym_in kd) (ha : ym_in a) (kN : (¬ ((0 ≤ a ∧ a < n) ∧ (kd = 16 ∨ kd = 17)) ∨ n = 16) → zNo sc P K s) (kY : (0 ≤ a ∧ a < n) → (kd = 16 ∨ kd = 17) → n < 16 → ∀ ca, ym_R s 2 a = some ca → zYes sc P K s n (kd + 100) kd 0 (Int64.ofNat 0) (Int64.ofNat 0) (some ca) none [kd]) : ym_Go sc P K (4, 0, [some (ym_P 1), some (ym_I kd), some (ym_I a), none], []) s := by
  have no : ¬ ((0 ≤ a ∧ a < n) ∧ (kd = 16 ∨ kd = 17)) → ym_Rt sc P K (some (ym_I (-1))) s := fun z => zNo_s (kN (Or.inl z))
  refine sg_4_0 (zy H) _ _ (cc_16 (zk (zm H (show 1 ≤ 5 by omega))) hn hn1 hC ha (fun w => ym_rt_cons (sg_4_5 (zy H) _ _ (no (fun z => by omega)))) (fun k h0 h1 hk => ym_rt_cons (sg_4_5b (zy H) _ _ _ ?_)))
  have make : (kd = 16 ∨ kd = 17) → ym_Go sc P ((4, 27, [some (ym_P 1), some (ym_I kd), some (ym_I a), some (ym_Q k)], [ym_P 1]) :: K) (21, 0, [some (ym_I kd), some (ym_Q k)], []) s := by
    intro hk2
    have e1 : (if kd = 17 then (117 : Int) else 116) = kd + 100 := by split <;> omega
    refine sg_21_0 (zy (zk H)) _ _ ⟨hkd, ?_⟩
    rw [e1]
    refine cc_18 (zk (zk (zm H (show 2 ≤ 5 by omega)))) h46 ⟨by omega, by omega⟩ hkd (Or.inl rfl) (by omega) (some k) none (fun s2 ho hTy e1 e2 => ?_)
    refine ym_rt_cons (sg_21_26 (zy (zk H)) _ _ _ (ym_rt_cons (sg_4_30b (zy H) _ _ _ _ ?_)))
    refine cc_17 (zk (zm H (show 1 ≤ 5 by omega))) h46 ho hTy hn1 hn0 hn (fun w => ?_) (fun w s3 hM q1 q2 q3 => ?_)
    · exact ym_rt_cons (sg_4_33 (zy H) _ _ _ _ (kN (Or.inr w) s2 ho (by omega) (by omega)))
    · exact ym_rt_cons (sg_4_33 (zy H) _ _ _ _ (kY ⟨h0, h1⟩ hk2 w k hk s3 hM (by omega) (by omega) q3))
  exact ⟨hkd, fun w => make (Or.inl w), fun w => ⟨hkd, fun w2 => make (Or.inr w2), fun w2 => no (fun z => by omega)⟩⟩
end
