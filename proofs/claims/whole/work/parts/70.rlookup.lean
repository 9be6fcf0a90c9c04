/-! The reference's look at tags: own work. -/
/-- the state's types are these -/
def zRE (s : ym_S) (E : zEnv) : Prop := s.1 13 = E.1 13 ∧ s.1 14 = E.1 14 ∧ s.1 15 = E.1 15 ∧ s.1 16 = E.1 16 ∧ s.1 17 = E.1 17 ∧ s.1 20 = E.1 20 ∧ s.1 21 = E.1 21 ∧ s.1 22 = E.1 22 ∧ s.1 23 = E.1 23 ∧ s.1 24 = E.1 24 ∧ s.2.1 18 = E.2 18 ∧ s.2.1 19 = E.2 19 ∧ s.2.1 25 = E.2 25
theorem eb_or {E : zEnv} {t g : Int} : ∀ (n : Nat) (j : Int), True := fun _ _ => trivial
section
variable {sc : xm_S} {P : xm_O → xm_H → Prop} {K : List ym_F} {s : ym_S} {E : zEnv} {n : Int}
/-- begins, in any state that holds the types -/
theorem rc_95 (H : zh sc K 0) (h20 : s.1 20 = E.1 20) (h21 : s.1 21 = E.1 21) {t g : Int} (ht : 0 ≤ t) (ht2 : t < 16) (hf : zWf E t) (hg : ym_in g) (kr : ym_Rt sc P K (some (ym_I (if eBg E t g then 1 else 0))) s) : ym_Go sc P K (95, 0, [some (ym_P 12), some (ym_I t), some (ym_I g), none, none], []) s := by
  obtain ⟨f1, f2, f3, -⟩ := hf
  have loop : ∀ (m : Nat) (a3 j : Int), E.1 20 t - j = m → 0 ≤ j → (a3 = 0 ∨ a3 = 1) → ym_Rt sc P K (some (ym_I (if a3 = 1 ∨ eb E t g m j = true then 1 else 0))) s → ym_Go sc P K (95, 5, [some (ym_P 12), some (ym_I t), some (ym_I g), some (ym_I a3), some (ym_I j)], []) s := by
    intro m
    induction m with
    | zero =>
      intro a3 j hj hj0 ha kr2
      refine sg_95_5 (zy H) _ _ _ _ ?_
      rw [h20]
      have e1 : (if a3 = 1 ∨ eb E t g 0 j = true then (1 : Int) else 0) = a3 := by
        rcases ha with rfl | rfl <;> simp [eb]
      rw [e1] at kr2
      exact ⟨⟨ht, by omega⟩, ⟨by omega, by omega⟩, fun w => by exfalso; omega, fun _ => ⟨ha, kr2⟩⟩
    | succ m ih =>
      intro a3 j hj hj0 ha kr2
      refine sg_95_5 (zy H) _ _ _ _ ?_
      rw [h20, h21]
      refine ⟨⟨ht, by omega⟩, ⟨by omega, by omega⟩, fun _ => ⟨⟨⟨by omega, by omega⟩, fun _ => ⟨⟨by omega, by omega⟩, hg⟩⟩, ?_⟩, fun w => by exfalso; omega⟩
      refine ih _ (j + 1) (by omega) (by omega) ?_ ?_
      · split
        · split
          · exact Or.inr rfl
          · exact Or.inl rfl
        · exact Or.inr rfl
      · have e1 : (if (if a3 = 0 then (if E.1 21 (96 * t + j) = g then (1 : Int) else 0) else 1) = 1 ∨ eb E t g m (j + 1) = true then (1 : Int) else 0) = (if a3 = 1 ∨ eb E t g (m + 1) j = true then 1 else 0) := by
          rw [eb]
          rcases ha with rfl | rfl
          · by_cases w : E.1 21 (96 * t + j) = g <;> simp [w]
          · simp
        rw [e1]
        exact kr2
  refine sg_95_0 (zy H) _ _ (loop (E.1 20 t).toNat 0 0 (by omega) (by decide) (Or.inl rfl) ?_)
  have e1 : (if (0 : Int) = 1 ∨ eb E t g (E.1 20 t).toNat 0 = true then (1 : Int) else 0) = (if eBg E t g then 1 else 0) := by
    unfold eBg
    simp
  rw [e1]
  exact kr
theorem eBg_neg {t g : Int} (hf : zWf E t) (hg : g < 0) : eBg E t g = false := by
  obtain ⟨f1, f2, f3, -⟩ := hf
  unfold eBg
  have : ∀ (m : Nat) (j : Int), E.1 20 t - j = m → 0 ≤ j → eb E t g m j = false := by
    intro m
    induction m with
    | zero => intro j _ _; rfl
    | succ m ih =>
      intro j hj hj0
      rw [eb, decide_eq_false, ih (j + 1) (by omega) (by omega)]
      · rfl
      · intro w
        have := f3 j hj0 (by omega)
        omega
  exact this _ 0 (by omega) (by decide)
/-- the alternative: a type, or -1 -/
theorem rc_124 (H : zh sc K 1) (hW : zWF E n) (h20 : s.1 20 = E.1 20) (h21 : s.1 21 = E.1 21) (h22 : s.1 22 = E.1 22) (h23 : s.1 23 = E.1 23) {t g : Int} (ht : 0 ≤ t) (ht2 : t < n) (h4 : E.1 13 t = 4) (hg : ym_in g) (kr : ym_Rt sc P K (some (ym_I (if g < 0 then -1 else ((eIx E t g 0).map (fun k => E.1 23 (6 * t + k))).getD (-1)))) s) : ym_Go sc P K (124, 0, [some (ym_P 12), some (ym_I t), some (ym_I g), none, none], []) s := by
  have hn := hW.1
  obtain ⟨-, -, w5, w6, w7, -⟩ := zW_w4 hW ht ht2 h4
  have found : ∀ (m : Nat) (a3 j : Int), E.1 22 t - j = m → 0 ≤ j → 0 ≤ a3 → a3 < 16 → ym_Rt sc P K (some (ym_I a3)) s → ym_Go sc P K (124, 5, [some (ym_P 12), some (ym_I t), some (ym_I g), some (ym_I a3), some (ym_I j)], []) s := by
    intro m
    induction m with
    | zero =>
      intro a3 j hj hj0 ha ha2 kr2
      refine sg_124_5 (zy H) _ _ _ _ ?_
      rw [h22]
      exact ⟨⟨ht, by omega⟩, ⟨by omega, by omega⟩, fun w => by exfalso; omega, fun _ => kr2⟩
    | succ m ih =>
      intro a3 j hj hj0 ha ha2 kr2
      refine sg_124_5 (zy H) _ _ _ _ ?_
      rw [h22]
      exact ⟨⟨ht, by omega⟩, ⟨by omega, by omega⟩, fun _ => ⟨⟨by omega, by omega⟩, fun w => by exfalso; omega, fun _ => ih a3 (j + 1) (by omega) (by omega) ha ha2 kr2⟩, fun w => by exfalso; omega⟩
  have loop : ∀ (m : Nat) (j : Int), E.1 22 t - j = m → 0 ≤ j → ym_Rt sc P K (some (ym_I (if g < 0 then -1 else ((ef E t g m j).map (fun k => E.1 23 (6 * t + k))).getD (-1)))) s → ym_Go sc P K (124, 5, [some (ym_P 12), some (ym_I t), some (ym_I g), some (ym_I (-1)), some (ym_I j)], []) s := by
    intro m
    induction m with
    | zero =>
      intro j hj hj0 kr2
      refine sg_124_5 (zy H) _ _ _ _ ?_
      rw [h22]
      have e1 : (if g < 0 then (-1 : Int) else ((ef E t g 0 j).map (fun k => E.1 23 (6 * t + k))).getD (-1)) = -1 := by
        split <;> rfl
      rw [e1] at kr2
      exact ⟨⟨ht, by omega⟩, ⟨by omega, by omega⟩, fun w => by exfalso; omega, fun _ => kr2⟩
    | succ m ih =>
      intro j hj hj0 kr2
      obtain ⟨k1, k2, -⟩ := w7 j hj0 (by omega)
      refine sg_124_5 (zy H) _ _ _ _ ?_
      rw [h22, h23]
      refine ⟨⟨ht, by omega⟩, ⟨by omega, by omega⟩, fun _ => ⟨by decide, fun _ => ⟨hg, fun hg0 => ih (j + 1) (by omega) (by omega) ?_, fun hg0 => ⟨⟨by omega, by omega⟩, ?_⟩⟩, fun w => absurd w (by decide)⟩, fun w => by exfalso; omega⟩
      · rw [if_pos hg0] at kr2 ⊢
        exact kr2
      · refine rc_95 (zk H) h20 h21 k1 (by omega) (zWf_of hW k1 (by omega)) hg (ym_rt_cons (sg_124_41 (zy H) _ _ _ _ _ ?_))
        rw [h23]
        rw [if_neg (by omega), ef] at kr2
        cases hb : eBg E (E.1 23 (6 * t + j)) g with
        | false =>
          rw [hb, if_neg (by decide)] at kr2
          rw [if_neg (by decide)]
          refine ⟨⟨by decide, fun w => absurd rfl w⟩, ?_⟩
          rw [if_pos rfl]
          refine ih (j + 1) (by omega) (by omega) ?_
          rw [if_neg (by omega)]
          exact kr2
        | true =>
          rw [hb, if_pos rfl] at kr2
          rw [if_pos rfl]
          refine ⟨⟨by decide, fun _ => ⟨by omega, by omega⟩⟩, ?_⟩
          rw [if_neg (by decide)]
          exact found m _ (j + 1) (by omega) (by omega) k1 (by omega) kr2
  exact sg_124_0 (zy H) _ _ (loop (E.1 22 t).toNat 0 (by omega) (by decide) (by unfold eIx at kr; rw [Int.sub_zero] at kr; exact kr))
theorem rc_89 (H : zh sc K 0) (h13 : s.1 13 = E.1 13) (h15 : s.1 15 = E.1 15) {t : Int} (ht : 0 ≤ t) (ht2 : t < 16) (kr : ym_Rt sc P K (some (ym_I (if eCh E t then 1 else 0))) s) : ym_Go sc P K (89, 0, [some (ym_P 12), some (ym_I t)], []) s := by
  refine sg_89_0 (zy H) _ ?_
  rw [h13, h15]
  refine ⟨⟨ht, ht2⟩, fun _ => ⟨ht, ht2⟩, ?_⟩
  have e1 : (if E.1 13 t = 4 then (if E.1 15 t = 20 then (1 : Int) else 0) else 0) = if eCh E t then 1 else 0 := by
    unfold eCh
    by_cases w1 : E.1 13 t = 4 <;> by_cases w2 : E.1 15 t = 20 <;> simp [w1, w2]
  rw [e1]
  exact kr
theorem eRs_fuel (hW : zWF E n) {g : Int} : ∀ (f f2 : Nat) (t : Int), 0 ≤ t → t < n → t < f → t < f2 → eRs E g f t = eRs E g f2 t
  | 0, f2, t, h0, h1, hf, hf2 => by exfalso; omega
  | f + 1, 0, t, h0, h1, hf, hf2 => by exfalso; omega
  | f + 1, f2 + 1, t, h0, h1, hf, hf2 => by
    unfold eRs
    cases hb : eCh E t with
    | false => rfl
    | true =>
      rw [if_pos rfl, if_pos rfl]
      cases hk : eIx E t g 0 with
      | none => rfl
      | some k =>
        have h4 : E.1 13 t = 4 := by
          unfold eCh at hb
          simp at hb
          exact hb.1
        obtain ⟨-, -, w5, w6, w7, -⟩ := zW_w4 hW h0 h1 h4
        obtain ⟨k1, k2, -⟩ := ef_ok _ _ _ hk
        obtain ⟨v1, v2, -⟩ := w7 k k1 (by omega)
        exact eRs_fuel hW f f2 _ v1 (by omega) (by omega) (by omega)
/-- a value of a type that isn't a CHOICE -/
theorem zs_v_own {r : Int → Int} {f : Nat} {t l p : Int} (hc : eCh E t = false) : zs_v E r (f + 1) t l p = (zs_h r l p (E.1 14 t)).bind (fun y => (zs_bd E r (zs_v E r f) (eCo E 17 t) y.1 y.2.1 y.2.2.1 y.2.2.2).map (fun z => ((E.1 14 t, zs_enc (E.1 14 t) (if E.1 13 (eCo E 17 t) = 0 then 0 else 1) z.1), z.2))) := by
  rw [zs_v]
  unfold zs_h
  cases zs_id r l p with
  | none => rfl
  | some x =>
    show (zs_le r l x.2.2 x.1).bind _ = (if x.2.1 = E.1 14 t then (zs_le r l x.2.2 x.1).map _ else none : Option (Int × Int × Int × Int)).bind _
    by_cases hg : x.2.1 = E.1 14 t
    · rw [if_pos hg]
      cases zs_le r l x.2.2 x.1 with
      | none => rfl
      | some y =>
        show (eRs E x.2.1 17 t).bind _ = _
        rw [eRs_own hc 16, if_pos hg.symm, hg]
        rfl
    · rw [if_neg hg]
      cases zs_le r l x.2.2 x.1 with
      | none => rfl
      | some y =>
        show (eRs E x.2.1 17 t).bind _ = _
        rw [eRs_own hc 16, if_neg (fun w => hg w.symm)]
        rfl
/-- a value of a CHOICE -/
theorem zs_v_ch (hW : zWF E n) {r : Int → Int} {f : Nat} {t l p : Int} (h0 : 0 ≤ t) (h1 : t < n) (hc : eCh E t = true) {c g b : Int} (hid : zs_id r l p = some (c, g, b)) : zs_v E r (f + 1) t l p = (eIx E t g 0).bind (fun k => zs_v E r (f + 1) (E.1 23 (6 * t + k)) l p) := by
  have hn := hW.1
  rw [zs_v, hid]
  cases hk : eIx E t g 0 with
  | none =>
    show (zs_le r l b c).bind (fun y => (eRs E g 17 t).bind _) = none
    have : eRs E g 17 t = none := by
      rw [eRs, hc, if_pos rfl, hk]
      rfl
    rw [this]
    cases zs_le r l b c <;> rfl
  | some k =>
    have h4 : E.1 13 t = 4 := by
      unfold eCh at hc
      simp at hc
      exact hc.1
    obtain ⟨-, -, w5, w6, w7, -⟩ := zW_w4 hW h0 h1 h4
    obtain ⟨k1, k2, -⟩ := ef_ok _ _ _ hk
    obtain ⟨v1, v2, -⟩ := w7 k k1 (by omega)
    show (zs_le r l b c).bind (fun y => (eRs E g 17 t).bind _) = zs_v E r (f + 1) (E.1 23 (6 * t + k)) l p
    have e1 : eRs E g 17 t = eRs E g 17 (E.1 23 (6 * t + k)) := by
      have : eRs E g 17 t = eRs E g 16 (E.1 23 (6 * t + k)) := by
        rw [eRs, hc, if_pos rfl, hk]
        rfl
      rw [this]
      exact eRs_fuel hW 16 17 _ v1 (by omega) (by omega) (by omega)
    rw [e1, zs_v, hid]
    rfl
end
