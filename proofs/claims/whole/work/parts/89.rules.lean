/-! The rules of tags, on both sides: own work. -/
def eMt1 (E : zEnv) (t u : Int) : Nat → Int → Bool
  | 0, _ => false
  | m + 1, j => eBg E u (E.1 21 (96 * t + j)) || eMt1 E t u m (j + 1)
def eMt (E : zEnv) (t u : Int) : Bool := eMt1 E t u (E.1 20 t).toNat 0
def zck (E : zEnv) (op i : Int) : Nat → Int → Bool
  | 0, _ => false
  | m + 1, o => if eMt E (E.1 23 (96 + i)) (E.1 23 (96 + o)) then true else if op = 16 ∧ E.1 24 (96 + o) = 0 then false else zck E op i m (o + 1)
def zcl (E : zEnv) (op i : Int) : Bool := if op = 16 ∧ E.1 24 (96 + i) = 0 then false else zck E op i (E.1 22 16 - (i + 1)).toNat (i + 1)
def zbr (E : zEnv) (op : Int) : Nat → Int → Bool
  | 0, _ => false
  | m + 1, i => zcl E op i || zbr E op m (i + 1)
def zBr (E : zEnv) (op : Int) : Bool := (decide (op = 20) && decide (E.1 22 16 = 0)) || zbr E op (E.1 22 16).toNat 0
def rck (E : zEnv) (i : Int) : Nat → Int → Bool
  | 0, _ => false
  | m + 1, k => eMt E (E.1 23 (96 + i)) (E.1 23 (96 + k)) || rck E i m (k + 1)
def zto (E : zEnv) : Nat → Int → Int
  | 0, o => o
  | m + 1, o => if 0 < E.1 24 (96 + o) then zto E m (o + 1) else o
section
variable {E : zEnv}
theorem zto_ge : ∀ (m : Nat) (o : Int), o ≤ zto E m o ∧ zto E m o ≤ o + m
  | 0, o => ⟨Int.le_refl _, by show o ≤ _; omega⟩
  | m + 1, o => by
    rw [zto]
    split
    · have := zto_ge m (o + 1)
      omega
    · omega
theorem zck_set {op i : Int} (hop : op ≠ 16) : ∀ (m : Nat) (o : Int), zck E op i m o = rck E i m o
  | 0, o => rfl
  | m + 1, o => by
    rw [zck, rck, zck_set hop m (o + 1), if_neg (show ¬ (op = 16 ∧ E.1 24 (96 + o) = 0) from fun z => hop z.1)]
    cases eMt E (E.1 23 (96 + i)) (E.1 23 (96 + o)) <;> rfl
theorem zck_seq {i : Int} (hm : ∀ k, 0 ≤ k → k < E.1 22 16 → 0 ≤ E.1 24 (96 + k)) : ∀ (m : Nat) (o : Int), 0 ≤ o → E.1 22 16 - 1 - o = m → zck E 16 i (m + 1) o = rck E i (zto E m o - o + 1).toNat o
  | 0, o, h0, hm0 => by
    rw [zck, zto, show (o - o + 1).toNat = 0 + 1 by omega, rck, zck, rck]
    cases eMt E (E.1 23 (96 + i)) (E.1 23 (96 + o)) <;> simp
  | m + 1, o, h0, hm0 => by
    rw [zck, zto]
    by_cases w : 0 < E.1 24 (96 + o)
    · have := zto_ge (E := E) m (o + 1)
      rw [if_pos w, if_neg (show ¬ ((16 : Int) = 16 ∧ E.1 24 (96 + o) = 0) from fun z => by omega), zck_seq hm m (o + 1) (by omega) (by omega), show (zto E m (o + 1) - o + 1).toNat = (zto E m (o + 1) - (o + 1) + 1).toNat + 1 by omega, rck]
      cases eMt E (E.1 23 (96 + i)) (E.1 23 (96 + o)) <;> rfl
    · have := hm o h0 (by omega)
      rw [if_neg w, if_pos (show (16 : Int) = 16 ∧ E.1 24 (96 + o) = 0 from ⟨rfl, by omega⟩), show (o - o + 1).toNat = 0 + 1 by omega, rck, rck]
      cases eMt E (E.1 23 (96 + i)) (E.1 23 (96 + o)) <;> rfl
theorem zcl_eq {op i : Int} (hm : ∀ k, 0 ≤ k → k < E.1 22 16 → 0 ≤ E.1 24 (96 + k)) (h0 : 0 ≤ i) (h1 : i < E.1 22 16) : zcl E op i = rck E i ((if op = 16 then zto E (E.1 22 16 - 1 - i).toNat i else E.1 22 16 - 1) - i).toNat (i + 1) := by
  unfold zcl
  by_cases hop : op = 16
  · subst hop
    rw [if_pos rfl]
    have hi := hm i h0 h1
    by_cases w : E.1 24 (96 + i) = 0
    · rw [if_pos ⟨rfl, w⟩]
      have : zto E (E.1 22 16 - 1 - i).toNat i = i := by
        cases (E.1 22 16 - 1 - i).toNat with
        | zero => rfl
        | succ m => rw [zto, if_neg (by omega)]
      rw [this, show (i - i).toNat = 0 by omega, rck]
    · rw [if_neg (fun z => w z.2)]
      by_cases hl : i = E.1 22 16 - 1
      · rw [show (E.1 22 16 - (i + 1)).toNat = 0 by omega, show (E.1 22 16 - 1 - i).toNat = 0 by omega, zck, zto, show (i - i).toNat = 0 by omega, rck]
      · have e1 : (E.1 22 16 - (i + 1)).toNat = (E.1 22 16 - 1 - (i + 1)).toNat + 1 := by omega
        have e2 : (E.1 22 16 - 1 - i).toNat = (E.1 22 16 - 1 - (i + 1)).toNat + 1 := by omega
        rw [e1, e2, zto, if_pos (by omega), zck_seq hm _ (i + 1) (by omega) (by omega)]
        congr 1
        omega
  · rw [if_neg hop, if_neg (fun z => hop z.1), zck_set hop]
    congr 1
    omega
end
section
variable {sc : xm_S} {P : xm_O → xm_H → Prop} {K : List ym_F} {s : ym_S} {E : zEnv} {n op : Int}
theorem cc_32 (H : zh sc K 2) {t u : Int} {c c2 : Nat} (hC : zCt E s t c) (hC2 : zCt E s u c2) (hf : zWf E t) (hf2 : zWf E u) (kr : ym_Rt sc P K (some (ym_I (if eMt E t u then 1 else 0))) s) : ym_Go sc P K (32, 0, [some (ym_Q c), some (ym_Q c2), none], []) s := by
  obtain ⟨x1, x2, x3, x4, x5, x6, x7, x8, x9, x10, x11⟩ := hC
  obtain ⟨f1, f2, f3, -⟩ := hf
  have x9' : s.2.2.1 c 7 = some (c + 1) := x9
  have loop : ∀ (m : Nat) (j : Int), 0 ≤ j → E.1 20 t - j = m → ym_Rt sc P K (some (ym_I (if eMt1 E t u m j then 1 else 0))) s → ym_Go sc P K (32, 2, [some (ym_Q c), some (ym_Q c2), some (ym_I j)], []) s := by
    intro m
    induction m with
    | zero =>
      intro j j0 jm kr
      refine sg_32_2b (zy H) _ _ _ ?_
      rw [x9']
      refine ⟨x1, fun z => (by cases z), fun q hq => ?_⟩
      obtain rfl := Option.some.inj hq
      exact ⟨_, x10, ⟨by omega, by omega⟩, ⟨by omega, by omega⟩, fun w => by exfalso; omega, fun _ => kr⟩
    | succ m ih =>
      intro j j0 jm kr
      refine sg_32_2b (zy H) _ _ _ ?_
      rw [x9']
      refine ⟨x1, fun z => (by cases z), fun q hq => ?_⟩
      obtain rfl := Option.some.inj hq
      refine ⟨_, x10, ⟨by omega, by omega⟩, ⟨by omega, by omega⟩, fun _ => ⟨fun z => (by cases z), fun q2 hq2 => ?_⟩, fun w => by exfalso; omega⟩
      obtain rfl := Option.some.inj hq2
      refine ⟨_, x10, ⟨j0, by omega⟩, hC2.1, ?_⟩
      rw [x11 j j0 (by omega)]
      obtain ⟨g1, g2⟩ := f3 j j0 (by omega)
      refine cc_31 (zk (zm H (show 1 ≤ 2 by omega))) hC2 hf2 ⟨by omega, by omega⟩ (ym_rt_cons (sg_32_21 (zy H) _ _ _ _ ?_))
      rw [eMt1] at kr
      cases hb : eBg E u (E.1 21 (96 * t + j)) with
      | false =>
        rw [hb, Bool.false_or] at kr
        exact ⟨by decide, fun _ => ih (j + 1) (by omega) (by omega) kr, fun z => absurd rfl z⟩
      | true =>
        rw [hb, Bool.true_or] at kr
        exact ⟨by decide, fun z => absurd z (by decide), fun _ => kr⟩
  exact sg_32_0b (zy H) _ _ (loop (E.1 20 t).toNat 0 (by decide) (by omega) kr)
theorem cc_38 (H : zh sc K 4) (hW : zWF E n) (hC : zCl E s n) {d : Nat} (hd : zDd E s n op d) (h22 : 0 ≤ E.1 22 16 ∧ E.1 22 16 ≤ 6) (hv : ∀ k, 0 ≤ k → k < E.1 22 16 → zMv E n (96 + k)) {i : Int} (i0 : 0 ≤ i) (i1 : i < E.1 22 16) (kr : ym_Rt sc P K (some (ym_I (if zcl E op i then 1 else 0))) s) : ym_Go sc P K (38, 0, [some (ym_Q d), some (ym_I i), none, none], []) s := by
  obtain ⟨e1, e2, e3, e4, e5, e6, e7, e8, e9, e10, e11, e12, e13⟩ := hd
  have e6' : s.2.2.1 d 1 = some (d + 1) := e6
  have e8' : s.2.2.1 d 2 = some (d + 2) := e8
  have loop : ∀ (m : Nat) (o : Int), 0 ≤ o → E.1 22 16 - o = m → ym_Rt sc P K (some (ym_I (if zck E op i m o then 1 else 0))) s → ym_Go sc P K (38, 34, [some (ym_Q d), some (ym_I i), some (ym_I (if op = 16 then (1 : Int) else 0)), some (ym_I o)], []) s := by
    intro m
    induction m with
    | zero =>
      intro o o0 om kr
      refine sg_38_34 (zy H) _ _ _ _ ?_
      rw [e5]
      exact ⟨e2, ⟨by omega, by omega⟩, fun w => by exfalso; omega, fun _ => kr⟩
    | succ m ih =>
      intro o o0 om kr
      obtain ⟨vi1, vi2, -⟩ := hv i i0 i1
      obtain ⟨vo1, vo2, -⟩ := hv o o0 (by omega)
      obtain ⟨ci, hci, hcti⟩ := hC _ vi1 vi2
      obtain ⟨co, hco, hcto⟩ := hC _ vo1 vo2
      have ri : s.2.2.1 (d + 1) i = some ci := (e12 i i0 i1).1.trans hci
      have ro : s.2.2.1 (d + 1) o = some co := (e12 o o0 (by omega)).1.trans hco
      refine sg_38_34 (zy H) _ _ _ _ ?_
      rw [e5, e6']
      refine ⟨e2, ⟨by omega, by omega⟩, fun _ => ⟨fun z => (by cases z), fun q hq => ?_⟩, fun w => by exfalso; omega⟩
      obtain rfl := Option.some.inj hq
      rw [ri]
      refine ⟨6, e7, ⟨i0, by omega⟩, fun z => (by cases z), fun q2 hq2 => ⟨fun z => (by cases z), fun q3 hq3 => ?_⟩⟩
      obtain rfl := Option.some.inj hq2
      obtain rfl := Option.some.inj hq3
      refine ⟨6, e7, ⟨o0, by omega⟩, fun z => (by rw [ro] at z; cases z), fun q4 hq4 => ⟨hcti.1, ?_⟩⟩
      rw [ro] at hq4
      obtain rfl := Option.some.inj hq4
      refine cc_32 (zk (zm H (show 3 ≤ 4 by omega))) hcti hcto (zWf_of hW vi1 vi2) (zWf_of hW vo1 vo2) (ym_rt_cons (sg_38_57 (zy H) _ _ _ _ _ ?_))
      rw [zck] at kr
      cases hb : eMt E (E.1 23 (96 + i)) (E.1 23 (96 + o)) with
      | true =>
        rw [hb, if_pos rfl] at kr
        exact ⟨by decide, fun z => absurd z (by decide), fun _ => kr⟩
      | false =>
        rw [hb, if_neg (show ¬ (false = true) by decide)] at kr
        refine ⟨by decide, fun _ => ⟨⟨by split <;> omega, by split <;> omega⟩, fun w => ?_, fun w => ?_⟩, fun z => absurd rfl z⟩
        · have hop : op ≠ 16 := fun z => by rw [if_pos z] at w; exact absurd w (by decide)
          rw [if_neg (show ¬ (op = 16 ∧ E.1 24 (96 + o) = 0) from fun z => hop z.1)] at kr
          exact ih (o + 1) (by omega) (by omega) kr
        · have hop : op = 16 := by
            by_cases z : op = 16
            · exact z
            · rw [if_neg z] at w
              exact absurd rfl w
          rw [e8']
          refine ⟨e2, fun z => (by cases z), fun q5 hq5 => ?_⟩
          obtain rfl := Option.some.inj hq5
          refine ⟨6, e9, ⟨o0, by omega⟩, ?_⟩
          rw [(e12 o o0 (by omega)).2.1]
          refine ⟨fun w2 => ?_, fun w2 => ?_⟩
          · rw [if_pos (show op = 16 ∧ E.1 24 (96 + o) = 0 from ⟨hop, w2⟩)] at kr
            exact kr
          · rw [if_neg (show ¬ (op = 16 ∧ E.1 24 (96 + o) = 0) from fun z => w2 z.2)] at kr
            exact ih (o + 1) (by omega) (by omega) kr
  refine sg_38_0 (zy H) _ _ ?_
  rw [e4, e8']
  unfold zcl at kr
  refine ⟨e2, fun w => ?_, fun w => ⟨fun z => (by cases z), fun q hq => ?_⟩⟩
  · have hop : op ≠ 16 := fun z => by rw [if_pos z] at w; exact absurd w (by decide)
    rw [if_neg (show ¬ (op = 16 ∧ E.1 24 (96 + i) = 0) from fun z => hop z.1)] at kr
    exact loop _ (i + 1) (by omega) (by omega) kr
  · obtain rfl := Option.some.inj hq
    have hop : op = 16 := by
      by_cases z : op = 16
      · exact z
      · rw [if_neg z] at w
        exact absurd rfl w
    refine ⟨6, e9, ⟨i0, by omega⟩, ?_⟩
    rw [(e12 i i0 i1).2.1]
    refine ⟨fun w2 => ?_, fun w2 => ?_⟩
    · rw [if_pos (show op = 16 ∧ E.1 24 (96 + i) = 0 from ⟨hop, w2⟩)] at kr
      exact kr
    · rw [if_neg (show ¬ (op = 16 ∧ E.1 24 (96 + i) = 0) from fun z => w2 z.2)] at kr
      exact loop _ (i + 1) (by omega) (by omega) kr
theorem cc_37 (H : zh sc K 5) (hW : zWF E n) (hC : zCl E s n) {d : Nat} (hd : zDd E s n op d) (h22 : 0 ≤ E.1 22 16 ∧ E.1 22 16 ≤ 6) (hv : ∀ k, 0 ≤ k → k < E.1 22 16 → zMv E n (96 + k)) (kr : ym_Rt sc P K (some (ym_I (if zBr E op then 1 else 0))) s) : ym_Go sc P K (37, 0, [some (ym_Q d), none], []) s := by
  have hd0 := hd
  obtain ⟨e1, e2, e3, e4, e5, -⟩ := hd
  have loop : ∀ (m : Nat) (i : Int), 0 ≤ i → E.1 22 16 - i = m → ym_Rt sc P K (some (ym_I (if zbr E op m i then 1 else 0))) s → ym_Go sc P K (37, 20, [some (ym_Q d), some (ym_I i)], []) s := by
    intro m
    induction m with
    | zero =>
      intro i i0 im kr
      refine sg_37_20 (zy H) _ _ ?_
      rw [e5]
      exact ⟨e2, ⟨by omega, by omega⟩, fun w => by exfalso; omega, fun _ => kr⟩
    | succ m ih =>
      intro i i0 im kr
      refine sg_37_20 (zy H) _ _ ?_
      rw [e5]
      refine ⟨e2, ⟨by omega, by omega⟩, fun _ => ?_, fun w => by exfalso; omega⟩
      refine cc_38 (zk (zm H (show 5 ≤ 5 by omega))) hW hC hd0 h22 hv i0 (by omega) (ym_rt_cons (sg_37_33 (zy H) _ _ _ ?_))
      rw [zbr] at kr
      cases hb : zcl E op i with
      | true =>
        rw [hb, Bool.true_or] at kr
        exact ⟨by decide, fun z => absurd z (by decide), fun _ => kr⟩
      | false =>
        rw [hb, Bool.false_or] at kr
        exact ⟨by decide, fun _ => ih (i + 1) (by omega) (by omega) kr, fun z => absurd rfl z⟩
  refine sg_37_0 (zy H) _ ?_
  rw [e4, e5]
  unfold zBr at kr
  refine ⟨e2, fun w => ⟨fun w2 => ?_, fun w2 => ?_⟩, fun w => ?_⟩
  · rw [decide_eq_true w, decide_eq_true w2] at kr
    exact kr
  · rw [decide_eq_false w2, Bool.and_false, Bool.false_or] at kr
    exact loop _ 0 (by decide) (by omega) kr
  · rw [decide_eq_false w, Bool.false_and, Bool.false_or] at kr
    exact loop _ 0 (by decide) (by omega) kr
theorem rc_96 (H : zh sc K 2) (hE : zRE s E) {t u : Int} (t0 : 0 ≤ t) (t1 : t < 16) (u0 : 0 ≤ u) (u1 : u < 16) (hf : zWf E t) (hf2 : zWf E u) (kr : ym_Rt sc P K (some (ym_I (if eMt E t u then 1 else 0))) s) : ym_Go sc P K (96, 0, [some (ym_P 12), some (ym_I t), some (ym_I u), none, none], []) s := by
  obtain ⟨h13, h14, h15, h16, h17, h20, h21, h22, h23, h24, h18, h19, h25⟩ := hE
  obtain ⟨f1, f2, f3, -⟩ := hf
  have loop : ∀ (m : Nat) (j a3 : Int), 0 ≤ j → E.1 20 t - j = m → (a3 = 0 ∨ a3 = 1) → ym_Rt sc P K (some (ym_I (if a3 = 1 ∨ eMt1 E t u m j = true then 1 else 0))) s → ym_Go sc P K (96, 5, [some (ym_P 12), some (ym_I t), some (ym_I u), some (ym_I a3), some (ym_I j)], []) s := by
    intro m
    induction m with
    | zero =>
      intro j a3 j0 jm ha kr
      refine sg_96_5 (zy H) _ _ _ _ ?_
      rw [h20]
      have e1 : (if a3 = 1 ∨ eMt1 E t u 0 j = true then (1 : Int) else 0) = a3 := by
        rcases ha with rfl | rfl <;> simp [eMt1]
      rw [e1] at kr
      exact ⟨⟨t0, by omega⟩, ⟨by omega, by omega⟩, fun w => by exfalso; omega, fun _ => ⟨ha, kr⟩⟩
    | succ m ih =>
      intro j a3 j0 jm ha kr
      refine sg_96_5 (zy H) _ _ _ _ ?_
      rw [h20, h21]
      refine ⟨⟨t0, by omega⟩, ⟨by omega, by omega⟩, fun _ => ⟨⟨by omega, by omega⟩, fun w => ⟨⟨by omega, by omega⟩, ?_⟩, fun w => ?_⟩, fun w => by exfalso; omega⟩
      · obtain ⟨g1, g2⟩ := f3 j j0 (by omega)
        refine rc_95 (E := E) (zk (zm H (show 1 ≤ 2 by omega))) h20 h21 u0 u1 hf2 ⟨by omega, by omega⟩ (ym_rt_cons (sg_96_37 (zy H) _ _ _ _ _ ?_))
        rw [w, eMt1] at kr
        cases hb : eBg E u (E.1 21 (96 * t + j)) with
        | false =>
          rw [hb, Bool.false_or] at kr
          exact ⟨by decide, ih (j + 1) 0 (by omega) (by omega) (Or.inl rfl) kr⟩
        | true =>
          rw [hb, Bool.true_or] at kr
          refine ⟨by decide, ih (j + 1) 1 (by omega) (by omega) (Or.inr rfl) ?_⟩
          rw [if_pos (Or.inl rfl)]
          rw [if_pos (Or.inr rfl)] at kr
          exact kr
      · have ha1 : a3 = 1 := by omega
        refine ih (j + 1) 1 (by omega) (by omega) (Or.inr rfl) ?_
        rw [if_pos (Or.inl rfl)]
        rw [if_pos (Or.inl ha1)] at kr
        exact kr
  refine sg_96_0 (zy H) _ _ (loop (E.1 20 t).toNat 0 0 (by decide) (by omega) (Or.inl rfl) ?_)
  have e1 : (if (0 : Int) = 1 ∨ eMt1 E t u (E.1 20 t).toNat 0 = true then (1 : Int) else 0) = (if eMt E t u then 1 else 0) := by
    unfold eMt
    simp
  rw [e1]
  exact kr
theorem rc_97 (H : zh sc K 4) (hW : zWF E n) (hE : zRE s E) (hop : s.1 12 15 = op) (h22 : 0 ≤ E.1 22 16 ∧ E.1 22 16 ≤ 6) (hv : ∀ k, 0 ≤ k → k < E.1 22 16 → zMv E n (96 + k)) (kr : ym_Rt sc P K (some (ym_I (if zBr E op then 0 else 1))) s) : ym_Go sc P K (97, 0, [some (ym_P 12), none, none, none, none, none], []) s := by
  have hn := hW.1
  have hE2 := hE
  obtain ⟨h13, h14, h15, h16, h17, h20, h21, h22', h23, h24, h18, h19, h25⟩ := hE2
  have hm : ∀ k, 0 ≤ k → k < E.1 22 16 → 0 ≤ E.1 24 (96 + k) := fun k k0 k1 => (hv k k0 k1).2.2.1
  -- one member against those behind it
  have inner : ∀ (i : Int), 0 ≤ i → i < E.1 22 16 → ∀ (m : Nat) (k to : Int) (g : Bool), i < k → to < E.1 22 16 → to + 1 - k = m → (∀ a4 a5, ym_Go sc P K (97, 29, [some (ym_P 12), some (ym_I (E.1 22 16)), some (ym_I (if g && !rck E i m k then 1 else 0)), some (ym_I (i + 1)), some (ym_I a4), some (ym_I a5)], []) s) → ym_Go sc P K (97, 83, [some (ym_P 12), some (ym_I (E.1 22 16)), some (ym_I (if g then 1 else 0)), some (ym_I i), some (ym_I to), some (ym_I k)], []) s := by
    intro i i0 i1 m
    induction m with
    | zero =>
      intro k to g ik tn km kk
      have e1 : (g && !rck E i 0 k) = g := by rw [rck, Bool.not_false, Bool.and_true]
      rw [e1] at kk
      exact sg_97_83 (zy H) _ _ _ _ _ ⟨⟨by omega, by omega⟩, ⟨by omega, by omega⟩, fun _ => kk _ _, fun w => by exfalso; omega⟩
    | succ m ih =>
      intro k to g ik tn km kk
      refine sg_97_83 (zy H) _ _ _ _ _ ?_
      rw [h23]
      refine ⟨⟨by omega, by omega⟩, ⟨by omega, by omega⟩, fun w => by exfalso; omega, fun _ => ?_⟩
      cases g with
      | false =>
        refine ⟨by decide, fun _ => ?_, fun z => absurd rfl z⟩
        have := ih (k + 1) to false (by omega) tn (by omega) (by
          rw [Bool.false_and]
          rw [Bool.false_and] at kk
          exact kk)
        exact this
      | true =>
        refine ⟨by decide, fun z => absurd z (by decide), fun _ => ⟨⟨by omega, by omega⟩, ⟨by omega, by omega⟩, ?_⟩⟩
        obtain ⟨vi1, vi2, -⟩ := hv i i0 i1
        obtain ⟨vo1, vo2, -⟩ := hv k (by omega) (by omega)
        refine rc_96 (zk (zm H (show 3 ≤ 4 by omega))) hE vi1 (by omega) vo1 (by omega) (zWf_of hW vi1 vi2) (zWf_of hW vo1 vo2) (ym_rt_cons (sg_97_117 (zy H) _ _ _ _ _ _ ?_))
        rw [rck] at kk
        cases hb : eMt E (E.1 23 (96 + i)) (E.1 23 (96 + k)) with
        | false =>
          rw [hb, Bool.false_or] at kk
          exact ⟨by decide, ih (k + 1) to true (by omega) tn (by omega) kk⟩
        | true =>
          rw [hb, Bool.true_or, Bool.not_true, Bool.and_false] at kk
          refine ⟨by decide, ih (k + 1) to false (by omega) tn (by omega) ?_⟩
          rw [Bool.false_and]
          exact kk
  -- how far a SEQUENCE's member reaches
  have far : ∀ (i : Int) (g : Bool), 0 ≤ i → ∀ (m : Nat) (to : Int) (a5 : Option Int), 0 ≤ to → E.1 22 16 - 1 - to = m → ym_Go sc P K (97, 83, [some (ym_P 12), some (ym_I (E.1 22 16)), some (ym_I (if g then 1 else 0)), some (ym_I i), some (ym_I (zto E m to)), some (ym_I (i + 1))], []) s → ym_Go sc P K (97, 51, [some (ym_P 12), some (ym_I (E.1 22 16)), some (ym_I (if g then 1 else 0)), some (ym_I i), some (ym_I to), a5.map ym_I], []) s := by
    intro i g i0 m
    induction m with
    | zero =>
      intro to a5 to0 tm kk
      cases a5 with
      | none => exact sg_97_51 (zy H) _ _ _ _ ⟨⟨by omega, by omega⟩, ⟨by omega, by omega⟩, fun w => by exfalso; omega, fun _ => kk⟩
      | some a5 => exact sg_97_51b (zy H) _ _ _ _ _ ⟨⟨by omega, by omega⟩, ⟨by omega, by omega⟩, fun w => by exfalso; omega, fun _ => kk⟩
    | succ m ih =>
      intro to a5 to0 tm kk
      rw [zto] at kk
      cases a5 with
      | none =>
        refine sg_97_51 (zy H) _ _ _ _ ?_
        rw [h24]
        refine ⟨⟨by omega, by omega⟩, ⟨by omega, by omega⟩, fun _ => ⟨⟨by omega, by omega⟩, fun w => ?_, fun w => ?_⟩, fun w => by exfalso; omega⟩
        · rw [if_pos w] at kk
          exact ih (to + 1) none (by omega) (by omega) kk
        · rw [if_neg (show ¬ 0 < E.1 24 (96 + to) by omega)] at kk
          exact kk
      | some a5 =>
        refine sg_97_51b (zy H) _ _ _ _ _ ?_
        rw [h24]
        refine ⟨⟨by omega, by omega⟩, ⟨by omega, by omega⟩, fun _ => ⟨⟨by omega, by omega⟩, fun w => ?_, fun w => ?_⟩, fun w => by exfalso; omega⟩
        · rw [if_pos w] at kk
          exact ih (to + 1) (some a5) (by omega) (by omega) kk
        · rw [if_neg (show ¬ 0 < E.1 24 (96 + to) by omega)] at kk
          exact kk
  have outer : ∀ (m : Nat) (i : Int) (g : Bool) (x : Option (Int × Int)), 0 ≤ i → E.1 22 16 - i = m → ym_Rt sc P K (some (ym_I (if g && !zbr E op m i then 1 else 0))) s → ym_Go sc P K (97, 29, [some (ym_P 12), some (ym_I (E.1 22 16)), some (ym_I (if g then 1 else 0)), some (ym_I i), x.map (fun y => ym_I y.1), x.map (fun y => ym_I y.2)], []) s := by
    intro m
    induction m with
    | zero =>
      intro i g x i0 im kr
      have e1 : (g && !zbr E op 0 i) = g := by rw [zbr, Bool.not_false, Bool.and_true]
      rw [e1] at kr
      have hb : (if g then (1 : Int) else 0) = 0 ∨ (if g then (1 : Int) else 0) = 1 := by cases g <;> simp
      cases x with
      | none => exact sg_97_29 (zy H) _ _ _ ⟨⟨by omega, by omega⟩, ⟨by omega, by omega⟩, fun w => by exfalso; omega, fun _ => ⟨hb, kr⟩⟩
      | some x => exact sg_97_29b (zy H) _ _ _ _ _ ⟨⟨by omega, by omega⟩, ⟨by omega, by omega⟩, fun w => by exfalso; omega, fun _ => ⟨hb, kr⟩⟩
    | succ m ih =>
      intro i g x i0 im kr
      have i1 : i < E.1 22 16 := by omega
      have e1 : (g && !zbr E op (m + 1) i) = ((g && !zcl E op i) && !zbr E op m (i + 1)) := by
        rw [zbr]
        cases g <;> cases zcl E op i <;> rfl
      rw [e1, zcl_eq hm i0 i1] at kr
      have next : ∀ a4 a5, ym_Go sc P K (97, 29, [some (ym_P 12), some (ym_I (E.1 22 16)), some (ym_I (if g && !rck E i ((if op = 16 then zto E (E.1 22 16 - 1 - i).toNat i else E.1 22 16 - 1) - i).toNat (i + 1) then 1 else 0)), some (ym_I (i + 1)), some (ym_I a4), some (ym_I a5)], []) s := fun a4 a5 => ih (i + 1) _ (some (a4, a5)) (by omega) (by omega) kr
      have seq : op = 16 → ym_Go sc P K (97, 83, [some (ym_P 12), some (ym_I (E.1 22 16)), some (ym_I (if g then 1 else 0)), some (ym_I i), some (ym_I (zto E (E.1 22 16 - 1 - i).toNat i)), some (ym_I (i + 1))], []) s := by
        intro w
        have zt := zto_ge (E := E) (E.1 22 16 - 1 - i).toNat i
        rw [if_pos w] at next
        exact inner i i0 i1 _ (i + 1) _ g (by omega) (by omega) (by omega) next
      have set : ¬ op = 16 → ym_Go sc P K (97, 83, [some (ym_P 12), some (ym_I (E.1 22 16)), some (ym_I (if g then 1 else 0)), some (ym_I i), some (ym_I (E.1 22 16 - 1)), some (ym_I (i + 1))], []) s := by
        intro w
        rw [if_neg w] at next
        exact inner i i0 i1 _ (i + 1) _ g (by omega) (by omega) (by omega) next
      cases x with
      | none =>
        refine sg_97_29 (zy H) _ _ _ ?_
        rw [hop]
        exact ⟨⟨by omega, by omega⟩, ⟨by omega, by omega⟩, fun _ => ⟨fun w => far i g i0 (E.1 22 16 - 1 - i).toNat i none i0 (by omega) (seq w), fun w => set w⟩, fun w => by exfalso; omega⟩
      | some x =>
        refine sg_97_29b (zy H) _ _ _ _ _ ?_
        rw [hop]
        exact ⟨⟨by omega, by omega⟩, ⟨by omega, by omega⟩, fun _ => ⟨fun w => far i g i0 (E.1 22 16 - 1 - i).toNat i (some x.2) i0 (by omega) (seq w), fun w => set w⟩, fun w => by exfalso; omega⟩
  refine sg_97_0 (zy H) ?_
  rw [hop, h22']
  have e0 : (if op = 20 then ((if 0 < E.1 22 16 then (1 : Int) else 0) : Int) else 1) = (if !(decide (op = 20) && decide (E.1 22 16 = 0)) then 1 else 0) := by
    by_cases w : op = 20
    · rw [if_pos w, decide_eq_true w, Bool.true_and]
      by_cases w2 : E.1 22 16 = 0
      · rw [if_neg (by omega), decide_eq_true w2]
        rfl
      · rw [if_pos (by omega), decide_eq_false w2]
        rfl
    · rw [if_neg w, decide_eq_false w]
      rfl
  rw [e0]
  refine outer (E.1 22 16).toNat 0 _ none (by decide) (by omega) ?_
  have e2 : (!(decide (op = 20) && decide (E.1 22 16 = 0)) && !zbr E op (E.1 22 16).toNat 0) = !zBr E op := by
    unfold zBr
    cases (decide (op = 20) && decide (E.1 22 16 = 0)) <;> cases zbr E op (E.1 22 16).toNat 0 <;> rfl
  rw [e2]
  have e3 : (if (!zBr E op) = true then (1 : Int) else 0) = (if zBr E op then 0 else 1) := by
    cases zBr E op <;> rfl
  rw [e3]
  exact kr
end
