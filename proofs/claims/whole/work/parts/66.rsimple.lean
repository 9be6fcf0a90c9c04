/-! The reference's simple types: own work. -/
theorem zr_set : ∀ (l : List Int) (o : Int → Int) (a : Int) (k : Nat) (v : Int), zr o a l → k < l.length → zr (zu o (a + k) v) a (l.set k v)
  | [], o, a, k, v, h, hk => by simp at hk
  | x :: l, o, a, 0, v, h, hk => by
    refine ⟨?_, zr_of o _ l _ h.2 (fun j j0 j1 => ?_)⟩
    · show (if a = a + ((0 : Nat) : Int) then v else o a) = v
      rw [if_pos (by omega)]
    · show (if j = a + ((0 : Nat) : Int) then v else o j) = o j
      rw [if_neg (by omega)]
  | x :: l, o, a, k + 1, v, h, hk => by
    refine ⟨?_, ?_⟩
    · show (if a = a + ((k + 1 : Nat) : Int) then v else o a) = x
      rw [if_neg (by omega)]
      exact h.1
    · have := zr_set l o (a + 1) k v h.2 (by simpa using hk)
      rw [show a + 1 + (k : Int) = a + ((k + 1 : Nat) : Int) by omega] at this
      exact this
theorem zgo {sc : xm_S} {P : xm_O → xm_H → Prop} {K : List ym_F} {f : ym_F} {s : ym_S} (k : (∀ c j, ym_in (s.1 c j)) → ym_Go sc P K f s) : ym_Go sc P K f s := fun h hH => k hH.2.1 h hH
theorem zu_self (o : Int → Int) (j : Int) : zu o j (o j) = o := by
  funext i
  show (if i = j then o j else o i) = o i
  split
  · rename_i h
    rw [h]
  · rfl
theorem zs_cn_b {k : Int} {t : List Int} {n : Int} (h : zs_cn k t = some n) : 0 ≤ n ∧ n ≤ t.length := by
  unfold zs_cn at h
  split at h
  · have := zs_ut_b t _ _ _ _ _ h
    omega
  · split at h
    · split at h
      · have := Option.some.inj h
        omega
      · cases h
    · have := Option.some.inj h
      omega
section
variable {sc : xm_S} {P : xm_O → xm_H → Prop} {K : List ym_F} {s : ym_S} {p l g x c e z : Int} {b : Int → Int} {f : Int} {F : Nat → Int → Int} {q : Int} {A B C : Int → Int} {h : Int} {o W : Int → Int} {S : Nat → Int → Int} {r : Int → Int} {N : Int}
set_option maxHeartbeats 4000000 in
theorem rc_121 (H : zh sc K 6) (hI : rIn s r N) (hp : 0 ≤ p) (hp2 : p ≤ 200) (hl0 : 0 ≤ l) (hl : l ≤ N) (hx : x = 0 ∨ x = 1) {t w k : Int} (ht : 0 ≤ t) (ht2 : t < 16) (hk : s.1 15 t = k) (hk2 : k = 1 ∨ k = 2 ∨ k = 3 ∨ k = 4 ∨ k = 5 ∨ k = 6 ∨ k = 12 ∨ k = 22) (hbd : s.1 17 t = 0 ∨ s.1 17 t = 1) (hw : 0 ≤ w) (hw2 : w < 8388608) (hh0 : 0 ≤ h) (hh1 : h + 210 ≤ 9000) (hq : 0 ≤ q) (hq2 : q < 130) (kx : (x = 1 ∨ (zs_h r l p w).bind (fun y => zs_co r k (s.1 17 t) (s.2.1 18 t) (s.2.1 19 t) y.1 y.2.1 y.2.2.1 y.2.2.2) = none) → ∀ p2 l2 g2 c2 e2 z2 b2 S2, 0 ≤ p2 → p2 ≤ 200 → ym_Rt sc P K none (rv s p2 l2 g2 1 c2 e2 z2 b2 f F q A B C h o W S2)) (kr : x = 0 → ∀ a b3, (zs_h r l p w).bind (fun y => zs_co r k (s.1 17 t) (s.2.1 18 t) (s.2.1 19 t) y.1 y.2.1 y.2.2.1 y.2.2.2) = some (a, b3) → ∀ g2 c2 e2 z2 b2 S2, ym_Rt sc P K none (rv s b3 l g2 0 c2 e2 z2 b2 f F (q+1) (zu A q h) (zu B q (zs_enc w 0 a).length) (zu C q w) (h+(zs_enc w 0 a).length) (za o h (zs_enc w 0 a)) W S2)) : ym_Go sc P K (121, 0, [some (ym_P 12), some (ym_I t), some (ym_I w), none, none], []) (rv s p l g x c e z b f F q A B C h o W S) := by
  refine zgo (fun hin => ?_)
  have hb0in : ym_in (b 0) := hin 28 0
  clear hin
  have hN := hI.1
  have kin : ym_in k := ⟨by omega, by omega⟩
  refine sg_121_0 (zy H) _ _ ?_
  simp only [rv_12_20, rv_12_21, rv_12_22, rv_12_23, rv_12_24, rv_12_25, rv_12_26, rv_12_28, rv_12_38, rv_12_42, rv_12_0, rv_12_1, rv_12_15, rv_12_16, rv_12_18, rv_28, rv_37, rv_38, rv_39, rv_40, rv_41, rv_29, rv_30, rv_31, rv_32, rv_33, rv_34, rv_35, rv_36, rv_42, rv_43, rv_44, rv_13, rv_14, rv_15, rv_16, rv_17, rv_18, rv_19, rv_20, rv_21, rv_22, rv_23, rv_24, rv_25, rv_26, rv_27, rv_r, rv_w12_20, rv_w12_21, rv_w12_22, rv_w12_23, rv_w12_24, rv_w12_25, rv_w12_26, rv_w12_28, rv_w12_38, rv_w12_42, rv_w28, rv_w37, rv_w38, rv_w39, rv_w40, rv_w41, rv_w29, rv_w30, rv_w31, rv_w32, rv_w33, rv_w34, rv_w35, rv_w36, rv_w42, rv_w43, rv_w44]
  rw [hk]
  refine ⟨⟨ht, ht2⟩, ?_⟩
  refine rc_104 (zm (zk H) (by omega)) hI hp hp2 hl0 hl hx ⟨by omega, by omega⟩ (fun y p2 g2 c2 e2 y1 y2 y3 y4 y5 y6 y7 => ?_) (fun hx0 c2 i2 e2 b2 hh => ym_rt_cons (sg_121_12 (zy H) _ _ _ ?_))
  · obtain ⟨x1, hx1⟩ : ∃ x1 : Int, x1 = 1 := ⟨1, rfl⟩
    rw [← hx1]
    refine ym_rt_cons (sg_121_12 (zy H) _ _ _ ?_)
    simp only [rv_12_20, rv_12_21, rv_12_22, rv_12_23, rv_12_24, rv_12_25, rv_12_26, rv_12_28, rv_12_38, rv_12_42, rv_12_0, rv_12_1, rv_12_15, rv_12_16, rv_12_18, rv_28, rv_37, rv_38, rv_39, rv_40, rv_41, rv_29, rv_30, rv_31, rv_32, rv_33, rv_34, rv_35, rv_36, rv_42, rv_43, rv_44, rv_13, rv_14, rv_15, rv_16, rv_17, rv_18, rv_19, rv_20, rv_21, rv_22, rv_23, rv_24, rv_25, rv_26, rv_27, rv_r, rv_w12_20, rv_w12_21, rv_w12_22, rv_w12_23, rv_w12_24, rv_w12_25, rv_w12_26, rv_w12_28, rv_w12_38, rv_w12_42, rv_w28, rv_w37, rv_w38, rv_w39, rv_w40, rv_w41, rv_w29, rv_w30, rv_w31, rv_w32, rv_w33, rv_w34, rv_w35, rv_w36, rv_w42, rv_w43, rv_w44]
    refine ⟨fun y => by exfalso; omega, fun _ => ?_⟩
    rw [hx1]
    exact kx (y.elim Or.inl (fun v => Or.inr (by rw [v]; rfl))) _ _ _ _ _ _ _ _ y1 y2
  · rw [hh] at kx kr
    have o2 := zs_h_ok hI.2.1 hl hp hh
    obtain ⟨oc, oi, ob, obe, oel, oic, -, -⟩ := o2
    change (x = 1 ∨ zs_co r k (s.1 17 t) (s.2.1 18 t) (s.2.1 19 t) c2 i2 e2 b2 = none) → _ at kx
    change x = 0 → ∀ a b3, zs_co r k (s.1 17 t) (s.2.1 18 t) (s.2.1 19 t) c2 i2 e2 b2 = some (a, b3) → _ at kr
    have hic : i2 ≠ 0 → c2 ≠ 0 := fun v => (oic (by omega)).2
    have cok := @zs_co_ok r N hI.2.1 k (s.1 17 t) (s.2.1 18 t) (s.2.1 19 t) c2 i2 e2 b2
    -- the body goes to the pool
    have put : ∀ (a : List Int) (b3 : Int), zs_co r k (s.1 17 t) (s.2.1 18 t) (s.2.1 19 t) c2 i2 e2 b2 = some (a, b3) → ∀ (x4 : Option Int) (g2 c3 e3 z3 : Int) (b4 : Int → Int) (S2 : Nat → Int → Int), z3 = a.length → zr b4 0 a → ym_Go sc P ((121, 328, [some (ym_P 12), some (ym_I t), some (ym_I w), some (ym_I k), x4.map ym_I], []) :: K) (109, 0, [some (ym_P 12), some (ym_I w), none, none], []) (rv s b3 l g2 0 c3 e3 z3 b4 f F q A B C h o W S2) := by
      intro a b3 hco x4 g2 c3 e3 z3 b4 S2 hz3 hb4
      obtain ⟨d1, d2, d3, d4, d5⟩ := cok oi hic (by omega) (by omega) obe hco
      change (a.length : Int) + _ ≤ b3 - b2 at d1
      change b2 ≤ b3 at d2
      change b3 ≤ e2 at d3
      have dl : (a.length : Int) ≤ 200 := by
        split at d1 <;> omega
      refine rc_109 (zm (zk H) (by omega)) hw hw2 hz3 (by omega) hb4 d5 hh0 hh1 hq hq2 ?_
      have fin := kr hx0 a b3 hco g2 c3 e3 z3 b4 S2
      cases x4
      · exact ym_rt_cons (sg_121_331 (zy H) _ _ _ fin)
      · exact ym_rt_cons (sg_121_331b (zy H) _ _ _ _ fin)
    simp only [rv_12_20, rv_12_21, rv_12_22, rv_12_23, rv_12_24, rv_12_25, rv_12_26, rv_12_28, rv_12_38, rv_12_42, rv_12_0, rv_12_1, rv_12_15, rv_12_16, rv_12_18, rv_28, rv_37, rv_38, rv_39, rv_40, rv_41, rv_29, rv_30, rv_31, rv_32, rv_33, rv_34, rv_35, rv_36, rv_42, rv_43, rv_44, rv_13, rv_14, rv_15, rv_16, rv_17, rv_18, rv_19, rv_20, rv_21, rv_22, rv_23, rv_24, rv_25, rv_26, rv_27, rv_r, rv_w12_20, rv_w12_21, rv_w12_22, rv_w12_23, rv_w12_24, rv_w12_25, rv_w12_26, rv_w12_28, rv_w12_38, rv_w12_42, rv_w28, rv_w37, rv_w38, rv_w39, rv_w40, rv_w41, rv_w29, rv_w30, rv_w31, rv_w32, rv_w33, rv_w34, rv_w35, rv_w36, rv_w42, rv_w43, rv_w44]
    have strs : (k = 4 ∨ k = 12 ∨ k = 22) → ym_Go sc P ((121, 120, [some (ym_P 12), some (ym_I t), some (ym_I w), some (ym_I k), none], []) :: K) (117, 0, [some (ym_P 12), some (ym_I 0), none, none, none], []) (rv s b2 l w x c2 (if i2 = 0 then e2 else -1) 0 b f F q A B C h o W S) := by
      intro hks
      have hco : zs_co r k (s.1 17 t) (s.2.1 18 t) (s.2.1 19 t) c2 i2 e2 b2 = zs_os r k (s.1 17 t) (s.2.1 18 t) (s.2.1 19 t) c2 i2 e2 b2 := by
        unfold zs_co
        rw [if_neg (by omega), if_pos hks]
      rw [hco] at kx put
      refine rc_117 (zm (zk H) (by omega)) hI false hx0 oc oi rfl oic (by omega) obe oel hl ⟨trivial, rfl, fun v => by cases v⟩ (by omega) (fun v p2 l2 g2 c3 e3 z3 b4 S2 v1 v2 => ?_) (fun l2 u2 b3 v g2 c3 e3 z3 b4 S2 hB => ?_)
      · obtain ⟨x1, hx1⟩ : ∃ x1 : Int, x1 = 1 := ⟨1, rfl⟩
        rw [← hx1]
        refine ym_rt_cons (sg_121_123 (zy H) _ _ _ ?_)
        simp only [rv_12_20, rv_12_21, rv_12_22, rv_12_23, rv_12_24, rv_12_25, rv_12_26, rv_12_28, rv_12_38, rv_12_42, rv_12_0, rv_12_1, rv_12_15, rv_12_16, rv_12_18, rv_28, rv_37, rv_38, rv_39, rv_40, rv_41, rv_29, rv_30, rv_31, rv_32, rv_33, rv_34, rv_35, rv_36, rv_42, rv_43, rv_44, rv_13, rv_14, rv_15, rv_16, rv_17, rv_18, rv_19, rv_20, rv_21, rv_22, rv_23, rv_24, rv_25, rv_26, rv_27, rv_r, rv_w12_20, rv_w12_21, rv_w12_22, rv_w12_23, rv_w12_24, rv_w12_25, rv_w12_26, rv_w12_28, rv_w12_38, rv_w12_42, rv_w28, rv_w37, rv_w38, rv_w39, rv_w40, rv_w41, rv_w29, rv_w30, rv_w31, rv_w32, rv_w33, rv_w34, rv_w35, rv_w36, rv_w42, rv_w43, rv_w44]
        refine ⟨fun y => by exfalso; omega, fun _ => kx (Or.inr ?_) _ _ _ _ _ _ _ _ v1 v2⟩
        unfold zs_os
        rw [v]
        rfl
      · obtain ⟨⟨q1, q2, q3, q4, q5, q6⟩, q7⟩ := zs_st_ok hI.2.1 false 4 _ _ _ _ _ _ (by omega) (by omega) obe v
        change ((l2.length : Nat) : Int) ≤ b3 - b2 at q1
        change b3 ≤ e2 at q3
        change zs_all l2 at q4
        have hos : zs_os r k (s.1 17 t) (s.2.1 18 t) (s.2.1 19 t) c2 i2 e2 b2 = (zs_cn k l2).bind (fun n => if zs_kp (s.1 17 t) (s.2.1 18 t) (s.2.1 19 t) n then some (l2, b3) else none) := by
          unfold zs_os
          rw [v]
          rfl
        rw [hos] at kx put
        have hz3 : z3 = l2.length := by
          have := hB.2.1
          rw [if_neg (by decide)] at this
          omega
        have hzr : zr b4 0 l2 := hB.1
        obtain ⟨x0, hx00⟩ : ∃ x0 : Int, x0 = 0 := ⟨0, rfl⟩
        rw [← hx00]
        refine ym_rt_cons (sg_121_123 (zy H) _ _ _ ?_)
        simp only [rv_12_20, rv_12_21, rv_12_22, rv_12_23, rv_12_24, rv_12_25, rv_12_26, rv_12_28, rv_12_38, rv_12_42, rv_12_0, rv_12_1, rv_12_15, rv_12_16, rv_12_18, rv_28, rv_37, rv_38, rv_39, rv_40, rv_41, rv_29, rv_30, rv_31, rv_32, rv_33, rv_34, rv_35, rv_36, rv_42, rv_43, rv_44, rv_13, rv_14, rv_15, rv_16, rv_17, rv_18, rv_19, rv_20, rv_21, rv_22, rv_23, rv_24, rv_25, rv_26, rv_27, rv_r, rv_w12_20, rv_w12_21, rv_w12_22, rv_w12_23, rv_w12_24, rv_w12_25, rv_w12_26, rv_w12_28, rv_w12_38, rv_w12_42, rv_w28, rv_w37, rv_w38, rv_w39, rv_w40, rv_w41, rv_w29, rv_w30, rv_w31, rv_w32, rv_w33, rv_w34, rv_w35, rv_w36, rv_w42, rv_w43, rv_w44]
        refine ⟨fun _ => ?_, fun y => absurd hx00 y⟩
        -- after the count
        have aft : ∀ n : Int, ym_in n → (0 ≤ n → zs_cn k l2 = some n) → (n < 0 → zs_cn k l2 = none) → ym_Go sc P K (121, 139, [some (ym_P 12), some (ym_I t), some (ym_I w), some (ym_I k), none], [ym_I n]) (rv s b3 l g2 x0 c3 e3 z3 b4 f F q A B C h o W S2) := by
          intro n hn n1 n2
          refine sg_121_139 (zy H) _ _ _ _ ?_
          simp only [rv_12_20, rv_12_21, rv_12_22, rv_12_23, rv_12_24, rv_12_25, rv_12_26, rv_12_28, rv_12_38, rv_12_42, rv_12_0, rv_12_1, rv_12_15, rv_12_16, rv_12_18, rv_28, rv_37, rv_38, rv_39, rv_40, rv_41, rv_29, rv_30, rv_31, rv_32, rv_33, rv_34, rv_35, rv_36, rv_42, rv_43, rv_44, rv_13, rv_14, rv_15, rv_16, rv_17, rv_18, rv_19, rv_20, rv_21, rv_22, rv_23, rv_24, rv_25, rv_26, rv_27, rv_r, rv_w12_20, rv_w12_21, rv_w12_22, rv_w12_23, rv_w12_24, rv_w12_25, rv_w12_26, rv_w12_28, rv_w12_38, rv_w12_42, rv_w28, rv_w37, rv_w38, rv_w39, rv_w40, rv_w41, rv_w29, rv_w30, rv_w31, rv_w32, rv_w33, rv_w34, rv_w35, rv_w36, rv_w42, rv_w43, rv_w44]
          refine ⟨⟨hn, fun _ => ⟨⟨ht, ht2⟩, fun _ => ⟨⟨ht, ht2⟩, fun _ => ⟨ht, ht2⟩⟩⟩⟩, ?_⟩
          have b3b : 0 ≤ b3 ∧ b3 ≤ 200 := by omega
          by_cases n0 : n < 0
          · rw [if_pos n0]
            refine ⟨fun y => absurd y (by decide), fun _ => kx (Or.inr ?_) _ _ _ _ _ _ _ _ b3b.1 b3b.2⟩
            rw [n2 n0]
            rfl
          · rw [if_neg n0]
            have hcn := n1 (by omega)
            rw [hcn] at kx put
            have ei : (ym_i2l n).toInt = n := zl_i2l hn
            have e1 : (if s.1 17 t = 0 then (0 : Int) else (if ym_cmp (ym_i2l n) (s.2.1 18 t) < 0 then 1 else (if 0 < ym_cmp (ym_i2l n) (s.2.1 19 t) then 1 else 0))) = if zs_kp (s.1 17 t) (s.2.1 18 t) (s.2.1 19 t) n then 0 else 1 := by
              unfold zs_kp
              by_cases w1 : s.1 17 t = 0
              · simp [w1]
              · by_cases w2 : ym_cmp (ym_i2l n) (s.2.1 18 t) < 0
                · have := zl_lt.mp w2
                  rw [if_neg w1, if_pos w2]
                  simp [w1]
                  omega
                · have w3 : ¬ n < (s.2.1 18 t).toInt := fun y => w2 (zl_lt.mpr (by rw [ei]; exact y))
                  by_cases w4 : 0 < ym_cmp (ym_i2l n) (s.2.1 19 t)
                  · have := zl_gt.mp w4
                    rw [if_neg w1, if_neg w2, if_pos w4]
                    simp [w1]
                    omega
                  · have w5 : ¬ (s.2.1 19 t).toInt < n := fun y => w4 (zl_gt.mpr (by rw [ei]; exact y))
                    rw [if_neg w1, if_neg w2, if_neg w4]
                    simp [w1]
                    omega
            rw [e1]
            cases hkp : zs_kp (s.1 17 t) (s.2.1 18 t) (s.2.1 19 t) n with
            | true =>
              rw [if_pos rfl]
              refine ⟨fun _ => put l2 b3 ?_ (some n) _ _ _ _ _ _ hz3 hzr, fun y => absurd rfl y⟩
              show (if zs_kp (s.1 17 t) (s.2.1 18 t) (s.2.1 19 t) n then _ else _) = _
              rw [hkp]
              rfl
            | false =>
              rw [if_neg (by decide)]
              refine ⟨fun y => absurd y (by decide), fun _ => kx (Or.inr ?_) _ _ _ _ _ _ _ _ b3b.1 b3b.2⟩
              show (if zs_kp (s.1 17 t) (s.2.1 18 t) (s.2.1 19 t) n then _ else _) = _
              rw [hkp]
              rfl
        refine rc_120 (zm (zk H) (by omega)) (by omega) hz3 hzr q4 hks (fun y => ym_rt_cons (aft (-1) (by decide) (fun y2 => absurd y2 (by decide)) (fun _ => y))) (fun n y => ym_rt_cons (aft n ?_ (fun _ => y) (fun y2 => ?_)))
        · have := zs_cn_b y
          exact ⟨by omega, by omega⟩
        · have := zs_cn_b y
          exfalso
          omega
    have bits : k = 3 → ym_Go sc P ((121, 44, [some (ym_P 12), some (ym_I t), some (ym_I w), some (ym_I k), none], []) :: K) (117, 0, [some (ym_P 12), some (ym_I 1), none, none, none], []) (rv s b2 l w x c2 (if i2 = 0 then e2 else -1) 1 (zu b 0 0) f F q A B C h o W S) := by
      intro hk3
      have hco : zs_co r k (s.1 17 t) (s.2.1 18 t) (s.2.1 19 t) c2 i2 e2 b2 = zs_bits r c2 i2 e2 b2 := by
        unfold zs_co
        rw [if_pos hk3]
      rw [hco] at kx put
      refine rc_117 (zm (zk H) (by omega)) hI true hx0 oc oi rfl oic (by omega) obe oel hl ⟨trivial, rfl, fun _ => ?_⟩ (by omega) (fun v p2 l2 g2 c3 e3 z3 b4 S2 v1 v2 => ?_) (fun l2 u2 b3 v g2 c3 e3 z3 b4 S2 hB => ?_)
      · show (if (0 : Int) = 0 then (0 : Int) else b 0) = 0
        rw [if_pos rfl]
      · obtain ⟨x1, hx1⟩ : ∃ x1 : Int, x1 = 1 := ⟨1, rfl⟩
        rw [← hx1]
        refine ym_rt_cons (sg_121_47 (zy H) _ _ _ ?_)
        simp only [rv_12_20, rv_12_21, rv_12_22, rv_12_23, rv_12_24, rv_12_25, rv_12_26, rv_12_28, rv_12_38, rv_12_42, rv_12_0, rv_12_1, rv_12_15, rv_12_16, rv_12_18, rv_28, rv_37, rv_38, rv_39, rv_40, rv_41, rv_29, rv_30, rv_31, rv_32, rv_33, rv_34, rv_35, rv_36, rv_42, rv_43, rv_44, rv_13, rv_14, rv_15, rv_16, rv_17, rv_18, rv_19, rv_20, rv_21, rv_22, rv_23, rv_24, rv_25, rv_26, rv_27, rv_r, rv_w12_20, rv_w12_21, rv_w12_22, rv_w12_23, rv_w12_24, rv_w12_25, rv_w12_26, rv_w12_28, rv_w12_38, rv_w12_42, rv_w28, rv_w37, rv_w38, rv_w39, rv_w40, rv_w41, rv_w29, rv_w30, rv_w31, rv_w32, rv_w33, rv_w34, rv_w35, rv_w36, rv_w42, rv_w43, rv_w44]
        have fin := fun z4 b5 => kx (Or.inr (by unfold zs_bits; rw [v]; rfl)) p2 l2 g2 c3 e3 z4 b5 S2 v1 v2
        rw [hx1]
        exact ⟨fun _ => ⟨fun y => absurd y (by decide), fun _ => ⟨fun y => absurd y (by decide), fun _ => fin _ _⟩⟩, fun _ => ⟨fun y => absurd y (by decide), fun _ => fin _ _⟩⟩
      · obtain ⟨⟨q1, q2, q3, q4, q5, q6⟩, q7⟩ := zs_st_ok hI.2.1 true 4 _ _ _ _ _ _ (by omega) (by omega) obe v
        change ((l2.length : Nat) : Int) ≤ b3 - b2 at q1
        change b3 ≤ e2 at q3
        change zs_all l2 at q4
        obtain ⟨u0, u7⟩ := q5 ⟨by decide, by decide⟩
        change 0 ≤ u2 at u0
        change u2 ≤ 7 at u7
        obtain ⟨hB1, hB2, hB3⟩ := hB
        rw [if_pos rfl] at hB1 hB2
        have hb0 : b4 0 = u2 := hB3 rfl
        have hbits : zs_bits r c2 i2 e2 b2 = some (if l2 = [] then [0] else u2 :: zs_mk u2 l2, b3) := by
          unfold zs_bits
          rw [v]
          rfl
        obtain ⟨x0, hx00⟩ : ∃ x0 : Int, x0 = 0 := ⟨0, rfl⟩
        rw [← hx00]
        refine ym_rt_cons (sg_121_47 (zy H) _ _ _ ?_)
        simp only [rv_12_20, rv_12_21, rv_12_22, rv_12_23, rv_12_24, rv_12_25, rv_12_26, rv_12_28, rv_12_38, rv_12_42, rv_12_0, rv_12_1, rv_12_15, rv_12_16, rv_12_18, rv_28, rv_37, rv_38, rv_39, rv_40, rv_41, rv_29, rv_30, rv_31, rv_32, rv_33, rv_34, rv_35, rv_36, rv_42, rv_43, rv_44, rv_13, rv_14, rv_15, rv_16, rv_17, rv_18, rv_19, rv_20, rv_21, rv_22, rv_23, rv_24, rv_25, rv_26, rv_27, rv_r, rv_w12_20, rv_w12_21, rv_w12_22, rv_w12_23, rv_w12_24, rv_w12_25, rv_w12_26, rv_w12_28, rv_w12_38, rv_w12_42, rv_w28, rv_w37, rv_w38, rv_w39, rv_w40, rv_w41, rv_w29, rv_w30, rv_w31, rv_w32, rv_w33, rv_w34, rv_w35, rv_w36, rv_w42, rv_w43, rv_w44]
        rw [hx00]
        refine ⟨fun h1 => ⟨fun _ => ⟨⟨by omega, by omega⟩, ⟨by omega, by omega⟩, fun _ => ?_, fun y => absurd rfl y⟩, fun y => absurd rfl y⟩, fun h1 => ⟨fun _ => ?_, fun y => absurd rfl y⟩⟩
        · have hl2 : l2 ≠ [] := fun y => by rw [y] at hB2; simp at hB2; omega
          rw [if_neg hl2] at hbits
          have hlen : 0 < l2.length := List.length_pos_iff.mpr hl2
          refine put _ _ hbits none _ _ _ _ _ _ (by rw [List.length_cons, zs_mk_len]; omega) ?_
          have hlast : b4 (z3 - 1) = l2.getLast hl2 := by
            rw [List.getLast_eq_getElem]
            have := zr_get hB1 (l2.length - 1) (by omega)
            rw [show z3 - 1 = 1 + ((l2.length - 1 : Nat) : Int) by omega]
            exact this
          rw [hlast, hb0]
          have hxl := q4 _ (List.getLast_mem hl2)
          obtain ⟨n, rfl⟩ := zn_nat u0
          have e4 : ym_shl (ym_shr (l2.getLast hl2) (n : Int)) (n : Int) = l2.getLast hl2 / ((2 ^ n : Nat) : Int) * ((2 ^ n : Nat) : Int) := by
            have hb2 : (0 : Int) < ((2 ^ n : Nat) : Int) := Int.natCast_pos.mpr (Nat.two_pow_pos n)
            have hm := Int.ediv_mul_le (l2.getLast hl2) (b := ((2 ^ n : Nat) : Int)) (by omega)
            rw [zn_shr n (by omega) hxl.1 (by omega), zn_shl n (by omega) (Int.ediv_nonneg hxl.1 (by omega)) (by omega)]
          rw [e4]
          refine ⟨?_, ?_⟩
          · show (if (0 : Int) = z3 - 1 then _ else b4 0) = _
            rw [if_neg (by omega)]
            exact hb0
          · have hset := zr_set l2 b4 1 (l2.length - 1) (l2.getLast hl2 / ((2 ^ n : Nat) : Int) * ((2 ^ n : Nat) : Int)) hB1 (by omega)
            have e6 := zs_mk_set (n : Int) l2 hl2
            change l2.set (l2.length - 1) (l2.getLast hl2 / ((2 ^ n : Nat) : Int) * ((2 ^ n : Nat) : Int)) = zs_mk (n : Int) l2 at e6
            rw [e6] at hset
            rw [show z3 - 1 = 1 + ((l2.length - 1 : Nat) : Int) by omega]
            exact hset
        · have hl2 : l2 = [] := by
            cases l2 with
            | nil => rfl
            | cons a t2 => rw [List.length_cons] at hB2; omega
          rw [if_pos hl2] at hbits
          refine put _ _ hbits none _ _ _ _ _ _ (by rw [hl2] at hB2; simp at hB2 ⊢; omega) ⟨?_, trivial⟩
          rw [hb0]
          exact q6 rfl hl2
    have plain : (k = 1 ∨ k = 2 ∨ k = 5 ∨ k = 6) → c2 = 0 → ym_Go sc P ((121, 213, [some (ym_P 12), some (ym_I t), some (ym_I w), some (ym_I k), none], []) :: K) (115, 0, [some (ym_P 12), some (ym_I (if i2 = 0 then e2 else -1))], []) (rv s b2 l w c2 c2 (if i2 = 0 then e2 else -1) 0 b f F q A B C h o W S) := by
      intro hks hc0
      have hi0 : i2 = 0 := by
        by_cases y : i2 = 0
        · exact y
        · exact absurd hc0 (hic y)
      have hco : zs_co r k (s.1 17 t) (s.2.1 18 t) (s.2.1 19 t) c2 i2 e2 b2 = (zs_sm k (s.1 17 t) (s.2.1 18 t) (s.2.1 19 t) (zs_tk r b2 (e2 - b2).toNat)).map (fun l => (l, e2)) := by
        unfold zs_co zs_ps
        rw [if_neg (by omega), if_neg (by omega), if_pos hc0]
      rw [hco] at kx put
      rw [if_pos hi0]
      obtain ⟨a0, ha0⟩ : ∃ a0, a0 = zs_tk r b2 (e2 - b2).toNat := ⟨_, rfl⟩
      have hlen : (a0.length : Int) = e2 - b2 := by rw [ha0, zs_tk_len]; omega
      have hall : zs_all a0 := by rw [ha0]; exact zs_tk_all hI.2.1 _ _ (by omega) (by omega)
      refine rc_115 (zm (zk H) (by omega)) hI hl oel (e2 - b2).toNat b2 0 b (by omega) (by omega) (by decide) (by omega) (ym_rt_cons (sg_121_216 (zy H) _ _ _ ?_))
      rw [← ha0] at kx put ⊢
      have hz0 : (0 : Int) + ((e2 - b2).toNat : Int) = a0.length := by omega
      rw [hz0]
      have hzr : zr (za b 0 a0) 0 a0 := zr_za a0 b 0
      simp only [rv_12_20, rv_12_21, rv_12_22, rv_12_23, rv_12_24, rv_12_25, rv_12_26, rv_12_28, rv_12_38, rv_12_42, rv_12_0, rv_12_1, rv_12_15, rv_12_16, rv_12_18, rv_28, rv_37, rv_38, rv_39, rv_40, rv_41, rv_29, rv_30, rv_31, rv_32, rv_33, rv_34, rv_35, rv_36, rv_42, rv_43, rv_44, rv_13, rv_14, rv_15, rv_16, rv_17, rv_18, rv_19, rv_20, rv_21, rv_22, rv_23, rv_24, rv_25, rv_26, rv_27, rv_r, rv_w12_20, rv_w12_21, rv_w12_22, rv_w12_23, rv_w12_24, rv_w12_25, rv_w12_26, rv_w12_28, rv_w12_38, rv_w12_42, rv_w28, rv_w37, rv_w38, rv_w39, rv_w40, rv_w41, rv_w29, rv_w30, rv_w31, rv_w32, rv_w33, rv_w34, rv_w35, rv_w36, rv_w42, rv_w43, rv_w44]
      have hB0 : ym_in (za b 0 a0 0) := by
        cases a0 with
        | nil => exact hb0in
        | cons v a1 =>
          have : za b 0 (v :: a1) 0 = v := hzr.1
          rw [this]
          obtain ⟨v0, v1⟩ := hall v (List.mem_cons_self ..)
          exact ⟨by omega, by omega⟩
      have e2b : 0 ≤ e2 ∧ e2 ≤ 200 := by omega
      -- done, or bad
      have num : ∀ (v : Bool), (zs_sm k (s.1 17 t) (s.2.1 18 t) (s.2.1 19 t) a0 = if v then some a0 else none) → k ≠ 1 → ∀ t1 : Int, t1 = (if v then 1 else 0) → ym_in t1 ∧ ym_in k ∧ (-2147483648 ≤ (if k = 1 then (if 0 < za b 0 a0 0 then (255 : Int) else za b 0 a0 0) else za b 0 a0 0) ∧ (if k = 1 then (if 0 < za b 0 a0 0 then (255 : Int) else za b 0 a0 0) else za b 0 a0 0) < 2147483648) ∧ ((if t1 = 0 then (1 : Int) else 0) = 0 → ym_Go sc P ((121, 328, [some (ym_P 12), some (ym_I t), some (ym_I w), some (ym_I k), none], []) :: K) (109, 0, [some (ym_P 12), some (ym_I w), none, none], []) (rv s e2 l w (if t1 = 0 then 1 else 0) c2 e2 ((a0.length : Int)) (zu (za b 0 a0) 0 (if k = 1 then (if 0 < za b 0 a0 0 then (255 : Int) else za b 0 a0 0) else za b 0 a0 0)) f F q A B C h o W S)) ∧ (¬ (if t1 = 0 then (1 : Int) else 0) = 0 → ym_Rt sc P K none (rv s e2 l w (if t1 = 0 then 1 else 0) c2 e2 ((a0.length : Int)) (zu (za b 0 a0) 0 (if k = 1 then (if 0 < za b 0 a0 0 then (255 : Int) else za b 0 a0 0) else za b 0 a0 0)) f F q A B C h o W S)) := by
        intro v hsm hk1 t1 ht1
        rw [if_neg hk1, zu_self]
        refine ⟨by rw [ht1]; cases v <;> decide, kin, hB0, ?_⟩
        cases v with
        | true =>
          rw [if_pos rfl] at ht1 hsm
          rw [ht1, if_neg (by decide)]
          refine ⟨fun _ => put a0 e2 (by rw [hsm]; rfl) none _ _ _ _ _ _ rfl hzr, fun y => absurd rfl y⟩
        | false =>
          rw [if_neg (by decide)] at ht1 hsm
          rw [ht1, if_pos rfl]
          exact ⟨fun y => absurd y (by decide), fun _ => kx (Or.inr (by rw [hsm]; rfl)) _ _ _ _ _ _ _ _ e2b.1 e2b.2⟩
      refine ⟨fun _ => ⟨kin, fun hk1 => ⟨kin, ?_⟩, fun hk1 => ⟨kin, fun hk2' => ?_, fun hk2' => ⟨kin, fun hk6 => ?_, fun hk6 => ⟨kin, ?_⟩⟩⟩⟩, fun y => absurd hc0 y⟩
      · rw [if_pos hk1]
        have hsm : zs_sm k (s.1 17 t) (s.2.1 18 t) (s.2.1 19 t) a0 = if a0.length = 1 then some [if a0 = [0] then 0 else 255] else none := by
          rw [hk1]
          rfl
        rw [hsm] at kx put
        have h255 : -2147483648 ≤ (if 0 < za b 0 a0 0 then (255 : Int) else za b 0 a0 0) ∧ (if 0 < za b 0 a0 0 then (255 : Int) else za b 0 a0 0) < 2147483648 := by
          have := hB0.1
          have := hB0.2
          split <;> omega
        refine ⟨h255, ?_⟩
        by_cases hl1 : a0.length = 1
        · rw [if_pos hl1] at put
          rw [if_pos (show (a0.length : Int) = 1 by omega)]
          refine ⟨fun _ => put [if a0 = [0] then 0 else 255] e2 rfl none _ _ _ _ _ _ (by simp; omega) ⟨?_, trivial⟩, fun y => absurd rfl y⟩
          show (if (0 : Int) = 0 then _ else _) = _
          rw [if_pos rfl]
          cases a0 with
          | nil => simp at hl1
          | cons v a1 =>
            have hv : za b 0 (v :: a1) 0 = v := hzr.1
            rw [hv]
            have ha1 : a1 = [] := by
              cases a1 with
              | nil => rfl
              | cons _ _ => simp at hl1
            subst ha1
            obtain ⟨v0, v1⟩ := hall v (List.mem_cons_self ..)
            by_cases hv0 : v = 0
            · subst hv0
              rfl
            · rw [if_pos (by omega), if_neg]
              intro y
              exact hv0 (List.head_eq_of_cons_eq y)
        · rw [if_neg hl1] at kx
          rw [if_neg (show ¬ (a0.length : Int) = 1 by omega)]
          exact ⟨fun y => absurd y (by decide), fun _ => kx (Or.inr rfl) _ _ _ _ _ _ _ _ e2b.1 e2b.2⟩
      · have hsm : zs_sm k (s.1 17 t) (s.2.1 18 t) (s.2.1 19 t) a0 = if zs_ig (s.1 17 t) (s.2.1 18 t) (s.2.1 19 t) a0 then some a0 else none := by
          rw [hk2']
          rfl
        refine rc_118 (zm (zk H) (by omega)) ht ht2 rfl (by omega) hzr hall hbd (ym_rt_cons (sg_121_250 (zy H) _ _ _ _ ?_))
        simp only [rv_12_20, rv_12_21, rv_12_22, rv_12_23, rv_12_24, rv_12_25, rv_12_26, rv_12_28, rv_12_38, rv_12_42, rv_12_0, rv_12_1, rv_12_15, rv_12_16, rv_12_18, rv_28, rv_37, rv_38, rv_39, rv_40, rv_41, rv_29, rv_30, rv_31, rv_32, rv_33, rv_34, rv_35, rv_36, rv_42, rv_43, rv_44, rv_13, rv_14, rv_15, rv_16, rv_17, rv_18, rv_19, rv_20, rv_21, rv_22, rv_23, rv_24, rv_25, rv_26, rv_27, rv_r, rv_w12_20, rv_w12_21, rv_w12_22, rv_w12_23, rv_w12_24, rv_w12_25, rv_w12_26, rv_w12_28, rv_w12_38, rv_w12_42, rv_w28, rv_w37, rv_w38, rv_w39, rv_w40, rv_w41, rv_w29, rv_w30, rv_w31, rv_w32, rv_w33, rv_w34, rv_w35, rv_w36, rv_w42, rv_w43, rv_w44]
        exact num _ hsm hk1 _ rfl
      · have hsm : zs_sm k (s.1 17 t) (s.2.1 18 t) (s.2.1 19 t) a0 = if zs_oi a0 then some a0 else none := by
          rw [hk6]
          rfl
        refine rc_119 (zm (zk H) (by omega)) rfl (by omega) hzr hall (ym_rt_cons (sg_121_266 (zy H) _ _ _ _ ?_))
        simp only [rv_12_20, rv_12_21, rv_12_22, rv_12_23, rv_12_24, rv_12_25, rv_12_26, rv_12_28, rv_12_38, rv_12_42, rv_12_0, rv_12_1, rv_12_15, rv_12_16, rv_12_18, rv_28, rv_37, rv_38, rv_39, rv_40, rv_41, rv_29, rv_30, rv_31, rv_32, rv_33, rv_34, rv_35, rv_36, rv_42, rv_43, rv_44, rv_13, rv_14, rv_15, rv_16, rv_17, rv_18, rv_19, rv_20, rv_21, rv_22, rv_23, rv_24, rv_25, rv_26, rv_27, rv_r, rv_w12_20, rv_w12_21, rv_w12_22, rv_w12_23, rv_w12_24, rv_w12_25, rv_w12_26, rv_w12_28, rv_w12_38, rv_w12_42, rv_w28, rv_w37, rv_w38, rv_w39, rv_w40, rv_w41, rv_w29, rv_w30, rv_w31, rv_w32, rv_w33, rv_w34, rv_w35, rv_w36, rv_w42, rv_w43, rv_w44]
        exact num _ hsm hk1 _ rfl
      · have hk5 : k = 5 := by omega
        have hsm : zs_sm k (s.1 17 t) (s.2.1 18 t) (s.2.1 19 t) a0 = if a0 = [] then some [] else none := by
          rw [hk5]
          rfl
        rw [hsm] at kx put
        rw [if_neg hk1, zu_self]
        refine ⟨hB0, ?_⟩
        by_cases hl0' : a0 = []
        · rw [if_pos hl0'] at put
          have hl00 : (a0.length : Int) = 0 := by rw [hl0']; rfl
          rw [if_neg (show ¬ (0 : Int) < (a0.length : Int) by omega)]
          exact ⟨fun _ => put [] e2 rfl none _ _ _ _ _ _ hl00 trivial, fun y => absurd rfl y⟩
        · rw [if_neg hl0'] at kx
          have : 0 < a0.length := List.length_pos_iff.mpr hl0'
          rw [if_pos (show (0 : Int) < (a0.length : Int) by omega)]
          exact ⟨fun y => absurd y (by decide), fun _ => kx (Or.inr rfl) _ _ _ _ _ _ _ _ e2b.1 e2b.2⟩
    have noplain : (k = 1 ∨ k = 2 ∨ k = 5 ∨ k = 6) → ¬ c2 = 0 → zs_co r k (s.1 17 t) (s.2.1 18 t) (s.2.1 19 t) c2 i2 e2 b2 = none := by
      intro hks hc0
      unfold zs_co zs_ps
      rw [if_neg (by omega), if_neg (by omega), if_neg hc0]
    have hb255 : -2147483648 ≤ (if k = 1 then (if 0 < b 0 then (255 : Int) else b 0) else b 0) ∧ (if k = 1 then (if 0 < b 0 then (255 : Int) else b 0) else b 0) < 2147483648 := by
      have := hb0in.1
      have := hb0in.2
      split
      · split <;> omega
      · omega
    refine ⟨fun _ => ⟨kin, bits, fun h3 => ⟨kin, fun h4 => strs (by omega), fun h4 => ⟨kin, fun h12 => strs (by omega), fun h12 => ⟨kin, fun h22 => strs (by omega), fun h22 => ⟨oc, plain (by omega), fun hc0 => ⟨fun y => absurd y hc0, fun _ => ⟨kin, hb255, ?_⟩⟩⟩⟩⟩⟩⟩, fun y => absurd hx0 y⟩
    exact kx (Or.inr (noplain (by omega) hc0)) _ _ _ _ _ _ _ _ (by omega) (by omega)
end
