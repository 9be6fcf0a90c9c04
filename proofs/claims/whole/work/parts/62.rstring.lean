/-! The reference's strings: own work. -/
def rB (bits : Bool) (b : Int → Int) (z u : Int) (a : List Int) : Prop := zr b (if bits then 1 else 0) a ∧ z = (if bits then 1 else 0) + a.length ∧ (bits = true → b 0 = u)
theorem rB_app {bits : Bool} {b : Int → Int} {z u : Int} {a l : List Int} (h : rB bits b z u a) : rB bits (za b z l) (z + l.length) u (a ++ l) := by
  obtain ⟨h1, h2, h3⟩ := h
  refine ⟨zr_app (zr_of b _ a _ h1 (fun j j0 j1 => za_lt _ _ _ _ (by omega))) ?_, ?_, fun hb => ?_⟩
  · rw [← h2]
    exact zr_za l b z
  · rw [List.length_append]
    omega
  · rw [za_lt _ _ _ _ (by rw [hb, if_pos rfl] at h2; omega)]
    exact h3 hb
theorem rB_u {b : Int → Int} {z u v : Int} {a : List Int} (h : rB true b z u a) : rB true (zu b 0 v) z v a := by
  obtain ⟨h1, h2, h3⟩ := h
  refine ⟨zr_of b _ a _ h1 (fun j j0 j1 => ?_), h2, fun _ => ?_⟩
  · show (if j = 0 then v else b j) = b j
    rw [if_neg]
    rw [if_pos rfl] at j0
    omega
  · show (if (0 : Int) = 0 then v else b 0) = v
    rw [if_pos rfl]
theorem zs_sl_h (r : Int → Int) (bits : Bool) (rec : Int → Int → Int → Int → Int → Option (List Int × Int × Int)) (f : Nat) (lim ind p u parts : Int) (hon : zs_on r lim ind p = true) : zs_sl r bits rec (f + 1) lim ind p u parts = (zs_h r lim p (zs_pt bits)).bind (fun y => (rec y.1 y.2.1 y.2.2.1 y.2.2.2 u).bind (fun z => (zs_sl r bits rec f lim ind z.2.2 z.2.1 (parts + 1)).map (fun t => (z.1 ++ t.1, t.2)))) := by
  rw [zs_sl, hon, if_pos rfl]
  unfold zs_h
  cases zs_id r lim p with
  | none => rfl
  | some x =>
    show (zs_le r lim x.2.2 x.1).bind _ = (if x.2.1 = zs_pt bits then _ else none : Option (Int × Int × Int × Int)).bind _
    by_cases hg : x.2.1 = zs_pt bits
    · rw [if_pos hg]
      cases zs_le r lim x.2.2 x.1 with
      | none => rfl
      | some y =>
        show (if x.2.1 = zs_pt bits then _ else none) = _
        rw [if_pos hg]
        rfl
    · rw [if_neg hg]
      cases zs_le r lim x.2.2 x.1 with
      | none => rfl
      | some y =>
        show (if x.2.1 = zs_pt bits then _ else none) = _
        rw [if_neg hg]
        rfl
theorem zs_h_ok {r : Int → Int} {lim N a w : Int} (hr : zs_oct r N) (hl : lim ≤ N) (ha : 0 ≤ a) {c i e b : Int} (h : zs_h r lim a w = some (c, i, e, b)) : (c = 0 ∨ c = 1) ∧ (i = 0 ∨ i = 1) ∧ a + 2 ≤ b ∧ b ≤ e ∧ e ≤ lim ∧ (i = 1 → e = lim ∧ c ≠ 0) ∧ 0 ≤ w ∧ w < 8388608 := by
  unfold zs_h at h
  cases e1 : zs_id r lim a with
  | none => rw [e1] at h; cases h
  | some y =>
    rw [e1] at h
    obtain ⟨c2, g2, b2⟩ := y
    have o1 := zs_id_ok hr hl ha e1
    change (if g2 = w then (zs_le r lim b2 c2).map (fun t => (c2, t)) else none) = _ at h
    split at h
    · rename_i hg
      cases e2 : zs_le r lim b2 c2 with
      | none => rw [e2] at h; cases h
      | some t =>
        rw [e2] at h
        obtain ⟨i3, e3, b3⟩ := t
        have o2 := zs_le_ok hr hl (by omega) e2
        have e4 := Option.some.inj h
        have y1 : c2 = c := congrArg (·.1) e4
        have y2 : i3 = i := congrArg (·.2.1) e4
        have y3 : e3 = e := congrArg (·.2.2.1) e4
        have y4 : b3 = b := congrArg (·.2.2.2) e4
        subst y1 y2 y3 y4 hg
        exact ⟨o1.1, o2.1, by omega, by omega, by omega, o2.2.2.2.2, by omega, by omega⟩
    · cases h
section
variable {sc : xm_S} {P : xm_O → xm_H → Prop} {K : List ym_F} {s : ym_S} {p l g x c e z : Int} {b : Int → Int} {f : Int} {F : Nat → Int → Int} {q : Int} {A B C : Int → Int} {h : Int} {o W : Int → Int} {S : Nat → Int → Int} {r : Int → Int} {N : Int}
theorem rc_115 (H : zh sc K 1) (hI : rIn s r N) (hl : l ≤ N) {a : Int} (ha : a ≤ l) : ∀ (n : Nat) (p z : Int) (b : Int → Int), a - p = n → 0 ≤ p → 0 ≤ z → z ≤ p → ym_Rt sc P K none (rv s a l g x c e (z+n) (za b z (zs_tk r p n)) f F q A B C h o W S) → ym_Go sc P K (115, 0, [some (ym_P 12), some (ym_I a)], []) (rv s p l g x c e z b f F q A B C h o W S)
  | 0, p, z, b, hn, hp, hz, hzp, kr => by
    have hN := hI.1
    refine sg_115_0 (zy H) _ ?_
    simp only [rv_12_20, rv_12_21, rv_12_22, rv_12_23, rv_12_24, rv_12_25, rv_12_26, rv_12_28, rv_12_38, rv_12_42, rv_12_0, rv_12_1, rv_12_15, rv_12_16, rv_12_18, rv_28, rv_37, rv_38, rv_39, rv_40, rv_41, rv_29, rv_30, rv_31, rv_32, rv_33, rv_34, rv_35, rv_36, rv_42, rv_43, rv_44, rv_13, rv_14, rv_15, rv_16, rv_17, rv_18, rv_19, rv_20, rv_21, rv_22, rv_23, rv_24, rv_25, rv_26, rv_27, rv_r, rv_w12_20, rv_w12_21, rv_w12_22, rv_w12_23, rv_w12_24, rv_w12_25, rv_w12_26, rv_w12_28, rv_w12_38, rv_w12_42, rv_w28, rv_w37, rv_w38, rv_w39, rv_w40, rv_w41, rv_w29, rv_w30, rv_w31, rv_w32, rv_w33, rv_w34, rv_w35, rv_w36, rv_w42, rv_w43, rv_w44]
    have e1 : a = p := by omega
    subst e1
    rw [show z + ((0 : Nat) : Int) = z by omega] at kr
    exact ⟨⟨by omega, by omega⟩, fun y => by exfalso; omega, fun _ => kr⟩
  | n + 1, p, z, b, hn, hp, hz, hzp, kr => by
    have hN := hI.1
    refine sg_115_0 (zy H) _ ?_
    simp only [rv_12_20, rv_12_21, rv_12_22, rv_12_23, rv_12_24, rv_12_25, rv_12_26, rv_12_28, rv_12_38, rv_12_42, rv_12_0, rv_12_1, rv_12_15, rv_12_16, rv_12_18, rv_28, rv_37, rv_38, rv_39, rv_40, rv_41, rv_29, rv_30, rv_31, rv_32, rv_33, rv_34, rv_35, rv_36, rv_42, rv_43, rv_44, rv_13, rv_14, rv_15, rv_16, rv_17, rv_18, rv_19, rv_20, rv_21, rv_22, rv_23, rv_24, rv_25, rv_26, rv_27, rv_r, rv_w12_20, rv_w12_21, rv_w12_22, rv_w12_23, rv_w12_24, rv_w12_25, rv_w12_26, rv_w12_28, rv_w12_38, rv_w12_42, rv_w28, rv_w37, rv_w38, rv_w39, rv_w40, rv_w41, rv_w29, rv_w30, rv_w31, rv_w32, rv_w33, rv_w34, rv_w35, rv_w36, rv_w42, rv_w43, rv_w44]
    refine ⟨⟨by omega, by omega⟩, fun _ => ?_, fun y => by exfalso; omega⟩
    refine rc_101 (zk H) hI hp hl (fun y o1 o2 => ym_rt_cons (sg_115_20 (zy H) _ _ _ ?_)) (fun y => by exfalso; omega)
    simp only [rv_12_20, rv_12_21, rv_12_22, rv_12_23, rv_12_24, rv_12_25, rv_12_26, rv_12_28, rv_12_38, rv_12_42, rv_12_0, rv_12_1, rv_12_15, rv_12_16, rv_12_18, rv_28, rv_37, rv_38, rv_39, rv_40, rv_41, rv_29, rv_30, rv_31, rv_32, rv_33, rv_34, rv_35, rv_36, rv_42, rv_43, rv_44, rv_13, rv_14, rv_15, rv_16, rv_17, rv_18, rv_19, rv_20, rv_21, rv_22, rv_23, rv_24, rv_25, rv_26, rv_27, rv_r, rv_w12_20, rv_w12_21, rv_w12_22, rv_w12_23, rv_w12_24, rv_w12_25, rv_w12_26, rv_w12_28, rv_w12_38, rv_w12_42, rv_w28, rv_w37, rv_w38, rv_w39, rv_w40, rv_w41, rv_w29, rv_w30, rv_w31, rv_w32, rv_w33, rv_w34, rv_w35, rv_w36, rv_w42, rv_w43, rv_w44]
    refine ⟨⟨by omega, by omega⟩, ⟨by omega, by omega⟩, ⟨by omega, by omega⟩, rc_115 H hI hl ha n (p + 1) (z + 1) _ (by omega) (by omega) (by omega) (by omega) ?_⟩
    rw [show z + 1 + (n : Int) = z + ((n + 1 : Nat) : Int) by omega]
    exact kr
/-- a piece of a BIT STRING -/
theorem rc_116 (H : zh sc K 2) (hI : rIn s r N) (hl : l ≤ N) (hx : x = 0) (hp : 0 ≤ p) (hpe : p ≤ e) (he : e ≤ l) (hz : 1 ≤ z) (hzp : z ≤ p) {u a : Int} (hu : 0 ≤ u) (ha : a = if 0 < u then 1 else 0) (kx : zs_pc r true e p u = none → ∀ p2 t b2, 0 ≤ p2 → p2 ≤ 200 → (t = 0 ∨ t = 1) → ym_Rt sc P K (some (ym_I t)) (rv s p2 l g 1 c e z b2 f F q A B C h o W S)) (kr : ∀ l2 u2 b2, zs_pc r true e p u = some (l2, u2, b2) → ym_Rt sc P K (some (ym_I (if 0 < u2 then 1 else 0))) (rv s b2 l g x c e (z+l2.length) (zu (za b z l2) 0 u2) f F q A B C h o W S)) : ym_Go sc P K (116, 0, [some (ym_P 12), some (ym_I a), none, none], []) (rv s p l g x c e z b f F q A B C h o W S) := by
  have hN := hI.1
  have ha1 : a = 0 ∨ a = 1 := by rw [ha]; split <;> simp
  -- the end of it: nothing is taken where it is bad
  have fin : ∀ p2 a3 x2, x2 = 1 → zs_pc r true e p u = none → 0 ≤ p2 → p2 ≤ l → 0 ≤ a3 → a3 < 256 → ym_Go sc P ((116, 78, [some (ym_P 12), some (ym_I a), some (ym_I (e - p)), some (ym_I a3)], []) :: K) (115, 0, [some (ym_P 12), some (ym_I p2)], []) (rv s p2 l g x2 c e z b f F q A B C h o W S) := by
    intro p2 a3 x2 hx2 hn y1 y2 y3 y4
    refine sg_115_0 (zy (zk H)) _ ?_
    simp only [rv_12_20, rv_12_21, rv_12_22, rv_12_23, rv_12_24, rv_12_25, rv_12_26, rv_12_28, rv_12_38, rv_12_42, rv_12_0, rv_12_1, rv_12_15, rv_12_16, rv_12_18, rv_28, rv_37, rv_38, rv_39, rv_40, rv_41, rv_29, rv_30, rv_31, rv_32, rv_33, rv_34, rv_35, rv_36, rv_42, rv_43, rv_44, rv_13, rv_14, rv_15, rv_16, rv_17, rv_18, rv_19, rv_20, rv_21, rv_22, rv_23, rv_24, rv_25, rv_26, rv_27, rv_r, rv_w12_20, rv_w12_21, rv_w12_22, rv_w12_23, rv_w12_24, rv_w12_25, rv_w12_26, rv_w12_28, rv_w12_38, rv_w12_42, rv_w28, rv_w37, rv_w38, rv_w39, rv_w40, rv_w41, rv_w29, rv_w30, rv_w31, rv_w32, rv_w33, rv_w34, rv_w35, rv_w36, rv_w42, rv_w43, rv_w44]
    refine ⟨⟨by omega, by omega⟩, fun y => by exfalso; omega, fun _ => ym_rt_cons (sg_116_81 (zy H) _ _ _ ?_)⟩
    simp only [rv_12_20, rv_12_21, rv_12_22, rv_12_23, rv_12_24, rv_12_25, rv_12_26, rv_12_28, rv_12_38, rv_12_42, rv_12_0, rv_12_1, rv_12_15, rv_12_16, rv_12_18, rv_28, rv_37, rv_38, rv_39, rv_40, rv_41, rv_29, rv_30, rv_31, rv_32, rv_33, rv_34, rv_35, rv_36, rv_42, rv_43, rv_44, rv_13, rv_14, rv_15, rv_16, rv_17, rv_18, rv_19, rv_20, rv_21, rv_22, rv_23, rv_24, rv_25, rv_26, rv_27, rv_r, rv_w12_20, rv_w12_21, rv_w12_22, rv_w12_23, rv_w12_24, rv_w12_25, rv_w12_26, rv_w12_28, rv_w12_38, rv_w12_42, rv_w28, rv_w37, rv_w38, rv_w39, rv_w40, rv_w41, rv_w29, rv_w30, rv_w31, rv_w32, rv_w33, rv_w34, rv_w35, rv_w36, rv_w42, rv_w43, rv_w44]
    rw [hx2]
    refine ⟨⟨by omega, by omega⟩, ⟨by omega, by omega⟩, kx hn p2 _ _ y1 (by omega) (by split <;> simp)⟩
  refine sg_116_0 (zy H) _ ?_
  simp only [rv_12_20, rv_12_21, rv_12_22, rv_12_23, rv_12_24, rv_12_25, rv_12_26, rv_12_28, rv_12_38, rv_12_42, rv_12_0, rv_12_1, rv_12_15, rv_12_16, rv_12_18, rv_28, rv_37, rv_38, rv_39, rv_40, rv_41, rv_29, rv_30, rv_31, rv_32, rv_33, rv_34, rv_35, rv_36, rv_42, rv_43, rv_44, rv_13, rv_14, rv_15, rv_16, rv_17, rv_18, rv_19, rv_20, rv_21, rv_22, rv_23, rv_24, rv_25, rv_26, rv_27, rv_r, rv_w12_20, rv_w12_21, rv_w12_22, rv_w12_23, rv_w12_24, rv_w12_25, rv_w12_26, rv_w12_28, rv_w12_38, rv_w12_42, rv_w28, rv_w37, rv_w38, rv_w39, rv_w40, rv_w41, rv_w29, rv_w30, rv_w31, rv_w32, rv_w33, rv_w34, rv_w35, rv_w36, rv_w42, rv_w43, rv_w44]
  refine ⟨⟨by omega, by omega⟩, fun h1 => ?_, fun h1 => ⟨fun _ => ⟨by omega, by omega⟩, ?_⟩⟩
  · refine rc_101 (zm (zk H) (by omega)) hI hp hl (fun y o1 o2 => ym_rt_cons (sg_116_18 (zy H) _ _ _ ?_)) (fun y => by exfalso; omega)
    simp only [rv_12_20, rv_12_21, rv_12_22, rv_12_23, rv_12_24, rv_12_25, rv_12_26, rv_12_28, rv_12_38, rv_12_42, rv_12_0, rv_12_1, rv_12_15, rv_12_16, rv_12_18, rv_28, rv_37, rv_38, rv_39, rv_40, rv_41, rv_29, rv_30, rv_31, rv_32, rv_33, rv_34, rv_35, rv_36, rv_42, rv_43, rv_44, rv_13, rv_14, rv_15, rv_16, rv_17, rv_18, rv_19, rv_20, rv_21, rv_22, rv_23, rv_24, rv_25, rv_26, rv_27, rv_r, rv_w12_20, rv_w12_21, rv_w12_22, rv_w12_23, rv_w12_24, rv_w12_25, rv_w12_26, rv_w12_28, rv_w12_38, rv_w12_42, rv_w28, rv_w37, rv_w38, rv_w39, rv_w40, rv_w41, rv_w29, rv_w30, rv_w31, rv_w32, rv_w33, rv_w34, rv_w35, rv_w36, rv_w42, rv_w43, rv_w44]
    refine ⟨fun _ => ⟨⟨by omega, by omega⟩, fun _ => ⟨⟨by omega, by omega⟩, fun _ => ⟨⟨by omega, by omega⟩, fun _ => ⟨by omega, by omega⟩⟩⟩⟩, ?_⟩
    rw [if_pos hx]
    have hpc : zs_pc r true e p u = if u = 0 then (if 7 < r p then none else (if r p ≠ 0 ∧ p + 1 = e then none else some (zs_tk r (p + 1) (e - (p + 1)).toNat, r p, e))) else none := by
      unfold zs_pc
      rw [if_pos rfl]
      by_cases h2 : u = 0
      · rw [if_pos h2, if_pos h2, if_pos (by omega)]
      · rw [if_neg h2, if_neg h2]
    by_cases h2 : u = 0
    · rw [if_pos h2] at hpc
      rw [if_neg (by omega)] at ha
      rw [if_pos (show a = 0 from ha)]
      by_cases h7 : 7 < r p
      · rw [if_pos h7] at hpc
        rw [if_pos h7, if_neg (by decide)]
        exact fin (p + 1) (r p) 1 rfl hpc (by omega) (by omega) o1 o2
      · rw [if_neg h7] at hpc
        rw [if_neg h7]
        by_cases h3 : r p ≠ 0 ∧ p + 1 = e
        · rw [if_pos h3] at hpc
          rw [if_pos (show e - p = 1 by omega), if_pos (show 0 < r p by omega), if_neg (by decide)]
          exact fin (p + 1) (r p) 1 rfl hpc (by omega) (by omega) o1 o2
        · rw [if_neg h3] at hpc
          have e1 : (if e - p = 1 then (if 0 < r p then (1 : Int) else 0) else 0) = 0 := by
            by_cases h5 : e - p = 1
            · rw [if_pos h5, if_neg]
              intro h6
              exact h3 ⟨by omega, by omega⟩
            · rw [if_neg h5]
          rw [e1, if_pos rfl]
          refine rc_115 (zm (zk H) (by omega)) hI hl he (e - (p + 1)).toNat (p + 1) z b (by omega) (by omega) (by omega) (by omega) (ym_rt_cons (sg_116_81 (zy H) _ _ _ ?_))
          simp only [rv_12_20, rv_12_21, rv_12_22, rv_12_23, rv_12_24, rv_12_25, rv_12_26, rv_12_28, rv_12_38, rv_12_42, rv_12_0, rv_12_1, rv_12_15, rv_12_16, rv_12_18, rv_28, rv_37, rv_38, rv_39, rv_40, rv_41, rv_29, rv_30, rv_31, rv_32, rv_33, rv_34, rv_35, rv_36, rv_42, rv_43, rv_44, rv_13, rv_14, rv_15, rv_16, rv_17, rv_18, rv_19, rv_20, rv_21, rv_22, rv_23, rv_24, rv_25, rv_26, rv_27, rv_r, rv_w12_20, rv_w12_21, rv_w12_22, rv_w12_23, rv_w12_24, rv_w12_25, rv_w12_26, rv_w12_28, rv_w12_38, rv_w12_42, rv_w28, rv_w37, rv_w38, rv_w39, rv_w40, rv_w41, rv_w29, rv_w30, rv_w31, rv_w32, rv_w33, rv_w34, rv_w35, rv_w36, rv_w42, rv_w43, rv_w44]
          have := kr _ _ _ hpc
          rw [zs_tk_len, hx] at this
          exact ⟨⟨by omega, by omega⟩, ⟨by omega, by omega⟩, this⟩
    · rw [if_neg h2] at hpc
      rw [if_pos (by omega)] at ha
      rw [if_neg (show ¬ a = 0 by omega), if_neg (by decide)]
      exact fin (p + 1) (r p) 1 rfl hpc (by omega) (by omega) o1 o2
  · have e1 : (if x = 0 then (if a = 0 then (1 : Int) else 1) else 1) = 1 := by
      by_cases h5 : x = 0 <;> by_cases h6 : a = 0 <;> simp [h5, h6]
    rw [e1, if_neg (by decide)]
    refine fin p 8 1 rfl ?_ hp (by omega) (by decide) (by decide)
    unfold zs_pc
    rw [if_pos rfl]
    by_cases h2 : u = 0
    · rw [if_pos h2, if_neg (by omega)]
    · rw [if_neg h2]
/-- once bad, the loop is left -/
theorem rc_117c (H : zh sc K 0) {a1 a2 a3 a4 : Int} (h4 : a4 = 0 ∨ a4 = 1) (hx : x = 1) (kr : ym_Rt sc P K none (rv s p l g x c e z b f F q A B C h o W S)) : ym_Go sc P K (117, 7, [some (ym_P 12), some (ym_I a1), some (ym_I a2), some (ym_I a3), some (ym_I a4)], []) (rv s p l g x c e z b f F q A B C h o W S) := by
  refine sg_117_7 (zy H) _ _ _ _ ?_
  simp only [rv_12_20, rv_12_21, rv_12_22, rv_12_23, rv_12_24, rv_12_25, rv_12_26, rv_12_28, rv_12_38, rv_12_42, rv_12_0, rv_12_1, rv_12_15, rv_12_16, rv_12_18, rv_28, rv_37, rv_38, rv_39, rv_40, rv_41, rv_29, rv_30, rv_31, rv_32, rv_33, rv_34, rv_35, rv_36, rv_42, rv_43, rv_44, rv_13, rv_14, rv_15, rv_16, rv_17, rv_18, rv_19, rv_20, rv_21, rv_22, rv_23, rv_24, rv_25, rv_26, rv_27, rv_r, rv_w12_20, rv_w12_21, rv_w12_22, rv_w12_23, rv_w12_24, rv_w12_25, rv_w12_26, rv_w12_28, rv_w12_38, rv_w12_42, rv_w28, rv_w37, rv_w38, rv_w39, rv_w40, rv_w41, rv_w29, rv_w30, rv_w31, rv_w32, rv_w33, rv_w34, rv_w35, rv_w36, rv_w42, rv_w43, rv_w44]
  exact ⟨⟨by omega, by omega⟩, fun _ => kr, fun _ => ⟨fun y => by exfalso; omega, fun _ => kr⟩⟩
theorem rc_117b (H : zh sc K 0) {a1 a2 a3 : Int} (h2 : 0 ≤ a2) (h22 : a2 ≤ 5) (hx : x = 1) (kr : ym_Rt sc P K none (rv s p l g x c e z b f F q A B C h o W S)) : ym_Go sc P K (117, 116, [some (ym_P 12), some (ym_I a1), some (ym_I a2), some (ym_I a3), some (ym_I 1)], []) (rv s p l g x c e z b f F q A B C h o W S) := by
  have l7 : ∀ a4 : Int, (a4 = 0 ∨ a4 = 1) → ym_Go sc P K (117, 7, [some (ym_P 12), some (ym_I a1), some (ym_I a2), some (ym_I a3), some (ym_I a4)], []) (rv s p l g x c e z b f F q A B C h o W S) := by
    intro a4 h4
    refine sg_117_7 (zy H) _ _ _ _ ?_
    simp only [rv_12_20, rv_12_21, rv_12_22, rv_12_23, rv_12_24, rv_12_25, rv_12_26, rv_12_28, rv_12_38, rv_12_42, rv_12_0, rv_12_1, rv_12_15, rv_12_16, rv_12_18, rv_28, rv_37, rv_38, rv_39, rv_40, rv_41, rv_29, rv_30, rv_31, rv_32, rv_33, rv_34, rv_35, rv_36, rv_42, rv_43, rv_44, rv_13, rv_14, rv_15, rv_16, rv_17, rv_18, rv_19, rv_20, rv_21, rv_22, rv_23, rv_24, rv_25, rv_26, rv_27, rv_r, rv_w12_20, rv_w12_21, rv_w12_22, rv_w12_23, rv_w12_24, rv_w12_25, rv_w12_26, rv_w12_28, rv_w12_38, rv_w12_42, rv_w28, rv_w37, rv_w38, rv_w39, rv_w40, rv_w41, rv_w29, rv_w30, rv_w31, rv_w32, rv_w33, rv_w34, rv_w35, rv_w36, rv_w42, rv_w43, rv_w44]
    exact ⟨⟨by omega, by omega⟩, fun _ => kr, fun _ => ⟨fun y => by exfalso; omega, fun _ => kr⟩⟩
  refine sg_117_116 (zy H) _ _ _ _ ?_
  simp only [rv_12_20, rv_12_21, rv_12_22, rv_12_23, rv_12_24, rv_12_25, rv_12_26, rv_12_28, rv_12_38, rv_12_42, rv_12_0, rv_12_1, rv_12_15, rv_12_16, rv_12_18, rv_28, rv_37, rv_38, rv_39, rv_40, rv_41, rv_29, rv_30, rv_31, rv_32, rv_33, rv_34, rv_35, rv_36, rv_42, rv_43, rv_44, rv_13, rv_14, rv_15, rv_16, rv_17, rv_18, rv_19, rv_20, rv_21, rv_22, rv_23, rv_24, rv_25, rv_26, rv_27, rv_r, rv_w12_20, rv_w12_21, rv_w12_22, rv_w12_23, rv_w12_24, rv_w12_25, rv_w12_26, rv_w12_28, rv_w12_38, rv_w12_42, rv_w28, rv_w37, rv_w38, rv_w39, rv_w40, rv_w41, rv_w29, rv_w30, rv_w31, rv_w32, rv_w33, rv_w34, rv_w35, rv_w36, rv_w42, rv_w43, rv_w44]
  have hb : (if 0 < a2 then (1 : Int) else 0) = 0 ∨ (if 0 < a2 then (1 : Int) else 0) = 1 := by split <;> simp
  exact ⟨⟨by omega, by omega⟩, fun _ => ⟨fun y => by exfalso; omega, fun _ => ⟨⟨by omega, by omega⟩, fun _ => l7 _ hb, fun _ => ⟨fun y => by exfalso; omega, fun _ => l7 _ hb⟩⟩⟩, fun _ => ⟨⟨by omega, by omega⟩, fun _ => l7 _ hb, fun _ => ⟨fun y => by exfalso; omega, fun _ => l7 _ hb⟩⟩⟩
def rbi (bits : Bool) : Int := if bits then 1 else 0
def rStP (sc : xm_S) (P : xm_O → xm_H → Prop) (K : List ym_F) (s : ym_S) (r : Int → Int) (N : Int) (bits : Bool) (f : Int) (F : Nat → Int → Int) (q : Int) (A B C : Int → Int) (h : Int) (o W : Int → Int) (d : Nat) : Prop := ∀ (p l g x c e z u : Int) (b : Int → Int) (S : Nat → Int → Int) (i ee : Int) (a : List Int), x = 0 → (c = 0 ∨ c = 1) → (i = 0 ∨ i = 1) → e = (if i = 0 then ee else -1) → (i = 1 → ee = l ∧ c ≠ 0) → 0 ≤ p → p ≤ ee → ee ≤ l → l ≤ N → 0 ≤ u → u ≤ 7 → rB bits b z u a → z ≤ p → (zs_st r bits d c i ee p u = none → ∀ p2 l2 g2 c2 e2 z2 b2 S2, 0 ≤ p2 → p2 ≤ 200 → ym_Rt sc P K none (rv s p2 l2 g2 1 c2 e2 z2 b2 f F q A B C h o W S2)) → (∀ l2 u2 b2, zs_st r bits d c i ee p u = some (l2, u2, b2) → ∀ g2 c2 e2 z2 b3 S2, (∀ k j, j < 4 - (d : Int) → S2 k j = S k j) → rB bits b3 z2 u2 (a ++ l2) → ym_Go sc P K (117, 116, [some (ym_P 12), some (ym_I (rbi bits)), some (ym_I (4 - (d : Int))), some (ym_I (if 0 < u2 then 1 else 0)), some (ym_I 1)], []) (rv s b2 l g2 x c2 e2 z2 b3 f F q A B C h o W S2)) → ym_Go sc P K (117, 7, [some (ym_P 12), some (ym_I (rbi bits)), some (ym_I (4 - (d : Int))), some (ym_I (if 0 < u then 1 else 0)), some (ym_I 1)], []) (rv s p l g x c e z b f F q A B C h o W S)
theorem rSt_piece (H : zh sc K 4) (hI : rIn s r N) (bits : Bool) (d : Nat) (hd : d ≤ 4) {p l g x c e z u : Int} {b : Int → Int} {S : Nat → Int → Int} {a : List Int} (hx : x = 0) (hc : c = 0) (hp : 0 ≤ p) (hpe : p ≤ e) (he : e ≤ l) (hl : l ≤ N) (hu : 0 ≤ u) (hu7 : u ≤ 7) (hB : rB bits b z u a) (hzp : z ≤ p) (kx : zs_pc r bits e p u = none → ∀ p2 b2, 0 ≤ p2 → p2 ≤ 200 → ym_Rt sc P K none (rv s p2 l g 1 c e z b2 f F q A B C h o W S)) (kr : ∀ l2 u2 b2, zs_pc r bits e p u = some (l2, u2, b2) → ∀ z2 b3, rB bits b3 z2 u2 (a ++ l2) → ym_Go sc P K (117, 116, [some (ym_P 12), some (ym_I (rbi bits)), some (ym_I (4 - (d : Int))), some (ym_I (if 0 < u2 then 1 else 0)), some (ym_I 1)], []) (rv s b2 l g x c e z2 b3 f F q A B C h o W S)) : ym_Go sc P K (117, 7, [some (ym_P 12), some (ym_I (rbi bits)), some (ym_I (4 - (d : Int))), some (ym_I (if 0 < u then 1 else 0)), some (ym_I 1)], []) (rv s p l g x c e z b f F q A B C h o W S) := by
  have hN := hI.1
  have hz0 : z = (if bits then 1 else 0) + a.length := hB.2.1
  have hub : (if 0 < u then (1 : Int) else 0) = 0 ∨ (if 0 < u then (1 : Int) else 0) = 1 := by split <;> simp
  refine sg_117_7 (zy H) _ _ _ _ ?_
  simp only [rv_12_20, rv_12_21, rv_12_22, rv_12_23, rv_12_24, rv_12_25, rv_12_26, rv_12_28, rv_12_38, rv_12_42, rv_12_0, rv_12_1, rv_12_15, rv_12_16, rv_12_18, rv_28, rv_37, rv_38, rv_39, rv_40, rv_41, rv_29, rv_30, rv_31, rv_32, rv_33, rv_34, rv_35, rv_36, rv_42, rv_43, rv_44, rv_13, rv_14, rv_15, rv_16, rv_17, rv_18, rv_19, rv_20, rv_21, rv_22, rv_23, rv_24, rv_25, rv_26, rv_27, rv_r, rv_w12_20, rv_w12_21, rv_w12_22, rv_w12_23, rv_w12_24, rv_w12_25, rv_w12_26, rv_w12_28, rv_w12_38, rv_w12_42, rv_w28, rv_w37, rv_w38, rv_w39, rv_w40, rv_w41, rv_w29, rv_w30, rv_w31, rv_w32, rv_w33, rv_w34, rv_w35, rv_w36, rv_w42, rv_w43, rv_w44]
  refine ⟨by decide, fun y => absurd y (by decide), fun _ => ⟨fun _ => ⟨fun _ => ⟨by cases bits <;> decide, fun hb => ?_, fun hb => ?_⟩, fun y => absurd hc y⟩, fun y => absurd hx y⟩⟩
  · cases bits with
    | true => exact absurd hb (by decide)
    | false =>
      rw [if_neg (by decide)] at hz0
      refine rc_115 (zm (zk H) (by omega)) hI hl he (e - p).toNat p z b (by omega) hp (by omega) hzp (ym_rt_cons ?_)
      have hB2 := rB_app (l := zs_tk r p (e - p).toNat) hB
      rw [zs_tk_len] at hB2
      exact kr _ _ _ rfl _ _ hB2
  · cases bits with
    | false => exact absurd rfl hb
    | true =>
      rw [if_pos rfl] at hz0
      refine rc_116 (zm (zk H) (by omega)) hI hl hx hp hpe he (by omega) hzp hu rfl (fun y p2 t b2 y1 y2 y3 => ym_rt_cons (sg_117_104 (zy H) _ _ _ _ _ (rc_117b (zm H (by omega)) (by omega) (by omega) rfl (kx y p2 b2 y1 y2)))) (fun l2 u2 b2 y => ym_rt_cons (sg_117_104 (zy H) _ _ _ _ _ ?_))
      exact kr l2 u2 b2 y _ _ (rB_u (rB_app hB))
theorem rSl (hI : rIn s r N) (bits : Bool) {f : Int} {F : Nat → Int → Int} {q : Int} {A B C : Int → Int} {h : Int} {o W : Int → Int} (d : Nat) (hd : d ≤ 3) (H : zh sc K 4) (ih : rStP sc P K s r N bits f F q A B C h o W d) (lim ind l0 : Int) (hl0 : 0 ≤ lim) (hl : lim ≤ N) (hind : ind = 0 ∨ ind = 1) (hl00 : -1000 ≤ l0) (hl01 : l0 ≤ 1000) (S0 : Nat → Int → Int) : ∀ (k : Nat) (p l g x c e z u : Int) (b : Int → Int) (S : Nat → Int → Int) (parts : Int) (a : List Int), lim - p < k → x = 0 → l = lim → 0 ≤ p → p ≤ lim → 2 * parts ≤ p → 0 ≤ parts → 0 ≤ u → u ≤ 7 → rB bits b z u a → z ≤ p → S 42 (4 - ((d + 1 : Nat) : Int)) = (if ind = 0 then lim else -1) → S 43 (4 - ((d + 1 : Nat) : Int)) = l0 → S 44 (4 - ((d + 1 : Nat) : Int)) = parts → (∀ k j, j < 4 - ((d + 1 : Nat) : Int) → S k j = S0 k j) → (zs_sl r bits (zs_st r bits d) k lim ind p u parts = none → ∀ p2 l2 g2 c2 e2 z2 b2 S2, 0 ≤ p2 → p2 ≤ 200 → ym_Rt sc P K none (rv s p2 l2 g2 1 c2 e2 z2 b2 f F q A B C h o W S2)) → (∀ l2 u2 b2, zs_sl r bits (zs_st r bits d) k lim ind p u parts = some (l2, u2, b2) → ∀ g2 c2 e2 z2 b3 S2, (∀ k j, j < 4 - ((d + 1 : Nat) : Int) → S2 k j = S0 k j) → rB bits b3 z2 u2 (a ++ l2) → ym_Go sc P K (117, 116, [some (ym_P 12), some (ym_I (rbi bits)), some (ym_I (4 - ((d + 1 : Nat) : Int))), some (ym_I (if 0 < u2 then 1 else 0)), some (ym_I 1)], []) (rv s b2 l0 g2 0 c2 e2 z2 b3 f F q A B C h o W S2)) → ym_Go sc P K (117, 116, [some (ym_P 12), some (ym_I (rbi bits)), some (ym_I (4 - (d : Int))), some (ym_I (if 0 < u then 1 else 0)), some (ym_I 1)], []) (rv s p l g x c e z b f F q A B C h o W S)
  | 0, p, l, g, x, c, e, z, u, b, S, parts, a, hk, hx, hll, hp, hpl, hpa, hpa0, hu, hu7, hB, hzp, s1, s2, s3, s4, kx, kr => by exfalso; omega
  | k + 1, p, l, g, x, c, e, z, u, b, S, parts, a, hk, hx, hll, hp, hpl, hpa, hpa0, hu, hu7, hB, hzp, s1, s2, s3, s4, kx, kr => by
    have hN := hI.1
    have hbi : ym_in (rbi bits) := by cases bits <;> decide
    have hub : (if 0 < u then (1 : Int) else 0) = 0 ∨ (if 0 < u then (1 : Int) else 0) = 1 := by split <;> simp
    have ed : 4 - (d : Int) - 1 = 4 - ((d + 1 : Nat) : Int) := by omega
    have ed2 : 4 - (d : Int) + -1 = 4 - ((d + 1 : Nat) : Int) := by omega
    refine sg_117_116 (zy H) _ _ _ _ ?_
    simp only [rv_12_20, rv_12_21, rv_12_22, rv_12_23, rv_12_24, rv_12_25, rv_12_26, rv_12_28, rv_12_38, rv_12_42, rv_12_0, rv_12_1, rv_12_15, rv_12_16, rv_12_18, rv_28, rv_37, rv_38, rv_39, rv_40, rv_41, rv_29, rv_30, rv_31, rv_32, rv_33, rv_34, rv_35, rv_36, rv_42, rv_43, rv_44, rv_13, rv_14, rv_15, rv_16, rv_17, rv_18, rv_19, rv_20, rv_21, rv_22, rv_23, rv_24, rv_25, rv_26, rv_27, rv_r, rv_w12_20, rv_w12_21, rv_w12_22, rv_w12_23, rv_w12_24, rv_w12_25, rv_w12_26, rv_w12_28, rv_w12_38, rv_w12_42, rv_w28, rv_w37, rv_w38, rv_w39, rv_w40, rv_w41, rv_w29, rv_w30, rv_w31, rv_w32, rv_w33, rv_w34, rv_w35, rv_w36, rv_w42, rv_w43, rv_w44]
    refine ⟨⟨by omega, by omega⟩, fun _ => ⟨fun _ => ⟨⟨by omega, by omega⟩, ?_⟩, fun y => absurd hx y⟩, fun y => by exfalso; omega⟩
    rw [ed, s1]
    subst hll
    refine rc_105 (zm (zk H) (by omega)) hI hp (by omega) hl hl0 hind rfl (ym_rt_cons (sg_117_139 (zy H) _ _ _ _ _ ?_))
    simp only [rv_12_20, rv_12_21, rv_12_22, rv_12_23, rv_12_24, rv_12_25, rv_12_26, rv_12_28, rv_12_38, rv_12_42, rv_12_0, rv_12_1, rv_12_15, rv_12_16, rv_12_18, rv_28, rv_37, rv_38, rv_39, rv_40, rv_41, rv_29, rv_30, rv_31, rv_32, rv_33, rv_34, rv_35, rv_36, rv_42, rv_43, rv_44, rv_13, rv_14, rv_15, rv_16, rv_17, rv_18, rv_19, rv_20, rv_21, rv_22, rv_23, rv_24, rv_25, rv_26, rv_27, rv_r, rv_w12_20, rv_w12_21, rv_w12_22, rv_w12_23, rv_w12_24, rv_w12_25, rv_w12_26, rv_w12_28, rv_w12_38, rv_w12_42, rv_w28, rv_w37, rv_w38, rv_w39, rv_w40, rv_w41, rv_w29, rv_w30, rv_w31, rv_w32, rv_w33, rv_w34, rv_w35, rv_w36, rv_w42, rv_w43, rv_w44]
    rw [ed2, s1, s2, s3]
    cases hon : zs_on r l ind p with
    | false =>
      rw [if_neg (by decide)]
      have hsl : zs_sl r bits (zs_st r bits d) (k + 1) l ind p u parts = if bits = true ∧ parts = 0 then none else some ([], u, zs_sk ind p) := by
        rw [zs_sl, hon, if_neg (by decide)]
      rw [hsl] at kx kr
      have e2 : p + (if (if ind = 0 then l else -1) < 0 then (2 : Int) else 0) = zs_sk ind p := by
        unfold zs_sk
        rcases hind with y | y
        · rw [if_pos y, if_pos y, if_neg (by omega)]
          omega
        · have e5 : (if ind = 0 then l else (-1 : Int)) = -1 := if_neg (by omega)
          rw [e5, if_pos (show (-1 : Int) < 0 by decide), if_neg (show ¬ ind = 0 by omega)]
      rw [e2]
      obtain ⟨a1, a2, a3⟩ := zs_on_end hon hpl
      refine ⟨by decide, fun _ => ⟨⟨hbi, fun _ => ⟨by omega, by omega⟩⟩, ⟨by omega, by omega⟩, ⟨by omega, by omega⟩, ⟨by omega, by omega⟩, ?_⟩, fun y => absurd rfl y⟩
      by_cases hb : bits = true ∧ parts = 0
      · rw [if_pos hb] at kx
        rw [if_neg (show ¬ rbi bits = 0 by rw [hb.1]; decide), if_pos hb.2]
        exact rc_117b (zm H (by omega)) (by omega) (by omega) rfl (kx rfl _ _ _ _ _ _ _ _ (by omega) (by omega))
      · rw [if_neg hb] at kr
        have e3 : (if rbi bits = 0 then (0 : Int) else (if parts = 0 then 1 else 0)) = 0 := by
          cases bits with
          | false => rfl
          | true =>
            rw [if_neg (show ¬ rbi true = 0 by decide), if_neg (fun y => hb ⟨rfl, y⟩)]
        rw [e3]
        have := kr [] u (zs_sk ind p) rfl g c e z b S s4 (by rw [List.append_nil]; exact hB)
        exact this
    | true =>
      rw [if_pos rfl, if_pos (show 0 < 4 - (d : Int) by omega)]
      rw [zs_sl_h _ _ _ _ _ _ _ _ _ hon] at kx kr
      refine ⟨by decide, fun y => absurd y (by decide), fun _ => ⟨⟨by omega, by omega⟩, fun y => absurd y (by decide), fun _ => ⟨fun _ => ⟨hbi, ?_⟩, fun y => absurd hx y⟩⟩⟩
      rw [show (if rbi bits = 0 then (4 : Int) else 3) = zs_pt bits by cases bits <;> rfl]
      refine rc_104 (zk H) hI hp (by omega) hl0 hl (Or.inl hx) (cc_pt bits) (fun y p2 g2 c2 e2 y1 y2 y3 y4 y5 y6 y7 => ?_) (fun _ c2 i2 e2 b2 hh => ym_rt_cons (sg_117_239 (zy H) _ _ _ _ ?_))
      · have y0 : zs_h r l p (zs_pt bits) = none := y.elim (fun w => by omega) id
        refine ym_rt_cons (sg_117_239 (zy H) _ _ _ _ ?_)
        simp only [rv_12_20, rv_12_21, rv_12_22, rv_12_23, rv_12_24, rv_12_25, rv_12_26, rv_12_28, rv_12_38, rv_12_42, rv_12_0, rv_12_1, rv_12_15, rv_12_16, rv_12_18, rv_28, rv_37, rv_38, rv_39, rv_40, rv_41, rv_29, rv_30, rv_31, rv_32, rv_33, rv_34, rv_35, rv_36, rv_42, rv_43, rv_44, rv_13, rv_14, rv_15, rv_16, rv_17, rv_18, rv_19, rv_20, rv_21, rv_22, rv_23, rv_24, rv_25, rv_26, rv_27, rv_r, rv_w12_20, rv_w12_21, rv_w12_22, rv_w12_23, rv_w12_24, rv_w12_25, rv_w12_26, rv_w12_28, rv_w12_38, rv_w12_42, rv_w28, rv_w37, rv_w38, rv_w39, rv_w40, rv_w41, rv_w29, rv_w30, rv_w31, rv_w32, rv_w33, rv_w34, rv_w35, rv_w36, rv_w42, rv_w43, rv_w44]
        rw [ed, s3]
        refine ⟨⟨by omega, by omega⟩, ⟨by omega, by omega⟩, ⟨by omega, by omega⟩, ?_⟩
        exact rc_117c (zm H (by omega)) (Or.inr rfl) rfl (kx (by rw [y0]; rfl) _ _ _ _ _ _ _ _ y1 y2)
      · rw [hh] at kx kr
        have o2 := zs_h_ok hI.2.1 hl hp hh
        simp only [rv_12_20, rv_12_21, rv_12_22, rv_12_23, rv_12_24, rv_12_25, rv_12_26, rv_12_28, rv_12_38, rv_12_42, rv_12_0, rv_12_1, rv_12_15, rv_12_16, rv_12_18, rv_28, rv_37, rv_38, rv_39, rv_40, rv_41, rv_29, rv_30, rv_31, rv_32, rv_33, rv_34, rv_35, rv_36, rv_42, rv_43, rv_44, rv_13, rv_14, rv_15, rv_16, rv_17, rv_18, rv_19, rv_20, rv_21, rv_22, rv_23, rv_24, rv_25, rv_26, rv_27, rv_r, rv_w12_20, rv_w12_21, rv_w12_22, rv_w12_23, rv_w12_24, rv_w12_25, rv_w12_26, rv_w12_28, rv_w12_38, rv_w12_42, rv_w28, rv_w37, rv_w38, rv_w39, rv_w40, rv_w41, rv_w29, rv_w30, rv_w31, rv_w32, rv_w33, rv_w34, rv_w35, rv_w36, rv_w42, rv_w43, rv_w44]
        rw [ed, s3]
        refine ⟨⟨by omega, by omega⟩, ⟨by omega, by omega⟩, ⟨by omega, by omega⟩, ?_⟩
        change (zs_st r bits d c2 i2 e2 b2 u).bind _ = none → _ at kx
        change ∀ l2 u2 b2', (zs_st r bits d c2 i2 e2 b2 u).bind _ = _ → _ at kr
        refine ih b2 l _ x c2 _ z u b _ i2 e2 a hx o2.1 o2.2.1 rfl o2.2.2.2.2.2.1 (by omega) o2.2.2.2.1 o2.2.2.2.2.1 hl hu hu7 hB (by omega) (fun y => kx (by rw [y]; rfl)) (fun l3 u3 b3 h3 g4 c4 e4 z4 b4 S4 w1 w2 => ?_)
        rw [h3] at kx kr
        obtain ⟨⟨q1, q2, q3, q4, q5, q6⟩, q7⟩ := zs_st_ok hI.2.1 bits d _ _ _ _ _ _ (by omega) (by omega) o2.2.2.2.1 h3
        change ((l3.length : Nat) : Int) ≤ b3 - b2 at q1
        change b2 ≤ b3 at q2
        change b3 ≤ e2 at q3
        obtain ⟨u0, u7⟩ := q5 ⟨hu, hu7⟩
        change 0 ≤ u3 at u0
        change u3 ≤ 7 at u7
        have rd : ∀ k j, j ≠ 4 - ((d + 1 : Nat) : Int) ∨ k ≠ 44 → ym_u S 44 (4 - ((d + 1 : Nat) : Int)) (parts + 1) k j = S k j := by
          intro k j hkj
          by_cases hk : k = 44
          · subst hk
            exact ym_u_jn (hkj.elim id (fun w => absurd rfl w))
          · exact ym_u_ne hk
        have hz2 : z4 = (if bits then 1 else 0) + (a ++ l3).length := w2.2.1
        have hz1 : z = (if bits then 1 else 0) + a.length := hB.2.1
        rw [List.length_append] at hz2
        refine rSl hI bits d hd H ih l ind l0 hl0 hl hind hl00 hl01 S0 k b3 l g4 x c4 e4 z4 u3 b4 S4 (parts + 1) (a ++ l3) (by omega) hx rfl (by omega) (by omega) (by omega) (by omega) u0 u7 w2 (by omega) ?_ ?_ ?_ ?_ (fun y => kx ?_) (fun l5 u5 b5 h5 g6 c6 e6 z6 b6 S6 w3 w4 => ?_)
        · rw [w1 42 _ (by omega), rd _ _ (Or.inr (by decide))]
          exact s1
        · rw [w1 43 _ (by omega), rd _ _ (Or.inr (by decide))]
          exact s2
        · rw [w1 44 _ (by omega)]
          exact ym_u_eq
        · intro k' j' hj'
          rw [w1 k' j' (by omega), rd _ _ (Or.inl (by omega))]
          exact s4 k' j' hj'
        · show Option.map _ (zs_sl r bits (zs_st r bits d) k l ind b3 u3 (parts + 1)) = none
          rw [y]
          rfl
        · exact kr (l3 ++ l5) u5 b5 (by show Option.map _ (zs_sl r bits (zs_st r bits d) k l ind b3 u3 (parts + 1)) = _; rw [h5]; rfl) g6 c6 e6 z6 b6 S6 w3 (by rw [← List.append_assoc]; exact w4)
theorem rSt (hI : rIn s r N) (bits : Bool) {f : Int} {F : Nat → Int → Int} {q : Int} {A B C : Int → Int} {h : Int} {o W : Int → Int} (H : zh sc K 4) : ∀ d : Nat, d ≤ 4 → rStP sc P K s r N bits f F q A B C h o W d
  | 0, hd => by
    intro p l g x c e z u b S i ee a hx hc hi he hic hp hpe hel hl hu hu7 hB hzp kx kr
    have hN := hI.1
    by_cases hc0 : c = 0
    · have hst : zs_st r bits 0 c i ee p u = zs_pc r bits ee p u := by rw [zs_st, if_pos hc0]
      rw [hst] at kx kr
      have hi0 : i = 0 := by
        rcases hi with y | y
        · exact y
        · exact absurd hc0 (hic y).2
      rw [if_pos hi0] at he
      subst he
      exact rSt_piece H hI bits 0 (by omega) hx hc0 hp hpe hel hl hu hu7 hB hzp (fun y p2 b2 y1 y2 => by have := kx y p2 l g c e z b2 S y1 y2; exact this) (fun l2 u2 b2 y z2 b3 y1 => kr l2 u2 b2 y g c e z2 b3 S (fun _ _ _ => rfl) y1)
    · refine sg_117_7 (zy H) _ _ _ _ ?_
      simp only [rv_12_20, rv_12_21, rv_12_22, rv_12_23, rv_12_24, rv_12_25, rv_12_26, rv_12_28, rv_12_38, rv_12_42, rv_12_0, rv_12_1, rv_12_15, rv_12_16, rv_12_18, rv_28, rv_37, rv_38, rv_39, rv_40, rv_41, rv_29, rv_30, rv_31, rv_32, rv_33, rv_34, rv_35, rv_36, rv_42, rv_43, rv_44, rv_13, rv_14, rv_15, rv_16, rv_17, rv_18, rv_19, rv_20, rv_21, rv_22, rv_23, rv_24, rv_25, rv_26, rv_27, rv_r, rv_w12_20, rv_w12_21, rv_w12_22, rv_w12_23, rv_w12_24, rv_w12_25, rv_w12_26, rv_w12_28, rv_w12_38, rv_w12_42, rv_w28, rv_w37, rv_w38, rv_w39, rv_w40, rv_w41, rv_w29, rv_w30, rv_w31, rv_w32, rv_w33, rv_w34, rv_w35, rv_w36, rv_w42, rv_w43, rv_w44]
      have hub : (if 0 < u then (1 : Int) else 0) = 0 ∨ (if 0 < u then (1 : Int) else 0) = 1 := by split <;> simp
      have hl2 : -2147483648 ≤ (if e < 0 then l else e) ∧ (if e < 0 then l else e) < 2147483648 := by
        rw [he]
        split <;> split <;> omega
      refine ⟨by decide, fun y => absurd y (by decide), fun _ => ⟨fun _ => ⟨fun y => absurd y hc0, fun _ => ⟨by decide, by decide, by decide, by decide, hl2, ?_⟩⟩, fun y => absurd hx y⟩⟩
      rw [if_pos (show 4 - ((0 : Nat) : Int) = 4 by rfl)]
      exact rc_117b (zm H (by omega)) (by decide) (by decide) rfl (kx (by rw [zs_st, if_neg hc0]) _ _ _ _ _ _ _ _ hp (by omega))
  | d + 1, hd => by
    intro p l g x c e z u b S i ee a hx hc hi he hic hp hpe hel hl hu hu7 hB hzp kx kr
    have hN := hI.1
    by_cases hc0 : c = 0
    · have hst : zs_st r bits (d + 1) c i ee p u = zs_pc r bits ee p u := by rw [zs_st, if_pos hc0]
      rw [hst] at kx kr
      have hi0 : i = 0 := by
        rcases hi with y | y
        · exact y
        · exact absurd hc0 (hic y).2
      rw [if_pos hi0] at he
      subst he
      exact rSt_piece H hI bits (d + 1) (by omega) hx hc0 hp hpe hel hl hu hu7 hB hzp (fun y p2 b2 y1 y2 => by have := kx y p2 l g c e z b2 S y1 y2; exact this) (fun l2 u2 b2 y z2 b3 y1 => kr l2 u2 b2 y g c e z2 b3 S (fun _ _ _ => rfl) y1)
    · have hst : zs_st r bits (d + 1) c i ee p u = zs_sl r bits (zs_st r bits d) 201 ee i p u 0 := by rw [zs_st, if_neg hc0]
      rw [hst] at kx kr
      have hl2 : (if e < 0 then l else e) = ee := by
        rw [he]
        rcases hi with y | y
        · rw [if_pos y, if_neg (by omega)]
        · have e5 : (if i = 0 then ee else (-1 : Int)) = -1 := if_neg (by omega)
          rw [e5, if_pos (show (-1 : Int) < 0 by decide)]
          exact (hic y).1.symm
      refine sg_117_7 (zy H) _ _ _ _ ?_
      simp only [rv_12_20, rv_12_21, rv_12_22, rv_12_23, rv_12_24, rv_12_25, rv_12_26, rv_12_28, rv_12_38, rv_12_42, rv_12_0, rv_12_1, rv_12_15, rv_12_16, rv_12_18, rv_28, rv_37, rv_38, rv_39, rv_40, rv_41, rv_29, rv_30, rv_31, rv_32, rv_33, rv_34, rv_35, rv_36, rv_42, rv_43, rv_44, rv_13, rv_14, rv_15, rv_16, rv_17, rv_18, rv_19, rv_20, rv_21, rv_22, rv_23, rv_24, rv_25, rv_26, rv_27, rv_r, rv_w12_20, rv_w12_21, rv_w12_22, rv_w12_23, rv_w12_24, rv_w12_25, rv_w12_26, rv_w12_28, rv_w12_38, rv_w12_42, rv_w28, rv_w37, rv_w38, rv_w39, rv_w40, rv_w41, rv_w29, rv_w30, rv_w31, rv_w32, rv_w33, rv_w34, rv_w35, rv_w36, rv_w42, rv_w43, rv_w44]
      rw [hl2, if_neg (show ¬ 4 - ((d + 1 : Nat) : Int) = 4 by omega)]
      have hub : (if 0 < u then (1 : Int) else 0) = 0 ∨ (if 0 < u then (1 : Int) else 0) = 1 := by split <;> simp
      refine ⟨by decide, fun y => absurd y (by decide), fun _ => ⟨fun _ => ⟨fun y => absurd y hc0, fun _ => ⟨⟨by omega, by omega⟩, ⟨by omega, by omega⟩, ⟨by omega, by omega⟩, ⟨by omega, by omega⟩, ⟨by omega, by omega⟩, ?_⟩⟩, fun y => absurd hx y⟩⟩
      rw [show 4 - ((d + 1 : Nat) : Int) + 1 = 4 - (d : Int) by omega]
      subst hx
      refine rSl hI bits d (by omega) H (rSt hI bits H d (by omega)) ee i l (by omega) (by omega) hi (by omega) (by omega) S 201 p ee g 0 c e z u b _ 0 a (by omega) rfl rfl hp hpe (by omega) (by omega) hu hu7 hB hzp ?_ ?_ ?_ ?_ kx kr
      · rw [← he]
        rw [ym_u_ne (by decide), ym_u_ne (by decide)]
        exact ym_u_eq
      · rw [ym_u_ne (by decide)]
        exact ym_u_eq
      · exact ym_u_eq
      · intro k j hj
        by_cases k4 : k = 44
        · subst k4
          rw [ym_u_jn (by omega), ym_u_ne (by decide), ym_u_ne (by decide)]
        · rw [ym_u_ne k4]
          by_cases k3 : k = 43
          · subst k3
            rw [ym_u_jn (by omega), ym_u_ne (by decide)]
          · rw [ym_u_ne k3]
            by_cases k2 : k = 42
            · subst k2
              rw [ym_u_jn (by omega)]
            · rw [ym_u_ne k2]
/-- the whole string -/
theorem rc_117 (H : zh sc K 4) (hI : rIn s r N) (bits : Bool) {i ee : Int} (hx : x = 0) (hc : c = 0 ∨ c = 1) (hi : i = 0 ∨ i = 1) (he : e = (if i = 0 then ee else -1)) (hic : i = 1 → ee = l ∧ c ≠ 0) (hp : 0 ≤ p) (hpe : p ≤ ee) (hel : ee ≤ l) (hl : l ≤ N) (hB : rB bits b z 0 []) (hzp : z ≤ p) (kx : zs_st r bits 4 c i ee p 0 = none → ∀ p2 l2 g2 c2 e2 z2 b2 S2, 0 ≤ p2 → p2 ≤ 200 → ym_Rt sc P K none (rv s p2 l2 g2 1 c2 e2 z2 b2 f F q A B C h o W S2)) (kr : ∀ l2 u2 b2, zs_st r bits 4 c i ee p 0 = some (l2, u2, b2) → ∀ g2 c2 e2 z2 b3 S2, rB bits b3 z2 u2 l2 → ym_Rt sc P K none (rv s b2 l g2 0 c2 e2 z2 b3 f F q A B C h o W S2)) : ym_Go sc P K (117, 0, [some (ym_P 12), some (ym_I (rbi bits)), none, none, none], []) (rv s p l g x c e z b f F q A B C h o W S) := by
  refine sg_117_0 (zy H) _ ?_
  refine rSt (f := f) (F := F) (q := q) (A := A) (B := B) (C := C) (h := h) (o := o) (W := W) hI bits H 4 (Nat.le_refl _) p l g x c e z 0 b S i ee [] hx hc hi he hic hp hpe hel hl (by decide) (by decide) hB hzp kx (fun l2 u2 b2 y g2 c2 e2 z2 b3 S2 y1 y2 => ?_)
  have fin := kr l2 u2 b2 y g2 c2 e2 z2 b3 S2 y2
  rw [← hx] at fin
  refine sg_117_116 (zy H) _ _ _ _ ?_
  simp only [rv_12_20, rv_12_21, rv_12_22, rv_12_23, rv_12_24, rv_12_25, rv_12_26, rv_12_28, rv_12_38, rv_12_42, rv_12_0, rv_12_1, rv_12_15, rv_12_16, rv_12_18, rv_28, rv_37, rv_38, rv_39, rv_40, rv_41, rv_29, rv_30, rv_31, rv_32, rv_33, rv_34, rv_35, rv_36, rv_42, rv_43, rv_44, rv_13, rv_14, rv_15, rv_16, rv_17, rv_18, rv_19, rv_20, rv_21, rv_22, rv_23, rv_24, rv_25, rv_26, rv_27, rv_r, rv_w12_20, rv_w12_21, rv_w12_22, rv_w12_23, rv_w12_24, rv_w12_25, rv_w12_26, rv_w12_28, rv_w12_38, rv_w12_42, rv_w28, rv_w37, rv_w38, rv_w39, rv_w40, rv_w41, rv_w29, rv_w30, rv_w31, rv_w32, rv_w33, rv_w34, rv_w35, rv_w36, rv_w42, rv_w43, rv_w44]
  have hub : (if 0 < u2 then (1 : Int) else 0) = 0 ∨ (if 0 < u2 then (1 : Int) else 0) = 1 := by split <;> simp
  refine ⟨by decide, fun w => absurd w (by decide), fun _ => ⟨by decide, fun _ => ?_, fun w => absurd rfl w⟩⟩
  refine sg_117_7 (zy H) _ _ _ _ ?_
  simp only [rv_12_20, rv_12_21, rv_12_22, rv_12_23, rv_12_24, rv_12_25, rv_12_26, rv_12_28, rv_12_38, rv_12_42, rv_12_0, rv_12_1, rv_12_15, rv_12_16, rv_12_18, rv_28, rv_37, rv_38, rv_39, rv_40, rv_41, rv_29, rv_30, rv_31, rv_32, rv_33, rv_34, rv_35, rv_36, rv_42, rv_43, rv_44, rv_13, rv_14, rv_15, rv_16, rv_17, rv_18, rv_19, rv_20, rv_21, rv_22, rv_23, rv_24, rv_25, rv_26, rv_27, rv_r, rv_w12_20, rv_w12_21, rv_w12_22, rv_w12_23, rv_w12_24, rv_w12_25, rv_w12_26, rv_w12_28, rv_w12_38, rv_w12_42, rv_w28, rv_w37, rv_w38, rv_w39, rv_w40, rv_w41, rv_w29, rv_w30, rv_w31, rv_w32, rv_w33, rv_w34, rv_w35, rv_w36, rv_w42, rv_w43, rv_w44]
  exact ⟨by decide, fun _ => fin, fun w => absurd rfl w⟩
end
