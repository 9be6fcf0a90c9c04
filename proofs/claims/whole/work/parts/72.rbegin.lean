/-! The reference's begin: own work. -/
def rFrm (F F2 : Nat → Int → Int) (ff what u gg stop l0 q0 nx pt : Int) : Prop := F2 29 ff = what ∧ F2 30 ff = u ∧ F2 31 ff = gg ∧ F2 32 ff = stop ∧ F2 33 ff = l0 ∧ F2 34 ff = q0 ∧ F2 35 ff = nx ∧ F2 36 ff = pt ∧ ∀ k j, j ≠ ff → F2 k j = F k j
section
variable {sc : xm_S} {P : xm_O → xm_H → Prop} {K : List ym_F} {s : ym_S} {p l g x c e z : Int} {b : Int → Int} {f : Int} {F : Nat → Int → Int} {q : Int} {A B C : Int → Int} {h : Int} {o W : Int → Int} {S : Nat → Int → Int} {r : Int → Int} {N : Int} {E : zEnv} {n : Int}
theorem rFrm_u (ff what u gg stop l0 q0 : Int) : rFrm F (ym_u (ym_u (ym_u (ym_u (ym_u (ym_u (ym_u (ym_u F 29 ff what) 30 ff u) 31 ff gg) 32 ff stop) 33 ff l0) 34 ff q0) 35 ff 0) 36 ff (-1)) ff what u gg stop l0 q0 0 (-1) := by
  refine ⟨?_, ?_, ?_, ?_, ?_, ?_, ?_, ?_, fun k j hj => ?_⟩
  · rw [ym_u_ne (by decide), ym_u_ne (by decide), ym_u_ne (by decide), ym_u_ne (by decide), ym_u_ne (by decide), ym_u_ne (by decide), ym_u_ne (by decide), ym_u_eq]
  · rw [ym_u_ne (by decide), ym_u_ne (by decide), ym_u_ne (by decide), ym_u_ne (by decide), ym_u_ne (by decide), ym_u_ne (by decide), ym_u_eq]
  · rw [ym_u_ne (by decide), ym_u_ne (by decide), ym_u_ne (by decide), ym_u_ne (by decide), ym_u_ne (by decide), ym_u_eq]
  · rw [ym_u_ne (by decide), ym_u_ne (by decide), ym_u_ne (by decide), ym_u_ne (by decide), ym_u_eq]
  · rw [ym_u_ne (by decide), ym_u_ne (by decide), ym_u_ne (by decide), ym_u_eq]
  · rw [ym_u_ne (by decide), ym_u_ne (by decide), ym_u_eq]
  · rw [ym_u_ne (by decide), ym_u_eq]
  · rw [ym_u_eq]
  · have : ∀ (G : Nat → Int → Int) (k2 : Nat) (v : Int), ym_u G k2 ff v k j = G k j := by
      intro G k2 v
      by_cases hk : k = k2
      · subst hk
        exact ym_u_jn hj
      · exact ym_u_ne hk
    rw [this, this, this, this, this, this, this, this]
theorem rc_122 (H : zh sc K 4) (hI : rIn s r N) (hp : 0 ≤ p) (hp2 : p ≤ 200) (hl0 : 0 ≤ l) (hl : l ≤ N) (hx : x = 0) {what u gg : Int} (hwh : ym_in what) (hu : ym_in u) (hgg : 0 ≤ gg) (hgg2 : gg < 8388608) (hf : 0 ≤ f) (hf2 : f < 20) (kx : (zs_h r l p gg = none ∨ ∃ i2 e2 b2, zs_h r l p gg = some (0, i2, e2, b2)) → ∀ p2 l2 g2 c2 e2 F2, ym_Rt sc P K none (rv s p2 l2 g2 1 c2 e2 z b (f+1) F2 q A B C h o W S)) (kr : ∀ c2 i2 e2 b2, zs_h r l p gg = some (c2, i2, e2, b2) → c2 ≠ 0 → ∀ F2, rFrm F F2 f what u gg (if i2 = 0 then e2 else -1) l q 0 (-1) → ym_Rt sc P K none (rv s b2 e2 gg 0 c2 (if i2 = 0 then e2 else -1) z b (f+1) F2 q A B C h o W S)) : ym_Go sc P K (122, 0, [some (ym_P 12), some (ym_I what), some (ym_I u), some (ym_I gg)], []) (rv s p l g x c e z b f F q A B C h o W S) := by
  have hN := hI.1
  have ggin : ym_in gg := ⟨by omega, by omega⟩
  have fin : (0 : Int) ≤ f ∧ f < 20 := ⟨hf, hf2⟩
  refine sg_122_0 (zy H) _ _ _ ?_
  refine rc_104 (zk H) hI hp hp2 hl0 hl (Or.inl hx) ggin (fun y p2 g2 c2 e2 y1 y2 y3 y4 y5 y6 y7 => ?_) (fun _ c2 i2 e2 b2 hh => ym_rt_cons (sg_122_5 (zy H) _ _ _ ?_))
  · obtain ⟨x1, hx1⟩ : ∃ x1 : Int, x1 = 1 := ⟨1, rfl⟩
    rw [← hx1]
    refine ym_rt_cons (sg_122_5 (zy H) _ _ _ ?_)
    simp only [rv_12_20, rv_12_21, rv_12_22, rv_12_23, rv_12_24, rv_12_25, rv_12_26, rv_12_28, rv_12_38, rv_12_42, rv_12_0, rv_12_1, rv_12_15, rv_12_16, rv_12_18, rv_28, rv_37, rv_38, rv_39, rv_40, rv_41, rv_29, rv_30, rv_31, rv_32, rv_33, rv_34, rv_35, rv_36, rv_42, rv_43, rv_44, rv_13, rv_14, rv_15, rv_16, rv_17, rv_18, rv_19, rv_20, rv_21, rv_22, rv_23, rv_24, rv_25, rv_26, rv_27, rv_r, rv_w12_20, rv_w12_21, rv_w12_22, rv_w12_23, rv_w12_24, rv_w12_25, rv_w12_26, rv_w12_28, rv_w12_38, rv_w12_42, rv_w28, rv_w37, rv_w38, rv_w39, rv_w40, rv_w41, rv_w29, rv_w30, rv_w31, rv_w32, rv_w33, rv_w34, rv_w35, rv_w36, rv_w42, rv_w43, rv_w44]
    rw [if_neg (show ¬ x1 = 0 by omega)]
    refine ⟨fin, hwh, fin, hu, fin, ggin, fin, fin, fin, fin, fin, ⟨by split <;> omega, by split <;> omega⟩, ⟨by omega, by omega⟩, kx (y.elim (fun w => by exfalso; omega) Or.inl) _ _ _ _ _ _⟩
  · obtain ⟨oc, oi, ob, obe, oel, oic, -, -⟩ := zs_h_ok hI.2.1 hl hp hh
    simp only [rv_12_20, rv_12_21, rv_12_22, rv_12_23, rv_12_24, rv_12_25, rv_12_26, rv_12_28, rv_12_38, rv_12_42, rv_12_0, rv_12_1, rv_12_15, rv_12_16, rv_12_18, rv_28, rv_37, rv_38, rv_39, rv_40, rv_41, rv_29, rv_30, rv_31, rv_32, rv_33, rv_34, rv_35, rv_36, rv_42, rv_43, rv_44, rv_13, rv_14, rv_15, rv_16, rv_17, rv_18, rv_19, rv_20, rv_21, rv_22, rv_23, rv_24, rv_25, rv_26, rv_27, rv_r, rv_w12_20, rv_w12_21, rv_w12_22, rv_w12_23, rv_w12_24, rv_w12_25, rv_w12_26, rv_w12_28, rv_w12_38, rv_w12_42, rv_w28, rv_w37, rv_w38, rv_w39, rv_w40, rv_w41, rv_w29, rv_w30, rv_w31, rv_w32, rv_w33, rv_w34, rv_w35, rv_w36, rv_w42, rv_w43, rv_w44]
    have el : (if (if i2 = 0 then e2 else (-1 : Int)) < 0 then l else (if i2 = 0 then e2 else -1)) = e2 := by
      rcases oi with y | y
      · rw [if_pos y, if_neg (by omega)]
      · have e5 : (if i2 = 0 then e2 else (-1 : Int)) = -1 := if_neg (by omega)
        rw [e5, if_pos (show (-1 : Int) < 0 by decide)]
        exact (oic y).1.symm
    rw [el, if_pos hx]
    refine ⟨fin, hwh, fin, hu, fin, ggin, fin, fin, fin, fin, fin, ⟨by omega, by omega⟩, ⟨by omega, by omega⟩, ?_⟩
    by_cases hc : c2 = 0
    · rw [if_pos hc]
      exact kx (Or.inr ⟨i2, e2, b2, by rw [hh, hc]⟩) _ _ _ _ _ _
    · rw [if_neg hc]
      exact kr c2 i2 e2 b2 hh hc _ (rFrm_u f what u gg _ l q)
theorem rc_123t (H : zh sc K 7) (hI : rIn s r N) (hE : zRE s E) (hW : zWF E n) (hp : 0 ≤ p) (hp2 : p ≤ 200) (hl0 : 0 ≤ l) (hl : l ≤ N) (hx : x = 0) (hf : 0 ≤ f) (hf2 : f < 20) (hh0 : 0 ≤ h) (hh1 : h + 210 ≤ 9000) (hq : 0 ≤ q) (hq2 : q < 130) {v a1 : Int} (v0 : 0 ≤ v) (v1 : v < n) (hgv : 0 ≤ E.1 14 v ∧ E.1 14 v < 8388608) (kx : (zs_h r l p (E.1 14 v) = none ∨ (∃ c2 i2 e2 b2, zs_h r l p (E.1 14 v) = some (c2, i2, e2, b2) ∧ ((E.1 13 (eCo E 17 v) = 0 ∧ zs_co r (E.1 15 (eCo E 17 v)) (E.1 17 (eCo E 17 v)) (E.2 18 (eCo E 17 v)) (E.2 19 (eCo E 17 v)) c2 i2 e2 b2 = none) ∨ (E.1 13 (eCo E 17 v) ≠ 0 ∧ c2 = 0)))) → ∀ p2 l2 g2 c2 e2 z2 b2 f2 F2 S2, ym_Rt sc P K none (rv s p2 l2 g2 1 c2 e2 z2 b2 f2 F2 q A B C h o W S2)) (ks : E.1 13 (eCo E 17 v) = 0 → ∀ c2 i2 e2 b2, zs_h r l p (E.1 14 v) = some (c2, i2, e2, b2) → ∀ a b3, zs_co r (E.1 15 (eCo E 17 v)) (E.1 17 (eCo E 17 v)) (E.2 18 (eCo E 17 v)) (E.2 19 (eCo E 17 v)) c2 i2 e2 b2 = some (a, b3) → ∀ g2 c3 e3 z2 b4 S2, ym_Rt sc P K none (rv s b3 l g2 0 c3 e3 z2 b4 f F (q+1) (zu A q h) (zu B q (zs_enc (E.1 14 v) 0 a).length) (zu C q (E.1 14 v)) (h+(zs_enc (E.1 14 v) 0 a).length) (za o h (zs_enc (E.1 14 v) 0 a)) W S2)) (kp : E.1 13 (eCo E 17 v) ≠ 0 → ∀ c2 i2 e2 b2, zs_h r l p (E.1 14 v) = some (c2, i2, e2, b2) → c2 ≠ 0 → ∀ F2, rFrm F F2 f (E.1 13 (eCo E 17 v)) (eCo E 17 v) (E.1 14 v) (if i2 = 0 then e2 else -1) l q 0 (-1) → ym_Rt sc P K none (rv s b2 e2 (E.1 14 v) 0 c2 (if i2 = 0 then e2 else -1) z b (f+1) F2 q A B C h o W S)) : ∀ (k : Nat) (w a3 : Int), 0 ≤ w → w < n → w < k → eCh E w = false → (a3 = -1 ∨ 0 ≤ a3) → a3 < 8388608 → (if a3 < 0 then E.1 14 w else a3) = E.1 14 v → eCo E 17 w = eCo E 17 v → ym_Go sc P K (123, 7, [some (ym_P 12), some (ym_I a1), some (ym_I w), some (ym_I a3), some (ym_I 1), none], []) (rv s p l g x c e z b f F q A B C h o W S) := by
  have hn := hW.1
  have hE2 := hE
  obtain ⟨h13, h14, h15, h16, h17, h20, h21, h22, h23, h24, h18, h19, h25⟩ := hE2
  intro k
  induction k with
  | zero => intro w a3 w0 w1 w2; exfalso; omega
  | succ k ih =>
    intro w a3 w0 w1 w2 hch h3 h32 htag hco
    have win : (0 : Int) ≤ w ∧ w < 16 := ⟨w0, by omega⟩
    have a3in : ym_in a3 := ⟨by omega, by omega⟩
    refine sg_123_7 (zy H) _ _ _ _ ?_
    simp only [rv_12_20, rv_12_21, rv_12_22, rv_12_23, rv_12_24, rv_12_25, rv_12_26, rv_12_28, rv_12_38, rv_12_42, rv_12_0, rv_12_1, rv_12_15, rv_12_16, rv_12_18, rv_28, rv_37, rv_38, rv_39, rv_40, rv_41, rv_29, rv_30, rv_31, rv_32, rv_33, rv_34, rv_35, rv_36, rv_42, rv_43, rv_44, rv_13, rv_14, rv_15, rv_16, rv_17, rv_18, rv_19, rv_20, rv_21, rv_22, rv_23, rv_24, rv_25, rv_26, rv_27, rv_r, rv_w12_20, rv_w12_21, rv_w12_22, rv_w12_23, rv_w12_24, rv_w12_25, rv_w12_26, rv_w12_28, rv_w12_38, rv_w12_42, rv_w28, rv_w37, rv_w38, rv_w39, rv_w40, rv_w41, rv_w29, rv_w30, rv_w31, rv_w32, rv_w33, rv_w34, rv_w35, rv_w36, rv_w42, rv_w43, rv_w44]
    rw [h13, h14, h16]
    refine ⟨by decide, fun y => absurd y (by decide), fun _ => ⟨win, fun s1 => ⟨⟨a3in, fun _ => win⟩, win, ?_⟩, fun s1 => ?_⟩⟩
    · obtain ⟨wi, wg, wc⟩ := zW_w1 hW w0 w1 s1
      have wi2 := wi.2
      rw [htag]
      refine ih (E.1 16 w) (E.1 14 v) wi.1 (by omega) (by omega) wc (Or.inr hgv.1) hgv.2 (by rw [if_neg (by omega)]) ?_
      rw [← hco]
      have : eCo E 17 w = eCo E 16 (E.1 16 w) := by rw [eCo, if_pos s1]
      rw [this]
      exact eCo_fuel E hW 17 16 _ wi.1 (by omega) (by omega) (by omega)
    · have hcw : eCo E 17 w = w := by rw [eCo, if_neg s1]
      rw [hcw] at hco
      refine rc_89 (s := (rv s p l g x c e z b f F q A B C h o W S)) (E := E) (zm (zk H) (by omega)) h13 h15 w0 (by omega) ?_
      rw [hch]
      refine ym_rt_cons (sg_123_58 (zy H) _ _ _ _ _ ⟨by decide, fun _ => ?_, fun y => absurd rfl y⟩)
      refine sg_123_7 (zy H) _ _ _ _ ?_
      simp only [rv_12_20, rv_12_21, rv_12_22, rv_12_23, rv_12_24, rv_12_25, rv_12_26, rv_12_28, rv_12_38, rv_12_42, rv_12_0, rv_12_1, rv_12_15, rv_12_16, rv_12_18, rv_28, rv_37, rv_38, rv_39, rv_40, rv_41, rv_29, rv_30, rv_31, rv_32, rv_33, rv_34, rv_35, rv_36, rv_42, rv_43, rv_44, rv_13, rv_14, rv_15, rv_16, rv_17, rv_18, rv_19, rv_20, rv_21, rv_22, rv_23, rv_24, rv_25, rv_26, rv_27, rv_r, rv_w12_20, rv_w12_21, rv_w12_22, rv_w12_23, rv_w12_24, rv_w12_25, rv_w12_26, rv_w12_28, rv_w12_38, rv_w12_42, rv_w28, rv_w37, rv_w38, rv_w39, rv_w40, rv_w41, rv_w29, rv_w30, rv_w31, rv_w32, rv_w33, rv_w34, rv_w35, rv_w36, rv_w42, rv_w43, rv_w44]
      rw [h13, h14, htag]
      refine ⟨by decide, fun _ => ⟨fun _ => ⟨⟨a3in, fun _ => win⟩, win, fun s0 => ?_, fun s0 => ⟨win, ?_⟩⟩, fun y => absurd hx y⟩, fun y => absurd trivial y⟩
      · obtain ⟨wk, wt, wb⟩ := zW_w0 hW w0 w1 s0
        rw [← hco] at kx ks
        have hs0 : E.1 13 w = 0 := s0
        refine rc_121 (zm (zk H) (by omega)) hI hp hp2 hl0 hl (Or.inl hx) w0 (by omega) (by rw [h15]) wk (by rw [h17]; exact wb) hgv.1 hgv.2 hh0 hh1 hq hq2 (fun y p2 l2 g2 c2 e2 z2 b2 S2 y1 y2 => ym_rt_cons (sg_123_148 (zy H) _ _ _ _ _ (kx ?_ _ _ _ _ _ _ _ _ _ _))) (fun _ a b3 y g2 c2 e2 z2 b2 S2 => ym_rt_cons (sg_123_148 (zy H) _ _ _ _ _ ?_))
        · have y0 := y.elim (fun w => by exfalso; omega) id
          rw [h17, h18, h19] at y0
          cases hz : zs_h r l p (E.1 14 v) with
          | none => exact Or.inl rfl
          | some t4 =>
            rw [hz] at y0
            obtain ⟨c3, i3, e3, b3⟩ := t4
            exact Or.inr ⟨c3, i3, e3, b3, rfl, Or.inl ⟨hs0, y0⟩⟩
        · rw [h17, h18, h19] at y
          cases hz : zs_h r l p (E.1 14 v) with
          | none => rw [hz] at y; cases y
          | some t4 =>
            rw [hz] at y
            obtain ⟨c3, i3, e3, b5⟩ := t4
            exact ks hs0 c3 i3 e3 b5 hz a b3 y g2 c2 e2 z2 b2 S2
      · rw [← hco] at kx kp
        have srtb := zW_srt hW w0 w1
        refine rc_122 (zm (zk H) (by omega)) hI hp hp2 hl0 hl hx ⟨by omega, by omega⟩ ⟨by omega, by omega⟩ hgv.1 hgv.2 hf hf2 (fun y p2 l2 g2 c2 e2 F2 => ym_rt_cons (sg_123_164 (zy H) _ _ _ _ _ (kx ?_ _ _ _ _ _ _ _ _ _ _))) (fun c2 i2 e2 b2 y y2 F2 y3 => ym_rt_cons (sg_123_164 (zy H) _ _ _ _ _ (kp s0 c2 i2 e2 b2 y y2 F2 y3)))
        rcases y with y | ⟨i2, e3, b3, y⟩
        · exact Or.inl y
        · exact Or.inr ⟨0, i2, e3, b3, y, Or.inr ⟨s0, rfl⟩⟩
theorem zW_tag (hW : zWF E n) {v : Int} (v0 : 0 ≤ v) (v1 : v < n) (hc : eCh E v = false) : 0 ≤ E.1 14 v ∧ E.1 14 v < 8388608 := by
  obtain ⟨f1, f2, f3, f4⟩ := zWf_of hW v0 v1
  obtain ⟨g1, g2⟩ := f4 hc
  have := f3 0 (by decide) (by omega)
  rw [Int.add_zero] at this
  rw [← g2]
  exact this
/-- begin: a CHOICE is gone through first -/
theorem rc_123c (H : zh sc K 7) (hI : rIn s r N) (hE : zRE s E) (hW : zWF E n) (hp : 0 ≤ p) (hp2 : p ≤ 200) (hl0 : 0 ≤ l) (hl : l ≤ N) (hf : 0 ≤ f) (hf2 : f < 20) (hh0 : 0 ≤ h) (hh1 : h + 210 ≤ 9000) (hq : 0 ≤ q) (hq2 : q < 130) {a1 : Int} (fu : Nat) (tt : Int) (res : Option ((Int × List Int) × Int)) (kx : res = none → ∀ p2 l2 g2 c2 e2 z2 b2 f2 F2 S2, ym_Rt sc P K none (rv s p2 l2 g2 1 c2 e2 z2 b2 f2 F2 q A B C h o W S2)) (ks : ∀ v, 0 ≤ v → v < n → v ≤ tt → eCh E v = false → res = zs_v E r (fu + 1) v l p → E.1 13 (eCo E 17 v) = 0 → ∀ c2 i2 e2 b2, zs_h r l p (E.1 14 v) = some (c2, i2, e2, b2) → ∀ a b3, zs_co r (E.1 15 (eCo E 17 v)) (E.1 17 (eCo E 17 v)) (E.2 18 (eCo E 17 v)) (E.2 19 (eCo E 17 v)) c2 i2 e2 b2 = some (a, b3) → ∀ g2 c3 e3 z2 b4 S2, ym_Rt sc P K none (rv s b3 l g2 0 c3 e3 z2 b4 f F (q+1) (zu A q h) (zu B q (zs_enc (E.1 14 v) 0 a).length) (zu C q (E.1 14 v)) (h+(zs_enc (E.1 14 v) 0 a).length) (za o h (zs_enc (E.1 14 v) 0 a)) W S2)) (kp : ∀ v, 0 ≤ v → v < n → v ≤ tt → eCh E v = false → res = zs_v E r (fu + 1) v l p → E.1 13 (eCo E 17 v) ≠ 0 → ∀ c2 i2 e2 b2, zs_h r l p (E.1 14 v) = some (c2, i2, e2, b2) → c2 ≠ 0 → ∀ F2, rFrm F F2 f (E.1 13 (eCo E 17 v)) (eCo E 17 v) (E.1 14 v) (if i2 = 0 then e2 else -1) l q 0 (-1) → ym_Rt sc P K none (rv s b2 e2 (E.1 14 v) 0 c2 (if i2 = 0 then e2 else -1) z b (f+1) F2 q A B C h o W S)) : ∀ (k : Nat) (u g c x : Int), x = 0 → 0 ≤ u → u < n → u < k → res = zs_v E r (fu + 1) u l p → u ≤ tt → ym_Go sc P K (123, 7, [some (ym_P 12), some (ym_I a1), some (ym_I u), some (ym_I (-1)), some (ym_I 1), none], []) (rv s p l g x c e z b f F q A B C h o W S) := by
  have hn := hW.1
  have hN := hI.1
  have hE2 := hE
  obtain ⟨h13, h14, h15, h16, h17, h20, h21, h22, h23, h24, h18, h19, h25⟩ := hE2
  intro k
  induction k with
  | zero => intro u g c x hx u0 u1 u2; exfalso; omega
  | succ k ih =>
    intro u g c x hx u0 u1 u2 hres utt
    cases hch : eCh E u with
    | false =>
      have hown := zs_v_own (E := E) (r := r) (f := fu) (l := l) (p := p) hch
      refine rc_123t H hI hE hW hp hp2 hl0 hl hx hf hf2 hh0 hh1 hq hq2 u0 u1 (zW_tag hW u0 u1 hch) (fun y => kx ?_) (fun s0 c2 i2 e2 b2 y a b3 y2 => ks u u0 u1 utt hch hres s0 c2 i2 e2 b2 y a b3 y2) (fun s0 c2 i2 e2 b2 y y2 F2 y3 => kp u u0 u1 utt hch hres s0 c2 i2 e2 b2 y y2 F2 y3) 17 u (-1) u0 u1 (by omega) hch (Or.inl rfl) (by decide) (by rw [if_pos (by decide)]) rfl
      rw [hres, hown]
      rcases y with y | ⟨c2, i2, e2, b2, y, y2⟩
      · rw [y]
        rfl
      · rw [y]
        show (zs_bd E r (zs_v E r fu) (eCo E 17 u) c2 i2 e2 b2).map _ = none
        have : zs_bd E r (zs_v E r fu) (eCo E 17 u) c2 i2 e2 b2 = none := by
          unfold zs_bd
          rcases y2 with ⟨s0, y3⟩ | ⟨s0, y3⟩
          · rw [if_pos s0]
            exact y3
          · rw [if_neg s0, if_pos y3]
        rw [this]
        rfl
    | true =>
      have h4 : E.1 13 u = 4 := by
        unfold eCh at hch
        simp at hch
        exact hch.1
      obtain ⟨-, -, w5, w6, w7, -⟩ := zW_w4 hW u0 u1 h4
      have uin : (0 : Int) ≤ u ∧ u < 16 := ⟨u0, by omega⟩
      refine sg_123_7 (zy H) _ _ _ _ ?_
      simp only [rv_12_20, rv_12_21, rv_12_22, rv_12_23, rv_12_24, rv_12_25, rv_12_26, rv_12_28, rv_12_38, rv_12_42, rv_12_0, rv_12_1, rv_12_15, rv_12_16, rv_12_18, rv_28, rv_37, rv_38, rv_39, rv_40, rv_41, rv_29, rv_30, rv_31, rv_32, rv_33, rv_34, rv_35, rv_36, rv_42, rv_43, rv_44, rv_13, rv_14, rv_15, rv_16, rv_17, rv_18, rv_19, rv_20, rv_21, rv_22, rv_23, rv_24, rv_25, rv_26, rv_27, rv_r, rv_w12_20, rv_w12_21, rv_w12_22, rv_w12_23, rv_w12_24, rv_w12_25, rv_w12_26, rv_w12_28, rv_w12_38, rv_w12_42, rv_w28, rv_w37, rv_w38, rv_w39, rv_w40, rv_w41, rv_w29, rv_w30, rv_w31, rv_w32, rv_w33, rv_w34, rv_w35, rv_w36, rv_w42, rv_w43, rv_w44]
      rw [h13]
      refine ⟨by decide, fun y => absurd y (by decide), fun _ => ⟨uin, fun s1 => by exfalso; omega, fun s1 => ?_⟩⟩
      refine rc_89 (s := (rv s p l g x c e z b f F q A B C h o W S)) (E := E) (zm (zk H) (by omega)) h13 h15 u0 (by omega) ?_
      rw [hch]
      refine ym_rt_cons (sg_123_58 (zy H) _ _ _ _ _ ⟨by decide, fun y => absurd y (by decide), fun _ => ?_⟩)
      -- it is bad
      have bad : res = none → ∀ (g2 c2 x2 t0 : Int), x2 = 1 ∨ t0 < 0 → (x2 = 0 ∨ x2 = 1) → ym_in t0 → ym_Go sc P K (123, 70, [some (ym_P 12), some (ym_I a1), some (ym_I u), some (ym_I (-1)), some (ym_I 0), none], [ym_I t0]) (rv s p l g2 x2 c2 e z b f F q A B C h o W S) := by
        intro hnone g2 c2 x2 t0 hb hx2 htin
        refine sg_123_70 (zy H) _ _ _ _ _ ?_
        simp only [rv_12_20, rv_12_21, rv_12_22, rv_12_23, rv_12_24, rv_12_25, rv_12_26, rv_12_28, rv_12_38, rv_12_42, rv_12_0, rv_12_1, rv_12_15, rv_12_16, rv_12_18, rv_28, rv_37, rv_38, rv_39, rv_40, rv_41, rv_29, rv_30, rv_31, rv_32, rv_33, rv_34, rv_35, rv_36, rv_42, rv_43, rv_44, rv_13, rv_14, rv_15, rv_16, rv_17, rv_18, rv_19, rv_20, rv_21, rv_22, rv_23, rv_24, rv_25, rv_26, rv_27, rv_r, rv_w12_20, rv_w12_21, rv_w12_22, rv_w12_23, rv_w12_24, rv_w12_25, rv_w12_26, rv_w12_28, rv_w12_38, rv_w12_42, rv_w28, rv_w37, rv_w38, rv_w39, rv_w40, rv_w41, rv_w29, rv_w30, rv_w31, rv_w32, rv_w33, rv_w34, rv_w35, rv_w36, rv_w42, rv_w43, rv_w44]
        have e1 : (if x2 = 0 then (if t0 < 0 then (1 : Int) else 0) else 1) = 1 := by
          by_cases w : x2 = 0
          · rw [if_pos w, if_pos (by omega)]
          · rw [if_neg w]
        rw [e1, if_neg (by decide)]
        refine ⟨fun _ => htin, ?_⟩
        obtain ⟨x1, hx1⟩ : ∃ x1 : Int, x1 = 1 := ⟨1, rfl⟩
        have := fun x1 (hx1 : x1 = 1) => sg_123_7 (sc := sc) (P := P) (K := K) (s := (rv s p l g2 x1 c2 e z b f F q A B C h o W S)) (zy H) a1 t0 (-1) 0
        refine this 1 rfl ?_
        have e2 : ((rv s p l g2 1 c2 e z b f F q A B C h o W S) : ym_S).1 12 20 = 1 := rfl
        rw [e2]
        exact ⟨by decide, fun _ => ⟨fun y => absurd y (by decide), fun _ => kx hnone _ _ _ _ _ _ _ _ _ _⟩, fun y => absurd rfl y⟩
      refine rc_103 (zm (zk H) (by omega)) hI hp hp2 hl (Or.inl hx) (fun _ c2 g2 b2 hid => ym_rt_cons (sg_123_67 (zy H) _ _ _ _ _ _ ?_)) (fun hlp => ym_rt_cons (sg_123_67 (zy H) _ _ _ _ _ _ ?_)) (fun hpl hb c2 g2 y1 y2 y3 => ym_rt_cons (sg_123_67 (zy H) _ _ _ _ _ _ ?_))
      · have o1 := zs_id_ok hI.2.1 hl hp hid
        have hv := zs_v_ch hW (f := fu) u0 u1 hch hid
        rw [hv] at hres
        refine rc_124 (s := (rv s p l g2 x c2 e z b f F q A B C h o W S)) (E := E) (n := n) (zm (zk H) (by omega)) hW h20 h21 h22 h23 u0 u1 h4 ⟨by omega, by omega⟩ ?_
        rw [if_neg (by omega)]
        cases hk : eIx E u g2 0 with
        | none =>
          rw [hk] at hres
          exact ym_rt_cons (bad hres g2 c2 x (-1) (Or.inr (by decide)) (Or.inl hx) (by decide))
        | some kk =>
          rw [hk] at hres
          obtain ⟨k1, k2, -⟩ := ef_ok _ _ _ hk
          obtain ⟨m1, m2, -⟩ := w7 kk k1 (by omega)
          refine ym_rt_cons (sg_123_70 (zy H) _ _ _ _ _ ?_)
          simp only [rv_12_20, rv_12_21, rv_12_22, rv_12_23, rv_12_24, rv_12_25, rv_12_26, rv_12_28, rv_12_38, rv_12_42, rv_12_0, rv_12_1, rv_12_15, rv_12_16, rv_12_18, rv_28, rv_37, rv_38, rv_39, rv_40, rv_41, rv_29, rv_30, rv_31, rv_32, rv_33, rv_34, rv_35, rv_36, rv_42, rv_43, rv_44, rv_13, rv_14, rv_15, rv_16, rv_17, rv_18, rv_19, rv_20, rv_21, rv_22, rv_23, rv_24, rv_25, rv_26, rv_27, rv_r, rv_w12_20, rv_w12_21, rv_w12_22, rv_w12_23, rv_w12_24, rv_w12_25, rv_w12_26, rv_w12_28, rv_w12_38, rv_w12_42, rv_w28, rv_w37, rv_w38, rv_w39, rv_w40, rv_w41, rv_w29, rv_w30, rv_w31, rv_w32, rv_w33, rv_w34, rv_w35, rv_w36, rv_w42, rv_w43, rv_w44]
          show (x = 0 → ym_in (E.1 23 (6 * u + kk))) ∧ ym_Go sc P K (123, 7, [some (ym_P 12), some (ym_I a1), some (ym_I (E.1 23 (6 * u + kk))), some (ym_I (-1)), some (ym_I (if (if x = 0 then (if E.1 23 (6 * u + kk) < 0 then (1 : Int) else 0) else 1) = 0 then 1 else 0)), none], []) (rv s p l g2 (if x = 0 then (if E.1 23 (6 * u + kk) < 0 then 1 else 0) else 1) c2 e z b f F q A B C h o W S)
          rw [if_pos hx, if_neg (show ¬ E.1 23 (6 * u + kk) < 0 by omega), if_pos rfl]
          exact ⟨fun _ => ⟨by omega, by omega⟩, ih (E.1 23 (6 * u + kk)) g2 c2 0 rfl m1 (by omega) (by omega) hres (by omega)⟩
      · have hnone : res = none := by
          rw [hres, zs_v]
          have : zs_id r l p = none := by
            unfold zs_id
            rw [if_neg (by omega)]
          rw [this]
          rfl
        refine rc_124 (s := (rv s p l g x c e z b f F q A B C h o W S)) (E := E) (n := n) (zm (zk H) (by omega)) hW h20 h21 h22 h23 u0 u1 h4 (by decide) ?_
        rw [if_pos (by decide)]
        exact ym_rt_cons (bad hnone g c x (-1) (Or.inr (by decide)) (Or.inl hx) (by decide))
      · have hid : zs_id r l p = none := hb.elim (fun w => by exfalso; omega) id
        have hnone : res = none := by
          rw [hres, zs_v, hid]
          rfl
        refine rc_124 (s := (rv s p l g2 1 c2 e z b f F q A B C h o W S)) (E := E) (n := n) (zm (zk H) (by omega)) hW h20 h21 h22 h23 u0 u1 h4 ⟨by omega, by omega⟩ ?_
        rw [if_neg (by omega)]
        refine ym_rt_cons (bad hnone g2 c2 1 _ (Or.inl rfl) (Or.inr rfl) ?_)
        cases hk : eIx E u g2 0 with
        | none => exact (by decide : ym_in (-1))
        | some kk =>
          obtain ⟨k1, k2, -⟩ := ef_ok _ _ _ hk
          obtain ⟨m1, m2, -⟩ := w7 kk k1 (by omega)
          show ym_in (E.1 23 (6 * u + kk))
          exact ⟨by omega, by omega⟩
end
