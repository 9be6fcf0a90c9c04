/-! The reference's loop over frames: tags and lists: own work. -/
def rCx (N ff u gg ind lim q0 h0 p1 t p0 : Int) : Prop := 0 ≤ ff ∧ 0 ≤ u ∧ u < 16 ∧ (ind = 0 ∨ ind = 1) ∧ 0 ≤ gg ∧ gg < 8388608 ∧ 0 ≤ p1 ∧ lim ≤ N ∧ 0 ≤ q0 ∧ 2 * q0 ≤ p1 ∧ 0 ≤ h0 ∧ h0 + u * (lim - p1) ≤ 4000 ∧ u ≤ t ∧ p0 ≤ p1 ∧ ff + u ≤ 17
def rGd (sc : xm_S) (P : xm_O → xm_H → Prop) (K : List ym_F) (a1 : Int) (s : ym_S) (ff l0 q0 h0 : Int) (F0 : Nat → Int → Int) (A0 B0 C0 o0 : Int → Int) (t p0 : Int) (res : Option ((Int × List Int) × Int)) : Prop := (res = none → rBadP sc P K a1 s) ∧ ∀ gl y b2, res = some ((gl, y), b2) → (y.length : Int) ≤ b2 - p0 ∧ ∀ (g2 c2 e2 z2 : Int) (bb : Int → Int) (F2 : Nat → Int → Int) (A2 B2 C2 : Int → Int) (h2 : Int) (o2 W2 : Int → Int) (S2 : Nat → Int → Int), (∀ k j, j < ff → F2 k j = F0 k j) → (∀ j, j < q0 → A2 j = A0 j ∧ B2 j = B0 j ∧ C2 j = C0 j) → (∀ j, 0 ≤ j → j < h0 → o2 j = o0 j) → rP A2 B2 C2 o2 h2 q0 (gl, y) → h0 ≤ h2 → h2 ≤ h0 + (t + 1) * (b2 - p0) → rLp sc P K a1 (rv s b2 l0 g2 0 c2 e2 z2 bb ff F2 (q0+1) A2 B2 C2 h2 o2 W2 S2)
def rGp (sc : xm_S) (P : xm_O → xm_H → Prop) (K : List ym_F) (a1 : Int) (E : zEnv) (ff u : Int) (st : ym_S) : Prop := ∀ a3 : Int, (E.1 15 u = 16 → ym_Go sc P ((128, 181, [some (ym_P 12), some (ym_I ff), some (ym_I u), some (ym_I a3)], []) :: ((129, 67, [some (ym_P 12), some (ym_I a1), none], []) :: K)) (126, 0, [some (ym_P 12), some (ym_I ff), none, none], []) st) ∧ (¬ E.1 15 u = 16 → ym_Go sc P ((128, 189, [some (ym_P 12), some (ym_I ff), some (ym_I u), some (ym_I a3)], []) :: ((129, 67, [some (ym_P 12), some (ym_I a1), none], []) :: K)) (127, 0, [some (ym_P 12), some (ym_I ff), none, none, none, none], []) st)
section
variable {sc : xm_S} {P : xm_O → xm_H → Prop} {K : List ym_F} {a1 : Int} {s : ym_S} {p l g x c e z : Int} {b : Int → Int} {f : Int} {F : Nat → Int → Int} {q : Int} {A B C : Int → Int} {h : Int} {o W : Int → Int} {S : Nat → Int → Int} {r : Int → Int} {N : Int} {E : zEnv} {n : Int} {ff what u gg ind lim l0 q0 h0 p1 t p0 : Int} {F0 : Nat → Int → Int} {A0 B0 C0 o0 : Int → Int} {ks : List (Int × List Int)} {res : Option ((Int × List Int) × Int)}
theorem zs_mc {α : Type} (G : List (Int × List Int) → α) (ks : List (Int × List Int)) (y : Int × List Int) : ∀ w : Option (List (Int × List Int) × Int), (w.map (fun w => (y :: w.1, w.2))).map (fun z => (G (ks ++ z.1), z.2)) = w.map (fun z => (G (ks ++ [y] ++ z.1), z.2))
  | none => rfl
  | some w => by
    show some (G (ks ++ y :: w.1), w.2) = some (G (ks ++ [y] ++ w.1), w.2)
    rw [List.append_assoc]
    rfl
theorem rRet_c {K1 : List ym_F} {fr : ym_F} (hR : rRet sc P K a1 s K1) (hs : ∀ st, ym_Rt sc P K1 none st → ym_Rt sc P (fr :: K1) none st) : rRet sc P K a1 s (fr :: K1) := fun _ _ _ _ _ _ _ _ _ _ _ _ _ _ _ _ _ _ k => hs _ (hR _ _ _ _ _ _ _ _ _ _ _ _ _ _ _ _ _ _ k)
theorem ym_u_j {G : Nat → Int → Int} {k2 : Nat} {i v : Int} {k : Nat} {j : Int} (hj : j ≠ i) : ym_u G k2 i v k j = G k j := by
  by_cases hk : k = k2
  · subst hk
    exact ym_u_jn hj
  · exact ym_u_ne hk
theorem rK_u {p q h : Int} {v : Int} {m : Nat} (hm : m = 35 ∨ m = 36) (hk : rK E ff what u gg ind lim l0 q0 h0 p1 F0 A0 B0 C0 o0 p F q A B C h o ks) : rK E ff what u gg ind lim l0 q0 h0 p1 F0 A0 B0 C0 o0 p (ym_u F m ff v) q A B C h o ks := by
  obtain ⟨⟨k1, k2, k3, k4, k5, k6⟩, k7, k8⟩ := hk
  have ne : ∀ k, k < 35 → ym_u F m ff v k = F k := fun k hk => by
    funext j
    exact ym_u_ne (by omega)
  refine ⟨⟨?_, ?_, ?_, ?_, ?_, ?_⟩, fun k j hj => ?_, k8⟩
  · rw [ne 29 (by decide)]; exact k1
  · rw [ne 30 (by decide)]; exact k2
  · rw [ne 31 (by decide)]; exact k3
  · rw [ne 32 (by decide)]; exact k4
  · rw [ne 33 (by decide)]; exact k5
  · rw [ne 34 (by decide)]; exact k6
  · rw [ym_u_j (by omega)]
    exact k7 k j hj
/-- the last part is dropped -/
theorem rK_drop {y : Int × List Int} (hk : rK E ff what u gg ind lim l0 q0 h0 p1 F0 A0 B0 C0 o0 p F q A B C h o (ks ++ [y])) : rK E ff what u gg ind lim l0 q0 h0 p1 F0 A0 B0 C0 o0 p F (q - 1) A B C h o ks := by
  obtain ⟨k1, k7, k8, k9, k10, k11, k12, k13, k14, k15⟩ := hk
  rw [List.length_append] at k8 k14
  rw [zs_fl_app, List.length_append] at k13
  simp at k8 k14
  exact ⟨k1, k7, by omega, (rPs_split k9).1, k10, k11, fun w hw => k12 w (List.mem_append.mpr (Or.inl hw)), by omega, by omega, k15⟩
/-- other arrays that agree -/
theorem rK_of {A2 B2 C2 o2 : Int → Int} (hk : rK E ff what u gg ind lim l0 q0 h0 p1 F0 A0 B0 C0 o0 p F q A B C h o ks) (hq0 : 0 ≤ q0) (hA : ∀ j, j < q → A2 j = A j ∧ B2 j = B j ∧ C2 j = C j) (ho : ∀ j, 0 ≤ j → j < h → o2 j = o j) : rK E ff what u gg ind lim l0 q0 h0 p1 F0 A0 B0 C0 o0 p F q A2 B2 C2 h o2 ks := by
  obtain ⟨k1, k7, k8, k9, k10, k11, k12, k13, k14, k15, k16⟩ := hk
  refine ⟨k1, k7, k8, rPs_of k9 (fun j j0 j1 => hA j (by omega)) ho (Int.le_refl _), fun j hj => ?_, fun j j0 j1 => ?_, k12, k13, k14, k15, k16⟩
  · obtain ⟨a, b', c'⟩ := hA j (by omega)
    obtain ⟨a2, b2', c2'⟩ := k10 j hj
    exact ⟨a.trans a2, b'.trans b2', c'.trans c2'⟩
  · rw [ho j j0 (by omega)]
    exact k11 j j0 j1
/-- begin, when it is already bad -/
theorem rc_123x (H : zh sc K 5) (hI : rIn s r N) (hE : zRE s E) (hW : zWF E n) (hp : 0 ≤ p) (hp2 : p ≤ 200) (hl : l ≤ N) (hx : x = 1) {a1 : Int} (kr : ∀ g2 c2, ym_Rt sc P K none (rv s p l g2 x c2 e z b f F q A B C h o W S)) : ∀ (k : Nat) (w a3 : Int), 0 ≤ w → w < n → w < k → (a3 = -1 ∨ 0 ≤ a3) → a3 < 8388608 → ym_Go sc P K (123, 7, [some (ym_P 12), some (ym_I a1), some (ym_I w), some (ym_I a3), some (ym_I 1), none], []) (rv s p l g x c e z b f F q A B C h o W S) := by
  have hn := hW.1
  have hE2 := hE
  obtain ⟨h13, h14, h15, h16, h17, h20, h21, h22, h23, h24, h18, h19, h25⟩ := hE2
  have out : ∀ (g2 c2 w a3 : Int), ym_Go sc P K (123, 7, [some (ym_P 12), some (ym_I a1), some (ym_I w), some (ym_I a3), some (ym_I 0), none], []) (rv s p l g2 x c2 e z b f F q A B C h o W S) := by
    intro g2 c2 w a3
    refine sg_123_7 (zy H) _ _ _ _ ?_
    have e2 : ((rv s p l g2 x c2 e z b f F q A B C h o W S) : ym_S).1 12 20 = x := rfl
    rw [e2]
    exact ⟨by decide, fun _ => ⟨fun y => by exfalso; omega, fun _ => kr g2 c2⟩, fun y => absurd rfl y⟩
  intro k
  induction k with
  | zero => intro w a3 w0 w1 w2; exfalso; omega
  | succ k ih =>
    intro w a3 w0 w1 w2 h3 h32
    have win : (0 : Int) ≤ w ∧ w < 16 := ⟨w0, by omega⟩
    have a3in : ym_in a3 := ⟨by omega, by omega⟩
    refine sg_123_7 (zy H) _ _ _ _ ?_
    simp only [rv_12_20, rv_12_21, rv_12_22, rv_12_23, rv_12_24, rv_12_25, rv_12_26, rv_12_28, rv_12_38, rv_12_42, rv_12_0, rv_12_1, rv_12_15, rv_12_16, rv_12_18, rv_28, rv_37, rv_38, rv_39, rv_40, rv_41, rv_29, rv_30, rv_31, rv_32, rv_33, rv_34, rv_35, rv_36, rv_42, rv_43, rv_44, rv_13, rv_14, rv_15, rv_16, rv_17, rv_18, rv_19, rv_20, rv_21, rv_22, rv_23, rv_24, rv_25, rv_26, rv_27, rv_r, rv_w12_20, rv_w12_21, rv_w12_22, rv_w12_23, rv_w12_24, rv_w12_25, rv_w12_26, rv_w12_28, rv_w12_38, rv_w12_42, rv_w28, rv_w37, rv_w38, rv_w39, rv_w40, rv_w41, rv_w29, rv_w30, rv_w31, rv_w32, rv_w33, rv_w34, rv_w35, rv_w36, rv_w42, rv_w43, rv_w44]
    rw [h13, h14, h16]
    refine ⟨by decide, fun y => absurd y (by decide), fun _ => ⟨win, fun s1 => ⟨⟨a3in, fun _ => win⟩, win, ?_⟩, fun s1 => ?_⟩⟩
    · obtain ⟨wi, wg, wc⟩ := zW_w1 hW w0 w1 s1
      obtain ⟨wg1, wg2⟩ := wg
      have wi2 := wi.2
      refine ih (E.1 16 w) _ wi.1 (by omega) (by omega) (Or.inr (by split <;> omega)) (by split <;> omega)
    · have more : ∀ (g2 c2 t0 : Int), ym_in t0 → ym_Go sc P K (123, 70, [some (ym_P 12), some (ym_I a1), some (ym_I w), some (ym_I a3), some (ym_I 0), none], [ym_I t0]) (rv s p l g2 x c2 e z b f F q A B C h o W S) := by
        intro g2 c2 t0 ht
        refine sg_123_70 (zy H) _ _ _ _ _ ?_
        simp only [rv_12_20, rv_12_21, rv_12_22, rv_12_23, rv_12_24, rv_12_25, rv_12_26, rv_12_28, rv_12_38, rv_12_42, rv_12_0, rv_12_1, rv_12_15, rv_12_16, rv_12_18, rv_28, rv_37, rv_38, rv_39, rv_40, rv_41, rv_29, rv_30, rv_31, rv_32, rv_33, rv_34, rv_35, rv_36, rv_42, rv_43, rv_44, rv_13, rv_14, rv_15, rv_16, rv_17, rv_18, rv_19, rv_20, rv_21, rv_22, rv_23, rv_24, rv_25, rv_26, rv_27, rv_r, rv_w12_20, rv_w12_21, rv_w12_22, rv_w12_23, rv_w12_24, rv_w12_25, rv_w12_26, rv_w12_28, rv_w12_38, rv_w12_42, rv_w28, rv_w37, rv_w38, rv_w39, rv_w40, rv_w41, rv_w29, rv_w30, rv_w31, rv_w32, rv_w33, rv_w34, rv_w35, rv_w36, rv_w42, rv_w43, rv_w44]
        have e1 : (if x = 0 then (if t0 < 0 then (1 : Int) else 0) else 1) = x := by
          rw [if_neg (by omega)]
          omega
        rw [e1, if_neg (show ¬ x = 0 by omega)]
        exact ⟨fun _ => ht, out _ _ _ _⟩
      refine rc_89 (s := (rv s p l g x c e z b f F q A B C h o W S)) (E := E) (zm (zk H) (by omega)) h13 h15 w0 (by omega) ?_
      cases hch : eCh E w with
      | false => exact ym_rt_cons (sg_123_58 (zy H) _ _ _ _ _ ⟨by decide, fun _ => out _ _ _ _, fun y => absurd rfl y⟩)
      | true =>
        refine ym_rt_cons (sg_123_58 (zy H) _ _ _ _ _ ⟨by decide, fun y => absurd y (by decide), fun _ => ?_⟩)
        have h4 : E.1 13 w = 4 := by
          unfold eCh at hch
          simp at hch
          exact hch.1
        obtain ⟨-, -, w5, w6, w7, -⟩ := zW_w4 hW w0 w1 h4
        refine rc_103 (zm (zk H) (by omega)) hI hp hp2 hl (Or.inr hx) (fun y => by exfalso; omega) (fun hlp => ym_rt_cons (sg_123_67 (zy H) _ _ _ _ _ _ ?_)) (fun hpl hb c2 g2 y1 y2 y3 => ym_rt_cons (sg_123_67 (zy H) _ _ _ _ _ _ ?_))
        · refine rc_124 (s := (rv s p l g x c e z b f F q A B C h o W S)) (E := E) (n := n) (zm (zk H) (by omega)) hW h20 h21 h22 h23 w0 w1 h4 (by decide) ?_
          rw [if_pos (by decide)]
          exact ym_rt_cons (more _ _ _ (by decide))
        · rw [← hx]
          refine rc_124 (s := (rv s p l g2 x c2 e z b f F q A B C h o W S)) (E := E) (n := n) (zm (zk H) (by omega)) hW h20 h21 h22 h23 w0 w1 h4 ⟨by omega, by omega⟩ ?_
          rw [if_neg (by omega)]
          refine ym_rt_cons (more _ _ _ ?_)
          cases hk : eIx E w g2 0 with
          | none => exact (by decide : ym_in (-1))
          | some kk =>
            obtain ⟨k1, k2, -⟩ := ef_ok _ _ _ hk
            obtain ⟨m1, m2, -⟩ := w7 kk k1 (by omega)
            show ym_in (E.1 23 (6 * w + kk))
            exact ⟨by omega, by omega⟩
/-- the frame is closed, and what that makes -/
theorem rEnd (hI : rIn s r N) (hE : zRE s E) (hW : zWF E n) {K2 : List ym_F} (hR : rRet sc P K a1 s K2) (H : zh sc K2 3) (hc : rCx N ff u gg ind lim q0 h0 p1 t p0) (hG : rGd sc P K a1 s ff l0 q0 h0 F0 A0 B0 C0 o0 t p0 res) (hk : rK E ff what u gg ind lim l0 q0 h0 p1 F0 A0 B0 C0 o0 p F q A B C h o ks) (hf : f = ff + 1) (hl : l = lim) (hx : x = 0 ∨ x = 1) (h1 : x = 1 → res = none) (h2 : x = 0 → res = if zs_on r lim ind p then none else some ((gg, zs_enc gg 1 (zs_fl (rKs E u ks))), zs_sk ind p)) : ym_Go sc P K2 (125, 0, [some (ym_P 12), none, none], []) (rv s p l g x c e z b f F q A B C h o W S) := by
  obtain ⟨c1, c2, c3, c4, c5, c6, c7, c8, c9, c10, c11, c12, c13, c14, c15⟩ := hc
  refine rFin hI hE hW hR H hk c1 (by omega) hf c2 c3 c4 c5 c6 c7 c8 hl c9 c10 c11 c12 hx c13 c14 res (fun y => ?_) (fun y hon => ?_) hG.1 (fun gl y b2 w => (hG.2 gl y b2 w).2)
  · rcases hx with hx | hx
    · rw [h2 hx]
      rcases y with y | y
      · exfalso; omega
      · rw [if_pos y]
    · exact h1 hx
  · have e1 := h2 y
    rw [hon, if_neg (by decide)] at e1
    exact ⟨e1, (hG.2 _ _ _ e1).1⟩
/-- an EXPLICIT tag -/
theorem rEx {fu : Nat} (H : zh sc K 12) (hI : rIn s r N) (hE : zRE s E) (hW : zWF E n) (ih : rVP sc P K a1 s r N E n fu) (hc : rCx N ff u gg ind lim q0 h0 p1 t p0) (hfu : u ≤ fu) (hun : u < n) (hw : what = 2) (s2 : E.1 13 u = 2) (hG : rGd sc P K a1 s ff l0 q0 h0 F0 A0 B0 C0 o0 t p0 res) (hk : rK E ff what u gg ind lim l0 q0 h0 p1 F0 A0 B0 C0 o0 p F q A B C h o []) (hf : f = ff + 1) (hl : l = lim) (hx : x = 0) (h35 : F 35 ff = 0) (h36 : F 36 ff = -1) (hres : res = (zs_v E r fu (E.1 16 u) lim p).bind (fun z => if zs_on r lim ind z.2 then none else some ((gg, zs_enc gg 1 z.1.2), zs_sk ind z.2))) : rLp sc P K a1 (rv s p l g x c e z b f F q A B C h o W S) := by
  have hE2 := hE
  obtain ⟨h13, h14, h15, h16, h17, h20, h21, h22, h23, h24, h18, h19, h25⟩ := hE2
  have hc2 := hc
  obtain ⟨c1, c2, c3, c4, c5, c6, c7, c8, c9, c10, c11, c12, c13, c14, c15⟩ := hc2
  obtain ⟨⟨k1, k2, k3, k4, k5, k6⟩, -⟩ := id hk
  obtain ⟨wi, -⟩ := zW_w2 hW c2 hun s2
  have wi2 := wi.2
  have efm : f - 1 = ff := by omega
  have fb : (0 : Int) ≤ ff ∧ ff < 20 := ⟨c1, by omega⟩
  refine rLoop (zm H (by omega)) (by omega) hx (sg_128_0 (zy (zk (zm H (show 1 ≤ 12 by omega)))) ?_)
  simp only [rv_12_20, rv_12_21, rv_12_22, rv_12_23, rv_12_24, rv_12_25, rv_12_26, rv_12_28, rv_12_38, rv_12_42, rv_12_0, rv_12_1, rv_12_15, rv_12_16, rv_12_18, rv_28, rv_37, rv_38, rv_39, rv_40, rv_41, rv_29, rv_30, rv_31, rv_32, rv_33, rv_34, rv_35, rv_36, rv_42, rv_43, rv_44, rv_13, rv_14, rv_15, rv_16, rv_17, rv_18, rv_19, rv_20, rv_21, rv_22, rv_23, rv_24, rv_25, rv_26, rv_27, rv_r, rv_w12_20, rv_w12_21, rv_w12_22, rv_w12_23, rv_w12_24, rv_w12_25, rv_w12_26, rv_w12_28, rv_w12_38, rv_w12_42, rv_w28, rv_w37, rv_w38, rv_w39, rv_w40, rv_w41, rv_w29, rv_w30, rv_w31, rv_w32, rv_w33, rv_w34, rv_w35, rv_w36, rv_w42, rv_w43, rv_w44]
  rw [efm, h36, h35, k1, k2, h16]
  refine ⟨fb, fb, fun _ => ⟨fb, fun _ => ⟨fb, fun y => absurd y (by decide), fun _ => ⟨fb, ⟨c2, c3⟩, ?_⟩⟩, fun y => absurd hw y⟩, fun y => absurd y (by decide)⟩
  subst hx
  refine rKid hI hW ih (rRet_c (rBack (zm H (by omega))) (fun st k => ym_rt_cons (sg_128_122 (zy (zk (zm H (show 1 ≤ 12 by omega)))) _ _ _ k))) (zk (zk (zm H (show 9 ≤ 12 by omega)))) (rK_u (Or.inl rfl) hk) wi.1 (by omega) wi2 (by omega) c1 (by omega) hf c7 c8 hl c9 c10 c11 c12 (fun y => hG.1 (by rw [hres, y]; rfl)) (fun y b2 hv g2 cc2 e2 z2 bb F2 q2 A2 B2 C2 h2 o2 W2 S2 w1 w2 hk2 w3 => ?_)
  rw [ym_u_eq] at w1
  rw [ym_u_ne (by decide), h36] at w2
  obtain ⟨⟨j1, j2, j3, j4, j5, j6⟩, -⟩ := id hk2
  refine rLoop (zm H (by omega)) (by omega) rfl (sg_128_0 (zy (zk (zm H (show 1 ≤ 12 by omega)))) ?_)
  simp only [rv_12_20, rv_12_21, rv_12_22, rv_12_23, rv_12_24, rv_12_25, rv_12_26, rv_12_28, rv_12_38, rv_12_42, rv_12_0, rv_12_1, rv_12_15, rv_12_16, rv_12_18, rv_28, rv_37, rv_38, rv_39, rv_40, rv_41, rv_29, rv_30, rv_31, rv_32, rv_33, rv_34, rv_35, rv_36, rv_42, rv_43, rv_44, rv_13, rv_14, rv_15, rv_16, rv_17, rv_18, rv_19, rv_20, rv_21, rv_22, rv_23, rv_24, rv_25, rv_26, rv_27, rv_r, rv_w12_20, rv_w12_21, rv_w12_22, rv_w12_23, rv_w12_24, rv_w12_25, rv_w12_26, rv_w12_28, rv_w12_38, rv_w12_42, rv_w28, rv_w37, rv_w38, rv_w39, rv_w40, rv_w41, rv_w29, rv_w30, rv_w31, rv_w32, rv_w33, rv_w34, rv_w35, rv_w36, rv_w42, rv_w43, rv_w44]
  rw [efm, w2, w1, j1, j2]
  refine ⟨fb, fb, fun _ => ⟨fb, fun _ => ⟨fb, fun _ => ?_, fun y => absurd rfl y⟩, fun y => absurd hw y⟩, fun y => absurd y (by decide)⟩
  refine rEnd hI hE hW (rRet_c (rBack (zm H (by omega))) (fun st k => ym_rt_cons (sg_128_102 (zy (zk (zm H (show 1 ≤ 12 by omega)))) _ _ _ k))) (zk (zk (zm H (show 5 ≤ 12 by omega)))) hc hG hk2 hf hl (Or.inl rfl) (fun y => absurd y (by decide)) (fun _ => ?_)
  rw [hres, hv]
  show (if zs_on r lim ind b2 then none else some ((gg, zs_enc gg 1 y.2), zs_sk ind b2)) = _
  have e1 : zs_fl (rKs E u ([] ++ [y])) = y.2 := by
    unfold rKs rSet
    rw [decide_eq_true s2]
    simp [zs_fl]
  rw [e1]
/-- a list -/
theorem rLs {fu : Nat} (H : zh sc K 12) (hI : rIn s r N) (hE : zRE s E) (hW : zWF E n) (ih : rVP sc P K a1 s r N E n fu) (hc : rCx N ff u gg ind lim q0 h0 p1 t p0) (hfu : u ≤ fu) (hun : u < n) (hw : what = 3) (s3 : E.1 13 u = 3) (hG : rGd sc P K a1 s ff l0 q0 h0 F0 A0 B0 C0 o0 t p0 res) (hf : f = ff + 1) (hl : l = lim) : ∀ (m : Nat) (p g c e z : Int) (b : Int → Int) (F : Nat → Int → Int) (q : Int) (A B C : Int → Int) (h : Int) (o W : Int → Int) (S : Nat → Int → Int) (ks : List (Int × List Int)), rK E ff what u gg ind lim l0 q0 h0 p1 F0 A0 B0 C0 o0 p F q A B C h o ks → F 36 ff = -1 → lim - p < m → res = (zs_vs r (zs_v E r fu (E.1 16 u)) m lim ind p).map (fun z => ((gg, zs_enc gg 1 (zs_fl (rKs E u (ks ++ z.1)))), z.2)) → rLp sc P K a1 (rv s p l g 0 c e z b f F q A B C h o W S) := by
  have hE2 := hE
  obtain ⟨h13, h14, h15, h16, h17, h20, h21, h22, h23, h24, h18, h19, h25⟩ := hE2
  have hc2 := hc
  obtain ⟨c1, c2, c3, c4, c5, c6, c7, c8, c9, c10, c11, c12, c13, c14, c15⟩ := hc2
  obtain ⟨wi, -⟩ := zW_w3 hW c2 hun s3
  have wi2 := wi.2
  have hN := hI.1
  have efm : f - 1 = ff := by omega
  have fb : (0 : Int) ≤ ff ∧ ff < 20 := ⟨c1, by omega⟩
  intro m
  induction m with
  | zero =>
    intro p g c e z b F q A B C h o W S ks hk h36 hm hres
    obtain ⟨-, -, -, -, -, -, -, -, -, -, -, -, hpl⟩ := hk
    exfalso; omega
  | succ m im =>
    intro p g c e z b F q A B C h o W S ks hk h36 hm hres
    obtain ⟨⟨k1, k2, k3, k4, k5, k6⟩, -, -, -, -, -, -, -, -, -, -, hp1, hpl⟩ := id hk
    refine rLoop (zm H (by omega)) (by omega) rfl (sg_128_0 (zy (zk (zm H (show 1 ≤ 12 by omega)))) ?_)
    simp only [rv_12_20, rv_12_21, rv_12_22, rv_12_23, rv_12_24, rv_12_25, rv_12_26, rv_12_28, rv_12_38, rv_12_42, rv_12_0, rv_12_1, rv_12_15, rv_12_16, rv_12_18, rv_28, rv_37, rv_38, rv_39, rv_40, rv_41, rv_29, rv_30, rv_31, rv_32, rv_33, rv_34, rv_35, rv_36, rv_42, rv_43, rv_44, rv_13, rv_14, rv_15, rv_16, rv_17, rv_18, rv_19, rv_20, rv_21, rv_22, rv_23, rv_24, rv_25, rv_26, rv_27, rv_r, rv_w12_20, rv_w12_21, rv_w12_22, rv_w12_23, rv_w12_24, rv_w12_25, rv_w12_26, rv_w12_28, rv_w12_38, rv_w12_42, rv_w28, rv_w37, rv_w38, rv_w39, rv_w40, rv_w41, rv_w29, rv_w30, rv_w31, rv_w32, rv_w33, rv_w34, rv_w35, rv_w36, rv_w42, rv_w43, rv_w44]
    rw [efm, h36, k1, k2]
    refine ⟨fb, fb, fun _ => ⟨fb, fun y => by exfalso; omega, fun _ => ⟨fb, fun _ => ⟨fb, ?_⟩, fun y => absurd hw y⟩⟩, fun y => absurd y (by decide)⟩
    refine rc_105 (zk (zk (zm H (show 2 ≤ 12 by omega)))) hI (by omega) (by omega) (by omega) (by omega) c4 (by rw [k4, hl]) (ym_rt_cons (sg_128_145 (zy (zk (zm H (show 1 ≤ 12 by omega)))) _ _ _ _ ?_))
    cases hon : zs_on r l ind p with
    | false =>
      refine ⟨by decide, fun _ => ?_, fun y => absurd rfl y⟩
      refine rEnd hI hE hW (rRet_c (rBack (zm H (by omega))) (fun st k => ym_rt_cons (sg_128_165 (zy (zk (zm H (show 1 ≤ 12 by omega)))) _ _ _ k))) (zk (zk (zm H (show 5 ≤ 12 by omega)))) hc hG hk hf hl (Or.inl rfl) (fun y => absurd y (by decide)) (fun _ => ?_)
      rw [hl] at hon
      rw [hres, zs_vs, hon, if_neg (by decide), if_neg (by decide)]
      show some ((gg, zs_enc gg 1 (zs_fl (rKs E u (ks ++ [])))), zs_sk ind p) = _
      rw [List.append_nil]
    | true =>
      rw [hl] at hon
      rw [zs_vs, hon, if_pos rfl] at hres
      refine ⟨by decide, fun y => absurd y (by decide), fun _ => ⟨⟨c2, c3⟩, ?_⟩⟩
      simp only [rv_12_20, rv_12_21, rv_12_22, rv_12_23, rv_12_24, rv_12_25, rv_12_26, rv_12_28, rv_12_38, rv_12_42, rv_12_0, rv_12_1, rv_12_15, rv_12_16, rv_12_18, rv_28, rv_37, rv_38, rv_39, rv_40, rv_41, rv_29, rv_30, rv_31, rv_32, rv_33, rv_34, rv_35, rv_36, rv_42, rv_43, rv_44, rv_13, rv_14, rv_15, rv_16, rv_17, rv_18, rv_19, rv_20, rv_21, rv_22, rv_23, rv_24, rv_25, rv_26, rv_27, rv_r, rv_w12_20, rv_w12_21, rv_w12_22, rv_w12_23, rv_w12_24, rv_w12_25, rv_w12_26, rv_w12_28, rv_w12_38, rv_w12_42, rv_w28, rv_w37, rv_w38, rv_w39, rv_w40, rv_w41, rv_w29, rv_w30, rv_w31, rv_w32, rv_w33, rv_w34, rv_w35, rv_w36, rv_w42, rv_w43, rv_w44]
      rw [h16]
      refine rKid hI hW ih (rRet_c (rBack (zm H (by omega))) (fun st k => ym_rt_cons (sg_128_158 (zy (zk (zm H (show 1 ≤ 12 by omega)))) _ _ _ k))) (zk (zk (zm H (show 9 ≤ 12 by omega)))) hk wi.1 (by omega) wi2 (by omega) c1 (by omega) hf c7 c8 hl c9 c10 c11 c12 (fun y => hG.1 (by rw [hres, y]; rfl)) (fun y b2 hv g2 cc2 e2 z2 bb F2 q2 A2 B2 C2 h2 o2 W2 S2 w1 w2 hk2 w3 => ?_)
      refine im b2 _ _ _ _ _ F2 q2 A2 B2 C2 h2 o2 W2 S2 (ks ++ [y]) hk2 (by rw [w2]; exact h36) (by omega) ?_
      rw [hres, hv]
      show ((zs_vs r (zs_v E r fu (E.1 16 u)) m lim ind b2).map (fun w => (y :: w.1, w.2))).map _ = _
      exact zs_mc (fun l => (gg, zs_enc gg 1 (zs_fl (rKs E u l)))) ks y _
/-- a group, nothing pending -/
theorem rStart (H : zh sc K 12) (hE : zRE s E) (hc : rCx N ff u gg ind lim q0 h0 p1 t p0) (hw : what = 4) (hk : rK E ff what u gg ind lim l0 q0 h0 p1 F0 A0 B0 C0 o0 p F q A B C h o ks) (hf : f = ff + 1) (hx : x = 0) (h36 : F 36 ff = -1) (kg : rGp sc P K a1 E ff u (rv s p l g x c e z b f F q A B C h o W S)) : rLp sc P K a1 (rv s p l g x c e z b f F q A B C h o W S) := by
  have hE2 := hE
  obtain ⟨h13, h14, h15, h16, h17, h20, h21, h22, h23, h24, h18, h19, h25⟩ := hE2
  obtain ⟨c1, c2, c3, c4, c5, c6, c7, c8, c9, c10, c11, c12, c13, c14, c15⟩ := hc
  obtain ⟨⟨k1, k2, k3, k4, k5, k6⟩, -⟩ := id hk
  have efm : f - 1 = ff := by omega
  have fb : (0 : Int) ≤ ff ∧ ff < 20 := ⟨c1, by omega⟩
  refine rLoop (zm H (by omega)) (by omega) hx (sg_128_0 (zy (zk (zm H (show 1 ≤ 12 by omega)))) ?_)
  simp only [rv_12_20, rv_12_21, rv_12_22, rv_12_23, rv_12_24, rv_12_25, rv_12_26, rv_12_28, rv_12_38, rv_12_42, rv_12_0, rv_12_1, rv_12_15, rv_12_16, rv_12_18, rv_28, rv_37, rv_38, rv_39, rv_40, rv_41, rv_29, rv_30, rv_31, rv_32, rv_33, rv_34, rv_35, rv_36, rv_42, rv_43, rv_44, rv_13, rv_14, rv_15, rv_16, rv_17, rv_18, rv_19, rv_20, rv_21, rv_22, rv_23, rv_24, rv_25, rv_26, rv_27, rv_r, rv_w12_20, rv_w12_21, rv_w12_22, rv_w12_23, rv_w12_24, rv_w12_25, rv_w12_26, rv_w12_28, rv_w12_38, rv_w12_42, rv_w28, rv_w37, rv_w38, rv_w39, rv_w40, rv_w41, rv_w29, rv_w30, rv_w31, rv_w32, rv_w33, rv_w34, rv_w35, rv_w36, rv_w42, rv_w43, rv_w44]
  rw [efm, h36, k1, k2, h15]
  exact ⟨fb, fb, fun _ => ⟨fb, fun y => by exfalso; omega, fun _ => ⟨fb, fun y => by exfalso; omega, fun _ => ⟨⟨c2, c3⟩, (kg _).1, (kg _).2⟩⟩⟩, fun y => absurd y (by decide)⟩
/-- a group, a member pending -/
theorem rPend (H : zh sc K 12) (hI : rIn s r N) (hE : zRE s E) (hW : zWF E n) (hc : rCx N ff u gg ind lim q0 h0 p1 t p0) (hun : u < n) (hw : what = 4) (s4 : E.1 13 u = 4) {y : Int × List Int} (hk : rK E ff what u gg ind lim l0 q0 h0 p1 F0 A0 B0 C0 o0 p F q A B C h o (ks ++ [y])) (hf : f = ff + 1) (hx : x = 0) {k : Int} (k0 : 0 ≤ k) (k1 : k < E.1 22 u) (h36 : F 36 ff = 6 * u + k) (kg : ∀ (z2 : Int) (b2 : Int → Int) (F2 : Nat → Int → Int) (q2 : Int) (A2 B2 C2 o2 W2 : Int → Int), F2 35 ff = F 35 ff → F2 36 ff = -1 → rK E ff what u gg ind lim l0 q0 h0 p1 F0 A0 B0 C0 o0 p F2 q2 A2 B2 C2 h o2 (if zs_dr E u k y.2 then ks else ks ++ [y]) → rGp sc P K a1 E ff u (rv s p l g x c e z2 b2 f F2 q2 A2 B2 C2 h o2 W2 S)) : rLp sc P K a1 (rv s p l g x c e z b f F q A B C h o W S) := by
  have hE2 := hE
  obtain ⟨h13, h14, h15, h16, h17, h20, h21, h22, h23, h24, h18, h19, h25⟩ := hE2
  obtain ⟨c1, c2, c3, c4, c5, c6, c7, c8, c9, c10, c11, c12, c13, c14, c15⟩ := hc
  have hk0 := hk
  obtain ⟨⟨i1, i2, i3, i4, i5, i6⟩, i7, i8, i9, i10, i11, i12, i13, i14, i15, i16, i17, i18⟩ := hk0
  obtain ⟨-, -, w5, w6, w7, -⟩ := zW_w4 hW c2 hun s4
  obtain ⟨m1, m2, m3, m4, m5⟩ := w7 k k0 k1
  have hN := hI.1
  have efm : f - 1 = ff := by omega
  have fb : (0 : Int) ≤ ff ∧ ff < 20 := ⟨c1, by omega⟩
  have jb : (0 : Int) ≤ 6 * u + k ∧ 6 * u + k < 102 := ⟨by omega, by omega⟩
  have mu : u * (p - p1) ≤ u * (lim - p1) := Int.mul_le_mul_of_nonneg_left (by omega) c2
  have F35 : ym_u F 36 ff (-1) 35 ff = F 35 ff := ym_u_ne (by decide)
  have F36 : ym_u F 36 ff (-1) 36 ff = -1 := ym_u_eq
  have i8b : q = q0 + ks.length + 1 := by
    rw [List.length_append] at i8
    simp at i8
    omega
  refine rLoop (zm H (by omega)) (by omega) hx (sg_128_0 (zy (zk (zm H (show 1 ≤ 12 by omega)))) ?_)
  simp only [rv_12_20, rv_12_21, rv_12_22, rv_12_23, rv_12_24, rv_12_25, rv_12_26, rv_12_28, rv_12_38, rv_12_42, rv_12_0, rv_12_1, rv_12_15, rv_12_16, rv_12_18, rv_28, rv_37, rv_38, rv_39, rv_40, rv_41, rv_29, rv_30, rv_31, rv_32, rv_33, rv_34, rv_35, rv_36, rv_42, rv_43, rv_44, rv_13, rv_14, rv_15, rv_16, rv_17, rv_18, rv_19, rv_20, rv_21, rv_22, rv_23, rv_24, rv_25, rv_26, rv_27, rv_r, rv_w12_20, rv_w12_21, rv_w12_22, rv_w12_23, rv_w12_24, rv_w12_25, rv_w12_26, rv_w12_28, rv_w12_38, rv_w12_42, rv_w28, rv_w37, rv_w38, rv_w39, rv_w40, rv_w41, rv_w29, rv_w30, rv_w31, rv_w32, rv_w33, rv_w34, rv_w35, rv_w36, rv_w42, rv_w43, rv_w44]
  rw [efm, h36, i1, i2, h15, h24, h23, h25]
  refine ⟨fb, fb, fun y => by exfalso; omega, fun _ => ⟨fb, jb, fun how => ⟨jb, jb, ?_⟩, fun how => ⟨fb, fun y => by exfalso; omega, fun _ => ⟨fb, fun y => by exfalso; omega, fun _ => ⟨⟨c2, c3⟩, ?_⟩⟩⟩⟩⟩
  · obtain ⟨n1, -⟩ := m5 how
    have yP := (rPs_split i9).2.1
    have yk := i12 y (List.mem_append.mpr (Or.inr (List.mem_singleton.mpr rfl)))
    refine rc_114 (E := E) (n := n) (zk (zk (zm H (show 5 ≤ 12 by omega)))) hW h13 h14 h15 h16 (Y := y) yk.2.2.1 (by rw [show q - 1 = q0 + ks.length by omega]; exact yP) (by omega) (by rw [List.length_append] at i14; simp at i14; omega) (by omega) (by omega) m1 (by omega) n1 (fun z2 b2 W2 A2 B2 C2 o2 w1 w2 => ym_rt_cons (sg_128_59 (zy (zk (zm H (show 1 ≤ 12 by omega)))) _ _ _ _ ?_))
    simp only [rv_12_20, rv_12_21, rv_12_22, rv_12_23, rv_12_24, rv_12_25, rv_12_26, rv_12_28, rv_12_38, rv_12_42, rv_12_0, rv_12_1, rv_12_15, rv_12_16, rv_12_18, rv_28, rv_37, rv_38, rv_39, rv_40, rv_41, rv_29, rv_30, rv_31, rv_32, rv_33, rv_34, rv_35, rv_36, rv_42, rv_43, rv_44, rv_13, rv_14, rv_15, rv_16, rv_17, rv_18, rv_19, rv_20, rv_21, rv_22, rv_23, rv_24, rv_25, rv_26, rv_27, rv_r, rv_w12_20, rv_w12_21, rv_w12_22, rv_w12_23, rv_w12_24, rv_w12_25, rv_w12_26, rv_w12_28, rv_w12_38, rv_w12_42, rv_w28, rv_w37, rv_w38, rv_w39, rv_w40, rv_w41, rv_w29, rv_w30, rv_w31, rv_w32, rv_w33, rv_w34, rv_w35, rv_w36, rv_w42, rv_w43, rv_w44]
    rw [h15, ym_u_ne (show (29 : Nat) ≠ 36 by decide), i1]
    have hk2 := rK_of (rK_u (v := -1) (Or.inr rfl) hk) c9 w1 w2
    have fin : ∀ q2, q2 = (if zs_dr E u k y.2 then q - 1 else q) → rGp sc P K a1 E ff u (rv s p l g x c e z2 b2 f (ym_u F 36 ff (-1)) q2 A2 B2 C2 h o2 W2 S) := by
      intro q2 hq2
      refine kg _ _ _ _ _ _ _ _ _ F35 F36 ?_
      rw [hq2]
      split
      · exact rK_drop hk2
      · exact hk2
    have ed : zs_dr E u k y.2 = decide (y.2 = zs_df E (E.1 23 (6 * u + k)) (E.2 25 (6 * u + k)).toInt) := by
      unfold zs_dr
      rw [decide_eq_true how, Bool.true_and]
    rw [ed] at fin
    by_cases hy : y.2 = zs_df E (E.1 23 (6 * u + k)) (E.2 25 (6 * u + k)).toInt
    · have e1 : (if y.2 = zs_df E (E.1 23 (6 * u + k)) (E.2 25 (6 * u + k)).toInt then (1 : Int) else 0) = 1 := if_pos hy
      rw [e1]
      have e2 : (if (1 : Int) = 0 then q else q - 1) = q - 1 := rfl
      rw [e2]
      rw [decide_eq_true hy, if_pos rfl] at fin
      exact ⟨by decide, ⟨by omega, by omega⟩, fb, fun y => by exfalso; omega, fun _ => ⟨fb, fun y => by exfalso; omega, fun _ => ⟨⟨c2, c3⟩, (fin _ rfl _).1, (fin _ rfl _).2⟩⟩⟩
    · have e1 : (if y.2 = zs_df E (E.1 23 (6 * u + k)) (E.2 25 (6 * u + k)).toInt then (1 : Int) else 0) = 0 := if_neg hy
      rw [e1]
      have e2 : (if (0 : Int) = 0 then q else q - 1) = q := rfl
      rw [e2]
      rw [decide_eq_false hy, if_neg (by decide)] at fin
      exact ⟨by decide, ⟨by omega, by omega⟩, fb, fun y => by exfalso; omega, fun _ => ⟨fb, fun y => by exfalso; omega, fun _ => ⟨⟨c2, c3⟩, (fin _ rfl _).1, (fin _ rfl _).2⟩⟩⟩
  · have ed : zs_dr E u k y.2 = false := by
      unfold zs_dr
      rw [decide_eq_false how, Bool.false_and]
    have := kg z b (ym_u F 36 ff (-1)) q A B C o W F35 F36 (by rw [ed, if_neg (by decide)]; exact rK_u (Or.inr rfl) hk)
    exact ⟨(this _).1, (this _).2⟩
end
