/-! The reference's SEQUENCE: own work. -/
theorem em_at {E : zEnv} {t : Int} {seen : Int → Bool} {j : Int} (hm : E.1 24 (6 * t + j) = 0) (hs : seen j = false) : ∀ (n : Nat) (k : Int), k ≤ j → j < k + n → em E t seen n k = true
  | 0, k, h1, h2 => by exfalso; omega
  | n + 1, k, h1, h2 => by
    rw [em]
    by_cases hj : k = j
    · rw [hj, decide_eq_true hm, hs]
      rfl
    · rw [em_at hm hs n (k + 1) (by omega) (by omega), Bool.or_true]
theorem em_lo {E : zEnv} {t : Int} {seen : Int → Bool} : ∀ (m n : Nat) (k : Int), (∀ j, k ≤ j → j < k + m → E.1 24 (6 * t + j) ≠ 0 ∨ seen j = true) → em E t seen (m + n) k = em E t seen n (k + m)
  | 0, n, k, h => by rw [Nat.zero_add]; congr 1; omega
  | m + 1, n, k, h => by
    rw [show m + 1 + n = (m + n) + 1 by omega, em, em_lo m n (k + 1) (fun j h1 h2 => h j (by omega) (by omega))]
    have e1 : (decide (E.1 24 (6 * t + k) = 0) && !seen k) = false := by
      rcases h k (by omega) (by omega) with w | w
      · rw [decide_eq_false w]
        rfl
      · rw [w]
        simp
    rw [e1, Bool.false_or]
    congr 1
    omega
theorem zs_ms_bad {E : zEnv} {r : Int → Int} {rec : Int → Int → Int → Option ((Int × List Int) × Int)} {t j : Int} (j0 : 0 ≤ j) (j1 : j < E.1 22 t) (hm : E.1 24 (6 * t + j) = 0) : ∀ (m : Nat) (lim ind p fr : Int) (seen : Int → Bool), j < fr → seen j = false → zs_ms E r rec t false m lim ind p fr seen = none
  | 0, lim, ind, p, fr, seen, hj, hs => rfl
  | m + 1, lim, ind, p, fr, seen, hj, hs => by
    unfold zs_ms
    split
    · cases zs_id r lim p with
      | none => rfl
      | some x =>
        show (eIx E t x.2.1 fr).bind _ = none
        cases hk : eIx E t x.2.1 fr with
        | none => rfl
        | some k =>
          obtain ⟨k1, -⟩ := ef_ok _ _ _ hk
          show (if seen k then none else (rec (E.1 23 (6 * t + k)) lim p).bind _) = none
          split
          · rfl
          · cases rec (E.1 23 (6 * t + k)) lim p with
            | none => rfl
            | some z =>
              show (zs_ms E r rec t false m lim ind z.2 (k + 1) (fun j => decide (j = k) || seen j)).map _ = none
              rw [zs_ms_bad j0 j1 hm m lim ind z.2 (k + 1) _ (by omega) (by show (decide (j = k) || seen j) = false; rw [hs, decide_eq_false (by omega)]; rfl)]
              rfl
    · rw [em_at hm hs _ 0 j0 (by omega)]
      rfl
section
variable {sc : xm_S} {P : xm_O → xm_H → Prop} {K : List ym_F} {a1 a8 : Int} {s : ym_S} {p l g x c e z : Int} {b : Int → Int} {f : Int} {F : Nat → Int → Int} {q : Int} {A B C : Int → Int} {h : Int} {o W : Int → Int} {S : Nat → Int → Int} {r : Int → Int} {N : Int} {E : zEnv} {n : Int} {ff what u gg ind lim l0 q0 h0 p1 t p0 : Int} {F0 : Nat → Int → Int} {A0 B0 C0 o0 : Int → Int} {ks : List (Int × List Int)} {res : Option ((Int × List Int) × Int)}
theorem rBack8 (H : zh sc K 12) : rRet sc P K a1 s ((128, 181, [some (ym_P 12), some (ym_I ff), some (ym_I u), some (ym_I a8)], []) :: (129, 67, [some (ym_P 12), some (ym_I a1), none], []) :: K) := rRet_c (rBack (zm H (by omega))) (fun st k => ym_rt_cons (sg_128_184 (zy (zk (zm H (show 1 ≤ 12 by omega)))) _ _ _ k))
/-- a step of the walk -/
theorem r126 (H : zh sc K 12) (hI : rIn s r N) (hE : zRE s E) (hW : zWF E n) (hc : rCx N ff u gg ind lim q0 h0 p1 t p0) (hG : rGd sc P K a1 s ff l0 q0 h0 F0 A0 B0 C0 o0 t p0 res) (hk : rK E ff what u gg ind lim l0 q0 h0 p1 F0 A0 B0 C0 o0 p F q A B C h o ks) (hf : f = ff + 1) (hl : l = lim) (hx : x = 0 ∨ x = 1) (h35 : 0 ≤ F 35 ff) (h35b : F 35 ff ≤ 6) (a3 : Option Int) (h1 : x = 1 → res = none) (h2 : x = 0 → E.1 22 u ≤ F 35 ff → res = if zs_on r lim ind p then none else some ((gg, zs_enc gg 1 (zs_fl (rKs E u ks))), zs_sk ind p)) (h3 : x = 0 → F 35 ff < E.1 22 u → ym_Go sc P ((126, 58, [some (ym_P 12), some (ym_I ff), some (ym_I u), some (ym_I (6 * u + F 35 ff))], []) :: ((128, 181, [some (ym_P 12), some (ym_I ff), some (ym_I u), some (ym_I a8)], []) :: (129, 67, [some (ym_P 12), some (ym_I a1), none], []) :: K)) (105, 0, [some (ym_P 12), some (ym_I (F 32 ff))], []) (rv s p l g x c e z b f (ym_u F 35 ff (F 35 ff + 1)) q A B C h o W S)) : ym_Go sc P ((128, 181, [some (ym_P 12), some (ym_I ff), some (ym_I u), some (ym_I a8)], []) :: (129, 67, [some (ym_P 12), some (ym_I a1), none], []) :: K) (126, 7, [some (ym_P 12), some (ym_I ff), some (ym_I u), a3.map ym_I], []) (rv s p l g x c e z b f F q A B C h o W S) := by
  have hE2 := hE
  obtain ⟨h13, h14, h15, h16, h17, h20, h21, h22, h23, h24, h18, h19, h25⟩ := hE2
  have hc2 := hc
  obtain ⟨c1, c2, c3, c4, c5, c6, c7, c8, c9, c10, c11, c12, c13, c14, c15⟩ := hc2
  have fb : (0 : Int) ≤ ff ∧ ff < 20 := ⟨c1, by omega⟩
  have fin : (x = 1 ∨ E.1 22 u ≤ F 35 ff) → ∀ fr, (∀ st, ym_Rt sc P ((128, 181, [some (ym_P 12), some (ym_I ff), some (ym_I u), some (ym_I a8)], []) :: (129, 67, [some (ym_P 12), some (ym_I a1), none], []) :: K) none st → ym_Rt sc P (fr :: ((128, 181, [some (ym_P 12), some (ym_I ff), some (ym_I u), some (ym_I a8)], []) :: (129, 67, [some (ym_P 12), some (ym_I a1), none], []) :: K)) none st) → ym_Go sc P (fr :: ((128, 181, [some (ym_P 12), some (ym_I ff), some (ym_I u), some (ym_I a8)], []) :: (129, 67, [some (ym_P 12), some (ym_I a1), none], []) :: K)) (125, 0, [some (ym_P 12), none, none], []) (rv s p l g x c e z b f F q A B C h o W S) := fun y fr hs =>
    rEnd hI hE hW (rRet_c (rBack8 H) hs) (zk (zk (zk (zm H (show 6 ≤ 12 by omega))))) hc hG hk hf hl hx h1 (fun w => h2 w (by omega))
  cases a3 with
  | none =>
    refine sg_126_7 (zy (zk (zk (zm H (show 2 ≤ 12 by omega))))) _ _ ?_
    simp only [rv_12_20, rv_12_21, rv_12_22, rv_12_23, rv_12_24, rv_12_25, rv_12_26, rv_12_28, rv_12_38, rv_12_42, rv_12_0, rv_12_1, rv_12_15, rv_12_16, rv_12_18, rv_28, rv_37, rv_38, rv_39, rv_40, rv_41, rv_29, rv_30, rv_31, rv_32, rv_33, rv_34, rv_35, rv_36, rv_42, rv_43, rv_44, rv_13, rv_14, rv_15, rv_16, rv_17, rv_18, rv_19, rv_20, rv_21, rv_22, rv_23, rv_24, rv_25, rv_26, rv_27, rv_r, rv_w12_20, rv_w12_21, rv_w12_22, rv_w12_23, rv_w12_24, rv_w12_25, rv_w12_26, rv_w12_28, rv_w12_38, rv_w12_42, rv_w28, rv_w37, rv_w38, rv_w39, rv_w40, rv_w41, rv_w29, rv_w30, rv_w31, rv_w32, rv_w33, rv_w34, rv_w35, rv_w36, rv_w42, rv_w43, rv_w44]
    rw [h22]
    refine ⟨fb, ⟨c2, by omega⟩, fun y => ⟨fun hx0 => ⟨fb, fb, fb, ⟨by omega, by omega⟩, fb, h3 hx0 y⟩, fun hx0 => fin (Or.inl (by omega)) _ (fun st k => ym_rt_cons (sg_126_131 (zy (zk (zk (zm H (show 2 ≤ 12 by omega))))) _ _ k))⟩, fun y => fin (Or.inr y) _ (fun st k => ym_rt_cons (sg_126_131 (zy (zk (zk (zm H (show 2 ≤ 12 by omega))))) _ _ k))⟩
  | some a3 =>
    refine sg_126_7b (zy (zk (zk (zm H (show 2 ≤ 12 by omega))))) _ _ _ ?_
    simp only [rv_12_20, rv_12_21, rv_12_22, rv_12_23, rv_12_24, rv_12_25, rv_12_26, rv_12_28, rv_12_38, rv_12_42, rv_12_0, rv_12_1, rv_12_15, rv_12_16, rv_12_18, rv_28, rv_37, rv_38, rv_39, rv_40, rv_41, rv_29, rv_30, rv_31, rv_32, rv_33, rv_34, rv_35, rv_36, rv_42, rv_43, rv_44, rv_13, rv_14, rv_15, rv_16, rv_17, rv_18, rv_19, rv_20, rv_21, rv_22, rv_23, rv_24, rv_25, rv_26, rv_27, rv_r, rv_w12_20, rv_w12_21, rv_w12_22, rv_w12_23, rv_w12_24, rv_w12_25, rv_w12_26, rv_w12_28, rv_w12_38, rv_w12_42, rv_w28, rv_w37, rv_w38, rv_w39, rv_w40, rv_w41, rv_w29, rv_w30, rv_w31, rv_w32, rv_w33, rv_w34, rv_w35, rv_w36, rv_w42, rv_w43, rv_w44]
    rw [h22]
    refine ⟨fb, ⟨c2, by omega⟩, fun y => ⟨fun hx0 => ⟨fb, fb, fb, ⟨by omega, by omega⟩, fb, h3 hx0 y⟩, fun hx0 => fin (Or.inl (by omega)) _ (fun st k => ym_rt_cons (sg_126_131b (zy (zk (zk (zm H (show 2 ≤ 12 by omega))))) _ _ _ k))⟩, fun y => fin (Or.inr y) _ (fun st k => ym_rt_cons (sg_126_131b (zy (zk (zk (zm H (show 2 ≤ 12 by omega))))) _ _ _ k))⟩
/-- nothing comes any more -/
theorem rWa (H : zh sc K 12) (hI : rIn s r N) (hE : zRE s E) (hW : zWF E n) (hc : rCx N ff u gg ind lim q0 h0 p1 t p0) (hun : u < n) (s4 : E.1 13 u = 4) (hG : rGd sc P K a1 s ff l0 q0 h0 F0 A0 B0 C0 o0 t p0 res) (hf : f = ff + 1) (hl : l = lim) (hon : zs_on r lim ind p = false) {seen : Int → Bool} : ∀ (cnt : Nat) (F : Nat → Int → Int) (a3 : Option Int) (x : Int), x = 0 → rK E ff what u gg ind lim l0 q0 h0 p1 F0 A0 B0 C0 o0 p F q A B C h o ks → 0 ≤ F 35 ff → E.1 22 u - F 35 ff = cnt → (∀ j, F 35 ff ≤ j → seen j = false) → (res = if em E u seen cnt (F 35 ff) then none else some ((gg, zs_enc gg 1 (zs_fl (rKs E u ks))), zs_sk ind p)) → ym_Go sc P ((128, 181, [some (ym_P 12), some (ym_I ff), some (ym_I u), some (ym_I a8)], []) :: (129, 67, [some (ym_P 12), some (ym_I a1), none], []) :: K) (126, 7, [some (ym_P 12), some (ym_I ff), some (ym_I u), a3.map ym_I], []) (rv s p l g x c e z b f F q A B C h o W S) := by
  have hE2 := hE
  obtain ⟨h13, h14, h15, h16, h17, h20, h21, h22, h23, h24, h18, h19, h25⟩ := hE2
  have hc2 := hc
  obtain ⟨c1, c2, c3, c4, c5, c6, c7, c8, c9, c10, c11, c12, c13, c14, c15⟩ := hc2
  obtain ⟨-, -, w5, w6, w7, -⟩ := zW_w4 hW c2 hun s4
  have hN := hI.1
  intro cnt
  induction cnt with
  | zero =>
    intro F a3 x hx hk h35 hcnt hs hres
    refine r126 H hI hE hW hc hG hk hf hl (Or.inl hx) h35 (by omega) a3 (fun y => by exfalso; omega) (fun _ _ => ?_) (fun _ y => by exfalso; omega)
    rw [hres, hon]
    rfl
  | succ cnt im =>
    intro F a3 x hx hk h35 hcnt hs hres
    have hk0 := hk
    obtain ⟨⟨k1, k2, k3, k4, k5, k6⟩, -, -, -, -, -, -, -, -, -, -, hp1, hpl⟩ := hk0
    refine r126 H hI hE hW hc hG hk hf hl (Or.inl hx) h35 (by omega) a3 (fun y => by exfalso; omega) (fun _ _ => by exfalso; omega) (fun _ _ => ?_)
    refine rc_105 (zk (zk (zk (zm H (show 3 ≤ 12 by omega))))) hI (by omega) (by omega) (by omega) (by omega) c4 (by rw [k4, hl]) (ym_rt_cons (sg_126_61 (zy (zk (zk (zm H (show 2 ≤ 12 by omega))))) _ _ _ _ ?_))
    have hon2 : zs_on r l ind p = false := by rw [hl]; exact hon
    rw [hon2]
    refine ⟨by decide, fun _ => ?_, fun y => absurd rfl y⟩
    simp only [rv_12_20, rv_12_21, rv_12_22, rv_12_23, rv_12_24, rv_12_25, rv_12_26, rv_12_28, rv_12_38, rv_12_42, rv_12_0, rv_12_1, rv_12_15, rv_12_16, rv_12_18, rv_28, rv_37, rv_38, rv_39, rv_40, rv_41, rv_29, rv_30, rv_31, rv_32, rv_33, rv_34, rv_35, rv_36, rv_42, rv_43, rv_44, rv_13, rv_14, rv_15, rv_16, rv_17, rv_18, rv_19, rv_20, rv_21, rv_22, rv_23, rv_24, rv_25, rv_26, rv_27, rv_r, rv_w12_20, rv_w12_21, rv_w12_22, rv_w12_23, rv_w12_24, rv_w12_25, rv_w12_26, rv_w12_28, rv_w12_38, rv_w12_42, rv_w28, rv_w37, rv_w38, rv_w39, rv_w40, rv_w41, rv_w29, rv_w30, rv_w31, rv_w32, rv_w33, rv_w34, rv_w35, rv_w36, rv_w42, rv_w43, rv_w44]
    rw [h24, if_pos hx]
    refine ⟨fun _ => ⟨by omega, by omega⟩, ?_⟩
    have e35 : ym_u F 35 ff (F 35 ff + 1) 35 ff = F 35 ff + 1 := ym_u_eq
    have hk2 := rK_u (v := F 35 ff + 1) (Or.inl rfl) hk
    rw [em, hs _ (Int.le_refl _)] at hres
    by_cases hm : E.1 24 (6 * u + F 35 ff) = 0
    · rw [if_pos hm]
      rw [decide_eq_true hm] at hres
      refine r126 H hI hE hW hc hG hk2 hf hl (Or.inr rfl) (by omega) (by omega) (some _) (fun _ => hres) (fun y => absurd y (by decide)) (fun y => absurd y (by decide))
    · rw [if_neg hm]
      rw [decide_eq_false hm] at hres
      refine im _ (some _) 0 rfl hk2 (by omega) (by omega) (fun j hj => hs j (by omega)) ?_
      rw [e35]
      exact hres
/-- what comes can't be read -/
theorem rWc (H : zh sc K 12) (hI : rIn s r N) (hE : zRE s E) (hW : zWF E n) (hc : rCx N ff u gg ind lim q0 h0 p1 t p0) (hun : u < n) (s4 : E.1 13 u = 4) (hG : rGd sc P K a1 s ff l0 q0 h0 F0 A0 B0 C0 o0 t p0 res) (hf : f = ff + 1) (hl : l = lim) (hon : zs_on r lim ind p = true) (hid : zs_id r lim p = none) (hres : res = none) : ∀ (cnt : Nat) (F : Nat → Int → Int) (a3 : Option Int) (x g c : Int), x = 0 → rK E ff what u gg ind lim l0 q0 h0 p1 F0 A0 B0 C0 o0 p F q A B C h o ks → 0 ≤ F 35 ff → E.1 22 u - F 35 ff = cnt → ym_Go sc P ((128, 181, [some (ym_P 12), some (ym_I ff), some (ym_I u), some (ym_I a8)], []) :: (129, 67, [some (ym_P 12), some (ym_I a1), none], []) :: K) (126, 7, [some (ym_P 12), some (ym_I ff), some (ym_I u), a3.map ym_I], []) (rv s p l g x c e z b f F q A B C h o W S) := by
  have hE2 := hE
  obtain ⟨h13, h14, h15, h16, h17, h20, h21, h22, h23, h24, h18, h19, h25⟩ := hE2
  have hc2 := hc
  obtain ⟨c1, c2, c3, c4, c5, c6, c7, c8, c9, c10, c11, c12, c13, c14, c15⟩ := hc2
  obtain ⟨-, -, w5, w6, w7, -⟩ := zW_w4 hW c2 hun s4
  have hN := hI.1
  have hn := hW.1
  have fb : (0 : Int) ≤ ff ∧ ff < 20 := ⟨c1, by omega⟩
  intro cnt
  induction cnt with
  | zero =>
    intro F a3 x g c hx hk h35 hcnt
    refine r126 H hI hE hW hc hG hk hf hl (Or.inl hx) h35 (by omega) a3 (fun y => by exfalso; omega) (fun _ _ => ?_) (fun _ y => by exfalso; omega)
    rw [hres, hon]
    rfl
  | succ cnt im =>
    intro F a3 x g c hx hk h35 hcnt
    have hk0 := hk
    obtain ⟨⟨k1, k2, k3, k4, k5, k6⟩, -, -, -, -, -, -, -, -, -, -, hp1, hpl⟩ := hk0
    refine r126 H hI hE hW hc hG hk hf hl (Or.inl hx) h35 (by omega) a3 (fun y => by exfalso; omega) (fun _ _ => by exfalso; omega) (fun _ _ => ?_)
    refine rc_105 (zk (zk (zk (zm H (show 3 ≤ 12 by omega))))) hI (by omega) (by omega) (by omega) (by omega) c4 (by rw [k4, hl]) (ym_rt_cons (sg_126_61 (zy (zk (zk (zm H (show 2 ≤ 12 by omega))))) _ _ _ _ ?_))
    obtain ⟨m1, m2, -⟩ := w7 (F 35 ff) h35 (by omega)
    have jb : (0 : Int) ≤ 6 * u + F 35 ff ∧ 6 * u + F 35 ff < 102 := ⟨by omega, by omega⟩
    have hid2 : zs_id r l p = none := by rw [hl]; exact hid
    have hon2 : zs_on r l ind p = true := by rw [hl]; exact hon
    rw [hon2]
    refine ⟨by decide, fun y => absurd y (by decide), fun _ => ⟨jb, ?_⟩⟩
    simp only [rv_12_20, rv_12_21, rv_12_22, rv_12_23, rv_12_24, rv_12_25, rv_12_26, rv_12_28, rv_12_38, rv_12_42, rv_12_0, rv_12_1, rv_12_15, rv_12_16, rv_12_18, rv_28, rv_37, rv_38, rv_39, rv_40, rv_41, rv_29, rv_30, rv_31, rv_32, rv_33, rv_34, rv_35, rv_36, rv_42, rv_43, rv_44, rv_13, rv_14, rv_15, rv_16, rv_17, rv_18, rv_19, rv_20, rv_21, rv_22, rv_23, rv_24, rv_25, rv_26, rv_27, rv_r, rv_w12_20, rv_w12_21, rv_w12_22, rv_w12_23, rv_w12_24, rv_w12_25, rv_w12_26, rv_w12_28, rv_w12_38, rv_w12_42, rv_w28, rv_w37, rv_w38, rv_w39, rv_w40, rv_w41, rv_w29, rv_w30, rv_w31, rv_w32, rv_w33, rv_w34, rv_w35, rv_w36, rv_w42, rv_w43, rv_w44]
    rw [h23]
    have e35 : ym_u F 35 ff (F 35 ff + 1) 35 ff = F 35 ff + 1 := ym_u_eq
    have hk2 := rK_u (v := F 35 ff + 1) (Or.inl rfl) hk
    refine rc_103 (zk (zk (zk (zm H (show 6 ≤ 12 by omega))))) hI (by omega) (by omega) (by omega) (Or.inl hx) (fun _ c2 g2 b2 y => by rw [hid2] at y; cases y) (fun hlp => ym_rt_cons (sg_126_75 (zy (zk (zk (zm H (show 2 ≤ 12 by omega))))) _ _ _ _ _ ?_)) (fun hpl hb c2 g2 y1 y2 y3 => ym_rt_cons (sg_126_75 (zy (zk (zk (zm H (show 2 ≤ 12 by omega))))) _ _ _ _ _ ?_))
    · refine rc_95 (s := (rv s p l g x c e z b f (ym_u F 35 ff (F 35 ff + 1)) q A B C h o W S)) (g := -1) (E := E) (zk (zk (zk (zm H (show 3 ≤ 12 by omega))))) h20 h21 m1 (by omega) (zWf_of hW m1 (by omega)) (by decide) (ym_rt_cons (sg_126_78 (zy (zk (zk (zm H (show 2 ≤ 12 by omega))))) _ _ _ _ ?_))
      rw [eBg_neg (zWf_of hW m1 (by omega)) (by decide)]
      refine ⟨by decide, fun _ => ?_, fun y => absurd rfl y⟩
      simp only [rv_12_20, rv_12_21, rv_12_22, rv_12_23, rv_12_24, rv_12_25, rv_12_26, rv_12_28, rv_12_38, rv_12_42, rv_12_0, rv_12_1, rv_12_15, rv_12_16, rv_12_18, rv_28, rv_37, rv_38, rv_39, rv_40, rv_41, rv_29, rv_30, rv_31, rv_32, rv_33, rv_34, rv_35, rv_36, rv_42, rv_43, rv_44, rv_13, rv_14, rv_15, rv_16, rv_17, rv_18, rv_19, rv_20, rv_21, rv_22, rv_23, rv_24, rv_25, rv_26, rv_27, rv_r, rv_w12_20, rv_w12_21, rv_w12_22, rv_w12_23, rv_w12_24, rv_w12_25, rv_w12_26, rv_w12_28, rv_w12_38, rv_w12_42, rv_w28, rv_w37, rv_w38, rv_w39, rv_w40, rv_w41, rv_w29, rv_w30, rv_w31, rv_w32, rv_w33, rv_w34, rv_w35, rv_w36, rv_w42, rv_w43, rv_w44]
      rw [h24, if_pos hx]
      refine ⟨fun _ => jb, ?_⟩
      by_cases hm : E.1 24 (6 * u + F 35 ff) = 0
      · rw [if_pos hm]
        exact r126 H hI hE hW hc hG hk2 hf hl (Or.inr rfl) (by omega) (by omega) (some _) (fun _ => hres) (fun y => absurd y (by decide)) (fun y => absurd y (by decide))
      · rw [if_neg hm]
        exact im _ (some (6 * u + F 35 ff)) 0 g c rfl hk2 (by omega) (by omega)
    · refine (fun (k : ∀ x1 : Int, x1 = 1 → ym_Go sc P _ _ (rv s p l g2 x1 c2 e z b f (ym_u F 35 ff (F 35 ff + 1)) q A B C h o W S)) => k 1 rfl) (fun x1 hx1 => ?_)
      refine rc_95 (s := (rv s p l g2 x1 c2 e z b f (ym_u F 35 ff (F 35 ff + 1)) q A B C h o W S)) (g := g2) (E := E) (zk (zk (zk (zm H (show 3 ≤ 12 by omega))))) h20 h21 m1 (by omega) (zWf_of hW m1 (by omega)) ⟨by omega, by omega⟩ (ym_rt_cons (sg_126_78 (zy (zk (zk (zm H (show 2 ≤ 12 by omega))))) _ _ _ _ ?_))
      cases eBg E (E.1 23 (6 * u + F 35 ff)) g2 with
      | false =>
        refine ⟨by decide, fun _ => ?_, fun y => absurd rfl y⟩
        simp only [rv_12_20, rv_12_21, rv_12_22, rv_12_23, rv_12_24, rv_12_25, rv_12_26, rv_12_28, rv_12_38, rv_12_42, rv_12_0, rv_12_1, rv_12_15, rv_12_16, rv_12_18, rv_28, rv_37, rv_38, rv_39, rv_40, rv_41, rv_29, rv_30, rv_31, rv_32, rv_33, rv_34, rv_35, rv_36, rv_42, rv_43, rv_44, rv_13, rv_14, rv_15, rv_16, rv_17, rv_18, rv_19, rv_20, rv_21, rv_22, rv_23, rv_24, rv_25, rv_26, rv_27, rv_r, rv_w12_20, rv_w12_21, rv_w12_22, rv_w12_23, rv_w12_24, rv_w12_25, rv_w12_26, rv_w12_28, rv_w12_38, rv_w12_42, rv_w28, rv_w37, rv_w38, rv_w39, rv_w40, rv_w41, rv_w29, rv_w30, rv_w31, rv_w32, rv_w33, rv_w34, rv_w35, rv_w36, rv_w42, rv_w43, rv_w44]
        rw [if_neg (show ¬ x1 = 0 by omega)]
        refine ⟨fun _ => jb, ?_⟩
        exact r126 H hI hE hW hc hG hk2 hf hl (Or.inr rfl) (by omega) (by omega) (some _) (fun _ => hres) (fun y => absurd y (by decide)) (fun y => absurd y (by decide))
      | true =>
        refine ⟨by decide, fun y => absurd y (by decide), fun _ => ⟨fb, ⟨by omega, by omega⟩, jb, ?_⟩⟩
        simp only [rv_12_20, rv_12_21, rv_12_22, rv_12_23, rv_12_24, rv_12_25, rv_12_26, rv_12_28, rv_12_38, rv_12_42, rv_12_0, rv_12_1, rv_12_15, rv_12_16, rv_12_18, rv_28, rv_37, rv_38, rv_39, rv_40, rv_41, rv_29, rv_30, rv_31, rv_32, rv_33, rv_34, rv_35, rv_36, rv_42, rv_43, rv_44, rv_13, rv_14, rv_15, rv_16, rv_17, rv_18, rv_19, rv_20, rv_21, rv_22, rv_23, rv_24, rv_25, rv_26, rv_27, rv_r, rv_w12_20, rv_w12_21, rv_w12_22, rv_w12_23, rv_w12_24, rv_w12_25, rv_w12_26, rv_w12_28, rv_w12_38, rv_w12_42, rv_w28, rv_w37, rv_w38, rv_w39, rv_w40, rv_w41, rv_w29, rv_w30, rv_w31, rv_w32, rv_w33, rv_w34, rv_w35, rv_w36, rv_w42, rv_w43, rv_w44]
        rw [h23]
        refine sg_123_0 (zy (zk (zk (zk (zm H (show 3 ≤ 12 by omega)))))) _ ?_
        refine rc_123x (zk (zk (zk (zm H (show 8 ≤ 12 by omega))))) hI hE hW (by omega) (by omega) (by omega) hx1 (fun g3 c3 => ?_) 17 _ _ m1 (by omega) (by omega) (Or.inl rfl) (by decide)
        subst hx1
        exact rRet_c (rBack8 H) (fun st k => ym_rt_cons (sg_126_98 (zy (zk (zk (zm H (show 2 ≤ 12 by omega))))) _ _ _ k)) _ _ _ _ _ _ _ _ _ _ _ _ _ _ _ _ _ _ (hG.1 hres _ _ _ _ _ _ _ _ _ _ _ _ _ _ _ _ _)
/-- a SEQUENCE -/
theorem rSq {fu : Nat} (H : zh sc K 12) (hI : rIn s r N) (hE : zRE s E) (hW : zWF E n) (ih : rVP sc P K a1 s r N E n fu) (hc : rCx N ff u gg ind lim q0 h0 p1 t p0) (hfu : u ≤ fu) (hun : u < n) (hw : what = 4) (s4 : E.1 13 u = 4) (s16 : E.1 15 u = 16) (hG : rGd sc P K a1 s ff l0 q0 h0 F0 A0 B0 C0 o0 t p0 res) (hf : f = ff + 1) (hl : l = lim) : ∀ (m : Nat) (p g c e z : Int) (b : Int → Int) (F : Nat → Int → Int) (q : Int) (A B C : Int → Int) (h : Int) (o W : Int → Int) (S : Nat → Int → Int) (ks : List (Int × List Int)) (seen : Int → Bool), rK E ff what u gg ind lim l0 q0 h0 p1 F0 A0 B0 C0 o0 p F q A B C h o ks → 0 ≤ F 35 ff → F 35 ff ≤ E.1 22 u → (∀ j, F 35 ff ≤ j → seen j = false) → (∀ j, 0 ≤ j → j < F 35 ff → E.1 24 (6 * u + j) ≠ 0 ∨ seen j = true) → lim - p < m → res = (zs_ms E r (zs_v E r fu) u false m lim ind p (F 35 ff) seen).map (fun z => ((gg, zs_enc gg 1 (zs_fl (rKs E u (ks ++ z.1)))), z.2)) → rGp sc P K a1 E ff u (rv s p l g 0 c e z b f F q A B C h o W S) := by
  have hE2 := hE
  obtain ⟨h13, h14, h15, h16, h17, h20, h21, h22, h23, h24, h18, h19, h25⟩ := hE2
  have hc2 := hc
  obtain ⟨c1, c2, c3, c4, c5, c6, c7, c8, c9, c10, c11, c12, c13, c14, c15⟩ := hc2
  obtain ⟨-, -, w5, w6, w7, -⟩ := zW_w4 hW c2 hun s4
  have hN := hI.1
  have hn := hW.1
  have fb : (0 : Int) ≤ ff ∧ ff < 20 := ⟨c1, by omega⟩
  intro m
  induction m with
  | zero =>
    intro p g c e z b F q A B C h o W S ks seen hk h35 h35b hs hlo hm hres
    obtain ⟨-, -, -, -, -, -, -, -, -, -, -, -, hpl⟩ := hk
    exfalso; omega
  | succ m im =>
    intro p g c e z b F q A B C h o W S ks seen hk h35 h35b hs hlo hm hres a8
    refine ⟨fun _ => ?_, fun y => absurd s16 y⟩
    obtain ⟨⟨k1, k2, k3, k4, k5, k6⟩, -, -, -, -, -, -, -, -, -, -, hp1, hpl⟩ := id hk
    refine sg_126_0 (zy (zk (zk (zm H (show 2 ≤ 12 by omega))))) _ ?_
    simp only [rv_12_20, rv_12_21, rv_12_22, rv_12_23, rv_12_24, rv_12_25, rv_12_26, rv_12_28, rv_12_38, rv_12_42, rv_12_0, rv_12_1, rv_12_15, rv_12_16, rv_12_18, rv_28, rv_37, rv_38, rv_39, rv_40, rv_41, rv_29, rv_30, rv_31, rv_32, rv_33, rv_34, rv_35, rv_36, rv_42, rv_43, rv_44, rv_13, rv_14, rv_15, rv_16, rv_17, rv_18, rv_19, rv_20, rv_21, rv_22, rv_23, rv_24, rv_25, rv_26, rv_27, rv_r, rv_w12_20, rv_w12_21, rv_w12_22, rv_w12_23, rv_w12_24, rv_w12_25, rv_w12_26, rv_w12_28, rv_w12_38, rv_w12_42, rv_w28, rv_w37, rv_w38, rv_w39, rv_w40, rv_w41, rv_w29, rv_w30, rv_w31, rv_w32, rv_w33, rv_w34, rv_w35, rv_w36, rv_w42, rv_w43, rv_w44]
    rw [k2]
    refine ⟨fb, ?_⟩
    rw [zs_ms] at hres
    cases hon : zs_on r lim ind p with
    | false =>
      rw [hon, if_neg (by decide)] at hres
      refine rWa (seen := seen) H hI hE hW hc hun s4 hG hf hl hon (E.1 22 u - F 35 ff).toNat F none 0 rfl hk h35 (by omega) hs ?_
      have e1 := em_lo (E := E) (t := u) (seen := seen) (F 35 ff).toNat (E.1 22 u - F 35 ff).toNat 0 (fun j j0 j1 => hlo j j0 (by omega))
      rw [show (F 35 ff).toNat + (E.1 22 u - F 35 ff).toNat = (E.1 22 u).toNat by omega, show (0 : Int) + ((F 35 ff).toNat : Int) = F 35 ff by omega] at e1
      rw [hres, e1]
      split
      · rfl
      · show some ((gg, zs_enc gg 1 (zs_fl (rKs E u (ks ++ [])))), zs_sk ind p) = _
        rw [List.append_nil]
    | true =>
      rw [hon, if_pos rfl] at hres
      cases hid : zs_id r lim p with
      | none =>
        rw [hid] at hres
        exact rWc H hI hE hW hc hun s4 hG hf hl hon hid hres (E.1 22 u - F 35 ff).toNat F none 0 _ _ rfl hk h35 (by omega)
      | some idr =>
        obtain ⟨cc0, g0, b0⟩ := idr
        rw [hid] at hres
        have o1 := zs_id_ok hI.2.1 c8 (by omega) hid
        obtain ⟨TT, hTT⟩ : ∃ TT : Int → Option (List (Int × List Int) × Int), TT = fun k => if seen k then none else (zs_v E r fu (E.1 23 (6 * u + k)) lim p).bind (fun z => (zs_ms E r (zs_v E r fu) u false m lim ind z.2 (k + 1) (fun j => decide (j = k) || seen j)).map (fun y => ((if zs_dr E u k z.1.2 then y.1 else z.1 :: y.1), y.2))) := ⟨_, rfl⟩
        have hres2 : res = ((ef E u g0 (E.1 22 u - F 35 ff).toNat (F 35 ff)).bind TT).map (fun z => ((gg, zs_enc gg 1 (zs_fl (rKs E u (ks ++ z.1)))), z.2)) := by
          rw [hres, hTT]
          rfl
        clear hres
        -- the walk
        have walk : ∀ (cnt : Nat) (F : Nat → Int → Int) (a3 : Option Int) (x g c : Int), x = 0 → rK E ff what u gg ind lim l0 q0 h0 p1 F0 A0 B0 C0 o0 p F q A B C h o ks → 0 ≤ F 35 ff → E.1 22 u - F 35 ff = cnt → (∀ j, F 35 ff ≤ j → seen j = false) → (∀ j, 0 ≤ j → j < F 35 ff → E.1 24 (6 * u + j) ≠ 0 ∨ seen j = true) → res = ((ef E u g0 cnt (F 35 ff)).bind TT).map (fun z => ((gg, zs_enc gg 1 (zs_fl (rKs E u (ks ++ z.1)))), z.2)) → ym_Go sc P ((128, 181, [some (ym_P 12), some (ym_I ff), some (ym_I u), some (ym_I a8)], []) :: (129, 67, [some (ym_P 12), some (ym_I a1), none], []) :: K) (126, 7, [some (ym_P 12), some (ym_I ff), some (ym_I u), a3.map ym_I], []) (rv s p l g x c e z b f F q A B C h o W S) := by
          intro cnt
          induction cnt with
          | zero =>
            intro F a3 x g c hx hk h35 hcnt hs hlo hres
            refine r126 H hI hE hW hc hG hk hf hl (Or.inl hx) h35 (by omega) a3 (fun y => by exfalso; omega) (fun _ _ => ?_) (fun _ y => by exfalso; omega)
            rw [hres, hon]
            rfl
          | succ cnt iw =>
            intro F a3 x g c hx hk h35 hcnt hs hlo hres
            have hk0 := hk
            obtain ⟨⟨k1, k2, k3, k4, k5, k6⟩, -, -, -, -, -, -, -, -, -, -, hp1, hpl⟩ := hk0
            refine r126 H hI hE hW hc hG hk hf hl (Or.inl hx) h35 (by omega) a3 (fun y => by exfalso; omega) (fun _ _ => by exfalso; omega) (fun _ _ => ?_)
            refine rc_105 (zk (zk (zk (zm H (show 3 ≤ 12 by omega))))) hI (by omega) (by omega) (by omega) (by omega) c4 (by rw [k4, hl]) (ym_rt_cons (sg_126_61 (zy (zk (zk (zm H (show 2 ≤ 12 by omega))))) _ _ _ _ ?_))
            obtain ⟨m1, m2, -⟩ := w7 (F 35 ff) h35 (by omega)
            have jb : (0 : Int) ≤ 6 * u + F 35 ff ∧ 6 * u + F 35 ff < 102 := ⟨by omega, by omega⟩
            have hid2 : zs_id r l p = some (cc0, g0, b0) := by rw [hl]; exact hid
            have hon2 : zs_on r l ind p = true := by rw [hl]; exact hon
            rw [hon2]
            refine ⟨by decide, fun y => absurd y (by decide), fun _ => ⟨jb, ?_⟩⟩
            simp only [rv_12_20, rv_12_21, rv_12_22, rv_12_23, rv_12_24, rv_12_25, rv_12_26, rv_12_28, rv_12_38, rv_12_42, rv_12_0, rv_12_1, rv_12_15, rv_12_16, rv_12_18, rv_28, rv_37, rv_38, rv_39, rv_40, rv_41, rv_29, rv_30, rv_31, rv_32, rv_33, rv_34, rv_35, rv_36, rv_42, rv_43, rv_44, rv_13, rv_14, rv_15, rv_16, rv_17, rv_18, rv_19, rv_20, rv_21, rv_22, rv_23, rv_24, rv_25, rv_26, rv_27, rv_r, rv_w12_20, rv_w12_21, rv_w12_22, rv_w12_23, rv_w12_24, rv_w12_25, rv_w12_26, rv_w12_28, rv_w12_38, rv_w12_42, rv_w28, rv_w37, rv_w38, rv_w39, rv_w40, rv_w41, rv_w29, rv_w30, rv_w31, rv_w32, rv_w33, rv_w34, rv_w35, rv_w36, rv_w42, rv_w43, rv_w44]
            rw [h23]
            have e35 : ym_u F 35 ff (F 35 ff + 1) 35 ff = F 35 ff + 1 := ym_u_eq
            have hk2 := rK_u (v := F 35 ff + 1) (Or.inl rfl) hk
            refine rc_103 (zk (zk (zk (zm H (show 6 ≤ 12 by omega))))) hI (by omega) (by omega) (by omega) (Or.inl hx) (fun _ c2 g2 b2 y => ?_) (fun hlp => by exfalso; rw [zs_id, if_neg (by omega)] at hid2; cases hid2) (fun hpl hb => by exfalso; exact hb.elim (fun w => by omega) (fun w => by rw [hid2] at w; cases w))
            obtain ⟨rfl, rfl, rfl⟩ : cc0 = c2 ∧ g0 = g2 ∧ b0 = b2 := by
              rw [hid2] at y
              have y2 := Option.some.inj y
              exact ⟨congrArg (·.1) y2, congrArg (·.2.1) y2, congrArg (·.2.2) y2⟩
            refine ym_rt_cons (sg_126_75 (zy (zk (zk (zm H (show 2 ≤ 12 by omega))))) _ _ _ _ _ ?_)
            refine rc_95 (s := (rv s p l g0 x cc0 e z b f (ym_u F 35 ff (F 35 ff + 1)) q A B C h o W S)) (g := g0) (E := E) (zk (zk (zk (zm H (show 3 ≤ 12 by omega))))) h20 h21 m1 (by omega) (zWf_of hW m1 (by omega)) ⟨by omega, by omega⟩ (ym_rt_cons (sg_126_78 (zy (zk (zk (zm H (show 2 ≤ 12 by omega))))) _ _ _ _ ?_))
            rw [ef] at hres
            cases hb : eBg E (E.1 23 (6 * u + F 35 ff)) g0 with
            | false =>
              rw [hb, if_neg (by decide)] at hres
              refine ⟨by decide, fun _ => ?_, fun y => absurd rfl y⟩
              simp only [rv_12_20, rv_12_21, rv_12_22, rv_12_23, rv_12_24, rv_12_25, rv_12_26, rv_12_28, rv_12_38, rv_12_42, rv_12_0, rv_12_1, rv_12_15, rv_12_16, rv_12_18, rv_28, rv_37, rv_38, rv_39, rv_40, rv_41, rv_29, rv_30, rv_31, rv_32, rv_33, rv_34, rv_35, rv_36, rv_42, rv_43, rv_44, rv_13, rv_14, rv_15, rv_16, rv_17, rv_18, rv_19, rv_20, rv_21, rv_22, rv_23, rv_24, rv_25, rv_26, rv_27, rv_r, rv_w12_20, rv_w12_21, rv_w12_22, rv_w12_23, rv_w12_24, rv_w12_25, rv_w12_26, rv_w12_28, rv_w12_38, rv_w12_42, rv_w28, rv_w37, rv_w38, rv_w39, rv_w40, rv_w41, rv_w29, rv_w30, rv_w31, rv_w32, rv_w33, rv_w34, rv_w35, rv_w36, rv_w42, rv_w43, rv_w44]
              rw [h24, if_pos hx]
              refine ⟨fun _ => jb, ?_⟩
              by_cases hm0 : E.1 24 (6 * u + F 35 ff) = 0
              · rw [if_pos hm0]
                have hnone : res = none := by
                  rw [hres]
                  cases hef : ef E u g0 cnt (F 35 ff + 1) with
                  | none => rfl
                  | some k =>
                    obtain ⟨kk1, kk2, -⟩ := ef_ok _ _ _ hef
                    show (TT k).map _ = none
                    rw [hTT]
                    show (if seen k then none else (zs_v E r fu (E.1 23 (6 * u + k)) lim p).bind _ : Option (List (Int × List Int) × Int)).map _ = none
                    split
                    · rfl
                    · cases zs_v E r fu (E.1 23 (6 * u + k)) lim p with
                      | none => rfl
                      | some z =>
                        show ((zs_ms E r (zs_v E r fu) u false m lim ind z.2 (k + 1) (fun j => decide (j = k) || seen j)).map _ : Option (List (Int × List Int) × Int)).map _ = none
                        rw [zs_ms_bad h35 (by omega) hm0 m lim ind z.2 (k + 1) _ (by omega) (by show (decide (F 35 ff = k) || seen (F 35 ff)) = false; rw [hs _ (Int.le_refl _), decide_eq_false (by omega)]; rfl)]
                        rfl
                exact r126 H hI hE hW hc hG hk2 hf hl (Or.inr rfl) (by omega) (by omega) (some _) (fun _ => hnone) (fun y => absurd y (by decide)) (fun y => absurd y (by decide))
              · rw [if_neg hm0]
                refine iw _ (some _) 0 _ _ rfl hk2 (by omega) (by omega) (fun j hj => hs j (by omega)) (fun j j0 j1 => ?_) ?_
                · by_cases hj : j = F 35 ff
                  · rw [hj]
                    exact Or.inl hm0
                  · exact hlo j j0 (by omega)
                · rw [e35]
                  exact hres
            | true =>
              rw [hb, if_pos rfl] at hres
              change res = (TT (F 35 ff)).map _ at hres
              rw [hTT] at hres
              dsimp only at hres
              rw [hs _ (Int.le_refl _), if_neg (by decide)] at hres
              refine ⟨by decide, fun y => absurd y (by decide), fun _ => ⟨fb, ⟨by omega, by omega⟩, jb, ?_⟩⟩
              simp only [rv_12_20, rv_12_21, rv_12_22, rv_12_23, rv_12_24, rv_12_25, rv_12_26, rv_12_28, rv_12_38, rv_12_42, rv_12_0, rv_12_1, rv_12_15, rv_12_16, rv_12_18, rv_28, rv_37, rv_38, rv_39, rv_40, rv_41, rv_29, rv_30, rv_31, rv_32, rv_33, rv_34, rv_35, rv_36, rv_42, rv_43, rv_44, rv_13, rv_14, rv_15, rv_16, rv_17, rv_18, rv_19, rv_20, rv_21, rv_22, rv_23, rv_24, rv_25, rv_26, rv_27, rv_r, rv_w12_20, rv_w12_21, rv_w12_22, rv_w12_23, rv_w12_24, rv_w12_25, rv_w12_26, rv_w12_28, rv_w12_38, rv_w12_42, rv_w28, rv_w37, rv_w38, rv_w39, rv_w40, rv_w41, rv_w29, rv_w30, rv_w31, rv_w32, rv_w33, rv_w34, rv_w35, rv_w36, rv_w42, rv_w43, rv_w44]
              rw [h23]
              subst hx
              have hk3 := rK_u (v := 6 * u + F 35 ff) (Or.inr rfl) hk2
              refine rKid hI hW ih (rRet_c (rBack8 H) (fun st k => ym_rt_cons (sg_126_98 (zy (zk (zk (zm H (show 2 ≤ 12 by omega))))) _ _ _ k))) (zk (zk (zk (zm H (show 10 ≤ 12 by omega))))) hk3 m1 (by omega) m2 (by omega) c1 (by omega) hf c7 c8 hl c9 c10 c11 c12 (fun y => hG.1 (by rw [hres, y]; rfl)) (fun y b2 hv g2 cc2 e2 z2 bb F2 q2 A2 B2 C2 h2 o2 W2 S2 v1 v2 hk4 v3 => ?_)
              rw [ym_u_ne (by decide), e35] at v1
              rw [ym_u_eq] at v2
              rw [hv] at hres
              change res = ((zs_ms E r (zs_v E r fu) u false m lim ind b2 (F 35 ff + 1) (fun j => decide (j = F 35 ff) || seen j)).map (fun w => ((if zs_dr E u (F 35 ff) y.2 then w.1 else y :: w.1), w.2)) : Option (List (Int × List Int) × Int)).map _ at hres
              refine rPend H hI hE hW hc hun hw s4 hk4 hf rfl h35 (by omega) v2 (fun z3 b3 F3 q3 A3 B3 C3 o3 W3 f35 f36 hk5 => ?_)
              rw [v1] at f35
              refine im b2 _ _ _ _ _ F3 q3 A3 B3 C3 h2 o3 W3 S2 _ (fun j => decide (j = F 35 ff) || seen j) hk5 (by omega) (by omega) (fun j hj => ?_) (fun j j0 j1 => ?_) (by omega) ?_
              · rw [hs j (by omega), decide_eq_false (by omega)]
                rfl
              · by_cases hj : j = F 35 ff
                · exact Or.inr (by rw [decide_eq_true hj]; rfl)
                · rcases hlo j j0 (by omega) with w | w
                  · exact Or.inl w
                  · exact Or.inr (by rw [w, Bool.or_true])
              · rw [f35, hres]
                cases zs_dr E u (F 35 ff) y.2 with
                | true =>
                  simp only [if_pos]
                  rw [Option.map_map]
                  rfl
                | false =>
                  have : ∀ (X Y : List (Int × List Int)), (if false = true then X else Y) = Y := fun _ _ => rfl
                  simp only [this]
                  exact zs_mc (fun l => (gg, zs_enc gg 1 (zs_fl (rKs E u l)))) ks y _
        exact walk (E.1 22 u - F 35 ff).toNat F none 0 _ _ rfl hk h35 (by omega) hs hlo hres2
end
