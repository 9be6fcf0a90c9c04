/-! What stands in a frame: own work. -/
theorem zmul {a b x y : Int} (ha : 0 ≤ a) (hab : a ≤ b) (hx : 0 ≤ x) (hxy : x ≤ y) : a * x ≤ b * y := Int.le_trans (Int.mul_le_mul_of_nonneg_left hxy ha) (Int.mul_le_mul_of_nonneg_right hab (by omega))
/-- a frame, the parts of its contents so far, and what was there before -/
def rK (E : zEnv) (ff what u gg ind lim l0 q0 h0 p1 : Int) (F0 : Nat → Int → Int) (A0 B0 C0 o0 : Int → Int) (p : Int) (F : Nat → Int → Int) (q : Int) (A B C : Int → Int) (h : Int) (o : Int → Int) (ks : List (Int × List Int)) : Prop := (F 29 ff = what ∧ F 30 ff = u ∧ F 31 ff = gg ∧ (F 32 ff = if ind = 0 then lim else -1) ∧ F 33 ff = l0 ∧ F 34 ff = q0) ∧ (∀ k j, j < ff → F k j = F0 k j) ∧ q = q0 + ks.length ∧ rPs A B C o h q0 ks ∧ (∀ j, j < q0 → A j = A0 j ∧ B j = B0 j ∧ C j = C0 j) ∧ (∀ j, 0 ≤ j → j < h0 → o j = o0 j) ∧ (∀ w ∈ ks, zs_kd w) ∧ ((zs_fl ks).length : Int) ≤ p - p1 ∧ 2 * (ks.length : Int) ≤ p - p1 ∧ h0 ≤ h ∧ h ≤ h0 + u * (p - p1) ∧ p1 ≤ p ∧ p ≤ lim
def rVP (sc : xm_S) (P : xm_O → xm_H → Prop) (K : List ym_F) (a1 : Int) (s : ym_S) (r : Int → Int) (N : Int) (E : zEnv) (n : Int) (fu : Nat) : Prop := ∀ (K1 : List ym_F) (t p l g c e z : Int) (b : Int → Int) (f : Int) (F : Nat → Int → Int) (q : Int) (A B C : Int → Int) (h : Int) (o W : Int → Int) (S : Nat → Int → Int), rRet sc P K a1 s K1 → zh sc K1 7 → 0 ≤ t → t < n → t < fu → 0 ≤ p → p ≤ l → l ≤ N → 0 ≤ f → f + t ≤ 17 → 0 ≤ q → 2 * q ≤ p → 0 ≤ h → h + (t + 1) * (l - p) ≤ 4000 → (zs_v E r fu t l p = none → rBadP sc P K a1 s) → (∀ gl y b2, zs_v E r fu t l p = some ((gl, y), b2) → ∀ (g2 c2 e2 z2 : Int) (bb : Int → Int) (F2 : Nat → Int → Int) (A2 B2 C2 : Int → Int) (h2 : Int) (o2 W2 : Int → Int) (S2 : Nat → Int → Int), (∀ k j, j < f → F2 k j = F k j) → (∀ j, j < q → A2 j = A j ∧ B2 j = B j ∧ C2 j = C j) → (∀ j, 0 ≤ j → j < h → o2 j = o j) → rP A2 B2 C2 o2 h2 q (gl, y) → h ≤ h2 → h2 ≤ h + (t + 1) * (b2 - p) → rLp sc P K a1 (rv s b2 l g2 0 c2 e2 z2 bb f F2 (q+1) A2 B2 C2 h2 o2 W2 S2)) → ym_Go sc P K1 (123, 0, [some (ym_P 12), some (ym_I t), none, none, none, none], []) (rv s p l g 0 c e z b f F q A B C h o W S)
section
variable {sc : xm_S} {P : xm_O → xm_H → Prop} {K : List ym_F} {a1 : Int} {s : ym_S} {p l g x c e z : Int} {b : Int → Int} {f : Int} {F : Nat → Int → Int} {q : Int} {A B C : Int → Int} {h : Int} {o W : Int → Int} {S : Nat → Int → Int} {r : Int → Int} {N : Int} {E : zEnv} {n : Int} {ff what u gg ind lim l0 q0 h0 p1 : Int} {F0 : Nat → Int → Int} {A0 B0 C0 o0 : Int → Int} {ks : List (Int × List Int)}
/-- one more part -/
theorem rKid {fu : Nat} (hI : rIn s r N) (hW : zWF E n) (ih : rVP sc P K a1 s r N E n fu) {K1 : List ym_F} (hR : rRet sc P K a1 s K1) (H : zh sc K1 7) (hk : rK E ff what u gg ind lim l0 q0 h0 p1 F0 A0 B0 C0 o0 p F q A B C h o ks) {t : Int} (t0 : 0 ≤ t) (t1 : t < n) (tu : t < u) (tf : t < fu) (hff : 0 ≤ ff) (hfu : ff + 1 + t ≤ 17) (hf : f = ff + 1) (hp1 : 0 ≤ p1) (hlim : lim ≤ N) (hl : l = lim) (hq0 : 0 ≤ q0) (hqp : 2 * q0 ≤ p1) (hh0 : 0 ≤ h0) (hroom : h0 + u * (lim - p1) ≤ 4000) (kx : zs_v E r fu t lim p = none → rBadP sc P K a1 s) (kr : ∀ y b2, zs_v E r fu t lim p = some (y, b2) → ∀ (g2 c2 e2 z2 : Int) (bb : Int → Int) (F2 : Nat → Int → Int) (q2 : Int) (A2 B2 C2 : Int → Int) (h2 : Int) (o2 W2 : Int → Int) (S2 : Nat → Int → Int), F2 35 ff = F 35 ff → F2 36 ff = F 36 ff → rK E ff what u gg ind lim l0 q0 h0 p1 F0 A0 B0 C0 o0 b2 F2 q2 A2 B2 C2 h2 o2 (ks ++ [y]) → p + 2 ≤ b2 → rLp sc P K a1 (rv s b2 l g2 0 c2 e2 z2 bb f F2 q2 A2 B2 C2 h2 o2 W2 S2)) : ym_Go sc P K1 (123, 0, [some (ym_P 12), some (ym_I t), none, none, none, none], []) (rv s p l g 0 c e z b f F q A B C h o W S) := by
  obtain ⟨⟨k1, k2, k3, k4, k5, k6⟩, k7, k8, k9, k10, k11, k12, k13, k14, k15, k16, k17, k18⟩ := hk
  subst hl
  have hN := hI.1
  have hn := hW.1
  have m1 : (t + 1) * (l - p) ≤ u * (l - p) := Int.mul_le_mul_of_nonneg_right (by omega) (by omega)
  have m2 : u * (p - p1) + u * (l - p) = u * (l - p1) := by rw [← Int.mul_add]; congr 1; omega
  refine ih K1 t p l g c e z b f F q A B C h o W S hR H t0 t1 tf (by omega) k18 hlim (by omega) (by omega) (by omega) (by omega) (by omega) (by omega) kx (fun gl y b2 hv g2 c2 e2 z2 bb F2 A2 B2 C2 h2 o2 W2 S2 w1 w2 w3 w4 w5 w6 => ?_)
  obtain ⟨v1, v2, v3, v4⟩ := zs_v_ok hW hI.2.1 hN fu t l p _ t0 t1 hlim (by omega) k18 hv
  change p + 2 ≤ b2 at v1
  change b2 ≤ l at v2
  change (y.length : Int) ≤ b2 - p at v3
  have m3 : (t + 1) * (b2 - p) ≤ u * (b2 - p) := Int.mul_le_mul_of_nonneg_right (by omega) (by omega)
  have m4 : u * (p - p1) + u * (b2 - p) = u * (b2 - p1) := by rw [← Int.mul_add]; congr 1; omega
  refine kr (gl, y) b2 hv g2 c2 e2 z2 bb F2 (q + 1) A2 B2 C2 h2 o2 W2 S2 (w1 35 ff (by omega)) (w1 36 ff (by omega)) ?_ v1
  refine ⟨⟨?_, ?_, ?_, ?_, ?_, ?_⟩, fun k j hj => ?_, ?_, ?_, fun j hj => ?_, fun j j0 j1 => ?_, fun w hw => ?_, ?_, ?_, by omega, by omega, by omega, v2⟩
  · rw [w1 29 ff (by omega)]; exact k1
  · rw [w1 30 ff (by omega)]; exact k2
  · rw [w1 31 ff (by omega)]; exact k3
  · rw [w1 32 ff (by omega)]; exact k4
  · rw [w1 33 ff (by omega)]; exact k5
  · rw [w1 34 ff (by omega)]; exact k6
  · rw [w1 k j (by omega)]
    exact k7 k j hj
  · rw [List.length_append]
    simp
    omega
  · refine rPs_app (rPs_of k9 (fun j j0 j1 => w2 j (by omega)) (fun j j0 j1 => w3 j j0 j1) w5) ⟨?_, trivial⟩
    rw [← k8]
    exact w4
  · obtain ⟨a, b', c'⟩ := w2 j (by omega)
    obtain ⟨a2, b2', c2'⟩ := k10 j hj
    exact ⟨a.trans a2, b'.trans b2', c'.trans c2'⟩
  · rw [w3 j j0 (by omega)]
    exact k11 j j0 j1
  · rcases List.mem_append.mp hw with hw | hw
    · exact k12 w hw
    · rw [List.mem_singleton.mp hw]
      exact v4
  · rw [zs_fl_app, List.length_append]
    show (((zs_fl ks).length + (y ++ []).length : Nat) : Int) ≤ b2 - p1
    rw [List.append_nil]
    omega
  · rw [List.length_append]
    simp
    omega
/-- the frame is closed -/
theorem rFin (hI : rIn s r N) (hE : zRE s E) (hW : zWF E n) {K2 : List ym_F} (hR : rRet sc P K a1 s K2) (H : zh sc K2 3) (hk : rK E ff what u gg ind lim l0 q0 h0 p1 F0 A0 B0 C0 o0 p F q A B C h o ks) (hff : 0 ≤ ff) (hff2 : ff < 20) (hf : f = ff + 1) (hu : 0 ≤ u) (hu2 : u < 16) (hind : ind = 0 ∨ ind = 1) (hgg : 0 ≤ gg) (hgg2 : gg < 8388608) (hp1 : 0 ≤ p1) (hlim : lim ≤ N) (hl : l = lim) (hq0 : 0 ≤ q0) (hqp : 2 * q0 ≤ p1) (hh0 : 0 ≤ h0) (hroom : h0 + u * (lim - p1) ≤ 4000) (hx : x = 0 ∨ x = 1) {t p0 : Int} (ht : u ≤ t) (hp0 : p0 ≤ p1) (res : Option ((Int × List Int) × Int)) (hbad : (x = 1 ∨ zs_on r lim ind p = true) → res = none) (hgood : x = 0 → zs_on r lim ind p = false → res = some ((gg, zs_enc gg 1 (zs_fl (rKs E u ks))), zs_sk ind p) ∧ ((zs_enc gg 1 (zs_fl (rKs E u ks))).length : Int) ≤ zs_sk ind p - p0) (kx0 : res = none → rBadP sc P K a1 s) (kr0 : ∀ gl y b2, res = some ((gl, y), b2) → ∀ (g2 c2 e2 z2 : Int) (bb : Int → Int) (F2 : Nat → Int → Int) (A2 B2 C2 : Int → Int) (h2 : Int) (o2 W2 : Int → Int) (S2 : Nat → Int → Int), (∀ k j, j < ff → F2 k j = F0 k j) → (∀ j, j < q0 → A2 j = A0 j ∧ B2 j = B0 j ∧ C2 j = C0 j) → (∀ j, 0 ≤ j → j < h0 → o2 j = o0 j) → rP A2 B2 C2 o2 h2 q0 (gl, y) → h0 ≤ h2 → h2 ≤ h0 + (t + 1) * (b2 - p0) → rLp sc P K a1 (rv s b2 l0 g2 0 c2 e2 z2 bb ff F2 (q0+1) A2 B2 C2 h2 o2 W2 S2)) : ym_Go sc P K2 (125, 0, [some (ym_P 12), none, none], []) (rv s p l g x c e z b f F q A B C h o W S) := by
  obtain ⟨⟨k1, k2, k3, k4, k5, k6⟩, k7, k8, k9, k10, k11, k12, k13, k14, k15, k16, k17, k18⟩ := hk
  subst hl
  have hN := hI.1
  have m1 : u * (p - p1) ≤ u * (l - p1) := Int.mul_le_mul_of_nonneg_left (by omega) hu
  refine rc_125 H hI hE hff hff2 hu hu2 hf hx k2 k3 k4 k5 k6 hind hgg hgg2 hq0 k8.symm (by omega) k9 (fun w hw => (k12 w hw).2.2.1) (by omega) (by omega) (by omega) (by omega) (by omega) (by omega) hlim (fun y p2 A2 B2 C2 => hR _ _ _ _ _ _ _ _ _ _ _ _ _ _ _ _ _ _ (kx0 (hbad y) _ _ _ _ _ _ _ _ _ _ _ _ _ _ _ _ _)) (fun y hon A2 B2 C2 w => hR _ _ _ _ _ _ _ _ _ _ _ _ _ _ _ _ _ _ ?_)
  obtain ⟨hres, hlen⟩ := hgood y hon
  obtain ⟨s1, s2, -⟩ := zs_on_end hon k18
  have m2 : u * (p - p1) ≤ t * (zs_sk ind p - p0) := zmul hu ht (by omega) (by omega)
  have m3 : (t + 1) * (zs_sk ind p - p0) = t * (zs_sk ind p - p0) + (zs_sk ind p - p0) := by rw [Int.add_mul, Int.one_mul]
  refine kr0 gg _ _ hres _ _ _ _ _ _ _ _ _ _ _ _ _ k7 (fun j hj => ?_) (fun j j0 j1 => ?_) ?_ (by omega) (by omega)
  · obtain ⟨a, b', c'⟩ := w j hj
    obtain ⟨a2, b2', c2'⟩ := k10 j hj
    refine ⟨?_, ?_, ?_⟩
    · show (if j = q0 then _ else A2 j) = _
      rw [if_neg (by omega)]
      exact a.trans a2
    · show (if j = q0 then _ else B2 j) = _
      rw [if_neg (by omega)]
      exact b'.trans b2'
    · show (if j = q0 then _ else C2 j) = _
      rw [if_neg (by omega)]
      exact c'.trans c2'
  · rw [za_lt _ _ _ _ (by omega)]
    exact k11 j j0 j1
  · refine ⟨?_, ?_, ?_, ?_, ?_⟩
    · show (if q0 = q0 then gg else C2 q0) = gg
      rw [if_pos rfl]
    · show (if q0 = q0 then ((zs_enc gg 1 (zs_fl (rKs E u ks))).length : Int) else B2 q0) = _
      rw [if_pos rfl]
    · show zr _ (if q0 = q0 then h else A2 q0) _
      rw [if_pos rfl]
      exact zr_za _ _ _
    · show 0 ≤ (if q0 = q0 then h else A2 q0)
      rw [if_pos rfl]
      omega
    · show (if q0 = q0 then h else A2 q0) + (if q0 = q0 then ((zs_enc gg 1 (zs_fl (rKs E u ks))).length : Int) else B2 q0) ≤ _
      rw [if_pos rfl, if_pos rfl]
      omega
/-- the loop's head goes on -/
theorem rLoop (H : zh sc K 1) (hf : 0 < f) (hx : x = 0) (k : ym_Go sc P ((129, 67, [some (ym_P 12), some (ym_I a1), none], []) :: K) (128, 0, [some (ym_P 12), none, none, none], []) (rv s p l g x c e z b f F q A B C h o W S)) : rLp sc P K a1 (rv s p l g x c e z b f F q A B C h o W S) := by
  refine sg_129_52 (zy H) _ ?_
  simp only [rv_12_20, rv_12_21, rv_12_22, rv_12_23, rv_12_24, rv_12_25, rv_12_26, rv_12_28, rv_12_38, rv_12_42, rv_12_0, rv_12_1, rv_12_15, rv_12_16, rv_12_18, rv_28, rv_37, rv_38, rv_39, rv_40, rv_41, rv_29, rv_30, rv_31, rv_32, rv_33, rv_34, rv_35, rv_36, rv_42, rv_43, rv_44, rv_13, rv_14, rv_15, rv_16, rv_17, rv_18, rv_19, rv_20, rv_21, rv_22, rv_23, rv_24, rv_25, rv_26, rv_27, rv_r, rv_w12_20, rv_w12_21, rv_w12_22, rv_w12_23, rv_w12_24, rv_w12_25, rv_w12_26, rv_w12_28, rv_w12_38, rv_w12_42, rv_w28, rv_w37, rv_w38, rv_w39, rv_w40, rv_w41, rv_w29, rv_w30, rv_w31, rv_w32, rv_w33, rv_w34, rv_w35, rv_w36, rv_w42, rv_w43, rv_w44]
  exact ⟨fun _ => ⟨fun _ => k, fun y => absurd hx y⟩, fun y => by exfalso; omega⟩
/-- back from a step -/
theorem rBack (H : zh sc K 0) : rRet sc P K a1 s ((129, 67, [some (ym_P 12), some (ym_I a1), none], []) :: K) := fun _ _ _ _ _ _ _ _ _ _ _ _ _ _ _ _ _ _ k => ym_rt_cons (sg_129_70 (zy H) _ k)
end
