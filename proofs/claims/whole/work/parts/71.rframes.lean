/-! The reference's frames: own work. -/
def rLp (sc : xm_S) (P : xm_O → xm_H → Prop) (K : List ym_F) (a1 : Int) (st : ym_S) : Prop := ym_Go sc P K (129, 52, [some (ym_P 12), some (ym_I a1), none], []) st
def rBadP (sc : xm_S) (P : xm_O → xm_H → Prop) (K : List ym_F) (a1 : Int) (s : ym_S) : Prop := ∀ (p l g c e z : Int) (b : Int → Int) (f : Int) (F : Nat → Int → Int) (q : Int) (A B C : Int → Int) (h : Int) (o W : Int → Int) (S : Nat → Int → Int), rLp sc P K a1 (rv s p l g 1 c e z b f F q A B C h o W S)
def rRet (sc : xm_S) (P : xm_O → xm_H → Prop) (K : List ym_F) (a1 : Int) (s : ym_S) (K1 : List ym_F) : Prop := ∀ (p l g x c e z : Int) (b : Int → Int) (f : Int) (F : Nat → Int → Int) (q : Int) (A B C : Int → Int) (h : Int) (o W : Int → Int) (S : Nat → Int → Int), rLp sc P K a1 (rv s p l g x c e z b f F q A B C h o W S) → ym_Rt sc P K1 none (rv s p l g x c e z b f F q A B C h o W S)
def rSet (E : zEnv) (u : Int) : Bool := decide (E.1 15 u = 17) && !decide (E.1 13 u = 2)
def rKs (E : zEnv) (u : Int) (ks : List (Int × List Int)) : List (Int × List Int) := if rSet E u then zs_is (decide (E.1 13 u = 4)) ks else ks
theorem rKs_len (E : zEnv) (u : Int) (ks : List (Int × List Int)) : (zs_fl (rKs E u ks)).length = (zs_fl ks).length ∧ (rKs E u ks).length = ks.length := by
  unfold rKs
  split
  · exact ⟨zs_is_len _ _, zs_is_n _ _⟩
  · exact ⟨rfl, rfl⟩
section
variable {sc : xm_S} {P : xm_O → xm_H → Prop} {K : List ym_F} {s : ym_S} {p l g x c e z : Int} {b : Int → Int} {f : Int} {F : Nat → Int → Int} {q : Int} {A B C : Int → Int} {h : Int} {o W : Int → Int} {S : Nat → Int → Int} {r : Int → Int} {N : Int} {E : zEnv} {n : Int}
/-- what is left of finish when the contents are through -/
theorem rc_125t (H : zh sc K 3) (hE : zRE s E) {ff u gg q0 : Int} (hff : 0 ≤ ff) (hff2 : ff < 20) (hu : 0 ≤ u) (hu2 : u < 16) (hf : f = ff + 1) (hx : x = 0 ∨ x = 1) (F31 : F 31 ff = gg) (F34 : F 34 ff = q0) (hgg : 0 ≤ gg) (hgg2 : gg < 8388608) {ks : List (Int × List Int)} (hq0 : 0 ≤ q0) (hq : q0 + ks.length = q) (hq2 : q ≤ 128) (hP : rPs A B C o h q0 ks) (hall : ∀ w ∈ ks, zs_all w.2) (htot : ((zs_fl ks).length : Int) ≤ 200) (hh0 : 0 ≤ h) (hh : h + 210 ≤ 9000) (kx : x = 1 → ∀ A2 B2 C2 : Int → Int, ym_Rt sc P K none (rv s p l g 1 c e z b ff F q A2 B2 C2 h o W S)) (kr : x = 0 → ∀ A2 B2 C2 : Int → Int, (∀ j, j < q0 → A2 j = A j ∧ B2 j = B j ∧ C2 j = C j) → ym_Rt sc P K none (rv s p l g 0 c e z b ff F (q0+1) (zu A2 q0 h) (zu B2 q0 (zs_enc gg 1 (zs_fl (rKs E u ks))).length) (zu C2 q0 gg) (h+(zs_enc gg 1 (zs_fl (rKs E u ks))).length) (za o h (zs_enc gg 1 (zs_fl (rKs E u ks)))) W S)) : (E.1 15 u = 17 → ((0 : Int) ≤ u ∧ u < 16) ∧ (E.1 13 u = 2 → (-2147483648 ≤ f - 1 ∧ f - 1 < 2147483648) ∧ (x = 0 → ((0 : Int) ≤ ff ∧ ff < 20) ∧ ((0 : Int) ≤ ff ∧ ff < 20) ∧ ym_Go sc P ((125, 152, [some (ym_P 12), some (ym_I ff), some (ym_I u)], []) :: K) (110, 0, [some (ym_P 12), some (ym_I q0), some (ym_I gg), none, none, none, none], []) (rv s p l g x c e z b (f-1) F q A B C h o W S)) ∧ (¬ x = 0 → ym_Rt sc P K none (rv s p l g x c e z b (f-1) F q A B C h o W S))) ∧ (¬ E.1 13 u = 2 → ((0 : Int) ≤ ff ∧ ff < 20) ∧ ((0 : Int) ≤ u ∧ u < 16) ∧ ym_Go sc P ((125, 119, [some (ym_P 12), some (ym_I ff), some (ym_I u)], []) :: K) (112, 0, [some (ym_P 12), some (ym_I q0), some (ym_I (if E.1 13 u = 4 then (1 : Int) else 0)), none, none, none, none, none], []) (rv s p l g x c e z b f F q A B C h o W S))) ∧ (¬ E.1 15 u = 17 → (-2147483648 ≤ f - 1 ∧ f - 1 < 2147483648) ∧ (x = 0 → ((0 : Int) ≤ ff ∧ ff < 20) ∧ ((0 : Int) ≤ ff ∧ ff < 20) ∧ ym_Go sc P ((125, 152, [some (ym_P 12), some (ym_I ff), some (ym_I u)], []) :: K) (110, 0, [some (ym_P 12), some (ym_I q0), some (ym_I gg), none, none, none, none], []) (rv s p l g x c e z b (f-1) F q A B C h o W S)) ∧ (¬ x = 0 → ym_Rt sc P K none (rv s p l g x c e z b (f-1) F q A B C h o W S))) := by
  obtain ⟨ek1, ek2⟩ := rKs_len E u ks
  have efm : f - 1 = ff := by omega
  rw [efm]
  -- the holding
  have hold : x = 0 → ∀ (A2 B2 C2 : Int → Int), (∀ j, j < q0 → A2 j = A j ∧ B2 j = B j ∧ C2 j = C j) → rPs A2 B2 C2 o h q0 (rKs E u ks) → (∀ w ∈ rKs E u ks, zs_all w.2) → ym_Go sc P ((125, 152, [some (ym_P 12), some (ym_I ff), some (ym_I u)], []) :: K) (110, 0, [some (ym_P 12), some (ym_I q0), some (ym_I gg), none, none, none, none], []) (rv s p l g x c e z b ff F q A2 B2 C2 h o W S) := by
    intro hx0 A2 B2 C2 hsame hP2 hall2
    refine rc_110 (zk H) hq0 (by omega) (by omega) (by omega) hP2 hall2 hgg hgg2 (by omega) hh0 hh (ym_rt_cons (sg_125_155 (zy H) _ _ ?_))
    have := kr hx0 A2 B2 C2 hsame
    rw [← hx0] at this
    exact this
  have plain : rSet E u = false → (-2147483648 ≤ ff ∧ ff < 2147483648) ∧ (x = 0 → ((0 : Int) ≤ ff ∧ ff < 20) ∧ ((0 : Int) ≤ ff ∧ ff < 20) ∧ ym_Go sc P ((125, 152, [some (ym_P 12), some (ym_I ff), some (ym_I u)], []) :: K) (110, 0, [some (ym_P 12), some (ym_I q0), some (ym_I gg), none, none, none, none], []) (rv s p l g x c e z b ff F q A B C h o W S)) ∧ (¬ x = 0 → ym_Rt sc P K none (rv s p l g x c e z b ff F q A B C h o W S)) := by
    intro hs
    have ek : rKs E u ks = ks := by
      unfold rKs
      rw [hs]
      rfl
    refine ⟨⟨by omega, by omega⟩, fun hx0 => ⟨⟨hff, hff2⟩, ⟨hff, hff2⟩, hold hx0 A B C (fun _ _ => ⟨rfl, rfl, rfl⟩) (by rw [ek]; exact hP) (by rw [ek]; exact hall)⟩, fun hx0 => ?_⟩
    have hx1 : x = 1 := by omega
    have := kx hx1 A B C
    rw [← hx1] at this
    exact this
  refine ⟨fun h17 => ⟨⟨hu, hu2⟩, fun h2 => plain (by unfold rSet; rw [decide_eq_true h17, decide_eq_true h2]; rfl), fun h2 => ⟨⟨hff, hff2⟩, ⟨hu, hu2⟩, ?_⟩⟩, fun h17 => plain (by unfold rSet; rw [decide_eq_false h17]; rfl)⟩
  have hs : rSet E u = true := by unfold rSet; rw [decide_eq_true h17, decide_eq_false h2]; rfl
  have ek : rKs E u ks = zs_is (decide (E.1 13 u = 4)) ks := by
    unfold rKs
    rw [hs]
    rfl
  have eb : (if E.1 13 u = 4 then (1 : Int) else 0) = bti (decide (E.1 13 u = 4)) := by
    unfold bti
    by_cases w : E.1 13 u = 4 <;> simp [w]
  rw [eb]
  refine rc_112 (zm (zk H) (by omega)) _ hq0 (by omega) (by omega) hq hP hall (fun A2 B2 C2 w1 w2 => ym_rt_cons (sg_125_122 (zy H) _ _ ?_))
  simp only [rv_12_20, rv_12_21, rv_12_22, rv_12_23, rv_12_24, rv_12_25, rv_12_26, rv_12_28, rv_12_38, rv_12_42, rv_12_0, rv_12_1, rv_12_15, rv_12_16, rv_12_18, rv_28, rv_37, rv_38, rv_39, rv_40, rv_41, rv_29, rv_30, rv_31, rv_32, rv_33, rv_34, rv_35, rv_36, rv_42, rv_43, rv_44, rv_13, rv_14, rv_15, rv_16, rv_17, rv_18, rv_19, rv_20, rv_21, rv_22, rv_23, rv_24, rv_25, rv_26, rv_27, rv_r, rv_w12_20, rv_w12_21, rv_w12_22, rv_w12_23, rv_w12_24, rv_w12_25, rv_w12_26, rv_w12_28, rv_w12_38, rv_w12_42, rv_w28, rv_w37, rv_w38, rv_w39, rv_w40, rv_w41, rv_w29, rv_w30, rv_w31, rv_w32, rv_w33, rv_w34, rv_w35, rv_w36, rv_w42, rv_w43, rv_w44]
  rw [efm, F31, F34]
  refine ⟨⟨by omega, by omega⟩, fun hx0 => ⟨⟨hff, hff2⟩, ⟨hff, hff2⟩, hold hx0 A2 B2 C2 (fun j hj => w1 j (Or.inl hj)) (by rw [ek]; exact w2) (fun w hw => hall w (by rw [ek] at hw; exact zs_is_mem _ _ _ hw))⟩, fun hx0 => ?_⟩
  have hx1 : x = 1 := by omega
  have := kx hx1 A2 B2 C2
  rw [← hx1] at this
  exact this
theorem rc_125 (H : zh sc K 3) (hI : rIn s r N) (hE : zRE s E) {ff u gg q0 l0 ind : Int} (hff : 0 ≤ ff) (hff2 : ff < 20) (hu : 0 ≤ u) (hu2 : u < 16) (hf : f = ff + 1) (hx : x = 0 ∨ x = 1) (F30 : F 30 ff = u) (F31 : F 31 ff = gg) (F32 : F 32 ff = if ind = 0 then l else -1) (F33 : F 33 ff = l0) (F34 : F 34 ff = q0) (hi : ind = 0 ∨ ind = 1) (hgg : 0 ≤ gg) (hgg2 : gg < 8388608) {ks : List (Int × List Int)} (hq0 : 0 ≤ q0) (hq : q0 + ks.length = q) (hq2 : q ≤ 128) (hP : rPs A B C o h q0 ks) (hall : ∀ w ∈ ks, zs_all w.2) (htot : ((zs_fl ks).length : Int) ≤ 200) (hh0 : 0 ≤ h) (hh : h + 210 ≤ 9000) (hp : 0 ≤ p) (hp2 : p ≤ 200) (hl0 : 0 ≤ l) (hl : l ≤ N) (kx : (x = 1 ∨ zs_on r l ind p = true) → ∀ p2 (A2 B2 C2 : Int → Int), ym_Rt sc P K none (rv s p2 l0 g 1 c e z b ff F q A2 B2 C2 h o W S)) (kr : x = 0 → zs_on r l ind p = false → ∀ A2 B2 C2 : Int → Int, (∀ j, j < q0 → A2 j = A j ∧ B2 j = B j ∧ C2 j = C j) → ym_Rt sc P K none (rv s (zs_sk ind p) l0 g 0 c e z b ff F (q0+1) (zu A2 q0 h) (zu B2 q0 (zs_enc gg 1 (zs_fl (rKs E u ks))).length) (zu C2 q0 gg) (h+(zs_enc gg 1 (zs_fl (rKs E u ks))).length) (za o h (zs_enc gg 1 (zs_fl (rKs E u ks)))) W S)) : ym_Go sc P K (125, 0, [some (ym_P 12), none, none], []) (rv s p l g x c e z b f F q A B C h o W S) := by
  have hE2 := hE
  obtain ⟨h13, h14, h15, h16, h17, h20, h21, h22, h23, h24, h18, h19, h25⟩ := hE2
  have hN := hI.1
  have efm : f - 1 = ff := by omega
  have e2 : p + (if (if ind = 0 then l else -1) < 0 then (2 : Int) else 0) = zs_sk ind p := by
    unfold zs_sk
    rcases hi with y | y
    · rw [if_pos y, if_pos y, if_neg (by omega)]
      omega
    · have e5 : (if ind = 0 then l else (-1 : Int)) = -1 := if_neg (by omega)
      rw [e5, if_pos (show (-1 : Int) < 0 by decide), if_neg (show ¬ ind = 0 by omega)]
  have skb : -2147483648 ≤ zs_sk ind p ∧ zs_sk ind p < 2147483648 := by
    unfold zs_sk
    split <;> omega
  refine sg_125_0 (zy H) ?_
  simp only [rv_12_20, rv_12_21, rv_12_22, rv_12_23, rv_12_24, rv_12_25, rv_12_26, rv_12_28, rv_12_38, rv_12_42, rv_12_0, rv_12_1, rv_12_15, rv_12_16, rv_12_18, rv_28, rv_37, rv_38, rv_39, rv_40, rv_41, rv_29, rv_30, rv_31, rv_32, rv_33, rv_34, rv_35, rv_36, rv_42, rv_43, rv_44, rv_13, rv_14, rv_15, rv_16, rv_17, rv_18, rv_19, rv_20, rv_21, rv_22, rv_23, rv_24, rv_25, rv_26, rv_27, rv_r, rv_w12_20, rv_w12_21, rv_w12_22, rv_w12_23, rv_w12_24, rv_w12_25, rv_w12_26, rv_w12_28, rv_w12_38, rv_w12_42, rv_w28, rv_w37, rv_w38, rv_w39, rv_w40, rv_w41, rv_w29, rv_w30, rv_w31, rv_w32, rv_w33, rv_w34, rv_w35, rv_w36, rv_w42, rv_w43, rv_w44]
  rw [efm, F30, F32, F33, F34, h13, h15, e2]
  refine ⟨⟨hff, hff2⟩, fun hx0 => ⟨⟨hff, hff2⟩, ?_⟩, fun hx0 => ⟨⟨hff, hff2⟩, skb, ⟨hff, hff2⟩, ⟨hu, hu2⟩, ?_⟩⟩
  · refine rc_105 (zm (zk H) (by omega)) hI hp hp2 hl hl0 hi rfl (ym_rt_cons (sg_125_32 (zy H) _ _ _ ?_))
    simp only [rv_12_20, rv_12_21, rv_12_22, rv_12_23, rv_12_24, rv_12_25, rv_12_26, rv_12_28, rv_12_38, rv_12_42, rv_12_0, rv_12_1, rv_12_15, rv_12_16, rv_12_18, rv_28, rv_37, rv_38, rv_39, rv_40, rv_41, rv_29, rv_30, rv_31, rv_32, rv_33, rv_34, rv_35, rv_36, rv_42, rv_43, rv_44, rv_13, rv_14, rv_15, rv_16, rv_17, rv_18, rv_19, rv_20, rv_21, rv_22, rv_23, rv_24, rv_25, rv_26, rv_27, rv_r, rv_w12_20, rv_w12_21, rv_w12_22, rv_w12_23, rv_w12_24, rv_w12_25, rv_w12_26, rv_w12_28, rv_w12_38, rv_w12_42, rv_w28, rv_w37, rv_w38, rv_w39, rv_w40, rv_w41, rv_w29, rv_w30, rv_w31, rv_w32, rv_w33, rv_w34, rv_w35, rv_w36, rv_w42, rv_w43, rv_w44]
    rw [F32, F33, F34, F31, h13, h15, e2]
    have onb : (if zs_on r l ind p then (1 : Int) else 0) = 0 ∨ (if zs_on r l ind p then (1 : Int) else 0) = 1 := by split <;> simp
    have e3 : (if (if zs_on r l ind p then (1 : Int) else 0) = 0 then (0 : Int) else 1) = if zs_on r l ind p then 1 else 0 := by
      cases zs_on r l ind p <;> rfl
    rw [e3]
    refine ⟨⟨by omega, by omega⟩, ⟨hff, hff2⟩, skb, ⟨hff, hff2⟩, ⟨hu, hu2⟩, ?_⟩
    obtain ⟨x2, hx2⟩ : ∃ x2 : Int, x2 = (if zs_on r l ind p then 1 else 0) := ⟨_, rfl⟩
    rw [← hx2]
    exact rc_125t (l := l0) (x := x2) (p := zs_sk ind p) H hE hff hff2 hu hu2 hf (by omega) F31 F34 hgg hgg2 hq0 hq hq2 hP hall htot hh0 hh (fun y A2 B2 C2 => kx (Or.inr (by cases hon : zs_on r l ind p with | true => rfl | false => rw [hon] at hx2; rw [y] at hx2; exact absurd hx2 (by decide))) _ A2 B2 C2) (fun y A2 B2 C2 w => kr hx0 (by cases hon : zs_on r l ind p with | false => rfl | true => rw [hon] at hx2; rw [y] at hx2; exact absurd hx2 (by decide)) A2 B2 C2 w)
  · have hx1 : x = 1 := by omega
    obtain ⟨x2, hx2⟩ : ∃ x2 : Int, x2 = 1 := ⟨_, rfl⟩
    have := rc_125t (l := l0) (x := x2) (p := zs_sk ind p) H hE hff hff2 hu hu2 hf (Or.inr hx2) F31 F34 hgg hgg2 hq0 hq hq2 hP hall htot hh0 hh (fun y A2 B2 C2 => kx (Or.inl hx1) _ A2 B2 C2) (fun y A2 B2 C2 w => by exfalso; omega)
    rw [efm] at this
    obtain ⟨t1, t2⟩ := this
    refine ⟨fun y => ⟨⟨hu, hu2⟩, fun y2 => ⟨⟨by omega, by omega⟩, ?_⟩, fun y2 => ⟨⟨hff, hff2⟩, ⟨hu, hu2⟩, ?_⟩⟩, fun y => ⟨⟨by omega, by omega⟩, ?_⟩⟩
    · have := ((t1 y).2.1 y2).2.2 (by omega)
      rw [hx2] at this
      exact this
    · have := ((t1 y).2.2 y2).2.2
      rw [hx2] at this
      exact this
    · have := (t2 y).2.2 (by omega)
      rw [hx2] at this
      exact this
end
