/-! The reference's order and hold: own work. -/
theorem za_snoc (o : Int → Int) (h : Int) (L : List Int) (y : Int) : zu (za o h L) (h + L.length) y = za o h (L ++ [y]) := by
  rw [za_app]
  rfl
theorem rPs_get {A B C o : Int → Int} {h : Int} : ∀ {t : List (Int × List Int)} {k : Int}, rPs A B C o h k t → ∀ (j : Nat) (hj : j < t.length), rP A B C o h (k + j) t[j]
  | y :: t, k, H, 0, hj => by
    rw [show k + ((0 : Nat) : Int) = k by omega]
    exact H.1
  | y :: t, k, H, j + 1, hj => by
    have := rPs_get H.2 j (by simpa using hj)
    rw [show k + ((j + 1 : Nat) : Int) = k + 1 + (j : Int) by omega]
    exact this
theorem zs_ins_n (b : Bool) (x : Int × List Int) : ∀ t, (zs_ins b x t).length = t.length + 1
  | [] => rfl
  | y :: t => by
    unfold zs_ins
    split
    · rfl
    · rw [List.length_cons, zs_ins_n b x t, List.length_cons]
theorem zs_fold_n (b : Bool) : ∀ (l a : List (Int × List Int)), (l.foldl (fun a x => zs_ins b x a) a).length = a.length + l.length
  | [], a => rfl
  | x :: l, a => by
    rw [List.foldl_cons, zs_fold_n b l, zs_ins_n, List.length_cons]
    omega
theorem zs_is_n (b : Bool) (l : List (Int × List Int)) : (zs_is b l).length = l.length := by
  have := zs_fold_n b l []
  rw [List.length_nil, Nat.zero_add] at this
  exact this
section
variable {sc : xm_S} {P : xm_O → xm_H → Prop} {K : List ym_F} {s : ym_S} {p l g x c e z : Int} {b : Int → Int} {f : Int} {F : Nat → Int → Int} {q : Int} {A B C : Int → Int} {h : Int} {o W : Int → Int} {S : Nat → Int → Int}
def bti (b : Bool) : Int := if b then 1 else 0
/-- one is moved to its place -/
theorem rc_112i (H : zh sc K 1) (byTag : Bool) (X : Int × List Int) (aX : zs_all X.2) {base a3 : Int} (hb0 : 0 ≤ base) (hb3 : base < a3) (h3 : a3 < q) (hq2 : q ≤ 130) (hh : h ≤ 9000) : ∀ (S1 S2 : List (Int × List Int)) (A B C : Int → Int) (a4 : Int) (y : Option (Int × Int × Int)), a4 = base + S1.length → rPs A B C o h base (S1 ++ X :: S2) → a4 + S2.length < q → zs_so byTag S1 → (∀ w ∈ S1 ++ S2, zs_all w.2) → (∀ w ∈ S2.head?, zs_lt byTag X w = true) → (∀ (A2 B2 C2 : Int → Int) (a5 : Int) (y2 : Option (Int × Int × Int)), (∀ j, j < base ∨ base + (S1 ++ X :: S2).length ≤ j → A2 j = A j ∧ B2 j = B j ∧ C2 j = C j) → rPs A2 B2 C2 o h base (zs_ins byTag X (S1 ++ S2)) → ym_Go sc P K (112, 4, [some (ym_P 12), some (ym_I base), some (ym_I (bti byTag)), some (ym_I (a3 + 1)), some (ym_I a5), y2.map (fun v => ym_I v.1), y2.map (fun v => ym_I v.2.1), y2.map (fun v => ym_I v.2.2)], []) (rv s p l g x c e z b f F q A2 B2 C2 h o W S)) → ym_Go sc P K (112, 15, [some (ym_P 12), some (ym_I base), some (ym_I (bti byTag)), some (ym_I a3), some (ym_I a4), y.map (fun v => ym_I v.1), y.map (fun v => ym_I v.2.1), y.map (fun v => ym_I v.2.2)], []) (rv s p l g x c e z b f F q A B C h o W S) := by
  intro S1
  generalize hn : S1.length = n
  induction n generalizing S1 with
  | zero =>
    intro S2 A B C a4 y ha4 hP hqq hso hall hlt kr
    have e1 : S1 = [] := List.length_eq_zero_iff.mp hn
    subst e1
    have e2 : zs_ins byTag X ([] ++ S2) = [] ++ X :: S2 := zs_ins_at byTag X [] S2 (fun w hw => by cases hw) hlt
    have fin := kr A B C a4 y (fun _ _ => ⟨rfl, rfl, rfl⟩) (by rw [e2]; exact hP)
    have hin : ym_in a4 := ⟨by omega, by omega⟩
    cases y
    · exact sg_112_15 (zy H) _ _ _ _ ⟨hin, ⟨by omega, by omega⟩, fun w => by exfalso; omega, fun _ => fin⟩
    · exact sg_112_15b (zy H) _ _ _ _ _ _ _ ⟨hin, ⟨by omega, by omega⟩, fun w => by exfalso; omega, fun _ => fin⟩
  | succ n ih =>
    intro S2 A B C a4 y ha4 hP hqq hso hall hlt kr
    have hne : S1 ≠ [] := fun w => by rw [w] at hn; cases hn
    obtain ⟨T, Y, hT⟩ : ∃ T Y, S1 = T ++ [Y] := ⟨S1.dropLast, S1.getLast hne, (List.dropLast_concat_getLast hne).symm⟩
    subst hT
    have hTl : T.length = n := by
      rw [List.length_append] at hn
      simp at hn
      exact hn
    have hP1 := rPs_split (t := T ++ [Y]) hP
    have hP2 := rPs_split (t := T) hP1.1
    rw [hTl] at hP2
    rw [hn] at hP1
    have hPY : rP A B C o h (base + n) Y := hP2.2.1
    have hPX : rP A B C o h (base + ((n + 1 : Nat) : Int)) X := hP1.2.1
    have hPS := hP1.2.2
    have e4 : a4 = base + ((n + 1 : Nat) : Int) := ha4
    have e41 : a4 - 1 = base + (n : Int) := by omega
    have aY : zs_all Y.2 := hall Y (by simp)
    have hin : ym_in a4 := ⟨by omega, by omega⟩
    have call : ∀ y : Option (Int × Int × Int), ym_Go sc P ((112, 29, [some (ym_P 12), some (ym_I base), some (ym_I (bti byTag)), some (ym_I a3), some (ym_I a4), y.map (fun v => ym_I v.1), y.map (fun v => ym_I v.2.1), y.map (fun v => ym_I v.2.2)], []) :: K) (111, 0, [some (ym_P 12), some (ym_I (a4 - 1)), some (ym_I a4), some (ym_I (bti byTag)), none, none, none, none], []) (rv s p l g x c e z b f F q A B C h o W S) := by
      intro y
      refine rc_111 (X := Y) (Y := X) (zk H) byTag (by omega) (by omega) (by omega) (by omega) (by rw [e41]; exact hPY) (by rw [e4]; exact hPX) hh aY aX (ym_rt_cons ?_)
      have body : ym_in (if zs_lt byTag X Y then 1 else 0) ∧ ((if zs_lt byTag X Y then (1 : Int) else 0) = 0 → ym_Go sc P K (112, 4, [some (ym_P 12), some (ym_I base), some (ym_I (bti byTag)), some (ym_I (a3 + 1)), some (ym_I a4), y.map (fun v => ym_I v.1), y.map (fun v => ym_I v.2.1), y.map (fun v => ym_I v.2.2)], []) (rv s p l g x c e z b f F q A B C h o W S)) ∧ (¬ (if zs_lt byTag X Y then (1 : Int) else 0) = 0 → ((0 : Int) ≤ a4 ∧ a4 < 130) ∧ ((0 : Int) ≤ a4 ∧ a4 < 130) ∧ ((0 : Int) ≤ a4 ∧ a4 < 130) ∧ ((0 : Int) ≤ (a4 - 1) ∧ (a4 - 1) < 130) ∧ ((0 : Int) ≤ a4 ∧ a4 < 130) ∧ ((0 : Int) ≤ (a4 - 1) ∧ (a4 - 1) < 130) ∧ ((0 : Int) ≤ a4 ∧ a4 < 130) ∧ ((0 : Int) ≤ (a4 - 1) ∧ (a4 - 1) < 130) ∧ ((0 : Int) ≤ a4 ∧ a4 < 130) ∧ ((0 : Int) ≤ (a4 - 1) ∧ (a4 - 1) < 130) ∧ ((0 : Int) ≤ (a4 - 1) ∧ (a4 - 1) < 130) ∧ ((0 : Int) ≤ (a4 - 1) ∧ (a4 - 1) < 130) ∧ ym_Go sc P K (112, 15, [some (ym_P 12), some (ym_I base), some (ym_I (bti byTag)), some (ym_I a3), some (ym_I (a4 + (-1))), some (ym_I (A a4)), some (ym_I (B a4)), some (ym_I (C a4))], []) (rv s p l g x c e z b f F q (zu (zu A a4 (A (a4 - 1))) (a4 - 1) (A a4)) (zu (zu B a4 (B (a4 - 1))) (a4 - 1) (B a4)) (zu (zu C a4 (C (a4 - 1))) (a4 - 1) (C a4)) h o W S)) := by
        cases hl : zs_lt byTag X Y with
        | false =>
          refine ⟨by decide, fun _ => ?_, fun w => absurd rfl w⟩
          have e2 : zs_ins byTag X ((T ++ [Y]) ++ S2) = (T ++ [Y]) ++ X :: S2 := zs_ins_at byTag X (T ++ [Y]) S2 (zs_so_last byTag X Y T hso hl) hlt
          exact kr A B C a4 y (fun _ _ => ⟨rfl, rfl, rfl⟩) (by rw [e2]; exact hP)
        | true =>
          have r4 : (0 : Int) ≤ a4 ∧ a4 < 130 := ⟨by omega, by omega⟩
          have r5 : (0 : Int) ≤ a4 - 1 ∧ a4 - 1 < 130 := ⟨by omega, by omega⟩
          refine ⟨by decide, fun w => absurd w (by decide), fun _ => ⟨r4, r4, r4, r5, r4, r5, r4, r5, r4, r5, r5, r5, ?_⟩⟩
          have sw : ∀ (D : Int → Int) (j : Int), zu (zu D a4 (D (a4 - 1))) (a4 - 1) (D a4) j = if j = a4 - 1 then D a4 else (if j = a4 then D (a4 - 1) else D j) := fun D j => rfl
          have s1 : ∀ D : Int → Int, zu (zu D a4 (D (a4 - 1))) (a4 - 1) (D a4) (a4 - 1) = D a4 := fun D => by rw [sw, if_pos rfl]
          have s2 : ∀ D : Int → Int, zu (zu D a4 (D (a4 - 1))) (a4 - 1) (D a4) a4 = D (a4 - 1) := fun D => by rw [sw, if_neg (by omega), if_pos rfl]
          have s3 : ∀ (D : Int → Int) (j : Int), j ≠ a4 → j ≠ a4 - 1 → zu (zu D a4 (D (a4 - 1))) (a4 - 1) (D a4) j = D j := fun D j w1 w2 => by rw [sw, if_neg w2, if_neg w1]
          refine ih T hTl (Y :: S2) _ _ _ (a4 + (-1)) (some (A a4, B a4, C a4)) (by omega) ?_ (by rw [List.length_cons]; omega) (zs_so_pre byTag T [Y] hso) (fun w hw => hall w (by simp at hw ⊢; exact hw)) (fun w hw => ?_) (fun A2 B2 C2 a5 y2 w1 w2 => kr A2 B2 C2 a5 y2 (fun j hj => ?_) ?_)
          · refine rPs_app ?_ ?_
            · refine rPs_of hP2.1 (fun j j0 j1 => ?_) (fun j _ _ => rfl) (Int.le_refl _)
              exact ⟨s3 A j (by omega) (by omega), s3 B j (by omega) (by omega), s3 C j (by omega) (by omega)⟩
            · rw [hTl]
              refine ⟨?_, ?_, ?_⟩
              · obtain ⟨v1, v2, v3, v4, v5⟩ := hPX
                rw [← e4] at v1 v2 v3 v4 v5
                rw [← e41]
                exact ⟨by rw [s1]; exact v1, by rw [s1]; exact v2, by rw [s1]; exact v3, by rw [s1]; exact v4, by rw [s1, s1]; exact v5⟩
              · obtain ⟨v1, v2, v3, v4, v5⟩ := hPY
                rw [← e41] at v1 v2 v3 v4 v5
                rw [show base + (n : Int) + 1 = a4 by omega]
                exact ⟨by rw [s2]; exact v1, by rw [s2]; exact v2, by rw [s2]; exact v3, by rw [s2]; exact v4, by rw [s2, s2]; exact v5⟩
              · rw [show base + (n : Int) + 1 + 1 = base + ((n + 1 : Nat) : Int) + 1 by omega]
                refine rPs_of hPS (fun j j0 j1 => ?_) (fun j _ _ => rfl) (Int.le_refl _)
                exact ⟨s3 A j (by omega) (by omega), s3 B j (by omega) (by omega), s3 C j (by omega) (by omega)⟩
          · have : w = Y := by simpa using hw.symm
            rw [this]
            exact hl
          · have hlen : (T ++ X :: Y :: S2).length = ((T ++ [Y]) ++ X :: S2).length := by simp
            obtain ⟨v1, v2, v3⟩ := w1 j (by rw [hlen]; exact hj)
            have hja : j ≠ a4 ∧ j ≠ a4 - 1 := by
              simp at hj
              omega
            exact ⟨by rw [v1, s3 A j hja.1 hja.2], by rw [v2, s3 B j hja.1 hja.2], by rw [v3, s3 C j hja.1 hja.2]⟩
          · rw [List.append_assoc]
            exact w2
      cases y
      · refine sg_112_32 (zy H) _ _ _ _ _ ?_
        simp only [rv_12_20, rv_12_21, rv_12_22, rv_12_23, rv_12_24, rv_12_25, rv_12_26, rv_12_28, rv_12_38, rv_12_42, rv_12_0, rv_12_1, rv_12_15, rv_12_16, rv_12_18, rv_28, rv_37, rv_38, rv_39, rv_40, rv_41, rv_29, rv_30, rv_31, rv_32, rv_33, rv_34, rv_35, rv_36, rv_42, rv_43, rv_44, rv_13, rv_14, rv_15, rv_16, rv_17, rv_18, rv_19, rv_20, rv_21, rv_22, rv_23, rv_24, rv_25, rv_26, rv_27, rv_r, rv_w12_20, rv_w12_21, rv_w12_22, rv_w12_23, rv_w12_24, rv_w12_25, rv_w12_26, rv_w12_28, rv_w12_38, rv_w12_42, rv_w28, rv_w37, rv_w38, rv_w39, rv_w40, rv_w41, rv_w29, rv_w30, rv_w31, rv_w32, rv_w33, rv_w34, rv_w35, rv_w36, rv_w42, rv_w43, rv_w44]
        exact body
      · refine sg_112_32b (zy H) _ _ _ _ _ _ _ _ ?_
        simp only [rv_12_20, rv_12_21, rv_12_22, rv_12_23, rv_12_24, rv_12_25, rv_12_26, rv_12_28, rv_12_38, rv_12_42, rv_12_0, rv_12_1, rv_12_15, rv_12_16, rv_12_18, rv_28, rv_37, rv_38, rv_39, rv_40, rv_41, rv_29, rv_30, rv_31, rv_32, rv_33, rv_34, rv_35, rv_36, rv_42, rv_43, rv_44, rv_13, rv_14, rv_15, rv_16, rv_17, rv_18, rv_19, rv_20, rv_21, rv_22, rv_23, rv_24, rv_25, rv_26, rv_27, rv_r, rv_w12_20, rv_w12_21, rv_w12_22, rv_w12_23, rv_w12_24, rv_w12_25, rv_w12_26, rv_w12_28, rv_w12_38, rv_w12_42, rv_w28, rv_w37, rv_w38, rv_w39, rv_w40, rv_w41, rv_w29, rv_w30, rv_w31, rv_w32, rv_w33, rv_w34, rv_w35, rv_w36, rv_w42, rv_w43, rv_w44]
        exact body
    cases y
    · exact sg_112_15 (zy H) _ _ _ _ ⟨hin, ⟨by omega, by omega⟩, fun _ => call none, fun w => by exfalso; omega⟩
    · rename_i v
      exact sg_112_15b (zy H) _ _ _ _ _ _ _ ⟨hin, ⟨by omega, by omega⟩, fun _ => call (some v), fun w => by exfalso; omega⟩
theorem rc_112l (H : zh sc K 1) (byTag : Bool) {base : Int} (hb0 : 0 ≤ base) (hq2 : q ≤ 130) (hh : h ≤ 9000) : ∀ (R D : List (Int × List Int)) (A B C : Int → Int) (a3 : Int) (a4 : Option Int) (y : Option (Int × Int × Int)), (a4 = none → y = none) → a3 = base + D.length → a3 + R.length = q → D ≠ [] → rPs A B C o h base (zs_is byTag D ++ R) → (∀ w ∈ D ++ R, zs_all w.2) → (∀ (A2 B2 C2 : Int → Int), (∀ j, j < base ∨ q ≤ j → A2 j = A j ∧ B2 j = B j ∧ C2 j = C j) → rPs A2 B2 C2 o h base (zs_is byTag (D ++ R)) → ym_Rt sc P K none (rv s p l g x c e z b f F q A2 B2 C2 h o W S)) → ym_Go sc P K (112, 4, [some (ym_P 12), some (ym_I base), some (ym_I (bti byTag)), some (ym_I a3), a4.map ym_I, y.map (fun v => ym_I v.1), y.map (fun v => ym_I v.2.1), y.map (fun v => ym_I v.2.2)], []) (rv s p l g x c e z b f F q A B C h o W S)
  | [], D, A, B, C, a3, a4, y, hy, h3, hq, hD, hP, hall, kr => by
    simp at hq
    have fin := kr A B C (fun _ _ => ⟨rfl, rfl, rfl⟩) (by rw [List.append_nil] at hP ⊢; exact hP)
    have hin : ym_in a3 := ⟨by omega, by omega⟩
    cases a4 with
    | none =>
      rw [hy rfl]
      refine sg_112_4 (zy H) _ _ _ ?_
      simp only [rv_12_20, rv_12_21, rv_12_22, rv_12_23, rv_12_24, rv_12_25, rv_12_26, rv_12_28, rv_12_38, rv_12_42, rv_12_0, rv_12_1, rv_12_15, rv_12_16, rv_12_18, rv_28, rv_37, rv_38, rv_39, rv_40, rv_41, rv_29, rv_30, rv_31, rv_32, rv_33, rv_34, rv_35, rv_36, rv_42, rv_43, rv_44, rv_13, rv_14, rv_15, rv_16, rv_17, rv_18, rv_19, rv_20, rv_21, rv_22, rv_23, rv_24, rv_25, rv_26, rv_27, rv_r, rv_w12_20, rv_w12_21, rv_w12_22, rv_w12_23, rv_w12_24, rv_w12_25, rv_w12_26, rv_w12_28, rv_w12_38, rv_w12_42, rv_w28, rv_w37, rv_w38, rv_w39, rv_w40, rv_w41, rv_w29, rv_w30, rv_w31, rv_w32, rv_w33, rv_w34, rv_w35, rv_w36, rv_w42, rv_w43, rv_w44]
      exact ⟨hin, fun w => by exfalso; omega, fun _ => fin⟩
    | some a4 =>
      cases y
      · refine sg_112_4b (zy H) _ _ _ _ ?_
        simp only [rv_12_20, rv_12_21, rv_12_22, rv_12_23, rv_12_24, rv_12_25, rv_12_26, rv_12_28, rv_12_38, rv_12_42, rv_12_0, rv_12_1, rv_12_15, rv_12_16, rv_12_18, rv_28, rv_37, rv_38, rv_39, rv_40, rv_41, rv_29, rv_30, rv_31, rv_32, rv_33, rv_34, rv_35, rv_36, rv_42, rv_43, rv_44, rv_13, rv_14, rv_15, rv_16, rv_17, rv_18, rv_19, rv_20, rv_21, rv_22, rv_23, rv_24, rv_25, rv_26, rv_27, rv_r, rv_w12_20, rv_w12_21, rv_w12_22, rv_w12_23, rv_w12_24, rv_w12_25, rv_w12_26, rv_w12_28, rv_w12_38, rv_w12_42, rv_w28, rv_w37, rv_w38, rv_w39, rv_w40, rv_w41, rv_w29, rv_w30, rv_w31, rv_w32, rv_w33, rv_w34, rv_w35, rv_w36, rv_w42, rv_w43, rv_w44]
        exact ⟨hin, fun w => by exfalso; omega, fun _ => fin⟩
      · refine sg_112_4c (zy H) _ _ _ _ _ _ _ ?_
        simp only [rv_12_20, rv_12_21, rv_12_22, rv_12_23, rv_12_24, rv_12_25, rv_12_26, rv_12_28, rv_12_38, rv_12_42, rv_12_0, rv_12_1, rv_12_15, rv_12_16, rv_12_18, rv_28, rv_37, rv_38, rv_39, rv_40, rv_41, rv_29, rv_30, rv_31, rv_32, rv_33, rv_34, rv_35, rv_36, rv_42, rv_43, rv_44, rv_13, rv_14, rv_15, rv_16, rv_17, rv_18, rv_19, rv_20, rv_21, rv_22, rv_23, rv_24, rv_25, rv_26, rv_27, rv_r, rv_w12_20, rv_w12_21, rv_w12_22, rv_w12_23, rv_w12_24, rv_w12_25, rv_w12_26, rv_w12_28, rv_w12_38, rv_w12_42, rv_w28, rv_w37, rv_w38, rv_w39, rv_w40, rv_w41, rv_w29, rv_w30, rv_w31, rv_w32, rv_w33, rv_w34, rv_w35, rv_w36, rv_w42, rv_w43, rv_w44]
        exact ⟨hin, fun w => by exfalso; omega, fun _ => fin⟩
  | X :: R, D, A, B, C, a3, a4, y, hy, h3, hq, hD, hP, hall, kr => by
    rw [List.length_cons] at hq
    have hDl : 0 < D.length := List.length_pos_iff.mpr hD
    have hsl : (zs_is byTag D).length = D.length := zs_is_n byTag D
    have hin : ym_in a3 := ⟨by omega, by omega⟩
    have aX : zs_all X.2 := hall X (by simp)
    have hP1 := rPs_split (t := zs_is byTag D ++ [X]) (t2 := R) (by rw [List.append_assoc]; exact hP)
    have step : ∀ y : Option (Int × Int × Int), ym_Go sc P K (112, 15, [some (ym_P 12), some (ym_I base), some (ym_I (bti byTag)), some (ym_I a3), some (ym_I a3), y.map (fun v => ym_I v.1), y.map (fun v => ym_I v.2.1), y.map (fun v => ym_I v.2.2)], []) (rv s p l g x c e z b f F q A B C h o W S) := by
      intro y
      refine rc_112i H byTag X aX hb0 (by omega) (by omega) hq2 hh (zs_is byTag D) [] A B C a3 y (by omega) hP1.1 (by simp; omega) (zs_is_so byTag D) (fun w hw => ?_) (fun w hw => by cases hw) (fun A2 B2 C2 a5 y2 w1 w2 => ?_)
      · rw [List.append_nil] at hw
        exact hall w (List.mem_append.mpr (Or.inl (zs_is_mem byTag D w hw)))
      · rw [List.append_nil, ← zs_is_snoc] at w2
        have hl2 : ((zs_is byTag D ++ [X]).length : Int) = D.length + 1 := by
          rw [List.length_append, hsl]
          simp
        refine rc_112l H byTag hb0 hq2 hh R (D ++ [X]) A2 B2 C2 (a3 + 1) (some a5) y2 (fun w => by cases w) (by rw [List.length_append]; simp; omega) (by omega) (by simp) ?_ (fun w hw => hall w (by simp at hw ⊢; exact hw)) (fun A3 B3 C3 w3 w4 => kr A3 B3 C3 (fun j hj => ?_) ?_)
        · refine rPs_app w2 ?_
          have hl3 : ((zs_is byTag (D ++ [X])).length : Int) = D.length + 1 := by
            rw [zs_is_n]
            simp
          rw [hl3]
          have := hP1.2
          rw [hl2] at this
          refine rPs_of this (fun j j0 j1 => w1 j (Or.inr (by rw [hl2]; omega))) (fun _ _ _ => rfl) (Int.le_refl _)
        · obtain ⟨v1, v2, v3⟩ := w3 j hj
          obtain ⟨u1, u2, u3⟩ := w1 j (hj.elim Or.inl (fun v => Or.inr (by rw [hl2]; omega)))
          exact ⟨v1.trans u1, v2.trans u2, v3.trans u3⟩
        · rw [List.append_assoc] at w4
          exact w4
    cases a4 with
    | none =>
      rw [hy rfl]
      refine sg_112_4 (zy H) _ _ _ ?_
      simp only [rv_12_20, rv_12_21, rv_12_22, rv_12_23, rv_12_24, rv_12_25, rv_12_26, rv_12_28, rv_12_38, rv_12_42, rv_12_0, rv_12_1, rv_12_15, rv_12_16, rv_12_18, rv_28, rv_37, rv_38, rv_39, rv_40, rv_41, rv_29, rv_30, rv_31, rv_32, rv_33, rv_34, rv_35, rv_36, rv_42, rv_43, rv_44, rv_13, rv_14, rv_15, rv_16, rv_17, rv_18, rv_19, rv_20, rv_21, rv_22, rv_23, rv_24, rv_25, rv_26, rv_27, rv_r, rv_w12_20, rv_w12_21, rv_w12_22, rv_w12_23, rv_w12_24, rv_w12_25, rv_w12_26, rv_w12_28, rv_w12_38, rv_w12_42, rv_w28, rv_w37, rv_w38, rv_w39, rv_w40, rv_w41, rv_w29, rv_w30, rv_w31, rv_w32, rv_w33, rv_w34, rv_w35, rv_w36, rv_w42, rv_w43, rv_w44]
      exact ⟨hin, fun _ => step none, fun w => by exfalso; omega⟩
    | some a4 =>
      cases y
      · refine sg_112_4b (zy H) _ _ _ _ ?_
        simp only [rv_12_20, rv_12_21, rv_12_22, rv_12_23, rv_12_24, rv_12_25, rv_12_26, rv_12_28, rv_12_38, rv_12_42, rv_12_0, rv_12_1, rv_12_15, rv_12_16, rv_12_18, rv_28, rv_37, rv_38, rv_39, rv_40, rv_41, rv_29, rv_30, rv_31, rv_32, rv_33, rv_34, rv_35, rv_36, rv_42, rv_43, rv_44, rv_13, rv_14, rv_15, rv_16, rv_17, rv_18, rv_19, rv_20, rv_21, rv_22, rv_23, rv_24, rv_25, rv_26, rv_27, rv_r, rv_w12_20, rv_w12_21, rv_w12_22, rv_w12_23, rv_w12_24, rv_w12_25, rv_w12_26, rv_w12_28, rv_w12_38, rv_w12_42, rv_w28, rv_w37, rv_w38, rv_w39, rv_w40, rv_w41, rv_w29, rv_w30, rv_w31, rv_w32, rv_w33, rv_w34, rv_w35, rv_w36, rv_w42, rv_w43, rv_w44]
        exact ⟨hin, fun _ => step none, fun w => by exfalso; omega⟩
      · rename_i v
        refine sg_112_4c (zy H) _ _ _ _ _ _ _ ?_
        simp only [rv_12_20, rv_12_21, rv_12_22, rv_12_23, rv_12_24, rv_12_25, rv_12_26, rv_12_28, rv_12_38, rv_12_42, rv_12_0, rv_12_1, rv_12_15, rv_12_16, rv_12_18, rv_28, rv_37, rv_38, rv_39, rv_40, rv_41, rv_29, rv_30, rv_31, rv_32, rv_33, rv_34, rv_35, rv_36, rv_42, rv_43, rv_44, rv_13, rv_14, rv_15, rv_16, rv_17, rv_18, rv_19, rv_20, rv_21, rv_22, rv_23, rv_24, rv_25, rv_26, rv_27, rv_r, rv_w12_20, rv_w12_21, rv_w12_22, rv_w12_23, rv_w12_24, rv_w12_25, rv_w12_26, rv_w12_28, rv_w12_38, rv_w12_42, rv_w28, rv_w37, rv_w38, rv_w39, rv_w40, rv_w41, rv_w29, rv_w30, rv_w31, rv_w32, rv_w33, rv_w34, rv_w35, rv_w36, rv_w42, rv_w43, rv_w44]
        exact ⟨hin, fun _ => step (some v), fun w => by exfalso; omega⟩
theorem rc_112 (H : zh sc K 1) (byTag : Bool) {base : Int} (hb0 : 0 ≤ base) (hq2 : q ≤ 130) (hh : h ≤ 9000) {ks : List (Int × List Int)} (hq : base + ks.length = q) (hP : rPs A B C o h base ks) (hall : ∀ w ∈ ks, zs_all w.2) (kr : ∀ (A2 B2 C2 : Int → Int), (∀ j, j < base ∨ q ≤ j → A2 j = A j ∧ B2 j = B j ∧ C2 j = C j) → rPs A2 B2 C2 o h base (zs_is byTag ks) → ym_Rt sc P K none (rv s p l g x c e z b f F q A2 B2 C2 h o W S)) : ym_Go sc P K (112, 0, [some (ym_P 12), some (ym_I base), some (ym_I (bti byTag)), none, none, none, none, none], []) (rv s p l g x c e z b f F q A B C h o W S) := by
  refine sg_112_0 (zy H) _ _ ?_
  cases ks with
  | nil =>
    simp at hq
    refine sg_112_4 (zy H) _ _ _ ?_
    simp only [rv_12_20, rv_12_21, rv_12_22, rv_12_23, rv_12_24, rv_12_25, rv_12_26, rv_12_28, rv_12_38, rv_12_42, rv_12_0, rv_12_1, rv_12_15, rv_12_16, rv_12_18, rv_28, rv_37, rv_38, rv_39, rv_40, rv_41, rv_29, rv_30, rv_31, rv_32, rv_33, rv_34, rv_35, rv_36, rv_42, rv_43, rv_44, rv_13, rv_14, rv_15, rv_16, rv_17, rv_18, rv_19, rv_20, rv_21, rv_22, rv_23, rv_24, rv_25, rv_26, rv_27, rv_r, rv_w12_20, rv_w12_21, rv_w12_22, rv_w12_23, rv_w12_24, rv_w12_25, rv_w12_26, rv_w12_28, rv_w12_38, rv_w12_42, rv_w28, rv_w37, rv_w38, rv_w39, rv_w40, rv_w41, rv_w29, rv_w30, rv_w31, rv_w32, rv_w33, rv_w34, rv_w35, rv_w36, rv_w42, rv_w43, rv_w44]
    exact ⟨⟨by omega, by omega⟩, fun w => by exfalso; omega, fun _ => kr A B C (fun _ _ => ⟨rfl, rfl, rfl⟩) trivial⟩
  | cons Y R =>
    rw [List.length_cons] at hq
    exact rc_112l H byTag hb0 hq2 hh R [Y] A B C (base + 1) none none (fun _ => rfl) rfl (by omega) (by simp) hP hall kr
/-- the parts are copied behind a header -/
theorem rc_110 (H : zh sc K 2) {base t : Int} {ks : List (Int × List Int)} (hb0 : 0 ≤ base) (hq : base + ks.length = q) (hq2 : q ≤ 130) (hb1 : base < 130) (hP : rPs A B C o h base ks) (hall : ∀ w ∈ ks, zs_all w.2) (ht : 0 ≤ t) (ht2 : t < 8388608) (htot : ((zs_fl ks).length : Int) ≤ 200) (h0 : 0 ≤ h) (h1 : h + 210 ≤ 9000) (kr : ym_Rt sc P K none (rv s p l g x c e z b f F (base+1) (zu A base h) (zu B base (zs_enc t 1 (zs_fl ks)).length) (zu C base t) (h+(zs_enc t 1 (zs_fl ks)).length) (za o h (zs_enc t 1 (zs_fl ks))) W S)) : ym_Go sc P K (110, 0, [some (ym_P 12), some (ym_I base), some (ym_I t), none, none, none, none], []) (rv s p l g x c e z b f F q A B C h o W S) := by
  have hhd : ((zs_hd t 1 ((zs_fl ks).length : Int)).length : Int) ≤ 6 := zs_hd_6 _ _ _
  have hel : ((zs_enc t 1 (zs_fl ks)).length : Int) = (zs_hd t 1 ((zs_fl ks).length : Int)).length + (zs_fl ks).length := by
    unfold zs_enc
    rw [List.length_append]
    omega
  refine sg_110_0 (zy H) _ _ ?_
  -- copying one part
  have cpy1 : ∀ (m : Nat) (tl : List Int) (L : List Int) (k j : Int) (rest : Prop), tl.length = m → 0 ≤ k → k < 130 → 0 ≤ j → j + tl.length = B k → 0 ≤ A k → A k + B k ≤ h → zr o (A k + j) tl → zs_all tl → h + L.length + tl.length ≤ 9000 → (∀ a6, ym_Go sc P K (110, 46, [some (ym_P 12), some (ym_I base), some (ym_I t), some (ym_I (zs_fl ks).length), some (ym_I h), some (ym_I (k + 1)), some (ym_I a6)], []) (rv s p l g x c e z b f F q A B C (h+(L ++ tl).length) (za o h (L ++ tl)) W S)) → ym_Go sc P K (110, 58, [some (ym_P 12), some (ym_I base), some (ym_I t), some (ym_I (zs_fl ks).length), some (ym_I h), some (ym_I k), some (ym_I j)], []) (rv s p l g x c e z b f F q A B C (h+L.length) (za o h L) W S) := by
    intro m
    induction m with
    | zero =>
      intro tl L k j rest hm hk hk2 hj hjB hA hAB hzr hal hroom kr2
      have e1 : tl = [] := List.length_eq_zero_iff.mp hm
      subst e1
      simp at hjB
      refine sg_110_58 (zy H) _ _ _ _ _ _ ?_
      simp only [rv_12_20, rv_12_21, rv_12_22, rv_12_23, rv_12_24, rv_12_25, rv_12_26, rv_12_28, rv_12_38, rv_12_42, rv_12_0, rv_12_1, rv_12_15, rv_12_16, rv_12_18, rv_28, rv_37, rv_38, rv_39, rv_40, rv_41, rv_29, rv_30, rv_31, rv_32, rv_33, rv_34, rv_35, rv_36, rv_42, rv_43, rv_44, rv_13, rv_14, rv_15, rv_16, rv_17, rv_18, rv_19, rv_20, rv_21, rv_22, rv_23, rv_24, rv_25, rv_26, rv_27, rv_r, rv_w12_20, rv_w12_21, rv_w12_22, rv_w12_23, rv_w12_24, rv_w12_25, rv_w12_26, rv_w12_28, rv_w12_38, rv_w12_42, rv_w28, rv_w37, rv_w38, rv_w39, rv_w40, rv_w41, rv_w29, rv_w30, rv_w31, rv_w32, rv_w33, rv_w34, rv_w35, rv_w36, rv_w42, rv_w43, rv_w44]
      have := kr2 j
      rw [List.append_nil] at this
      exact ⟨⟨hk, hk2⟩, ⟨by omega, by omega⟩, fun w => by exfalso; omega, fun _ => this⟩
    | succ m ih =>
      intro tl L k j rest hm hk hk2 hj hjB hA hAB hzr hal hroom kr2
      cases tl with
      | nil => cases hm
      | cons y tl =>
        rw [List.length_cons] at hm hjB hroom
        obtain ⟨v0, v1⟩ := hal y (List.mem_cons_self ..)
        refine sg_110_58 (zy H) _ _ _ _ _ _ ?_
        simp only [rv_12_20, rv_12_21, rv_12_22, rv_12_23, rv_12_24, rv_12_25, rv_12_26, rv_12_28, rv_12_38, rv_12_42, rv_12_0, rv_12_1, rv_12_15, rv_12_16, rv_12_18, rv_28, rv_37, rv_38, rv_39, rv_40, rv_41, rv_29, rv_30, rv_31, rv_32, rv_33, rv_34, rv_35, rv_36, rv_42, rv_43, rv_44, rv_13, rv_14, rv_15, rv_16, rv_17, rv_18, rv_19, rv_20, rv_21, rv_22, rv_23, rv_24, rv_25, rv_26, rv_27, rv_r, rv_w12_20, rv_w12_21, rv_w12_22, rv_w12_23, rv_w12_24, rv_w12_25, rv_w12_26, rv_w12_28, rv_w12_38, rv_w12_42, rv_w28, rv_w37, rv_w38, rv_w39, rv_w40, rv_w41, rv_w29, rv_w30, rv_w31, rv_w32, rv_w33, rv_w34, rv_w35, rv_w36, rv_w42, rv_w43, rv_w44]
        rw [za_lt _ _ _ _ (show A k + j < h by omega), hzr.1]
        refine ⟨⟨hk, hk2⟩, ⟨by omega, by omega⟩, fun _ => ⟨⟨hk, hk2⟩, ⟨by omega, by omega⟩, ?_⟩, fun w => by exfalso; omega⟩
        refine rc_106 (zm (zk H) (by omega)) (by omega) (by omega) v0 v1 (ym_rt_cons (sg_110_89 (zy H) _ _ _ _ _ _ ?_))
        rw [za_snoc, show h + (L.length : Int) + 1 = h + ((L ++ [y]).length : Int) by rw [List.length_append]; simp; omega]
        refine ih tl (L ++ [y]) k (j + 1) rest (by omega) hk hk2 (by omega) (by omega) hA hAB ?_ (fun w hw => hal w (List.mem_cons_of_mem _ hw)) (by rw [List.length_append]; simp; omega) (fun a6 => ?_)
        · rw [show A k + (j + 1) = A k + j + 1 by omega]
          exact hzr.2
        · rw [List.append_assoc]
          exact kr2 a6
  -- copying them all
  have cpy : ∀ (R : List (Int × List Int)) (L : List Int) (k : Int) (a6 : Option Int), k + R.length = q → base ≤ k → rPs A B C o h k R → (∀ w ∈ R, zs_all w.2) → (zs_hd t 1 ((zs_fl ks).length : Int)) ++ zs_fl ks = L ++ zs_fl R → ym_Go sc P K (110, 46, [some (ym_P 12), some (ym_I base), some (ym_I t), some (ym_I (zs_fl ks).length), some (ym_I h), some (ym_I k), a6.map ym_I], []) (rv s p l g x c e z b f F q A B C (h+L.length) (za o h L) W S) := by
    intro R
    induction R with
    | nil =>
      intro L k a6 hk hbk hPR hal hL
      simp at hk
      have hL2 : L = zs_enc t 1 (zs_fl ks) := by
        have : zs_fl [] = [] := rfl
        rw [this, List.append_nil] at hL
        exact hL.symm
      subst hL2
      have fin : ∀ a6 : Option Int, ym_in base ∧ ym_Go sc P ((110, 110, [some (ym_P 12), some (ym_I base), some (ym_I t), some (ym_I (zs_fl ks).length), some (ym_I h), some (ym_I k), a6.map ym_I], []) :: K) (108, 0, [some (ym_P 12), some (ym_I h), some (ym_I t)], []) (rv s p l g x c e z b f F base A B C (h+(zs_enc t 1 (zs_fl ks)).length) (za o h (zs_enc t 1 (zs_fl ks))) W S) := by
        intro a6
        refine ⟨⟨by omega, by omega⟩, rc_108 (zm (zk H) (by omega)) hb0 hb1 h0 (by omega) (by omega) ⟨by omega, by omega⟩ (ym_rt_cons ?_)⟩
        rw [show h + ((zs_enc t 1 (zs_fl ks)).length : Int) - h = ((zs_enc t 1 (zs_fl ks)).length : Int) by omega]
        cases a6
        · exact sg_110_113 (zy H) _ _ _ _ _ kr
        · exact sg_110_113b (zy H) _ _ _ _ _ _ kr
      cases a6
      · refine sg_110_46 (zy H) _ _ _ _ _ ?_
        simp only [rv_12_20, rv_12_21, rv_12_22, rv_12_23, rv_12_24, rv_12_25, rv_12_26, rv_12_28, rv_12_38, rv_12_42, rv_12_0, rv_12_1, rv_12_15, rv_12_16, rv_12_18, rv_28, rv_37, rv_38, rv_39, rv_40, rv_41, rv_29, rv_30, rv_31, rv_32, rv_33, rv_34, rv_35, rv_36, rv_42, rv_43, rv_44, rv_13, rv_14, rv_15, rv_16, rv_17, rv_18, rv_19, rv_20, rv_21, rv_22, rv_23, rv_24, rv_25, rv_26, rv_27, rv_r, rv_w12_20, rv_w12_21, rv_w12_22, rv_w12_23, rv_w12_24, rv_w12_25, rv_w12_26, rv_w12_28, rv_w12_38, rv_w12_42, rv_w28, rv_w37, rv_w38, rv_w39, rv_w40, rv_w41, rv_w29, rv_w30, rv_w31, rv_w32, rv_w33, rv_w34, rv_w35, rv_w36, rv_w42, rv_w43, rv_w44]
        exact ⟨⟨by omega, by omega⟩, fun w => by exfalso; omega, fun _ => fin none⟩
      · rename_i v
        refine sg_110_46b (zy H) _ _ _ _ _ _ ?_
        simp only [rv_12_20, rv_12_21, rv_12_22, rv_12_23, rv_12_24, rv_12_25, rv_12_26, rv_12_28, rv_12_38, rv_12_42, rv_12_0, rv_12_1, rv_12_15, rv_12_16, rv_12_18, rv_28, rv_37, rv_38, rv_39, rv_40, rv_41, rv_29, rv_30, rv_31, rv_32, rv_33, rv_34, rv_35, rv_36, rv_42, rv_43, rv_44, rv_13, rv_14, rv_15, rv_16, rv_17, rv_18, rv_19, rv_20, rv_21, rv_22, rv_23, rv_24, rv_25, rv_26, rv_27, rv_r, rv_w12_20, rv_w12_21, rv_w12_22, rv_w12_23, rv_w12_24, rv_w12_25, rv_w12_26, rv_w12_28, rv_w12_38, rv_w12_42, rv_w28, rv_w37, rv_w38, rv_w39, rv_w40, rv_w41, rv_w29, rv_w30, rv_w31, rv_w32, rv_w33, rv_w34, rv_w35, rv_w36, rv_w42, rv_w43, rv_w44]
        exact ⟨⟨by omega, by omega⟩, fun w => by exfalso; omega, fun _ => fin (some v)⟩
    | cons Y R ih =>
      intro L k a6 hk hbk hPR hal hL
      rw [List.length_cons] at hk
      obtain ⟨⟨v1, v2, v3, v4, v5⟩, hPR2⟩ := hPR
      have hLl := congrArg List.length hL
      rw [List.length_append, List.length_append, zs_fl, List.length_append] at hLl
      have go : ym_Go sc P K (110, 58, [some (ym_P 12), some (ym_I base), some (ym_I t), some (ym_I (zs_fl ks).length), some (ym_I h), some (ym_I k), some (ym_I 0)], []) (rv s p l g x c e z b f F q A B C (h+L.length) (za o h L) W S) := by
        refine cpy1 Y.2.length Y.2 L k 0 True rfl (by omega) (by omega) (by decide) (by omega) v4 v5 (by rw [Int.add_zero]; exact v3) (hal Y (List.mem_cons_self ..)) (by omega) (fun a6 => ?_)
        refine ih (L ++ Y.2) (k + 1) (some a6) (by omega) (by omega) hPR2 (fun w hw => hal w (List.mem_cons_of_mem _ hw)) ?_
        rw [hL, zs_fl, List.append_assoc]
      cases a6
      · refine sg_110_46 (zy H) _ _ _ _ _ ?_
        simp only [rv_12_20, rv_12_21, rv_12_22, rv_12_23, rv_12_24, rv_12_25, rv_12_26, rv_12_28, rv_12_38, rv_12_42, rv_12_0, rv_12_1, rv_12_15, rv_12_16, rv_12_18, rv_28, rv_37, rv_38, rv_39, rv_40, rv_41, rv_29, rv_30, rv_31, rv_32, rv_33, rv_34, rv_35, rv_36, rv_42, rv_43, rv_44, rv_13, rv_14, rv_15, rv_16, rv_17, rv_18, rv_19, rv_20, rv_21, rv_22, rv_23, rv_24, rv_25, rv_26, rv_27, rv_r, rv_w12_20, rv_w12_21, rv_w12_22, rv_w12_23, rv_w12_24, rv_w12_25, rv_w12_26, rv_w12_28, rv_w12_38, rv_w12_42, rv_w28, rv_w37, rv_w38, rv_w39, rv_w40, rv_w41, rv_w29, rv_w30, rv_w31, rv_w32, rv_w33, rv_w34, rv_w35, rv_w36, rv_w42, rv_w43, rv_w44]
        exact ⟨⟨by omega, by omega⟩, fun _ => go, fun w => by exfalso; omega⟩
      · refine sg_110_46b (zy H) _ _ _ _ _ _ ?_
        simp only [rv_12_20, rv_12_21, rv_12_22, rv_12_23, rv_12_24, rv_12_25, rv_12_26, rv_12_28, rv_12_38, rv_12_42, rv_12_0, rv_12_1, rv_12_15, rv_12_16, rv_12_18, rv_28, rv_37, rv_38, rv_39, rv_40, rv_41, rv_29, rv_30, rv_31, rv_32, rv_33, rv_34, rv_35, rv_36, rv_42, rv_43, rv_44, rv_13, rv_14, rv_15, rv_16, rv_17, rv_18, rv_19, rv_20, rv_21, rv_22, rv_23, rv_24, rv_25, rv_26, rv_27, rv_r, rv_w12_20, rv_w12_21, rv_w12_22, rv_w12_23, rv_w12_24, rv_w12_25, rv_w12_26, rv_w12_28, rv_w12_38, rv_w12_42, rv_w28, rv_w37, rv_w38, rv_w39, rv_w40, rv_w41, rv_w29, rv_w30, rv_w31, rv_w32, rv_w33, rv_w34, rv_w35, rv_w36, rv_w42, rv_w43, rv_w44]
        exact ⟨⟨by omega, by omega⟩, fun _ => go, fun w => by exfalso; omega⟩
  -- the sum
  have sum : ∀ (R : List (Int × List Int)) (n k : Int), k + R.length = q → base ≤ k → rPs A B C o h k R → n + (zs_fl R).length = (zs_fl ks).length → ym_Go sc P K (110, 5, [some (ym_P 12), some (ym_I base), some (ym_I t), some (ym_I n), some (ym_I k), none, none], []) (rv s p l g x c e z b f F q A B C h o W S) := by
    intro R
    induction R with
    | nil =>
      intro n k hk hbk hPR hn
      simp at hk
      have e1 : n = ((zs_fl ks).length : Int) := by
        have : ((zs_fl []).length : Int) = 0 := rfl
        omega
      subst e1
      refine sg_110_5 (zy H) _ _ _ _ ?_
      simp only [rv_12_20, rv_12_21, rv_12_22, rv_12_23, rv_12_24, rv_12_25, rv_12_26, rv_12_28, rv_12_38, rv_12_42, rv_12_0, rv_12_1, rv_12_15, rv_12_16, rv_12_18, rv_28, rv_37, rv_38, rv_39, rv_40, rv_41, rv_29, rv_30, rv_31, rv_32, rv_33, rv_34, rv_35, rv_36, rv_42, rv_43, rv_44, rv_13, rv_14, rv_15, rv_16, rv_17, rv_18, rv_19, rv_20, rv_21, rv_22, rv_23, rv_24, rv_25, rv_26, rv_27, rv_r, rv_w12_20, rv_w12_21, rv_w12_22, rv_w12_23, rv_w12_24, rv_w12_25, rv_w12_26, rv_w12_28, rv_w12_38, rv_w12_42, rv_w28, rv_w37, rv_w38, rv_w39, rv_w40, rv_w41, rv_w29, rv_w30, rv_w31, rv_w32, rv_w33, rv_w34, rv_w35, rv_w36, rv_w42, rv_w43, rv_w44]
      refine ⟨⟨by omega, by omega⟩, fun w => by exfalso; omega, fun _ => ?_⟩
      refine rc_107 (zk H) h0 (by omega) ht ht2 (Or.inr rfl) (by omega) (by omega) (ym_rt_cons (sg_110_43 (zy H) _ _ _ _ ?_))
      exact cpy ks (zs_hd t 1 ((zs_fl ks).length : Int)) base none hq (Int.le_refl _) hP hall rfl
    | cons Y R ih =>
      intro n k hk hbk hPR hn
      rw [List.length_cons] at hk
      rw [zs_fl_len_cons] at hn
      refine sg_110_5 (zy H) _ _ _ _ ?_
      simp only [rv_12_20, rv_12_21, rv_12_22, rv_12_23, rv_12_24, rv_12_25, rv_12_26, rv_12_28, rv_12_38, rv_12_42, rv_12_0, rv_12_1, rv_12_15, rv_12_16, rv_12_18, rv_28, rv_37, rv_38, rv_39, rv_40, rv_41, rv_29, rv_30, rv_31, rv_32, rv_33, rv_34, rv_35, rv_36, rv_42, rv_43, rv_44, rv_13, rv_14, rv_15, rv_16, rv_17, rv_18, rv_19, rv_20, rv_21, rv_22, rv_23, rv_24, rv_25, rv_26, rv_27, rv_r, rv_w12_20, rv_w12_21, rv_w12_22, rv_w12_23, rv_w12_24, rv_w12_25, rv_w12_26, rv_w12_28, rv_w12_38, rv_w12_42, rv_w28, rv_w37, rv_w38, rv_w39, rv_w40, rv_w41, rv_w29, rv_w30, rv_w31, rv_w32, rv_w33, rv_w34, rv_w35, rv_w36, rv_w42, rv_w43, rv_w44]
      refine ⟨⟨by omega, by omega⟩, fun _ => ⟨⟨by omega, by omega⟩, ?_⟩, fun w => by exfalso; omega⟩
      rw [hPR.1.2.1]
      exact ih _ (k + 1) (by omega) (by omega) hPR.2 (by omega)
  exact sum ks 0 base hq (Int.le_refl _) hP (by omega)
end
