/-! The reference's characters: own work. -/
theorem rM_eq (v : Int) : (if v < 128 then (0 : Int) else (if v < 192 then ((if v < 224 then ((if v < 240 then ((-1) : Int) else (if v < 248 then (3 : Int) else (-1))) : Int) else (if v < 240 then (2 : Int) else (if v < 240 then ((-1) : Int) else (if v < 248 then (3 : Int) else (-1))))) : Int) else (if v < 224 then (1 : Int) else (if v < 224 then ((if v < 240 then ((-1) : Int) else (if v < 248 then (3 : Int) else (-1))) : Int) else (if v < 240 then (2 : Int) else (if v < 240 then ((-1) : Int) else (if v < 248 then (3 : Int) else (-1)))))))) = zs_fol v := by
  unfold zs_fol
  repeat' split
  all_goals first | rfl | omega
theorem rSH_eq {m v : Int} (h1 : 1 ≤ m) (h3 : m ≤ 3) : (if m = 0 then (1 : Int) else (if m = 1 then ((if v < 128 then ((if m = 2 then ((if v < 2048 then ((if m = 3 then ((if v < 65536 then (0 : Int) else 1) : Int) else 0) : Int) else 1) : Int) else (if m = 3 then ((if v < 65536 then (0 : Int) else 1) : Int) else 0)) : Int) else 1) : Int) else (if m = 2 then ((if v < 2048 then ((if m = 3 then ((if v < 65536 then (0 : Int) else 1) : Int) else 0) : Int) else 1) : Int) else (if m = 3 then ((if v < 65536 then (0 : Int) else 1) : Int) else 0)))) = if v < zs_lst m then 0 else 1 := by
  have : m = 1 ∨ m = 2 ∨ m = 3 := by omega
  rcases this with rfl | rfl | rfl
  · show (if v < 128 then (0 : Int) else 1) = if v < 128 then 0 else 1
    rfl
  · show (if v < 2048 then (0 : Int) else 1) = if v < 2048 then 0 else 1
    rfl
  · show (if v < 65536 then (0 : Int) else 1) = if v < 65536 then 0 else 1
    rfl
theorem zs_fol_c {v : Int} (hf : 0 < zs_fol v) : (192 ≤ v ∧ v < 224 ∧ zs_fol v = 1) ∨ (224 ≤ v ∧ v < 240 ∧ zs_fol v = 2) ∨ (240 ≤ v ∧ v < 248 ∧ zs_fol v = 3) := by
  by_cases a : v < 128
  · rw [zs_fol, if_pos a] at hf
    omega
  · by_cases b : v < 192
    · rw [zs_fol, if_neg a, if_pos b] at hf
      omega
    · by_cases c : 248 ≤ v
      · rw [zs_fol, if_neg a, if_neg b, if_pos c] at hf
        omega
      · by_cases d : v < 224
        · exact Or.inl ⟨by omega, d, by rw [zs_fol, if_neg a, if_neg b, if_neg c, if_pos d]⟩
        · by_cases e : v < 240
          · exact Or.inr (Or.inl ⟨by omega, e, by rw [zs_fol, if_neg a, if_neg b, if_neg c, if_neg d, if_pos e]⟩)
          · exact Or.inr (Or.inr ⟨by omega, by omega, by rw [zs_fol, if_neg a, if_neg b, if_neg c, if_neg d, if_neg e]⟩)
theorem rc_cod {v : Int} (hf : 0 < zs_fol v) : (if zs_fol v = 0 then v else (if zs_fol v = 1 then v - 192 else (if zs_fol v = 2 then v - 224 else v - 240))) = zs_cod (zs_fol v) v ∧ 0 ≤ zs_cod (zs_fol v) v ∧ zs_cod (zs_fol v) v < 32 ∧ (zs_fol v = 3 → zs_cod (zs_fol v) v < 8) := by
  rcases zs_fol_c hf with ⟨a, b, c⟩ | ⟨a, b, c⟩ | ⟨a, b, c⟩
  · rw [c]
    show v - 192 = v % 32 ∧ 0 ≤ v % 32 ∧ v % 32 < 32 ∧ ((1 : Int) = 3 → v % 32 < 8)
    omega
  · rw [c]
    show v - 224 = v % 16 ∧ 0 ≤ v % 16 ∧ v % 16 < 32 ∧ ((2 : Int) = 3 → v % 16 < 8)
    omega
  · rw [c]
    show v - 240 = v % 8 ∧ 0 ≤ v % 8 ∧ v % 8 < 32 ∧ ((3 : Int) = 3 → v % 8 < 8)
    omega
theorem zs_ut_0 (t : List Int) (a b a2 b2 c : Int) : zs_ut t 0 a b c = zs_ut t 0 a2 b2 c := by
  cases t <;> rfl
theorem zs_ut_short : ∀ (t : List Int) (miss code least cnt : Int), (t.length : Int) < miss → zs_ut t miss code least cnt = none
  | [], miss, code, least, cnt, h => by
    rw [zs_ut, if_neg]
    simp at h
    omega
  | y :: t, miss, code, least, cnt, h => by
    rw [List.length_cons] at h
    rw [zs_ut, if_pos (by omega)]
    by_cases h1 : y / 64 = 2
    · rw [if_pos h1, if_neg (by omega)]
      exact zs_ut_short t _ _ _ _ (by omega)
    · rw [if_neg h1]
section
variable {sc : xm_S} {P : xm_O → xm_H → Prop} {K : List ym_F} {s : ym_S} {p l g x c e z : Int} {b : Int → Int} {f : Int} {F : Nat → Int → Int} {q : Int} {A B C : Int → Int} {h : Int} {o W : Int → Int} {S : Nat → Int → Int}
/-- behind a character -/
theorem rc_120e (H : zh sc K 0) {a1 a2 a3 a4 m v : Int} (h3 : 0 ≤ a3) (h33 : a3 ≤ 200) (h2 : 0 ≤ a2) (h22 : a2 ≤ 200) (hm : 0 ≤ m) (hm3 : m ≤ 3) (hv : 0 ≤ v) (hv2 : v < 2147483648) {i : Int} (hi : i = m + 1) (kx : zs_ch v (zs_lst m) = false → ym_Rt sc P K (some (ym_I (-1))) (rv s p l g x c e z b f F q A B C h o W S)) (kr : zs_ch v (zs_lst m) = true → ∀ a7, ym_Go sc P K (120, 14, [some (ym_P 12), some (ym_I a1), some (ym_I (a2 + 1)), some (ym_I (a3 + (m + 1))), some (ym_I a4), some (ym_I m), some (ym_I v), some (ym_I a7)], []) (rv s p l g x c e z b f F q A B C h o W S)) : ym_Go sc P K (120, 185, [some (ym_P 12), some (ym_I a1), some (ym_I a2), some (ym_I a3), some (ym_I a4), some (ym_I m), some (ym_I v), some (ym_I i)], []) (rv s p l g x c e z b f F q A B C h o W S) := by
  have hin : ym_in m := ⟨by omega, by omega⟩
  have vin : ym_in v := ⟨by omega, by omega⟩
  have hsh : (if m = 0 then (1 : Int) else (if m = 1 then ((if v < 128 then ((if m = 2 then ((if v < 2048 then ((if m = 3 then ((if v < 65536 then (0 : Int) else 1) : Int) else 0) : Int) else 1) : Int) else (if m = 3 then ((if v < 65536 then (0 : Int) else 1) : Int) else 0)) : Int) else 1) : Int) else (if m = 2 then ((if v < 2048 then ((if m = 3 then ((if v < 65536 then (0 : Int) else 1) : Int) else 0) : Int) else 1) : Int) else (if m = 3 then ((if v < 65536 then (0 : Int) else 1) : Int) else 0)))) = if v < zs_lst m then 0 else 1 := by
    by_cases h0 : m = 0
    · rw [if_pos h0, h0, if_neg]
      show ¬ v < 0
      omega
    · exact rSH_eq (by omega) hm3
  refine sg_120_185 (zy H) _ _ _ _ _ _ _ ⟨⟨by omega, by omega⟩, hin, fun _ => ⟨⟨hin, fun _ => ⟨hin, fun _ => ⟨vin, fun _ => ⟨hin, fun _ => ⟨vin, fun _ => ⟨hin, fun _ => vin⟩⟩, fun _ => ⟨hin, fun _ => vin⟩⟩⟩, fun _ => ⟨hin, fun _ => ⟨vin, fun _ => ⟨hin, fun _ => vin⟩⟩, fun _ => ⟨hin, fun _ => vin⟩⟩⟩⟩, ?_⟩, fun y => by exfalso; omega⟩
  rw [hsh]
  have key : zs_ch v (zs_lst m) = true ↔ zs_lst m ≤ v ∧ v ≤ 1114111 ∧ (v < 55296 ∨ 57343 < v) := by
    unfold zs_ch
    simp
    omega
  have fl : ¬ (zs_lst m ≤ v ∧ v ≤ 1114111 ∧ (v < 55296 ∨ 57343 < v)) → zs_ch v (zs_lst m) = false := by
    intro y
    cases hc : zs_ch v (zs_lst m) with
    | false => rfl
    | true => exact absurd (key.mp hc) y
  by_cases h1 : v < zs_lst m
  · rw [if_pos h1]
    exact ⟨fun _ => kx (fl (by omega)), fun y => absurd rfl y⟩
  · rw [if_neg h1]
    exact ⟨fun y => absurd y (by decide), fun _ => ⟨vin, fun y => kx (fl (by omega)), fun y => ⟨vin, fun w => kr (key.mpr ⟨by omega, by omega, by omega⟩) _, fun w => ⟨vin, fun w2 => kr (key.mpr ⟨by omega, by omega, by omega⟩) _, fun w2 => kx (fl (by omega))⟩⟩⟩⟩
/-- the octets that follow -/
theorem rc_120i (H : zh sc K 0) {a1 a2 a3 a4 m : Int} (h3 : 0 ≤ a3) (h2 : 0 ≤ a2) (h22 : a2 ≤ 200) (hm : 1 ≤ m) (hm3 : m ≤ 3) (hz : z ≤ 200) : ∀ (t : List Int) (n : Nat) (v i : Int), i + n = m + 1 → 1 ≤ i → 1 ≤ n → n ≤ t.length → a3 + i + t.length = z → zr b (a3 + i) t → zs_all t → 0 ≤ v → v < 2097152 → (n = 1 → v < 32768) → (n = 2 → v < 512) → (n = 3 → v < 8) → (zs_ut t n v (zs_lst m) (a2 + 1) = none → ym_Rt sc P K (some (ym_I (-1))) (rv s p l g x c e z b f F q A B C h o W S)) → (∀ (t2 : List Int) (v2 a7 : Int), t2.length < t.length → a3 + (m + 1) + t2.length = z → zr b (a3 + (m + 1)) t2 → zs_all t2 → zs_ut t n v (zs_lst m) (a2 + 1) = zs_ut t2 0 0 0 (a2 + 1) → ym_Go sc P K (120, 14, [some (ym_P 12), some (ym_I a1), some (ym_I (a2 + 1)), some (ym_I (a3 + (m + 1))), some (ym_I a4), some (ym_I m), some (ym_I v2), some (ym_I a7)], []) (rv s p l g x c e z b f F q A B C h o W S)) → ym_Go sc P K (120, 185, [some (ym_P 12), some (ym_I a1), some (ym_I a2), some (ym_I a3), some (ym_I a4), some (ym_I m), some (ym_I v), some (ym_I i)], []) (rv s p l g x c e z b f F q A B C h o W S)
  | [], n, v, i, hi, hi1, hn, hnt, hlen, hzr, hall, hv, hv2, hn1, hn2, hn3, kx, kr => by simp at hnt; exfalso; omega
  | y :: t, n, v, i, hi, hi1, hn, hnt, hlen, hzr, hall, hv, hv2, hn1, hn2, hn3, kx, kr => by
    obtain ⟨y0, y1⟩ := hall y (List.mem_cons_self ..)
    have hall2 : zs_all t := fun w hw => hall w (List.mem_cons_of_mem _ hw)
    rw [List.length_cons] at hlen hnt
    have hn3' : (n : Int) ≤ 3 := by omega
    have hv3 : v < 32768 := by
      have : n = 1 ∨ n = 2 ∨ n = 3 := by omega
      rcases this with w | w | w
      · exact hn1 w
      · have := hn2 w; omega
      · have := hn3 w; omega
    rw [zs_ut, if_pos (show (0 : Int) < n by omega)] at kx kr
    refine sg_120_185 (zy H) _ _ _ _ _ _ _ ⟨⟨by omega, by omega⟩, ⟨by omega, by omega⟩, fun w => by exfalso; omega, fun _ => ?_⟩
    simp only [rv_12_20, rv_12_21, rv_12_22, rv_12_23, rv_12_24, rv_12_25, rv_12_26, rv_12_28, rv_12_38, rv_12_42, rv_12_0, rv_12_1, rv_12_15, rv_12_16, rv_12_18, rv_28, rv_37, rv_38, rv_39, rv_40, rv_41, rv_29, rv_30, rv_31, rv_32, rv_33, rv_34, rv_35, rv_36, rv_42, rv_43, rv_44, rv_13, rv_14, rv_15, rv_16, rv_17, rv_18, rv_19, rv_20, rv_21, rv_22, rv_23, rv_24, rv_25, rv_26, rv_27, rv_r, rv_w12_20, rv_w12_21, rv_w12_22, rv_w12_23, rv_w12_24, rv_w12_25, rv_w12_26, rv_w12_28, rv_w12_38, rv_w12_42, rv_w28, rv_w37, rv_w38, rv_w39, rv_w40, rv_w41, rv_w29, rv_w30, rv_w31, rv_w32, rv_w33, rv_w34, rv_w35, rv_w36, rv_w42, rv_w43, rv_w44]
    rw [hzr.1]
    have bad : ¬ (128 ≤ y ∧ y ≤ 191) → ym_Rt sc P K (some (ym_I (-1))) (rv s p l g x c e z b f F q A B C h o W S) := by
      intro w
      refine kx ?_
      rw [if_neg (by omega)]
    refine ⟨⟨by omega, by omega⟩, fun w => bad (by omega), fun w => ⟨⟨by omega, by omega⟩, fun w2 => bad (by omega), fun w2 => ⟨⟨by omega, by omega⟩, ?_⟩⟩⟩
    rw [if_pos (show y / 64 = 2 by omega)] at kx kr
    rw [show 64 * v + y - 128 = v * 64 + y % 64 by omega]
    by_cases h1 : (n : Int) = 1
    · rw [if_pos h1] at kx kr
      refine rc_120e H h3 (by omega) h2 h22 (by omega) hm3 (by omega) (by omega) (by omega) (fun w3 => kx ?_) (fun w3 a7 => ?_)
      · rw [w3, if_neg (by decide)]
      · rw [w3, if_pos rfl] at kr
        refine kr t _ a7 (by simp) (by omega) ?_ hall2 (zs_ut_0 _ _ _ _ _ _)
        have := hzr.2
        rw [show a3 + i + 1 = a3 + (m + 1) by omega] at this
        exact this
    · rw [if_neg h1] at kx kr
      have e1 : (n : Int) - 1 = ((n - 1 : Nat) : Int) := by omega
      rw [e1] at kx kr
      refine rc_120i H h3 h2 h22 hm hm3 hz t (n - 1) (v * 64 + y % 64) (i + 1) (by omega) (by omega) (by omega) (by omega) (by omega) ?_ hall2 (by omega) (by omega) (fun w3 => ?_) (fun w3 => ?_) (fun w3 => by exfalso; omega) kx (fun t2 v2 a7 w3 w4 w5 w6 w7 => kr t2 v2 a7 (by rw [List.length_cons]; omega) w4 w5 w6 w7)
      · rw [show a3 + (i + 1) = a3 + i + 1 by omega]
        exact hzr.2
      · have := hn2 (by omega); omega
      · have := hn3 (by omega); omega
theorem rc_120u (H : zh sc K 0) (hz : z ≤ 200) : ∀ (k : Nat) (t : List Int) (a2 a3 : Int) (y : Option (Int × Int × Int × Int)), t.length ≤ k → a3 + t.length = z → 0 ≤ a3 → 0 ≤ a2 → a2 ≤ a3 → zr b a3 t → zs_all t → (zs_ut t 0 0 0 a2 = none → ym_Rt sc P K (some (ym_I (-1))) (rv s p l g x c e z b f F q A B C h o W S)) → (∀ n, zs_ut t 0 0 0 a2 = some n → ym_Rt sc P K (some (ym_I n)) (rv s p l g x c e z b f F q A B C h o W S)) → ym_Go sc P K (120, 14, [some (ym_P 12), some (ym_I 12), some (ym_I a2), some (ym_I a3), y.map (fun w => ym_I w.1), y.map (fun w => ym_I w.2.1), y.map (fun w => ym_I w.2.2.1), y.map (fun w => ym_I w.2.2.2)], []) (rv s p l g x c e z b f F q A B C h o W S)
  | k, [], a2, a3, y, hk, hlen, h3, h2, h23, hzr, hall, kx, kr => by
    simp at hlen
    have fin := kr a2 rfl
    cases y
    · refine sg_120_14 (zy H) _ _ _ ?_
      simp only [rv_12_20, rv_12_21, rv_12_22, rv_12_23, rv_12_24, rv_12_25, rv_12_26, rv_12_28, rv_12_38, rv_12_42, rv_12_0, rv_12_1, rv_12_15, rv_12_16, rv_12_18, rv_28, rv_37, rv_38, rv_39, rv_40, rv_41, rv_29, rv_30, rv_31, rv_32, rv_33, rv_34, rv_35, rv_36, rv_42, rv_43, rv_44, rv_13, rv_14, rv_15, rv_16, rv_17, rv_18, rv_19, rv_20, rv_21, rv_22, rv_23, rv_24, rv_25, rv_26, rv_27, rv_r, rv_w12_20, rv_w12_21, rv_w12_22, rv_w12_23, rv_w12_24, rv_w12_25, rv_w12_26, rv_w12_28, rv_w12_38, rv_w12_42, rv_w28, rv_w37, rv_w38, rv_w39, rv_w40, rv_w41, rv_w29, rv_w30, rv_w31, rv_w32, rv_w33, rv_w34, rv_w35, rv_w36, rv_w42, rv_w43, rv_w44]
      exact ⟨⟨by omega, by omega⟩, fun w => by exfalso; omega, fun _ => fin⟩
    · refine sg_120_14b (zy H) _ _ _ _ _ _ _ ?_
      simp only [rv_12_20, rv_12_21, rv_12_22, rv_12_23, rv_12_24, rv_12_25, rv_12_26, rv_12_28, rv_12_38, rv_12_42, rv_12_0, rv_12_1, rv_12_15, rv_12_16, rv_12_18, rv_28, rv_37, rv_38, rv_39, rv_40, rv_41, rv_29, rv_30, rv_31, rv_32, rv_33, rv_34, rv_35, rv_36, rv_42, rv_43, rv_44, rv_13, rv_14, rv_15, rv_16, rv_17, rv_18, rv_19, rv_20, rv_21, rv_22, rv_23, rv_24, rv_25, rv_26, rv_27, rv_r, rv_w12_20, rv_w12_21, rv_w12_22, rv_w12_23, rv_w12_24, rv_w12_25, rv_w12_26, rv_w12_28, rv_w12_38, rv_w12_42, rv_w28, rv_w37, rv_w38, rv_w39, rv_w40, rv_w41, rv_w29, rv_w30, rv_w31, rv_w32, rv_w33, rv_w34, rv_w35, rv_w36, rv_w42, rv_w43, rv_w44]
      exact ⟨⟨by omega, by omega⟩, fun w => by exfalso; omega, fun _ => fin⟩
  | 0, v :: t, a2, a3, y, hk, hlen, h3, h2, h23, hzr, hall, kx, kr => by simp at hk
  | k + 1, v :: t, a2, a3, y, hk, hlen, h3, h2, h23, hzr, hall, kx, kr => by
    obtain ⟨v0, v1⟩ := hall v (List.mem_cons_self ..)
    have hall2 : zs_all t := fun w hw => hall w (List.mem_cons_of_mem _ hw)
    rw [List.length_cons] at hlen hk
    have hb := zs_fol_b v
    rw [zs_ut, if_neg (by decide)] at kx kr
    -- it goes on behind this character
    have next : ∀ (t2 : List Int) (m v2 a7 : Int), 0 ≤ m → t2.length ≤ t.length → a3 + (m + 1) + t2.length = z → zr b (a3 + (m + 1)) t2 → zs_all t2 → (zs_ut t2 0 0 0 (a2 + 1) = none → ym_Rt sc P K (some (ym_I (-1))) (rv s p l g x c e z b f F q A B C h o W S)) → (∀ n, zs_ut t2 0 0 0 (a2 + 1) = some n → ym_Rt sc P K (some (ym_I n)) (rv s p l g x c e z b f F q A B C h o W S)) → ym_Go sc P K (120, 14, [some (ym_P 12), some (ym_I 12), some (ym_I (a2 + 1)), some (ym_I (a3 + (m + 1))), some (ym_I v), some (ym_I m), some (ym_I v2), some (ym_I a7)], []) (rv s p l g x c e z b f F q A B C h o W S) := fun t2 m v2 a7 w0 w1 w2 w3 w4 w5 w6 => rc_120u H hz k t2 (a2 + 1) (a3 + (m + 1)) (some (v, m, v2, a7)) (by omega) w2 (by omega) (by omega) (by omega) w3 w4 w5 w6
    have body : (zs_fol v < 0 → ym_Rt sc P K (some (ym_I (-1))) (rv s p l g x c e z b f F q A B C h o W S)) ∧ (0 ≤ zs_fol v → (-2147483648 ≤ a3 + zs_fol v ∧ a3 + zs_fol v < 2147483648) ∧ (a3 + zs_fol v < z → ym_Go sc P K (120, 185, [some (ym_P 12), some (ym_I 12), some (ym_I a2), some (ym_I a3), some (ym_I v), some (ym_I (zs_fol v)), some (ym_I (if zs_fol v = 0 then v else (if zs_fol v = 1 then v - 192 else (if zs_fol v = 2 then v - 224 else v - 240)))), some (ym_I 1)], []) (rv s p l g x c e z b f F q A B C h o W S)) ∧ (z ≤ a3 + zs_fol v → ym_Rt sc P K (some (ym_I (-1))) (rv s p l g x c e z b f F q A B C h o W S))) := by
      refine ⟨fun w => kx (by rw [if_pos w]), fun w => ⟨⟨by omega, by omega⟩, fun w2 => ?_, fun w2 => ?_⟩⟩
      · rw [if_neg (by omega)] at kx kr
        by_cases h0 : zs_fol v = 0
        · rw [if_pos h0] at kx kr ⊢
          have hv128 : v < 128 := by
            unfold zs_fol at h0
            split at h0
            · assumption
            · repeat' split at h0
              all_goals omega
          rw [h0]
          refine rc_120e H h3 (by omega) h2 (by omega) (by decide) (by decide) v0 (by omega) rfl (fun w3 => kx ?_) (fun w3 a7 => ?_)
          · have w4 : zs_ch v 0 = false := w3
            rw [w4, if_neg (by decide)]
          · have w4 : zs_ch v 0 = true := w3
            rw [w4, if_pos rfl, zs_ut_0 t v 0 0 0] at kx kr
            refine next t 0 v a7 (by decide) (Nat.le_refl _) (by omega) ?_ hall2 kx kr
            rw [show a3 + (0 + 1) = a3 + 1 by omega]
            exact hzr.2
        · rw [if_neg h0] at kx kr
          have hcod : (if zs_fol v = 0 then v else (if zs_fol v = 1 then v - 192 else (if zs_fol v = 2 then v - 224 else v - 240))) = zs_cod (zs_fol v) v ∧ 0 ≤ zs_cod (zs_fol v) v ∧ zs_cod (zs_fol v) v < 32 ∧ (zs_fol v = 3 → zs_cod (zs_fol v) v < 8) := by
            exact rc_cod (by omega)
          rw [hcod.1]
          obtain ⟨n, hn⟩ := zn_nat w
          have hn1 : 1 ≤ n := by omega
          rw [hn] at kx kr ⊢
          rw [hn] at hcod hb w2
          refine rc_120i H h3 h2 (by omega) (by omega) (by omega) hz t n (zs_cod (n : Int) v) 1 (by omega) (by omega) hn1 (by omega) (by omega) hzr.2 hall2 hcod.2.1 (by omega) (fun _ => by omega) (fun _ => by omega) (fun y3 => hcod.2.2.2 (by omega)) kx (fun t2 v2 a7 w3 w4 w5 w6 w7 => ?_)
          rw [w7] at kx kr
          exact next t2 n v2 a7 (by omega) (by omega) w4 w5 w6 kx kr
      · refine kx ?_
        rw [if_neg (by omega), if_neg (by omega)]
        exact zs_ut_short t _ _ _ _ (by omega)
    cases y
    · refine sg_120_14 (zy H) _ _ _ ?_
      simp only [rv_12_20, rv_12_21, rv_12_22, rv_12_23, rv_12_24, rv_12_25, rv_12_26, rv_12_28, rv_12_38, rv_12_42, rv_12_0, rv_12_1, rv_12_15, rv_12_16, rv_12_18, rv_28, rv_37, rv_38, rv_39, rv_40, rv_41, rv_29, rv_30, rv_31, rv_32, rv_33, rv_34, rv_35, rv_36, rv_42, rv_43, rv_44, rv_13, rv_14, rv_15, rv_16, rv_17, rv_18, rv_19, rv_20, rv_21, rv_22, rv_23, rv_24, rv_25, rv_26, rv_27, rv_r, rv_w12_20, rv_w12_21, rv_w12_22, rv_w12_23, rv_w12_24, rv_w12_25, rv_w12_26, rv_w12_28, rv_w12_38, rv_w12_42, rv_w28, rv_w37, rv_w38, rv_w39, rv_w40, rv_w41, rv_w29, rv_w30, rv_w31, rv_w32, rv_w33, rv_w34, rv_w35, rv_w36, rv_w42, rv_w43, rv_w44]
      rw [hzr.1, rM_eq]
      exact ⟨⟨by omega, by omega⟩, fun _ => ⟨⟨by omega, by omega⟩, by decide, fun w => absurd w (by decide), fun _ => body⟩, fun w => by exfalso; omega⟩
    · refine sg_120_14b (zy H) _ _ _ _ _ _ _ ?_
      simp only [rv_12_20, rv_12_21, rv_12_22, rv_12_23, rv_12_24, rv_12_25, rv_12_26, rv_12_28, rv_12_38, rv_12_42, rv_12_0, rv_12_1, rv_12_15, rv_12_16, rv_12_18, rv_28, rv_37, rv_38, rv_39, rv_40, rv_41, rv_29, rv_30, rv_31, rv_32, rv_33, rv_34, rv_35, rv_36, rv_42, rv_43, rv_44, rv_13, rv_14, rv_15, rv_16, rv_17, rv_18, rv_19, rv_20, rv_21, rv_22, rv_23, rv_24, rv_25, rv_26, rv_27, rv_r, rv_w12_20, rv_w12_21, rv_w12_22, rv_w12_23, rv_w12_24, rv_w12_25, rv_w12_26, rv_w12_28, rv_w12_38, rv_w12_42, rv_w28, rv_w37, rv_w38, rv_w39, rv_w40, rv_w41, rv_w29, rv_w30, rv_w31, rv_w32, rv_w33, rv_w34, rv_w35, rv_w36, rv_w42, rv_w43, rv_w44]
      rw [hzr.1, rM_eq]
      exact ⟨⟨by omega, by omega⟩, fun _ => ⟨⟨by omega, by omega⟩, by decide, fun w => absurd w (by decide), fun _ => body⟩, fun w => by exfalso; omega⟩
theorem rc_120a (H : zh sc K 0) (hz : z ≤ 200) : ∀ (t : List Int) (a2 a3 : Int) (y : Option (Int × Int × Int × Int)), a3 + t.length = z → 0 ≤ a3 → a2 = a3 → zr b a3 t → zs_all t → (t.all (fun x => decide (x < 128)) = false → ym_Rt sc P K (some (ym_I (-1))) (rv s p l g x c e z b f F q A B C h o W S)) → (t.all (fun x => decide (x < 128)) = true → ym_Rt sc P K (some (ym_I z)) (rv s p l g x c e z b f F q A B C h o W S)) → ym_Go sc P K (120, 14, [some (ym_P 12), some (ym_I 22), some (ym_I a2), some (ym_I a3), y.map (fun w => ym_I w.1), y.map (fun w => ym_I w.2.1), y.map (fun w => ym_I w.2.2.1), y.map (fun w => ym_I w.2.2.2)], []) (rv s p l g x c e z b f F q A B C h o W S)
  | [], a2, a3, y, hlen, h3, h2, hzr, hall, kx, kr => by
    simp at hlen
    have fin := kr rfl
    have e1 : a2 = z := by omega
    rw [e1]
    cases y
    · refine sg_120_14 (zy H) _ _ _ ?_
      simp only [rv_12_20, rv_12_21, rv_12_22, rv_12_23, rv_12_24, rv_12_25, rv_12_26, rv_12_28, rv_12_38, rv_12_42, rv_12_0, rv_12_1, rv_12_15, rv_12_16, rv_12_18, rv_28, rv_37, rv_38, rv_39, rv_40, rv_41, rv_29, rv_30, rv_31, rv_32, rv_33, rv_34, rv_35, rv_36, rv_42, rv_43, rv_44, rv_13, rv_14, rv_15, rv_16, rv_17, rv_18, rv_19, rv_20, rv_21, rv_22, rv_23, rv_24, rv_25, rv_26, rv_27, rv_r, rv_w12_20, rv_w12_21, rv_w12_22, rv_w12_23, rv_w12_24, rv_w12_25, rv_w12_26, rv_w12_28, rv_w12_38, rv_w12_42, rv_w28, rv_w37, rv_w38, rv_w39, rv_w40, rv_w41, rv_w29, rv_w30, rv_w31, rv_w32, rv_w33, rv_w34, rv_w35, rv_w36, rv_w42, rv_w43, rv_w44]
      exact ⟨⟨by omega, by omega⟩, fun w => by exfalso; omega, fun _ => fin⟩
    · refine sg_120_14b (zy H) _ _ _ _ _ _ _ ?_
      simp only [rv_12_20, rv_12_21, rv_12_22, rv_12_23, rv_12_24, rv_12_25, rv_12_26, rv_12_28, rv_12_38, rv_12_42, rv_12_0, rv_12_1, rv_12_15, rv_12_16, rv_12_18, rv_28, rv_37, rv_38, rv_39, rv_40, rv_41, rv_29, rv_30, rv_31, rv_32, rv_33, rv_34, rv_35, rv_36, rv_42, rv_43, rv_44, rv_13, rv_14, rv_15, rv_16, rv_17, rv_18, rv_19, rv_20, rv_21, rv_22, rv_23, rv_24, rv_25, rv_26, rv_27, rv_r, rv_w12_20, rv_w12_21, rv_w12_22, rv_w12_23, rv_w12_24, rv_w12_25, rv_w12_26, rv_w12_28, rv_w12_38, rv_w12_42, rv_w28, rv_w37, rv_w38, rv_w39, rv_w40, rv_w41, rv_w29, rv_w30, rv_w31, rv_w32, rv_w33, rv_w34, rv_w35, rv_w36, rv_w42, rv_w43, rv_w44]
      exact ⟨⟨by omega, by omega⟩, fun w => by exfalso; omega, fun _ => fin⟩
  | v :: t, a2, a3, y, hlen, h3, h2, hzr, hall, kx, kr => by
    obtain ⟨v0, v1⟩ := hall v (List.mem_cons_self ..)
    have hall2 : zs_all t := fun w hw => hall w (List.mem_cons_of_mem _ hw)
    rw [List.length_cons] at hlen
    have hb := zs_fol_b v
    have h0 : zs_fol v = 0 ↔ v < 128 := by
      unfold zs_fol
      repeat' split
      all_goals omega
    have body : (zs_fol v = 0 → (zs_fol v < 0 → ym_Rt sc P K (some (ym_I (-1))) (rv s p l g x c e z b f F q A B C h o W S)) ∧ (0 ≤ zs_fol v → (-2147483648 ≤ a3 + zs_fol v ∧ a3 + zs_fol v < 2147483648) ∧ (a3 + zs_fol v < z → ym_Go sc P K (120, 185, [some (ym_P 12), some (ym_I 22), some (ym_I a2), some (ym_I a3), some (ym_I v), some (ym_I (zs_fol v)), some (ym_I (if zs_fol v = 0 then v else (if zs_fol v = 1 then v - 192 else (if zs_fol v = 2 then v - 224 else v - 240)))), some (ym_I 1)], []) (rv s p l g x c e z b f F q A B C h o W S)) ∧ (z ≤ a3 + zs_fol v → ym_Rt sc P K (some (ym_I (-1))) (rv s p l g x c e z b f F q A B C h o W S)))) ∧ (¬ zs_fol v = 0 → ym_Rt sc P K (some (ym_I (-1))) (rv s p l g x c e z b f F q A B C h o W S)) := by
      refine ⟨fun w => ⟨fun w2 => by exfalso; omega, fun _ => ⟨⟨by omega, by omega⟩, fun w2 => ?_, fun w2 => by exfalso; omega⟩⟩, fun w => kx ?_⟩
      · have hv := h0.mp w
        rw [if_pos w, w]
        refine rc_120e H h3 (by omega) (by omega) (by omega) (by decide) (by decide) v0 (by omega) rfl (fun w3 => ?_) (fun w3 a7 => ?_)
        · exfalso
          have : zs_ch v 0 = true := by
            unfold zs_ch
            simp
            omega
          have w4 : zs_ch v 0 = false := w3
          rw [this] at w4
          cases w4
        · rw [List.all_cons, decide_eq_true hv, Bool.true_and] at kx kr
          refine rc_120a H hz t (a2 + 1) (a3 + (0 + 1)) (some (v, 0, v, a7)) (by omega) (by omega) (by omega) ?_ hall2 kx kr
          rw [show a3 + (0 + 1) = a3 + 1 by omega]
          exact hzr.2
      · rw [List.all_cons, decide_eq_false (fun y => w (h0.mpr y))]
        rfl
    cases y
    · refine sg_120_14 (zy H) _ _ _ ?_
      simp only [rv_12_20, rv_12_21, rv_12_22, rv_12_23, rv_12_24, rv_12_25, rv_12_26, rv_12_28, rv_12_38, rv_12_42, rv_12_0, rv_12_1, rv_12_15, rv_12_16, rv_12_18, rv_28, rv_37, rv_38, rv_39, rv_40, rv_41, rv_29, rv_30, rv_31, rv_32, rv_33, rv_34, rv_35, rv_36, rv_42, rv_43, rv_44, rv_13, rv_14, rv_15, rv_16, rv_17, rv_18, rv_19, rv_20, rv_21, rv_22, rv_23, rv_24, rv_25, rv_26, rv_27, rv_r, rv_w12_20, rv_w12_21, rv_w12_22, rv_w12_23, rv_w12_24, rv_w12_25, rv_w12_26, rv_w12_28, rv_w12_38, rv_w12_42, rv_w28, rv_w37, rv_w38, rv_w39, rv_w40, rv_w41, rv_w29, rv_w30, rv_w31, rv_w32, rv_w33, rv_w34, rv_w35, rv_w36, rv_w42, rv_w43, rv_w44]
      rw [hzr.1, rM_eq]
      exact ⟨⟨by omega, by omega⟩, fun _ => ⟨⟨by omega, by omega⟩, by decide, fun _ => body, fun w => absurd trivial w⟩, fun w => by exfalso; omega⟩
    · refine sg_120_14b (zy H) _ _ _ _ _ _ _ ?_
      simp only [rv_12_20, rv_12_21, rv_12_22, rv_12_23, rv_12_24, rv_12_25, rv_12_26, rv_12_28, rv_12_38, rv_12_42, rv_12_0, rv_12_1, rv_12_15, rv_12_16, rv_12_18, rv_28, rv_37, rv_38, rv_39, rv_40, rv_41, rv_29, rv_30, rv_31, rv_32, rv_33, rv_34, rv_35, rv_36, rv_42, rv_43, rv_44, rv_13, rv_14, rv_15, rv_16, rv_17, rv_18, rv_19, rv_20, rv_21, rv_22, rv_23, rv_24, rv_25, rv_26, rv_27, rv_r, rv_w12_20, rv_w12_21, rv_w12_22, rv_w12_23, rv_w12_24, rv_w12_25, rv_w12_26, rv_w12_28, rv_w12_38, rv_w12_42, rv_w28, rv_w37, rv_w38, rv_w39, rv_w40, rv_w41, rv_w29, rv_w30, rv_w31, rv_w32, rv_w33, rv_w34, rv_w35, rv_w36, rv_w42, rv_w43, rv_w44]
      rw [hzr.1, rM_eq]
      exact ⟨⟨by omega, by omega⟩, fun _ => ⟨⟨by omega, by omega⟩, by decide, fun _ => body, fun w => absurd trivial w⟩, fun w => by exfalso; omega⟩
theorem rc_120 (H : zh sc K 0) {t : List Int} (hz : z ≤ 200) (hlen : z = t.length) (hzr : zr b 0 t) (hall : zs_all t) {k : Int} (hk : k = 4 ∨ k = 12 ∨ k = 22) (kx : zs_cn k t = none → ym_Rt sc P K (some (ym_I (-1))) (rv s p l g x c e z b f F q A B C h o W S)) (kr : ∀ n, zs_cn k t = some n → ym_Rt sc P K (some (ym_I n)) (rv s p l g x c e z b f F q A B C h o W S)) : ym_Go sc P K (120, 0, [some (ym_P 12), some (ym_I k), none, none, none, none, none, none], []) (rv s p l g x c e z b f F q A B C h o W S) := by
  refine sg_120_0 (zy H) _ ?_
  simp only [rv_12_20, rv_12_21, rv_12_22, rv_12_23, rv_12_24, rv_12_25, rv_12_26, rv_12_28, rv_12_38, rv_12_42, rv_12_0, rv_12_1, rv_12_15, rv_12_16, rv_12_18, rv_28, rv_37, rv_38, rv_39, rv_40, rv_41, rv_29, rv_30, rv_31, rv_32, rv_33, rv_34, rv_35, rv_36, rv_42, rv_43, rv_44, rv_13, rv_14, rv_15, rv_16, rv_17, rv_18, rv_19, rv_20, rv_21, rv_22, rv_23, rv_24, rv_25, rv_26, rv_27, rv_r, rv_w12_20, rv_w12_21, rv_w12_22, rv_w12_23, rv_w12_24, rv_w12_25, rv_w12_26, rv_w12_28, rv_w12_38, rv_w12_42, rv_w28, rv_w37, rv_w38, rv_w39, rv_w40, rv_w41, rv_w29, rv_w30, rv_w31, rv_w32, rv_w33, rv_w34, rv_w35, rv_w36, rv_w42, rv_w43, rv_w44]
  rcases hk with rfl | rfl | rfl
  · refine ⟨by decide, fun _ => kr _ ?_, fun w => absurd rfl w⟩
    rw [hlen]
    rfl
  · refine ⟨by decide, fun w => absurd w (by decide), fun _ => rc_120u H hz t.length t 0 0 none (Nat.le_refl _) (by omega) (by decide) (by decide) (by decide) hzr hall kx kr⟩
  · have e1 : zs_cn 22 t = if t.all (fun x => decide (x < 128)) then some (t.length : Int) else none := rfl
    rw [e1] at kx kr
    refine ⟨by decide, fun w => absurd w (by decide), fun _ => rc_120a H hz t 0 0 none (by omega) (by decide) rfl hzr hall (fun w => kx (by rw [w]; rfl)) (fun w => kr z (by rw [w, hlen]; rfl))⟩
end
