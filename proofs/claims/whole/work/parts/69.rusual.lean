/-! The reference's look at a default: own work. -/
theorem zn_255g (y : Int) : ym_and y 255 = y % 256 := by
  have e : (Int32.ofInt y &&& Int32.ofInt 255).toBitVec.toNat = (Int32.ofInt y).toBitVec.toNat &&& 255 := by
    rw [Int32.toBitVec_and, BitVec.toNat_and]
    rfl
  have h : (Int32.ofInt y).toBitVec.toNat &&& 255 ≤ 255 := Nat.and_le_right
  have h2 := zn_toInt e (by omega)
  have h3 : (Int32.ofInt y).toBitVec.toNat &&& 255 = (Int32.ofInt y).toBitVec.toNat % 256 := Nat.and_two_pow_sub_one_eq_mod _ 8
  have h4 : ((Int32.ofInt y).toBitVec.toNat : Int) = y % 4294967296 := by
    rw [Int32.toBitVec_ofInt, BitVec.toNat_ofInt]
    omega
  show (Int32.ofInt y &&& Int32.ofInt 255).toInt = _
  omega
theorem zl_cnt0 : ∀ k : Fin 64, (((Int32.ofInt ((k.val : Nat) : Int)).toInt64 &&& 63).toBitVec.smod 64).toNat = k.val := by decide +kernel
theorem zl_shr {x : Int64} {k : Nat} (hk : k < 64) : (ym_lshr x (k : Int)).toInt = x.toInt / ((2 ^ k : Nat) : Int) := by
  show (x >>> ((Int32.ofInt (k : Int)).toInt64 &&& 63)).toBitVec.toInt = _
  rw [Int64.toBitVec_shiftRight, BitVec.sshiftRight', zl_cnt0 ⟨k, hk⟩, BitVec.toInt_sshiftRight, Int.shiftRight_eq_div_pow]
  rfl
theorem zl_byte {x : Int64} {j : Nat} (hj : j < 8) : ym_and (ym_l2i (ym_lshr x (8 * (j : Int)))) 255 = x.toInt / ((256 ^ j : Nat) : Int) % 256 := by
  rw [zn_255g]
  have e1 : 8 * (j : Int) = ((8 * j : Nat) : Int) := by omega
  have e2 : (2 : Nat) ^ (8 * j) = 256 ^ j := by rw [Nat.pow_mul]
  show (Int64.toInt32 (ym_lshr x (8 * (j : Int)))).toInt % 256 = _
  rw [Int64.toInt_toInt32, e1, zl_shr (by omega), e2]
  generalize x.toInt / ((256 ^ j : Nat) : Int) = v
  have := Int.bmod_emod (x := v) (m := 2 ^ 32)
  omega
theorem zl_fit {x : Int64} {n : Nat} (h2 : n + 2 ≤ 8) : ym_cmp (ym_lshr x (8 * (((n + 2 : Nat) : Int)) - 9)) (ym_lshr x 63) = 0 ↔ zs_fit x.toInt (n + 1) = true := by
  have e1 : 8 * (((n + 2 : Nat) : Int)) - 9 = ((8 * n + 7 : Nat) : Int) := by omega
  have e0 : (63 : Int) = ((63 : Nat) : Int) := rfl
  rw [e1, e0, zl_eq, zl_shr (by omega), zl_shr (by omega), zs_fit_iff]
  have hX := zs_pw n
  have e2 : ((2 ^ (8 * n + 7) : Nat) : Int) = 128 * ((256 ^ n : Nat) : Int) := by
    rw [Nat.pow_add, Nat.pow_mul, Int.natCast_mul, Int.mul_comm]
    rfl
  rw [e2]
  have l1 := x.le_toInt
  have l2 := x.toInt_lt
  have e3 : x.toInt / ((2 ^ 63 : Nat) : Int) = if x.toInt < 0 then -1 else 0 := by
    have : ((2 ^ 63 : Nat) : Int) = 9223372036854775808 := rfl
    rw [this]
    split <;> omega
  rw [e3]
  generalize ((256 ^ n : Nat) : Int) = X at *
  generalize x.toInt = v at *
  have hY : 0 < 128 * X := by omega
  constructor
  · intro h
    by_cases hv : v < 0
    · rw [if_pos hv] at h
      have a1 := Int.mul_ediv_add_emod v (128 * X)
      have a2 := Int.emod_nonneg v (show 128 * X ≠ 0 by omega)
      rw [h] at a1
      omega
    · rw [if_neg hv] at h
      have a1 := Int.mul_ediv_add_emod v (128 * X)
      have a2 := Int.emod_lt_of_pos v hY
      rw [h] at a1
      omega
  · rintro ⟨h1, h3⟩
    by_cases hv : v < 0
    · rw [if_pos hv]
      have b1 : -1 ≤ v / (128 * X) := by rw [Int.le_ediv_iff_mul_le hY]; omega
      have b2 : v / (128 * X) < 0 := by rw [Int.ediv_lt_iff_lt_mul hY]; omega
      omega
    · rw [if_neg hv]
      exact Int.ediv_eq_zero_of_lt (by omega) h3
def zs_wr : List Int → List Int → List Int
  | [], x => x
  | w :: ws, x => zs_enc w 1 (zs_wr ws x)
theorem zs_wr_snoc (w : Int) (x : List Int) : ∀ ws, zs_wr (ws ++ [w]) x = zs_wr ws (zs_enc w 1 x)
  | [] => rfl
  | v :: ws => by rw [List.cons_append, zs_wr, zs_wr, zs_wr_snoc w x ws]
theorem zs_enc_6 (g c : Int) (x : List Int) : ((zs_enc g c x).length : Int) ≤ x.length + 6 := by
  have := zs_hd_6 g c x.length
  unfold zs_enc
  rw [List.length_append]
  omega
theorem zs_enc_all {g c : Int} {x : List Int} (hg : 0 ≤ g) (hg2 : g < 8388608) (hc : c = 0 ∨ c = 1) (hx : zs_all x) (hl : x.length < 256) : zs_all (zs_enc g c x) := by
  unfold zs_enc
  exact zs_all_app (zs_hd_all hg hg2 hc (by omega) (by omega)) hx
theorem zs_by_all (v : Int) : ∀ n : Nat, zs_all (zs_by v n)
  | 0 => fun x hx => by cases hx
  | n + 1 => fun x hx => by
    rcases List.mem_cons.mp hx with rfl | hx
    · omega
    · exact zs_by_all v n x hx
theorem zs_nb_b (k : Int) (v : Int64) : ((zs_nb k v.toInt).length : Int) ≤ 8 ∧ zs_all (zs_nb k v.toInt) := by
  unfold zs_nb
  split
  · refine ⟨by simp, fun x hx => ?_⟩
    rw [List.mem_singleton.mp hx]
    split <;> exact ⟨by decide, by decide⟩
  · refine ⟨?_, zs_by_all _ _⟩
    rw [zs_by_len]
    have : ∀ n : Nat, zs_dn v.toInt n ≤ n := by
      intro n
      induction n with
      | zero => exact Nat.le_refl _
      | succ n ih =>
        cases n with
        | zero => exact Nat.le_refl _
        | succ n =>
          rw [zs_dn_2]
          split
          · omega
          · exact Nat.le_refl _
    have := this 8
    omega
section
variable {sc : xm_S} {P : xm_O → xm_H → Prop} {K : List ym_F} {s : ym_S} {p l g x c e z : Int} {b : Int → Int} {f : Int} {F : Nat → Int → Int} {q : Int} {A B C : Int → Int} {h : Int} {o W : Int → Int} {S : Nat → Int → Int}
theorem rc_113 (H : zh sc K 0) {k : Int} (hk : ym_in k) {v : Int64} (kr : ∀ b2 : Int → Int, zr b2 0 (zs_nb k v.toInt) → ym_Rt sc P K none (rv s p l g x c e (((zs_nb k v.toInt).length : Int)) b2 f F q A B C h o W S)) : ym_Go sc P K (113, 0, [some (ym_P 12), some (ym_I k), some (ym_J v), none, none, none], []) (rv s p l g x c e z b f F q A B C h o W S) := by
  refine sg_113_0 (zy H) _ _ ?_
  simp only [rv_12_20, rv_12_21, rv_12_22, rv_12_23, rv_12_24, rv_12_25, rv_12_26, rv_12_28, rv_12_38, rv_12_42, rv_12_0, rv_12_1, rv_12_15, rv_12_16, rv_12_18, rv_28, rv_37, rv_38, rv_39, rv_40, rv_41, rv_29, rv_30, rv_31, rv_32, rv_33, rv_34, rv_35, rv_36, rv_42, rv_43, rv_44, rv_13, rv_14, rv_15, rv_16, rv_17, rv_18, rv_19, rv_20, rv_21, rv_22, rv_23, rv_24, rv_25, rv_26, rv_27, rv_r, rv_w12_20, rv_w12_21, rv_w12_22, rv_w12_23, rv_w12_24, rv_w12_25, rv_w12_26, rv_w12_28, rv_w12_38, rv_w12_42, rv_w28, rv_w37, rv_w38, rv_w39, rv_w40, rv_w41, rv_w29, rv_w30, rv_w31, rv_w32, rv_w33, rv_w34, rv_w35, rv_w36, rv_w42, rv_w43, rv_w44]
  refine ⟨hk, fun h1 => ?_, fun h1 => ?_⟩
  · have e0 : zs_nb k v.toInt = [if v.toInt = 0 then 0 else 255] := by unfold zs_nb; rw [if_pos h1]
    rw [e0] at kr
    refine kr _ ⟨?_, trivial⟩
    show (if (0 : Int) = 0 then (if ym_cmp v (Int64.ofNat 0) = 0 then (0 : Int) else 255) else b 0) = _
    rw [if_pos rfl]
    by_cases h2 : v.toInt = 0
    · rw [if_pos h2, if_pos (zl_eq.mpr h2)]
    · rw [if_neg h2, if_neg (fun y => h2 (zl_eq.mp y))]
  · have e0 : zs_nb k v.toInt = zs_by v.toInt (zs_dn v.toInt 8) := by unfold zs_nb; rw [if_neg h1]
    rw [e0, zs_by_len] at kr
    have byl : ∀ (n : Nat) (z2 : Int) (b2 : Int → Int) (a4 : Int), n ≤ 8 → 0 ≤ z2 → z2 + n ≤ 8 → ym_Rt sc P K none (rv s p l g x c e (z2+n) (za b2 z2 (zs_by v.toInt n)) f F q A B C h o W S) → ym_Go sc P K (113, 75, [some (ym_P 12), some (ym_I k), some (ym_J v), none, some (ym_I a4), some (ym_I ((n : Int) - 1))], []) (rv s p l g x c e z2 b2 f F q A B C h o W S) := by
      intro n
      induction n with
      | zero =>
        intro z2 b2 a4 hn hz hzn kr2
        refine sg_113_75 (zy H) _ _ _ _ ⟨by decide, fun _ => ?_, fun w => absurd w (by decide)⟩
        rw [show z2 + ((0 : Nat) : Int) = z2 by omega] at kr2
        exact kr2
      | succ n ih =>
        intro z2 b2 a4 hn hz hzn kr2
        refine sg_113_75 (zy H) _ _ _ _ ?_
        simp only [rv_12_20, rv_12_21, rv_12_22, rv_12_23, rv_12_24, rv_12_25, rv_12_26, rv_12_28, rv_12_38, rv_12_42, rv_12_0, rv_12_1, rv_12_15, rv_12_16, rv_12_18, rv_28, rv_37, rv_38, rv_39, rv_40, rv_41, rv_29, rv_30, rv_31, rv_32, rv_33, rv_34, rv_35, rv_36, rv_42, rv_43, rv_44, rv_13, rv_14, rv_15, rv_16, rv_17, rv_18, rv_19, rv_20, rv_21, rv_22, rv_23, rv_24, rv_25, rv_26, rv_27, rv_r, rv_w12_20, rv_w12_21, rv_w12_22, rv_w12_23, rv_w12_24, rv_w12_25, rv_w12_26, rv_w12_28, rv_w12_38, rv_w12_42, rv_w28, rv_w37, rv_w38, rv_w39, rv_w40, rv_w41, rv_w29, rv_w30, rv_w31, rv_w32, rv_w33, rv_w34, rv_w35, rv_w36, rv_w42, rv_w43, rv_w44]
        rw [show ((n + 1 : Nat) : Int) - 1 = (n : Int) by omega]
        refine ⟨⟨by omega, by omega⟩, fun w => by exfalso; omega, fun _ => ⟨⟨by omega, by omega⟩, ⟨by omega, by omega⟩, ?_⟩⟩
        rw [zl_byte (by omega), show (n : Int) + -1 = (n : Int) - 1 by omega]
        refine ih (z2 + 1) _ a4 (by omega) (by omega) (by omega) ?_
        rw [zs_by, za] at kr2
        rw [show z2 + 1 + (n : Int) = z2 + ((n + 1 : Nat) : Int) by omega]
        exact kr2
    have dnl : ∀ n : Nat, n + 1 ≤ 8 → zs_dn v.toInt 8 = zs_dn v.toInt (n + 1) → ym_Go sc P K (113, 39, [some (ym_P 12), some (ym_I k), some (ym_J v), none, some (ym_I ((n + 1 : Nat) : Int)), none], []) (rv s p l g x c e 0 b f F q A B C h o W S) := by
      have fin : ∀ n : Nat, n ≤ 8 → zs_dn v.toInt 8 = n → ym_Go sc P K (113, 75, [some (ym_P 12), some (ym_I k), some (ym_J v), none, some (ym_I (n : Int)), some (ym_I ((n : Int) - 1))], []) (rv s p l g x c e 0 b f F q A B C h o W S) := by
        intro n hn hd
        refine byl n 0 b _ hn (by decide) (by omega) ?_
        rw [hd, ] at kr
        rw [Int.zero_add]
        have := kr (za b 0 (zs_by v.toInt n)) (zr_za _ _ _)
        exact this
      intro n
      induction n with
      | zero =>
        intro hn hd
        refine sg_113_39 (zy H) _ _ _ ⟨by decide, fun w => absurd w (by decide), fun _ => fin 1 (by decide) ?_⟩
        rw [hd]
        rfl
      | succ n ih =>
        intro hn hd
        refine sg_113_39 (zy H) _ _ _ ⟨⟨by omega, by omega⟩, fun _ => ⟨fun hc => ?_, fun hc => ?_⟩, fun w => by exfalso; omega⟩
        · have hf := (zl_fit (n := n) (by omega)).mp hc
          rw [show ((n + 1 + 1 : Nat) : Int) + -1 = ((n + 1 : Nat) : Int) by omega]
          refine ih (by omega) ?_
          rw [hd, zs_dn_2, hf, if_pos rfl]
        · have hf : zs_fit v.toInt (n + 1) = false := by
            generalize hb : zs_fit v.toInt (n + 1) = bb at *
            cases bb with
            | false => rfl
            | true => exact absurd ((zl_fit (n := n) (by omega)).mpr hb) hc
          refine fin (n + 1 + 1) (by omega) ?_
          rw [hd, zs_dn_2, hf, if_neg (by decide)]
    exact dnl 7 (by decide) rfl
/-- wrapped once for each EXPLICIT tag, then compared -/
theorem rc_114h (H : zh sc K 3) {t : Int} {v : Int64} {a4 a5 a6 : Int} (a7 a8 : Int) (hq : q = a7 + 1) (h7 : 1 ≤ a7) (h7b : a7 < 130) (h80 : 0 ≤ a8) {Y : Int × List Int} (aY : zs_all Y.2) (res : List Int) : ∀ (m : Nat) (ws X : List Int) (gk : Int) (A B C : Int → Int) (h : Int) (o : Int → Int), ws.length = m → m ≤ 16 → (∀ w ∈ ws, 0 ≤ w ∧ w < 8388608) → zr W 0 ws → zs_wr ws X = res → rP A B C o h a7 (gk, X) → zs_all X → (X.length : Int) + 6 * m ≤ 120 → rP A B C o h (a7 - 1) Y → a8 ≤ h → h + (m : Int) * 130 + 300 ≤ 9000 → (∀ (A2 B2 C2 o2 : Int → Int), (∀ j, j < a7 → A2 j = A j ∧ B2 j = B j ∧ C2 j = C j) → (∀ j, 0 ≤ j → j < h → o2 j = o j) → ym_Rt sc P K (some (ym_I (if Y.2 = res then 1 else 0))) (rv s p l g x c e z b f F a7 A2 B2 C2 a8 o2 W S)) → ym_Go sc P K (114, 143, [some (ym_P 12), some (ym_I t), some (ym_J v), none, some (ym_I a4), some (ym_I a5), some (ym_I a6), some (ym_I a7), some (ym_I a8), some (ym_I ((m : Int) - 1)), none], []) (rv s p l g x c e z b f F q A B C h o W S) := by
  intro m
  induction m with
  | zero =>
    intro ws X gk A B C h o hm hm16 hws hW hres hX aX hXl hY h8' hroom kr
    have e1 : ws = [] := List.length_eq_zero_iff.mp hm
    subst e1
    have e2 : X = res := hres
    subst e2
    obtain ⟨x1, x2, x3, x4, x5⟩ := hX
    obtain ⟨y1, y2, y3, y4, y5⟩ := hY
    change B a7 = (X.length : Int) at x2
    change zr o (A a7) X at x3
    have fin := kr A B C o (fun _ _ => ⟨rfl, rfl, rfl⟩) (fun _ _ _ => rfl)
    refine sg_114_143 (zy H) _ _ _ _ _ _ _ _ ?_
    simp only [rv_12_20, rv_12_21, rv_12_22, rv_12_23, rv_12_24, rv_12_25, rv_12_26, rv_12_28, rv_12_38, rv_12_42, rv_12_0, rv_12_1, rv_12_15, rv_12_16, rv_12_18, rv_28, rv_37, rv_38, rv_39, rv_40, rv_41, rv_29, rv_30, rv_31, rv_32, rv_33, rv_34, rv_35, rv_36, rv_42, rv_43, rv_44, rv_13, rv_14, rv_15, rv_16, rv_17, rv_18, rv_19, rv_20, rv_21, rv_22, rv_23, rv_24, rv_25, rv_26, rv_27, rv_r, rv_w12_20, rv_w12_21, rv_w12_22, rv_w12_23, rv_w12_24, rv_w12_25, rv_w12_26, rv_w12_28, rv_w12_38, rv_w12_42, rv_w28, rv_w37, rv_w38, rv_w39, rv_w40, rv_w41, rv_w29, rv_w30, rv_w31, rv_w32, rv_w33, rv_w34, rv_w35, rv_w36, rv_w42, rv_w43, rv_w44]
    refine ⟨by decide, fun _ => ⟨⟨by omega, by omega⟩, ⟨by omega, by omega⟩, ?_⟩, fun w => absurd w (by decide)⟩
    rw [x2, y2]
    have a7in : ym_in a7 := ⟨by omega, by omega⟩
    have a8in : ym_in a8 := ⟨by omega, by omega⟩
    -- the end
    have stop : ∀ (a9 a10 : Int), (a9 = 0 ∨ a9 = 1) → 0 ≤ a10 → a10 ≤ X.length → (a9 = 0 ∨ a10 = X.length) → (if Y.2 = X then (1 : Int) else 0) = a9 → ym_Go sc P K (114, 196, [some (ym_P 12), some (ym_I t), some (ym_J v), none, some (ym_I a4), some (ym_I a5), some (ym_I a6), some (ym_I a7), some (ym_I a8), some (ym_I a9), some (ym_I a10)], []) (rv s p l g x c e z b f F q A B C h o W S) := by
      intro a9 a10 h9 h10 h10' hst hval
      rw [hval] at fin
      refine sg_114_196 (zy H) _ _ _ _ _ _ _ _ _ ?_
      simp only [rv_12_20, rv_12_21, rv_12_22, rv_12_23, rv_12_24, rv_12_25, rv_12_26, rv_12_28, rv_12_38, rv_12_42, rv_12_0, rv_12_1, rv_12_15, rv_12_16, rv_12_18, rv_28, rv_37, rv_38, rv_39, rv_40, rv_41, rv_29, rv_30, rv_31, rv_32, rv_33, rv_34, rv_35, rv_36, rv_42, rv_43, rv_44, rv_13, rv_14, rv_15, rv_16, rv_17, rv_18, rv_19, rv_20, rv_21, rv_22, rv_23, rv_24, rv_25, rv_26, rv_27, rv_r, rv_w12_20, rv_w12_21, rv_w12_22, rv_w12_23, rv_w12_24, rv_w12_25, rv_w12_26, rv_w12_28, rv_w12_38, rv_w12_42, rv_w28, rv_w37, rv_w38, rv_w39, rv_w40, rv_w41, rv_w29, rv_w30, rv_w31, rv_w32, rv_w33, rv_w34, rv_w35, rv_w36, rv_w42, rv_w43, rv_w44]
      rw [x2]
      exact ⟨⟨by omega, by omega⟩, ⟨by omega, by omega⟩, fun w => ⟨⟨by omega, by omega⟩, fun _ => ⟨a7in, a8in, h9, fin⟩, fun w2 => by exfalso; omega⟩, fun _ => ⟨a7in, a8in, h9, fin⟩⟩
    by_cases hl : X.length = Y.2.length
    · rw [if_pos (by omega)]
      have loop : ∀ (xs ys : List Int) (j : Int), j + xs.length = X.length → 0 ≤ j → xs.length = ys.length → zr o (A a7 + j) xs → zr o (A (a7 - 1) + j) ys → (Y.2 = X ↔ ys = xs) → ym_Go sc P K (114, 196, [some (ym_P 12), some (ym_I t), some (ym_J v), none, some (ym_I a4), some (ym_I a5), some (ym_I a6), some (ym_I a7), some (ym_I a8), some (ym_I 1), some (ym_I j)], []) (rv s p l g x c e z b f F q A B C h o W S) := by
        intro xs
        induction xs with
        | nil =>
          intro ys j hj hj0 hlen zx zy2 hiff
          have : ys = [] := List.length_eq_zero_iff.mp hlen.symm
          simp at hj
          exact stop 1 j (Or.inr rfl) hj0 (by omega) (Or.inr (by omega)) (by rw [if_pos (hiff.mpr this)])
        | cons a xs ih =>
          intro ys j hj hj0 hlen zx zy2 hiff
          cases ys with
          | nil => cases hlen
          | cons bb ys =>
            rw [List.length_cons] at hj
            refine sg_114_196 (zy H) _ _ _ _ _ _ _ _ _ ?_
            simp only [rv_12_20, rv_12_21, rv_12_22, rv_12_23, rv_12_24, rv_12_25, rv_12_26, rv_12_28, rv_12_38, rv_12_42, rv_12_0, rv_12_1, rv_12_15, rv_12_16, rv_12_18, rv_28, rv_37, rv_38, rv_39, rv_40, rv_41, rv_29, rv_30, rv_31, rv_32, rv_33, rv_34, rv_35, rv_36, rv_42, rv_43, rv_44, rv_13, rv_14, rv_15, rv_16, rv_17, rv_18, rv_19, rv_20, rv_21, rv_22, rv_23, rv_24, rv_25, rv_26, rv_27, rv_r, rv_w12_20, rv_w12_21, rv_w12_22, rv_w12_23, rv_w12_24, rv_w12_25, rv_w12_26, rv_w12_28, rv_w12_38, rv_w12_42, rv_w28, rv_w37, rv_w38, rv_w39, rv_w40, rv_w41, rv_w29, rv_w30, rv_w31, rv_w32, rv_w33, rv_w34, rv_w35, rv_w36, rv_w42, rv_w43, rv_w44]
            rw [x2, zx.1, zy2.1]
            refine ⟨⟨by omega, by omega⟩, ⟨by omega, by omega⟩, fun _ => ⟨by decide, fun w => absurd w (by decide), fun _ => ⟨⟨by omega, by omega⟩, ⟨by omega, by omega⟩, ⟨by omega, by omega⟩, ⟨by omega, by omega⟩, ?_⟩⟩, fun w => by exfalso; omega⟩
            by_cases hab : a = bb
            · rw [if_pos hab]
              refine ih ys (j + 1) (by omega) (by omega) (by simpa using hlen) ?_ ?_ ?_
              · rw [show A a7 + (j + 1) = A a7 + j + 1 by omega]; exact zx.2
              · rw [show A (a7 - 1) + (j + 1) = A (a7 - 1) + j + 1 by omega]; exact zy2.2
              · rw [hiff, hab]
                simp
            · rw [if_neg hab]
              refine stop 0 (j + 1) (Or.inl rfl) (by omega) (by omega) (Or.inl rfl) ?_
              rw [if_neg]
              intro w
              exact hab (List.head_eq_of_cons_eq (hiff.mp w)).symm
      exact loop X Y.2 0 (by omega) (by decide) hl (by rw [Int.add_zero]; exact x3) (by rw [Int.add_zero]; exact y3) Iff.rfl
    · rw [if_neg (by omega)]
      refine stop 0 0 (Or.inl rfl) (by decide) (by omega) (Or.inl rfl) ?_
      rw [if_neg]
      intro w
      exact hl (by rw [w])
  | succ m ih =>
    intro ws X gk A B C h o hm hm16 hws hW hres hX aX hXl hY h8' hroom kr
    have hne : ws ≠ [] := fun w => by rw [w] at hm; cases hm
    obtain ⟨T, w, hT⟩ : ∃ T w, ws = T ++ [w] := ⟨ws.dropLast, ws.getLast hne, (List.dropLast_concat_getLast hne).symm⟩
    subst hT
    have hTl : T.length = m := by
      rw [List.length_append] at hm
      simp at hm
      exact hm
    have hWs := zr_split hW
    have hWm : W (m : Int) = w := by
      have := hWs.2.1
      rw [hTl, Int.zero_add] at this
      exact this
    obtain ⟨w0, w1⟩ := hws w (by simp)
    have h6 := zs_enc_6 w 1 X
    refine sg_114_143 (zy H) _ _ _ _ _ _ _ _ ?_
    simp only [rv_12_20, rv_12_21, rv_12_22, rv_12_23, rv_12_24, rv_12_25, rv_12_26, rv_12_28, rv_12_38, rv_12_42, rv_12_0, rv_12_1, rv_12_15, rv_12_16, rv_12_18, rv_28, rv_37, rv_38, rv_39, rv_40, rv_41, rv_29, rv_30, rv_31, rv_32, rv_33, rv_34, rv_35, rv_36, rv_42, rv_43, rv_44, rv_13, rv_14, rv_15, rv_16, rv_17, rv_18, rv_19, rv_20, rv_21, rv_22, rv_23, rv_24, rv_25, rv_26, rv_27, rv_r, rv_w12_20, rv_w12_21, rv_w12_22, rv_w12_23, rv_w12_24, rv_w12_25, rv_w12_26, rv_w12_28, rv_w12_38, rv_w12_42, rv_w28, rv_w37, rv_w38, rv_w39, rv_w40, rv_w41, rv_w29, rv_w30, rv_w31, rv_w32, rv_w33, rv_w34, rv_w35, rv_w36, rv_w42, rv_w43, rv_w44]
    rw [show ((m + 1 : Nat) : Int) - 1 = (m : Int) by omega, hWm]
    refine ⟨⟨by omega, by omega⟩, fun w => by exfalso; omega, fun _ => ⟨⟨by omega, by omega⟩, ?_⟩⟩
    have e1 : zs_fl [(gk, X)] = X := by
      show X ++ [] = X
      rw [List.append_nil]
    refine rc_110 (ks := [(gk, X)]) (zk H) (by omega) (by rw [hq]; rfl) (by omega) (by omega) ⟨hX, trivial⟩ (fun y hy => by rw [List.mem_singleton.mp hy]; exact aX) w0 w1 (by rw [e1]; omega) (by omega) (by omega) ?_
    rw [e1]
    refine ym_rt_cons (sg_114_161 (zy H) _ _ _ _ _ _ _ _ ?_)
    rw [show (m : Int) + -1 = (m : Int) - 1 by omega, ← hq]
    have hxx : h + ((zs_enc w 1 X).length : Int) ≤ h + 130 := by omega
    refine ih T (zs_enc w 1 X) w _ _ _ _ _ hTl (by omega) (fun y hy => hws y (by simp [hy])) hWs.1 (by rw [← zs_wr_snoc]; exact hres) ?_ (zs_enc_all w0 w1 (Or.inr rfl) aX (by omega)) (by omega) ?_ (by omega) (by omega) (fun A2 B2 C2 o2 k1 k2 => kr A2 B2 C2 o2 (fun j hj => ?_) (fun j j0 j1 => ?_))
    · refine ⟨?_, ?_, ?_, ?_, ?_⟩
      · show (if a7 = a7 then w else C a7) = w
        rw [if_pos rfl]
      · show (if a7 = a7 then ((zs_enc w 1 X).length : Int) else B a7) = _
        rw [if_pos rfl]
      · show zr _ (if a7 = a7 then h else A a7) _
        rw [if_pos rfl]
        exact zr_za _ _ _
      · show 0 ≤ (if a7 = a7 then h else A a7)
        rw [if_pos rfl]
        omega
      · show (if a7 = a7 then h else A a7) + (if a7 = a7 then ((zs_enc w 1 X).length : Int) else B a7) ≤ _
        rw [if_pos rfl, if_pos rfl]
        omega
    · refine rP_of hY ?_ ?_ ?_ (fun j j0 j1 => za_lt _ _ _ _ j1) (by omega)
      · show (if a7 - 1 = a7 then _ else A (a7 - 1)) = _
        rw [if_neg (by omega)]
      · show (if a7 - 1 = a7 then _ else B (a7 - 1)) = _
        rw [if_neg (by omega)]
      · show (if a7 - 1 = a7 then _ else C (a7 - 1)) = _
        rw [if_neg (by omega)]
    · obtain ⟨v1, v2, v3⟩ := k1 j hj
      refine ⟨v1.trans ?_, v2.trans ?_, v3.trans ?_⟩
      · show (if j = a7 then _ else A j) = _
        rw [if_neg (by omega)]
      · show (if j = a7 then _ else B j) = _
        rw [if_neg (by omega)]
      · show (if j = a7 then _ else C j) = _
        rw [if_neg (by omega)]
    · rw [k2 j j0 (by omega), za_lt _ _ _ _ j1]
/-- down the tags -/
theorem rc_114w (H : zh sc K 3) {E : zEnv} {n : Int} (hW : zWF E n) (h13 : s.1 13 = E.1 13) (h14 : s.1 14 = E.1 14) (h15 : s.1 15 = E.1 15) (h16 : s.1 16 = E.1 16) {t : Int} {v : Int64} {Y : Int × List Int} (aY : zs_all Y.2) (hY : rP A B C o h (q - 1) Y) (hq : 1 ≤ q) (hq2 : q < 129) (hh0 : 0 ≤ h) (hroom : h + 3000 ≤ 9000) (res : List Int) : ∀ (k : Nat) (u m a6 : Int) (ws : List Int) (W : Int → Int) (a7 : Option Int), 0 ≤ u → u < n → u < k → m = ws.length → m + u ≤ 16 → (∀ w ∈ ws, 0 ≤ w ∧ w < 8388608) → zr W 0 ws → (a6 = -1 ∨ (0 ≤ a6 ∧ a6 < 8388608)) → E.1 13 (eNc E 17 u) = 0 → zs_wr ws (zs_de E v.toInt k u (if a6 < 0 then E.1 14 u else a6)) = res → (∀ (z2 : Int) (b2 W2 A2 B2 C2 o2 : Int → Int), (∀ j, j < q → A2 j = A j ∧ B2 j = B j ∧ C2 j = C j) → (∀ j, 0 ≤ j → j < h → o2 j = o j) → ym_Rt sc P K (some (ym_I (if Y.2 = res then 1 else 0))) (rv s p l g x c e z2 b2 f F q A2 B2 C2 h o2 W2 S)) → ym_Go sc P K (114, 9, [some (ym_P 12), some (ym_I t), some (ym_J v), none, some (ym_I u), some (ym_I m), some (ym_I a6), a7.map ym_I, none, none, none], []) (rv s p l g x c e z b f F q A B C h o W S) := by
  have hn := hW.1
  intro k
  induction k with
  | zero => intro u m a6 ws W a7 u0 u1 u2; exfalso; omega
  | succ k ih =>
    intro u m a6 ws W a7 u0 u1 u2 hm hmu hws hWz h6 hnum hres kr
    have tag : 0 ≤ E.1 14 u ∧ E.1 14 u < 8388608 := by
      have hf := zWf_of hW u0 u1
      have hch : eCh E u = false := by
        cases hb : eCh E u with
        | false => rfl
        | true =>
          exfalso
          unfold eCh at hb
          simp at hb
          have e1 := eNc_co hW 17 u u0 u1 (by omega)
          have e2 : eCo E 17 u = u := by
            unfold eCo
            rw [if_neg (by omega)]
          rw [e2, if_neg (by omega)] at e1
          rw [e1] at hnum
          omega
      obtain ⟨f1, f2, f3, f4⟩ := hf
      obtain ⟨g1, g2⟩ := f4 hch
      have := f3 0 (by decide) (by omega)
      rw [Int.add_zero] at this
      rw [← g2]
      exact this
    obtain ⟨gg, hgg⟩ : ∃ gg, gg = (if a6 < 0 then E.1 14 u else a6) := ⟨_, rfl⟩
    have hgb : 0 ≤ gg ∧ gg < 8388608 := by
      rw [hgg]
      split <;> omega
    rw [← hgg] at hres
    have uin : (0 : Int) ≤ u ∧ u < 16 := ⟨u0, by omega⟩
    have a6in : ym_in a6 := ⟨by omega, by omega⟩
    have ggin : -2147483648 ≤ gg ∧ gg < 2147483648 := ⟨by omega, by omega⟩
    have down : (E.1 13 u = 1 ∨ E.1 13 u = 2) → (ym_in a6 ∧ (a6 < 0 → (0 : Int) ≤ u ∧ u < 16)) ∧ ((0 : Int) ≤ u ∧ u < 16) ∧ (E.1 13 u = 2 → ((0 : Int) ≤ m ∧ m < 16) ∧ (-2147483648 ≤ gg ∧ gg < 2147483648) ∧ ((0 : Int) ≤ u ∧ u < 16) ∧ ym_Go sc P K (114, 9, [some (ym_P 12), some (ym_I t), some (ym_J v), none, some (ym_I (E.1 16 u)), some (ym_I (m + 1)), some (ym_I (-1)), some (ym_I gg), none, none, none], []) (rv s p l g x c e z b f F q A B C h o (zu W m gg) S)) ∧ (¬ E.1 13 u = 2 → ((0 : Int) ≤ u ∧ u < 16) ∧ ym_Go sc P K (114, 9, [some (ym_P 12), some (ym_I t), some (ym_J v), none, some (ym_I (E.1 16 u)), some (ym_I m), some (ym_I gg), some (ym_I gg), none, none, none], []) (rv s p l g x c e z b f F q A B C h o W S)) := by
      intro h12
      have wi : zWi E u := h12.elim (fun y => (zW_w1 hW u0 u1 y).1) (fun y => (zW_w2 hW u0 u1 y).1)
      have wi2 := wi.2
      have wi1 := wi.1
      have hnc : eNc E 17 u = eNc E 17 (E.1 16 u) := by
        have : eNc E (16 + 1) u = eNc E 16 (E.1 16 u) := by
          rw [eNc, if_pos h12]
        rw [this]
        exact eNc_fuel hW 16 17 _ wi.1 (by omega) (by omega) (by omega)
      rw [hnc] at hnum
      refine ⟨⟨a6in, fun _ => uin⟩, uin, fun h2 => ⟨⟨by omega, by omega⟩, ggin, uin, ?_⟩, fun h2 => ⟨uin, ?_⟩⟩
      · refine ih (E.1 16 u) (m + 1) (-1) (ws ++ [gg]) (zu W m gg) (some gg) wi.1 (by omega) (by omega) (by rw [List.length_append]; simp; omega) (by omega) (fun w hw => ?_) ?_ (Or.inl rfl) hnum ?_ kr
        · rcases List.mem_append.mp hw with hw | hw
          · exact hws w hw
          · rw [List.mem_singleton.mp hw]
            exact hgb
        · refine zr_app (zr_of W _ ws 0 hWz (fun j j0 j1 => ?_)) ⟨?_, trivial⟩
          · show (if j = m then gg else W j) = W j
            rw [if_neg (by omega)]
          · show (if 0 + (ws.length : Int) = m then gg else W _) = gg
            rw [if_pos (by omega)]
        · rw [zs_wr_snoc, if_pos (by decide), ← hres]
          rw [zs_de, if_neg (by omega), if_pos h2]
      · have h1 : E.1 13 u = 1 := by omega
        refine ih (E.1 16 u) m gg ws W (some gg) wi.1 (by omega) (by omega) hm (by omega) hws hWz (Or.inr hgb) hnum ?_ kr
        rw [if_neg (by omega), ← hres]
        rw [zs_de, if_pos h1]
    have leaf : ¬ E.1 13 u = 1 → ¬ E.1 13 u = 2 → ∀ a7 : Option Int, ym_Go sc P ((114, 101, [some (ym_P 12), some (ym_I t), some (ym_J v), none, some (ym_I u), some (ym_I m), some (ym_I a6), a7.map ym_I, none, none, none], []) :: K) (113, 0, [some (ym_P 12), some (ym_I (E.1 15 u)), some (ym_J v), none, none, none], []) (rv s p l g x c e z b f F q A B C h o W S) := by
      intro n1 n2 a7
      have e1 := eNc_co hW 17 u u0 u1 (by omega)
      have e2 : eCo E 17 u = u := by
        unfold eCo
        rw [if_neg n1]
      rw [e2, if_neg n2] at e1
      rw [e1] at hnum
      obtain ⟨wk, -⟩ := zW_w0 hW u0 u1 hnum
      have hde : zs_de E v.toInt (k + 1) u gg = zs_enc gg 0 (zs_nb (E.1 15 u) v.toInt) := by
        rw [zs_de, if_neg n1, if_neg n2]
      rw [hde] at hres
      have hnb := zs_nb_b (E.1 15 u) v
      have h6' := zs_enc_6 gg 0 (zs_nb (E.1 15 u) v.toInt)
      refine rc_113 (zm (zk H) (by omega)) ⟨by omega, by omega⟩ (fun b2 hb2 => ym_rt_cons ?_)
      have body : (ym_in a6 ∧ (a6 < 0 → (0 : Int) ≤ u ∧ u < 16)) ∧ ym_Go sc P ((114, 134, [some (ym_P 12), some (ym_I t), some (ym_J v), none, some (ym_I u), some (ym_I m), some (ym_I a6), some (ym_I q), some (ym_I h), none, none], []) :: K) (109, 0, [some (ym_P 12), some (ym_I gg), none, none], []) (rv s p l g x c e (((zs_nb (E.1 15 u) v.toInt).length : Int)) b2 f F q A B C h o W S) := by
        refine ⟨⟨a6in, fun _ => uin⟩, rc_109 (zk H) hgb.1 hgb.2 rfl (by omega) hb2 hnb.2 hh0 (by omega) (by omega) (by omega) (ym_rt_cons (sg_114_137 (zy H) _ _ _ _ _ _ _ ?_))⟩
        obtain ⟨mn, hmn⟩ := zn_nat (show 0 ≤ m by omega)
        subst hmn
        refine rc_114h H q h rfl hq (by omega) hh0 aY res mn ws (zs_enc gg 0 (zs_nb (E.1 15 u) v.toInt)) gg _ _ _ _ _ (by omega) (by omega) hws hWz hres ?_ (zs_enc_all hgb.1 hgb.2 (Or.inl rfl) hnb.2 (by omega)) (by omega) ?_ (by omega) (by omega) (fun A2 B2 C2 o2 k1 k2 => kr _ _ _ A2 B2 C2 o2 (fun j hj => ?_) (fun j j0 j1 => ?_))
        · refine ⟨?_, ?_, ?_, ?_, ?_⟩
          · show (if q = q then gg else C q) = gg
            rw [if_pos rfl]
          · show (if q = q then ((zs_enc gg 0 (zs_nb (E.1 15 u) v.toInt)).length : Int) else B q) = _
            rw [if_pos rfl]
          · show zr _ (if q = q then h else A q) _
            rw [if_pos rfl]
            exact zr_za _ _ _
          · show 0 ≤ (if q = q then h else A q)
            rw [if_pos rfl]
            omega
          · show (if q = q then h else A q) + (if q = q then ((zs_enc gg 0 (zs_nb (E.1 15 u) v.toInt)).length : Int) else B q) ≤ _
            rw [if_pos rfl, if_pos rfl]
            omega
        · refine rP_of hY ?_ ?_ ?_ (fun j j0 j1 => za_lt _ _ _ _ j1) (by omega)
          · show (if q - 1 = q then _ else A (q - 1)) = _
            rw [if_neg (by omega)]
          · show (if q - 1 = q then _ else B (q - 1)) = _
            rw [if_neg (by omega)]
          · show (if q - 1 = q then _ else C (q - 1)) = _
            rw [if_neg (by omega)]
        · obtain ⟨v1, v2, v3⟩ := k1 j hj
          refine ⟨v1.trans ?_, v2.trans ?_, v3.trans ?_⟩
          · show (if j = q then _ else A j) = _
            rw [if_neg (by omega)]
          · show (if j = q then _ else B j) = _
            rw [if_neg (by omega)]
          · show (if j = q then _ else C j) = _
            rw [if_neg (by omega)]
        · rw [k2 j j0 (by omega), za_lt _ _ _ _ j1]
      cases a7
      · refine sg_114_104 (zy H) _ _ _ _ _ ?_
        simp only [rv_12_20, rv_12_21, rv_12_22, rv_12_23, rv_12_24, rv_12_25, rv_12_26, rv_12_28, rv_12_38, rv_12_42, rv_12_0, rv_12_1, rv_12_15, rv_12_16, rv_12_18, rv_28, rv_37, rv_38, rv_39, rv_40, rv_41, rv_29, rv_30, rv_31, rv_32, rv_33, rv_34, rv_35, rv_36, rv_42, rv_43, rv_44, rv_13, rv_14, rv_15, rv_16, rv_17, rv_18, rv_19, rv_20, rv_21, rv_22, rv_23, rv_24, rv_25, rv_26, rv_27, rv_r, rv_w12_20, rv_w12_21, rv_w12_22, rv_w12_23, rv_w12_24, rv_w12_25, rv_w12_26, rv_w12_28, rv_w12_38, rv_w12_42, rv_w28, rv_w37, rv_w38, rv_w39, rv_w40, rv_w41, rv_w29, rv_w30, rv_w31, rv_w32, rv_w33, rv_w34, rv_w35, rv_w36, rv_w42, rv_w43, rv_w44]
        rw [h14, ← hgg]
        exact body
      · refine sg_114_104b (zy H) _ _ _ _ _ _ ?_
        simp only [rv_12_20, rv_12_21, rv_12_22, rv_12_23, rv_12_24, rv_12_25, rv_12_26, rv_12_28, rv_12_38, rv_12_42, rv_12_0, rv_12_1, rv_12_15, rv_12_16, rv_12_18, rv_28, rv_37, rv_38, rv_39, rv_40, rv_41, rv_29, rv_30, rv_31, rv_32, rv_33, rv_34, rv_35, rv_36, rv_42, rv_43, rv_44, rv_13, rv_14, rv_15, rv_16, rv_17, rv_18, rv_19, rv_20, rv_21, rv_22, rv_23, rv_24, rv_25, rv_26, rv_27, rv_r, rv_w12_20, rv_w12_21, rv_w12_22, rv_w12_23, rv_w12_24, rv_w12_25, rv_w12_26, rv_w12_28, rv_w12_38, rv_w12_42, rv_w28, rv_w37, rv_w38, rv_w39, rv_w40, rv_w41, rv_w29, rv_w30, rv_w31, rv_w32, rv_w33, rv_w34, rv_w35, rv_w36, rv_w42, rv_w43, rv_w44]
        rw [h14, ← hgg]
        exact body
    cases a7
    · refine sg_114_9 (zy H) _ _ _ _ _ ?_
      simp only [rv_12_20, rv_12_21, rv_12_22, rv_12_23, rv_12_24, rv_12_25, rv_12_26, rv_12_28, rv_12_38, rv_12_42, rv_12_0, rv_12_1, rv_12_15, rv_12_16, rv_12_18, rv_28, rv_37, rv_38, rv_39, rv_40, rv_41, rv_29, rv_30, rv_31, rv_32, rv_33, rv_34, rv_35, rv_36, rv_42, rv_43, rv_44, rv_13, rv_14, rv_15, rv_16, rv_17, rv_18, rv_19, rv_20, rv_21, rv_22, rv_23, rv_24, rv_25, rv_26, rv_27, rv_r, rv_w12_20, rv_w12_21, rv_w12_22, rv_w12_23, rv_w12_24, rv_w12_25, rv_w12_26, rv_w12_28, rv_w12_38, rv_w12_42, rv_w28, rv_w37, rv_w38, rv_w39, rv_w40, rv_w41, rv_w29, rv_w30, rv_w31, rv_w32, rv_w33, rv_w34, rv_w35, rv_w36, rv_w42, rv_w43, rv_w44]
      rw [h13, h14, h15, h16, ← hgg]
      exact ⟨uin, fun y => down (Or.inl y), fun y => ⟨uin, fun y2 => down (Or.inr y2), fun y2 => ⟨uin, leaf y y2 none⟩⟩⟩
    · rename_i a7
      refine sg_114_9b (zy H) _ _ _ _ _ _ ?_
      simp only [rv_12_20, rv_12_21, rv_12_22, rv_12_23, rv_12_24, rv_12_25, rv_12_26, rv_12_28, rv_12_38, rv_12_42, rv_12_0, rv_12_1, rv_12_15, rv_12_16, rv_12_18, rv_28, rv_37, rv_38, rv_39, rv_40, rv_41, rv_29, rv_30, rv_31, rv_32, rv_33, rv_34, rv_35, rv_36, rv_42, rv_43, rv_44, rv_13, rv_14, rv_15, rv_16, rv_17, rv_18, rv_19, rv_20, rv_21, rv_22, rv_23, rv_24, rv_25, rv_26, rv_27, rv_r, rv_w12_20, rv_w12_21, rv_w12_22, rv_w12_23, rv_w12_24, rv_w12_25, rv_w12_26, rv_w12_28, rv_w12_38, rv_w12_42, rv_w28, rv_w37, rv_w38, rv_w39, rv_w40, rv_w41, rv_w29, rv_w30, rv_w31, rv_w32, rv_w33, rv_w34, rv_w35, rv_w36, rv_w42, rv_w43, rv_w44]
      rw [h13, h14, h15, h16, ← hgg]
      exact ⟨uin, fun y => down (Or.inl y), fun y => ⟨uin, fun y2 => down (Or.inr y2), fun y2 => ⟨uin, leaf y y2 (some a7)⟩⟩⟩
theorem rc_114 (H : zh sc K 3) {E : zEnv} {n : Int} (hW : zWF E n) (h13 : s.1 13 = E.1 13) (h14 : s.1 14 = E.1 14) (h15 : s.1 15 = E.1 15) (h16 : s.1 16 = E.1 16) {t : Int} {v : Int64} {Y : Int × List Int} (aY : zs_all Y.2) (hY : rP A B C o h (q - 1) Y) (hq : 1 ≤ q) (hq2 : q < 129) (hh0 : 0 ≤ h) (hroom : h + 3000 ≤ 9000) (t0 : 0 ≤ t) (t1 : t < n) (hnum : E.1 13 (eNc E 17 t) = 0) (kr : ∀ (z2 : Int) (b2 W2 A2 B2 C2 o2 : Int → Int), (∀ j, j < q → A2 j = A j ∧ B2 j = B j ∧ C2 j = C j) → (∀ j, 0 ≤ j → j < h → o2 j = o j) → ym_Rt sc P K (some (ym_I (if Y.2 = zs_df E t v.toInt then 1 else 0))) (rv s p l g x c e z2 b2 f F q A2 B2 C2 h o2 W2 S)) : ym_Go sc P K (114, 0, [some (ym_P 12), some (ym_I t), some (ym_J v), none, none, none, none, none, none, none, none], []) (rv s p l g x c e z b f F q A B C h o W S) := by
  have hn := hW.1
  exact sg_114_0 (zy H) _ _ (rc_114w H hW h13 h14 h15 h16 aY hY hq hq2 hh0 hroom (zs_df E t v.toInt) 17 t 0 (-1) [] W none t0 t1 (by omega) rfl (by omega) (fun w hw => by cases hw) trivial (Or.inl rfl) hnum rfl kr)
end
