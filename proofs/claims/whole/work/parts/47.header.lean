/-! Identifiers and lengths in the strict form: own work. -/
def zs_sv (n : Int) : List Int := if n < 31 then [] else if n < 128 then [n] else if n < 16384 then [n / 128 + 128, n % 128] else [n / 16384 + 128, n / 128 % 128 + 128, n % 128]
def zs_l2 (n : Int) : List Int := if n < 128 then [n] else [129, n]
def zs_ld (g c : Int) : Int := g / 2097152 * 64 + (if c = 0 then 0 else 32) + (if g % 2097152 < 31 then g % 2097152 else 31)
def zs_hd (g c n : Int) : List Int := zs_ld g c :: (zs_sv (g % 2097152) ++ zs_l2 n)
def zs_enc (g c : Int) (l : List Int) : List Int := zs_hd g c l.length ++ l
def zs_sc (n : Int) : Int := if n < 31 then 0 else if n < 128 then 1 else if n < 16384 then 2 else 3
theorem zs_sv_len (n : Int) : ((zs_sv n).length : Int) = zs_sc n := by
  unfold zs_sv zs_sc
  repeat' split
  all_goals simp
theorem zs_sc_b (n : Int) : 0 ≤ zs_sc n ∧ zs_sc n ≤ 3 := by
  unfold zs_sc
  repeat' split
  all_goals omega
theorem zs_l2_len (n : Int) : ((zs_l2 n).length : Int) = if n < 128 then 1 else 2 := by
  unfold zs_l2
  split <;> simp
theorem zs_hd_len (g c n : Int) : ((zs_hd g c n).length : Int) = 1 + zs_sc (g % 2097152) + (if n < 128 then 1 else 2) := by
  unfold zs_hd
  rw [List.length_cons, List.length_append, Int.natCast_add, Int.natCast_add, zs_sv_len, zs_l2_len]
  omega
theorem zs_enc_len (g c : Int) (l : List Int) : ((zs_enc g c l).length : Int) = 1 + zs_sc (g % 2097152) + (if (l.length : Int) < 128 then 1 else 2) + l.length := by
  unfold zs_enc
  rw [List.length_append, Int.natCast_add, zs_hd_len]
def zs_si (a5 a6 a9 : Int) : Int := if a9 < a6 then ym_and (ym_shr a5 (7 * (a6 - a9))) 127 + 128 else ym_and (ym_shr a5 (7 * (a6 - a9))) 127
def zs_sw (a5 a6 : Int) : Nat → Int → List Int
  | 0, _ => []
  | n + 1, a9 => zs_si a5 a6 a9 :: zs_sw a5 a6 n (a9 + 1)
theorem zs_sw_len (a5 a6 : Int) : ∀ (n : Nat) (a9 : Int), (zs_sw a5 a6 n a9).length = n
  | 0, _ => rfl
  | n + 1, a9 => by rw [zs_sw, List.length_cons, zs_sw_len a5 a6 n]
theorem zs_sw_eq {n : Int} (h0 : 0 ≤ n) (h1 : n < 2097152) : zs_sw n (zs_sc n) (zs_sc n).toNat 1 = zs_sv n := by
  unfold zs_sc zs_sv
  have s0 : ym_shr n (7 * (0 : Int)) = n := by
    have := zn_shr (x := n) 0 (by decide) h0 (by omega)
    rw [show ((2 ^ 0 : Nat) : Int) = 1 by rfl, Int.ediv_one] at this
    exact this
  by_cases a : n < 31
  · rw [if_pos a, if_pos a]
    rfl
  · by_cases b : n < 128
    · rw [if_neg a, if_neg a, if_pos b, if_pos b]
      show [zs_si n 1 1] = _
      unfold zs_si
      rw [if_neg (by decide), show (7 * ((1 : Int) - 1)) = 7 * 0 by decide, s0, zn_127 h0 (by omega)]
      rw [Int.emod_eq_of_lt h0 b]
    · by_cases d : n < 16384
      · rw [if_neg a, if_neg a, if_neg b, if_neg b, if_pos d, if_pos d]
        show [zs_si n 2 1, zs_si n 2 (1 + 1)] = _
        unfold zs_si
        rw [if_pos (by decide), if_neg (by decide), show (7 * ((2 : Int) - (1 + 1))) = 7 * 0 by decide, show (7 * ((2 : Int) - 1)) = 7 by decide, s0, zn_127 h0 (by omega), zn_shr7 h0 (by omega), zn_127 (by omega) (by omega), Int.emod_eq_of_lt (a := n / 128) (by omega) (by omega)]
      · rw [if_neg a, if_neg a, if_neg b, if_neg b, if_neg d, if_neg d]
        show [zs_si n 3 1, zs_si n 3 (1 + 1), zs_si n 3 (1 + 1 + 1)] = _
        unfold zs_si
        rw [if_pos (by decide), if_pos (by decide), if_neg (by decide), show (7 * ((3 : Int) - (1 + 1 + 1))) = 7 * 0 by decide, show (7 * ((3 : Int) - (1 + 1))) = 7 by decide, show (7 * ((3 : Int) - 1)) = 14 by decide, s0, zn_127 h0 (by omega), zn_shr7 h0 (by omega), zn_shr14 h0 (by omega), zn_127 (by omega) (by omega), zn_127 (by omega) (by omega), Int.emod_eq_of_lt (a := n / 16384) (by omega) (by omega)]
theorem zn_and127 (x : Int) : 0 ≤ ym_and x 127 ∧ ym_and x 127 < 128 := by
  have e : (Int32.ofInt x &&& Int32.ofInt 127).toBitVec.toNat = (Int32.ofInt x).toBitVec.toNat &&& 127 := by
    rw [Int32.toBitVec_and, BitVec.toNat_and]
    rfl
  have h : (Int32.ofInt x).toBitVec.toNat &&& 127 ≤ 127 := Nat.and_le_right
  have := zn_toInt e (by omega)
  show 0 ≤ (Int32.ofInt x &&& Int32.ofInt 127).toInt ∧ (Int32.ofInt x &&& Int32.ofInt 127).toInt < 128
  omega
theorem zr_shift : ∀ (l : List Int) (o o2 : Int → Int) (a b : Int), zr o a l → (∀ j, 0 ≤ j → j < (l.length : Int) → o2 (b + j) = o (a + j)) → zr o2 b l
  | [], o, o2, a, b, h, h2 => trivial
  | x :: t, o, o2, a, b, h, h2 => by
    rw [List.length_cons] at h2
    refine ⟨?_, zr_shift t o o2 (a + 1) (b + 1) h.2 (fun j h3 h4 => ?_)⟩
    · have := h2 0 (by omega) (by omega)
      rw [Int.add_zero, Int.add_zero] at this
      rw [this]
      exact h.1
    · rw [show b + 1 + j = b + (j + 1) by omega, show a + 1 + j = a + (j + 1) by omega]
      exact h2 (j + 1) (by omega) (by omega)
section
variable {sc : xm_S} {P : xm_O → xm_H → Prop} {K : List ym_F} {s : ym_S} {p g c i e w u q : Int} {m : Int64} {o : Int → Int} {r : Int → Int} {N : Int}
theorem cc_46l (H : zh sc K 0) (p g c i e w u q : Int) (m : Int64) (a1 a2 a3 a4 a5 a6 a7 a8 : Int) (h1 : 0 ≤ a1) (h4 : 0 ≤ a4) (h44 : a4 ≤ 200) (h6 : 0 ≤ a6) (h66 : a6 ≤ 3) (h7 : a7 = 2 + a6 + (if a4 < 128 then 0 else 1)) (h8 : a1 + a7 ≤ 200) : ∀ (n : Nat) (a9 : Int) (o : Int → Int) (x : Option Int), a6 - a9 + 1 = n → 1 ≤ a9 → ym_Rt sc P K none (zc s p g c i e w u q m (za o (a1 + a9) (zs_sw a5 a6 n a9 ++ zs_l2 a4))) → ym_Go sc P K (46, 137, [some (ym_P 8), some (ym_I a1), some (ym_I a2), some (ym_I a3), some (ym_I a4), some (ym_I a5), some (ym_I a6), some (ym_I a7), some (ym_I a8), some (ym_I a9), x.map ym_I], []) (zc s p g c i e w u q m o)
  | 0, a9, o, x, hn, h9, kr => by
    have fin : (a4 < 128 → ((0 : Int) ≤ a1 + a7 - 1 ∧ a1 + a7 - 1 < 200) ∧ ym_in a4 ∧ ym_Rt sc P K none (zc s p g c i e w u q m (zu o (a1 + a7 - 1) a4))) ∧ (128 ≤ a4 → ((0 : Int) ≤ a1 + a7 - 2 ∧ a1 + a7 - 2 < 200) ∧ ((0 : Int) ≤ a1 + a7 - 1 ∧ a1 + a7 - 1 < 200) ∧ ym_in a4 ∧ ym_Rt sc P K none (zc s p g c i e w u q m (zu (zu o (a1 + a7 - 2) 129) (a1 + a7 - 1) a4))) := by
      constructor
      · intro h
        rw [if_pos h] at h7
        rw [zs_sw, List.nil_append, zs_l2, if_pos h, za_one] at kr
        refine ⟨⟨by omega, by omega⟩, ⟨by omega, by omega⟩, ?_⟩
        rw [show a1 + a7 - 1 = a1 + a9 by omega]
        exact kr
      · intro h
        rw [if_neg (by omega)] at h7
        rw [zs_sw, List.nil_append, zs_l2, if_neg (by omega), za, za_one] at kr
        refine ⟨⟨by omega, by omega⟩, ⟨by omega, by omega⟩, ⟨by omega, by omega⟩, ?_⟩
        rw [show a1 + a7 - 2 = a1 + a9 by omega, show a1 + a7 - 1 = a1 + a9 + 1 by omega]
        exact kr
    cases x
    · refine sg_46_137 (zy H) _ _ _ _ _ _ _ _ _ ⟨⟨by omega, by omega⟩, ⟨by omega, by omega⟩, fun _ => ⟨⟨by omega, by omega⟩, ?_⟩, fun z => by exfalso; omega⟩
      simp only [zc_7_2, zc_7_3, zc_7_4, zc_7_5, zc_7_6, zc_7_8, zc_7_9, zc_8_1, zc_7_7, zc_9, zc_1, zc_2, zc_3, zc_4, zc_5, zc_6, zc_10, zc_11, zc_r, zc_w7_2, zc_w7_3, zc_w7_4, zc_w7_5, zc_w7_6, zc_w7_8, zc_w7_9, zc_w8_1, zc_w7_7, zc_w9, zc_p9]
      exact fin
    · refine sg_46_137b (zy H) _ _ _ _ _ _ _ _ _ _ ⟨⟨by omega, by omega⟩, ⟨by omega, by omega⟩, fun _ => ⟨⟨by omega, by omega⟩, ?_⟩, fun z => by exfalso; omega⟩
      simp only [zc_7_2, zc_7_3, zc_7_4, zc_7_5, zc_7_6, zc_7_8, zc_7_9, zc_8_1, zc_7_7, zc_9, zc_1, zc_2, zc_3, zc_4, zc_5, zc_6, zc_10, zc_11, zc_r, zc_w7_2, zc_w7_3, zc_w7_4, zc_w7_5, zc_w7_6, zc_w7_8, zc_w7_9, zc_w8_1, zc_w7_7, zc_w9, zc_p9]
      exact fin
  | n + 1, a9, o, x, hn, h9, kr => by
    have b7 : a7 ≤ 6 ∧ 2 + a6 ≤ a7 := by
      rw [h7]
      split <;> omega
    have bb := ym_and_in (ym_shr a5 (7 * (a6 - a9))) 127
    have b2 : 0 ≤ ym_and (ym_shr a5 (7 * (a6 - a9))) 127 ∧ ym_and (ym_shr a5 (7 * (a6 - a9))) 127 < 128 := zn_and127 _
    have go : ym_in (zs_si a5 a6 a9) ∧ ym_Go sc P K (46, 137, [some (ym_P 8), some (ym_I a1), some (ym_I a2), some (ym_I a3), some (ym_I a4), some (ym_I a5), some (ym_I a6), some (ym_I a7), some (ym_I a8), some (ym_I (a9 + 1)), some (ym_I (ym_and (ym_shr a5 (7 * (a6 - a9))) 127))], []) (zc s p g c i e w u q m (zu o (a1 + a9) (zs_si a5 a6 a9))) := by
      refine ⟨?_, ?_⟩
      · unfold zs_si
        split
        · exact ⟨by omega, by omega⟩
        · exact ⟨by omega, by omega⟩
      · refine cc_46l H p g c i e w u q m a1 a2 a3 a4 a5 a6 a7 a8 h1 h4 h44 h6 h66 h7 h8 n (a9 + 1) _ (some _) (by omega) (by omega) ?_
        rw [zs_sw, List.cons_append, za] at kr
        rw [show a1 + (a9 + 1) = a1 + a9 + 1 by omega]
        exact kr
    cases x
    · refine sg_46_137 (zy H) _ _ _ _ _ _ _ _ _ ⟨⟨by omega, by omega⟩, ⟨by omega, by omega⟩, fun z => by exfalso; omega, fun _ => ⟨⟨⟨by omega, by omega⟩, ⟨by omega, by omega⟩⟩, ⟨by omega, by omega⟩, ?_⟩⟩
      simp only [zc_7_2, zc_7_3, zc_7_4, zc_7_5, zc_7_6, zc_7_8, zc_7_9, zc_8_1, zc_7_7, zc_9, zc_1, zc_2, zc_3, zc_4, zc_5, zc_6, zc_10, zc_11, zc_r, zc_w7_2, zc_w7_3, zc_w7_4, zc_w7_5, zc_w7_6, zc_w7_8, zc_w7_9, zc_w8_1, zc_w7_7, zc_w9, zc_p9]
      exact go
    · refine sg_46_137b (zy H) _ _ _ _ _ _ _ _ _ _ ⟨⟨by omega, by omega⟩, ⟨by omega, by omega⟩, fun z => by exfalso; omega, fun _ => ⟨⟨⟨by omega, by omega⟩, ⟨by omega, by omega⟩⟩, ⟨by omega, by omega⟩, ?_⟩⟩
      simp only [zc_7_2, zc_7_3, zc_7_4, zc_7_5, zc_7_6, zc_7_8, zc_7_9, zc_8_1, zc_7_7, zc_9, zc_1, zc_2, zc_3, zc_4, zc_5, zc_6, zc_10, zc_11, zc_r, zc_w7_2, zc_w7_3, zc_w7_4, zc_w7_5, zc_w7_6, zc_w7_8, zc_w7_9, zc_w8_1, zc_w7_7, zc_w9, zc_p9]
      exact go
theorem cc_47 (H : zh sc K 0) {n : Int} (hn : ym_in n) {s : ym_S} (kr : ym_Rt sc P K (some (ym_I (zs_sc n))) s) : ym_Go sc P K (47, 0, [some (ym_I n)], []) s := by
  have hr : ∀ y, zs_sc n = y → ym_Rt sc P K (some (ym_I y)) s := fun y hy => hy ▸ kr
  refine sg_47_0 (zy H) _ ⟨hn, fun a => hr _ ?_, fun a => ⟨hn, fun b => hr _ ?_, fun b => ⟨hn, hr _ ?_⟩⟩⟩
  · unfold zs_sc; rw [if_pos a]
  · unfold zs_sc; rw [if_neg (by omega), if_pos b]
  · unfold zs_sc; rw [if_neg (by omega), if_neg (by omega)]
theorem cc_46 (H : zh sc K 1) {a1 a2 a3 : Int} {l : List Int} (h1 : 0 ≤ a1) (hq : q = a1 + l.length) (h2 : 0 ≤ a2) (h22 : a2 < 8388608) (h3 : a3 = 0 ∨ a3 = 1) (hz : zr o a1 l) (hlen : a1 + (zs_enc a2 a3 l).length ≤ 200) (kr : ∀ o2 : Int → Int, (∀ j, j < a1 → o2 j = o j) → zr o2 a1 (zs_enc a2 a3 l) → ym_Rt sc P K none (zc s p g c i e w u (a1 + (zs_enc a2 a3 l).length) m o2)) : ym_Go sc P K (46, 0, [some (ym_P 8), some (ym_I a1), some (ym_I a2), some (ym_I a3), none, none, none, none, none, none, none], []) (zc s p g c i e w u q m o) := by
  have b := zs_sc_b (a2 % 2097152)
  have hl := zs_enc_len a2 a3 l
  refine sg_46_0 (zy H) _ _ _ ?_
  simp only [zc_7_2, zc_7_3, zc_7_4, zc_7_5, zc_7_6, zc_7_8, zc_7_9, zc_8_1, zc_7_7, zc_9, zc_1, zc_2, zc_3, zc_4, zc_5, zc_6, zc_10, zc_11, zc_r, zc_w7_2, zc_w7_3, zc_w7_4, zc_w7_5, zc_w7_6, zc_w7_8, zc_w7_9, zc_w8_1, zc_w7_7, zc_w9, zc_p9]
  have e1 : ym_and a2 2097151 = a2 % 2097152 := zn_21 h2 (by omega)
  rw [e1]
  refine cc_47 (zk H) ⟨by omega, by omega⟩ (ym_rt_cons (sg_46_19 (zy H) _ _ _ _ _ _ ?_))
  simp only [zc_7_2, zc_7_3, zc_7_4, zc_7_5, zc_7_6, zc_7_8, zc_7_9, zc_8_1, zc_7_7, zc_9, zc_1, zc_2, zc_3, zc_4, zc_5, zc_6, zc_10, zc_11, zc_r, zc_w7_2, zc_w7_3, zc_w7_4, zc_w7_5, zc_w7_6, zc_w7_8, zc_w7_9, zc_w8_1, zc_w7_7, zc_w9, zc_p9]
  have e2 : q - a1 = (l.length : Int) := by omega
  have e3 : ym_shr a2 21 = a2 / 2097152 := zn_shr21 h2 (by omega)
  rw [e2, e3]
  obtain ⟨z, hz7⟩ : ∃ z : Int, z = if (l.length : Int) < 128 then 0 else 1 := ⟨_, rfl⟩
  rw [← hz7]
  have hzb : (z = 0 ∧ (l.length : Int) < 128) ∨ (z = 1 ∧ 128 ≤ (l.length : Int)) := by
    by_cases h : (l.length : Int) < 128
    · rw [if_pos h] at hz7
      exact Or.inl ⟨hz7, h⟩
    · rw [if_neg h] at hz7
      exact Or.inr ⟨hz7, by omega⟩
  have hl2 : ((zs_enc a2 a3 l).length : Int) = 2 + zs_sc (a2 % 2097152) + z + l.length := by
    rw [hl]
    rcases hzb with ⟨h5, h6⟩ | ⟨h5, h6⟩
    · rw [if_pos h6]; omega
    · rw [if_neg (by omega)]; omega
  have e4 : (if zs_sc (a2 % 2097152) = 0 then (a2 % 2097152 : Int) else 31) = if a2 % 2097152 < 31 then a2 % 2097152 else 31 := by
    by_cases h : a2 % 2097152 < 31
    · rw [if_pos h, zs_sc, if_pos h, if_pos rfl]
    · rw [if_neg h, zs_sc, if_neg h, if_neg]
      split
      · decide
      · split <;> decide
  have e5 : a2 / 2097152 * 64 + (if a3 = 0 then (0 : Int) else 32) + (if zs_sc (a2 % 2097152) = 0 then (a2 % 2097152 : Int) else 31) = zs_ld a2 a3 := by
    rw [e4]
    rfl
  have b6 : 0 ≤ zs_ld a2 a3 ∧ zs_ld a2 a3 < 256 := by
    unfold zs_ld
    have : (if a3 = 0 then (0 : Int) else 32) = 0 ∨ (if a3 = 0 then (0 : Int) else 32) = 32 := by split <;> simp
    have : (if a2 % 2097152 < 31 then a2 % 2097152 else 31) ≤ 31 ∧ 0 ≤ (if a2 % 2097152 < 31 then a2 % 2097152 else 31) := by split <;> omega
    omega
  rw [e5]
  refine ⟨⟨by omega, by omega⟩, ⟨by omega, by omega⟩, fun h => by exfalso; omega, fun _ => ⟨⟨by omega, by omega, by omega, by omega, by omega⟩, ⟨by omega, by omega⟩, ⟨by omega, by omega⟩, ⟨by omega, by omega⟩, ⟨by omega, by omega⟩, ⟨by omega, by omega⟩, ?_⟩⟩
  refine cc_46l (zm H (by omega)) _ _ _ _ _ _ _ _ _ a1 a2 a3 (l.length : Int) (a2 % 2097152) (zs_sc (a2 % 2097152)) _ _ h1 (by omega) (by omega) b.1 b.2 ?_ (by omega) (zs_sc (a2 % 2097152)).toNat 1 _ none (by omega) (by omega) ?_
  · rw [hz7]
  rw [zs_sw_eq (by omega) (by omega)]
  have key : ∀ X : Int → Int, za (zu X a1 (zs_ld a2 a3)) (a1 + 1) (zs_sv (a2 % 2097152) ++ zs_l2 (l.length : Int)) = za X a1 (zs_hd a2 a3 l.length) := fun X => rfl
  rw [key]
  have hhl : ((zs_hd a2 a3 (l.length : Int)).length : Int) = 2 + zs_sc (a2 % 2097152) + z := by
    have : (zs_enc a2 a3 l).length = (zs_hd a2 a3 (l.length : Int)).length + l.length := by unfold zs_enc; rw [List.length_append]
    omega
  rw [show q + (2 + zs_sc (a2 % 2097152) + z) = a1 + (zs_enc a2 a3 l).length by omega]
  refine kr _ (fun j hj => ?_) ?_
  · rw [za_lt _ _ _ _ hj]
    show (if _ ∧ _ then _ else o j) = _
    rw [if_neg (by omega)]
  · unfold zs_enc
    refine zr_app (zr_za _ _ _) ?_
    refine zr_shift l o _ a1 _ hz (fun j h5 h6 => ?_)
    rw [za_ge _ _ _ _ (by omega)]
    show (if _ ∧ _ then o _ else o _) = _
    rw [if_pos (by omega), show a1 + (a1 + (zs_hd a2 a3 (l.length : Int)).length + j - (a1 + (2 + zs_sc (a2 % 2097152) + z))) = a1 + j by omega]
end
