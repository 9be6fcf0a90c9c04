/-! The class' simple types: own work. -/
theorem zl_or8s {x : Int64} {t : Int} (h0 : -36028797018963968 ≤ x.toInt) (h1 : x.toInt < 36028797018963968) (t0 : 0 ≤ t) (t1 : t < 256) : (ym_lshl x 8 ||| ym_i2l t).toInt = x.toInt * 256 + t := by
  have ht : (ym_i2l t).toInt = t := zl_i2l ⟨by omega, by omega⟩
  obtain ⟨k, f1, f2, f3⟩ := zl_nat (x := ym_i2l t) (by omega)
  have e : ym_lshl x 8 ||| ym_i2l t = x * 256 + ym_i2l t := by
    rw [← Int64.toBitVec_inj]
    apply BitVec.eq_of_toNat_eq
    have c : (256 : Int64).toBitVec.toNat = 256 := rfl
    have e4 : (ym_lshl x 8).toBitVec.toNat = (x.toBitVec.toNat % 72057594037927936) * 2 ^ 8 := by
      rw [zl_shl8, BitVec.toNat_shiftLeft, Nat.shiftLeft_eq]
      omega
    rw [Int64.toBitVec_or, BitVec.toNat_or, e4, f2, ← Nat.shiftLeft_eq, ← Nat.shiftLeft_add_eq_or_of_lt (by omega), Nat.shiftLeft_eq, Int64.toBitVec_add, Int64.toBitVec_mul, BitVec.toNat_add, BitVec.toNat_mul, c, f2]
    omega
  have c : (256 : Int64).toInt = 256 := rfl
  rw [e, Int64.toInt_add, Int64.toInt_mul, ht, c, Int.bmod_eq_of_le (n := x.toInt * 256) (by omega) (by omega), Int.bmod_eq_of_le (by omega) (by omega)]
def zs_nm (k : Int) (l : List Int) (w : Int) (m : Int64) : Prop := (k = 1 → w = 0 ∧ m.toInt = if l = [0] then 0 else 1) ∧ (k = 2 → (w = if 8 < l.length then 1 else 0) ∧ (l.length ≤ 8 → m.toInt = zs_val l))
theorem zs_ut_b : ∀ (t : List Int) (miss code least cnt n : Int), zs_ut t miss code least cnt = some n → cnt ≤ n ∧ n ≤ cnt + t.length
  | [], miss, code, least, cnt, n, h => by
    unfold zs_ut at h
    split at h
    · have := Option.some.inj h
      rw [List.length_nil]
      omega
    · cases h
  | x :: t, miss, code, least, cnt, n, h => by
    rw [List.length_cons]
    unfold zs_ut at h
    repeat' split at h
    all_goals first | cases h | (have := zs_ut_b t _ _ _ _ _ h; omega)
section
variable {sc : xm_S} {P : xm_O → xm_H → Prop} {K : List ym_F} {s : ym_S} {p g c i e w u q : Int} {m : Int64} {o : Int → Int} {r : Int → Int} {N l : Int} {k : Nat} {ff gg bd : Int} {lo hi : Int64}
theorem cc_68 (H : zh sc K 8) (hI : zIn s r N) (hT : zT s k ff gg bd lo hi) (hp : 0 ≤ p) (hpe : p ≤ e) (he : e ≤ N) (hi2 : i = 0 ∨ i = 1) (hq : 0 ≤ q) (hqp : q ≤ p) (kx : zs_os r ff bd lo hi c i e p = none → zBad sc P K s) (kr : ∀ l b, zs_os r ff bd lo hi c i e p = some (l, b) → ∀ g2 c2 i2 e2, ym_Rt sc P K none (zc s b g2 c2 i2 e2 w u (q+l.length) m (za o q l))) : ym_Go sc P K (68, 0, [some (ym_P 7), some (ym_Q k), none, none], []) (zc s p g c i e w u q m o) := by
  have hN := hI.2.1
  refine sg_68_0 (zy H) _ ?_
  simp only [zc_7_2, zc_7_3, zc_7_4, zc_7_5, zc_7_6, zc_7_8, zc_7_9, zc_8_1, zc_7_7, zc_9, zc_1, zc_2, zc_3, zc_4, zc_5, zc_6, zc_10, zc_11, zc_r, zc_w7_2, zc_w7_3, zc_w7_4, zc_w7_5, zc_w7_6, zc_w7_8, zc_w7_9, zc_w8_1, zc_w7_7, zc_w9, zc_p9]
  have h69 := cc_69 (sc := sc) (P := P) hI false 4 (Nat.le_refl _)
  refine h69 _ _ _ _ _ _ _ _ _ _ _ (zm (zk H) (by omega)) hp hpe he hi2 hq hqp (fun z => zbc (kx ?_) (by decide) (by decide)) (fun l u2 b h g2 c2 i2 e2 => ym_rt_cons (sg_68_14 (zy H) _ _ ?_))
  · rw [zs_st_f] at z
    unfold zs_os
    cases h2 : zs_st r false 4 c i e p 0 with
    | none => rfl
    | some x => rw [h2] at z; cases z
  obtain ⟨⟨q1, q2, q3, q4, q5, q6⟩, q7⟩ := zs_st_ok hI.2.2.1 false 4 _ _ _ _ _ _ he hp hpe h
  change ((l.length : Nat) : Int) ≤ b - p at q1
  change b ≤ e at q3
  change zs_all l at q4
  rw [zs_st_f] at h
  have h3 : zs_st r false 4 c i e p 0 = some (l, (((zs_st r false 4 c i e p 0).getD ([], 0, 0)).2.1), b) ∧ u2 = u := by
    cases h2 : zs_st r false 4 c i e p 0 with
    | none => rw [h2] at h; cases h
    | some x =>
      rw [h2] at h
      obtain ⟨x1, x2, x3⟩ := x
      have e1 := Option.some.inj h
      have a1 : x1 = l := congrArg (·.1) e1
      have a2 : u = u2 := congrArg (·.2.1) e1
      have a3 : x3 = b := congrArg (·.2.2) e1
      subst a1 a2 a3
      exact ⟨rfl, rfl⟩
  obtain ⟨h4, rfl⟩ := h3
  have e1 : zs_os r ff bd lo hi c i e p = (zs_cn ff l).bind (fun n => if zs_kp bd lo hi n then some (l, b) else none) := by
    unfold zs_os
    rw [h4]
    rfl
  rw [e1] at kx kr
  have hT2 := hT
  obtain ⟨t1, t2, t3, t4, t5, t6, t7⟩ := hT2
  have keep : ∀ n : Int, ym_in n → (∀ z, zs_cn ff l = some z → z = n) → (zs_cn ff l = none → False) → ym_Go sc P ((68, 59, [some (ym_P 7), some (ym_Q k), some (ym_I q), some (ym_I n)], []) :: K) (29, 0, [some (ym_Q k), some (ym_J (ym_i2l n)), none], []) (zc s b g2 c2 i2 e2 w u2 (q+l.length) m (za o q l)) := by
    intro n hn hz hz2
    cases h5 : zs_cn ff l with
    | none => exact absurd h5 (fun y => hz2 y)
    | some y =>
      have := hz y h5
      subst this
      rw [h5] at kx kr
      refine cc_29 (zm (zk H) (by omega)) hT (ym_rt_cons (sg_68_62 (zy H) _ _ _ _ ?_))
      rw [zl_i2l hn]
      cases h6 : zs_kp bd lo hi y with
      | false => exact ⟨by decide, fun _ => kx (by show (if zs_kp bd lo hi y then _ else _) = _; rw [h6]; rfl) _ _ _ _ _ _ _ _ _ _, fun z => absurd rfl z⟩
      | true => exact ⟨by decide, fun z => absurd z (by decide), fun _ => kr l b (by show (if zs_kp bd lo hi y then _ else _) = _; rw [h6]; rfl) g2 c2 i2 e2⟩
  simp only [zc_7_2, zc_7_3, zc_7_4, zc_7_5, zc_7_6, zc_7_8, zc_7_9, zc_8_1, zc_7_7, zc_9, zc_1, zc_2, zc_3, zc_4, zc_5, zc_6, zc_10, zc_11, zc_r, zc_w7_2, zc_w7_3, zc_w7_4, zc_w7_5, zc_w7_6, zc_w7_8, zc_w7_9, zc_w8_1, zc_w7_7, zc_w9, zc_p9]
  rw [zc_hi t2, t3]
  refine ⟨t1, fun h5 => ?_, fun h5 => ⟨fun h6 => ?_, fun h6 => ?_⟩⟩
  · have e2 : zs_cn ff l = zs_ut l 0 0 0 0 := by unfold zs_cn; rw [if_pos h5]
    refine sg_73_0 (zy (zm (zk H) (Nat.le_refl _))) _ (cc_73 (zm (zk H) (by omega)) q l q 0 0 0 0 none rfl (by omega) hq (zr_za l o q) q4 (by omega) hq (by omega) (by omega) (by omega) (by omega) (fun z => by exfalso; omega) (fun z => by exfalso; omega) (fun z => by exfalso; omega) (by omega) (by omega) (fun z => zbc (kx ?_) (by decide) (by decide)) (fun n hn => ym_rt_cons (sg_68_38 (zy H) _ _ _ _ ⟨t1, ?_⟩)))
    · rw [e2, z]
      rfl
    · have hb := zs_ut_b l _ _ _ _ _ hn
      exact keep n ⟨by omega, by omega⟩ (fun z hz => by rw [e2, hn] at hz; exact (Option.some.inj hz).symm) (fun z => by rw [e2, hn] at z; cases z)
  · have e2 : zs_cn ff l = if l.all (fun x => decide (x < 128)) then some (l.length : Int) else none := by unfold zs_cn; rw [if_neg h5, if_pos h6]
    refine sg_72_0 (zy (zm (zk H) (Nat.le_refl _))) _ (cc_72 (zm (zk H) (by omega)) q l q rfl (by omega) hq (zr_za l o q) (fun z => zbc (kx ?_) (by decide) (by decide)) (fun z => ym_rt_cons (sg_68_56 (zy H) _ _ _ ⟨t1, ?_⟩)))
    · rw [e2, z]
      rfl
    · rw [show q + (l.length : Int) - q = (l.length : Int) by omega]
      rw [z] at e2
      exact keep _ ⟨by omega, by omega⟩ (fun y hy => by rw [e2] at hy; exact (Option.some.inj hy).symm) (fun y => by rw [e2] at y; cases y)
  · have e2 : zs_cn ff l = some (l.length : Int) := by unfold zs_cn; rw [if_neg h5, if_neg h6]
    rw [show q + (l.length : Int) - q = (l.length : Int) by omega]
    exact keep _ ⟨by omega, by omega⟩ (fun y hy => by rw [e2] at hy; exact (Option.some.inj hy).symm) (fun y => by rw [e2] at y; cases y)
theorem cc_63 (H : zh sc K 1) (hI : zIn s r N) (hp : 0 ≤ p) (hpe : p ≤ e) (he : e ≤ N) (hq : 0 ≤ q) (hqp : q ≤ p) (kx : zs_sm 1 bd lo hi (zs_tk r p (e - p).toNat) = none → zBad sc P K s) (kr : ∀ l, zs_sm 1 bd lo hi (zs_tk r p (e - p).toNat) = some l → ∀ w2 m2, zs_nm 1 l w2 m2 → ym_Rt sc P K none (zc s e g c i e w2 u (q+l.length) m2 (za o q l))) : ym_Go sc P K (63, 0, [some (ym_P 7)], []) (zc s p g c i e w u q m o) := by
  have hN := hI.2.1
  have e0 : zs_sm 1 bd lo hi (zs_tk r p (e - p).toNat) = if (zs_tk r p (e - p).toNat).length = 1 then some [if zs_tk r p (e - p).toNat = [0] then 0 else 255] else none := rfl
  rw [e0, zs_tk_len] at kx kr
  refine sg_63_0 (zy H) ?_
  simp only [zc_7_2, zc_7_3, zc_7_4, zc_7_5, zc_7_6, zc_7_8, zc_7_9, zc_8_1, zc_7_7, zc_9, zc_1, zc_2, zc_3, zc_4, zc_5, zc_6, zc_10, zc_11, zc_r, zc_w7_2, zc_w7_3, zc_w7_4, zc_w7_5, zc_w7_6, zc_w7_8, zc_w7_9, zc_w8_1, zc_w7_7, zc_w9, zc_p9]
  refine ⟨⟨by omega, by omega⟩, fun h1 => ?_, fun h1 => kx (by rw [if_neg (by omega)]) _ _ _ _ _ _ _ _ _ _⟩
  rw [if_pos (by omega), show (e - p).toNat = 1 by omega] at kr
  refine cc_56 (zk H) hI hp (by omega) he (fun z => by exfalso; omega) (fun z o1 o2 => ym_rt_cons (sg_63_35 (zy H) _ ?_))
  simp only [zc_7_2, zc_7_3, zc_7_4, zc_7_5, zc_7_6, zc_7_8, zc_7_9, zc_8_1, zc_7_7, zc_9, zc_1, zc_2, zc_3, zc_4, zc_5, zc_6, zc_10, zc_11, zc_r, zc_w7_2, zc_w7_3, zc_w7_4, zc_w7_5, zc_w7_6, zc_w7_8, zc_w7_9, zc_w8_1, zc_w7_7, zc_w9, zc_p9]
  have e1 : p + 1 = e := by omega
  have e2 : zs_tk r p 1 = [r p] := rfl
  rw [e2] at kr
  refine ⟨⟨by omega, by omega⟩, fun h2 => ?_, fun h2 => ?_⟩
  · have := kr _ rfl 0 (Int64.ofNat 0) ⟨fun _ => ⟨rfl, by rw [h2]; rfl⟩, fun z => absurd z (by decide)⟩
    rw [e1]
    refine cc_44 (zm (zk H) (by omega)) (by decide) hq (by omega) (ym_rt_cons (sg_63_69 (zy H) ?_))
    rw [h2] at this
    exact this
  · have h3 : ([r p] : List Int) ≠ [0] := fun z => h2 (List.head_eq_of_cons_eq z)
    have := kr _ rfl 0 (Int64.ofNat 1) ⟨fun _ => ⟨rfl, by rw [if_neg h3]; rfl⟩, fun z => absurd z (by decide)⟩
    rw [e1]
    refine cc_44 (zm (zk H) (by omega)) (by decide) hq (by omega) (ym_rt_cons (sg_63_69 (zy H) ?_))
    rw [if_neg h3] at this
    exact this
theorem cc_65 (H : zh sc K 0) (hpe : p ≤ e) (kx : zs_sm 5 bd lo hi (zs_tk r p (e - p).toNat) = none → zBad sc P K s) (kr : ∀ l, zs_sm 5 bd lo hi (zs_tk r p (e - p).toNat) = some l → ∀ w2 m2, zs_nm 5 l w2 m2 → ym_Rt sc P K none (zc s e g c i e w2 u (q+l.length) m2 (za o q l))) : ym_Go sc P K (65, 0, [some (ym_P 7)], []) (zc s p g c i e w u q m o) := by
  have e0 : zs_sm 5 bd lo hi (zs_tk r p (e - p).toNat) = if zs_tk r p (e - p).toNat = [] then some [] else none := rfl
  rw [e0] at kx kr
  refine sg_65_0 (zy H) ?_
  simp only [zc_7_2, zc_7_3, zc_7_4, zc_7_5, zc_7_6, zc_7_8, zc_7_9, zc_8_1, zc_7_7, zc_9, zc_1, zc_2, zc_3, zc_4, zc_5, zc_6, zc_10, zc_11, zc_r, zc_w7_2, zc_w7_3, zc_w7_4, zc_w7_5, zc_w7_6, zc_w7_8, zc_w7_9, zc_w8_1, zc_w7_7, zc_w9, zc_p9]
  refine ⟨fun h1 => ?_, fun h1 => kx ?_ _ _ _ _ _ _ _ _ _ _⟩
  · subst h1
    rw [show (p - p).toNat = 0 by omega] at kr
    have := kr [] (if_pos rfl) w m ⟨fun z => absurd z (by decide), fun z => absurd z (by decide)⟩
    rw [show q + (([] : List Int).length : Int) = q by simp] at this
    exact this
  · rw [if_neg]
    intro z
    have := congrArg List.length z
    rw [zs_tk_len] at this
    simp at this
    omega
theorem cc_66l (H : zh sc K 1) (hI : zIn s r N) (g c i e w u : Int) (m : Int64) (he0 : 0 ≤ e) (he : e ≤ N) (a1 : Int) (ha1 : a1 ≤ 200) (ha0 : 0 ≤ a1) : ∀ (n : Nat) (b : Bool) (k p q : Int) (o : Int → Int) (x4 : Option Int), e - p = n → a1 - k = n → 0 ≤ k → 0 ≤ p → 0 ≤ q → q ≤ p → ((a1 = 0 ∨ zs_od b (zs_tk r p n) = false) → zBad sc P K s) → (a1 ≠ 0 → zs_od b (zs_tk r p n) = true → ym_Rt sc P K none (zc s e g c i e w u (q+n) m (za o q (zs_tk r p n)))) → ym_Go sc P K (66, 14, [some (ym_P 7), some (ym_I a1), some (ym_I (if b then 1 else 0)), some (ym_I k), x4.map ym_I], []) (zc s p g c i e w u q m o)
  | 0, b, k, p, q, o, x4, h1, h2, h3, hp, hq, hqp, kx, kr => by
    have e1 : e = p := by omega
    subst e1
    have hb : ym_in (if b then 1 else 0) := by cases b <;> decide
    have fin : (a1 = 0 → ym_Ex sc P K 1 (ym_ex (zc s e g c i e w u q m o))) ∧ (¬ a1 = 0 → ym_in (if b then 1 else 0) ∧ ((if b then (1 : Int) else 0) = 0 → ym_Ex sc P K 1 (ym_ex (zc s e g c i e w u q m o))) ∧ (¬ (if b then (1 : Int) else 0) = 0 → ym_Rt sc P K none (zc s e g c i e w u q m o))) := by
      refine ⟨fun z => kx (Or.inl z) _ _ _ _ _ _ _ _ _ _, fun z => ⟨hb, fun y => kx (Or.inr ?_) _ _ _ _ _ _ _ _ _ _, fun y => ?_⟩⟩
      · cases b
        · rfl
        · exact absurd y (by decide)
      · cases b
        · exact absurd rfl y
        · have := kr z rfl
          rw [show q + ((0 : Nat) : Int) = q by omega] at this
          exact this
    cases x4
    · exact sg_66_14 (zy H) _ _ _ ⟨⟨by omega, by omega⟩, ⟨by omega, by omega⟩, fun z => by exfalso; omega, fun _ => ⟨⟨by omega, by omega⟩, fin⟩⟩
    · exact sg_66_14b (zy H) _ _ _ _ ⟨⟨by omega, by omega⟩, ⟨by omega, by omega⟩, fun z => by exfalso; omega, fun _ => ⟨⟨by omega, by omega⟩, fin⟩⟩
  | n + 1, b, k, p, q, o, x4, h1, h2, h3, hp, hq, hqp, kx, kr => by
    have hN := hI.2.1
    have hb : ym_in (if b then 1 else 0) := by cases b <;> decide
    have next : ∀ y : Int, y = r p → ¬ (b = true ∧ y = 128) → 0 ≤ y → y < 256 → ym_Go sc P ((66, 69, [some (ym_P 7), some (ym_I a1), some (ym_I (if y < 128 then (1 : Int) else 0)), some (ym_I k), some (ym_I y)], []) :: K) (44, 0, [some (ym_P 8), some (ym_I y)], []) (zc s (p+1) g c i e w u q m o) := by
      intro y hy hn o1 o2
      refine cc_44 (zm (zk H) (by omega)) ⟨by omega, by omega⟩ hq (by omega) (ym_rt_cons (sg_66_72 (zy H) _ _ _ _ ?_))
      have e2 : zs_od b (zs_tk r p (n + 1)) = zs_od (decide (y < 128)) (zs_tk r (p + 1) n) := by
        rw [zs_tk, zs_od, hy]
        rw [hy] at hn
        cases b
        · simp
        · simp at hn
          simp [hn]
      rw [e2] at kx kr
      have := cc_66l H hI g c i e w u m he0 he a1 ha1 ha0 n (decide (y < 128)) (k + 1) (p + 1) (q + 1) (zu o q y) (some y) (by omega) (by omega) (by omega) (by omega) (by omega) (by omega) kx (fun z1 z2 => by
        have := kr z1 z2
        rw [zs_tk, za, ← hy] at this
        rw [show q + 1 + (n : Int) = q + ((n + 1 : Nat) : Int) by omega]
        exact this)
      rw [show (if decide (y < 128) = true then (1 : Int) else 0) = if y < 128 then 1 else 0 by by_cases h : y < 128 <;> simp [h]] at this
      exact this
    have call : ∀ L4 : Option Int, ym_Go sc P ((66, 24, [some (ym_P 7), some (ym_I a1), some (ym_I (if b then 1 else 0)), some (ym_I k), L4.map ym_I], []) :: K) (56, 0, [some (ym_P 7), some (ym_I e)], []) (zc s p g c i e w u q m o) := by
      intro L4
      refine cc_56 (zk H) hI hp he0 he (fun z => by exfalso; omega) (fun z o1 o2 => ym_rt_cons ?_)
      have bad : b = true → r p = 128 → zBad sc P K s := fun z1 z2 => kx (Or.inr (by rw [zs_tk, zs_od, z1, z2]; rfl))
      have h4 : ym_in (if b then 1 else 0) ∧ ((if b then (1 : Int) else 0) = 0 → (ym_in (r p)) ∧ ym_Go sc P ((66, 69, [some (ym_P 7), some (ym_I a1), some (ym_I (if r p < 128 then (1 : Int) else 0)), some (ym_I k), some (ym_I (r p))], []) :: K) (44, 0, [some (ym_P 8), some (ym_I (r p))], []) (zc s (p+1) g c i e w u q m o)) ∧ (¬ (if b then (1 : Int) else 0) = 0 → ym_in (r p) ∧ (r p = 128 → ym_Ex sc P K 1 (ym_ex (zc s (p+1) g c i e w u q m o))) ∧ (¬ r p = 128 → ym_in (r p) ∧ ym_Go sc P ((66, 69, [some (ym_P 7), some (ym_I a1), some (ym_I (if r p < 128 then (1 : Int) else 0)), some (ym_I k), some (ym_I (r p))], []) :: K) (44, 0, [some (ym_P 8), some (ym_I (r p))], []) (zc s (p+1) g c i e w u q m o))) := by
        refine ⟨hb, fun z => ⟨⟨by omega, by omega⟩, next _ rfl (fun y => ?_) o1 o2⟩, fun z => ⟨⟨by omega, by omega⟩, fun y => ?_, fun y => ⟨⟨by omega, by omega⟩, next _ rfl (fun x => y x.2) o1 o2⟩⟩⟩
        · rw [y.1] at z
          exact absurd z (by decide)
        · cases b
          · exact absurd rfl z
          · exact bad rfl y _ _ _ _ _ _ _ _ _ _
      cases L4
      · exact sg_66_27 (zy H) _ _ _ _ h4
      · exact sg_66_27b (zy H) _ _ _ _ _ h4
    cases x4
    · refine sg_66_14 (zy H) _ _ _ ⟨⟨by omega, by omega⟩, ⟨by omega, by omega⟩, fun _ => ?_, fun z => by exfalso; omega⟩
      exact call none
    · rename_i x
      refine sg_66_14b (zy H) _ _ _ _ ⟨⟨by omega, by omega⟩, ⟨by omega, by omega⟩, fun _ => ?_, fun z => by exfalso; omega⟩
      exact call (some x)
theorem cc_66 (H : zh sc K 1) (hI : zIn s r N) (hp : 0 ≤ p) (hpe : p ≤ e) (he : e ≤ N) (hq : 0 ≤ q) (hqp : q ≤ p) {k : Int} (hk1 : k ≠ 1) (hk2 : k ≠ 2) (hk5 : k ≠ 5) (kx : zs_sm k bd lo hi (zs_tk r p (e - p).toNat) = none → zBad sc P K s) (kr : ∀ l, zs_sm k bd lo hi (zs_tk r p (e - p).toNat) = some l → ∀ w2 m2, zs_nm k l w2 m2 → ym_Rt sc P K none (zc s e g c i e w2 u (q+l.length) m2 (za o q l))) : ym_Go sc P K (66, 0, [some (ym_P 7), none, none, none, none], []) (zc s p g c i e w u q m o) := by
  have hN := hI.2.1
  have e0 : zs_sm k bd lo hi (zs_tk r p (e - p).toNat) = if zs_oi (zs_tk r p (e - p).toNat) then some (zs_tk r p (e - p).toNat) else none := by
    unfold zs_sm
    rw [if_neg hk1, if_neg hk2, if_neg hk5]
  have e1 : zs_oi (zs_tk r p (e - p).toNat) = (decide (e - p ≠ 0) && zs_od true (zs_tk r p (e - p).toNat)) := by
    unfold zs_oi
    congr 1
    by_cases h : e - p = 0
    · rw [h]
      simp [zs_tk]
    · rw [show (e - p).toNat = ((e - p).toNat - 1) + 1 by omega, zs_tk]
      simp [h]
  rw [e0, e1] at kx kr
  refine sg_66_0 (zy H) ?_
  simp only [zc_7_2, zc_7_3, zc_7_4, zc_7_5, zc_7_6, zc_7_8, zc_7_9, zc_8_1, zc_7_7, zc_9, zc_1, zc_2, zc_3, zc_4, zc_5, zc_6, zc_10, zc_11, zc_r, zc_w7_2, zc_w7_3, zc_w7_4, zc_w7_5, zc_w7_6, zc_w7_8, zc_w7_9, zc_w8_1, zc_w7_7, zc_w9, zc_p9]
  refine cc_66l H hI g c i e w u m (by omega) he (e - p) (by omega) (by omega) (e - p).toNat true 0 p q o none (by omega) (by omega) (by omega) hp hq hqp (fun z => kx ?_) (fun z1 z2 => ?_)
  · rcases z with z | z
    · rw [z]
      rfl
    · rw [z]
      simp
  · have := kr (zs_tk r p (e - p).toNat) (by rw [z2]; simp [z1]) w m ⟨fun z => absurd z hk1, fun z => absurd z hk2⟩
    rw [zs_tk_len] at this
    exact this
end
