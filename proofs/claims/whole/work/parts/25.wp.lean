/-! The machine over whole numbers: the step, and what is left to show: own work. -/
section
variable {sc : xm_S} {P : xm_O → xm_H → Prop} {K : List ym_F} {k pc m q : Nat} {i : ClassFile.Instr} {L L2 : ym_L} {st st2 : List ym_V} {s s2 : ym_S} {h h2 : xm_H} {go : ym_G}
theorem ym_k_cpy {a d n0 n1 : Nat} {sp dp n : Int} (hH : ym_H s h) (ha : ym_T s a = some (0, n0)) (hd : ym_T s d = some (0, n1)) (hb : 0 ≤ sp ∧ 0 ≤ dp ∧ 0 ≤ n ∧ sp + n ≤ (n0 : Int) ∧ dp + n ≤ (n1 : Int)) : ∃ f g, xm_cell h a = some (.inl (0, n0, .inl f)) ∧ xm_cell h d = some (.inl (0, n1, .inl g)) ∧ ym_H (ym_cpy s a d sp dp n) (xm_put h d (.inl (0, n1, .inl (va_cpy f g sp.toNat dp.toNat n.toNat)))) := by
  obtain ⟨b1, b2, b3, b4, b5⟩ := hb
  obtain ⟨-, hin, -, hf, hT⟩ := id hH
  obtain ⟨hn0, f, e0, e3⟩ := hT a _ n0 ha
  obtain ⟨hn1, g, d0, d3⟩ := hT d _ n1 hd
  refine ⟨f, g, e0, d0, ym_H_put hH hd ?_ rfl ?_ hf ⟨hn1, _, rfl, fun j hj => ?_⟩⟩
  · intro c j
    show ym_in (bif Nat.beq c d then (if dp ≤ j ∧ j < dp + n then s.1 a (sp + (j - dp)) else s.1 c j) else s.1 c j)
    cases Nat.beq c d with
    | false => exact hin _ _
    | true =>
      show ym_in (if dp ≤ j ∧ j < dp + n then s.1 a (sp + (j - dp)) else s.1 c j)
      split
      · exact hin _ _
      · exact hin _ _
  · intro c hc
    refine ⟨fun j => ?_, fun j => rfl, fun j => rfl⟩
    show (bif Nat.beq c d then (if dp ≤ j ∧ j < dp + n then s.1 a (sp + (j - dp)) else s.1 c j) else s.1 c j) = _
    rw [show Nat.beq c d = false from by rw [← Bool.not_eq_true, Nat.beq_eq]; exact hc]
    rfl
  · show va_cpy f g sp.toNat dp.toNat n.toNat j = Int32.ofInt (bif Nat.beq d d then (if dp ≤ (j : Int) ∧ (j : Int) < dp + n then s.1 a (sp + ((j : Int) - dp)) else s.1 d j) else s.1 d j)
    rw [show Nat.beq d d = true from Nat.beq_refl d]
    show (if dp.toNat ≤ j ∧ j < dp.toNat + n.toNat then f (sp.toNat + (j - dp.toNat)) else g j) = Int32.ofInt (if dp ≤ (j : Int) ∧ (j : Int) < dp + n then s.1 a (sp + ((j : Int) - dp)) else s.1 d j)
    by_cases hc : dp ≤ (j : Int) ∧ (j : Int) < dp + n
    · rw [if_pos hc, if_pos (by omega), e3 _ (by omega)]
      rw [show ((sp.toNat + (j - dp.toNat) : Nat) : Int) = sp + ((j : Int) - dp) by omega]
    · rw [if_neg hc, if_neg (by omega)]
      exact d3 j hj
theorem ym_k_sta {a : Nat} (hK : K.length < 1000) (hi : xm_ins k pc = some (.invokestatic a, 3)) (hH : ym_H s h) (hg : ym_K sc P K k pc 3 go) (hx : ym_sta sc P K k pc L st s go (xm_cp k a)) : xm_Go sc P (K.map ym_f) (ym_f (k, pc, L, st)) h := by
  unfold ym_sta at hx
  split at hx
  · rename_i hc
    split at hx
    · rename_i n dp bd d sp ba a2 r
      obtain ⟨n0, ha, hx⟩ := ym_ar_of hx hH.2.2.2.1
      obtain ⟨n1, hd, hb, hx⟩ := ym_ar_of hx hH.2.2.2.1
      obtain ⟨h1, hx⟩ := ym_ck_of hx
      have h1 : ym_wt r ≤ 8 := Nat.le_of_ble_eq_true h1
      obtain ⟨f, g, e0, d0, hH2⟩ := ym_k_cpy hH ha hd hb
      obtain ⟨hn0, -, -, -⟩ := hH.2.2.2.2 a2 _ n0 ha
      obtain ⟨hn1, -, -, -⟩ := hH.2.2.2.2 d _ n1 hd
      have i1 : ym_in sp := ⟨by omega, by omega⟩
      have i2 : ym_in dp := ⟨by omega, by omega⟩
      have i3 : ym_in n := ⟨by omega, by omega⟩
      have c1 : (Int32.ofInt sp).toNatClampNeg = sp.toNat := by rw [← Int32.toNat_toInt, ym_of i1]
      have c2 : (Int32.ofInt dp).toNatClampNeg = dp.toNat := by rw [← Int32.toNat_toInt, ym_of i2]
      have c3 : (Int32.ofInt n).toNatClampNeg = n.toNat := by rw [← Int32.toNat_toInt, ym_of i3]
      refine ym_k_go hi hH2 hg ?_ hx
      show xm_lib k pc a (ym_ml L) (.int (Int32.ofInt n) :: .int (Int32.ofInt dp) :: .ref d :: .int (Int32.ofInt sp) :: .ref a2 :: r.map ym_v) h = _
      unfold xm_lib
      rw [hc]
      show (match xm_cell h a2, xm_cell h d with
        | some (.inl (0, n0, .inl f)), some (.inl (0, n1, .inl g)) =>
          if Int32.ofInt sp < 0 ∨ Int32.ofInt dp < 0 ∨ Int32.ofInt n < 0 ∨ n0 < (Int32.ofInt sp).toNatClampNeg + (Int32.ofInt n).toNatClampNeg ∨ n1 < (Int32.ofInt dp).toNatClampNeg + (Int32.ofInt n).toNatClampNeg ∨ 8 < xm_wt (r.map ym_v) then none
          else xm_nx k (pc + 3) (ym_ml L) (r.map ym_v) (xm_put h d (.inl (0, n1, .inl (va_cpy f g (Int32.ofInt sp).toNatClampNeg (Int32.ofInt dp).toNatClampNeg (Int32.ofInt n).toNatClampNeg))))
        | _, _ => none) = _
      rw [e0, d0, c1, c2, c3]
      refine if_neg ?_
      rw [ym_of0, ym_lt i1 ym_in0, ym_lt i2 ym_in0, ym_lt i3 ym_in0, ym_wt_map]
      omega
    · exact hx.elim
  · rename_i hc
    split at hx
    · rename_i y x r
      obtain ⟨hx1, hy1, hx⟩ := hx
      obtain ⟨h1, hx⟩ := ym_ck_of hx
      have h1 : ym_wt r ≤ 8 := Nat.le_of_ble_eq_true h1
      refine ym_k_go hi hH hg ?_ hx
      show xm_lib k pc a (ym_ml L) (.int (Int32.ofInt y) :: .int (Int32.ofInt x) :: r.map ym_v) h = _
      unfold xm_lib
      rw [hc]
      refine (if_neg (by rw [ym_wt_map]; omega)).trans ?_
      show xm_nx k (pc + 3) (ym_ml L) (.int (if Int32.ofInt x < Int32.ofInt y then Int32.ofInt y else Int32.ofInt x) :: r.map ym_v) h = xm_nx k (pc + 3) (ym_ml L) (.int (Int32.ofInt (if x < y then y else x)) :: r.map ym_v) h
      by_cases e : x < y
      · rw [if_pos e, if_pos ((ym_lt hx1 hy1).mpr e)]
      · rw [if_neg e, if_neg (fun z => e ((ym_lt hx1 hy1).mp z))]
    · exact hx.elim
  · rename_i hc
    split at hx
    · rename_i y x r
      obtain ⟨hx1, hy1, hx⟩ := hx
      obtain ⟨h1, hx⟩ := ym_ck_of hx
      have h1 : ym_wt r ≤ 8 := Nat.le_of_ble_eq_true h1
      refine ym_k_go hi hH hg ?_ hx
      show xm_lib k pc a (ym_ml L) (.int (Int32.ofInt y) :: .int (Int32.ofInt x) :: r.map ym_v) h = _
      unfold xm_lib
      rw [hc]
      refine (if_neg (by rw [ym_wt_map]; omega)).trans ?_
      show xm_nx k (pc + 3) (ym_ml L) (.int (if Int32.ofInt y < Int32.ofInt x then Int32.ofInt y else Int32.ofInt x) :: r.map ym_v) h = xm_nx k (pc + 3) (ym_ml L) (.int (Int32.ofInt (if y < x then y else x)) :: r.map ym_v) h
      by_cases e : y < x
      · rw [if_pos e, if_pos ((ym_lt hy1 hx1).mpr e)]
      · rw [if_neg e, if_neg (fun z => e ((ym_lt hy1 hx1).mp z))]
    · exact hx.elim
  · rename_i k2 z hc
    obtain ⟨e1, e2, e3⟩ := ym_dt z st
    obtain ⟨h1, hx⟩ := ym_ck_of hx
    refine ym_k_call hK hH hx (fun g1 g2 => ym_ste hi ?_ ?_)
    · show xm_lib k pc a (ym_ml L) (st.map ym_v) h = none
      unfold xm_lib
      rw [hc]
      rfl
    · show (match xm_cp k a with
        | some (2, k2, z) => if z ≤ (st.map ym_v).length ∧ xm_wt ((st.map ym_v).drop z) ≤ 8 ∧ (xm_sl ((st.map ym_v).take z).reverse).length ≤ xm_n k2 then (some (Sum.inr (Sum.inr (Sum.inr (k2, ((st.map ym_v).take z).reverse, (st.map ym_v).drop z)))) : Option xm_R) else none
        | some (12, k2, z) => if z ≤ (st.map ym_v).length ∧ xm_wt ((st.map ym_v).drop z) ≤ 8 ∧ (xm_sl ((st.map ym_v).take z).reverse).length ≤ xm_n k2 then (some (Sum.inr (Sum.inr (Sum.inr (k2, ((st.map ym_v).take z).reverse, (st.map ym_v).drop z)))) : Option xm_R) else none
        | _ => none) = _
      rw [hc]
      show (if z ≤ (st.map ym_v).length ∧ xm_wt ((st.map ym_v).drop z) ≤ 8 ∧ (xm_sl ((st.map ym_v).take z).reverse).length ≤ xm_n k2 then (some (Sum.inr (Sum.inr (Sum.inr (k2, ((st.map ym_v).take z).reverse, (st.map ym_v).drop z)))) : Option xm_R) else none) = _
      rw [e1, e2, e3]
      exact if_pos ⟨Nat.le_of_ble_eq_true h1, g1, g2⟩
  · rename_i k2 z hc
    obtain ⟨e1, e2, e3⟩ := ym_dt z st
    obtain ⟨h1, hx⟩ := ym_ck_of hx
    refine ym_k_call hK hH hx (fun g1 g2 => ym_ste hi ?_ ?_)
    · show xm_lib k pc a (ym_ml L) (st.map ym_v) h = none
      unfold xm_lib
      rw [hc]
      rfl
    · show (match xm_cp k a with
        | some (2, k2, z) => if z ≤ (st.map ym_v).length ∧ xm_wt ((st.map ym_v).drop z) ≤ 8 ∧ (xm_sl ((st.map ym_v).take z).reverse).length ≤ xm_n k2 then (some (Sum.inr (Sum.inr (Sum.inr (k2, ((st.map ym_v).take z).reverse, (st.map ym_v).drop z)))) : Option xm_R) else none
        | some (12, k2, z) => if z ≤ (st.map ym_v).length ∧ xm_wt ((st.map ym_v).drop z) ≤ 8 ∧ (xm_sl ((st.map ym_v).take z).reverse).length ≤ xm_n k2 then (some (Sum.inr (Sum.inr (Sum.inr (k2, ((st.map ym_v).take z).reverse, (st.map ym_v).drop z)))) : Option xm_R) else none
        | _ => none) = _
      rw [hc]
      show (if z ≤ (st.map ym_v).length ∧ xm_wt ((st.map ym_v).drop z) ≤ 8 ∧ (xm_sl ((st.map ym_v).take z).reverse).length ≤ xm_n k2 then (some (Sum.inr (Sum.inr (Sum.inr (k2, ((st.map ym_v).take z).reverse, (st.map ym_v).drop z)))) : Option xm_R) else none) = _
      rw [e1, e2, e3]
      exact if_pos ⟨Nat.le_of_ble_eq_true h1, g1, g2⟩
  · exact hx.elim
theorem ym_k_ire (hi : xm_ins k pc = some (.ireturn, 1)) (hH : ym_H s h) (hx : ym_ire sc P K k st s) : xm_Go sc P (K.map ym_f) (ym_f (k, pc, L, st)) h := by
  unfold ym_ire at hx
  split at hx
  · rename_i x hr
    refine xm_go_rt (v := some (.int (Int32.ofInt x))) (ym_ste hi rfl ?_) (hx h hH)
    show (match ([.int (Int32.ofInt x)] : List Value), xm_r k with
      | [.int x], some .int => (some (.inr (.inl (some (.int x), h))) : Option xm_R)
      | [.int x], some .boolean => if x = 0 ∨ x = 1 then some (.inr (.inl (some (.int x), h))) else none
      | _, _ => none) = _
    rw [hr]
  · rename_i x hr
    refine xm_go_rt (v := some (.int (Int32.ofInt x))) (ym_ste hi rfl ?_) (hx.2 h hH)
    show (match ([.int (Int32.ofInt x)] : List Value), xm_r k with
      | [.int x], some .int => (some (.inr (.inl (some (.int x), h))) : Option xm_R)
      | [.int x], some .boolean => if x = 0 ∨ x = 1 then some (.inr (.inl (some (.int x), h))) else none
      | _, _ => none) = _
    rw [hr]
    exact if_pos (ym_bool hx.1)
  · exact hx.elim
theorem ym_look_map {α β : Type} (f : α → β) : ∀ (l : List (Nat × α)) (j : Nat), xm_look (l.map (fun p => (p.1, f p.2))) j = (xm_look l j).map f
  | [], _ => rfl
  | (i, v) :: r, j => by
    show (if i = j then some (f v) else xm_look (r.map (fun p => (p.1, f p.2))) j) = Option.map f (if i = j then some v else xm_look r j)
    by_cases e : i = j
    · rw [if_pos e, if_pos e]
      rfl
    · rw [if_neg e, if_neg e]
      exact ym_look_map f r j
theorem ym_kil_ok : xm_kil = ym_kil.map (fun l => l.map (fun p => (p.1, Int32.ofInt p.2))) := rfl
theorem ym_ki_of {k a : Nat} {v : Int} (h : ym_ki k a = some v) : xm_ki k a = some (Int32.ofInt v) := by
  unfold ym_ki at h
  unfold xm_ki
  rw [ym_kil_ok]
  have e : (ym_kil.map (fun l => l.map (fun p => (p.1, Int32.ofInt p.2)))).getD (xm_kc k) [] = (ym_kil.getD (xm_kc k) []).map (fun p => (p.1, Int32.ofInt p.2)) := by
    rw [List.getD_eq_getElem?_getD, List.getD_eq_getElem?_getD, List.getElem?_map]
    cases ym_kil[xm_kc k]? with
    | none => rfl
    | some l => rfl
  rw [e, ym_look_map Int32.ofInt, h]
  rfl
theorem ym_k_cnd {c : ClassFile.Cond} {x y : Int} {off : Int} {r : List ym_V} (hi : xm_ins k pc = some (i, 3)) (hH : ym_H s h) (hg : ym_K sc P K k pc 3 go) (hj : ym_jk pc off = true) (hx : ym_br c x y (go (some (xm_tg pc off)) L r s) (go none L r s)) (hd : xm_do sc i 3 k pc (ym_ml L) (st.map ym_v) h = xm_jp (xm_ic c (Int32.ofInt x) (Int32.ofInt y)) k pc off (ym_ml L) (r.map ym_v) h) : xm_Go sc P (K.map ym_f) (ym_f (k, pc, L, st)) h := by
  obtain ⟨t, g1, g2⟩ := ym_k_jx (k := k) hj (ym_k_br hx)
  exact ym_stp hi (hd.trans (g2 h)) hH (hg t L r s g1)
set_option maxHeartbeats 4000000 in
set_option maxRecDepth 100000 in
theorem ym_x_ok (hK : K.length < 1000) (hsc : sc.1 ≤ 67108864) (hi : xm_ins k pc = some (i, m)) (hx : ym_x sc P K k pc i m L st s go) (hg : ym_K sc P K k pc m go) : ym_Go sc P K (k, pc, L, st) s := by
  intro h hH
  unfold ym_x at hx
  split at hx
  · exact ym_k_go hi hH hg rfl hx
  · rename_i a
    obtain ⟨h1, hx⟩ := ym_ck_of hx
    rw [Bool.and_eq_true, decide_eq_true_iff, decide_eq_true_iff] at h1
    refine ym_k_go hi hH hg ?_ hx
    show xm_nx k (pc + 2) (ym_ml L) (.int (Int8.ofInt a).toInt32 :: st.map ym_v) h = xm_nx k (pc + 2) (ym_ml L) (.int (Int32.ofInt a) :: st.map ym_v) h
    rw [← Int32.ofInt_toInt (Int8.ofInt a).toInt32, Int8.toInt_toInt32, Int8.toInt_ofInt_of_le (by omega) (by omega)]
  · rename_i a
    obtain ⟨h1, hx⟩ := ym_ck_of hx
    rw [Bool.and_eq_true, decide_eq_true_iff, decide_eq_true_iff] at h1
    refine ym_k_go hi hH hg ?_ hx
    show xm_nx k (pc + 3) (ym_ml L) (.int (Int16.ofInt a).toInt32 :: st.map ym_v) h = xm_nx k (pc + 3) (ym_ml L) (.int (Int32.ofInt a) :: st.map ym_v) h
    rw [← Int32.ofInt_toInt (Int16.ofInt a).toInt32, Int16.toInt_toInt32, Int16.toInt_ofInt_of_le (by omega) (by omega)]
  · exact ym_k_go hi hH hg rfl hx
  · exact ym_k_go hi hH hg rfl hx
  · split at hx
    · rename_i v hv
      refine ym_k_go hi hH hg ?_ hx
      show (match xm_ki k _ with
        | some v => xm_nx k (pc + 2) (ym_ml L) (.int v :: st.map ym_v) h
        | none => none) = _
      rw [ym_ki_of hv]
      rfl
    · exact hx.elim
  · split at hx
    · rename_i v hv
      refine ym_k_go hi hH hg ?_ hx
      show (match xm_kl k _ with
        | some v => xm_nx k (pc + 3) (ym_ml L) (.long v :: st.map ym_v) h
        | none => none) = _
      rw [hv]
      rfl
    · exact hx.elim
  · obtain ⟨st2, g1, g2⟩ := ym_k_ilo hx
    exact ym_k_go hi hH hg (g2 1 k pc h) g1
  · obtain ⟨st2, g1, g2⟩ := ym_k_ilo hx
    exact ym_k_go hi hH hg (g2 2 k pc h) g1
  · obtain ⟨st2, g1, g2⟩ := ym_k_llo hx
    exact ym_k_go hi hH hg (g2 1 k pc h) g1
  · obtain ⟨st2, g1, g2⟩ := ym_k_llo hx
    exact ym_k_go hi hH hg (g2 2 k pc h) g1
  · obtain ⟨st2, g1, g2⟩ := ym_k_alo hx
    exact ym_k_go hi hH hg (g2 1 k pc h) g1
  · obtain ⟨st2, g1, g2⟩ := ym_k_alo hx
    exact ym_k_go hi hH hg (g2 2 k pc h) g1
  · obtain ⟨L2, st2, g1, g2⟩ := ym_k_ist hx
    exact ym_k_go hi hH hg (g2 1 k pc h) g1
  · obtain ⟨L2, st2, g1, g2⟩ := ym_k_ist hx
    exact ym_k_go hi hH hg (g2 2 k pc h) g1
  · obtain ⟨L2, st2, g1, g2⟩ := ym_k_lst hx
    exact ym_k_go hi hH hg (g2 1 k pc h) g1
  · obtain ⟨L2, st2, g1, g2⟩ := ym_k_ast hx
    exact ym_k_go hi hH hg (g2 1 k pc h) g1
  · obtain ⟨L2, st2, g1, g2⟩ := ym_k_ast hx
    exact ym_k_go hi hH hg (g2 2 k pc h) g1
  · obtain ⟨L2, g1, g2⟩ := ym_k_inc hx
    exact ym_k_go hi hH hg (g2 k pc h) g1
  · obtain ⟨st2, g1, g2⟩ := ym_k_b2 (fun x y => (Int32.ofInt_add x y).symm) hx
    exact ym_k_go hi hH hg (g2 k pc h) g1
  · obtain ⟨st2, g1, g2⟩ := ym_k_b2 (fun x y => (Int32.ofInt_sub x y).symm) hx
    exact ym_k_go hi hH hg (g2 k pc h) g1
  · obtain ⟨st2, g1, g2⟩ := ym_k_b2 (fun x y => (Int32.ofInt_mul x y).symm) hx
    exact ym_k_go hi hH hg (g2 k pc h) g1
  · obtain ⟨st2, g1, g2⟩ := ym_k_b2 (o2 := (fun x y => x &&& y)) (fun x y => (Int32.ofInt_toInt _).symm) hx
    exact ym_k_go hi hH hg (g2 k pc h) g1
  · obtain ⟨st2, g1, g2⟩ := ym_k_b2 (o2 := (fun x y => x ||| y)) (fun x y => (Int32.ofInt_toInt _).symm) hx
    exact ym_k_go hi hH hg (g2 k pc h) g1
  · obtain ⟨st2, g1, g2⟩ := ym_k_b2 (o2 := (fun x y => x <<< (y &&& 31))) (fun x y => (Int32.ofInt_toInt _).symm) hx
    exact ym_k_go hi hH hg (g2 k pc h) g1
  · obtain ⟨st2, g1, g2⟩ := ym_k_b2 (o2 := (fun x y => x >>> (y &&& 31))) (fun x y => (Int32.ofInt_toInt _).symm) hx
    exact ym_k_go hi hH hg (g2 k pc h) g1
  · obtain ⟨st2, g1, g2⟩ := ym_k_d2 (o2 := (fun x y => x / y)) (fun x y => (Int32.ofInt_toInt _).symm) hx
    exact ym_k_go hi hH hg (g2 k pc h) g1
  · obtain ⟨st2, g1, g2⟩ := ym_k_d2 (o2 := (fun x y => x - x / y * y)) (fun x y => (Int32.ofInt_toInt _).symm) hx
    exact ym_k_go hi hH hg (g2 k pc h) g1
  · obtain ⟨st2, g1, g2⟩ := ym_k_l2 hx
    exact ym_k_go hi hH hg (g2 k pc h) g1
  · obtain ⟨st2, g1, g2⟩ := ym_k_l2 hx
    exact ym_k_go hi hH hg (g2 k pc h) g1
  · obtain ⟨st2, g1, g2⟩ := ym_k_l2 hx
    exact ym_k_go hi hH hg (g2 k pc h) g1
  · obtain ⟨st2, g1, g2⟩ := ym_k_l2 hx
    exact ym_k_go hi hH hg (g2 k pc h) g1
  · obtain ⟨st2, g1, g2⟩ := ym_k_ls (o2 := (fun x y => x <<< (y.toInt64 &&& 63))) (fun x y => rfl) hx
    exact ym_k_go hi hH hg (g2 k pc h) g1
  · obtain ⟨st2, g1, g2⟩ := ym_k_ls (o2 := (fun x y => x >>> (y.toInt64 &&& 63))) (fun x y => rfl) hx
    exact ym_k_go hi hH hg (g2 k pc h) g1
  · obtain ⟨st2, g1, g2⟩ := ym_k_ls (o2 := (fun x y => (x.toUInt64 >>> (y.toInt64.toUInt64 &&& Int64.toUInt64 63)).toInt64)) (fun x y => rfl) hx
    exact ym_k_go hi hH hg (g2 k pc h) g1
  · split at hx
    · rename_i y x r
      refine ym_k_go hi hH hg ?_ hx
      show xm_nx k (pc + 1) (ym_ml L) (.int (lg_cmp x y) :: r.map ym_v) h = xm_nx k (pc + 1) (ym_ml L) (.int (Int32.ofInt (ym_cmp x y)) :: r.map ym_v) h
      rw [ym_cmp_of]
    · exact hx.elim
  · split at hx
    · exact ym_k_go hi hH hg rfl hx
    · exact hx.elim
  · split at hx
    · rename_i x r
      refine ym_k_go hi hH hg ?_ hx
      show xm_nx k (pc + 1) (ym_ml L) (.int x.toInt32 :: r.map ym_v) h = xm_nx k (pc + 1) (ym_ml L) (.int (Int32.ofInt x.toInt32.toInt) :: r.map ym_v) h
      rw [Int32.ofInt_toInt]
    · exact hx.elim
  · split at hx
    · rename_i v r
      obtain ⟨h1, hx⟩ := ym_ck_of hx
      refine ym_k_go hi hH hg ?_ hx
      exact if_pos ((ym_ct_v v).trans (Nat.eq_of_beq_eq_true h1))
    · exact hx.elim
  · split at hx
    · rename_i v w r
      obtain ⟨h1, hx⟩ := ym_ck_of hx
      rw [Bool.and_eq_true] at h1
      refine ym_k_go hi hH hg ?_ hx
      exact if_pos ⟨(ym_ct_v v).trans (Nat.eq_of_beq_eq_true h1.1), (ym_ct_v w).trans (Nat.eq_of_beq_eq_true h1.2)⟩
    · exact hx.elim
  · split at hx
    · obtain ⟨h1, hx⟩ := ym_ck_of hx
      exact ym_k_cnd hi hH hg h1 hx rfl
    · exact hx.elim
  · split at hx
    · obtain ⟨h1, hx⟩ := ym_ck_of hx
      exact ym_k_cnd hi hH hg h1 hx rfl
    · exact hx.elim
  · split at hx
    · obtain ⟨h1, hx⟩ := ym_ck_of hx
      exact ym_k_jp hi hH hg (if_pos (ym_jk_of h1)) hx
    · obtain ⟨h1, hx⟩ := ym_ck_of hx
      exact ym_k_go hi hH hg (if_pos (ym_jk_of h1)) hx
    · exact hx.elim
  · split at hx
    · obtain ⟨h1, hx⟩ := ym_ck_of hx
      exact ym_k_go hi hH hg (if_pos (ym_jk_of h1)) hx
    · obtain ⟨h1, hx⟩ := ym_ck_of hx
      exact ym_k_jp hi hH hg (if_pos (ym_jk_of h1)) hx
    · exact hx.elim
  · obtain ⟨h1, hx⟩ := ym_ck_of hx
    exact ym_k_jp hi hH hg (if_pos (ym_jk_of h1)) hx
  · obtain ⟨t, st2, g1, g2⟩ := ym_k_sw1 (k := k) (h := h) hx
    exact ym_k_jp hi hH hg g2 g1
  · obtain ⟨t, st2, g1, g2⟩ := ym_k_sw2 (k := k) (h := h) hx
    exact ym_k_jp hi hH hg g2 g1
  · obtain ⟨st2, g1, g2⟩ := ym_k_gf (pc := pc) hx hH
    exact ym_k_go hi hH hg g2 g1
  · obtain ⟨st2, s2, h2, g1, g2, g3⟩ := ym_k_pf (pc := pc) hx hH
    exact ym_k_go hi g2 hg g3 g1
  · obtain ⟨st2, g1, g2⟩ := ym_k_ald (k := k) (pc := pc) hx hsc hH
    exact ym_k_go hi hH hg g2 g1
  · obtain ⟨st2, g1, g2⟩ := ym_k_lld (k := k) (pc := pc) hx hH
    exact ym_k_go hi hH hg g2 g1
  · obtain ⟨st2, g1, g2⟩ := ym_k_zld (k := k) (pc := pc) hx hH
    exact ym_k_go hi hH hg g2 g1
  · obtain ⟨st2, g1, g2⟩ := ym_k_rld (k := k) (pc := pc) hx hH
    exact ym_k_go hi hH hg g2 g1
  · obtain ⟨st2, s2, h2, g1, g2, g3⟩ := ym_k_iat (k := k) (pc := pc) hx hH
    exact ym_k_go hi g2 hg g3 g1
  · obtain ⟨st2, s2, h2, g1, g2, g3⟩ := ym_k_lat (k := k) (pc := pc) hx hH
    exact ym_k_go hi g2 hg g3 g1
  · obtain ⟨st2, s2, h2, g1, g2, g3⟩ := ym_k_zat (k := k) (pc := pc) hx hH
    exact ym_k_go hi g2 hg g3 g1
  · obtain ⟨st2, s2, h2, g1, g2, g3⟩ := ym_k_rat (k := k) (pc := pc) hx hH
    exact ym_k_go hi g2 hg g3 g1
  · obtain ⟨st2, g1, g2⟩ := ym_k_len (k := k) (pc := pc) hx hH
    exact ym_k_go hi hH hg g2 g1
  · obtain ⟨st2, s2, h2, g1, g2, g3⟩ := ym_k_na0 (k := k) (pc := pc) hx hH
    exact ym_k_go hi g2 hg g3 g1
  · obtain ⟨st2, s2, h2, g1, g2, g3⟩ := ym_k_na1 (k := k) (pc := pc) hx hH
    exact ym_k_go hi g2 hg g3 g1
  · split at hx
    · rename_i hc
      obtain ⟨st2, s2, h2, g1, g2, g3⟩ := ym_k_na3 (pc := pc) hc hx hH
      exact ym_k_go hi g2 hg g3 g1
    · exact hx.elim
  · exact ym_k_new hi hH hg hx
  · exact ym_k_spc hK hi hH hg hx
  · exact ym_k_sta hK hi hH hg hx
  · exact ym_k_vir hK hi hH hx
  · exact ym_k_ire hi hH hx
  · split at hx
    · rename_i x
      obtain ⟨h1, hx⟩ := ym_ck_of hx
      refine xm_go_rt (ym_ste hi rfl ?_) (hx h hH)
      cases x with
      | none => exact if_pos h1
      | some q => exact if_pos h1
    · exact hx.elim
  · split at hx
    · rename_i hr
      refine xm_go_rt (ym_ste hi rfl ?_) (hx h hH)
      show (match ([] : List Value), xm_r k with
        | [], none => (some (.inr (.inl (none, h))) : Option xm_R)
        | _, _ => none) = _
      rw [hr]
      rfl
    · exact hx.elim
  · exact hx.elim
theorem ym_wp_ok (hK : K.length < 1000) (hsc : sc.1 ≤ 67108864) {cut : List Nat} : ∀ (n : Nat) {pc : Nat} {i : ClassFile.Instr} {m : Nat} {rest : List (Nat × ClassFile.Instr × Nat)} {L : ym_L} {st : List ym_V} {s : ym_S}, ((pc, i, m) :: rest) <:+ xm_il.getD k [] → ym_wp sc P K k cut n ((pc, i, m) :: rest) L st s → ym_Go sc P K (k, pc, L, st) s
  | 0, _, _, _, _, _, _, _, _, hx => False.elim hx
  | n + 1, pc, i, m, rest, L, st, s, hsf, hx => by
    obtain ⟨pre, hpre⟩ := hsf
    have hi : xm_ins k pc = some (i, m) := by
      unfold xm_ins
      have h1 := ym_srt_of k
      rw [← hpre] at h1 ⊢
      exact ym_look_suf pre h1
    have hrs : rest <:+ xm_il.getD k [] := ⟨pre ++ [(pc, i, m)], by rw [List.append_assoc]; exact hpre⟩
    unfold ym_wp at hx
    refine ym_x_ok hK hsc hi hx (fun t L2 st2 s2 hg => ?_)
    cases t with
    | none =>
      dsimp only at hg ⊢
      cases hc : cut.elem (pc + m) with
      | true =>
        rw [hc] at hg
        exact hg
      | false =>
        rw [hc] at hg
        cases rest with
        | nil => exact False.elim hg
        | cons a r =>
          obtain ⟨pc2, i2, m2⟩ := a
          have hg2 : (bif Nat.beq pc2 (pc + m) then ym_wp sc P K k cut n ((pc2, i2, m2) :: r) L2 st2 s2 else False) := hg
          cases hb : Nat.beq pc2 (pc + m) with
          | false =>
            rw [hb] at hg2
            exact False.elim hg2
          | true =>
            rw [hb] at hg2
            rw [← Nat.eq_of_beq_eq_true hb]
            exact ym_wp_ok hK hsc n hrs hg2
    | some q =>
      dsimp only at hg ⊢
      cases hc : (cut.elem q || Nat.ble q pc) with
      | true =>
        rw [hc] at hg
        exact hg
      | false =>
        rw [hc] at hg
        have hg2 : ym_wp sc P K k cut n (ym_from q rest) L2 st2 s2 := hg
        have hs2 := ym_from_suf q rest
        cases hf : ym_from q rest with
        | nil =>
          rw [hf] at hg2
          cases n with
          | zero => exact False.elim hg2
          | succ n => exact False.elim hg2
        | cons a r =>
          rw [hf] at hg2 hs2
          have hq := ym_from_hd q rest hf
          obtain ⟨pc2, i2, m2⟩ := a
          have hq : pc2 = q := hq
          rw [← hq]
          exact ym_wp_ok hK hsc n (hs2.trans hrs) hg2
/-- from a place of a method -/
theorem ym_seg {cut : List Nat} {cd : List (Nat × ClassFile.Instr × Nat)} (hK : K.length < 1000) (hsc : sc.1 ≤ 67108864) (hcd : xm_il.getD k [] = cd) (n : Nat) (hx : ym_wp sc P K k cut n (ym_from pc cd) L st s) : ym_Go sc P K (k, pc, L, st) s := by
  subst hcd
  have hs := ym_from_suf pc (xm_il.getD k [])
  cases hf : ym_from pc (xm_il.getD k []) with
  | nil =>
    rw [hf] at hx
    cases n with
    | zero => exact hx.elim
    | succ n => exact hx.elim
  | cons a r =>
    rw [hf] at hx hs
    obtain ⟨pc2, i2, m2⟩ := a
    have hq : pc2 = pc := ym_from_hd pc _ hf
    subst hq
    exact ym_wp_ok hK hsc n hs hx
end
