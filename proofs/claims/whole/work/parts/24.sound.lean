/-! The machine over whole numbers: what is left to show at a place suffices: own work. -/
def ym_dv (q : Nat) : Value := match q with
  | 2 => .long 0
  | 3 => .null
  | _ => .int 0
theorem ym_def_ok : ∀ ci : Nat, xm_def ci = (List.range (xm_def ci).length).map (fun j => ym_dv (ym_fk ci j))
  | 0 => rfl
  | 1 => rfl
  | 2 => rfl
  | 3 => rfl
  | 4 => rfl
  | 5 => rfl
  | _ + 6 => rfl
def ym_thr (k : Nat) (a : Nat × ClassFile.Instr × Nat) : Bool := match a.2.1 with
  | .new b => (match xm_cp k b with
    | some (5, _, ic) => decide (xm_ins k (a.1 + 3) = some (.dup, 1) ∧ xm_ins k (a.1 + 4) = some (.invokespecial ic, 3) ∧ xm_ins k (a.1 + 7) = some (.athrow, 1))
    | _ => true)
  | _ => true
def ym_srt : List (Nat × ClassFile.Instr × Nat) → Bool
  | [] => true
  | [_] => true
  | a :: b :: r => Nat.blt a.1 b.1 && ym_srt (b :: r)
set_option maxRecDepth 100000 in
theorem ym_thr_all : (List.range 136).all (fun k => (xm_il.getD k []).all (ym_thr k)) = true := by decide +kernel
set_option maxRecDepth 100000 in
theorem ym_srt_all : (List.range 136).all (fun k => ym_srt (xm_il.getD k [])) = true := by decide +kernel
theorem ym_il_hi {k : Nat} (h : 136 ≤ k) : xm_il.getD k [] = [] := by
  rw [List.getD_eq_getElem?_getD, List.getElem?_eq_none (show xm_il.length ≤ k from h)]
  rfl
theorem ym_thr_of {k pc a x ic m : Nat} (hi : xm_ins k pc = some (.new a, m)) (hc : xm_cp k a = some (5, x, ic)) : xm_ins k (pc + 3) = some (.dup, 1) ∧ xm_ins k (pc + 4) = some (.invokespecial ic, 3) ∧ xm_ins k (pc + 7) = some (.athrow, 1) := by
  have hm := xm_look_in hi
  by_cases hk : k < 136
  · have h1 := List.all_eq_true.mp ym_thr_all k (List.mem_range.mpr hk)
    have h2 := List.all_eq_true.mp h1 _ hm
    unfold ym_thr at h2
    dsimp only at h2
    rw [hc] at h2
    exact of_decide_eq_true h2
  · rw [ym_il_hi (by omega)] at hm
    cases hm
theorem ym_srt_of (k : Nat) : ym_srt (xm_il.getD k []) = true := by
  by_cases hk : k < 136
  · exact List.all_eq_true.mp ym_srt_all k (List.mem_range.mpr hk)
  · rw [ym_il_hi (by omega)]
    rfl
theorem ym_srt_lt : ∀ {l : List (Nat × ClassFile.Instr × Nat)} {a : Nat × ClassFile.Instr × Nat}, ym_srt (a :: l) = true → ∀ b ∈ l, a.1 < b.1
  | [], a, _, b, hb => by cases hb
  | c :: l, a, h, b, hb => by
    unfold ym_srt at h
    rw [Bool.and_eq_true] at h
    have h1 : a.1 < c.1 := Nat.le_of_ble_eq_true h.1
    rcases List.mem_cons.mp hb with rfl | hb
    · exact h1
    · have := ym_srt_lt h.2 b hb
      omega
theorem ym_srt_tl {l : List (Nat × ClassFile.Instr × Nat)} {a : Nat × ClassFile.Instr × Nat} (h : ym_srt (a :: l) = true) : ym_srt l = true := by
  cases l with
  | nil => rfl
  | cons c l =>
    unfold ym_srt at h
    rw [Bool.and_eq_true] at h
    exact h.2
theorem ym_look_suf : ∀ (pre : List (Nat × ClassFile.Instr × Nat)) {pc : Nat} {x : ClassFile.Instr × Nat} {rest : List (Nat × ClassFile.Instr × Nat)}, ym_srt (pre ++ (pc, x) :: rest) = true → xm_look (pre ++ (pc, x) :: rest) pc = some x
  | [], pc, x, rest, _ => by
    show (if pc = pc then some x else _) = _
    rw [if_pos rfl]
  | a :: pre, pc, x, rest, h => by
    have h1 := ym_srt_lt h (pc, x) (List.mem_append_right _ List.mem_cons_self)
    have h1 : a.1 < pc := h1
    show (if a.1 = pc then some a.2 else xm_look (pre ++ (pc, x) :: rest) pc) = _
    rw [if_neg (by omega)]
    exact ym_look_suf pre (ym_srt_tl h)
theorem ym_from_suf (q : Nat) : ∀ l : List (Nat × ClassFile.Instr × Nat), ym_from q l <:+ l
  | [] => List.suffix_refl _
  | a :: r => by
    unfold ym_from
    cases Nat.beq a.1 q with
    | true => exact List.suffix_refl _
    | false => exact (ym_from_suf q r).trans (List.suffix_cons _ _)
theorem ym_from_hd (q : Nat) : ∀ (l : List (Nat × ClassFile.Instr × Nat)) {a : Nat × ClassFile.Instr × Nat} {r : List (Nat × ClassFile.Instr × Nat)}, ym_from q l = a :: r → a.1 = q
  | [], a, r, h => by cases h
  | b :: l, a, r, h => by
    unfold ym_from at h
    cases hb : Nat.beq b.1 q with
    | true =>
      rw [hb] at h
      cases h
      exact Nat.eq_of_beq_eq_true hb
    | false =>
      rw [hb] at h
      exact ym_from_hd q l h
section
variable {sc : xm_S} {P : xm_O → xm_H → Prop} {K : List ym_F} {k pc m q : Nat} {i : ClassFile.Instr} {L L2 : ym_L} {st st2 : List ym_V} {s s2 : ym_S} {h h2 : xm_H} {go : ym_G}
theorem ym_tb_of {G : Int → Prop} : ∀ {offs : List Int} {z x : Int}, ym_tb G offs z x → ∀ (n : Nat) (off : Int), offs[n]? = some off → x = z + n → G off
  | [], z, x, _, n, off, h, _ => by cases h
  | o :: os, z, x, h, 0, off, h1, h2 => by
    cases h1
    exact h.1 (by omega)
  | o :: os, z, x, h, n + 1, off, h1, h2 => ym_tb_of h.2 n off h1 (by omega)
theorem ym_lb_of {G : Int → Prop} {d : Int} : ∀ {ps : List (Int × Int)} {x : Int}, ym_lb G d ps x → G (Op.lookupswitch.offset ps d x)
  | [], x, h => h
  | (z, off) :: r, x, h => by
    show G (if z = x then off else Op.lookupswitch.offset r d x)
    by_cases e : x = z
    · rw [if_pos e.symm]
      exact h.1 e
    · rw [if_neg (fun y => e y.symm)]
      exact ym_lb_of (h.2 e)
theorem ym_k_sw1 {d lo hi : Int} {offs : Array Int} (hx : ym_sw1 L st s go pc d lo hi offs.toList) : ∃ t st2, go (some t) L st2 s ∧ xm_tsw d lo hi offs k pc (ym_ml L) (st.map ym_v) h = xm_nx k t (ym_ml L) (st2.map ym_v) h := by
  unfold ym_sw1 at hx
  split at hx
  · rename_i x r
    obtain ⟨hx1, hx⟩ := hx
    obtain ⟨h1, hx⟩ := ym_ck_of hx
    rw [Bool.and_eq_true] at h1
    obtain ⟨h1, h2⟩ := h1
    have h2 := of_decide_eq_true h2
    show ∃ t st2, _ ∧ (if (Int32.ofInt x).toInt < lo ∨ hi < (Int32.ofInt x).toInt then (if 0 ≤ (pc : Int) + d then xm_nx k (xm_tg pc d) (ym_ml L) (r.map ym_v) h else none) else match offs.toList[((Int32.ofInt x).toInt - lo).toNat]? with
      | some off => if 0 ≤ (pc : Int) + off then xm_nx k (xm_tg pc off) (ym_ml L) (r.map ym_v) h else none
      | none => none) = _
    rw [ym_of hx1]
    by_cases e : x < lo ∨ hi < x
    · exact ⟨_, _, hx.1 e, (if_pos e).trans (if_pos (ym_jk_of h1))⟩
    · obtain ⟨off, ho⟩ : ∃ off, offs.toList[(x - lo).toNat]? = some off := ⟨_, List.getElem?_eq_getElem (by omega)⟩
      obtain ⟨g1, g2⟩ := ym_ck_of (ym_tb_of hx.2 _ off ho (by omega))
      refine ⟨_, _, g2, (if_neg e).trans ?_⟩
      rw [ho]
      exact if_pos (ym_jk_of g1)
  · exact hx.elim
theorem ym_k_sw2 {d : Int} {ps : Array (Int × Int)} (hx : ym_sw2 L st s go pc d ps.toList) : ∃ t st2, go (some t) L st2 s ∧ xm_lsw d ps k pc (ym_ml L) (st.map ym_v) h = xm_nx k t (ym_ml L) (st2.map ym_v) h := by
  unfold ym_sw2 at hx
  split at hx
  · rename_i x r
    obtain ⟨hx1, hx⟩ := hx
    obtain ⟨h1, hx⟩ := ym_ck_of hx
    obtain ⟨g1, g2⟩ := ym_ck_of (ym_lb_of hx)
    refine ⟨_, _, g2, ?_⟩
    show (if (ps.toList.zip (ps.toList.drop 1)).all (fun (a, next) => a.1 < next.1) = true ∧ 0 ≤ (pc : Int) + Op.lookupswitch.offset ps.toList d (Int32.ofInt x).toInt then xm_nx k (xm_tg pc (Op.lookupswitch.offset ps.toList d (Int32.ofInt x).toInt)) (ym_ml L) (r.map ym_v) h else none) = _
    rw [ym_of hx1]
    exact if_pos ⟨h1, ym_jk_of g1⟩
  · exact hx.elim
theorem ym_c_def {ci c : Nat} (hz : ∀ j, s.1 c j = 0 ∧ s.2.1 c j = 0 ∧ s.2.2.1 c j = none) : ym_c s c 0 (some (.inr (ci, xm_def ci))) (ci + 4) := by
  refine ⟨_, rfl, rfl, fun j v hv => ?_⟩
  rw [ym_def_ok, List.getElem?_map] at hv
  obtain ⟨z1, z2, z3⟩ := hz j
  cases hr : (List.range (xm_def ci).length)[j]? with
  | none => rw [hr] at hv; cases hv
  | some w =>
    rw [hr] at hv
    have hw : w = j := by
      obtain ⟨h1, h2⟩ := List.getElem?_eq_some_iff.mp hr
      rw [List.getElem_range] at h2
      exact h2.symm
    subst hw
    cases hv
    show ym_dv (ym_fk ci w) = ym_fv s ci c w
    unfold ym_dv ym_fv
    rw [z1, z2, z3]
    generalize ym_fk ci w = q
    rcases q with _ | _ | _ | _ | q <;> rfl
theorem ym_k_new {a : Nat} (hi : xm_ins k pc = some (.new a, 3)) (hH : ym_H s h) (hg : ym_K sc P K k pc 3 go) (hx : ym_new sc P K k L st s go (xm_cp k a)) : xm_Go sc P (K.map ym_f) (ym_f (k, pc, L, st)) h := by
  unfold ym_new at hx
  split at hx
  · rename_i ci _ hc
    refine ym_k_go hi (ym_H_new hH (ym_c_def (hH.2.2.1 (ym_n s) (Nat.le_refl _)))) hg ?_ hx
    show xm_nob k pc a (ym_ml L) (st.map ym_v) h = _
    unfold xm_nob
    rw [hc]
    show xm_nx k (pc + 3) (ym_ml L) (.ref h.1.length :: st.map ym_v) _ = _
    rw [hH.1.1]
    rfl
  · rename_i x ic hc
    obtain ⟨h1, hx⟩ := ym_ck_of hx
    rw [Bool.and_eq_true] at h1
    obtain ⟨h1, h2⟩ := h1
    have hk : k ≠ 134 := by
      rintro rfl
      cases h2
    obtain ⟨d1, d2, d3⟩ := ym_thr_of hi hc
    refine xm_go_th (x := x) (ym_ste hi ?_ ?_) (hx _ (ym_H_ex hH))
    · show xm_nob k pc a (ym_ml L) (st.map ym_v) h = none
      unfold xm_nob
      rw [hc]
      rfl
    · show (if xm_wt (st.map ym_v) ≤ 8 then xm_thr k pc a h else none) = _
      rw [if_pos (by rw [ym_wt_map]; exact Nat.le_of_ble_eq_true h1)]
      unfold xm_thr
      rw [hc]
      exact if_pos ⟨d1, d2, d3, by unfold xm_hh; rw [if_neg hk]⟩
  · exact hx.elim
theorem ym_k_call {k2 : Nat} {as rest : List ym_V} (hK : K.length < 1000) (hH : ym_H s h) (hx : ym_cl sc P K k pc L k2 as rest s) (hs : xm_wt (rest.map ym_v) ≤ 8 → (xm_sl (as.map ym_v)).length ≤ xm_n k2 → xm_step sc (ym_f (k, pc, L, st)) h = some (.inr (.inr (.inr (k2, as.map ym_v, rest.map ym_v))))) : xm_Go sc P (K.map ym_f) (ym_f (k, pc, L, st)) h := by
  obtain ⟨h1, hx⟩ := ym_ck_of hx
  rw [Bool.and_eq_true] at h1
  exact ym_clk hK (hs (by rw [ym_wt_map]; exact Nat.le_of_ble_eq_true h1.1) (by rw [ym_sl_map, ym_len_map]; exact Nat.le_of_ble_eq_true h1.2)) hH hx
theorem ym_dt (z : Nat) (st : List ym_V) : (st.map ym_v).drop z = (st.drop z).map ym_v ∧ ((st.map ym_v).take z).reverse = (st.take z).reverse.map ym_v ∧ (st.map ym_v).length = st.length := ⟨(List.map_drop).symm, by rw [← List.map_take, List.map_reverse], List.length_map _⟩
theorem ym_k_spc {a : Nat} (hK : K.length < 1000) (hi : xm_ins k pc = some (.invokespecial a, 3)) (hH : ym_H s h) (hg : ym_K sc P K k pc 3 go) (hx : ym_spc sc P K k pc L st s go (xm_cp k a)) : xm_Go sc P (K.map ym_f) (ym_f (k, pc, L, st)) h := by
  unfold ym_spc at hx
  split at hx
  · rename_i hc
    split at hx
    · rename_i b r
      obtain ⟨h1, hx⟩ := ym_ck_of hx
      refine ym_k_go hi hH hg ?_ hx
      show xm_oin k pc a (ym_ml L) ((.inr (some b) :: r : List ym_V).map ym_v) h = _
      unfold xm_oin
      rw [hc]
      exact if_pos (by rw [ym_wt_map]; exact Nat.le_of_ble_eq_true h1)
    · exact hx.elim
  · rename_i k2 z hc
    obtain ⟨e1, e2, e3⟩ := ym_dt z st
    split at hx
    · rename_i b c r hd
      obtain ⟨h1, hx⟩ := ym_ck_of hx
      refine ym_k_call hK hH hx (fun g1 g2 => ym_ste hi ?_ ?_)
      · show xm_oin k pc a (ym_ml L) (st.map ym_v) h = none
        unfold xm_oin
        rw [hc]
        split
        · rename_i _ e
          cases e
        · rfl
      · show (match xm_cp k a with
          | some (3, k2, z) => match (st.map ym_v).drop z with
            | .ref i :: r => if z ≤ (st.map ym_v).length ∧ xm_wt r ≤ 8 ∧ (xm_sl (.ref i :: ((st.map ym_v).take z).reverse)).length ≤ xm_n k2 then (some (Sum.inr (Sum.inr (Sum.inr (k2, .ref i :: ((st.map ym_v).take z).reverse, r)))) : Option xm_R) else none
            | _ => none
          | some (13, k2, z) => match (st.map ym_v).drop z with
            | .ref i :: r => if z ≤ (st.map ym_v).length ∧ xm_wt r ≤ 8 ∧ (xm_sl (.ref i :: ((st.map ym_v).take z).reverse)).length ≤ xm_n k2 then (some (Sum.inr (Sum.inr (Sum.inr (k2, .ref i :: ((st.map ym_v).take z).reverse, r)))) : Option xm_R) else none
            | _ => none
          | _ => none) = _
        rw [hc]
        show (match (st.map ym_v).drop z with
            | .ref i :: r => if z ≤ (st.map ym_v).length ∧ xm_wt r ≤ 8 ∧ (xm_sl (.ref i :: ((st.map ym_v).take z).reverse)).length ≤ xm_n k2 then (some (Sum.inr (Sum.inr (Sum.inr (k2, .ref i :: ((st.map ym_v).take z).reverse, r)))) : Option xm_R) else none
            | _ => none) = _
        rw [e1, hd, e2, e3]
        exact if_pos ⟨Nat.le_of_ble_eq_true h1, g1, g2⟩
    · exact hx.elim
  · rename_i k2 z hc
    obtain ⟨e1, e2, e3⟩ := ym_dt z st
    split at hx
    · rename_i b c r hd
      obtain ⟨h1, hx⟩ := ym_ck_of hx
      refine ym_k_call hK hH hx (fun g1 g2 => ym_ste hi ?_ ?_)
      · show xm_oin k pc a (ym_ml L) (st.map ym_v) h = none
        unfold xm_oin
        rw [hc]
        split
        · rename_i _ e
          cases e
        · rfl
      · show (match xm_cp k a with
          | some (3, k2, z) => match (st.map ym_v).drop z with
            | .ref i :: r => if z ≤ (st.map ym_v).length ∧ xm_wt r ≤ 8 ∧ (xm_sl (.ref i :: ((st.map ym_v).take z).reverse)).length ≤ xm_n k2 then (some (Sum.inr (Sum.inr (Sum.inr (k2, .ref i :: ((st.map ym_v).take z).reverse, r)))) : Option xm_R) else none
            | _ => none
          | some (13, k2, z) => match (st.map ym_v).drop z with
            | .ref i :: r => if z ≤ (st.map ym_v).length ∧ xm_wt r ≤ 8 ∧ (xm_sl (.ref i :: ((st.map ym_v).take z).reverse)).length ≤ xm_n k2 then (some (Sum.inr (Sum.inr (Sum.inr (k2, .ref i :: ((st.map ym_v).take z).reverse, r)))) : Option xm_R) else none
            | _ => none
          | _ => none) = _
        rw [hc]
        show (match (st.map ym_v).drop z with
            | .ref i :: r => if z ≤ (st.map ym_v).length ∧ xm_wt r ≤ 8 ∧ (xm_sl (.ref i :: ((st.map ym_v).take z).reverse)).length ≤ xm_n k2 then (some (Sum.inr (Sum.inr (Sum.inr (k2, .ref i :: ((st.map ym_v).take z).reverse, r)))) : Option xm_R) else none
            | _ => none) = _
        rw [e1, hd, e2, e3]
        exact if_pos ⟨Nat.le_of_ble_eq_true h1, g1, g2⟩
    · exact hx.elim
  · exact hx.elim
theorem ym_k_vir {a : Nat} (hK : K.length < 1000) (hi : xm_ins k pc = some (.invokevirtual a, 3)) (hH : ym_H s h) (hx : ym_vir sc P K k pc L st s (xm_cp k a)) : xm_Go sc P (K.map ym_f) (ym_f (k, pc, L, st)) h := by
  unfold ym_vir at hx
  split at hx
  · rename_i k2 z hc
    obtain ⟨e1, e2, e3⟩ := ym_dt z st
    split at hx
    · rename_i b c r hd
      obtain ⟨⟨n, hT⟩, hx⟩ := ym_ob_of hx hH.2.2.2.1
      obtain ⟨h1, hx⟩ := ym_ck_of hx
      obtain ⟨fs, d1, -, -⟩ := ym_c_ob (hH.2.2.2.2 c _ n hT)
      refine ym_k_call hK hH hx (fun g1 g2 => ym_ste hi rfl ?_)
      show (match xm_cp k a with
        | some (1, k2, z) => match (st.map ym_v).drop z with
          | .ref i :: r => match xm_cell h i with
            | some (.inr (ci, _)) => if (ci = xm_rc k2 ∧ z ≤ (st.map ym_v).length) ∧ xm_wt r ≤ 8 ∧ (xm_sl (.ref i :: ((st.map ym_v).take z).reverse)).length ≤ xm_n k2 then (some (Sum.inr (Sum.inr (Sum.inr (k2, .ref i :: ((st.map ym_v).take z).reverse, r)))) : Option xm_R) else none
            | _ => none
          | _ => none
        | _ => none) = _
      rw [hc]
      show (match (st.map ym_v).drop z with
          | .ref i :: r => match xm_cell h i with
            | some (.inr (ci, _)) => if (ci = xm_rc k2 ∧ z ≤ (st.map ym_v).length) ∧ xm_wt r ≤ 8 ∧ (xm_sl (.ref i :: ((st.map ym_v).take z).reverse)).length ≤ xm_n k2 then (some (Sum.inr (Sum.inr (Sum.inr (k2, .ref i :: ((st.map ym_v).take z).reverse, r)))) : Option xm_R) else none
            | _ => none
          | _ => none) = _
      rw [e1, hd, e2, e3]
      show (match xm_cell h c with
            | some (.inr (ci, _)) => if (ci = xm_rc k2 ∧ z ≤ st.length) ∧ xm_wt (r.map ym_v) ≤ 8 ∧ (xm_sl (.ref c :: (st.take z).reverse.map ym_v)).length ≤ xm_n k2 then (some (Sum.inr (Sum.inr (Sum.inr (k2, .ref c :: (st.take z).reverse.map ym_v, r.map ym_v)))) : Option xm_R) else none
            | _ => none) = _
      rw [d1]
      exact if_pos ⟨⟨rfl, Nat.le_of_ble_eq_true h1⟩, g1, g2⟩
    · exact hx.elim
  · exact hx.elim
end
