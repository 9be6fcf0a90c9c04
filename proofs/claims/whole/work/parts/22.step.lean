/-! The machine over whole numbers: its steps are the small machine's: own work. -/
section
variable {sc : xm_S} {P : xm_O → xm_H → Prop} {K : List ym_F} {k pc m q : Nat} {i : ClassFile.Instr} {L L2 : ym_L} {st st2 : List ym_V} {s s2 : ym_S} {h h2 : xm_H} {go : ym_G}
theorem ym_st0 (hi : xm_ins k pc = some (i, m)) : xm_step sc (ym_f (k, pc, L, st)) h = match xm_do sc i m k pc (ym_ml L) (st.map ym_v) h with
    | some q => some (.inl q)
    | none => xm_end i m k pc (st.map ym_v) h := by
  unfold xm_step
  show (match xm_ins k pc with
    | none => none
    | some (i, n) => match xm_do sc i n k pc (ym_ml L) (st.map ym_v) h with
      | some q => some (Sum.inl q)
      | none => xm_end i n k pc (st.map ym_v) h) = _
  rw [hi]
theorem ym_stp (hi : xm_ins k pc = some (i, m)) (hd : xm_do sc i m k pc (ym_ml L) (st.map ym_v) h = some ((k, q, ym_ml L2, st2.map ym_v), h2)) (hH : ym_H s2 h2) (kk : ym_Go sc P K (k, q, L2, st2) s2) : xm_Go sc P (K.map ym_f) (ym_f (k, pc, L, st)) h := by
  refine xm_go_on (f2 := ym_f (k, q, L2, st2)) (h2 := h2) ?_ (kk h2 hH)
  rw [ym_st0 hi, hd]
  rfl
theorem ym_ste {r : xm_R} (hi : xm_ins k pc = some (i, m)) (hd : xm_do sc i m k pc (ym_ml L) (st.map ym_v) h = none) (he : xm_end i m k pc (st.map ym_v) h = some r) : xm_step sc (ym_f (k, pc, L, st)) h = some r := by
  rw [ym_st0 hi, hd]
  exact he
theorem ym_clk {k2 : Nat} {as rest : List ym_V} (hK : K.length < 1000) (hs : xm_step sc (ym_f (k, pc, L, st)) h = some (.inr (.inr (.inr (k2, as.map ym_v, rest.map ym_v))))) (hH : ym_H s h) (kk : ym_Go sc P ((k, pc, L, rest) :: K) (k2, 0, ym_ent (xm_n k2) as, []) s) : xm_Go sc P (K.map ym_f) (ym_f (k, pc, L, st)) h := by
  refine xm_go_cl (by rw [List.length_map]; exact hK) hs ?_
  have h1 := kk h hH
  unfold ym_f at h1
  dsimp only at h1
  rw [← ym_ent_map] at h1
  exact h1
theorem ym_jk_of {off : Int} (h : ym_jk pc off = true) : 0 ≤ (pc : Int) + off := of_decide_eq_true h
theorem ym_rt_cons {g : ym_F} {v : Option ym_V} (kk : ym_Go sc P K (g.1, g.2.1 + 3, g.2.2.1, v.toList ++ g.2.2.2) s) : ym_Rt sc P (g :: K) v s := by
  intro h hH
  obtain ⟨n, o, h2, a, b⟩ := kk h hH
  refine ⟨n, o, h2, ?_, b⟩
  rw [List.length_map] at a ⊢
  have e : (ym_f (g.1, g.2.1 + 3, g.2.2.1, v.toList ++ g.2.2.2)) = ((ym_f g).1, (ym_f g).2.1 + 3, (ym_f g).2.2.1, (v.map ym_v).toList ++ (ym_f g).2.2.2) := by
    unfold ym_f
    cases v with
    | none => rfl
    | some w => rfl
  rw [e] at a
  exact a
theorem ym_ex_cons {g : ym_F} {x : Nat} (hv : xm_vt g.1 g.2.1 = true) (hh : xm_hh g.1 = []) (kk : ym_Ex sc P K x s) : ym_Ex sc P (g :: K) x s := fun h hH => ⟨hv, Or.inl ⟨hh, kk h hH⟩⟩
theorem ym_ex_catch {g : ym_F} {x pc2 j : Nat} (hv : xm_vt g.1 g.2.1 = true) (hh : xm_hh g.1 ≠ []) (hc : xm_cat g.1 g.2.1 x = some (pc2, j)) (kk : ym_Go sc P K (g.1, pc2 + 1, (ym_clr g.2.2.1 j).set j none, []) s) : ym_Ex sc P (g :: K) x s := by
  intro h hH
  obtain ⟨n, o, h2, a, b⟩ := kk h hH
  refine ⟨hv, Or.inr ⟨hh, pc2, j, n, o, h2, hc, ?_, b⟩⟩
  rw [List.length_map] at a ⊢
  have e : ym_f (g.1, pc2 + 1, (ym_clr g.2.2.1 j).set j none, []) = ((ym_f g).1, pc2 + 1, (xm_clr (ym_f g).2.2.1 j).set j none, []) := by
    unfold ym_f
    dsimp only
    rw [ym_set_map, ym_clr_map]
    rfl
  rw [e] at a
  exact a
-- what the instructions ask
abbrev ym_K (sc : xm_S) (P : xm_O → xm_H → Prop) (K : List ym_F) (k pc m : Nat) (go : ym_G) : Prop := ∀ (t : Option Nat) (L : ym_L) (st : List ym_V) (s : ym_S), go t L st s → ym_Go sc P K (k, (match t with
  | none => pc + m
  | some q => q), L, st) s
variable (hi : xm_ins k pc = some (i, m)) (hH : ym_H s h) (hg : ym_K sc P K k pc m go)
theorem ym_k_go {L2 : ym_L} {st2 : List ym_V} (hi : xm_ins k pc = some (i, m)) (hH : ym_H s2 h2) (hg : ym_K sc P K k pc m go) (hd : xm_do sc i m k pc (ym_ml L) (st.map ym_v) h = some ((k, pc + m, ym_ml L2, st2.map ym_v), h2)) (hx : go none L2 st2 s2) : xm_Go sc P (K.map ym_f) (ym_f (k, pc, L, st)) h := ym_stp hi hd hH (hg none L2 st2 s2 hx)
theorem ym_k_jp {L2 : ym_L} {st2 : List ym_V} {q : Nat} (hi : xm_ins k pc = some (i, m)) (hH : ym_H s2 h2) (hg : ym_K sc P K k pc m go) (hd : xm_do sc i m k pc (ym_ml L) (st.map ym_v) h = some ((k, q, ym_ml L2, st2.map ym_v), h2)) (hx : go (some q) L2 st2 s2) : xm_Go sc P (K.map ym_f) (ym_f (k, pc, L, st)) h := ym_stp hi hd hH (hg (some q) L2 st2 s2 hx)
theorem ym_k_ilo {a : Nat} (hx : ym_ilo L st s go a) : ∃ st2, go none L st2 s ∧ ∀ n k pc h, xm_ilo a n k pc (ym_ml L) (st.map ym_v) h = xm_nx k (pc + n) (ym_ml L) (st2.map ym_v) h := by
  unfold ym_ilo at hx
  split at hx
  · rename_i x e
    refine ⟨_, hx, fun n k pc h => ?_⟩
    unfold xm_ilo
    rw [ym_ld_map, e]
    rfl
  · exact hx.elim
theorem ym_k_llo {a : Nat} (hx : ym_llo L st s go a) : ∃ st2, go none L st2 s ∧ ∀ n k pc h, xm_llo a n k pc (ym_ml L) (st.map ym_v) h = xm_nx k (pc + n) (ym_ml L) (st2.map ym_v) h := by
  unfold ym_llo at hx
  split at hx
  · rename_i x e
    refine ⟨_, hx, fun n k pc h => ?_⟩
    unfold xm_llo
    rw [ym_ld_map, e]
    rfl
  · exact hx.elim
theorem ym_k_alo {a : Nat} (hx : ym_alo L st s go a) : ∃ st2, go none L st2 s ∧ ∀ n k pc h, xm_alo a n k pc (ym_ml L) (st.map ym_v) h = xm_nx k (pc + n) (ym_ml L) (st2.map ym_v) h := by
  unfold ym_alo at hx
  split at hx
  · rename_i x e
    refine ⟨_, hx, fun n k pc h => ?_⟩
    unfold xm_alo
    rw [ym_ld_map, e]
    cases x with
    | none => rfl
    | some q => rfl
  · exact hx.elim
theorem ym_k_st1 {a : Nat} {v : ym_V} : ym_ml ((ym_clr L a).set a (some v)) = xm_st1 (ym_ml L) a (ym_v v) := by
  unfold xm_st1
  rw [ym_set_map, ym_clr_map]
  rfl
theorem ym_k_ist {a : Nat} (hx : ym_ist L st s go a) : ∃ L2 st2, go none L2 st2 s ∧ ∀ n k pc h, xm_ist a n k pc (ym_ml L) (st.map ym_v) h = xm_nx k (pc + n) (ym_ml L2) (st2.map ym_v) h := by
  unfold ym_ist at hx
  split at hx
  · rename_i x r
    obtain ⟨h1, h2⟩ := ym_ck_of hx
    refine ⟨_, _, h2, fun n k pc h => ?_⟩
    rw [ym_k_st1]
    exact if_pos (by rw [ym_len_map]; exact Nat.le_of_ble_eq_true h1)
  · exact hx.elim
theorem ym_k_lst {a : Nat} (hx : ym_lst L st s go a) : ∃ L2 st2, go none L2 st2 s ∧ ∀ n k pc h, xm_lst a n k pc (ym_ml L) (st.map ym_v) h = xm_nx k (pc + n) (ym_ml L2) (st2.map ym_v) h := by
  unfold ym_lst at hx
  split at hx
  · rename_i x r
    obtain ⟨h1, h2⟩ := ym_ck_of hx
    refine ⟨_, _, h2, fun n k pc h => ?_⟩
    rw [ym_set_map, ym_set_map, ym_clr_map]
    exact if_pos (by rw [ym_len_map]; exact Nat.le_of_ble_eq_true h1)
  · exact hx.elim
theorem ym_k_ast {a : Nat} (hx : ym_ast L st s go a) : ∃ L2 st2, go none L2 st2 s ∧ ∀ n k pc h, xm_ast a n k pc (ym_ml L) (st.map ym_v) h = xm_nx k (pc + n) (ym_ml L2) (st2.map ym_v) h := by
  unfold ym_ast at hx
  split at hx
  · rename_i x r
    obtain ⟨h1, h2⟩ := ym_ck_of hx
    refine ⟨_, _, h2, fun n k pc h => ?_⟩
    rw [ym_k_st1]
    cases x with
    | none => exact if_pos (by rw [ym_len_map]; exact Nat.le_of_ble_eq_true h1)
    | some q => exact if_pos (by rw [ym_len_map]; exact Nat.le_of_ble_eq_true h1)
  · exact hx.elim
theorem ym_k_inc {a : Nat} {z : Int} (hx : ym_inc L st s go a z) : ∃ L2, go none L2 st s ∧ ∀ k pc h, xm_inc a z k pc (ym_ml L) (st.map ym_v) h = xm_nx k (pc + 3) (ym_ml L2) (st.map ym_v) h := by
  unfold ym_inc at hx
  split at hx
  · rename_i x e
    obtain ⟨h1, h2⟩ := ym_ck_of hx
    refine ⟨_, h2, fun k pc h => ?_⟩
    rw [ym_k_st1]
    unfold xm_inc
    rw [ym_ld_map, e]
    show (if a < (ym_ml L).length then xm_nx k (pc + 3) (xm_st1 (ym_ml L) a (.int (Int32.ofInt x + Int32.ofInt z))) (st.map ym_v) h else none) = _
    rw [if_pos (by rw [ym_len_map]; exact Nat.le_of_ble_eq_true h1), ← Int32.ofInt_add]
    rfl
  · exact hx.elim
theorem ym_k_b2 {o : Int → Int → Int} {o2 : Int32 → Int32 → Int32} (ho : ∀ x y, o2 (Int32.ofInt x) (Int32.ofInt y) = Int32.ofInt (o x y)) (hx : ym_b2 L st s go o) : ∃ st2, go none L st2 s ∧ ∀ k pc h, xm_bi2 o2 k pc (ym_ml L) (st.map ym_v) h = xm_nx k (pc + 1) (ym_ml L) (st2.map ym_v) h := by
  unfold ym_b2 at hx
  split at hx
  · rename_i y x r
    refine ⟨_, hx, fun k pc h => ?_⟩
    show xm_nx k (pc + 1) (ym_ml L) (.int (o2 (Int32.ofInt x) (Int32.ofInt y)) :: r.map ym_v) h = _
    rw [ho]
    rfl
  · exact hx.elim
theorem ym_k_d2 {o : Int → Int → Int} {o2 : Int32 → Int32 → Int32} (ho : ∀ x y, o2 (Int32.ofInt x) (Int32.ofInt y) = Int32.ofInt (o x y)) (hx : ym_d2 L st s go o) : ∃ st2, go none L st2 s ∧ ∀ k pc h, xm_bd2 o2 k pc (ym_ml L) (st.map ym_v) h = xm_nx k (pc + 1) (ym_ml L) (st2.map ym_v) h := by
  unfold ym_d2 at hx
  split at hx
  · rename_i y x r
    obtain ⟨h1, h2⟩ := ym_ck_of hx
    rw [Bool.and_eq_true, decide_eq_true_iff, decide_eq_true_iff] at h1
    refine ⟨_, h2, fun k pc h => ?_⟩
    show (if Int32.ofInt y = 0 then none else xm_nx k (pc + 1) (ym_ml L) (.int (o2 (Int32.ofInt x) (Int32.ofInt y)) :: r.map ym_v) h) = _
    rw [if_neg (by rw [ym_of0, ym_eq ⟨by omega, by omega⟩ ym_in0]; omega), ho]
    rfl
  · exact hx.elim
theorem ym_k_l2 {o : Int64 → Int64 → Int64} (hx : ym_l2 L st s go o) : ∃ st2, go none L st2 s ∧ ∀ k pc h, xm_l2 o k pc (ym_ml L) (st.map ym_v) h = xm_nx k (pc + 1) (ym_ml L) (st2.map ym_v) h := by
  unfold ym_l2 at hx
  split at hx
  · exact ⟨_, hx, fun k pc h => rfl⟩
  · exact hx.elim
theorem ym_k_ls {o : Int64 → Int → Int64} {o2 : Int64 → Int32 → Int64} (ho : ∀ x y, o2 x (Int32.ofInt y) = o x y) (hx : ym_ls L st s go o) : ∃ st2, go none L st2 s ∧ ∀ k pc h, xm_ls o2 k pc (ym_ml L) (st.map ym_v) h = xm_nx k (pc + 1) (ym_ml L) (st2.map ym_v) h := by
  unfold ym_ls at hx
  split at hx
  · rename_i y x r
    refine ⟨_, hx, fun k pc h => ?_⟩
    show xm_nx k (pc + 1) (ym_ml L) (.long (o2 x (Int32.ofInt y)) :: r.map ym_v) h = _
    rw [ho]
    rfl
  · exact hx.elim
theorem ym_k_br {c : ClassFile.Cond} {x y : Int} {T N : Prop} (hx : ym_br c x y T N) : (xm_ic c (Int32.ofInt x) (Int32.ofInt y) = true ∧ T) ∨ (xm_ic c (Int32.ofInt x) (Int32.ofInt y) = false ∧ N) := by
  obtain ⟨hx1, hy1, hc⟩ := hx
  unfold xm_ic
  cases c with
  | eq =>
    dsimp only at hc ⊢
    by_cases e : x = y
    · exact Or.inl ⟨decide_eq_true ((ym_eq hx1 hy1).mpr e), hc.1 e⟩
    · exact Or.inr ⟨decide_eq_false (fun z => e ((ym_eq hx1 hy1).mp z)), hc.2 e⟩
  | ne =>
    dsimp only at hc ⊢
    by_cases e : x = y
    · exact Or.inr ⟨by rw [decide_eq_true ((ym_eq hx1 hy1).mpr e)]; rfl, hc.1 e⟩
    · exact Or.inl ⟨by rw [decide_eq_false (fun z => e ((ym_eq hx1 hy1).mp z))]; rfl, hc.2 e⟩
  | lt =>
    dsimp only at hc ⊢
    by_cases e : x < y
    · exact Or.inl ⟨decide_eq_true ((ym_lt hx1 hy1).mpr e), hc.1 e⟩
    · exact Or.inr ⟨decide_eq_false (fun z => e ((ym_lt hx1 hy1).mp z)), hc.2 (by omega)⟩
  | ge =>
    dsimp only at hc ⊢
    by_cases e : x < y
    · exact Or.inr ⟨decide_eq_false (fun z => absurd ((ym_le hy1 hx1).mp z) (by omega)), hc.1 e⟩
    · exact Or.inl ⟨decide_eq_true ((ym_le hy1 hx1).mpr (by omega)), hc.2 (by omega)⟩
  | gt =>
    dsimp only at hc ⊢
    by_cases e : y < x
    · exact Or.inl ⟨decide_eq_true ((ym_lt hy1 hx1).mpr e), hc.1 e⟩
    · exact Or.inr ⟨decide_eq_false (fun z => e ((ym_lt hy1 hx1).mp z)), hc.2 (by omega)⟩
  | le =>
    dsimp only at hc ⊢
    by_cases e : y < x
    · exact Or.inr ⟨decide_eq_false (fun z => absurd ((ym_le hx1 hy1).mp z) (by omega)), hc.1 e⟩
    · exact Or.inl ⟨decide_eq_true ((ym_le hx1 hy1).mpr (by omega)), hc.2 (by omega)⟩
theorem ym_k_jx {off : Int} {b : Bool} {r : List ym_V} (hj : ym_jk pc off = true) (hx : (b = true ∧ go (some (xm_tg pc off)) L r s) ∨ (b = false ∧ go none L r s)) : ∃ t, go t L r s ∧ ∀ h, xm_jp b k pc off (ym_ml L) (r.map ym_v) h = xm_nx k (match t with
    | none => pc + 3
    | some q => q) (ym_ml L) (r.map ym_v) h := by
  rcases hx with ⟨e, hx⟩ | ⟨e, hx⟩
  · subst e
    exact ⟨_, hx, fun h => if_pos (ym_jk_of hj)⟩
  · subst e
    exact ⟨_, hx, fun h => if_pos (ym_jk_of hj)⟩
end
