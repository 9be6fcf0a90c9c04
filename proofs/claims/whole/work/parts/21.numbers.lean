/-! The machine over whole numbers: rows of numbers, frames and cells: own work. -/
theorem ym_of {a : Int} (h : ym_in a) : (Int32.ofInt a).toInt = a := Int32.toInt_ofInt_of_le (by have := h.1; omega) (by have := h.2; omega)
theorem ym_toin (x : Int32) : ym_in x.toInt := ⟨by have := x.le_toInt; omega, by have := x.toInt_lt; omega⟩
theorem ym_lt {x y : Int} (hx : ym_in x) (hy : ym_in y) : Int32.ofInt x < Int32.ofInt y ↔ x < y := by rw [Int32.lt_iff_toInt_lt, ym_of hx, ym_of hy]
theorem ym_le {x y : Int} (hx : ym_in x) (hy : ym_in y) : Int32.ofInt x ≤ Int32.ofInt y ↔ x ≤ y := by rw [Int32.le_iff_toInt_le, ym_of hx, ym_of hy]
theorem ym_eq {x y : Int} (hx : ym_in x) (hy : ym_in y) : Int32.ofInt x = Int32.ofInt y ↔ x = y := by rw [← Int32.toInt_inj, ym_of hx, ym_of hy]
theorem ym_of0 : (0 : Int32) = Int32.ofInt 0 := rfl
theorem ym_of1 : (1 : Int32) = Int32.ofInt 1 := rfl
theorem ym_in0 : ym_in 0 := by decide
theorem ym_idx {j : Int} {n : Nat} (h0 : 0 ≤ j) (h1 : j < (n : Int)) (hn : n ≤ 67108864) : ¬ (Int32.ofInt j < 0 ∨ n ≤ (Int32.ofInt j).toNatClampNeg) ∧ (Int32.ofInt j).toNatClampNeg = j.toNat ∧ j.toNat < n ∧ ((j.toNat : Nat) : Int) = j := by
  have hj : ym_in j := ⟨by omega, by omega⟩
  have e : (Int32.ofInt j).toNatClampNeg = j.toNat := by rw [← Int32.toNat_toInt, ym_of hj]
  refine ⟨?_, e, by omega, by omega⟩
  rw [e, ym_of0, ym_lt hj ym_in0]
  omega
theorem ym_bool {x : Int} (h : x = 0 ∨ x = 1) : Int32.ofInt x = 0 ∨ Int32.ofInt x = 1 := by
  rcases h with rfl | rfl
  · exact Or.inl rfl
  · exact Or.inr rfl
theorem ym_and_in (x y : Int) : ym_in (ym_and x y) := ym_toin _
theorem ym_or_in (x y : Int) : ym_in (ym_or x y) := ym_toin _
theorem ym_shl_in (x y : Int) : ym_in (ym_shl x y) := ym_toin _
theorem ym_shr_in (x y : Int) : ym_in (ym_shr x y) := ym_toin _
theorem ym_div_in (x y : Int) : ym_in (ym_div x y) := ym_toin _
theorem ym_rem_in (x y : Int) : ym_in (ym_rem x y) := ym_toin _
theorem ym_l2i_in (x : Int64) : ym_in (ym_l2i x) := ym_toin _
theorem ym_cmp_in (x y : Int64) : ym_in (ym_cmp x y) := by
  unfold ym_cmp
  split
  · decide
  · split <;> decide
theorem ym_cmp_of (x y : Int64) : Int32.ofInt (ym_cmp x y) = lg_cmp x y := by
  unfold ym_cmp lg_cmp
  split
  · rfl
  · split <;> rfl
-- frames
theorem ym_ld_map (L : ym_L) (i : Nat) : xm_ld (ym_ml L) i = (ym_ld L i).map ym_v := by
  unfold xm_ld ym_ld ym_ml
  rw [List.getElem?_map]
  cases L[i]? with
  | none => rfl
  | some o => rfl
theorem ym_set_map (L : ym_L) (i : Nat) (o : Option ym_V) : ym_ml (L.set i o) = (ym_ml L).set i (o.map ym_v) := List.map_set
theorem ym_clr_map (L : ym_L) (i : Nat) : ym_ml (ym_clr L i) = xm_clr (ym_ml L) i := by
  cases i with
  | zero => rfl
  | succ j =>
    unfold ym_clr xm_clr
    dsimp only
    rw [ym_ld_map]
    cases ym_ld L j with
    | none => rfl
    | some v =>
      rcases v with (a | a) | a
      · rfl
      · exact ym_set_map L j none
      · cases a with
        | none => rfl
        | some q => rfl
theorem ym_len_map (L : ym_L) : (ym_ml L).length = L.length := List.length_map _
theorem ym_ct_v (v : ym_V) : (ym_v v).category = ym_ct v := by
  rcases v with (a | a) | a
  · rfl
  · rfl
  · cases a with
    | none => rfl
    | some q => rfl
theorem ym_wt_map : ∀ st : List ym_V, xm_wt (st.map ym_v) = ym_wt st
  | [] => rfl
  | v :: r => by
    have ih := ym_wt_map r
    unfold xm_wt at ih ⊢
    rw [List.map_cons, List.map_cons, List.sum_cons, ih, ym_ct_v]
    rfl
theorem ym_sl_map : ∀ vs : List ym_V, xm_sl (vs.map ym_v) = ym_ml (ym_sl vs)
  | [] => rfl
  | v :: r => by
    have ih := ym_sl_map r
    unfold xm_sl at ih ⊢
    rw [List.map_cons, List.flatMap_cons, ih, ym_ct_v]
    rcases v with (a | a) | a
    · rfl
    · rfl
    · rfl
theorem ym_ent_map (n : Nat) (vs : List ym_V) : xm_ent n (vs.map ym_v) = ym_ml (ym_ent n vs) := by
  unfold xm_ent ym_ent
  rw [ym_sl_map, ym_len_map]
  unfold ym_ml
  rw [List.map_append, List.map_replicate]
  rfl
-- cells
theorem ym_cell_lt {h : xm_H} {i : Nat} {e : xm_E} (hc : xm_cell h i = some e) : i < h.1.length := by
  unfold xm_cell at hc
  cases hq : h.1[i]? with
  | none => rw [hq] at hc; cases hc
  | some o => exact (List.getElem?_eq_some_iff.mp hq).1
theorem ym_cell_put {h : xm_H} {i : Nat} {e : xm_E} (hi : i < h.1.length) : xm_cell (xm_put h i e) i = some e := by
  unfold xm_cell xm_put
  dsimp only
  rw [List.getElem?_set_self hi]
  rfl
theorem ym_cell_ne {h : xm_H} {i j : Nat} {e : xm_E} (hij : j ≠ i) : xm_cell (xm_put h i e) j = xm_cell h j := by
  unfold xm_cell xm_put
  dsimp only
  rw [List.getElem?_set_ne (Ne.symm hij)]
theorem ym_c_some {s : ym_S} {c n t : Nat} {o : Option xm_E} (h : ym_c s c n o t) : ∃ e, o = some e := by
  rcases t with _ | _ | _ | _ | ci
  · obtain ⟨-, f, h, -⟩ := h; exact ⟨_, h⟩
  · obtain ⟨-, f, h, -⟩ := h; exact ⟨_, h⟩
  · obtain ⟨-, f, h, -⟩ := h; exact ⟨_, h⟩
  · obtain ⟨-, f, h, -⟩ := h; exact ⟨_, h⟩
  · obtain ⟨f, h, -⟩ := h; exact ⟨_, h⟩
theorem ym_c_same {s s2 : ym_S} {c n t : Nat} {o : Option xm_E} (h1 : ∀ j, s2.1 c j = s.1 c j) (h2 : ∀ j, s2.2.1 c j = s.2.1 c j) (h3 : ∀ j, s2.2.2.1 c j = s.2.2.1 c j) (h : ym_c s c n o t) : ym_c s2 c n o t := by
  rcases t with _ | _ | _ | _ | ci
  · obtain ⟨a, f, b, d⟩ := h
    exact ⟨a, f, b, fun j hj => by rw [h1]; exact d j hj⟩
  · obtain ⟨a, f, b, d⟩ := h
    exact ⟨a, f, b, fun j hj => by rw [h2]; exact d j hj⟩
  · obtain ⟨a, f, b, d⟩ := h
    exact ⟨a, f, b, fun j hj => by rw [h1]; exact d j hj⟩
  · obtain ⟨a, f, b, d⟩ := h
    exact ⟨a, f, b, fun j hj => by rw [h3]; exact d j hj⟩
  · obtain ⟨f, b, d, e⟩ := h
    refine ⟨f, b, d, fun j v hj => ?_⟩
    rw [e j v hj]
    unfold ym_fv
    rw [h1, h2, h3]
theorem ym_H_lt {s : ym_S} {h : xm_H} {c t n : Nat} (hH : ym_H s h) (hT : ym_T s c = some (t, n)) : c < ym_n s := by
  obtain ⟨⟨h1, -⟩, -, -, -, h2⟩ := hH
  obtain ⟨e, he⟩ := ym_c_some (h2 c t n hT)
  have := ym_cell_lt he
  omega
/-- a cell is written -/
theorem ym_H_put {s s2 : ym_S} {h : xm_H} {c t n : Nat} {e : xm_E} (hH : ym_H s h) (hT : ym_T s c = some (t, n)) (hI : ∀ c' j, ym_in (s2.1 c' j)) (h3 : s2.2.2.2 = s.2.2.2) (hrow : ∀ c', c' ≠ c → (∀ j, s2.1 c' j = s.1 c' j) ∧ (∀ j, s2.2.1 c' j = s.2.1 c' j) ∧ (∀ j, s2.2.2.1 c' j = s.2.2.1 c' j)) (hfix : ym_Fix s2) (hc : ym_c s2 c n (some e) t) : ym_H s2 (xm_put h c e) := by
  have hlt := ym_H_lt hH hT
  obtain ⟨⟨a1, a2⟩, b, d, f, g⟩ := hH
  refine ⟨⟨?_, ?_⟩, hI, ?_, hfix, ?_⟩
  · show (h.1.set c (some e)).length = s2.2.2.2.2.1
    rw [List.length_set, h3]
    exact a1
  · show h.2 = s2.2.2.2.2.2
    rw [h3]
    exact a2
  · intro c' hc' j
    have hc' : s2.2.2.2.2.1 ≤ c' := hc'
    rw [h3] at hc'
    have hne : c' ≠ c := by
      have hc' : ym_n s ≤ c' := hc'
      omega
    obtain ⟨r1, r2, r3⟩ := hrow c' hne
    rw [r1, r2, r3]
    exact d c' hc' j
  · intro c' t' n' hT'
    have hT' : s2.2.2.2.1 c' = some (t', n') := hT'
    rw [h3] at hT'
    by_cases hcc : c' = c
    · subst hcc
      have hT2 : s.2.2.2.1 c' = some (t, n) := hT
      rw [hT2] at hT'
      cases hT'
      rw [ym_cell_put (by have : h.1.length = ym_n s := a1; omega)]
      exact hc
    · rw [ym_cell_ne hcc]
      obtain ⟨r1, r2, r3⟩ := hrow c' hcc
      exact ym_c_same r1 r2 r3 (g c' t' n' hT')
theorem ym_u_ne {α : Type} {I : Nat → Int → α} {c c' : Nat} {j j' : Int} {v : α} (h : c' ≠ c) : ym_u I c j v c' j' = I c' j' := by
  unfold ym_u
  rw [show Nat.beq c' c = false from by rw [← Bool.not_eq_true, Nat.beq_eq]; exact h]
  rfl
theorem ym_u_eq {α : Type} {I : Nat → Int → α} {c : Nat} {j : Int} {v : α} : ym_u I c j v c j = v := by
  unfold ym_u
  rw [show Nat.beq c c = true from Nat.beq_refl c, if_pos rfl]
  rfl
theorem ym_u_jn {α : Type} {I : Nat → Int → α} {c : Nat} {j j' : Int} {v : α} (h : j' ≠ j) : ym_u I c j v c j' = I c j' := by
  unfold ym_u
  rw [show Nat.beq c c = true from Nat.beq_refl c, if_neg h]
  rfl
theorem ym_u_in {I : Nat → Int → Int} {c : Nat} {j v : Int} (h : ∀ c j, ym_in (I c j)) (hv : ym_in v) (c' : Nat) (j' : Int) : ym_in (ym_u I c j v c' j') := by
  unfold ym_u
  cases Nat.beq c' c with
  | false => exact h _ _
  | true =>
    show ym_in (if j' = j then v else I c' j')
    split
    · exact hv
    · exact h _ _
theorem ym_fix_I {s : ym_S} {c : Nat} {j v : Int} (h : ym_Fix s) : ym_Fix (ym_wI s c j v) := h
theorem ym_fix_J {s : ym_S} {c : Nat} {j : Int} {v : Int64} (h : ym_Fix s) : ym_Fix (ym_wJ s c j v) := h
/-- a new cell -/
theorem ym_H_new {s : ym_S} {h : xm_H} {e : xm_E} {t n z : Nat} (hH : ym_H s h) (hc : ym_c s (ym_n s) n (some e) t) : ym_H (ym_mk s t n z) (xm_new h e z) := by
  have hl := fun c t n => ym_H_lt (c := c) (t := t) (n := n) hH
  obtain ⟨⟨a1, a2⟩, b, d, ⟨f1, f2, f3⟩, g⟩ := hH
  have hTn : ∀ c, c ≠ ym_n s → ym_T (ym_mk s t n z) c = ym_T s c := by
    intro c hc
    show (bif Nat.beq c (ym_n s) then some (t, n) else ym_T s c) = _
    rw [show Nat.beq c (ym_n s) = false from by rw [← Bool.not_eq_true, Nat.beq_eq]; exact hc]
    rfl
  refine ⟨⟨?_, ?_⟩, b, fun c hc j => d c (Nat.le_of_succ_le hc) j, ⟨fun c t' hf => ?_, f2, ?_⟩, ?_⟩
  · show (h.1 ++ [some e]).length = _
    rw [List.length_append, a1]
    rfl
  · show h.2 + z = _
    rw [a2]
    rfl
  · have h1 := f1 c t' hf
    rw [hTn c (by have := hl c t'.1 t'.2 h1; omega)]
    exact h1
  · have h1 := hl 1 4 0 (f1 1 (4, 0) rfl)
    rw [hTn 0 (by omega)]
    exact f3
  · intro c t' n' hT
    by_cases hcc : c = ym_n s
    · subst hcc
      have hT : (bif Nat.beq (ym_n s) (ym_n s) then some (t, n) else ym_T s (ym_n s)) = some (t', n') := hT
      rw [show Nat.beq (ym_n s) (ym_n s) = true from Nat.beq_refl _] at hT
      cases hT
      have : xm_cell (xm_new h e z) (ym_n s) = some e := by
        unfold xm_cell xm_new
        dsimp only
        rw [← a1, List.getElem?_append_right (Nat.le_refl _), Nat.sub_self]
        rfl
      rw [this]
      exact hc
    · rw [hTn c hcc] at hT
      have hlt := hl c t' n' hT
      have : xm_cell (xm_new h e z) c = xm_cell h c := by
        unfold xm_cell xm_new
        dsimp only
        rw [List.getElem?_append_left (by rw [a1]; exact hlt)]
      rw [this]
      exact g c t' n' hT
theorem ym_H_ex {s : ym_S} {h : xm_H} (hH : ym_H s h) : ym_H (ym_ex s) (h.1 ++ [none], h.2 + 6) := by
  have hl := fun c t n => ym_H_lt (c := c) (t := t) (n := n) hH
  obtain ⟨⟨a1, a2⟩, b, d, f, g⟩ := hH
  refine ⟨⟨?_, ?_⟩, b, fun c hc j => d c (Nat.le_of_succ_le hc) j, f, ?_⟩
  · show (h.1 ++ [none]).length = _
    rw [List.length_append, a1]
    rfl
  · show h.2 + 6 = _
    rw [a2]
    rfl
  · intro c t' n' hT
    have hlt := hl c t' n' hT
    have : xm_cell (h.1 ++ [none], h.2 + 6) c = xm_cell h c := by
      unfold xm_cell
      dsimp only
      rw [List.getElem?_append_left (by rw [a1]; exact hlt)]
    rw [this]
    exact g c t' n' hT
theorem ym_ck_of {b : Bool} {F : Prop} (h : ym_ck b F) : b = true ∧ F := by
  cases b with
  | true => exact ⟨rfl, h⟩
  | false => exact h.elim
theorem ym_isb_of {s : ym_S} {c t : Nat} (h : ym_isb c t = true) (hf : ym_Fix s) : ∃ n, ym_T s c = some (t, n) := by
  unfold ym_isb at h
  split at h
  · rename_i t' n e
    exact ⟨n, by rw [← Nat.eq_of_beq_eq_true h]; exact hf.1 c _ e⟩
  · cases h
theorem ym_ob_of {s : ym_S} {b : Bool} {c t : Nat} {F : Prop} (h : ym_ob s b c t F) (hf : ym_Fix s) : (∃ n, ym_T s c = some (t, n)) ∧ F := by
  cases b with
  | true =>
    obtain ⟨h1, h2⟩ := ym_ck_of h
    exact ⟨ym_isb_of h1 hf, h2⟩
  | false => exact ⟨⟨_, h.1⟩, h.2⟩
theorem ym_ar_of {s : ym_S} {b : Bool} {c t : Nat} {F : Nat → Prop} (h : ym_ar s b c t F) (hf : ym_Fix s) : ∃ n, ym_T s c = some (t, n) ∧ F n := by
  cases b with
  | true =>
    unfold ym_ar at h
    dsimp only at h
    split at h
    · rename_i t' n e
      obtain ⟨h1, h2⟩ := ym_ck_of h
      exact ⟨n, by rw [← Nat.eq_of_beq_eq_true h1]; exact hf.1 c _ e, h2⟩
    · exact h.elim
  | false => exact h
theorem ym_rq_of {s : ym_S} {c : Nat} {j : Int} {G : ym_V → Prop} (h : ym_rq s c j G) : ∃ w, G w ∧ ym_v w = va_rf (ym_R s c j) := by
  cases hq : ym_R s c j with
  | none => exact ⟨_, h.1 hq, rfl⟩
  | some q => exact ⟨_, h.2 q hq, rfl⟩
theorem ym_rd_of {s : ym_S} {b : Bool} {c j : Nat} {G : ym_V → Prop} (h : ym_rd s b c j G) (hf : ym_Fix s) : ∃ w, G w ∧ ym_v w = va_rf (ym_R s c j) := by
  cases b with
  | false => exact ym_rq_of h
  | true =>
    unfold ym_rd at h
    dsimp only at h
    split at h
    · rename_i r e
      exact ⟨_, h, by rw [hf.2.1 c j r e]; rfl⟩
    · exact ym_rq_of h
theorem ym_fix_R {s : ym_S} {c : Nat} {j : Int} {v : Option Nat} (h : ym_Fix s) (hn : ∀ i r : Nat, (i : Int) = j → ym_fx c i ≠ some r) : ym_Fix (ym_wR s c j v) := by
  refine ⟨h.1, fun c' i r hx => ?_, h.2.2⟩
  show ym_u s.2.2.1 c j v c' i = some r
  by_cases hcc : c' = c
  · subst hcc
    by_cases hij : (i : Int) = j
    · exact absurd hx (hn i r hij)
    · rw [ym_u_jn hij]
      exact h.2.1 c' i r hx
  · rw [ym_u_ne hcc]
    exact h.2.1 c' i r hx
theorem ym_fx_hi {c j : Nat} (h : ym_fb ≤ c) : ym_fx c j = none := by
  unfold ym_fx
  have : ym_fxl.getD c [] = [] := by
    rw [List.getD_eq_getElem?_getD, List.getElem?_eq_none (show ym_fxl.length ≤ c from h)]
    rfl
  rw [this]
  rfl
theorem ym_wo_of {b : Bool} {c j : Nat} {F : Prop} (h : ym_wo b c j F) : (∀ i r : Nat, (i : Int) = (j : Int) → ym_fx c i ≠ some r) ∧ F := by
  cases b with
  | true =>
    obtain ⟨h1, h2⟩ := ym_ck_of h
    refine ⟨fun i r hi hx => ?_, h2⟩
    rw [show i = j by omega] at hx
    rw [hx] at h1
    cases h1
  | false =>
    refine ⟨fun i r hi hx => ?_, h.2⟩
    rw [ym_fx_hi h.1] at hx
    cases hx
theorem ym_woa_of {b : Bool} {c : Nat} {j : Int} {F : Prop} (h : ym_woa b c F) : (∀ i r : Nat, (i : Int) = j → ym_fx c i ≠ some r) ∧ F := by
  cases b with
  | true =>
    obtain ⟨h1, h2⟩ := ym_ck_of h
    refine ⟨fun i r hi hx => ?_, h2⟩
    unfold ym_fx at hx
    rw [List.isEmpty_iff.mp h1] at hx
    cases hx
  | false =>
    refine ⟨fun i r hi hx => ?_, h.2⟩
    rw [ym_fx_hi h.1] at hx
    cases hx
