/-! The machine over whole numbers: cells read and written: own work. -/
section
variable {sc : xm_S} {P : xm_O → xm_H → Prop} {K : List ym_F} {k pc m q : Nat} {i : ClassFile.Instr} {L L2 : ym_L} {st st2 : List ym_V} {s s2 : ym_S} {h h2 : xm_H} {go : ym_G}
theorem ym_c_ob {ci n c : Nat} {o : Option xm_E} (hc : ym_c s c n o (ci + 4)) : ∃ fs : List Value, o = some (.inr (ci, fs)) ∧ fs.length = (xm_def ci).length ∧ ∀ (j : Nat) (v : Value), fs[j]? = some v → v = ym_fv s ci c j := hc
theorem ym_k_gf {a : Nat} (hx : ym_gf L st s go (xm_cp k a)) (hH : ym_H s h) : ∃ st2, go none L st2 s ∧ xm_gf k pc a (ym_ml L) (st.map ym_v) h = xm_nx k (pc + 3) (ym_ml L) (st2.map ym_v) h := by
  obtain ⟨-, hin, -, hf, hT⟩ := hH
  unfold ym_gf at hx
  split at hx
  · rename_i _ b c r ci j hcp
    obtain ⟨⟨n, h1⟩, hx⟩ := ym_ob_of hx hf
    obtain ⟨h2, hx⟩ := ym_ck_of hx
    obtain ⟨fs, e1, e2, e3⟩ := ym_c_ob (hT c _ n h1)
    have hj : j < fs.length := by rw [e2]; exact Nat.le_of_ble_eq_true h2
    have key : ∀ v, fs[j]? = some v → xm_gf k pc a (ym_ml L) ((.inr (some (b, c)) :: r : List ym_V).map ym_v) h = xm_nx k (pc + 3) (ym_ml L) (v :: r.map ym_v) h := by
      intro v hv
      unfold xm_gf
      rw [hcp]
      show (match xm_cell h c with
        | some (.inr (ci', fs)) => if ci' = ci then (match fs[j]? with
          | some v => xm_nx k (pc + 3) (ym_ml L) (v :: r.map ym_v) h
          | none => none) else none
        | _ => none) = _
      rw [e1]
      dsimp only
      rw [if_pos rfl, hv]
    obtain ⟨v, hv⟩ : ∃ v, fs[j]? = some v := ⟨_, List.getElem?_eq_getElem hj⟩
    have hvv := e3 j v hv
    have hk := key v hv
    unfold ym_fv at hvv
    split at hx
    · rename_i e
      rw [e] at hvv
      exact ⟨_, hx (hin c j), by rw [hk, hvv]; rfl⟩
    · rename_i e
      rw [e] at hvv
      exact ⟨_, hx (hin c j), by rw [hk, hvv]; rfl⟩
    · rename_i e
      rw [e] at hvv
      exact ⟨_, hx, by rw [hk, hvv]; rfl⟩
    · rename_i e
      rw [e] at hvv
      obtain ⟨w, hw1, hw2⟩ := ym_rd_of hx hf
      exact ⟨_, hw1, by rw [hk, hvv, List.map_cons, hw2]; rfl⟩
    · exact hx.elim
  · exact hx.elim
theorem ym_c_set {ci n c j : Nat} {o : Option xm_E} {v : Value} (hrow : ∀ j2 : Nat, j2 ≠ j → ym_fv s2 ci c j2 = ym_fv s ci c j2) (hv : v = ym_fv s2 ci c j) (hc : ym_c s c n o (ci + 4)) : ∃ fs : List Value, o = some (.inr (ci, fs)) ∧ fs.length = (xm_def ci).length ∧ ym_c s2 c n (some (.inr (ci, fs.set j v))) (ci + 4) := by
  obtain ⟨fs, e1, e2, e3⟩ := ym_c_ob hc
  refine ⟨fs, e1, e2, fs.set j v, rfl, by rw [List.length_set]; exact e2, fun j2 w hw => ?_⟩
  by_cases hjj : j2 = j
  · subst hjj
    have hl : j2 < fs.length := by
      have := (List.getElem?_eq_some_iff.mp hw).1
      rw [List.length_set] at this
      exact this
    rw [List.getElem?_set_self hl] at hw
    cases hw
    exact hv
  · rw [List.getElem?_set_ne (Ne.symm hjj)] at hw
    rw [e3 j2 w hw]
    exact (hrow j2 hjj).symm
theorem ym_fk_int {ci j : Nat} (h : ym_fk ci j = 0) : xm_fty ci j = .int := by
  unfold ym_fk at h
  split at h
  · assumption
  · cases h
  · cases h
  · cases h
  · cases h
  · cases h
theorem ym_fk_bool {ci j : Nat} (h : ym_fk ci j = 1) : xm_fty ci j = .boolean := by
  unfold ym_fk at h
  split at h
  · cases h
  · assumption
  · cases h
  · cases h
  · cases h
  · cases h
theorem ym_fk_long {ci j : Nat} (h : ym_fk ci j = 2) : xm_fty ci j = .long := by
  unfold ym_fk at h
  split at h
  · cases h
  · cases h
  · assumption
  · cases h
  · cases h
  · cases h
theorem ym_fk_ref {ci j : Nat} (h : ym_fk ci j = 3) : (∃ x, xm_fty ci j = .object x) ∨ (∃ x, xm_fty ci j = .array x) := by
  unfold ym_fk at h
  split at h
  · cases h
  · cases h
  · cases h
  · exact Or.inl ⟨_, by assumption⟩
  · exact Or.inr ⟨_, by assumption⟩
  · cases h
theorem ym_fv_I {ci c j n : Nat} {v : Int} (hj : n ≠ j) : ym_fv (ym_wI s c j v) ci c n = ym_fv s ci c n := by
  have e : (ym_wI s c j v).1 c n = s.1 c n := ym_u_jn (by omega)
  unfold ym_fv
  rw [e]
  rfl
theorem ym_fv_J {ci c j n : Nat} {v : Int64} (hj : n ≠ j) : ym_fv (ym_wJ s c j v) ci c n = ym_fv s ci c n := by
  have e : (ym_wJ s c j v).2.1 c n = s.2.1 c n := ym_u_jn (by omega)
  unfold ym_fv
  rw [e]
  rfl
theorem ym_fv_R {ci c j n : Nat} {v : Option Nat} (hj : n ≠ j) : ym_fv (ym_wR s c j v) ci c n = ym_fv s ci c n := by
  have e : (ym_wR s c j v).2.2.1 c n = s.2.2.1 c n := ym_u_jn (by omega)
  unfold ym_fv
  rw [e]
  rfl
theorem ym_row_I {c : Nat} {j v : Int} : ∀ c', c' ≠ c → (∀ j2, (ym_wI s c j v).1 c' j2 = s.1 c' j2) ∧ (∀ j2, (ym_wI s c j v).2.1 c' j2 = s.2.1 c' j2) ∧ (∀ j2, (ym_wI s c j v).2.2.1 c' j2 = s.2.2.1 c' j2) := fun c' hc => ⟨fun j2 => ym_u_ne hc, fun j2 => rfl, fun j2 => rfl⟩
theorem ym_row_J {c : Nat} {j : Int} {v : Int64} : ∀ c', c' ≠ c → (∀ j2, (ym_wJ s c j v).1 c' j2 = s.1 c' j2) ∧ (∀ j2, (ym_wJ s c j v).2.1 c' j2 = s.2.1 c' j2) ∧ (∀ j2, (ym_wJ s c j v).2.2.1 c' j2 = s.2.2.1 c' j2) := fun c' hc => ⟨fun j2 => rfl, fun j2 => ym_u_ne hc, fun j2 => rfl⟩
theorem ym_row_R {c : Nat} {j : Int} {v : Option Nat} : ∀ c', c' ≠ c → (∀ j2, (ym_wR s c j v).1 c' j2 = s.1 c' j2) ∧ (∀ j2, (ym_wR s c j v).2.1 c' j2 = s.2.1 c' j2) ∧ (∀ j2, (ym_wR s c j v).2.2.1 c' j2 = s.2.2.1 c' j2) := fun c' hc => ⟨fun j2 => rfl, fun j2 => rfl, fun j2 => ym_u_ne hc⟩
theorem ym_k_pf {a : Nat} (hx : ym_pf L st s go k (xm_cp k a)) (hH : ym_H s h) : ∃ st2 s2 h2, go none L st2 s2 ∧ ym_H s2 h2 ∧ xm_pf k pc a (ym_ml L) (st.map ym_v) h = xm_nx k (pc + 3) (ym_ml L) (st2.map ym_v) h2 := by
  have hH0 := hH
  obtain ⟨-, hin, -, hf, hT⟩ := hH
  unfold ym_pf at hx
  split at hx
  · rename_i _ v b c r ci j hcp
    obtain ⟨⟨n, h1⟩, hx⟩ := ym_ob_of hx hf
    obtain ⟨h2, hx⟩ := ym_ck_of hx
    rw [Bool.and_eq_true] at h2
    obtain ⟨h2, h3⟩ := h2
    have key : ∀ fs, xm_cell h c = some (.inr (ci, fs)) → fs.length = (xm_def ci).length → xm_fit (xm_fty ci j) (ym_v v) = true → xm_pf k pc a (ym_ml L) ((v :: .inr (some (b, c)) :: r : List ym_V).map ym_v) h = xm_nx k (pc + 3) (ym_ml L) (r.map ym_v) (xm_put h c (.inr (ci, fs.set j (ym_v v)))) := by
      intro fs e1 e2 hfit
      unfold xm_pf
      rw [hcp]
      show (match xm_cell h c with
        | some (.inr (ci', fs)) => if ci' = ci ∧ j < fs.length ∧ xm_fit (xm_fty ci j) (ym_v v) = true ∧ xm_pok k ci j = true then xm_nx k (pc + 3) (ym_ml L) (r.map ym_v) (xm_put h c (.inr (ci, fs.set j (ym_v v)))) else none
        | _ => none) = _
      rw [e1]
      dsimp only
      rw [if_pos ⟨rfl, by rw [e2]; exact Nat.le_of_ble_eq_true h2, hfit, h3⟩]
    rcases hfk : ym_fk ci j with _ | _ | _ | _ | z
    · rw [hfk] at hx
      rcases v with (x | x) | (_ | ⟨b2, d⟩)
      · obtain ⟨hx1, hx2⟩ := hx
        obtain ⟨fs, e1, e2, e3⟩ := ym_c_set (s2 := ym_wI s c j x) (j := j) (v := ym_v (ym_I x)) (fun j2 hj => ym_fv_I hj) (by unfold ym_fv; rw [hfk]; show Value.int (Int32.ofInt x) = Value.int (Int32.ofInt (ym_u s.1 c j x c j)); rw [ym_u_eq]) (hT c _ n h1)
        exact ⟨r, _, _, hx2, ym_H_put hH0 h1 (ym_u_in hin hx1) rfl ym_row_I (ym_fix_I hf) e3, key fs e1 e2 (by rw [ym_fk_int hfk]; rfl)⟩
      · exact False.elim hx
      · exact False.elim hx
      · exact False.elim hx
    · rw [hfk] at hx
      rcases v with (x | x) | (_ | ⟨b2, d⟩)
      · obtain ⟨hx1, hx2⟩ := hx
        obtain ⟨fs, e1, e2, e3⟩ := ym_c_set (s2 := ym_wI s c j x) (j := j) (v := ym_v (ym_I x)) (fun j2 hj => ym_fv_I hj) (by unfold ym_fv; rw [hfk]; show Value.int (Int32.ofInt x) = Value.int (Int32.ofInt (ym_u s.1 c j x c j)); rw [ym_u_eq]) (hT c _ n h1)
        refine ⟨r, _, _, hx2, ym_H_put hH0 h1 (ym_u_in hin (by rcases hx1 with rfl | rfl <;> decide)) rfl ym_row_I (ym_fix_I hf) e3, key fs e1 e2 ?_⟩
        rw [ym_fk_bool hfk]
        rcases hx1 with rfl | rfl
        · rfl
        · rfl
      · exact False.elim hx
      · exact False.elim hx
      · exact False.elim hx
    · rw [hfk] at hx
      rcases v with (x | x) | (_ | ⟨b2, d⟩)
      · exact False.elim hx
      · obtain ⟨fs, e1, e2, e3⟩ := ym_c_set (s2 := ym_wJ s c j x) (j := j) (v := ym_v (ym_J x)) (fun j2 hj => ym_fv_J hj) (by unfold ym_fv; rw [hfk]; show Value.long x = Value.long (ym_u s.2.1 c j x c j); rw [ym_u_eq]) (hT c _ n h1)
        exact ⟨r, _, _, hx, ym_H_put hH0 h1 hin rfl ym_row_J (ym_fix_J hf) e3, key fs e1 e2 (by rw [ym_fk_long hfk]; rfl)⟩
      · exact False.elim hx
      · exact False.elim hx
    · rw [hfk] at hx
      rcases v with (x | x) | (_ | ⟨b2, d⟩)
      · exact False.elim hx
      · exact False.elim hx
      · obtain ⟨hn, hx⟩ := ym_wo_of hx
        obtain ⟨fs, e1, e2, e3⟩ := ym_c_set (s2 := ym_wR s c j none) (j := j) (v := ym_v ym_N) (fun j2 hj => ym_fv_R hj) (by unfold ym_fv; rw [hfk]; show Value.null = va_rf (ym_u s.2.2.1 c j none c j); rw [ym_u_eq]; rfl) (hT c _ n h1)
        refine ⟨r, _, _, hx, ym_H_put hH0 h1 hin rfl ym_row_R (ym_fix_R hf hn) e3, key fs e1 e2 ?_⟩
        rcases ym_fk_ref hfk with ⟨x, e⟩ | ⟨x, e⟩
        · rw [e]; rfl
        · rw [e]; rfl
      · obtain ⟨hn, hx⟩ := ym_wo_of hx
        obtain ⟨fs, e1, e2, e3⟩ := ym_c_set (s2 := ym_wR s c j (some d)) (j := j) (v := ym_v (.inr (some (b2, d)))) (fun j2 hj => ym_fv_R hj) (by unfold ym_fv; rw [hfk]; show Value.ref d = va_rf (ym_u s.2.2.1 c j (some d) c j); rw [ym_u_eq]; rfl) (hT c _ n h1)
        refine ⟨r, _, _, hx, ym_H_put hH0 h1 hin rfl ym_row_R (ym_fix_R hf hn) e3, key fs e1 e2 ?_⟩
        rcases ym_fk_ref hfk with ⟨x, e⟩ | ⟨x, e⟩
        · rw [e]; rfl
        · rw [e]; rfl
    · rw [hfk] at hx
      exact False.elim hx
  · exact hx.elim
-- arrays
theorem ym_k_ald (hx : ym_ald L st s go sc) (hsc : sc.1 ≤ 67108864) (hH : ym_H s h) : ∃ st2, go none L st2 s ∧ xm_iald sc k pc (ym_ml L) (st.map ym_v) h = xm_nx k (pc + 1) (ym_ml L) (st2.map ym_v) h := by
  obtain ⟨-, hin, -, hf, hT⟩ := hH
  unfold ym_ald at hx
  split at hx
  · rename_i j r
    obtain ⟨⟨h0, h1⟩, hx⟩ := hx
    obtain ⟨e1, e2, -, -⟩ := ym_idx h0 h1 hsc
    refine ⟨_, hx, (if_neg e1).trans ?_⟩
    rw [e2]
    show xm_nx k (pc + 1) (ym_ml L) (.int (sc.2 j.toNat) :: r.map ym_v) h = xm_nx k (pc + 1) (ym_ml L) (.int (Int32.ofInt (sc.2 j.toNat).toInt) :: r.map ym_v) h
    rw [Int32.ofInt_toInt]
  · rename_i j b c r hne
    obtain ⟨n, h1, ⟨g0, g1⟩, hx⟩ := ym_ar_of hx hf
    obtain ⟨hn, f, e0, e3⟩ := hT c _ n h1
    obtain ⟨e1, e2, e4, e5⟩ := ym_idx g0 g1 hn
    refine ⟨_, hx (hin c j), ?_⟩
    have hc0 : c ≠ 0 := by
      rintro rfl
      cases b with
      | true => exact hne rfl rfl
      | false =>
        rw [hf.2.2] at h1
        cases h1
    show (if c = 0 then _ else match xm_cell h c with
      | some (.inl (0, n, .inl f)) => if Int32.ofInt j < 0 ∨ n ≤ (Int32.ofInt j).toNatClampNeg then none else xm_nx k (pc + 1) (ym_ml L) (.int (f (Int32.ofInt j).toNatClampNeg) :: r.map ym_v) h
      | _ => none) = _
    rw [if_neg hc0, e0]
    exact (if_neg e1).trans (by rw [e2, e3 _ e4, e5]; rfl)
  · exact hx.elim
theorem ym_k_zld (hx : ym_zld L st s go) (hH : ym_H s h) : ∃ st2, go none L st2 s ∧ xm_zald k pc (ym_ml L) (st.map ym_v) h = xm_nx k (pc + 1) (ym_ml L) (st2.map ym_v) h := by
  obtain ⟨-, hin, -, hf, hT⟩ := hH
  unfold ym_zld at hx
  split at hx
  · rename_i j b c r
    obtain ⟨n, h1, ⟨g0, g1⟩, hx⟩ := ym_ar_of hx hf
    obtain ⟨hn, f, e0, e3⟩ := hT c _ n h1
    obtain ⟨e1, e2, e4, e5⟩ := ym_idx g0 g1 hn
    refine ⟨_, hx (hin c j), ?_⟩
    show (match xm_cell h c with
      | some (.inl (2, n, .inl f)) => if Int32.ofInt j < 0 ∨ n ≤ (Int32.ofInt j).toNatClampNeg then none else xm_nx k (pc + 1) (ym_ml L) (.int (f (Int32.ofInt j).toNatClampNeg) :: r.map ym_v) h
      | _ => none) = _
    rw [e0]
    exact (if_neg e1).trans (by rw [e2, e3 _ e4, e5]; rfl)
  · exact hx.elim
theorem ym_k_lld (hx : ym_lld L st s go) (hH : ym_H s h) : ∃ st2, go none L st2 s ∧ xm_lald k pc (ym_ml L) (st.map ym_v) h = xm_nx k (pc + 1) (ym_ml L) (st2.map ym_v) h := by
  obtain ⟨-, hin, -, hf, hT⟩ := hH
  unfold ym_lld at hx
  split at hx
  · rename_i j b c r
    obtain ⟨n, h1, ⟨g0, g1⟩, hx⟩ := ym_ar_of hx hf
    obtain ⟨hn, f, e0, e3⟩ := hT c _ n h1
    obtain ⟨e1, e2, e4, e5⟩ := ym_idx g0 g1 hn
    refine ⟨_, hx, ?_⟩
    show (match xm_cell h c with
      | some (.inl (1, n, .inr (.inl f))) => if Int32.ofInt j < 0 ∨ n ≤ (Int32.ofInt j).toNatClampNeg then none else xm_nx k (pc + 1) (ym_ml L) (.long (f (Int32.ofInt j).toNatClampNeg) :: r.map ym_v) h
      | _ => none) = _
    rw [e0]
    exact (if_neg e1).trans (by rw [e2, e3 _ e4, e5]; rfl)
  · exact hx.elim
theorem ym_k_rld (hx : ym_rld L st s go) (hH : ym_H s h) : ∃ st2, go none L st2 s ∧ xm_aald k pc (ym_ml L) (st.map ym_v) h = xm_nx k (pc + 1) (ym_ml L) (st2.map ym_v) h := by
  obtain ⟨-, hin, -, hf, hT⟩ := hH
  unfold ym_rld at hx
  split at hx
  · rename_i j b c r
    obtain ⟨n, h1, ⟨g0, g1⟩, hx⟩ := ym_ar_of hx hf
    obtain ⟨hn, f, e0, e3⟩ := hT c _ n h1
    obtain ⟨e1, e2, e4, e5⟩ := ym_idx g0 g1 hn
    obtain ⟨w, hw1, hw2⟩ := ym_rq_of hx
    refine ⟨_, hw1, ?_⟩
    show (match xm_cell h c with
      | some (.inl (3, n, .inr (.inr f))) => if Int32.ofInt j < 0 ∨ n ≤ (Int32.ofInt j).toNatClampNeg then none else xm_nx k (pc + 1) (ym_ml L) (va_rf (f (Int32.ofInt j).toNatClampNeg) :: r.map ym_v) h
      | _ => none) = _
    rw [e0]
    exact (if_neg e1).trans (by rw [e2, e3 _ e4, e5, List.map_cons, hw2])
  · exact hx.elim
theorem ym_wI_row {c n : Nat} {j v : Int} {f : Nat → Int32} (h0 : 0 ≤ j) (h1 : j < (n : Int)) (hf : ∀ i : Nat, i < n → f i = Int32.ofInt (s.1 c i)) : ∀ i : Nat, i < n → upd f j.toNat (Int32.ofInt v) i = Int32.ofInt ((ym_wI s c j v).1 c i) := by
  intro i hi
  unfold upd
  show _ = Int32.ofInt (ym_u s.1 c j v c i)
  by_cases e : i = j.toNat
  · rw [if_pos e, show (i : Int) = j by omega, ym_u_eq]
  · rw [if_neg e, ym_u_jn (by omega)]
    exact hf i hi
theorem ym_k_iat (hx : ym_iat L st s go) (hH : ym_H s h) : ∃ st2 s2 h2, go none L st2 s2 ∧ ym_H s2 h2 ∧ xm_iast k pc (ym_ml L) (st.map ym_v) h = xm_nx k (pc + 1) (ym_ml L) (st2.map ym_v) h2 := by
  have hH0 := hH
  obtain ⟨-, hin, -, hf, hT⟩ := hH
  unfold ym_iat at hx
  split at hx
  · rename_i x j b c r
    obtain ⟨n, h1, ⟨g0, g1⟩, hx1, hx⟩ := ym_ar_of hx hf
    obtain ⟨hn, f, e0, e3⟩ := hT c _ n h1
    obtain ⟨e1, e2, e4, e5⟩ := ym_idx g0 g1 hn
    refine ⟨_, _, _, hx, ym_H_put hH0 h1 (ym_u_in hin hx1) rfl ym_row_I (ym_fix_I hf) ⟨hn, _, rfl, ym_wI_row g0 g1 e3⟩, ?_⟩
    show (match xm_cell h c with
      | some (.inl (0, n, .inl f)) => if Int32.ofInt j < 0 ∨ n ≤ (Int32.ofInt j).toNatClampNeg then none else xm_nx k (pc + 1) (ym_ml L) (r.map ym_v) (xm_put h c (.inl (0, n, .inl (upd f (Int32.ofInt j).toNatClampNeg (Int32.ofInt x)))))
      | _ => none) = _
    rw [e0]
    exact (if_neg e1).trans (by rw [e2])
  · exact hx.elim
theorem ym_k_zat (hx : ym_zat L st s go) (hH : ym_H s h) : ∃ st2 s2 h2, go none L st2 s2 ∧ ym_H s2 h2 ∧ xm_zast k pc (ym_ml L) (st.map ym_v) h = xm_nx k (pc + 1) (ym_ml L) (st2.map ym_v) h2 := by
  have hH0 := hH
  obtain ⟨-, hin, -, hf, hT⟩ := hH
  unfold ym_zat at hx
  split at hx
  · rename_i x j b c r
    obtain ⟨n, h1, ⟨g0, g1⟩, hx1, hx⟩ := ym_ar_of hx hf
    obtain ⟨hn, f, e0, e3⟩ := hT c _ n h1
    obtain ⟨e1, e2, e4, e5⟩ := ym_idx g0 g1 hn
    refine ⟨_, _, _, hx, ym_H_put hH0 h1 (ym_u_in hin (by rcases hx1 with rfl | rfl <;> decide)) rfl ym_row_I (ym_fix_I hf) ⟨hn, _, rfl, ym_wI_row g0 g1 e3⟩, ?_⟩
    show (match xm_cell h c with
      | some (.inl (2, n, .inl f)) => if (Int32.ofInt j < 0 ∨ n ≤ (Int32.ofInt j).toNatClampNeg) ∨ ¬ (Int32.ofInt x = 0 ∨ Int32.ofInt x = 1) then none else xm_nx k (pc + 1) (ym_ml L) (r.map ym_v) (xm_put h c (.inl (2, n, .inl (upd f (Int32.ofInt j).toNatClampNeg (Int32.ofInt x)))))
      | _ => none) = _
    rw [e0]
    exact (if_neg (fun z => z.elim e1 (fun z => z (ym_bool hx1)))).trans (by rw [e2])
  · exact hx.elim
theorem ym_k_lat (hx : ym_lat L st s go) (hH : ym_H s h) : ∃ st2 s2 h2, go none L st2 s2 ∧ ym_H s2 h2 ∧ xm_last k pc (ym_ml L) (st.map ym_v) h = xm_nx k (pc + 1) (ym_ml L) (st2.map ym_v) h2 := by
  have hH0 := hH
  obtain ⟨-, hin, -, hf, hT⟩ := hH
  unfold ym_lat at hx
  split at hx
  · rename_i x j b c r
    obtain ⟨n, h1, ⟨g0, g1⟩, hx⟩ := ym_ar_of hx hf
    obtain ⟨hn, f, e0, e3⟩ := hT c _ n h1
    obtain ⟨e1, e2, e4, e5⟩ := ym_idx g0 g1 hn
    refine ⟨_, _, _, hx, ym_H_put hH0 h1 hin rfl ym_row_J (ym_fix_J hf) ⟨hn, vp_updL f j.toNat x, rfl, fun i hi => ?_⟩, ?_⟩
    · unfold vp_updL
      show _ = ym_u s.2.1 c j x c i
      by_cases e : i = j.toNat
      · rw [if_pos e, show (i : Int) = j by omega, ym_u_eq]
      · rw [if_neg e, ym_u_jn (by omega)]
        exact e3 i hi
    · show (match xm_cell h c with
        | some (.inl (1, n, .inr (.inl f))) => if Int32.ofInt j < 0 ∨ n ≤ (Int32.ofInt j).toNatClampNeg then none else xm_nx k (pc + 1) (ym_ml L) (r.map ym_v) (xm_put h c (.inl (1, n, .inr (.inl (vp_updL f (Int32.ofInt j).toNatClampNeg x)))))
        | _ => none) = _
      rw [e0]
      exact (if_neg e1).trans (by rw [e2])
  · exact hx.elim
theorem ym_k_rat (hx : ym_rat L st s go) (hH : ym_H s h) : ∃ st2 s2 h2, go none L st2 s2 ∧ ym_H s2 h2 ∧ xm_aast k pc (ym_ml L) (st.map ym_v) h = xm_nx k (pc + 1) (ym_ml L) (st2.map ym_v) h2 := by
  have hH0 := hH
  obtain ⟨-, hin, -, hf, hT⟩ := hH
  unfold ym_rat at hx
  split at hx
  · rename_i b2 v j b c r
    obtain ⟨n, h1, ⟨g0, g1⟩, hx⟩ := ym_ar_of hx hf
    obtain ⟨⟨n2, h2⟩, hx⟩ := ym_ob_of hx hf
    obtain ⟨hw, hx⟩ := ym_woa_of (j := j) hx
    obtain ⟨hn, f, e0, e3⟩ := hT c _ n h1
    obtain ⟨fs, d1, -, -⟩ := ym_c_ob (ci := 1) (hT v _ n2 h2)
    obtain ⟨e1, e2, e4, e5⟩ := ym_idx g0 g1 hn
    refine ⟨_, _, _, hx, ym_H_put hH0 h1 hin rfl ym_row_R (ym_fix_R hf hw) ⟨hn, va_up f j.toNat (some v), rfl, fun i hi => ?_⟩, ?_⟩
    · unfold va_up
      show _ = ym_u s.2.2.1 c j (some v) c i
      by_cases e : i = j.toNat
      · rw [if_pos e, show (i : Int) = j by omega, ym_u_eq]
      · rw [if_neg e, ym_u_jn (by omega)]
        exact e3 i hi
    · show (match xm_cell h c, xm_cell h v with
        | some (.inl (3, n, .inr (.inr f))), some (.inr (ci, _)) => if (Int32.ofInt j < 0 ∨ n ≤ (Int32.ofInt j).toNatClampNeg) ∨ ¬ ci = xm_elt then none else xm_nx k (pc + 1) (ym_ml L) (r.map ym_v) (xm_put h c (.inl (3, n, .inr (.inr (va_up f (Int32.ofInt j).toNatClampNeg (some v))))))
        | _, _ => none) = _
      rw [e0, d1]
      exact (if_neg (fun z => z.elim e1 (fun z => z rfl))).trans (by rw [e2])
  · exact hx.elim
theorem ym_k_len (hx : ym_len L st s go sc) (hH : ym_H s h) : ∃ st2, go none L st2 s ∧ xm_len sc k pc (ym_ml L) (st.map ym_v) h = xm_nx k (pc + 1) (ym_ml L) (st2.map ym_v) h := by
  obtain ⟨-, hin, -, hf, hT⟩ := hH
  unfold ym_len at hx
  split at hx
  · rename_i r
    refine ⟨_, hx, ?_⟩
    show xm_nx k (pc + 1) (ym_ml L) (.int (Int32.ofNat sc.1) :: r.map ym_v) h = xm_nx k (pc + 1) (ym_ml L) (.int (Int32.ofInt (sc.1 : Int)) :: r.map ym_v) h
    rw [Int32.ofInt_eq_ofNat]
  · rename_i b c r hne
    obtain ⟨n, h1, hx⟩ := ym_ar_of hx hf
    obtain ⟨hn, f, e0, e3⟩ := hT c _ n h1
    refine ⟨_, hx, ?_⟩
    have hc0 : c ≠ 0 := by
      rintro rfl
      cases b with
      | true => exact hne rfl rfl
      | false =>
        rw [hf.2.2] at h1
        cases h1
    refine (if_neg hc0).trans ?_
    rw [e0]
    show xm_nx k (pc + 1) (ym_ml L) (.int (Int32.ofNat n) :: r.map ym_v) h = xm_nx k (pc + 1) (ym_ml L) (.int (Int32.ofInt (n : Int)) :: r.map ym_v) h
    rw [Int32.ofInt_eq_ofNat]
  · exact hx.elim
theorem ym_nsz {n : Int} (h : 0 ≤ n ∧ n ≤ 67108864) : ¬ (Int32.ofInt n < 0 ∨ 67108864 < (Int32.ofInt n).toNatClampNeg) ∧ (Int32.ofInt n).toNatClampNeg = n.toNat := by
  have hj : ym_in n := ⟨by omega, by omega⟩
  have e : (Int32.ofInt n).toNatClampNeg = n.toNat := by rw [← Int32.toNat_toInt, ym_of hj]
  refine ⟨?_, e⟩
  rw [e, ym_of0, ym_lt hj ym_in0]
  omega
theorem ym_k_na0 (hx : ym_nar L st s go 0) (hH : ym_H s h) : ∃ st2 s2 h2, go none L st2 s2 ∧ ym_H s2 h2 ∧ xm_nar .int k pc (ym_ml L) (st.map ym_v) h = xm_nx k (pc + 2) (ym_ml L) (st2.map ym_v) h2 := by
  have hz := hH.2.2.1 (ym_n s) (Nat.le_refl _)
  have hl := hH.1.1
  unfold ym_nar at hx
  split at hx
  · rename_i n r
    obtain ⟨h0, hx⟩ := hx
    obtain ⟨e1, e2⟩ := ym_nsz h0
    refine ⟨_, _, _, hx, ym_H_new (e := .inl (0, n.toNat, .inl (fun _ => 0))) hH ⟨by omega, _, rfl, fun j hj => by rw [(hz j).1]; rfl⟩, (if_neg e1).trans ?_⟩
    rw [e2, hl]
    rfl
  · exact hx.elim
theorem ym_k_na1 (hx : ym_nar L st s go 1) (hH : ym_H s h) : ∃ st2 s2 h2, go none L st2 s2 ∧ ym_H s2 h2 ∧ xm_nar .long k pc (ym_ml L) (st.map ym_v) h = xm_nx k (pc + 2) (ym_ml L) (st2.map ym_v) h2 := by
  have hz := hH.2.2.1 (ym_n s) (Nat.le_refl _)
  have hl := hH.1.1
  unfold ym_nar at hx
  split at hx
  · rename_i n r
    obtain ⟨h0, hx⟩ := hx
    obtain ⟨e1, e2⟩ := ym_nsz h0
    refine ⟨_, _, _, hx, ym_H_new (e := .inl (1, n.toNat, .inr (.inl (fun _ => 0)))) hH ⟨by omega, _, rfl, fun j hj => by rw [(hz j).2.1]⟩, (if_neg e1).trans ?_⟩
    rw [e2, hl]
    rfl
  · exact hx.elim
theorem ym_k_na3 {a x y : Nat} (hc : xm_cp k a = some (6, x, y)) (hx : ym_nar L st s go 3) (hH : ym_H s h) : ∃ st2 s2 h2, go none L st2 s2 ∧ ym_H s2 h2 ∧ xm_anw k pc a (ym_ml L) (st.map ym_v) h = xm_nx k (pc + 3) (ym_ml L) (st2.map ym_v) h2 := by
  have hz := hH.2.2.1 (ym_n s) (Nat.le_refl _)
  have hl := hH.1.1
  unfold ym_nar at hx
  split at hx
  · rename_i n r
    obtain ⟨h0, hx⟩ := hx
    obtain ⟨e1, e2⟩ := ym_nsz h0
    refine ⟨_, _, _, hx, ym_H_new (e := .inl (3, n.toNat, .inr (.inr (fun _ => none)))) hH ⟨by omega, _, rfl, fun j hj => by rw [(hz j).2.2]⟩, ?_⟩
    unfold xm_anw
    rw [hc]
    refine (if_neg e1).trans ?_
    rw [e2, hl]
    rfl
  · exact hx.elim
end
