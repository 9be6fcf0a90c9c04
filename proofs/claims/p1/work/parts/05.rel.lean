/-! How the small machine's cells and values lie in the JVM's heap: own work. Cell i (from 1 on) lies at B + i; number 0 is the law's script, at sb. -/
def xm_ad (B sb i : Nat) : Nat := if i = 0 then sb else B + i
def xm_cv (B sb : Nat) (v : Value) : Value := match v with
  | .ref i => .ref (xm_ad B sb i)
  | v => v
def xm_ca (B sb n : Nat) (a : xm_A) : vp_A := match a with
  | .inl f => (n, .inl f)
  | .inr (.inl f) => (n, .inr (.inl f))
  | .inr (.inr f) => (n, .inr (.inr (.inr (.inr (fun j => (f j).map (xm_ad B sb))))))
def xm_ce (B sb : Nat) (cs : Nat → ClassId) (e : xm_E) : va_E := match e with
  | .inl (t, n, a) => .inl (cs t, xm_ca B sb n a)
  | .inr (ci, fs) => .inr (ci, fs.map (xm_cv B sb))
def xm_hb (B sb : Nat) (D : va_G) (cs : Nat → ClassId) (h : xm_C) (H : Heap) : Prop :=
  H.size = B + h.length ∧ h[0]? = some none ∧ ∀ (i : Nat) (e : xm_E), h[i]? = some (some e) → va_at D xm_cls (B + i, xm_ce B sb cs e) H
def xm_lh (B sb : Nat) (L : xm_L) (ls : Array Slot) : Prop :=
  ls.size = L.length ∧ lv_wf ls ∧ ∀ (i : Nat) (v : Value), L[i]? = some (some v) → ls[i]? = some (.val (xm_cv B sb v))
def xm_tys (cs : Nat → ClassId) : List (ClassId × FieldType) := [(cs 0, .int), (cs 1, .long), (cs 2, .boolean), (cs 3, .object xm_eln)]
def xm_wl (B sb : Nat) (cs : Nat → ClassId) (h : xm_C) : va_W := (List.range h.length).filterMap (fun i => ((h[i]?).getD none).map (fun e => (B + i, xm_ce B sb cs e)))
theorem xm_cat_cv (B sb : Nat) (v : Value) : (xm_cv B sb v).category = v.category := by
  cases v <;> rfl
theorem xm_wt_cv (B sb : Nat) (st : List Value) : ((st.map (xm_cv B sb)).map fun v => v.category).sum = xm_wt st := by
  unfold xm_wt
  rw [List.map_map]
  congr 1
  apply List.map_congr_left
  intro v _
  exact xm_cat_cv B sb v
theorem xm_ld_some {L : xm_L} {i : Nat} {v : Value} (h : xm_ld L i = some v) : L[i]? = some (some v) := by
  unfold xm_ld at h
  cases hL : L[i]? with
  | none => rw [hL] at h; cases h
  | some o => rw [hL] at h; simp only [Option.getD_some] at h; rw [h]
theorem xm_cell_some {h : xm_H} {i : Nat} {e : xm_E} (q : xm_cell h i = some e) : h.1[i]? = some (some e) := by
  unfold xm_cell at q
  cases hL : h.1[i]? with
  | none => rw [hL] at q; cases q
  | some o => rw [hL] at q; simp only [Option.getD_some] at q; rw [q]
section
variable {B sb : Nat} {D : va_G} {cs : Nat → ClassId} {h : xm_C} {H H1 : Heap}
theorem xm_hb.pos (a : xm_hb B sb D cs h H) {i : Nat} {e : xm_E} (q : h[i]? = some (some e)) : i ≠ 0 := by
  intro z
  subst z
  rw [a.2.1] at q
  cases q
theorem xm_hb.adr (a : xm_hb B sb D cs h H) {i : Nat} {e : xm_E} (q : h[i]? = some (some e)) : xm_ad B sb i = B + i := by
  unfold xm_ad
  rw [if_neg (a.pos q)]
theorem xm_wl_in {x : Nat × va_E} (q : x ∈ xm_wl B sb cs h) : ∃ (i : Nat) (e : xm_E), h[i]? = some (some e) ∧ x = (B + i, xm_ce B sb cs e) := by
  obtain ⟨i, -, hi⟩ := List.mem_filterMap.mp q
  cases hL : h[i]? with
  | none => rw [hL] at hi; cases hi
  | some o =>
    rw [hL] at hi
    cases o with
    | none => cases hi
    | some e =>
      simp only [Option.getD_some, Option.map_some, Option.some.injEq] at hi
      exact ⟨i, e, hL, hi.symm⟩
theorem xm_wl_at {i : Nat} {e : xm_E} (q : h[i]? = some (some e)) : ∃ q0 : Nat, (xm_wl B sb cs h)[q0]? = some (B + i, xm_ce B sb cs e) := by
  apply List.mem_iff_getElem?.mp
  refine List.mem_filterMap.mpr ⟨i, List.mem_range.mpr (List.getElem?_eq_some_iff.mp q).1, ?_⟩
  rw [q]
  rfl
theorem xm_wl_P (a : xm_hb B sb D cs h H) : va_P D xm_cls (xm_wl B sb cs h) H := by
  intro k q hq
  obtain ⟨i, e, h1, rfl⟩ := xm_wl_in (List.mem_of_getElem? hq)
  exact a.2.2 i e h1
theorem xm_wl_D (a : xm_hb B sb D cs h H) : va_D (fun q => B < q) (xm_wl B sb cs h) := by
  have hp : (xm_wl B sb cs h).Pairwise (fun x y => x.1 < y.1) := by
    refine List.Pairwise.filterMap _ ?_ (List.pairwise_lt_range (n := h.length))
    intro i j hij x hx y hy
    cases hi : (h[i]?).getD none with
    | none => rw [hi] at hx; cases hx
    | some e =>
      cases hj : (h[j]?).getD none with
      | none => rw [hj] at hy; cases hy
      | some e' =>
        rw [hi] at hx
        rw [hj] at hy
        simp only [Option.map_some, Option.some.injEq] at hx hy
        rw [← hx, ← hy]
        exact Nat.add_lt_add_left hij B
  refine ⟨fun i j x y hx hy hxy => ?_, fun k q hq => ?_⟩
  · obtain ⟨hi, ei⟩ := List.getElem?_eq_some_iff.mp hx
    obtain ⟨hj, ej⟩ := List.getElem?_eq_some_iff.mp hy
    rcases Nat.lt_trichotomy i j with g | g | g
    · have := List.pairwise_iff_getElem.mp hp i j hi hj g
      rw [ei, ej, hxy] at this
      exact absurd this (Nat.lt_irrefl _)
    · exact g
    · have := List.pairwise_iff_getElem.mp hp j i hj hi g
      rw [ei, ej, hxy] at this
      exact absurd this (Nat.lt_irrefl _)
  · obtain ⟨i, e, h1, rfl⟩ := xm_wl_in (List.mem_of_getElem? hq)
    have := a.pos h1
    show B < B + i
    omega
theorem xm_hb.set (a : xm_hb B sb D cs h H) {i q0 : Nat} {e e' : xm_E} (q : h[i]? = some (some e)) (hq : (xm_wl B sb cs h)[q0]? = some (B + i, xm_ce B sb cs e))
    (hP : va_P D xm_cls ((xm_wl B sb cs h).set q0 (B + i, xm_ce B sb cs e')) H1) (hz : H1.size = H.size) : xm_hb B sb D cs (h.set i (some e')) H1 := by
  refine ⟨by rw [hz, List.length_set]; exact a.1, ?_, ?_⟩
  · rw [List.getElem?_set_ne (a.pos q)]
    exact a.2.1
  · intro j e2 hj
    by_cases hij : i = j
    · subst hij
      rw [List.getElem?_set_self (List.getElem?_eq_some_iff.mp q).1] at hj
      cases hj
      refine hP q0 _ ?_
      rw [List.getElem?_set_self (List.getElem?_eq_some_iff.mp hq).1]
    · rw [List.getElem?_set_ne hij] at hj
      obtain ⟨q1, h1⟩ := xm_wl_at (B := B) (sb := sb) (cs := cs) hj
      refine hP q1 _ ?_
      rw [List.getElem?_set_ne]
      · exact h1
      · intro z
        subst z
        rw [hq] at h1
        simp only [Option.some.injEq, Prod.mk.injEq] at h1
        exact hij (Nat.add_left_cancel h1.1)
theorem xm_hb.push (a : xm_hb B sb D cs h H) {e : Option xm_E} (hz : H1.size = H.size + 1) (ho : ∀ q : Nat, q < H.size → H1[q]? = H[q]?) (he : ∀ e', e = some e' → va_at D xm_cls (H.size, xm_ce B sb cs e') H1) : xm_hb B sb D cs (h ++ [e]) H1 := by
  refine ⟨by rw [hz, a.1, List.length_append]; rfl, ?_, ?_⟩
  · rw [List.getElem?_append_left (List.getElem?_eq_some_iff.mp a.2.1).1]
    exact a.2.1
  · intro i e2 hi
    by_cases hl : i < h.length
    · rw [List.getElem?_append_left hl] at hi
      exact (a.2.2 i e2 hi).kept (ho _ (by rw [a.1]; exact Nat.add_lt_add_left hl B))
    · rw [List.getElem?_append_right (by omega)] at hi
      have hk : i - h.length < 1 := (List.getElem?_eq_some_iff.mp hi).1
      have : i = h.length := by omega
      subst this
      rw [Nat.sub_self] at hi
      have : e = some e2 := by simpa using hi
      have := he e2 this
      rw [a.1] at this
      exact this
end
/-! the locals -/
def xm_pr (B sb : Nat) (L : xm_L) : List (Nat × Value) := (List.range L.length).filterMap (fun i => (xm_ld L i).map (fun v => (i, xm_cv B sb v)))
theorem xm_pr_in {B sb : Nat} {L : xm_L} {i : Nat} {v : Value} (h : L[i]? = some (some v)) : (i, xm_cv B sb v) ∈ xm_pr B sb L := by
  refine List.mem_filterMap.mpr ⟨i, List.mem_range.mpr (List.getElem?_eq_some_iff.mp h).1, ?_⟩
  unfold xm_ld
  rw [h]
  rfl
theorem xm_lh.has {B sb : Nat} {L : xm_L} {ls : Array Slot} (a : xm_lh B sb L ls) : lv_has ls L.length (xm_pr B sb L) := by
  refine ⟨a.1, a.2.1, fun q hq => ?_⟩
  obtain ⟨i, -, hi⟩ := List.mem_filterMap.mp hq
  cases hL : xm_ld L i with
  | none => rw [hL] at hi; cases hi
  | some v =>
    rw [hL] at hi
    simp only [Option.map_some, Option.some.injEq] at hi
    rw [← hi]
    exact a.2.2 i v (xm_ld_some hL)
theorem xm_clr_len (L : xm_L) (i : Nat) : (xm_clr L i).length = L.length := by
  unfold xm_clr
  split
  · rfl
  · split <;> simp
theorem xm_clr_at {L : xm_L} {i j : Nat} {v : Value} (h : (xm_clr L i)[j]? = some (some v)) : L[j]? = some (some v) ∧ ¬ (j + 1 = i ∧ v.category = 2) := by
  unfold xm_clr at h
  split at h
  · exact ⟨h, fun z => by omega⟩
  · rename_i j'
    have key : ∀ w, xm_ld L j' = some w → w.category = 2 → (L.set j' none)[j]? = some (some v) → L[j]? = some (some v) ∧ ¬ (j + 1 = j' + 1 ∧ v.category = 2) := by
      intro w hw hc hs
      by_cases hj : j' = j
      · subst hj
        rw [List.getElem?_set_self (List.getElem?_eq_some_iff.mp (xm_ld_some hw)).1] at hs
        cases hs
      · rw [List.getElem?_set_ne hj] at hs
        exact ⟨hs, fun z => hj (by omega)⟩
    split at h
    · rename_i w hw
      exact key _ hw rfl h
    · rename_i w hw
      exact key _ hw rfl h
    · rename_i h1 h2
      refine ⟨h, fun z => ?_⟩
      obtain ⟨z1, z2⟩ := z
      have : j = j' := by omega
      subst this
      have hl : xm_ld L j = some v := by unfold xm_ld; rw [h]; rfl
      cases v with
      | long x => exact h1 x hl
      | double x => exact h2 x hl
      | _ => simp [Value.category] at z2
theorem xm_lh.st1 {B sb : Nat} {L : xm_L} {ls' : Array Slot} {i : Nat} {v : Value} (hi : i < L.length)
    (a : lv_has ls' L.length ((i, xm_cv B sb v) :: (xm_pr B sb L).filter (fun q => !(q.1 == i) && !(q.1 + 1 == i && q.2.category == 2)))) : xm_lh B sb (xm_st1 L i v) ls' := by
  have hlen : (xm_st1 L i v).length = L.length := by unfold xm_st1; rw [List.length_set, xm_clr_len]
  refine ⟨by rw [hlen]; exact a.1, a.2.1, fun j u hj => ?_⟩
  unfold xm_st1 at hj
  by_cases hij : i = j
  · subst hij
    rw [List.getElem?_set_self (by rw [xm_clr_len]; exact hi)] at hj
    cases hj
    exact a.2.2 (i, xm_cv B sb v) List.mem_cons_self
  · rw [List.getElem?_set_ne hij] at hj
    obtain ⟨h1, h2⟩ := xm_clr_at hj
    refine a.2.2 (j, xm_cv B sb u) (List.mem_cons_of_mem _ (List.mem_filter.mpr ⟨xm_pr_in h1, ?_⟩))
    simp only [xm_cat_cv, Bool.and_eq_true, Bool.not_eq_true', beq_eq_false_iff_ne, ne_eq, Bool.and_eq_false_iff]
    exact ⟨fun z => hij z.symm, by
      by_cases hc : j + 1 = i
      · exact Or.inr (fun z => h2 ⟨hc, z⟩)
      · exact Or.inl hc⟩
theorem xm_lh.st2 {B sb : Nat} {L : xm_L} {ls' : Array Slot} {i : Nat} {v : Value} (hi : i + 1 < L.length)
    (a : lv_has ls' L.length ((i, xm_cv B sb v) :: (xm_pr B sb L).filter (fun q => !(q.1 == i) && (!(q.1 == i + 1) && !(q.1 + 1 == i && q.2.category == 2))))) : xm_lh B sb (xm_st2 L i v) ls' := by
  have hlen : (xm_st2 L i v).length = L.length := by unfold xm_st2; rw [List.length_set, List.length_set, xm_clr_len]
  refine ⟨by rw [hlen]; exact a.1, a.2.1, fun j u hj => ?_⟩
  unfold xm_st2 at hj
  by_cases hj1 : i + 1 = j
  · subst hj1
    rw [List.getElem?_set_self (by rw [List.length_set, xm_clr_len]; exact hi)] at hj
    cases hj
  · rw [List.getElem?_set_ne hj1] at hj
    by_cases hij : i = j
    · subst hij
      rw [List.getElem?_set_self (by rw [xm_clr_len]; omega)] at hj
      cases hj
      exact a.2.2 (i, xm_cv B sb v) List.mem_cons_self
    · rw [List.getElem?_set_ne hij] at hj
      obtain ⟨h1, h2⟩ := xm_clr_at hj
      refine a.2.2 (j, xm_cv B sb u) (List.mem_cons_of_mem _ (List.mem_filter.mpr ⟨xm_pr_in h1, ?_⟩))
      simp only [xm_cat_cv, Bool.and_eq_true, Bool.not_eq_true', beq_eq_false_iff_ne, ne_eq, Bool.and_eq_false_iff]
      exact ⟨fun z => hij z.symm, fun z => hj1 z.symm, by
        by_cases hc : j + 1 = i
        · exact Or.inr (fun z => h2 ⟨hc, z⟩)
        · exact Or.inl hc⟩
/-- a local that is no longer known -/
theorem xm_lh.fg {B sb : Nat} {L : xm_L} {ls' : Array Slot} {i : Nat} {v : Value} (hi : i < L.length)
    (a : lv_has ls' L.length ((i, v) :: (xm_pr B sb L).filter (fun q => !(q.1 == i) && !(q.1 + 1 == i && q.2.category == 2)))) : xm_lh B sb ((xm_clr L i).set i none) ls' := by
  refine ⟨by rw [List.length_set, xm_clr_len]; exact a.1, a.2.1, fun j u hj => ?_⟩
  by_cases hij : i = j
  · subst hij
    rw [List.getElem?_set_self (by rw [xm_clr_len]; exact hi)] at hj
    cases hj
  · rw [List.getElem?_set_ne hij] at hj
    obtain ⟨h1, h2⟩ := xm_clr_at hj
    refine a.2.2 (j, xm_cv B sb u) (List.mem_cons_of_mem _ (List.mem_filter.mpr ⟨xm_pr_in h1, ?_⟩))
    simp only [xm_cat_cv, Bool.and_eq_true, Bool.not_eq_true', beq_eq_false_iff_ne, ne_eq, Bool.and_eq_false_iff]
    exact ⟨fun z => hij z.symm, by
      by_cases hc : j + 1 = i
      · exact Or.inr (fun z => h2 ⟨hc, z⟩)
      · exact Or.inl hc⟩
theorem xm_sl_lg (B sb : Nat) (vs : List Value) : lg_sl (vs.map (xm_cv B sb)) = (xm_sl vs).map (fun o => match o with | some v => Slot.val (xm_cv B sb v) | none => Slot.second) := by
  induction vs with
  | nil => rfl
  | cons v r ih =>
    have h1 : lg_sl ((v :: r).map (xm_cv B sb)) = (if (xm_cv B sb v).category = 2 then [.val (xm_cv B sb v), .second] else [.val (xm_cv B sb v)]) ++ lg_sl (r.map (xm_cv B sb)) := rfl
    have h2 : xm_sl (v :: r) = (if v.category = 2 then [some v, none] else [some v]) ++ xm_sl r := rfl
    rw [h1, h2, ih, xm_cat_cv, List.map_append]
    congr 1
    split <;> rfl
theorem xm_lh.entry {B sb n : Nat} {vs : List Value} (hn : (xm_sl vs).length ≤ n) : xm_lh B sb (xm_ent n vs) ((lg_sl (vs.map (xm_cv B sb)) ++ List.replicate (n - (lg_sl (vs.map (xm_cv B sb))).length) Slot.unset).toArray) := by
  have hl : (lg_sl (vs.map (xm_cv B sb))).length = (xm_sl vs).length := by rw [xm_sl_lg, List.length_map]
  have h0 := lv_entry (vs.map (xm_cv B sb)) (n := n) (by rw [hl]; exact hn)
  refine ⟨?_, h0.2.1, fun i v hi => ?_⟩
  · rw [h0.1]
    unfold xm_ent
    rw [List.length_append, List.length_replicate]
    omega
  · unfold xm_ent at hi
    by_cases h1 : i < (xm_sl vs).length
    · rw [List.getElem?_append_left h1] at hi
      rw [List.getElem?_toArray, List.getElem?_append_left (by rw [hl]; exact h1), xm_sl_lg, List.getElem?_map, hi]
      rfl
    · rw [List.getElem?_append_right (by omega)] at hi
      rw [List.getElem?_replicate] at hi
      split at hi <;> cases hi
