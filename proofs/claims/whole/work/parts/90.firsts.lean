/-! The first tags of a draft's members, as lists: own work. -/
def zfl (E : zEnv) (t : Int) : Nat → Int → List Int
  | 0, _ => []
  | m + 1, j => E.1 21 (96 * t + j) :: zfl E t m (j + 1)
def zft (E : zEnv) (t : Int) : List Int := zfl E t (E.1 20 t).toNat 0
def zFL (E : zEnv) : Nat → Int → List Int
  | 0, _ => []
  | m + 1, k => zft E (E.1 23 (96 + k)) ++ zFL E m (k + 1)
def zNd (L : List Int) : Prop := L.Pairwise (fun a b => a ≠ b)
section
variable {E : zEnv}
theorem zfl_len (t : Int) : ∀ (m : Nat) (j : Int), (zfl E t m j).length = m
  | 0, _ => rfl
  | m + 1, j => by rw [zfl, List.length_cons, zfl_len t m (j + 1)]
theorem zft_len (t : Int) : (zft E t).length = (E.1 20 t).toNat := zfl_len t _ 0
theorem zfl_mem {t g : Int} : ∀ (m : Nat) (j : Int), g ∈ zfl E t m j → ∃ i, j ≤ i ∧ i < j + m ∧ E.1 21 (96 * t + i) = g
  | 0, j, h => by
    rw [zfl] at h
    cases h
  | m + 1, j, h => by
    rw [zfl, List.mem_cons] at h
    rcases h with h | h
    · exact ⟨j, Int.le_refl _, by omega, h.symm⟩
    · obtain ⟨i, a, b, c⟩ := zfl_mem m (j + 1) h
      exact ⟨i, by omega, by omega, c⟩
theorem zfl_r {o : Int → Int} {t : Int} : ∀ (m : Nat) (j : Int), (∀ i, j ≤ i → i < j + m → o i = E.1 21 (96 * t + i)) → zr o j (zfl E t m j)
  | 0, j, _ => trivial
  | m + 1, j, h => ⟨h j (Int.le_refl _) (by omega), zfl_r m (j + 1) (fun i h1 h2 => h i (by omega) (by omega))⟩
theorem zfl_eb {t g : Int} : ∀ (m : Nat) (j : Int), eb E t g m j = true ↔ g ∈ zfl E t m j
  | 0, j => by
    rw [eb, zfl]
    exact ⟨fun h => (by cases h), fun h => (by cases h)⟩
  | m + 1, j => by
    rw [eb, zfl, List.mem_cons, Bool.or_eq_true, decide_eq_true_iff, zfl_eb m (j + 1)]
    exact ⟨fun h => h.elim (fun z => Or.inl z.symm) Or.inr, fun h => h.elim (fun z => Or.inl z.symm) Or.inr⟩
theorem zft_bg {t g : Int} : eBg E t g = true ↔ g ∈ zft E t := zfl_eb _ 0
theorem zfl_mt {t u : Int} : ∀ (m : Nat) (j : Int), eMt1 E t u m j = false → ∀ g, g ∈ zfl E t m j → eBg E u g = false
  | 0, j, _, g, h => by
    rw [zfl] at h
    cases h
  | m + 1, j, hb, g, h => by
    rw [eMt1, Bool.or_eq_false_iff] at hb
    rw [zfl, List.mem_cons] at h
    rcases h with h | h
    · rw [h]
      exact hb.1
    · exact zfl_mt m (j + 1) hb.2 g h
theorem zft_mt {t u g : Int} (h : eMt E t u = false) (hg : g ∈ zft E t) : eBg E u g = false := zfl_mt _ 0 h g hg
theorem zft_no {t u g : Int} (h : eMt E t u = false) (hg : g ∈ zft E t) (hu : g ∈ zft E u) : False := by
  have h1 := zft_mt h hg
  rw [zft_bg.mpr hu] at h1
  cases h1
theorem rck_f {i : Int} : ∀ (m : Nat) (k : Int), rck E i m k = false → ∀ o, k ≤ o → o < k + m → eMt E (E.1 23 (96 + i)) (E.1 23 (96 + o)) = false
  | 0, k, _, o, h1, h2 => by exfalso; omega
  | m + 1, k, hb, o, h1, h2 => by
    rw [rck, Bool.or_eq_false_iff] at hb
    by_cases w : o = k
    · rw [w]
      exact hb.1
    · exact rck_f m (k + 1) hb.2 o (by omega) (by omega)
theorem zbr_f {op : Int} : ∀ (m : Nat) (i : Int), zbr E op m i = false → ∀ o, i ≤ o → o < i + m → zcl E op o = false
  | 0, i, _, o, h1, h2 => by exfalso; omega
  | m + 1, i, hb, o, h1, h2 => by
    rw [zbr, Bool.or_eq_false_iff] at hb
    by_cases w : o = i
    · rw [w]
      exact hb.1
    · exact zbr_f m (i + 1) hb.2 o (by omega) (by omega)
/-- members of a SET or a CHOICE never meet -/
theorem zBr_f {op : Int} (hop : op ≠ 16) (h : zBr E op = false) : ∀ i o, 0 ≤ i → i < o → o < E.1 22 16 → eMt E (E.1 23 (96 + i)) (E.1 23 (96 + o)) = false := by
  intro i o i0 io o1
  unfold zBr at h
  rw [Bool.or_eq_false_iff] at h
  have h2 := zbr_f _ 0 h.2 i i0 (by omega)
  unfold zcl at h2
  rw [if_neg (show ¬ (op = 16 ∧ E.1 24 (96 + i) = 0) from fun z => hop z.1), zck_set hop] at h2
  exact rck_f _ _ h2 o (by omega) (by omega)
theorem zFL_mem {g : Int} : ∀ (m : Nat) (k : Int), g ∈ zFL E m k → ∃ i, k ≤ i ∧ i < k + m ∧ g ∈ zft E (E.1 23 (96 + i))
  | 0, k, h => by
    rw [zFL] at h
    cases h
  | m + 1, k, h => by
    rw [zFL, List.mem_append] at h
    rcases h with h | h
    · exact ⟨k, Int.le_refl _, by omega, h⟩
    · obtain ⟨i, a, b, c⟩ := zFL_mem m (k + 1) h
      exact ⟨i, by omega, by omega, c⟩
theorem zfl_nd {t : Int} : ∀ (m : Nat) (j : Int), (∀ i o, j ≤ i → i < o → o < j + m → E.1 21 (96 * t + i) ≠ E.1 21 (96 * t + o)) → zNd (zfl E t m j)
  | 0, j, _ => by
    rw [zfl]
    exact List.Pairwise.nil
  | m + 1, j, h => by
    rw [zfl]
    refine List.Pairwise.cons (fun g hg => ?_) (zfl_nd m (j + 1) (fun i o h1 h2 h3 => h i o (by omega) h2 (by omega)))
    obtain ⟨i, a, b, c⟩ := zfl_mem m (j + 1) hg
    rw [← c]
    exact h j i (Int.le_refl _) (by omega) (by omega)
theorem zFL_nd (hf : ∀ k, 0 ≤ k → k < E.1 22 16 → zNd (zft E (E.1 23 (96 + k)))) (hd : ∀ i o, 0 ≤ i → i < o → o < E.1 22 16 → eMt E (E.1 23 (96 + i)) (E.1 23 (96 + o)) = false) : ∀ (m : Nat) (k : Int), 0 ≤ k → k + m ≤ E.1 22 16 → zNd (zFL E m k)
  | 0, k, _, _ => by
    rw [zFL]
    exact List.Pairwise.nil
  | m + 1, k, h0, h1 => by
    rw [zFL]
    refine List.pairwise_append.mpr ⟨hf k h0 (by omega), zFL_nd hf hd m (k + 1) (by omega) (by omega), fun a ha b hb hab => ?_⟩
    obtain ⟨i, i0, i1, hi⟩ := zFL_mem m (k + 1) hb
    exact zft_no (hd k i h0 (by omega) (by omega)) ha (by rw [hab]; exact hi)
theorem zSplit {g : Int} : ∀ {L : List Int}, g ∈ L → ∃ a b, L = a ++ g :: b
  | [], h => by cases h
  | x :: t, h => by
    rw [List.mem_cons] at h
    rcases h with h | h
    · exact ⟨[], t, by rw [h]; rfl⟩
    · obtain ⟨a, b, e⟩ := zSplit h
      exact ⟨x :: a, b, by rw [e]; rfl⟩
theorem zLen (f : Int → Int) : ∀ (m : Nat) (L : List Int), zNd L → (∀ g, g ∈ L → ∃ v, 0 ≤ v ∧ v < (m : Int) ∧ f v = g) → L.length ≤ m
  | 0, [], _, _ => Nat.le_refl _
  | 0, x :: t, _, h => by
    obtain ⟨v, a, b, -⟩ := h x (List.mem_cons.mpr (Or.inl rfl))
    exfalso
    omega
  | m + 1, L, hn, h => by
    have low : ∀ g, g ∈ L → g ≠ f m → ∃ v, 0 ≤ v ∧ v < (m : Int) ∧ f v = g := fun g hg ne => by
      obtain ⟨v, v0, v1, v2⟩ := h g hg
      have : v ≠ (m : Int) := fun z => ne (by rw [← v2, z])
      exact ⟨v, v0, by omega, v2⟩
    by_cases hg : f m ∈ L
    · obtain ⟨a, b, e⟩ := zSplit hg
      rw [e] at hn
      obtain ⟨n1, n2, n3⟩ := List.pairwise_append.mp hn
      obtain ⟨n4, n5⟩ := List.pairwise_cons.mp n2
      have nd : zNd (a ++ b) := List.pairwise_append.mpr ⟨n1, n5, fun x hx y hy => n3 x hx y (List.mem_cons.mpr (Or.inr hy))⟩
      have key := zLen f m (a ++ b) nd (fun g hg2 => by
        rcases List.mem_append.mp hg2 with hx | hx
        · exact low g (by rw [e]; exact List.mem_append.mpr (Or.inl hx)) (n3 g hx (f m) (List.mem_cons.mpr (Or.inl rfl)))
        · exact low g (by rw [e]; exact List.mem_append.mpr (Or.inr (List.mem_cons.mpr (Or.inr hx)))) (fun z => n4 g hx z.symm))
      rw [List.length_append] at key
      rw [e, List.length_append, List.length_cons]
      omega
    · have key := zLen f m L hn (fun g hg2 => low g hg2 (fun z => hg (by rw [← z]; exact hg2)))
      omega
/-- what is so of a CHOICE's first tags -/
theorem zFL_ok {n op : Int} (hW : zWF E n) (hF : zFs E n) (hop : op ≠ 16) (hb : zBr E op = false) (h22 : 0 ≤ E.1 22 16 ∧ E.1 22 16 ≤ 6) (hv : ∀ k, 0 ≤ k → k < E.1 22 16 → zMv E n (96 + k)) (hn0 : 0 ≤ n) : zNd (zFL E (E.1 22 16).toNat 0) ∧ (∀ g, g ∈ zFL E (E.1 22 16).toNat 0 → 0 ≤ g ∧ g < 8388608 ∧ ∃ v, 0 ≤ v ∧ v < n ∧ E.1 14 v = g) ∧ (zFL E (E.1 22 16).toNat 0).length ≤ n.toNat := by
  have nd : zNd (zFL E (E.1 22 16).toNat 0) := by
    refine zFL_nd (fun k k0 k1 => ?_) (zBr_f hop hb) _ 0 (by decide) (by omega)
    obtain ⟨v1, v2, -⟩ := hv k k0 k1
    have f1 := (hF _ v1 v2).1
    have f0 := (zWf_of hW v1 v2).1
    exact zfl_nd _ 0 (fun i o h1 h2 h3 => f1 i o h1 h2 (by omega))
  have el : ∀ g, g ∈ zFL E (E.1 22 16).toNat 0 → 0 ≤ g ∧ g < 8388608 ∧ ∃ v, 0 ≤ v ∧ v < n ∧ E.1 14 v = g := by
    intro g hg
    obtain ⟨k, k0, k1, hk⟩ := zFL_mem _ 0 hg
    obtain ⟨v1, v2, -⟩ := hv k k0 (by omega)
    obtain ⟨f0, f1, f2, -⟩ := zWf_of hW v1 v2
    obtain ⟨i, i0, i1, hi⟩ := zfl_mem _ 0 hk
    obtain ⟨x1, x2⟩ := f2 i i0 (by omega)
    obtain ⟨v, y0, y1, y2⟩ := (hF _ v1 v2).2 i i0 (by omega)
    rw [hi] at x1 x2 y2
    exact ⟨x1, x2, v, y0, by omega, y2⟩
  refine ⟨nd, el, zLen (E.1 14) _ _ nd (fun g hg => ?_)⟩
  obtain ⟨-, -, v, v0, v1, v2⟩ := el g hg
  exact ⟨v, v0, by omega, v2⟩
end
