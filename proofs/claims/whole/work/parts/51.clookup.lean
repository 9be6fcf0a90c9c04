/-! The class' look at tags and members: own work. -/
def zMk (M : Int) (seen : Int → Bool) : Prop := 0 ≤ M ∧ M < 64 ∧ ∀ k : Nat, k < 6 → M / ((2 ^ k : Nat) : Int) % 2 = if seen k then 1 else 0
theorem zMk_bit {M : Int} {seen : Int → Bool} (h : zMk M seen) {k : Int} (h0 : 0 ≤ k) (h1 : k < 6) : ym_and (ym_shr M k) 1 = if seen k then 1 else 0 := by
  obtain ⟨n, rfl⟩ := zn_nat h0
  have hb : M / ((2 ^ n : Nat) : Int) ≤ M := Int.ediv_le_self _ h.1
  have hb2 : 0 ≤ M / ((2 ^ n : Nat) : Int) := Int.ediv_nonneg h.1 (Int.natCast_nonneg _)
  have := h.2.1
  rw [zn_shr n (by omega) h.1 (by omega), zn_1 hb2 (by omega)]
  exact h.2.2 n (by omega)
theorem zMk_0 : zMk 0 (fun _ => false) := ⟨by decide, by decide, fun k hk => by
  have : k = 0 ∨ k = 1 ∨ k = 2 ∨ k = 3 ∨ k = 4 ∨ k = 5 := by omega
  rcases this with rfl | rfl | rfl | rfl | rfl | rfl <;> decide⟩
theorem zMk_add0 : ∀ (M : Fin 64) (k : Fin 6), M.val / 2 ^ k.val % 2 = 0 → ym_or ((M.val : Nat) : Int) (ym_shl 1 ((k.val : Nat) : Int)) = ((M.val + 2 ^ k.val : Nat) : Int) ∧ M.val + 2 ^ k.val < 64 ∧ ∀ j : Fin 6, (M.val + 2 ^ k.val) / 2 ^ j.val % 2 = if j = k then 1 else M.val / 2 ^ j.val % 2 := by decide +kernel
theorem zMk_add {M : Int} {seen : Int → Bool} (h : zMk M seen) {k : Int} (h0 : 0 ≤ k) (h1 : k < 6) (hs : seen k = false) : zMk (ym_or M (ym_shl 1 k)) (fun j => decide (j = k) || seen j) := by
  obtain ⟨n, rfl⟩ := zn_nat h0
  obtain ⟨a, rfl⟩ := zn_nat h.1
  have ha := h.2.1
  have h2 := h.2.2 n (by omega)
  rw [hs] at h2
  have h3 : a / 2 ^ n % 2 = 0 := by
    have : ((a / 2 ^ n % 2 : Nat) : Int) = 0 := by rw [Int.natCast_emod, Int.natCast_ediv]; exact h2
    omega
  obtain ⟨e1, e2, e3⟩ := zMk_add0 ⟨a, by omega⟩ ⟨n, by omega⟩ h3
  change ym_or (a : Int) (ym_shl 1 (n : Int)) = ((a + 2 ^ n : Nat) : Int) at e1
  change a + 2 ^ n < 64 at e2
  rw [e1]
  refine ⟨Int.natCast_nonneg _, Int.ofNat_lt.mpr e2, fun j hj => ?_⟩
  have e4 := e3 ⟨j, hj⟩
  have e5 : ((a + 2 ^ n : Nat) : Int) / ((2 ^ j : Nat) : Int) % 2 = (((a + 2 ^ n) / 2 ^ j % 2 : Nat) : Int) := by rw [Int.natCast_emod, Int.natCast_ediv]; rfl
  rw [e5]
  dsimp only at e4 ⊢
  rw [e4]
  by_cases hjn : j = n
  · subst hjn
    simp
  · have : ¬ ((⟨j, hj⟩ : Fin 6) = ⟨n, by omega⟩) := fun z => hjn (congrArg Fin.val z)
    rw [if_neg this]
    have h5 := h.2.2 j hj
    have e6 : (((a / 2 ^ j % 2 : Nat) : Nat) : Int) = (a : Int) / ((2 ^ j : Nat) : Int) % 2 := by rw [Int.natCast_emod, Int.natCast_ediv]; rfl
    rw [e6, h5]
    have : decide ((j : Int) = (n : Int)) = false := decide_eq_false (by omega)
    show _ = if (decide ((j : Int) = (n : Int)) || seen j) = true then 1 else 0
    simp only [this, Bool.false_or]
theorem zFo_ch {E : zEnv} {n : Int} (h : zWF E n) {t : Int} (h0 : 0 ≤ t) (h1 : t < n) : zFo E (eCo E 17 t) = 20 ↔ eCh E t = true := by
  have hn := h.1
  obtain ⟨c0, c1, c2, c3, c4⟩ := eCo_ok h 17 t h0 h1 (by omega)
  obtain ⟨-, w⟩ := h.2 (eCo E 17 t) c0 (by omega)
  rw [c3]
  unfold zFo eCh
  rcases w with w | w | w | w | w
  · obtain ⟨w1, w2, -⟩ := w
    rw [w1]
    simp
    omega
  · exact absurd w.1 c2
  · rw [w.1]
    simp
  · obtain ⟨w1, -, w2, -⟩ := w
    rw [w1]
    simp
    omega
  · rw [w.1]
    simp
theorem zno {α : Type} {o : Option α} {x : α} (h : o = some x) (z : o = none) : False := by
  rw [h] at z
  cases z
section
variable {sc : xm_S} {P : xm_O → xm_H → Prop} {K : List ym_F} {s : ym_S} {E : zEnv} {n : Int}
theorem cc_31 (H : zh sc K 0) {t : Int} {c : Nat} (hC : zCt E s t c) (hf : zWf E t) {g : Int} (hg : ym_in g) (kr : ym_Rt sc P K (some (ym_I (if eBg E t g then 1 else 0))) s) : ym_Go sc P K (31, 0, [some (ym_Q c), some (ym_I g), none], []) s := by
  obtain ⟨t1, -, -, -, -, -, -, -, t7, t8, t9⟩ := hC
  obtain ⟨f1, f2, f3, -⟩ := hf
  have t7 : s.2.2.1 c 7 = some (c + 1) := t7
  have loop : ∀ (k : Nat) (j : Int), E.1 20 t - j = k → 0 ≤ j → ym_Rt sc P K (some (ym_I (if eb E t g k j then 1 else 0))) s → ym_Go sc P K (31, 2, [some (ym_Q c), some (ym_I g), some (ym_I j)], []) s := by
    intro k
    induction k with
    | zero =>
      intro j hj hj0 kr
      refine sg_31_2 (zy H) _ _ _ ⟨t1, fun z => ?_, fun q hq => ?_⟩
      · rw [t7] at z
        cases z
      · rw [t7] at hq
        obtain rfl := Option.some.inj hq
        exact ⟨(E.1 20 t).toNat, t8, ⟨by omega, by omega⟩, ⟨by omega, by omega⟩, fun z => by exfalso; omega, fun _ => kr⟩
    | succ k ih =>
      intro j hj hj0 kr
      refine sg_31_2 (zy H) _ _ _ ⟨t1, zno (t7), fun q hq => ?_⟩
      rw [t7] at hq
      obtain rfl := Option.some.inj hq
      refine ⟨(E.1 20 t).toNat, t8, ⟨by omega, by omega⟩, ⟨by omega, by omega⟩, fun _ => ⟨zno (t7), fun q hq => ?_⟩, fun z => by exfalso; omega⟩
      rw [t7] at hq
      obtain rfl := Option.some.inj hq
      refine ⟨(E.1 20 t).toNat, t8, ⟨by omega, by omega⟩, hg, ?_⟩
      rw [t9 j hj0 (by omega)]
      refine ⟨fun h => ?_, fun h => ih (j + 1) (by omega) (by omega) ?_⟩
      · rw [eb, decide_eq_true h] at kr
        exact kr
      · rw [eb, decide_eq_false h, Bool.false_or] at kr
        exact kr
  exact sg_31_0 (zy H) _ _ (loop (E.1 20 t).toNat 0 (by omega) (by omega) kr)
def eIi (o : Option Int) : Int := o.getD (-1)
theorem cc_40l (H : zh sc K 1) (hW : zWF E n) (hC : zCl E s n) {u : Int} (hu0 : 0 ≤ u) (hun : u < n) (hu4 : E.1 13 u = 4) {m : Nat} (hM : zMb E s u m) {g : Int} (hg : ym_in g) (a2 : Int) : ∀ (f : Nat) (k : Int), E.1 22 u - k = f → 0 ≤ k → ym_Rt sc P K (some (ym_I (eIi (ef E u g f k)))) s → ym_Go sc P K (40, 2, [some (ym_Q m), some (ym_I g), some (ym_I a2), some (ym_I k)], []) s := by
  obtain ⟨m1, m2, m3, m4, m5, m6, m7, m8, m9, m10, m11⟩ := hM
  have hn := hW.1
  obtain ⟨-, w⟩ := hW.2 u hu0 hun
  have w4 : zW4 E u := by
    rcases w with w | w | w | w | w
    all_goals first | exact w.2 | (exfalso; have := w.1; omega)
  obtain ⟨-, -, w5, w6, w7, -⟩ := w4
  intro f
  induction f with
  | zero =>
    intro k hk hk0 kr
    refine sg_40_2 (zy H) _ _ _ _ ⟨m1, ⟨by omega, by omega⟩, ?_⟩
    rw [m4]
    exact ⟨fun z => by exfalso; omega, fun _ => kr⟩
  | succ f ih =>
    intro k hk hk0 kr
    refine sg_40_2 (zy H) _ _ _ _ ⟨m1, ⟨by omega, by omega⟩, ?_⟩
    rw [m4]
    refine ⟨fun _ => ⟨zno (show s.2.2.1 m 1 = some (m + 1) from m5), fun q hq => ?_⟩, fun z => by exfalso; omega⟩
    rw [show s.2.2.1 m 1 = some (m + 1) from m5] at hq
    obtain rfl := Option.some.inj hq
    obtain ⟨k1, k2, k3, -⟩ := w7 k hk0 (by omega)
    obtain ⟨cm, hcm, hct⟩ := hC (E.1 23 (6 * u + k)) k1 (by omega)
    have e1 : s.2.2.1 (m + 1) k = some cm := by rw [← hcm]; exact (m11 k hk0 (by omega)).1
    refine ⟨6, m6, ⟨by omega, by omega⟩, zno (e1), fun q hq => ?_⟩
    rw [e1] at hq
    obtain rfl := Option.some.inj hq
    refine ⟨hct.1, cc_31 (zk H) hct (zWf_of hW k1 (by omega)) hg (ym_rt_cons (sg_40_20 (zy H) _ _ _ _ _ ?_))⟩
    rw [ef] at kr
    cases hb : eBg E (E.1 23 (6 * u + k)) g with
    | false =>
      rw [hb] at kr
      exact ⟨by decide, fun _ => ih (k + 1) (by omega) (by omega) kr, fun z => absurd rfl z⟩
    | true =>
      rw [hb] at kr
      exact ⟨by decide, fun z => absurd z (by decide), fun _ => kr⟩
theorem cc_40 (H : zh sc K 1) (hW : zWF E n) (hC : zCl E s n) {u : Int} (hu0 : 0 ≤ u) (hun : u < n) (hu4 : E.1 13 u = 4) {m : Nat} (hM : zMb E s u m) {g : Int} (hg : ym_in g) {a2 : Int} (h2 : 0 ≤ a2) (h22 : a2 ≤ E.1 22 u) (kr : ym_Rt sc P K (some (ym_I (eIi (eIx E u g a2)))) s) : ym_Go sc P K (40, 0, [some (ym_Q m), some (ym_I g), some (ym_I a2), none], []) s := sg_40_0 (zy H) _ _ _ (cc_40l H hW hC hu0 hun hu4 hM hg a2 (E.1 22 u - a2).toNat a2 (by omega) h2 kr)
theorem ef_ok {u g : Int} : ∀ (f : Nat) (k x : Int), ef E u g f k = some x → k ≤ x ∧ x < k + f ∧ eBg E (E.1 23 (6 * u + x)) g = true
  | 0, k, x, h => by cases h
  | f + 1, k, x, h => by
    unfold ef at h
    split at h
    · rename_i hb
      obtain rfl := Option.some.inj h
      exact ⟨Int.le_refl _, by omega, hb⟩
    · have := ef_ok f (k + 1) x h
      exact ⟨by omega, by omega, this.2.2⟩
theorem cc_33l (H : zh sc K 2) (hW : zWF E n) (hC : zCl E s n) {c0 : Nat} {g : Int} (hg : ym_in g) : ∀ (f : Nat) (t a3 : Int) (c : Nat) (x : Option Int), 0 ≤ t → t < n → t < f → 0 ≤ a3 → a3 + t ≤ 15 → ym_R s 2 t = some c → (eRs E g f t = none → ym_Rt sc P K (some ym_N) s) → (∀ v cv, eRs E g f t = some v → ym_R s 2 v = some cv → ym_Rt sc P K (some (ym_Q cv)) s) → ym_Go sc P K (33, 4, [some (ym_Q c0), some (ym_I g), some (ym_Q c), some (ym_I a3), x.map ym_I], []) s := by
  have hn := hW.1
  intro f
  induction f with
  | zero => intro t a3 c x h0 h1 hf; exfalso; omega
  | succ f ih =>
    intro t a3 c x h0 h1 hf ha ha2 hc k1 k2
    obtain ⟨c', hc', hct⟩ := hC t h0 h1
    have : c' = c := by rw [hc'] at hc; exact Option.some.inj hc
    subst this
    have hch := zFo_ch hW h0 h1
    obtain ⟨o0, o1, o2, o3, o4⟩ := eCo_ok hW 17 t h0 h1 (by omega)
    have hct2 := hct
    obtain ⟨t1, t2, t3, t4, t5, t6, t7, t8, -⟩ := hct2
    rw [eRs] at k1 k2
    cases hb : eCh E t with
    | false =>
      rw [hb, if_neg (by decide)] at k1 k2
      rw [hb, if_neg (by decide)] at t4
      have hno : ¬ s.1 c' 0 = 20 := by
        rw [t3, hch, hb]
        decide
      have fin : ym_in g ∧ (s.1 c' 1 = g → ym_Rt sc P K (some (ym_Q c')) s) ∧ (¬ s.1 c' 1 = g → ym_Rt sc P K (some ym_N) s) := by
        rw [t4]
        refine ⟨hg, fun z => k2 t c' ?_ hc', fun z => k1 ?_⟩
        · rw [if_pos z]
        · rw [if_neg z]
      cases x
      · exact sg_33_4 (zy H) _ _ _ _ ⟨⟨by omega, by omega⟩, fun _ => ⟨t1, fun z => absurd z hno, fun _ => fin⟩, fun z => by exfalso; omega⟩
      · exact sg_33_4c (zy H) _ _ _ _ _ ⟨⟨by omega, by omega⟩, fun _ => ⟨t1, fun z => absurd z hno, fun _ => fin⟩, fun z => by exfalso; omega⟩
    | true =>
      rw [hb, if_pos rfl] at k1 k2
      have hco := o4 hb
      have h4 : E.1 13 t = 4 ∧ E.1 15 t = 20 := by
        unfold eCh at hb
        simp at hb
        exact hb
      rw [hco] at t8
      obtain ⟨mm, hmm, hM⟩ := t8 h4.1
      have hyes : s.1 c' 0 = 20 := by rw [t3, hch, hb]
      obtain ⟨-, w⟩ := hW.2 t h0 h1
      have w4 : zW4 E t := by
        rcases w with w | w | w | w | w
        all_goals first | exact w.2 | (exfalso; have := w.1; have := h4.1; omega)
      obtain ⟨-, -, w5, w6, w7, -⟩ := w4
      have hM2 := hM
      obtain ⟨m1, m2, m3, m4, m5, m6, m7, m8, m9, m10, m11⟩ := hM2
      have call : ∀ x : Option Int, ym_T s mm = some (6, 0) ∧ ym_Go sc P ((33, 32, [some (ym_Q c0), some (ym_I g), some (ym_Q c'), some (ym_I a3), x.map ym_I], []) :: K) (40, 0, [some (ym_Q mm), some (ym_I g), some (ym_I 0), none], []) s := by
        intro x
        refine ⟨m1, cc_40 (zk H) hW hC h0 h1 h4.1 hM hg (by omega) (by omega) (ym_rt_cons ?_)⟩
        have fin : ym_in (eIi (eIx E t g 0)) ∧ (eIi (eIx E t g 0) < 0 → ym_Rt sc P K (some ym_N) s) ∧ (0 ≤ eIi (eIx E t g 0) → ym_T s c' = some (5, 0) ∧ (s.2.2.1 c' 6 = none → False) ∧ (∀ zq3 : Nat, s.2.2.1 c' 6 = some zq3 → ym_T s zq3 = some (6, 0) ∧ (s.2.2.1 zq3 1 = none → False) ∧ (∀ zq5 : Nat, s.2.2.1 zq3 1 = some zq5 → (∃ zn6 : Nat, ym_T s zq5 = some (3, zn6) ∧ ((0 : Int) ≤ eIi (eIx E t g 0) ∧ eIi (eIx E t g 0) < (zn6 : Int)) ∧ (s.2.2.1 zq5 (eIi (eIx E t g 0)) = none → ym_Go sc P K (33, 4, [some (ym_Q c0), some (ym_I g), some (ym_N), some (ym_I (a3 + 1)), some (ym_I (eIi (eIx E t g 0)))], []) s) ∧ (∀ zq9 : Nat, s.2.2.1 zq5 (eIi (eIx E t g 0)) = some zq9 → ym_Go sc P K (33, 4, [some (ym_Q c0), some (ym_I g), some (ym_Q zq9), some (ym_I (a3 + 1)), some (ym_I (eIi (eIx E t g 0)))], []) s))))) := by
          cases hix : eIx E t g 0 with
          | none =>
            rw [hix] at k1
            exact ⟨by decide, fun _ => k1 rfl, fun z => absurd z (by decide)⟩
          | some k =>
            rw [hix] at k1 k2
            obtain ⟨kk1, kk2, kk3⟩ := ef_ok _ _ _ hix
            obtain ⟨v1, v2, v3, -⟩ := w7 k kk1 (by omega)
            obtain ⟨cm, hcm, hctm⟩ := hC (E.1 23 (6 * t + k)) v1 (by omega)
            have e1 : s.2.2.1 (mm + 1) k = some cm := by rw [← hcm]; exact (m11 k kk1 (by omega)).1
            show ym_in k ∧ (k < 0 → _) ∧ (0 ≤ k → _)
            refine ⟨⟨by omega, by omega⟩, fun z => by exfalso; omega, fun _ => ⟨t1, zno (show s.2.2.1 c' 6 = some mm from hmm), fun q hq => ?_⟩⟩
            rw [show s.2.2.1 c' 6 = some mm from hmm] at hq
            obtain rfl := Option.some.inj hq
            refine ⟨m1, zno (show s.2.2.1 mm 1 = some (mm + 1) from m5), fun q hq => ?_⟩
            rw [show s.2.2.1 mm 1 = some (mm + 1) from m5] at hq
            obtain rfl := Option.some.inj hq
            refine ⟨6, m6, ⟨kk1, by show k < ((6 : Nat) : Int); omega⟩, fun z => ?_, fun q hq => ?_⟩
            · exact absurd (e1.symm.trans z) (by intro y; cases y)
            · have hq2 : s.2.2.1 (mm + 1) k = some q := hq
              rw [e1] at hq2
              obtain rfl := Option.some.inj hq2
              exact ih (E.1 23 (6 * t + k)) (a3 + 1) cm (some k) v1 (by omega) (by omega) (by omega) (by omega) hcm k1 k2
        cases x
        · exact sg_33_35 (zy H) _ _ _ _ _ fin
        · exact sg_33_35b (zy H) _ _ _ _ _ _ fin
      have pre : ∀ x : Option Int, (s.1 c' 0 = 20 → (s.2.2.1 c' 6 = none → ym_in g ∧ (s.1 c' 1 = g → ym_Rt sc P K (some (ym_Q c')) s) ∧ (¬ s.1 c' 1 = g → ym_Rt sc P K (some ym_N) s)) ∧ (∀ zq17 : Nat, s.2.2.1 c' 6 = some zq17 → (s.2.2.1 c' 6 = none → False) ∧ (∀ zq18 : Nat, s.2.2.1 c' 6 = some zq18 → ym_T s zq18 = some (6, 0) ∧ ym_Go sc P ((33, 32, [some (ym_Q c0), some (ym_I g), some (ym_Q c'), some (ym_I a3), x.map ym_I], []) :: K) (40, 0, [some (ym_Q zq18), some (ym_I g), some (ym_I 0), none], []) s))) := by
        intro x _
        refine ⟨fun z => (zno (show s.2.2.1 c' 6 = some mm from hmm) z).elim, fun q hq => ⟨zno (show s.2.2.1 c' 6 = some mm from hmm), fun q2 hq2 => ?_⟩⟩
        rw [show s.2.2.1 c' 6 = some mm from hmm] at hq2
        obtain rfl := Option.some.inj hq2
        exact call x
      cases x
      · exact sg_33_4 (zy H) _ _ _ _ ⟨⟨by omega, by omega⟩, fun _ => ⟨t1, pre none, fun z => absurd hyes z⟩, fun z => by exfalso; omega⟩
      · rename_i x
        exact sg_33_4c (zy H) _ _ _ _ _ ⟨⟨by omega, by omega⟩, fun _ => ⟨t1, pre (some x), fun z => absurd hyes z⟩, fun z => by exfalso; omega⟩
theorem cc_33 (H : zh sc K 2) (hW : zWF E n) (hC : zCl E s n) {g : Int} (hg : ym_in g) {t : Int} {c : Nat} (h0 : 0 ≤ t) (h1 : t < n) (hc : ym_R s 2 t = some c) (k1 : eRs E g 17 t = none → ym_Rt sc P K (some ym_N) s) (k2 : ∀ v cv, eRs E g 17 t = some v → ym_R s 2 v = some cv → ym_Rt sc P K (some (ym_Q cv)) s) : ym_Go sc P K (33, 0, [some (ym_Q c), some (ym_I g), none, none, none], []) s := by
  have hn := hW.1
  exact sg_33_0 (zy H) _ _ (cc_33l H hW hC hg 17 t 0 c none h0 h1 (by omega) (by omega) (by omega) hc k1 k2)
theorem cc_41 (H : zh sc K 0) (hW : zWF E n) {u : Int} (hu0 : 0 ≤ u) (hun : u < n) (hu4 : E.1 13 u = 4) {m : Nat} (hM : zMb E s u m) {M : Int} {seen : Int → Bool} (hk : zMk M seen) (kr : ym_Rt sc P K (some (ym_I (if em E u seen (E.1 22 u).toNat 0 then 1 else 0))) s) : ym_Go sc P K (41, 0, [some (ym_Q m), some (ym_I M), none], []) s := by
  obtain ⟨m1, m2, m3, m4, m5, m6, m7, m8, m9, m10, m11⟩ := hM
  obtain ⟨-, w⟩ := hW.2 u hu0 hun
  have w4 : zW4 E u := by
    rcases w with w | w | w | w | w
    all_goals first | exact w.2 | (exfalso; have := w.1; omega)
  obtain ⟨-, -, w5, w6, w7, -⟩ := w4
  have loop : ∀ (f : Nat) (k : Int), E.1 22 u - k = f → 0 ≤ k → ym_Rt sc P K (some (ym_I (if em E u seen f k then 1 else 0))) s → ym_Go sc P K (41, 2, [some (ym_Q m), some (ym_I M), some (ym_I k)], []) s := by
    intro f
    induction f with
    | zero =>
      intro k h1 h2 kr
      refine sg_41_2 (zy H) _ _ _ ⟨m1, ⟨by omega, by omega⟩, ?_⟩
      rw [m4]
      exact ⟨fun z => by exfalso; omega, fun _ => kr⟩
    | succ f ih =>
      intro k h1 h2 kr
      refine sg_41_2 (zy H) _ _ _ ⟨m1, ⟨by omega, by omega⟩, ?_⟩
      rw [m4]
      refine ⟨fun _ => ⟨zno (show s.2.2.1 m 2 = some (m + 2) from m7), fun q hq => ?_⟩, fun z => by exfalso; omega⟩
      rw [show s.2.2.1 m 2 = some (m + 2) from m7] at hq
      obtain rfl := Option.some.inj hq
      refine ⟨6, m8, ⟨by omega, by omega⟩, ?_⟩
      rw [(m11 k h2 (by omega)).2.1, zMk_bit hk h2 (by omega)]
      rw [em] at kr
      refine ⟨fun h3 => ⟨fun h4 => ?_, fun h4 => ?_⟩, fun h3 => ?_⟩
      · have hs : seen k = false := by
          cases hs : seen k with
          | false => rfl
          | true => rw [hs] at h4; exact absurd h4 (by decide)
        rw [decide_eq_true h3, hs] at kr
        exact kr
      · have hs : seen k = true := by
          cases hs : seen k with
          | false => rw [hs] at h4; exact absurd rfl h4
          | true => rfl
        rw [hs, Bool.not_true, Bool.and_false, Bool.false_or] at kr
        exact ih (k + 1) (by omega) (by omega) kr
      · rw [decide_eq_false h3, Bool.false_and, Bool.false_or] at kr
        exact ih (k + 1) (by omega) (by omega) kr
  exact sg_41_0 (zy H) _ _ (loop (E.1 22 u).toNat 0 (by omega) (by omega) kr)
def zFc (f : Int) : Int := if f = 16 then 1 else if f = 17 then 1 else if f = 116 then 1 else if f = 117 then 1 else if f = 118 then 1 else 0
theorem cc_27 (H : zh sc K 0) {c : Nat} (hT : ym_T s c = some (5, 0)) (kr : ym_Rt sc P K (some (ym_I (zFc (s.1 c 0)))) s) : ym_Go sc P K (27, 0, [some (ym_Q c)], []) s := sg_27_0 (zy H) _ ⟨hT, kr⟩
theorem cc_28 (H : zh sc K 1) {c : Nat} (hT : ym_T s c = some (5, 0)) {a : Int} (ha : a = 0 ∨ a = 1) (kr : ym_Rt sc P K (some (ym_I (if s.1 c 0 = 3 ∨ s.1 c 0 = 4 ∨ s.1 c 0 = 12 ∨ s.1 c 0 = 22 ∨ a = zFc (s.1 c 0) then 1 else 0))) s) : ym_Go sc P K (28, 0, [some (ym_Q c), some (ym_I a)], []) s := by
  refine sg_28_0 (zy H) _ _ ⟨hT, fun h => ?_, fun h => ?_⟩
  · rw [if_pos (Or.inl h)] at kr
    exact kr
  · refine sg_26_0 (zy (zk H)) _ ⟨hT, ym_rt_cons (sg_28_12 (zy H) _ _ _ ?_)⟩
    by_cases h4 : s.1 c 0 = 4 ∨ s.1 c 0 = 12 ∨ s.1 c 0 = 22
    · rw [if_pos (by omega)] at kr
      have e : (if s.1 c 0 = 4 then (1 : Int) else if s.1 c 0 = 12 then 1 else if s.1 c 0 = 22 then 1 else 0) = 1 := by
        rcases h4 with z | z | z <;> rw [z] <;> decide
      rw [e]
      exact ⟨by decide, fun z => absurd z (by decide), fun _ => kr⟩
    · have e : (if s.1 c 0 = 4 then (1 : Int) else if s.1 c 0 = 12 then 1 else if s.1 c 0 = 22 then 1 else 0) = 0 := by
        rw [if_neg (by omega), if_neg (by omega), if_neg (by omega)]
      rw [e]
      have hb : zFc (s.1 c 0) = 0 ∨ zFc (s.1 c 0) = 1 := by
        unfold zFc
        repeat' split
        all_goals simp
      refine ⟨by decide, fun _ => ⟨hT, cc_27 (zm (zk H) (by omega)) hT (ym_rt_cons (sg_28_20 (zy H) _ _ _ _ ⟨⟨⟨by omega, by omega⟩, ⟨by omega, by omega⟩⟩, ?_⟩))⟩, fun z => absurd rfl z⟩
      by_cases h5 : a = zFc (s.1 c 0)
      · rw [if_pos (by omega)] at kr
        rw [if_pos h5]
        exact kr
      · rw [if_neg (by omega)] at kr
        rw [if_neg h5]
        exact kr
end
