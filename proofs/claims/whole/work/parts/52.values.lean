/-! The strict form is never longer than what it was read from: own work. -/
theorem zs_ln_len {r : Int → Int} {lim N a : Int} (hr : zs_oct r N) (hl : lim ≤ N) (ha : 0 ≤ a) {x b : Int} (h : zs_ln r lim 3 0 a 0 = some (x, b)) : b - a = zs_sc x := by
  unfold zs_ln at h
  split at h
  · rename_i h1
    obtain ⟨o1, o2⟩ := hr a ha (by omega)
    split at h
    · cases h
    · rename_i h2
      split at h
      · rename_i h3
        split at h
        · cases h
        · rename_i h4
          have e := Option.some.inj h
          have e1 : 0 * 128 + r a % 128 = x := congrArg (·.1) e
          have e2 : a + 1 = b := congrArg (·.2) e
          unfold zs_sc
          rw [if_neg (by omega), if_pos (by omega)]
          omega
      · rename_i h3
        have h5 : r a ≠ 128 := fun z => h2 ⟨rfl, z⟩
        unfold zs_ln at h
        split at h
        · rename_i h6
          obtain ⟨o3, o4⟩ := hr (a + 1) (by omega) (by omega)
          split at h
          · cases h
          · split at h
            · split at h
              · cases h
              · have e := Option.some.inj h
                have e1 : (0 * 128 + r a % 128) * 128 + r (a + 1) % 128 = x := congrArg (·.1) e
                have e2 : a + 1 + 1 = b := congrArg (·.2) e
                unfold zs_sc
                rw [if_neg (by omega), if_neg (by omega), if_pos (by omega)]
                omega
            · unfold zs_ln at h
              split at h
              · rename_i h7
                obtain ⟨o5, o6⟩ := hr (a + 1 + 1) (by omega) (by omega)
                split at h
                · cases h
                · split at h
                  · split at h
                    · cases h
                    · have e := Option.some.inj h
                      have e1 : ((0 * 128 + r a % 128) * 128 + r (a + 1) % 128) * 128 + r (a + 1 + 1) % 128 = x := congrArg (·.1) e
                      have e2 : a + 1 + 1 + 1 = b := congrArg (·.2) e
                      unfold zs_sc
                      rw [if_neg (by omega), if_neg (by omega), if_neg (by omega)]
                      omega
                  · cases h
              · cases h
        · cases h
  · cases h
theorem zs_id_len {r : Int → Int} {lim N a : Int} (hr : zs_oct r N) (hl : lim ≤ N) (ha : 0 ≤ a) {c g b : Int} (h : zs_id r lim a = some (c, g, b)) : b - a = 1 + zs_sc (g % 2097152) := by
  unfold zs_id at h
  split at h
  · rename_i h1
    obtain ⟨o1, o2⟩ := hr a ha (by omega)
    split at h
    · cases e : zs_ln r lim 3 0 (a + 1) 0 with
      | none => rw [e] at h; cases h
      | some x =>
        rw [e] at h
        have e2 := Option.some.inj h
        have h3 := zs_ln_ok hr hl 3 0 (a + 1) 0 x (by omega) (by omega) (by decide) (by omega) e
        have h4 := zs_ln_len hr hl (by omega) (x := x.1) (b := x.2) e
        have e4 : r a / 64 * 2097152 + x.1 = g := congrArg (·.2.1) e2
        have e5 : x.2 = b := congrArg (·.2.2) e2
        rw [show g % 2097152 = x.1 by omega]
        omega
    · rename_i h2
      have e2 := Option.some.inj h
      have e4 : r a / 64 * 2097152 + r a % 32 = g := congrArg (·.2.1) e2
      have e5 : a + 1 = b := congrArg (·.2.2) e2
      rw [show g % 2097152 = r a % 32 by omega]
      unfold zs_sc
      rw [if_pos (by omega)]
      omega
  · cases h
theorem zs_ll_len {r : Int → Int} {lim : Int} : ∀ (f : Nat) (a n : Int) (x : Int × Int), zs_ll r lim f a n = some x → x.2 = a + f ∧ (f = 0 → x.1 = n)
  | 0, a, n, x, h => by
    have e := Option.some.inj h
    subst e
    exact ⟨by dsimp only; omega, fun _ => rfl⟩
  | f + 1, a, n, x, h => by
    unfold zs_ll at h
    split at h
    · have := zs_ll_len f _ _ _ h
      exact ⟨by omega, fun z => by omega⟩
    · cases h
theorem zs_le_len {r : Int → Int} {lim N a c : Int} (hr : zs_oct r N) (hl : lim ≤ N) (ha : 0 ≤ a) {i e b : Int} (h : zs_le r lim a c = some (i, e, b)) : a + 1 ≤ b ∧ (i = 0 → 128 ≤ e - b → a + 2 ≤ b) := by
  unfold zs_le at h
  split at h
  · rename_i h1
    obtain ⟨o1, o2⟩ := hr a ha (by omega)
    split at h
    · cases h
    · split at h
      · split at h
        · cases h
        · have e2 := Option.some.inj h
          have e3 : 1 = i := congrArg (·.1) e2
          have e5 : a + 1 = b := congrArg (·.2.2) e2
          exact ⟨by omega, fun z => by omega⟩
      · rename_i h3
        cases e6 : zs_ll r lim (r a - 128).toNat (a + 1) (if r a < 128 then r a else 0) with
        | none => rw [e6] at h; cases h
        | some x =>
          rw [e6] at h
          have h4 := zs_ll_len _ _ _ _ e6
          change (if lim - x.2 < x.1 then none else some (0, x.2 + x.1, x.2)) = _ at h
          split at h
          · cases h
          · have e2 := Option.some.inj h
            have e4 : x.2 + x.1 = e := congrArg (·.2.1) e2
            have e5 : x.2 = b := congrArg (·.2.2) e2
            refine ⟨by omega, fun _ z => ?_⟩
            by_cases h5 : r a < 128
            · have h6 := h4.2 (by omega)
              rw [if_pos h5] at h6
              omega
            · omega
  · cases h
theorem zs_sl_len {r : Int → Int} {N : Int} (hr : zs_oct r N) {bits : Bool} {rec : Int → Int → Int → Int → Int → Option (List Int × Int × Int)} (hrec : zs_rok r N rec) : ∀ (f : Nat) (lim ind p u parts : Int) (x : List Int × Int × Int), lim ≤ N → 0 ≤ p → p ≤ lim → zs_sl r bits rec f lim ind p u parts = some x → (x.1.length : Int) + (if ind = 0 then 0 else 2) ≤ x.2.2 - p ∧ (bits = true → parts = 0 → (x.1.length : Int) + 2 + (if ind = 0 then 0 else 2) ≤ x.2.2 - p)
  | 0, lim, ind, p, u, parts, x, hl, hp, hpl, h => by cases h
  | f + 1, lim, ind, p, u, parts, x, hl, hp, hpl, h => by
    unfold zs_sl at h
    cases hon : zs_on r lim ind p with
    | false =>
      rw [hon, if_neg (by decide)] at h
      split at h
      · cases h
      · rename_i hb
        have e1 := Option.some.inj h
        subst e1
        refine ⟨?_, fun z1 z2 => absurd ⟨z1, z2⟩ hb⟩
        show ((0 : Nat) : Int) + _ ≤ zs_sk ind p - p
        unfold zs_sk
        split <;> omega
    | true =>
      rw [hon, if_pos rfl] at h
      cases e1 : zs_id r lim p with
      | none => rw [e1] at h; cases h
      | some y =>
        rw [e1] at h
        obtain ⟨c, g, b⟩ := y
        have o1 := zs_id_ok hr hl hp e1
        change (zs_le r lim b c).bind _ = _ at h
        cases e2 : zs_le r lim b c with
        | none => rw [e2] at h; cases h
        | some y2 =>
          rw [e2] at h
          obtain ⟨i2, e3, b2⟩ := y2
          have o2 := zs_le_ok hr hl (by omega) e2
          change (if g = zs_pt bits then (rec c i2 e3 b2 u).bind (fun z => (zs_sl r bits rec f lim ind z.2.2 z.2.1 (parts + 1)).map (fun t => (z.1 ++ t.1, t.2))) else none) = _ at h
          split at h
          · cases e4 : rec c i2 e3 b2 u with
            | none => rw [e4] at h; cases h
            | some z =>
              rw [e4] at h
              obtain ⟨⟨q1, q2, q3, q4, q5, q6⟩, q7⟩ := hrec _ _ _ _ _ _ (by omega) (by omega) (by omega) e4
              change (zs_sl r bits rec f lim ind z.2.2 z.2.1 (parts + 1)).map _ = _ at h
              cases e5 : zs_sl r bits rec f lim ind z.2.2 z.2.1 (parts + 1) with
              | none => rw [e5] at h; cases h
              | some t =>
                rw [e5] at h
                have e6 := Option.some.inj h
                subst e6
                have w := (zs_sl_len hr hrec f lim ind _ _ _ t hl (by omega) (by omega) e5).1
                have : ((z.1 ++ t.1).length : Int) = z.1.length + t.1.length := by rw [List.length_append]; omega
                refine ⟨?_, fun _ _ => ?_⟩
                · show ((z.1 ++ t.1).length : Int) + _ ≤ t.2.2 - p
                  omega
                · show ((z.1 ++ t.1).length : Int) + 2 + _ ≤ t.2.2 - p
                  omega
          · cases h
/-- what contents keep to -/
def zs_cok (i e p : Int) (x : List Int × Int) : Prop := (x.1.length : Int) + (if i = 0 then 0 else 2) ≤ x.2 - p ∧ p ≤ x.2 ∧ x.2 ≤ e ∧ (i = 0 → x.2 = e) ∧ zs_all x.1
theorem zs_mk_all {u : Int} (hu : 0 ≤ u) (hu7 : u ≤ 7) : ∀ {l : List Int}, zs_all l → zs_all (zs_mk u l)
  | [], h => h
  | [x], h => by
    obtain ⟨n, rfl⟩ := zn_nat hu
    have hx := h x (List.mem_cons_self ..)
    intro y hy
    have e : y = x / ((2 ^ n : Nat) : Int) * ((2 ^ n : Nat) : Int) := List.mem_singleton.mp hy
    have hb : (0 : Int) < ((2 ^ n : Nat) : Int) := Int.natCast_pos.mpr (Nat.two_pow_pos n)
    have hm := Int.ediv_mul_le x (b := ((2 ^ n : Nat) : Int)) (by omega)
    have h0 : 0 ≤ x / ((2 ^ n : Nat) : Int) * ((2 ^ n : Nat) : Int) := Int.mul_nonneg (Int.ediv_nonneg hx.1 (by omega)) (by omega)
    rw [e]
    exact ⟨h0, by omega⟩
  | x :: y :: t, h => by
    intro z hz
    rcases List.mem_cons.mp hz with rfl | hz
    · exact h z (List.mem_cons_self ..)
    · exact zs_mk_all hu hu7 (l := y :: t) (fun a ha => h a (List.mem_cons_of_mem _ ha)) z hz
theorem zs_st_len {r : Int → Int} {N : Int} (hr : zs_oct r N) (bits : Bool) (d : Nat) {c i e p : Int} {x : List Int × Int × Int} (hic : i ≠ 0 → c ≠ 0) (he : e ≤ N) (hp : 0 ≤ p) (hpe : p ≤ e) (h : zs_st r bits d c i e p 0 = some x) : (x.1.length : Int) + (if bits then 1 else 0) + (if i = 0 then 0 else 2) ≤ x.2.2 - p := by
  have pc : c = 0 → zs_pc r bits e p 0 = some x → (x.1.length : Int) + (if bits then 1 else 0) + (if i = 0 then 0 else 2) ≤ x.2.2 - p := by
    intro hc h
    have hi : i = 0 := by
      by_cases z : i = 0
      · exact z
      · exact absurd hc (hic z)
    rw [if_pos hi]
    unfold zs_pc at h
    cases bits with
    | false =>
      have e1 := Option.some.inj h
      subst e1
      rw [if_neg (by decide)]
      show ((zs_tk r p (e - p).toNat).length : Int) + 0 + 0 ≤ e - p
      rw [zs_tk_len]
      omega
    | true =>
      rw [if_pos rfl, if_pos rfl] at h
      split at h
      · split at h
        · cases h
        · split at h
          · cases h
          · have e1 := Option.some.inj h
            subst e1
            rw [if_pos rfl]
            show ((zs_tk r (p + 1) (e - (p + 1)).toNat).length : Int) + 1 + 0 ≤ e - p
            rw [zs_tk_len]
            omega
      · cases h
  cases d with
  | zero =>
    unfold zs_st at h
    split at h
    · rename_i hc
      exact pc hc h
    · cases h
  | succ d =>
    unfold zs_st at h
    split at h
    · rename_i hc
      exact pc hc h
    · have := zs_sl_len hr (zs_st_ok hr bits d) 201 e i p 0 0 x he hp hpe h
      cases bits with
      | false => rw [if_neg (by decide)]; omega
      | true =>
        have := this.2 rfl rfl
        rw [if_pos rfl]
        omega
theorem zs_co_ok {r : Int → Int} {N : Int} (hr : zs_oct r N) {k bd : Int} {lo hi : Int64} {c i e p : Int} {x : List Int × Int} (hi2 : i = 0 ∨ i = 1) (hic : i ≠ 0 → c ≠ 0) (he : e ≤ N) (hp : 0 ≤ p) (hpe : p ≤ e) (h : zs_co r k bd lo hi c i e p = some x) : zs_cok i e p x := by
  unfold zs_co at h
  split at h
  · unfold zs_bits at h
    cases e1 : zs_st r true 4 c i e p 0 with
    | none => rw [e1] at h; cases h
    | some y =>
      rw [e1] at h
      have e2 := Option.some.inj h
      subst e2
      obtain ⟨⟨q1, q2, q3, q4, q5, q6⟩, q7⟩ := zs_st_ok hr true 4 _ _ _ _ _ _ he hp hpe e1
      have w := zs_st_len hr true 4 hic he hp hpe e1
      rw [if_pos rfl] at w
      have u := q5 ⟨by omega, by omega⟩
      refine ⟨?_, q2, q3, q7, ?_⟩
      · show ((if y.1 = [] then [0] else y.2.1 :: zs_mk y.2.1 y.1 : List Int).length : Int) + _ ≤ y.2.2 - p
        split
        · rename_i hy
          rw [hy] at w
          simp at w ⊢
          omega
        · rw [List.length_cons, zs_mk_len]
          omega
      · show zs_all (if y.1 = [] then [0] else y.2.1 :: zs_mk y.2.1 y.1)
        split
        · intro z hz
          rw [List.mem_singleton.mp hz]
          exact ⟨by decide, by decide⟩
        · intro z hz
          rcases List.mem_cons.mp hz with rfl | hz
          · exact ⟨u.1, by omega⟩
          · exact zs_mk_all u.1 u.2 q4 z hz
  · split at h
    · unfold zs_os at h
      cases e1 : zs_st r false 4 c i e p 0 with
      | none => rw [e1] at h; cases h
      | some y =>
        rw [e1] at h
        obtain ⟨⟨q1, q2, q3, q4, q5, q6⟩, q7⟩ := zs_st_ok hr false 4 _ _ _ _ _ _ he hp hpe e1
        have w := zs_st_len hr false 4 hic he hp hpe e1
        rw [if_neg (by decide)] at w
        change (zs_cn k y.1).bind _ = _ at h
        cases e2 : zs_cn k y.1 with
        | none => rw [e2] at h; cases h
        | some n =>
          rw [e2] at h
          change (if zs_kp bd lo hi n then some (y.1, y.2.2) else none) = _ at h
          split at h
          · have e3 := Option.some.inj h
            subst e3
            exact ⟨by show (y.1.length : Int) + _ ≤ y.2.2 - p; omega, q2, q3, q7, q4⟩
          · cases h
    · unfold zs_ps at h
      split at h
      · rename_i hc
        have hi0 : i = 0 := by
          by_cases z : i = 0
          · exact z
          · exact absurd hc (hic z)
        cases e1 : zs_sm k bd lo hi (zs_tk r p (e - p).toNat) with
        | none => rw [e1] at h; cases h
        | some y =>
          rw [e1] at h
          have e3 := Option.some.inj h
          subst e3
          have ht := zs_tk_all hr (e - p).toNat p hp (by omega)
          have hl := zs_tk_len r (e - p).toNat p
          have key : (y.length : Int) ≤ e - p ∧ zs_all y := by
            unfold zs_sm at e1
            repeat' split at e1
            all_goals first | cases e1 | skip
            · refine ⟨by simp; omega, ?_⟩
              intro z hz
              rw [List.mem_singleton.mp hz]
              exact ⟨by decide, by decide⟩
            · refine ⟨by simp; omega, ?_⟩
              intro z hz
              rw [List.mem_singleton.mp hz]
              exact ⟨by decide, by decide⟩
            · exact ⟨by omega, ht⟩
            · exact ⟨by simp; omega, fun z hz => by cases hz⟩
            · exact ⟨by omega, ht⟩
          exact ⟨by rw [if_pos hi0]; show (y.length : Int) + 0 ≤ e - p; omega, hpe, Int.le_refl _, fun _ => rfl, key.2⟩
      · cases h
theorem zs_ins_len (b : Bool) (x : Int × List Int) : ∀ t, (zs_fl (zs_ins b x t)).length = x.2.length + (zs_fl t).length
  | [] => by
    show (x.2 ++ []).length = x.2.length + 0
    simp
  | y :: t => by
    unfold zs_ins
    split
    · rw [zs_fl, List.length_append]
    · rw [zs_fl, List.length_append, zs_ins_len b x t, zs_fl, List.length_append]
      omega
theorem zs_ins_mem (b : Bool) (x : Int × List Int) : ∀ t z, z ∈ zs_ins b x t → z = x ∨ z ∈ t
  | [], z, h => Or.inl (List.mem_singleton.mp h)
  | y :: t, z, h => by
    unfold zs_ins at h
    split at h
    · rcases List.mem_cons.mp h with h | h
      · exact Or.inl h
      · exact Or.inr h
    · rcases List.mem_cons.mp h with h | h
      · exact Or.inr (h ▸ List.mem_cons_self ..)
      · rcases zs_ins_mem b x t z h with h | h
        · exact Or.inl h
        · exact Or.inr (List.mem_cons_of_mem _ h)
theorem zs_is_fold (b : Bool) : ∀ (l a : List (Int × List Int)), (zs_fl (l.foldl (fun a x => zs_ins b x a) a)).length = (zs_fl a).length + (zs_fl l).length ∧ ∀ z, z ∈ l.foldl (fun a x => zs_ins b x a) a → z ∈ a ∨ z ∈ l
  | [], a => ⟨rfl, fun z h => Or.inl h⟩
  | x :: l, a => by
    have := zs_is_fold b l (zs_ins b x a)
    refine ⟨?_, fun z h => ?_⟩
    · rw [List.foldl_cons, this.1, zs_ins_len, zs_fl, List.length_append]
      omega
    · rcases this.2 z h with h | h
      · rcases zs_ins_mem b x a z h with h | h
        · exact Or.inr (h ▸ List.mem_cons_self ..)
        · exact Or.inl h
      · exact Or.inr (List.mem_cons_of_mem _ h)
theorem zs_is_len (b : Bool) (l : List (Int × List Int)) : (zs_fl (zs_is b l)).length = (zs_fl l).length := by
  have := (zs_is_fold b l []).1
  rw [show (zs_fl []).length = 0 from rfl, Nat.zero_add] at this
  exact this
theorem zs_is_mem (b : Bool) (l : List (Int × List Int)) (z : Int × List Int) (h : z ∈ zs_is b l) : z ∈ l := by
  rcases (zs_is_fold b l []).2 z h with h | h
  · cases h
  · exact h
theorem zs_fl_all : ∀ l : List (Int × List Int), (∀ z ∈ l, zs_kd z) → zs_all (zs_fl l)
  | [], h => fun x hx => by cases hx
  | y :: l, h => zs_all_app (h y (List.mem_cons_self ..)).2.2.1 (zs_fl_all l (fun z hz => h z (List.mem_cons_of_mem _ hz)))
/-- what values keep to -/
def zs_vok (lim p : Int) (x : (Int × List Int) × Int) : Prop := p + 2 ≤ x.2 ∧ x.2 ≤ lim ∧ (x.1.2.length : Int) ≤ x.2 - p ∧ zs_kd x.1
theorem zs_vs_ok {r : Int → Int} {rec : Int → Int → Option ((Int × List Int) × Int)} {N : Int} (hrec : ∀ lim p x, lim ≤ N → 0 ≤ p → p ≤ lim → rec lim p = some x → zs_vok lim p x) : ∀ (f : Nat) (lim ind p : Int) (x : List (Int × List Int) × Int), lim ≤ N → 0 ≤ p → p ≤ lim → zs_vs r rec f lim ind p = some x → ((zs_fl x.1).length : Int) + (if ind = 0 then 0 else 2) ≤ x.2 - p ∧ p ≤ x.2 ∧ x.2 ≤ lim ∧ (ind = 0 → x.2 = lim) ∧ ∀ z ∈ x.1, zs_kd z
  | 0, lim, ind, p, x, hl, hp, hpl, h => by cases h
  | f + 1, lim, ind, p, x, hl, hp, hpl, h => by
    unfold zs_vs at h
    cases hon : zs_on r lim ind p with
    | false =>
      rw [hon, if_neg (by decide)] at h
      have e1 := Option.some.inj h
      subst e1
      obtain ⟨a1, a2, a3⟩ := zs_on_end hon hpl
      refine ⟨?_, a1, a2, a3, fun z hz => by cases hz⟩
      show ((0 : Nat) : Int) + _ ≤ zs_sk ind p - p
      unfold zs_sk
      split <;> omega
    | true =>
      rw [hon, if_pos rfl] at h
      cases e1 : rec lim p with
      | none => rw [e1] at h; cases h
      | some z =>
        rw [e1] at h
        obtain ⟨v1, v2, v3, v4⟩ := hrec lim p z hl hp hpl e1
        change (zs_vs r rec f lim ind z.2).map _ = _ at h
        cases e2 : zs_vs r rec f lim ind z.2 with
        | none => rw [e2] at h; cases h
        | some y =>
          rw [e2] at h
          have e3 := Option.some.inj h
          subst e3
          obtain ⟨w1, w2, w3, w4, w5⟩ := zs_vs_ok hrec f lim ind z.2 y hl (by omega) v2 e2
          refine ⟨?_, by show p ≤ y.2; omega, w3, w4, fun a ha => ?_⟩
          · show ((zs_fl (z.1 :: y.1)).length : Int) + _ ≤ y.2 - p
            rw [zs_fl_len_cons]
            omega
          · rcases List.mem_cons.mp ha with rfl | ha
            · exact v4
            · exact w5 a ha
theorem zs_ms_ok {E : zEnv} {r : Int → Int} {rec : Int → Int → Int → Option ((Int × List Int) × Int)} {N t : Int} {set : Bool} (hrec : ∀ k lim p x, 0 ≤ k → k < E.1 22 t → lim ≤ N → 0 ≤ p → p ≤ lim → rec (E.1 23 (6 * t + k)) lim p = some x → zs_vok lim p x) : ∀ (f : Nat) (lim ind p fr : Int) (seen : Int → Bool) (x : List (Int × List Int) × Int), lim ≤ N → 0 ≤ p → p ≤ lim → 0 ≤ fr → zs_ms E r rec t set f lim ind p fr seen = some x → ((zs_fl x.1).length : Int) + (if ind = 0 then 0 else 2) ≤ x.2 - p ∧ p ≤ x.2 ∧ x.2 ≤ lim ∧ (ind = 0 → x.2 = lim) ∧ ∀ z ∈ x.1, zs_kd z
  | 0, lim, ind, p, fr, seen, x, hl, hp, hpl, hf, h => by cases h
  | f + 1, lim, ind, p, fr, seen, x, hl, hp, hpl, hf, h => by
    unfold zs_ms at h
    cases hon : zs_on r lim ind p with
    | false =>
      rw [hon, if_neg (by decide)] at h
      split at h
      · cases h
      · have e1 := Option.some.inj h
        subst e1
        obtain ⟨a1, a2, a3⟩ := zs_on_end hon hpl
        refine ⟨?_, a1, a2, a3, fun z hz => by cases hz⟩
        show ((0 : Nat) : Int) + _ ≤ zs_sk ind p - p
        unfold zs_sk
        split <;> omega
    | true =>
      rw [hon, if_pos rfl] at h
      cases e0 : zs_id r lim p with
      | none => rw [e0] at h; cases h
      | some a =>
        rw [e0] at h
        change (eIx E t a.2.1 fr).bind _ = _ at h
        cases e5 : eIx E t a.2.1 fr with
        | none => rw [e5] at h; cases h
        | some k =>
          rw [e5] at h
          obtain ⟨k1, k2, -⟩ := ef_ok _ _ _ e5
          change (if seen k then none else (rec (E.1 23 (6 * t + k)) lim p).bind _) = _ at h
          split at h
          · cases h
          · cases e1 : rec (E.1 23 (6 * t + k)) lim p with
            | none => rw [e1] at h; cases h
            | some z =>
              rw [e1] at h
              obtain ⟨v1, v2, v3, v4⟩ := hrec k lim p z (by omega) (by omega) hl hp hpl e1
              change (zs_ms E r rec t set f lim ind z.2 (if set then fr else k + 1) (fun j => decide (j = k) || seen j)).map _ = _ at h
              cases e2 : zs_ms E r rec t set f lim ind z.2 (if set then fr else k + 1) (fun j => decide (j = k) || seen j) with
              | none => rw [e2] at h; cases h
              | some y =>
                rw [e2] at h
                have e3 := Option.some.inj h
                subst e3
                obtain ⟨w1, w2, w3, w4, w5⟩ := zs_ms_ok hrec f lim ind z.2 _ _ y hl (by omega) v2 (by split <;> omega) e2
                refine ⟨?_, by show p ≤ y.2; omega, w3, w4, fun a ha => ?_⟩
                · show ((zs_fl (if zs_dr E t k z.1.2 then y.1 else z.1 :: y.1)).length : Int) + _ ≤ y.2 - p
                  split
                  · omega
                  · rw [zs_fl_len_cons]
                    omega
                · change a ∈ (if zs_dr E t k z.1.2 then y.1 else z.1 :: y.1) at ha
                  split at ha
                  · exact w5 a ha
                  · rcases List.mem_cons.mp ha with rfl | ha
                    · exact v4
                    · exact w5 a ha
