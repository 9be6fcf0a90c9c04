/-! How octets are read, as functions: own work. -/
def zs_ln (r : Int → Int) (lim : Int) : Nat → Int → Int → Int → Option (Int × Int)
  | 0, _, _, _ => none
  | f + 1, k, a, n => if a < lim then (if k = 0 ∧ r a = 128 then none else (if r a < 128 then (if n * 128 + r a % 128 < 31 then none else some (n * 128 + r a % 128, a + 1)) else zs_ln r lim f (k + 1) (a + 1) (n * 128 + r a % 128))) else none
/-- constructed, tag, where it ends -/
def zs_id (r : Int → Int) (lim a : Int) : Option (Int × Int × Int) := if a < lim then (if r a % 32 = 31 then (zs_ln r lim 3 0 (a + 1) 0).map (fun x => (r a / 32 % 2, r a / 64 * 2097152 + x.1, x.2)) else some (r a / 32 % 2, r a / 64 * 2097152 + r a % 32, a + 1)) else none
def zs_ll (r : Int → Int) (lim : Int) : Nat → Int → Int → Option (Int × Int)
  | 0, a, n => some (n, a)
  | f + 1, a, n => if a < lim then zs_ll r lim f (a + 1) (n * 256 + r a) else none
/-- indefinite, where the contents end, where they begin -/
def zs_le (r : Int → Int) (lim a c : Int) : Option (Int × Int × Int) := if a < lim then (if 132 < r a then none else (if r a = 128 then (if c = 0 then none else some (1, lim, a + 1)) else (zs_ll r lim (r a - 128).toNat (a + 1) (if r a < 128 then r a else 0)).bind (fun x => if lim - x.2 < x.1 then none else some (0, x.2 + x.1, x.2)))) else none
/-- whether contents go on -/
def zs_on (r : Int → Int) (lim ind a : Int) : Bool := if ind = 0 then decide (a < lim) else !(decide (a + 1 < lim) && decide (r a = 0) && decide (r (a + 1) = 0))
def zs_sk (ind a : Int) : Int := if ind = 0 then a else a + 2
-- what they give is in range
def zs_oct (r : Int → Int) (n : Int) : Prop := ∀ j, 0 ≤ j → j < n → 0 ≤ r j ∧ r j < 256
theorem zs_ln_ok {r : Int → Int} {lim N : Int} (hr : zs_oct r N) (hl : lim ≤ N) : ∀ (f : Nat) (k a n : Int) (x : Int × Int), 0 ≤ a → 0 ≤ n → n < 2 ^ (21 - 7 * f) → f ≤ 3 → zs_ln r lim f k a n = some x → 31 ≤ x.1 ∧ x.1 < 2097152 ∧ a < x.2 ∧ x.2 ≤ lim
  | 0, k, a, n, x, ha, hn, hn2, hf, h => by cases h
  | f + 1, k, a, n, x, ha, hn, hn2, hf, h => by
    unfold zs_ln at h
    split at h
    · rename_i h1
      obtain ⟨o1, o2⟩ := hr a ha (by omega)
      have hn3 : n * 128 + r a % 128 < 2 ^ (21 - 7 * f) := by
        rcases f with _ | _ | _ | f
        · simp at hn2 ⊢; omega
        · simp at hn2 ⊢; omega
        · simp at hn2 ⊢; omega
        · omega
      split at h
      · cases h
      · split at h
        · split at h
          · cases h
          · have e := Option.some.inj h
            subst e
            have : n * 128 + r a % 128 < 2097152 := Int.lt_of_lt_of_le hn3 (by rcases f with _ | _ | _ | f <;> first | decide | omega)
            exact ⟨by dsimp only; omega, this, by dsimp only; omega, by dsimp only; omega⟩
        · have := zs_ln_ok hr hl f _ _ _ _ (by omega) (by omega) hn3 (by omega) h
          exact ⟨this.1, this.2.1, by omega, this.2.2.2⟩
    · cases h
theorem zs_id_ok {r : Int → Int} {lim N a : Int} (hr : zs_oct r N) (hl : lim ≤ N) (ha : 0 ≤ a) {c g b : Int} (h : zs_id r lim a = some (c, g, b)) : (c = 0 ∨ c = 1) ∧ 0 ≤ g ∧ g < 8388608 ∧ a < b ∧ b ≤ lim := by
  unfold zs_id at h
  split at h
  · rename_i h1
    obtain ⟨o1, o2⟩ := hr a ha (by omega)
    split at h
    · cases e : zs_ln r lim 3 0 (a + 1) 0 with
      | none => rw [e] at h; cases h
      | some x =>
        rw [e] at h
        have e2 := Option.some.inj h
        have := zs_ln_ok hr hl 3 0 (a + 1) 0 x (by omega) (by omega) (by decide) (by omega) e
        have e3 : r a / 32 % 2 = c := congrArg (·.1) e2
        have e4 : r a / 64 * 2097152 + x.1 = g := congrArg (·.2.1) e2
        have e5 : x.2 = b := congrArg (·.2.2) e2
        omega
    · have e2 := Option.some.inj h
      have e3 : r a / 32 % 2 = c := congrArg (·.1) e2
      have e4 : r a / 64 * 2097152 + r a % 32 = g := congrArg (·.2.1) e2
      have e5 : a + 1 = b := congrArg (·.2.2) e2
      omega
  · cases h
theorem zs_ll_ok {r : Int → Int} {lim N : Int} (hr : zs_oct r N) (hl : lim ≤ N) : ∀ (f : Nat) (a n : Int) (x : Int × Int), 0 ≤ a → a ≤ lim → 0 ≤ n → zs_ll r lim f a n = some x → 0 ≤ x.1 ∧ a ≤ x.2 ∧ x.2 ≤ lim
  | 0, a, n, x, ha, hal, hn, h => by
    have e := Option.some.inj h
    subst e
    exact ⟨hn, Int.le_refl _, hal⟩
  | f + 1, a, n, x, ha, hal, hn, h => by
    unfold zs_ll at h
    split at h
    · obtain ⟨o1, o2⟩ := hr a ha (by omega)
      have := zs_ll_ok hr hl f _ _ _ (by omega) (by omega) (by omega) h
      omega
    · cases h
theorem zs_le_ok {r : Int → Int} {lim N a c : Int} (hr : zs_oct r N) (hl : lim ≤ N) (ha : 0 ≤ a) {i e b : Int} (h : zs_le r lim a c = some (i, e, b)) : (i = 0 ∨ i = 1) ∧ a < b ∧ b ≤ e ∧ e ≤ lim ∧ (i = 1 → e = lim ∧ c ≠ 0) := by
  unfold zs_le at h
  split at h
  · rename_i h1
    obtain ⟨o1, o2⟩ := hr a ha (by omega)
    split at h
    · cases h
    · split at h
      · split at h
        · cases h
        · rename_i hc
          have e2 := Option.some.inj h
          have e3 : 1 = i := congrArg (·.1) e2
          have e4 : lim = e := congrArg (·.2.1) e2
          have e5 : a + 1 = b := congrArg (·.2.2) e2
          exact ⟨by omega, by omega, by omega, by omega, fun _ => ⟨e4.symm, hc⟩⟩
      · cases e6 : zs_ll r lim (r a - 128).toNat (a + 1) (if r a < 128 then r a else 0) with
        | none => rw [e6] at h; cases h
        | some x =>
          rw [e6] at h
          have := zs_ll_ok hr hl _ (a + 1) _ x (by omega) (by omega) (by split <;> omega) e6
          change (if lim - x.2 < x.1 then none else some (0, x.2 + x.1, x.2)) = _ at h
          split at h
          · cases h
          · have e2 := Option.some.inj h
            have e3 : 0 = i := congrArg (·.1) e2
            have e4 : x.2 + x.1 = e := congrArg (·.2.1) e2
            have e5 : x.2 = b := congrArg (·.2.2) e2
            omega
  · cases h
