/-! Contents, as functions: own work. -/
def zs_tk (r : Int → Int) : Int → Nat → List Int
  | _, 0 => []
  | p, n + 1 => r p :: zs_tk r (p + 1) n
/-- a row with a list written into it -/
def za : (Int → Int) → Int → List Int → (Int → Int)
  | o, _, [] => o
  | o, q, x :: l => za (zu o q x) (q + 1) l
def zs_all (l : List Int) : Prop := ∀ x ∈ l, 0 ≤ x ∧ x < 256
theorem zs_tk_len (r : Int → Int) : ∀ (n : Nat) (p : Int), (zs_tk r p n).length = n
  | 0, _ => rfl
  | n + 1, p => by rw [zs_tk, List.length_cons, zs_tk_len r n (p + 1)]
theorem zs_tk_all {r : Int → Int} {N : Int} (hr : zs_oct r N) : ∀ (n : Nat) (p : Int), 0 ≤ p → p + n ≤ N → zs_all (zs_tk r p n)
  | 0, _, _, _ => fun x hx => by cases hx
  | n + 1, p, h0, h1 => fun x hx => by
    rcases List.mem_cons.mp hx with rfl | hx
    · exact hr p h0 (by omega)
    · exact zs_tk_all hr n (p + 1) (by omega) (by omega) x hx
theorem zs_tk_snoc (r : Int → Int) : ∀ (n : Nat) (p : Int), zs_tk r p (n + 1) = zs_tk r p n ++ [r (p + n)]
  | 0, p => by simp [zs_tk]
  | n + 1, p => by
    rw [zs_tk, zs_tk_snoc r n (p + 1), zs_tk, List.cons_append, show p + 1 + (n : Int) = p + ((n + 1 : Nat) : Int) by omega]
theorem zs_all_app {l l2 : List Int} (h1 : zs_all l) (h2 : zs_all l2) : zs_all (l ++ l2) := fun x hx => (List.mem_append.mp hx).elim (h1 x) (h2 x)
theorem za_app : ∀ (l l2 : List Int) (o : Int → Int) (q : Int), za o q (l ++ l2) = za (za o q l) (q + l.length) l2
  | [], l2, o, q => by simp [za]
  | x :: l, l2, o, q => by
    rw [List.cons_append, za, za, za_app l l2 _ _, List.length_cons, show q + 1 + (l.length : Int) = q + ((l.length + 1 : Nat) : Int) by omega]
theorem za_lt : ∀ (l : List Int) (o : Int → Int) (q j : Int), j < q → za o q l j = o j
  | [], o, q, j, h => rfl
  | x :: l, o, q, j, h => by
    rw [za, za_lt l _ _ j (by omega)]
    show (if j = q then x else o j) = _
    rw [if_neg (by omega)]
theorem za_ge : ∀ (l : List Int) (o : Int → Int) (q j : Int), q + l.length ≤ j → za o q l j = o j
  | [], o, q, j, h => rfl
  | x :: l, o, q, j, h => by
    rw [List.length_cons] at h
    rw [za, za_ge l _ _ j (by omega)]
    show (if j = q then x else o j) = _
    rw [if_neg (by omega)]
theorem za_get : ∀ (l : List Int) (o : Int → Int) (q : Int) (j : Nat) (h : j < l.length), za o q l (q + j) = l[j]
  | x :: l, o, q, 0, h => by
    rw [za, za_lt l _ _ _ (by omega)]
    show (if q + ((0 : Nat) : Int) = q then x else _) = _
    rw [if_pos (by omega)]
    rfl
  | x :: l, o, q, j + 1, h => by
    rw [za, show q + ((j + 1 : Nat) : Int) = q + 1 + (j : Int) by omega, za_get l _ _ j (by simpa using h)]
    rfl
theorem za_one (o : Int → Int) (q x : Int) : za o q [x] = zu o q x := rfl
/-- a piece of a string: its octets, its unused bits, where it ends -/
def zs_pc (r : Int → Int) (bits : Bool) (e p u : Int) : Option (List Int × Int × Int) := if bits then (if u = 0 then (if p < e then (if 7 < r p then none else (if r p ≠ 0 ∧ p + 1 = e then none else some (zs_tk r (p + 1) (e - (p + 1)).toNat, r p, e))) else none) else none) else some (zs_tk r p (e - p).toNat, u, e)
def zs_pt (bits : Bool) : Int := if bits then 3 else 4
def zs_sl (r : Int → Int) (bits : Bool) (rec : Int → Int → Int → Int → Int → Option (List Int × Int × Int)) : Nat → Int → Int → Int → Int → Int → Option (List Int × Int × Int)
  | 0, _, _, _, _, _ => none
  | f + 1, lim, ind, p, u, parts => if zs_on r lim ind p then (zs_id r lim p).bind (fun x => (zs_le r lim x.2.2 x.1).bind (fun y => if x.2.1 = zs_pt bits then (rec x.1 y.1 y.2.1 y.2.2 u).bind (fun z => (zs_sl r bits rec f lim ind z.2.2 z.2.1 (parts + 1)).map (fun t => (z.1 ++ t.1, t.2))) else none)) else (if bits ∧ parts = 0 then none else some ([], u, zs_sk ind p))
/-- a string's octets: constructed, indefinite, the contents' end, where it is, the unused bits so far -/
def zs_st (r : Int → Int) (bits : Bool) : Nat → Int → Int → Int → Int → Int → Option (List Int × Int × Int)
  | 0, c, _, e, p, u => if c = 0 then zs_pc r bits e p u else none
  | d + 1, c, i, e, p, u => if c = 0 then zs_pc r bits e p u else zs_sl r bits (zs_st r bits d) 201 e i p u 0
def zs_good (N p e u : Int) (x : List Int × Int × Int) : Prop := (x.1.length : Int) ≤ x.2.2 - p ∧ p ≤ x.2.2 ∧ x.2.2 ≤ e ∧ zs_all x.1 ∧ (0 ≤ u ∧ u ≤ 7 → 0 ≤ x.2.1 ∧ x.2.1 ≤ 7) ∧ (u = 0 → x.1 = [] → x.2.1 = 0)
theorem zs_pc_ok {r : Int → Int} {N : Int} (hr : zs_oct r N) {bits : Bool} {e p u : Int} {x : List Int × Int × Int} (he : e ≤ N) (hp : 0 ≤ p) (hpe : p ≤ e) (h : zs_pc r bits e p u = some x) : zs_good N p e u x ∧ x.2.2 = e := by
  unfold zs_pc at h
  cases bits with
  | false =>
    have e1 := Option.some.inj h
    subst e1
    refine ⟨⟨?_, hpe, Int.le_refl _, zs_tk_all hr _ _ hp (by omega), fun z => z, fun z _ => z⟩, rfl⟩
    rw [zs_tk_len]
    show (((e - p).toNat : Nat) : Int) ≤ e - p
    omega
  | true =>
    rw [if_pos rfl] at h
    split at h
    · split at h
      · rename_i h1 h2
        obtain ⟨o1, o2⟩ := hr p hp (by omega)
        split at h
        · cases h
        · split at h
          · cases h
          · have e1 := Option.some.inj h
            subst e1
            refine ⟨⟨?_, hpe, Int.le_refl _, zs_tk_all hr _ _ (by omega) (by omega), fun _ => ⟨o1, by show r p ≤ 7; omega⟩, fun hu0 z => ?_⟩, rfl⟩
            · rw [zs_tk_len]
              show (((e - (p + 1)).toNat : Nat) : Int) ≤ e - p
              omega
            · have z2 := congrArg List.length z
              rw [zs_tk_len] at z2
              change (e - (p + 1)).toNat = 0 at z2
              show r p = 0
              rename_i hz
              by_cases z3 : r p = 0
              · exact z3
              · exact absurd ⟨z3, by omega⟩ hz
      · cases h
    · cases h
theorem zs_on_end {r : Int → Int} {lim ind p : Int} (h : zs_on r lim ind p = false) (hp : p ≤ lim) : p ≤ zs_sk ind p ∧ zs_sk ind p ≤ lim ∧ (ind = 0 → zs_sk ind p = lim) := by
  unfold zs_on at h
  unfold zs_sk
  split at h
  · rename_i h1
    rw [if_pos h1]
    have h2 : ¬ p < lim := of_decide_eq_false h
    exact ⟨Int.le_refl _, hp, fun _ => by omega⟩
  · rename_i h1
    rw [if_neg h1]
    have h2 : p + 1 < lim := by
      by_cases z : p + 1 < lim
      · exact z
      · simp [z] at h
    exact ⟨by omega, by omega, fun z => absurd z h1⟩
def zs_rok (r : Int → Int) (N : Int) (rec : Int → Int → Int → Int → Int → Option (List Int × Int × Int)) : Prop := ∀ c i e p u x, e ≤ N → 0 ≤ p → p ≤ e → rec c i e p u = some x → zs_good N p e u x ∧ (i = 0 → x.2.2 = e)
theorem zs_sl_ok {r : Int → Int} {N : Int} (hr : zs_oct r N) {bits : Bool} {rec : Int → Int → Int → Int → Int → Option (List Int × Int × Int)} (hrec : zs_rok r N rec) : ∀ (f : Nat) (lim ind p u parts : Int) (x : List Int × Int × Int), lim ≤ N → 0 ≤ p → p ≤ lim → zs_sl r bits rec f lim ind p u parts = some x → zs_good N p lim u x ∧ (ind = 0 → x.2.2 = lim)
  | 0, lim, ind, p, u, parts, x, hl, hp, hpl, h => by cases h
  | f + 1, lim, ind, p, u, parts, x, hl, hp, hpl, h => by
    unfold zs_sl at h
    cases hon : zs_on r lim ind p with
    | false =>
      rw [hon, if_neg (by decide)] at h
      split at h
      · cases h
      · have e1 := Option.some.inj h
        subst e1
        obtain ⟨a1, a2, a3⟩ := zs_on_end hon hpl
        exact ⟨⟨by show ((0 : Nat) : Int) ≤ zs_sk ind p - p; omega, a1, a2, (fun x hx => by cases hx), fun z => z, fun z _ => z⟩, a3⟩
    | true =>
      rw [hon, if_pos rfl] at h
      cases e1 : zs_id r lim p with
      | none => rw [e1] at h; cases h
      | some y =>
        rw [e1] at h
        obtain ⟨c, g, b⟩ := y
        have o1 := zs_id_ok hr hl hp e1
        change (zs_le r lim b c).bind _ = _ at h
        cases e2 : zs_le r lim b c with
        | none => rw [e2] at h; cases h
        | some y2 =>
          rw [e2] at h
          obtain ⟨i2, e3, b2⟩ := y2
          have o2 := zs_le_ok hr hl (by omega) e2
          change (if g = zs_pt bits then (rec c i2 e3 b2 u).bind (fun z => (zs_sl r bits rec f lim ind z.2.2 z.2.1 (parts + 1)).map (fun t => (z.1 ++ t.1, t.2))) else none) = _ at h
          split at h
          · cases e4 : rec c i2 e3 b2 u with
            | none => rw [e4] at h; cases h
            | some z =>
              rw [e4] at h
              obtain ⟨⟨q1, q2, q3, q4, q5, q6⟩, q7⟩ := hrec _ _ _ _ _ _ (by omega) (by omega) (by omega) e4
              change (zs_sl r bits rec f lim ind z.2.2 z.2.1 (parts + 1)).map _ = _ at h
              cases e5 : zs_sl r bits rec f lim ind z.2.2 z.2.1 (parts + 1) with
              | none => rw [e5] at h; cases h
              | some t =>
                rw [e5] at h
                have e6 := Option.some.inj h
                subst e6
                obtain ⟨⟨w1, w2, w3, w4, w5, w6⟩, w7⟩ := zs_sl_ok hr hrec f lim ind _ _ _ t hl (by omega) (by omega) e5
                refine ⟨⟨?_, by show p ≤ t.2.2; omega, w3, zs_all_app q4 w4, fun z => w5 (q5 z), fun z z2 => w6 (q6 z (List.append_eq_nil_iff.mp z2).1) (List.append_eq_nil_iff.mp z2).2⟩, w7⟩
                show ((z.1 ++ t.1).length : Int) ≤ t.2.2 - p
                rw [List.length_append]
                omega
          · cases h
theorem zs_st_ok {r : Int → Int} {N : Int} (hr : zs_oct r N) (bits : Bool) : ∀ d : Nat, zs_rok r N (zs_st r bits d)
  | 0 => by
    intro c i e p u x he hp hpe h
    unfold zs_st at h
    split at h
    · obtain ⟨a, b⟩ := zs_pc_ok hr he hp hpe h
      exact ⟨a, fun _ => b⟩
    · cases h
  | d + 1 => by
    intro c i e p u x he hp hpe h
    unfold zs_st at h
    split at h
    · obtain ⟨a, b⟩ := zs_pc_ok hr he hp hpe h
      exact ⟨a, fun _ => b⟩
    · exact zs_sl_ok hr (zs_st_ok hr bits d) 201 e i p u 0 x he hp hpe h
/-- octets' pieces don't look at the unused bits -/
theorem zs_sl_f {r : Int → Int} {rec : Int → Int → Int → Int → Int → Option (List Int × Int × Int)} (hrec : ∀ c i e p u, rec c i e p u = (rec c i e p 0).map (fun x => (x.1, u, x.2.2))) : ∀ (f : Nat) (lim ind p u parts : Int), zs_sl r false rec f lim ind p u parts = (zs_sl r false rec f lim ind p 0 parts).map (fun x => (x.1, u, x.2.2))
  | 0, lim, ind, p, u, parts => rfl
  | f + 1, lim, ind, p, u, parts => by
    unfold zs_sl
    cases zs_on r lim ind p with
    | false => simp
    | true =>
      rw [if_pos rfl, if_pos rfl]
      cases zs_id r lim p with
      | none => rfl
      | some x =>
        show (zs_le r lim x.2.2 x.1).bind _ = ((zs_le r lim x.2.2 x.1).bind _).map _
        cases zs_le r lim x.2.2 x.1 with
        | none => rfl
        | some y =>
          show (if x.2.1 = zs_pt false then _ else none) = (if x.2.1 = zs_pt false then _ else none : Option (List Int × Int × Int)).map _
          by_cases hg : x.2.1 = zs_pt false
          · rw [if_pos hg, if_pos hg, hrec]
            cases rec x.1 y.1 y.2.1 y.2.2 0 with
            | none => rfl
            | some z =>
              show (zs_sl r false rec f lim ind z.2.2 u (parts + 1)).map _ = ((zs_sl r false rec f lim ind z.2.2 z.2.1 (parts + 1)).map _).map _
              rw [zs_sl_f hrec f lim ind z.2.2 u, zs_sl_f hrec f lim ind z.2.2 z.2.1]
              cases zs_sl r false rec f lim ind z.2.2 0 (parts + 1) <;> rfl
          · rw [if_neg hg, if_neg hg]
            rfl
theorem zs_st_f {r : Int → Int} : ∀ (d : Nat) (c i e p u : Int), zs_st r false d c i e p u = (zs_st r false d c i e p 0).map (fun x => (x.1, u, x.2.2))
  | 0, c, i, e, p, u => by
    unfold zs_st
    by_cases h : c = 0
    · rw [if_pos h, if_pos h]
      rfl
    · rw [if_neg h, if_neg h]
      rfl
  | d + 1, c, i, e, p, u => by
    unfold zs_st
    by_cases h : c = 0
    · rw [if_pos h, if_pos h]
      rfl
    · rw [if_neg h, if_neg h]
      exact zs_sl_f (zs_st_f d) 201 e i p u 0
