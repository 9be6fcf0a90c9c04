/-! Types, and what transcoding makes of octets, as functions: own work. -/
abbrev zEnv : Type := (Nat → Int → Int) × (Nat → Int → Int64)
/-- the reference's types -/
def zenv (s : ym_S) : zEnv := (fun c j => if 13 ≤ c ∧ c ≤ 25 then s.1 c j else 0, fun c j => if 13 ≤ c ∧ c ≤ 25 then s.2.1 c j else 0)
/-- a type begins with a tag -/
def eb (E : zEnv) (t g : Int) : Nat → Int → Bool
  | 0, _ => false
  | n + 1, j => decide (E.1 21 (96 * t + j) = g) || eb E t g n (j + 1)
def eBg (E : zEnv) (t g : Int) : Bool := eb E t g (E.1 20 t).toNat 0
def ef (E : zEnv) (t g : Int) : Nat → Int → Option Int
  | 0, _ => none
  | n + 1, k => if eBg E (E.1 23 (6 * t + k)) g then some k else ef E t g n (k + 1)
/-- the first member from a place on that begins with a tag -/
def eIx (E : zEnv) (t g k : Int) : Option Int := ef E t g (E.1 22 t - k).toNat k
def eCh (E : zEnv) (t : Int) : Bool := decide (E.1 13 t = 4) && decide (E.1 15 t = 20)
/-- the alternative that bears a tag -/
def eRs (E : zEnv) (g : Int) : Nat → Int → Option Int
  | 0, _ => none
  | n + 1, t => if eCh E t then (eIx E t g 0).bind (fun k => eRs E g n (E.1 23 (6 * t + k))) else if E.1 14 t = g then some t else none
/-- the type below IMPLICIT tags -/
def eCo (E : zEnv) : Nat → Int → Int
  | 0, t => t
  | n + 1, t => if E.1 13 t = 1 then eCo E n (E.1 16 t) else t
/-- a member must be there and isn't -/
def em (E : zEnv) (t : Int) (seen : Int → Bool) : Nat → Int → Bool
  | 0, _ => false
  | n + 1, k => (decide (E.1 24 (6 * t + k) = 0) && !seen k) || em E t seen n (k + 1)
def zs_fit (v : Int) (n : Nat) : Bool := decide (-((2 ^ (8 * n - 1) : Nat) : Int) ≤ v) && decide (v < ((2 ^ (8 * n - 1) : Nat) : Int))
def zs_dn (v : Int) : Nat → Nat
  | 0 => 0
  | 1 => 1
  | n + 2 => if zs_fit v (n + 1) then zs_dn v (n + 1) else n + 2
def zs_by (v : Int) : Nat → List Int
  | 0 => []
  | n + 1 => v / ((256 ^ n : Nat) : Int) % 256 :: zs_by v n
/-- the octets of a number -/
def zs_nb (k v : Int) : List Int := if k = 1 then [if v = 0 then 0 else 255] else zs_by v (zs_dn v 8)
/-- a default's encoding -/
def zs_de (E : zEnv) (v : Int) : Nat → Int → Int → List Int
  | 0, _, _ => []
  | n + 1, t, g => if E.1 13 t = 1 then zs_de E v n (E.1 16 t) g else if E.1 13 t = 2 then zs_enc g 1 (zs_de E v n (E.1 16 t) (E.1 14 (E.1 16 t))) else zs_enc g 0 (zs_nb (E.1 15 t) v)
def zs_df (E : zEnv) (t v : Int) : List Int := zs_de E v 17 t (E.1 14 t)
def zs_is (b : Bool) (l : List (Int × List Int)) : List (Int × List Int) := l.foldl (fun a x => zs_ins b x a) []
def zs_vs (r : Int → Int) (rec : Int → Int → Option ((Int × List Int) × Int)) : Nat → Int → Int → Int → Option (List (Int × List Int) × Int)
  | 0, _, _, _ => none
  | f + 1, lim, ind, p => if zs_on r lim ind p then (rec lim p).bind (fun z => (zs_vs r rec f lim ind z.2).map (fun y => (z.1 :: y.1, y.2))) else some ([], zs_sk ind p)
def zs_dr (E : zEnv) (t k : Int) (l : List Int) : Bool := decide (E.1 24 (6 * t + k) = 2) && decide (l = zs_df E (E.1 23 (6 * t + k)) (E.2 25 (6 * t + k)).toInt)
def zs_ms (E : zEnv) (r : Int → Int) (rec : Int → Int → Int → Option ((Int × List Int) × Int)) (t : Int) (set : Bool) : Nat → Int → Int → Int → Int → (Int → Bool) → Option (List (Int × List Int) × Int)
  | 0, _, _, _, _, _ => none
  | f + 1, lim, ind, p, fr, seen => if zs_on r lim ind p then (zs_id r lim p).bind (fun x => (eIx E t x.2.1 fr).bind (fun k => if seen k then none else (rec (E.1 23 (6 * t + k)) lim p).bind (fun z => (zs_ms E r rec t set f lim ind z.2 (if set then fr else k + 1) (fun j => decide (j = k) || seen j)).map (fun y => ((if zs_dr E t k z.1.2 then y.1 else z.1 :: y.1), y.2))))) else (if em E t seen (E.1 22 t).toNat 0 then none else some ([], zs_sk ind p))
/-- the contents of a value -/
def zs_bd (E : zEnv) (r : Int → Int) (rec : Int → Int → Int → Option ((Int × List Int) × Int)) (u c i e p : Int) : Option (List Int × Int) := if E.1 13 u = 0 then zs_co r (E.1 15 u) (E.1 17 u) (E.2 18 u) (E.2 19 u) c i e p else if c = 0 then none else if E.1 13 u = 2 then (rec (E.1 16 u) e p).bind (fun z => if zs_on r e i z.2 then none else some (z.1.2, zs_sk i z.2)) else if E.1 13 u = 3 then (zs_vs r (rec (E.1 16 u)) 201 e i p).map (fun z => (zs_fl (if E.1 15 u = 17 then zs_is false z.1 else z.1), z.2)) else (zs_ms E r rec u (decide (E.1 15 u = 17)) 201 e i p 0 (fun _ => false)).map (fun z => (zs_fl (if E.1 15 u = 17 then zs_is true z.1 else z.1), z.2))
/-- a value: its tag, its strict form, where it ends -/
def zs_v (E : zEnv) (r : Int → Int) : Nat → Int → Int → Int → Option ((Int × List Int) × Int)
  | 0, _, _, _ => none
  | n + 1, t, lim, p => (zs_id r lim p).bind (fun x => (zs_le r lim x.2.2 x.1).bind (fun y => (eRs E x.2.1 17 t).bind (fun v => (zs_bd E r (zs_v E r n) (eCo E 17 v) x.1 y.1 y.2.1 y.2.2).map (fun z => ((x.2.1, zs_enc x.2.1 (if E.1 13 (eCo E 17 v) = 0 then 0 else 1) z.1), z.2)))))
/-- types are as they must be -/
def zW0 (E : zEnv) (t : Int) : Prop := (E.1 15 t = 1 ∨ E.1 15 t = 2 ∨ E.1 15 t = 3 ∨ E.1 15 t = 4 ∨ E.1 15 t = 5 ∨ E.1 15 t = 6 ∨ E.1 15 t = 12 ∨ E.1 15 t = 22) ∧ E.1 14 t = E.1 15 t ∧ (E.1 17 t = 0 ∨ E.1 17 t = 1)
def zWi (E : zEnv) (t : Int) : Prop := 0 ≤ E.1 16 t ∧ E.1 16 t < t
def zWg (E : zEnv) (t : Int) : Prop := 2097152 ≤ E.1 14 t ∧ E.1 14 t ≤ 6293456
def eNum (E : zEnv) : Nat → Int → Bool
  | 0, _ => false
  | n + 1, t => if E.1 13 t = 1 ∨ E.1 13 t = 2 then eNum E n (E.1 16 t) else decide (E.1 13 t = 0) && (decide (E.1 15 t = 1) || decide (E.1 15 t = 2))
/-- the number below tags -/
def eNc (E : zEnv) : Nat → Int → Int
  | 0, t => t
  | n + 1, t => if E.1 13 t = 1 ∨ E.1 13 t = 2 then eNc E n (E.1 16 t) else t
def zW4 (E : zEnv) (t : Int) : Prop := (E.1 15 t = 16 ∨ E.1 15 t = 17 ∨ E.1 15 t = 20) ∧ E.1 14 t = E.1 15 t ∧ 0 ≤ E.1 22 t ∧ E.1 22 t ≤ 6 ∧ (∀ k, 0 ≤ k → k < E.1 22 t → 0 ≤ E.1 23 (6 * t + k) ∧ E.1 23 (6 * t + k) < t ∧ 0 ≤ E.1 24 (6 * t + k) ∧ E.1 24 (6 * t + k) ≤ 2 ∧ (E.1 24 (6 * t + k) = 2 → E.1 13 (eNc E 17 (E.1 23 (6 * t + k))) = 0 ∧ ((E.1 15 (eNc E 17 (E.1 23 (6 * t + k))) = 1 ∧ ((E.2 25 (6 * t + k)).toInt = 0 ∨ (E.2 25 (6 * t + k)).toInt = 1)) ∨ E.1 15 (eNc E 17 (E.1 23 (6 * t + k))) = 2))) ∧ (E.1 15 t = 17 → ∀ k j g, 0 ≤ k → k < j → j < E.1 22 t → eBg E (E.1 23 (6 * t + k)) g = true → eBg E (E.1 23 (6 * t + j)) g = false)
def zWf (E : zEnv) (t : Int) : Prop := 0 ≤ E.1 20 t ∧ E.1 20 t ≤ 96 ∧ (∀ j, 0 ≤ j → j < E.1 20 t → 0 ≤ E.1 21 (96 * t + j) ∧ E.1 21 (96 * t + j) < 8388608) ∧ (eCh E t = false → E.1 20 t = 1 ∧ E.1 21 (96 * t) = E.1 14 t)
def zWt (E : zEnv) (t : Int) : Prop := zWf E t ∧ ((E.1 13 t = 0 ∧ zW0 E t) ∨ (E.1 13 t = 1 ∧ zWi E t ∧ zWg E t ∧ eCh E (E.1 16 t) = false) ∨ (E.1 13 t = 2 ∧ zWi E t ∧ zWg E t) ∨ (E.1 13 t = 3 ∧ zWi E t ∧ (E.1 15 t = 16 ∨ E.1 15 t = 17) ∧ E.1 14 t = E.1 15 t) ∨ (E.1 13 t = 4 ∧ zW4 E t))
def zWF (E : zEnv) (n : Int) : Prop := n ≤ 16 ∧ ∀ t, 0 ≤ t → t < n → zWt E t
/-- the class' members of a type -/
def zMb (E : zEnv) (s : ym_S) (u : Int) (m : Nat) : Prop := ym_T s m = some (6, 0) ∧ 46 ≤ m ∧ s.1 m 0 = E.1 15 u ∧ s.1 m 4 = E.1 22 u ∧ ym_R s m 1 = some (m + 1) ∧ ym_T s (m + 1) = some (3, 6) ∧ ym_R s m 2 = some (m + 2) ∧ ym_T s (m + 2) = some (0, 6) ∧ ym_R s m 3 = some (m + 3) ∧ ym_T s (m + 3) = some (1, 6) ∧ ∀ k, 0 ≤ k → k < E.1 22 u → ym_R s (m + 1) k = ym_R s 2 (E.1 23 (6 * u + k)) ∧ s.1 (m + 2) k = E.1 24 (6 * u + k) ∧ s.2.1 (m + 3) k = E.2 25 (6 * u + k)
def zFo (E : zEnv) (u : Int) : Int := if E.1 13 u = 2 then 118 else if E.1 13 u = 3 then E.1 15 u + 100 else E.1 15 u
/-- the class' cell of a type -/
def zCt (E : zEnv) (s : ym_S) (t : Int) (c : Nat) : Prop := ym_T s c = some (5, 0) ∧ 46 ≤ c ∧ s.1 c 0 = zFo E (eCo E 17 t) ∧ s.1 c 1 = (if eCh E t then -1 else E.1 14 t) ∧ s.1 c 2 = (if E.1 13 (eCo E 17 t) = 0 then E.1 17 (eCo E 17 t) else 0) ∧ (E.1 13 (eCo E 17 t) = 0 → E.1 17 (eCo E 17 t) ≠ 0 → s.2.1 c 3 = E.2 18 (eCo E 17 t) ∧ s.2.1 c 4 = E.2 19 (eCo E 17 t)) ∧ ((E.1 13 (eCo E 17 t) = 2 ∨ E.1 13 (eCo E 17 t) = 3) → ym_R s c 5 = ym_R s 2 (E.1 16 (eCo E 17 t))) ∧ (E.1 13 (eCo E 17 t) = 4 → ∃ m, ym_R s c 6 = some m ∧ zMb E s (eCo E 17 t) m) ∧ ym_R s c 7 = some (c + 1) ∧ ym_T s (c + 1) = some (0, (E.1 20 t).toNat) ∧ ∀ j, 0 ≤ j → j < E.1 20 t → s.1 (c + 1) j = E.1 21 (96 * t + j)
def zCl (E : zEnv) (s : ym_S) (n : Int) : Prop := ∀ t, 0 ≤ t → t < n → ∃ c, ym_R s 2 t = some c ∧ zCt E s t c
theorem zWf_of {E : zEnv} {n t : Int} (h : zWF E n) (h0 : 0 ≤ t) (h1 : t < n) : zWf E t := (h.2 t h0 h1).1
/-- below IMPLICIT tags there is a type that isn't one -/
theorem eCo_ok {E : zEnv} {n : Int} (h : zWF E n) : ∀ (f : Nat) (t : Int), 0 ≤ t → t < n → t < f → 0 ≤ eCo E f t ∧ eCo E f t ≤ t ∧ E.1 13 (eCo E f t) ≠ 1 ∧ (eCh E t = eCh E (eCo E f t)) ∧ (eCh E t = true → eCo E f t = t)
  | 0, t, h0, h1, hf => by exfalso; omega
  | f + 1, t, h0, h1, hf => by
    unfold eCo
    by_cases h2 : E.1 13 t = 1
    · rw [if_pos h2]
      obtain ⟨-, w⟩ := h.2 t h0 h1
      rcases w with w | w | w | w | w
      · exact absurd w.1 (by omega)
      · obtain ⟨-, wi, wg, wc⟩ := w
        have := eCo_ok h f (E.1 16 t) wi.1 (by have := wi.2; omega) (by have := wi.2; omega)
        have hc : eCh E t = false := by unfold eCh; rw [h2]; rfl
        refine ⟨this.1, by have := wi.2; omega, this.2.2.1, ?_, fun z => by rw [hc] at z; cases z⟩
        rw [hc, ← this.2.2.2.1, wc]
      · exact absurd w.1 (by omega)
      · exact absurd w.1 (by omega)
      · exact absurd w.1 (by omega)
    · rw [if_neg h2]
      exact ⟨h0, Int.le_refl _, h2, rfl, fun _ => rfl⟩
theorem eCo_fuel (E : zEnv) {n : Int} (h : zWF E n) : ∀ (f f2 : Nat) (t : Int), 0 ≤ t → t < n → t < f → t < f2 → eCo E f t = eCo E f2 t
  | 0, f2, t, h0, h1, hf, hf2 => by exfalso; omega
  | f + 1, 0, t, h0, h1, hf, hf2 => by exfalso; omega
  | f + 1, f2 + 1, t, h0, h1, hf, hf2 => by
    unfold eCo
    by_cases h2 : E.1 13 t = 1
    · rw [if_pos h2, if_pos h2]
      obtain ⟨-, w⟩ := h.2 t h0 h1
      rcases w with w | w | w | w | w
      · exact absurd w.1 (by omega)
      · obtain ⟨-, wi, wg, wc⟩ := w
        have := wi.2
        exact eCo_fuel E h f f2 _ wi.1 (by omega) (by omega) (by omega)
      · exact absurd w.1 (by omega)
      · exact absurd w.1 (by omega)
      · exact absurd w.1 (by omega)
    · rw [if_neg h2, if_neg h2]
