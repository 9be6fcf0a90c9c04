/-! Contents of the simple types, as functions: own work. -/
/-- the last octet without its unused bits -/
def zs_mk (u : Int) : List Int → List Int
  | [] => []
  | [x] => [x / ((2 ^ u.toNat : Nat) : Int) * ((2 ^ u.toNat : Nat) : Int)]
  | x :: y :: t => x :: zs_mk u (y :: t)
def zs_bits (r : Int → Int) (c i e p : Int) : Option (List Int × Int) := (zs_st r true 4 c i e p 0).map (fun x => (if x.1 = [] then [0] else x.2.1 :: zs_mk x.2.1 x.1, x.2.2))
def zs_fol (x : Int) : Int := if x < 128 then 0 else if x < 192 then -1 else if 248 ≤ x then -1 else if x < 224 then 1 else if x < 240 then 2 else 3
def zs_lst (f : Int) : Int := if f ≤ 0 then 0 else if f = 1 then 128 else if f = 2 then 2048 else 65536
def zs_cod (f x : Int) : Int := if f ≤ 0 then x else if f = 1 then x % 32 else if f = 2 then x % 16 else x % 8
def zs_ch (v least : Int) : Bool := decide (least ≤ v) && decide (v ≤ 1114111) && (decide (v < 55296) || decide (57343 < v))
def zs_ut : List Int → Int → Int → Int → Int → Option Int
  | [], miss, _, _, cnt => if miss = 0 then some cnt else none
  | x :: t, miss, code, least, cnt => if 0 < miss then (if x / 64 = 2 then (if miss = 1 then (if zs_ch (code * 64 + x % 64) least then zs_ut t 0 (code * 64 + x % 64) least cnt else none) else zs_ut t (miss - 1) (code * 64 + x % 64) least cnt) else none) else (if zs_fol x < 0 then none else (if zs_fol x = 0 then (if zs_ch x 0 then zs_ut t 0 x 0 (cnt + 1) else none) else zs_ut t (zs_fol x) (zs_cod (zs_fol x) x) (zs_lst (zs_fol x)) (cnt + 1)))
/-- how many octets or characters; none if it is no such string -/
def zs_cn (k : Int) (l : List Int) : Option Int := if k = 12 then zs_ut l 0 0 0 0 else if k = 22 then (if l.all (fun x => decide (x < 128)) then some (l.length : Int) else none) else some (l.length : Int)
def zs_kp (bd : Int) (lo hi : Int64) (n : Int) : Bool := decide (bd = 0) || (decide (lo.toInt ≤ n) && decide (n ≤ hi.toInt))
def zs_os (r : Int → Int) (k bd : Int) (lo hi : Int64) (c i e p : Int) : Option (List Int × Int) := (zs_st r false 4 c i e p 0).bind (fun x => (zs_cn k x.1).bind (fun n => if zs_kp bd lo hi n then some (x.1, x.2.2) else none))
def zs_v1 (x : Int) : Int := if x < 128 then x else x - 256
def zs_nv : List Int → Int → Int
  | [], v => v
  | x :: t, v => zs_nv t (v * 256 + x)
/-- the value of an INTEGER's octets -/
def zs_val : List Int → Int
  | [] => 0
  | x :: t => zs_nv t (zs_v1 x)
def zs_min : List Int → Bool
  | [] => false
  | [_] => true
  | x :: y :: _ => !((decide (x = 0) && decide (y < 128)) || (decide (x = 255) && decide (128 ≤ y)))
def zs_ig (bd : Int) (lo hi : Int64) (l : List Int) : Bool := zs_min l && (decide (bd = 0) || (decide (l.length ≤ 8) && zs_kp bd lo hi (zs_val l)))
def zs_od : Bool → List Int → Bool
  | b, [] => b
  | b, x :: t => !(b && decide (x = 128)) && zs_od (decide (x < 128)) t
def zs_oi (l : List Int) : Bool := !l.isEmpty && zs_od true l
/-- the contents of the other simple types -/
def zs_sm (k bd : Int) (lo hi : Int64) (l : List Int) : Option (List Int) := if k = 1 then (if l.length = 1 then some [if l = [0] then 0 else 255] else none) else if k = 2 then (if zs_ig bd lo hi l then some l else none) else if k = 5 then (if l = [] then some [] else none) else (if zs_oi l then some l else none)
def zs_ps (r : Int → Int) (k bd : Int) (lo hi : Int64) (c e p : Int) : Option (List Int × Int) := if c = 0 then (zs_sm k bd lo hi (zs_tk r p (e - p).toNat)).map (fun l => (l, e)) else none
/-- the contents of a simple type and where they end -/
def zs_co (r : Int → Int) (k bd : Int) (lo hi : Int64) (c i e p : Int) : Option (List Int × Int) := if k = 3 then zs_bits r c i e p else if k = 4 ∨ k = 12 ∨ k = 22 then zs_os r k bd lo hi c i e p else zs_ps r k bd lo hi c e p
theorem za_set : ∀ (l : List Int) (o : Int → Int) (q : Int) (k : Nat) (v : Int), k < l.length → zu (za o q l) (q + k) v = za o q (l.set k v)
  | [], o, q, k, v, h => by simp at h
  | x :: l, o, q, k, v, h => by
    funext j
    show (if j = q + k then v else za o q (x :: l) j) = _
    by_cases e : j = q + k
    · rw [if_pos e, e, za_get _ _ _ _ (by rw [List.length_set]; exact h), List.getElem_set_self]
    · rw [if_neg e]
      by_cases h1 : j < q
      · rw [za_lt _ _ _ _ h1, za_lt _ _ _ _ h1]
      · by_cases h2 : q + ((x :: l).length : Int) ≤ j
        · rw [za_ge _ _ _ _ h2, za_ge _ _ _ _ (by rw [List.length_set]; exact h2)]
        · obtain ⟨n, hn⟩ : ∃ n : Nat, j = q + n := ⟨(j - q).toNat, by omega⟩
          subst hn
          rw [za_get _ _ _ _ (by omega), za_get _ _ _ _ (by rw [List.length_set]; omega), List.getElem_set_ne (by omega)]
theorem zs_mk_set (u : Int) : ∀ (l : List Int) (h : l ≠ []), l.set (l.length - 1) (l.getLast h / ((2 ^ u.toNat : Nat) : Int) * ((2 ^ u.toNat : Nat) : Int)) = zs_mk u l
  | [], h => absurd rfl h
  | [x], h => rfl
  | x :: y :: t, h => by
    rw [zs_mk, ← zs_mk_set u (y :: t) (by simp), List.getLast_cons (by simp)]
    rfl
theorem zs_mk_len (u : Int) : ∀ l : List Int, (zs_mk u l).length = l.length
  | [] => rfl
  | [x] => rfl
  | x :: y :: t => by
    rw [zs_mk, List.length_cons, zs_mk_len u (y :: t)]
    rfl
def zr (o : Int → Int) : Int → List Int → Prop
  | _, [] => True
  | a, x :: t => o a = x ∧ zr o (a + 1) t
theorem zr_of (o o2 : Int → Int) : ∀ (l : List Int) (a : Int), zr o a l → (∀ j, a ≤ j → j < a + l.length → o2 j = o j) → zr o2 a l
  | [], a, h, h2 => trivial
  | x :: t, a, h, h2 => by
    rw [List.length_cons] at h2
    exact ⟨by rw [h2 a (by omega) (by omega)]; exact h.1, zr_of o o2 t (a + 1) h.2 (fun j h3 h4 => h2 j (by omega) (by omega))⟩
theorem zr_za : ∀ (l : List Int) (o : Int → Int) (q : Int), zr (za o q l) q l
  | [], o, q => trivial
  | x :: t, o, q => by
    refine ⟨?_, zr_za t _ _⟩
    rw [za, za_lt _ _ _ _ (by omega)]
    exact if_pos rfl
theorem zr_get {o : Int → Int} : ∀ {l : List Int} {a : Int}, zr o a l → ∀ (j : Nat) (h : j < l.length), o (a + j) = l[j]
  | x :: t, a, h, 0, hj => by
    rw [show a + ((0 : Nat) : Int) = a by omega]
    exact h.1
  | x :: t, a, h, j + 1, hj => by
    have := zr_get h.2 j (by simpa using hj)
    rw [show a + ((j + 1 : Nat) : Int) = a + 1 + (j : Int) by omega, this]
    rfl
theorem zr_tk (r : Int → Int) : ∀ (n : Nat) (p : Int), zr r p (zs_tk r p n)
  | 0, p => trivial
  | n + 1, p => ⟨rfl, zr_tk r n (p + 1)⟩
theorem zr_app {o : Int → Int} : ∀ {l l2 : List Int} {a : Int}, zr o a l → zr o (a + l.length) l2 → zr o a (l ++ l2)
  | [], l2, a, h, h2 => by
    rw [show a + (([] : List Int).length : Int) = a by simp] at h2
    exact h2
  | x :: t, l2, a, h, h2 => ⟨h.1, zr_app h.2 (by rw [List.length_cons] at h2; rw [show a + 1 + (t.length : Int) = a + ((t.length + 1 : Nat) : Int) by omega]; exact h2)⟩
