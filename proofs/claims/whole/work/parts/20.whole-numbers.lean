/-! A machine over whole numbers: the small machine's steps as conditions on them: own work. An int stands for its residue, a reference bears a mark: true for the cells that the law's start makes (their kinds and their lasting references stand in a table), false for those that are made later. -/
abbrev ym_V : Type := (Int ⊕ Int64) ⊕ Option (Bool × Nat)
abbrev ym_L : Type := List (Option ym_V)
abbrev ym_F : Type := Nat × Nat × ym_L × List ym_V
/-- ints, longs and references by cell and place; the cells' kinds and lengths; how many cells; how much room is used -/
abbrev ym_S : Type := (Nat → Int → Int) × (Nat → Int → Int64) × (Nat → Int → Option Nat) × (Nat → Option (Nat × Nat)) × Nat × Nat
abbrev ym_I (a : Int) : ym_V := .inl (.inl a)
abbrev ym_J (a : Int64) : ym_V := .inl (.inr a)
abbrev ym_P (c : Nat) : ym_V := .inr (some (true, c))
abbrev ym_Q (c : Nat) : ym_V := .inr (some (false, c))
abbrev ym_N : ym_V := .inr none
def ym_v : ym_V → Value
  | .inl (.inl a) => .int (Int32.ofInt a)
  | .inl (.inr x) => .long x
  | .inr none => .null
  | .inr (some (_, c)) => .ref c
abbrev ym_ml (L : ym_L) : xm_L := L.map (Option.map ym_v)
def ym_f (f : ym_F) : xm_F := (f.1, f.2.1, ym_ml f.2.2.1, f.2.2.2.map ym_v)
abbrev ym_in (a : Int) : Prop := -2147483648 ≤ a ∧ a < 2147483648
abbrev ym_T (s : ym_S) (c : Nat) : Option (Nat × Nat) := s.2.2.2.1 c
abbrev ym_n (s : ym_S) : Nat := s.2.2.2.2.1
abbrev ym_z (s : ym_S) : Nat := s.2.2.2.2.2
abbrev ym_R (s : ym_S) : Nat → Int → Option Nat := s.2.2.1
def ym_fsl : List (Option (Nat × Nat)) := [none, some (4, 0), some (3, 16), some (7, 0), some (0, 200), some (7, 0), some (0, 200), some (8, 0), some (7, 0), some (0, 200), some (7, 0), some (0, 200), some (9, 0), some (0, 16), some (0, 16), some (0, 16), some (0, 16), some (2, 16), some (1, 16), some (1, 16), some (0, 17), some (0, 1632), some (0, 17), some (0, 102), some (0, 102), some (1, 102), some (0, 200), some (0, 300), some (0, 200), some (0, 20), some (0, 20), some (0, 20), some (0, 20), some (0, 20), some (0, 20), some (0, 20), some (0, 20), some (0, 16), some (0, 130), some (0, 130), some (0, 130), some (0, 9000), some (0, 5), some (0, 5), some (0, 5), some (1, 1)]
def ym_fxl : List (List (Option Nat)) := [[], [some 2, none, none, some 3, some 5, some 7], [], [some 4, none], [], [some 6, none], [], [some 8, some 10, none, none, none, none, none, none, none, none], [some 9, none], [], [some 11, none], [], [none, none, some 13, some 14, some 15, some 16, some 17, some 18, some 19, some 20, some 21, some 22, some 23, some 24, some 25, none, none, some 26, none, some 27, none, none, none, none, none, none, none, some 28, none, some 29, some 30, some 31, some 32, some 33, some 34, some 35, some 36, some 37, none, some 38, some 39, some 40, none, some 41, some 42, some 43, some 44], [], [], [], [], [], [], [], [], [], [], [], [], [], [], [], [], [], [], [], [], [], [], [], [], [], [], [], [], [], [], [], [], []]
def ym_fs (c : Nat) : Option (Nat × Nat) := ym_fsl.getD c none
def ym_fx (c j : Nat) : Option Nat := (ym_fxl.getD c []).getD j none
def ym_fb : Nat := 46
def ym_fk (ci j : Nat) : Nat := match xm_fty ci j with
  | .int => 0
  | .boolean => 1
  | .long => 2
  | .object _ => 3
  | .array _ => 3
  | _ => 4
def ym_kil : List (List (Nat × Int)) := [[], [], [], [(25, 2097151)], [(178, 65536), (179, 1114111), (180, 55296), (181, 57343)], [(126, 2097152), (226, 65536), (227, 1114111), (228, 55296), (229, 57343)], []]
def ym_ki (k idx : Nat) : Option Int := xm_look (ym_kil.getD (xm_kc k) []) idx
def ym_fv (s : ym_S) (ci c j : Nat) : Value := match ym_fk ci j with
  | 2 => .long (s.2.1 c j)
  | 3 => va_rf (s.2.2.1 c j)
  | _ => .int (Int32.ofInt (s.1 c j))
/-- what a cell of a kind holds -/
def ym_c (s : ym_S) (c n : Nat) (o : Option xm_E) : Nat → Prop
  | 0 => n ≤ 67108864 ∧ ∃ f : Nat → Int32, o = some (.inl (0, n, .inl f)) ∧ ∀ j : Nat, j < n → f j = Int32.ofInt (s.1 c j)
  | 1 => n ≤ 67108864 ∧ ∃ f : Nat → Int64, o = some (.inl (1, n, .inr (.inl f))) ∧ ∀ j : Nat, j < n → f j = s.2.1 c j
  | 2 => n ≤ 67108864 ∧ ∃ f : Nat → Int32, o = some (.inl (2, n, .inl f)) ∧ ∀ j : Nat, j < n → f j = Int32.ofInt (s.1 c j)
  | 3 => n ≤ 67108864 ∧ ∃ f : Nat → Option Nat, o = some (.inl (3, n, .inr (.inr f))) ∧ ∀ j : Nat, j < n → f j = s.2.2.1 c j
  | ci + 4 => ∃ fs : List Value, o = some (.inr (ci, fs)) ∧ fs.length = (xm_def ci).length ∧ ∀ (j : Nat) (v : Value), fs[j]? = some v → v = ym_fv s ci c j
def ym_Fix (s : ym_S) : Prop := (∀ (c : Nat) (t : Nat × Nat), ym_fs c = some t → ym_T s c = some t) ∧ (∀ c j r : Nat, ym_fx c j = some r → ym_R s c j = some r) ∧ ym_T s 0 = none
/-- the state's numbers are the heap's -/
def ym_H (s : ym_S) (h : xm_H) : Prop := (h.1.length = ym_n s ∧ h.2 = ym_z s) ∧ (∀ c j, ym_in (s.1 c j)) ∧ (∀ c, ym_n s ≤ c → ∀ j, s.1 c j = 0 ∧ s.2.1 c j = 0 ∧ s.2.2.1 c j = none) ∧ ym_Fix s ∧ (∀ c t n, ym_T s c = some (t, n) → ym_c s c n (xm_cell h c) t)
def ym_Go (sc : xm_S) (P : xm_O → xm_H → Prop) (K : List ym_F) (f : ym_F) (s : ym_S) : Prop := ∀ h, ym_H s h → xm_Go sc P (K.map ym_f) (ym_f f) h
def ym_Rt (sc : xm_S) (P : xm_O → xm_H → Prop) (K : List ym_F) (v : Option ym_V) (s : ym_S) : Prop := ∀ h, ym_H s h → xm_U sc P (K.map ym_f) (.inl (v.map ym_v)) h
def ym_Ex (sc : xm_S) (P : xm_O → xm_H → Prop) (K : List ym_F) (x : Nat) (s : ym_S) : Prop := ∀ h, ym_H s h → xm_U sc P (K.map ym_f) (.inr x) h
-- the state's changes
def ym_u {α : Type} (I : Nat → Int → α) (c : Nat) (j : Int) (v : α) : Nat → Int → α := fun c' j' => bif Nat.beq c' c then (if j' = j then v else I c' j') else I c' j'
def ym_wI (s : ym_S) (c : Nat) (j v : Int) : ym_S := (ym_u s.1 c j v, s.2)
def ym_wJ (s : ym_S) (c : Nat) (j : Int) (v : Int64) : ym_S := (s.1, ym_u s.2.1 c j v, s.2.2)
def ym_wR (s : ym_S) (c : Nat) (j : Int) (v : Option Nat) : ym_S := (s.1, s.2.1, ym_u s.2.2.1 c j v, s.2.2.2)
def ym_mk (s : ym_S) (t n z : Nat) : ym_S := (s.1, s.2.1, s.2.2.1, (fun c => bif Nat.beq c (ym_n s) then some (t, n) else ym_T s c), ym_n s + 1, ym_z s + z)
def ym_ex (s : ym_S) : ym_S := (s.1, s.2.1, s.2.2.1, s.2.2.2.1, ym_n s + 1, ym_z s + 6)
def ym_cpy (s : ym_S) (a d : Nat) (sp dp n : Int) : ym_S := ((fun c j => bif Nat.beq c d then (if dp ≤ j ∧ j < dp + n then s.1 a (sp + (j - dp)) else s.1 c j) else s.1 c j), s.2)
-- frames
def ym_ld (L : ym_L) (i : Nat) : Option ym_V := (L[i]?).getD none
def ym_clr (L : ym_L) : Nat → ym_L
  | 0 => L
  | j + 1 => match ym_ld L j with
    | some (.inl (.inr _)) => L.set j none
    | _ => L
def ym_ct (v : ym_V) : Nat := match v with
  | .inl (.inr _) => 2
  | _ => 1
def ym_wt : List ym_V → Nat
  | [] => 0
  | v :: r => ym_ct v + ym_wt r
def ym_sl : List ym_V → ym_L
  | [] => []
  | v :: r => bif Nat.beq (ym_ct v) 2 then some v :: none :: ym_sl r else some v :: ym_sl r
def ym_ent (n : Nat) (vs : List ym_V) : ym_L := ym_sl vs ++ List.replicate (n - (ym_sl vs).length) none
-- numbers
def ym_and (x y : Int) : Int := (Int32.ofInt x &&& Int32.ofInt y).toInt
def ym_or (x y : Int) : Int := (Int32.ofInt x ||| Int32.ofInt y).toInt
def ym_shl (x y : Int) : Int := (Int32.ofInt x <<< (Int32.ofInt y &&& 31)).toInt
def ym_shr (x y : Int) : Int := (Int32.ofInt x >>> (Int32.ofInt y &&& 31)).toInt
def ym_div (x y : Int) : Int := (Int32.ofInt x / Int32.ofInt y).toInt
def ym_rem (x y : Int) : Int := (Int32.ofInt x - Int32.ofInt x / Int32.ofInt y * Int32.ofInt y).toInt
def ym_cmp (x y : Int64) : Int := if x > y then 1 else if x = y then 0 else -1
def ym_l2i (x : Int64) : Int := x.toInt32.toInt
def ym_i2l (x : Int) : Int64 := (Int32.ofInt x).toInt64
def ym_lshl (x : Int64) (y : Int) : Int64 := x <<< ((Int32.ofInt y).toInt64 &&& 63)
def ym_lshr (x : Int64) (y : Int) : Int64 := x >>> ((Int32.ofInt y).toInt64 &&& 63)
def ym_lus (x : Int64) (y : Int) : Int64 := (x.toUInt64 >>> ((Int32.ofInt y).toInt64.toUInt64 &&& Int64.toUInt64 63)).toInt64
-- a step
def ym_ck (b : Bool) (F : Prop) : Prop := match b with
  | true => F
  | false => False
def ym_isb (c t : Nat) : Bool := match ym_fs c with
  | some (t', _) => Nat.beq t' t
  | none => false
def ym_ob (s : ym_S) (b : Bool) (c t : Nat) (F : Prop) : Prop := match b with
  | true => ym_ck (ym_isb c t) F
  | false => ym_T s c = some (t, 0) ∧ F
def ym_ar (s : ym_S) (b : Bool) (c t : Nat) (F : Nat → Prop) : Prop := match b with
  | true => (match ym_fs c with
    | some (t', n) => ym_ck (Nat.beq t' t) (F n)
    | none => False)
  | false => ∃ n : Nat, ym_T s c = some (t, n) ∧ F n
def ym_rq (s : ym_S) (c : Nat) (j : Int) (G : ym_V → Prop) : Prop := (ym_R s c j = none → G ym_N) ∧ (∀ q : Nat, ym_R s c j = some q → G (ym_Q q))
def ym_rd (s : ym_S) (b : Bool) (c j : Nat) (G : ym_V → Prop) : Prop := match b with
  | true => (match ym_fx c j with
    | some r => G (ym_P r)
    | none => ym_rq s c j G)
  | false => ym_rq s c j G
def ym_wo (b : Bool) (c j : Nat) (F : Prop) : Prop := match b with
  | true => ym_ck (ym_fx c j).isNone F
  | false => ym_fb ≤ c ∧ F
def ym_woa (b : Bool) (c : Nat) (F : Prop) : Prop := match b with
  | true => ym_ck (ym_fxl.getD c []).isEmpty F
  | false => ym_fb ≤ c ∧ F
def ym_br (c : ClassFile.Cond) (x y : Int) (T N : Prop) : Prop := ym_in x ∧ ym_in y ∧ (match c with
  | .eq => (x = y → T) ∧ (¬ x = y → N)
  | .ne => (x = y → N) ∧ (¬ x = y → T)
  | .lt => (x < y → T) ∧ (y ≤ x → N)
  | .ge => (x < y → N) ∧ (y ≤ x → T)
  | .gt => (y < x → T) ∧ (x ≤ y → N)
  | .le => (y < x → N) ∧ (x ≤ y → T))
def ym_jk (pc : Nat) (off : Int) : Bool := decide (0 ≤ (pc : Int) + off)
def ym_tb (G : Int → Prop) : List Int → Int → Int → Prop
  | [], _, _ => True
  | off :: os, z, x => (x = z → G off) ∧ ym_tb G os (z + 1) x
def ym_lb (G : Int → Prop) (d : Int) : List (Int × Int) → Int → Prop
  | [], _ => G d
  | (z, off) :: r, x => (x = z → G off) ∧ (¬ x = z → ym_lb G d r x)
abbrev ym_G : Type := Option Nat → ym_L → List ym_V → ym_S → Prop
section
variable (L : ym_L) (st : List ym_V) (s : ym_S) (go : ym_G)
def ym_ilo (i : Nat) : Prop := match ym_ld L i with
  | some (.inl (.inl x)) => go none L (ym_I x :: st) s
  | _ => False
def ym_llo (i : Nat) : Prop := match ym_ld L i with
  | some (.inl (.inr x)) => go none L (ym_J x :: st) s
  | _ => False
def ym_alo (i : Nat) : Prop := match ym_ld L i with
  | some (.inr x) => go none L (.inr x :: st) s
  | _ => False
def ym_ist (i : Nat) : Prop := match st with
  | .inl (.inl x) :: r => ym_ck (Nat.blt i L.length) (go none ((ym_clr L i).set i (some (ym_I x))) r s)
  | _ => False
def ym_lst (i : Nat) : Prop := match st with
  | .inl (.inr x) :: r => ym_ck (Nat.blt (i + 1) L.length) (go none (((ym_clr L i).set i (some (ym_J x))).set (i + 1) none) r s)
  | _ => False
def ym_ast (i : Nat) : Prop := match st with
  | .inr x :: r => ym_ck (Nat.blt i L.length) (go none ((ym_clr L i).set i (some (.inr x))) r s)
  | _ => False
def ym_inc (i : Nat) (z : Int) : Prop := match ym_ld L i with
  | some (.inl (.inl x)) => ym_ck (Nat.blt i L.length) (go none ((ym_clr L i).set i (some (ym_I (x + z)))) st s)
  | _ => False
def ym_b2 (o : Int → Int → Int) : Prop := match st with
  | .inl (.inl y) :: .inl (.inl x) :: r => go none L (ym_I (o x y) :: r) s
  | _ => False
def ym_d2 (o : Int → Int → Int) : Prop := match st with
  | .inl (.inl y) :: .inl (.inl x) :: r => ym_ck (decide (0 < y) && decide (y < 2147483648)) (go none L (ym_I (o x y) :: r) s)
  | _ => False
def ym_l2 (o : Int64 → Int64 → Int64) : Prop := match st with
  | .inl (.inr y) :: .inl (.inr x) :: r => go none L (ym_J (o x y) :: r) s
  | _ => False
def ym_ls (o : Int64 → Int → Int64) : Prop := match st with
  | .inl (.inl y) :: .inl (.inr x) :: r => go none L (ym_J (o x y) :: r) s
  | _ => False
def ym_gf (q : Option (Nat × Nat × Nat)) : Prop := match st, q with
  | .inr (some (b, c)) :: r, some (0, ci, j) => ym_ob s b c (ci + 4) (ym_ck (Nat.blt j (xm_def ci).length) (match ym_fk ci j with
    | 0 => ym_in (s.1 c j) → go none L (ym_I (s.1 c j) :: r) s
    | 1 => ym_in (s.1 c j) → go none L (ym_I (s.1 c j) :: r) s
    | 2 => go none L (ym_J (s.2.1 c j) :: r) s
    | 3 => ym_rd s b c j (fun v => go none L (v :: r) s)
    | _ => False))
  | _, _ => False
def ym_pf (k : Nat) (q : Option (Nat × Nat × Nat)) : Prop := match st, q with
  | v :: .inr (some (b, c)) :: r, some (0, ci, j) => ym_ob s b c (ci + 4) (ym_ck (Nat.blt j (xm_def ci).length && xm_pok k ci j) (match ym_fk ci j, v with
    | 0, .inl (.inl x) => ym_in x ∧ go none L r (ym_wI s c j x)
    | 1, .inl (.inl x) => (x = 0 ∨ x = 1) ∧ go none L r (ym_wI s c j x)
    | 2, .inl (.inr x) => go none L r (ym_wJ s c j x)
    | 3, .inr none => ym_wo b c j (go none L r (ym_wR s c j none))
    | 3, .inr (some (_, d)) => ym_wo b c j (go none L r (ym_wR s c j (some d)))
    | _, _ => False))
  | _, _ => False
def ym_ald (sc : xm_S) : Prop := match st with
  | .inl (.inl j) :: .inr (some (true, 0)) :: r => (0 ≤ j ∧ j < (sc.1 : Int)) ∧ go none L (ym_I (sc.2 j.toNat).toInt :: r) s
  | .inl (.inl j) :: .inr (some (b, c)) :: r => ym_ar s b c 0 (fun n => (0 ≤ j ∧ j < (n : Int)) ∧ (ym_in (s.1 c j) → go none L (ym_I (s.1 c j) :: r) s))
  | _ => False
def ym_zld : Prop := match st with
  | .inl (.inl j) :: .inr (some (b, c)) :: r => ym_ar s b c 2 (fun n => (0 ≤ j ∧ j < (n : Int)) ∧ (ym_in (s.1 c j) → go none L (ym_I (s.1 c j) :: r) s))
  | _ => False
def ym_lld : Prop := match st with
  | .inl (.inl j) :: .inr (some (b, c)) :: r => ym_ar s b c 1 (fun n => (0 ≤ j ∧ j < (n : Int)) ∧ go none L (ym_J (s.2.1 c j) :: r) s)
  | _ => False
def ym_rld : Prop := match st with
  | .inl (.inl j) :: .inr (some (b, c)) :: r => ym_ar s b c 3 (fun n => (0 ≤ j ∧ j < (n : Int)) ∧ ym_rq s c j (fun v => go none L (v :: r) s))
  | _ => False
def ym_iat : Prop := match st with
  | .inl (.inl x) :: .inl (.inl j) :: .inr (some (b, c)) :: r => ym_ar s b c 0 (fun n => (0 ≤ j ∧ j < (n : Int)) ∧ ym_in x ∧ go none L r (ym_wI s c j x))
  | _ => False
def ym_zat : Prop := match st with
  | .inl (.inl x) :: .inl (.inl j) :: .inr (some (b, c)) :: r => ym_ar s b c 2 (fun n => (0 ≤ j ∧ j < (n : Int)) ∧ (x = 0 ∨ x = 1) ∧ go none L r (ym_wI s c j x))
  | _ => False
def ym_lat : Prop := match st with
  | .inl (.inr x) :: .inl (.inl j) :: .inr (some (b, c)) :: r => ym_ar s b c 1 (fun n => (0 ≤ j ∧ j < (n : Int)) ∧ go none L r (ym_wJ s c j x))
  | _ => False
def ym_rat : Prop := match st with
  | .inr (some (b2, v)) :: .inl (.inl j) :: .inr (some (b, c)) :: r => ym_ar s b c 3 (fun n => (0 ≤ j ∧ j < (n : Int)) ∧ ym_ob s b2 v 5 (ym_woa b c (go none L r (ym_wR s c j (some v)))))
  | _ => False
def ym_len (sc : xm_S) : Prop := match st with
  | .inr (some (true, 0)) :: r => go none L (ym_I (sc.1 : Int) :: r) s
  | .inr (some (b, c)) :: r => ym_ar s b c 0 (fun n => go none L (ym_I (n : Int) :: r) s)
  | _ => False
def ym_nar (t : Nat) : Prop := match st with
  | .inl (.inl n) :: r => (0 ≤ n ∧ n ≤ 67108864) ∧ go none L (ym_Q (ym_n s) :: r) (ym_mk s t n.toNat n.toNat)
  | _ => False
def ym_sw1 (pc : Nat) (d lo hi : Int) (offs : List Int) : Prop := match st with
  | .inl (.inl x) :: r => ym_in x ∧ ym_ck (ym_jk pc d && decide (offs.length = (hi - lo + 1).toNat)) ((x < lo ∨ hi < x → go (some (xm_tg pc d)) L r s) ∧ ym_tb (fun off => ym_ck (ym_jk pc off) (go (some (xm_tg pc off)) L r s)) offs lo x)
  | _ => False
def ym_sw2 (pc : Nat) (d : Int) (ps : List (Int × Int)) : Prop := match st with
  | .inl (.inl x) :: r => ym_in x ∧ ym_ck ((ps.zip (ps.drop 1)).all (fun (a, next) => a.1 < next.1)) (ym_lb (fun off => ym_ck (ym_jk pc off) (go (some (xm_tg pc off)) L r s)) d ps x)
  | _ => False
end
section
variable (sc : xm_S) (P : xm_O → xm_H → Prop) (K : List ym_F)
def ym_cl (k pc : Nat) (L : ym_L) (k2 : Nat) (as rest : List ym_V) (s : ym_S) : Prop := ym_ck (Nat.ble (ym_wt rest) 8 && Nat.ble (ym_sl as).length (xm_n k2)) (ym_Go sc P ((k, pc, L, rest) :: K) (k2, 0, ym_ent (xm_n k2) as, []) s)
def ym_spc (k pc : Nat) (L : ym_L) (st : List ym_V) (s : ym_S) (go : ym_G) (q : Option (Nat × Nat × Nat)) : Prop := match q with
  | some (7, _, _) => (match st with
    | .inr (some _) :: r => ym_ck (Nat.ble (ym_wt r) 8) (go none L r s)
    | _ => False)
  | some (3, k2, z) => (match st.drop z with
    | .inr (some (b, c)) :: r => ym_ck (Nat.ble z st.length) (ym_cl sc P K k pc L k2 (.inr (some (b, c)) :: (st.take z).reverse) r s)
    | _ => False)
  | some (13, k2, z) => (match st.drop z with
    | .inr (some (b, c)) :: r => ym_ck (Nat.ble z st.length) (ym_cl sc P K k pc L k2 (.inr (some (b, c)) :: (st.take z).reverse) r s)
    | _ => False)
  | _ => False
def ym_sta (k pc : Nat) (L : ym_L) (st : List ym_V) (s : ym_S) (go : ym_G) (q : Option (Nat × Nat × Nat)) : Prop := match q with
  | some (8, _, _) => (match st with
    | .inl (.inl n) :: .inl (.inl dp) :: .inr (some (bd, d)) :: .inl (.inl sp) :: .inr (some (ba, a)) :: r => ym_ar s ba a 0 (fun n0 => ym_ar s bd d 0 (fun n1 => (0 ≤ sp ∧ 0 ≤ dp ∧ 0 ≤ n ∧ sp + n ≤ (n0 : Int) ∧ dp + n ≤ (n1 : Int)) ∧ ym_ck (Nat.ble (ym_wt r) 8) (go none L r (ym_cpy s a d sp dp n))))
    | _ => False)
  | some (9, _, _) => (match st with
    | .inl (.inl y) :: .inl (.inl x) :: r => ym_in x ∧ ym_in y ∧ ym_ck (Nat.ble (ym_wt r) 8) (go none L (ym_I (if x < y then y else x) :: r) s)
    | _ => False)
  | some (10, _, _) => (match st with
    | .inl (.inl y) :: .inl (.inl x) :: r => ym_in x ∧ ym_in y ∧ ym_ck (Nat.ble (ym_wt r) 8) (go none L (ym_I (if y < x then y else x) :: r) s)
    | _ => False)
  | some (2, k2, z) => ym_ck (Nat.ble z st.length) (ym_cl sc P K k pc L k2 (st.take z).reverse (st.drop z) s)
  | some (12, k2, z) => ym_ck (Nat.ble z st.length) (ym_cl sc P K k pc L k2 (st.take z).reverse (st.drop z) s)
  | _ => False
def ym_vir (k pc : Nat) (L : ym_L) (st : List ym_V) (s : ym_S) (q : Option (Nat × Nat × Nat)) : Prop := match q with
  | some (1, k2, z) => (match st.drop z with
    | .inr (some (b, c)) :: r => ym_ob s b c (xm_rc k2 + 4) (ym_ck (Nat.ble z st.length) (ym_cl sc P K k pc L k2 (.inr (some (b, c)) :: (st.take z).reverse) r s))
    | _ => False)
  | _ => False
def ym_new (k : Nat) (L : ym_L) (st : List ym_V) (s : ym_S) (go : ym_G) (q : Option (Nat × Nat × Nat)) : Prop := match q with
  | some (4, ci, _) => go none L (ym_Q (ym_n s) :: st) (ym_mk s (ci + 4) 0 (xm_siz ci))
  | some (5, x, _) => ym_ck (Nat.ble (ym_wt st) 8 && !Nat.beq k 134) (ym_Ex sc P K x (ym_ex s))
  | _ => False
def ym_ire (k : Nat) (st : List ym_V) (s : ym_S) : Prop := match st, xm_r k with
  | [.inl (.inl x)], some .int => ym_Rt sc P K (some (ym_I x)) s
  | [.inl (.inl x)], some .boolean => (x = 0 ∨ x = 1) ∧ ym_Rt sc P K (some (ym_I x)) s
  | _, _ => False
def ym_x (k pc : Nat) (i : ClassFile.Instr) (m : Nat) (L : ym_L) (st : List ym_V) (s : ym_S) (go : ym_G) : Prop := match i, m with
  | .iconst a, 1 => go none L (ym_I a :: st) s
  | .bipush a, 2 => ym_ck (decide (-128 ≤ a) && decide (a < 128)) (go none L (ym_I a :: st) s)
  | .sipush a, 3 => ym_ck (decide (-32768 ≤ a) && decide (a < 32768)) (go none L (ym_I a :: st) s)
  | .lconst a, 1 => go none L (ym_J (Int64.ofNat (a : Nat)) :: st) s
  | .aconst_null, 1 => go none L (ym_N :: st) s
  | .ldc a, 2 => (match ym_ki k a with
    | some v => go none L (ym_I v :: st) s
    | none => False)
  | .ldc2_w a, 3 => (match xm_kl k a with
    | some v => go none L (ym_J v :: st) s
    | none => False)
  | .iload_n a, 1 => ym_ilo L st s go a
  | .iload a, 2 => ym_ilo L st s go a
  | .lload_n a, 1 => ym_llo L st s go a
  | .lload a, 2 => ym_llo L st s go a
  | .aload_n a, 1 => ym_alo L st s go a
  | .aload a, 2 => ym_alo L st s go a
  | .istore_n a, 1 => ym_ist L st s go a
  | .istore a, 2 => ym_ist L st s go a
  | .lstore_n a, 1 => ym_lst L st s go a
  | .astore_n a, 1 => ym_ast L st s go a
  | .astore a, 2 => ym_ast L st s go a
  | .iinc a z, 3 => ym_inc L st s go a z
  | .iadd, 1 => ym_b2 L st s go (fun x y => x + y)
  | .isub, 1 => ym_b2 L st s go (fun x y => x - y)
  | .imul, 1 => ym_b2 L st s go (fun x y => x * y)
  | .iand, 1 => ym_b2 L st s go ym_and
  | .ior, 1 => ym_b2 L st s go ym_or
  | .ishl, 1 => ym_b2 L st s go ym_shl
  | .ishr, 1 => ym_b2 L st s go ym_shr
  | .idiv, 1 => ym_d2 L st s go ym_div
  | .irem, 1 => ym_d2 L st s go ym_rem
  | .ladd, 1 => ym_l2 L st s go (fun x y => x + y)
  | .lmul, 1 => ym_l2 L st s go (fun x y => x * y)
  | .land, 1 => ym_l2 L st s go (fun x y => x &&& y)
  | .lor, 1 => ym_l2 L st s go (fun x y => x ||| y)
  | .lshl, 1 => ym_ls L st s go ym_lshl
  | .lshr, 1 => ym_ls L st s go ym_lshr
  | .lushr, 1 => ym_ls L st s go ym_lus
  | .lcmp, 1 => (match st with
    | .inl (.inr y) :: .inl (.inr x) :: r => go none L (ym_I (ym_cmp x y) :: r) s
    | _ => False)
  | .i2l, 1 => (match st with
    | .inl (.inl x) :: r => go none L (ym_J (ym_i2l x) :: r) s
    | _ => False)
  | .l2i, 1 => (match st with
    | .inl (.inr x) :: r => go none L (ym_I (ym_l2i x) :: r) s
    | _ => False)
  | .dup, 1 => (match st with
    | v :: r => ym_ck (Nat.beq (ym_ct v) 1) (go none L (v :: v :: r) s)
    | _ => False)
  | .dup2, 1 => (match st with
    | v :: w :: r => ym_ck (Nat.beq (ym_ct v) 1 && Nat.beq (ym_ct w) 1) (go none L (v :: w :: v :: w :: r) s)
    | _ => False)
  | .ifCond c off, 3 => (match st with
    | .inl (.inl x) :: r => ym_ck (ym_jk pc off) (ym_br c x 0 (go (some (xm_tg pc off)) L r s) (go none L r s))
    | _ => False)
  | .if_icmp c off, 3 => (match st with
    | .inl (.inl y) :: .inl (.inl x) :: r => ym_ck (ym_jk pc off) (ym_br c x y (go (some (xm_tg pc off)) L r s) (go none L r s))
    | _ => False)
  | .ifnull off, 3 => (match st with
    | .inr none :: r => ym_ck (ym_jk pc off) (go (some (xm_tg pc off)) L r s)
    | .inr (some _) :: r => ym_ck (ym_jk pc off) (go none L r s)
    | _ => False)
  | .ifnonnull off, 3 => (match st with
    | .inr none :: r => ym_ck (ym_jk pc off) (go none L r s)
    | .inr (some _) :: r => ym_ck (ym_jk pc off) (go (some (xm_tg pc off)) L r s)
    | _ => False)
  | .goto off, 3 => ym_ck (ym_jk pc off) (go (some (xm_tg pc off)) L st s)
  | .tableswitch d lo hi offs, _ => ym_sw1 L st s go pc d lo hi offs.toList
  | .lookupswitch d ps, _ => ym_sw2 L st s go pc d ps.toList
  | .getfield a, 3 => ym_gf L st s go (xm_cp k a)
  | .putfield a, 3 => ym_pf L st s go k (xm_cp k a)
  | .iaload, 1 => ym_ald L st s go sc
  | .laload, 1 => ym_lld L st s go
  | .baload, 1 => ym_zld L st s go
  | .aaload, 1 => ym_rld L st s go
  | .iastore, 1 => ym_iat L st s go
  | .lastore, 1 => ym_lat L st s go
  | .bastore, 1 => ym_zat L st s go
  | .aastore, 1 => ym_rat L st s go
  | .arraylength, 1 => ym_len L st s go sc
  | .newarray .int, 2 => ym_nar L st s go 0
  | .newarray .long, 2 => ym_nar L st s go 1
  | .anewarray a, 3 => (match xm_cp k a with
    | some (6, _, _) => ym_nar L st s go 3
    | _ => False)
  | .new a, 3 => ym_new sc P K k L st s go (xm_cp k a)
  | .invokespecial a, 3 => ym_spc sc P K k pc L st s go (xm_cp k a)
  | .invokestatic a, 3 => ym_sta sc P K k pc L st s go (xm_cp k a)
  | .invokevirtual a, 3 => ym_vir sc P K k pc L st s (xm_cp k a)
  | .ireturn, 1 => ym_ire sc P K k st s
  | .areturn, 1 => (match st with
    | [.inr x] => ym_ck (xm_rr k) (ym_Rt sc P K (some (.inr x)) s)
    | _ => False)
  | .return_, 1 => (match st, xm_r k with
    | [], none => ym_Rt sc P K none s
    | _, _ => False)
  | _, _ => False
/-- the code from a place on -/
def ym_from (pc : Nat) : List (Nat × ClassFile.Instr × Nat) → List (Nat × ClassFile.Instr × Nat)
  | [] => []
  | a :: r => bif Nat.beq a.1 pc then a :: r else ym_from pc r
/-- what is left to show at a place of a method: up to the calls, the returns, the jumps back and the places that are cut -/
def ym_wp (k : Nat) (cut : List Nat) : Nat → List (Nat × ClassFile.Instr × Nat) → ym_L → List ym_V → ym_S → Prop
  | 0, _, _, _, _ => False
  | _ + 1, [], _, _, _ => False
  | n + 1, (pc, i, m) :: rest, L, st, s => ym_x sc P K k pc i m L st s (fun t L st s => match t with
    | none => bif cut.elem (pc + m) then ym_Go sc P K (k, pc + m, L, st) s else (match rest with
      | [] => False
      | (pc2, i2, m2) :: r => bif Nat.beq pc2 (pc + m) then ym_wp k cut n ((pc2, i2, m2) :: r) L st s else False)
    | some q => bif cut.elem q || Nat.ble q pc then ym_Go sc P K (k, q, L, st) s else ym_wp k cut n (ym_from q rest) L st s)
end
