/-! A small machine over cells that are numbered from 0 in the order of their making (number 0 is the law's script): own work. Its steps are functions, so that a run of it is a computation; part 05 shows that what it computes is what the bytecode does. -/
abbrev xm_A : Type := (Nat → Int32) ⊕ ((Nat → Int64) ⊕ (Nat → Option Nat))
abbrev xm_E : Type := (Nat × Nat × xm_A) ⊕ (Nat × List Value)
abbrev xm_C : Type := List (Option xm_E)
abbrev xm_H : Type := xm_C × Nat
abbrev xm_L : Type := List (Option Value)
abbrev xm_F : Type := Nat × Nat × xm_L × List Value
abbrev xm_O : Type := Option Value ⊕ Nat
abbrev xm_S : Type := Nat × (Nat → Int32)
/-- what a step gives: the machine goes on; it returned; it threw an exception of that number; it calls (callee, arguments, the rest of the stack) -/
abbrev xm_R : Type := (xm_F × xm_H) ⊕ ((Option Value × xm_H) ⊕ ((Nat × xm_H) ⊕ (Nat × List Value × List Value)))
def xm_ld (L : xm_L) (i : Nat) : Option Value := (L[i]?).getD none
def xm_clr (L : xm_L) : Nat → xm_L
  | 0 => L
  | j + 1 => match xm_ld L j with
    | some (.long _) => L.set j none
    | some (.double _) => L.set j none
    | _ => L
def xm_st1 (L : xm_L) (i : Nat) (v : Value) : xm_L := (xm_clr L i).set i (some v)
def xm_st2 (L : xm_L) (i : Nat) (v : Value) : xm_L := ((xm_clr L i).set i (some v)).set (i + 1) none
def xm_sl (vs : List Value) : xm_L := vs.flatMap fun v => if v.category = 2 then [some v, none] else [some v]
def xm_ent (n : Nat) (vs : List Value) : xm_L := xm_sl vs ++ List.replicate (n - (xm_sl vs).length) none
def xm_up {α : Type} (f : Nat → α) (k : Nat) (x : α) : Nat → α := fun j => if j = k then x else f j
def xm_tg (pc : Nat) (off : Int) : Nat := ((pc : Int) + off).toNat
abbrev xm_nx (k pc : Nat) (L : xm_L) (st : List Value) (h : xm_H) : Option (xm_F × xm_H) := some ((k, pc, L, st), h)
def xm_bi2 (o : Int32 → Int32 → Int32) (k pc : Nat) (L : xm_L) (st : List Value) (h : xm_H) : Option (xm_F × xm_H) := match st with
  | .int y :: .int x :: r => xm_nx k (pc + 1) L (.int (o x y) :: r) h
  | _ => none
def xm_bd2 (o : Int32 → Int32 → Int32) (k pc : Nat) (L : xm_L) (st : List Value) (h : xm_H) : Option (xm_F × xm_H) := match st with
  | .int y :: .int x :: r => if y = 0 then none else xm_nx k (pc + 1) L (.int (o x y) :: r) h
  | _ => none
def xm_l2 (o : Int64 → Int64 → Int64) (k pc : Nat) (L : xm_L) (st : List Value) (h : xm_H) : Option (xm_F × xm_H) := match st with
  | .long y :: .long x :: r => xm_nx k (pc + 1) L (.long (o x y) :: r) h
  | _ => none
def xm_ls (o : Int64 → Int32 → Int64) (k pc : Nat) (L : xm_L) (st : List Value) (h : xm_H) : Option (xm_F × xm_H) := match st with
  | .int y :: .long x :: r => xm_nx k (pc + 1) L (.long (o x y) :: r) h
  | _ => none
def xm_ic (c : ClassFile.Cond) (x y : Int32) : Bool := match c with
  | .eq => decide (x = y)
  | .ne => !decide (x = y)
  | .lt => decide (x < y)
  | .ge => decide (y ≤ x)
  | .gt => decide (y < x)
  | .le => decide (x ≤ y)
def xm_jp (b : Bool) (k pc : Nat) (off : Int) (L : xm_L) (r : List Value) (h : xm_H) : Option (xm_F × xm_H) :=
  if 0 ≤ (pc : Int) + off then xm_nx k (if b = true then xm_tg pc off else pc + 3) L r h else none
def xm_ilo (i n k pc : Nat) (L : xm_L) (st : List Value) (h : xm_H) : Option (xm_F × xm_H) := match xm_ld L i with
  | some (.int x) => xm_nx k (pc + n) L (.int x :: st) h
  | _ => none
def xm_llo (i n k pc : Nat) (L : xm_L) (st : List Value) (h : xm_H) : Option (xm_F × xm_H) := match xm_ld L i with
  | some (.long x) => xm_nx k (pc + n) L (.long x :: st) h
  | _ => none
def xm_alo (i n k pc : Nat) (L : xm_L) (st : List Value) (h : xm_H) : Option (xm_F × xm_H) := match xm_ld L i with
  | some (.ref x) => xm_nx k (pc + n) L (.ref x :: st) h
  | some .null => xm_nx k (pc + n) L (.null :: st) h
  | _ => none
def xm_ist (i n k pc : Nat) (L : xm_L) (st : List Value) (h : xm_H) : Option (xm_F × xm_H) := match st with
  | .int x :: r => if i < L.length then xm_nx k (pc + n) (xm_st1 L i (.int x)) r h else none
  | _ => none
def xm_lst (i n k pc : Nat) (L : xm_L) (st : List Value) (h : xm_H) : Option (xm_F × xm_H) := match st with
  | .long x :: r => if i + 1 < L.length then xm_nx k (pc + n) (xm_st2 L i (.long x)) r h else none
  | _ => none
def xm_ast (i n k pc : Nat) (L : xm_L) (st : List Value) (h : xm_H) : Option (xm_F × xm_H) := match st with
  | .ref x :: r => if i < L.length then xm_nx k (pc + n) (xm_st1 L i (.ref x)) r h else none
  | .null :: r => if i < L.length then xm_nx k (pc + n) (xm_st1 L i .null) r h else none
  | _ => none
def xm_inc (i : Nat) (z : Int) (k pc : Nat) (L : xm_L) (st : List Value) (h : xm_H) : Option (xm_F × xm_H) := match xm_ld L i with
  | some (.int x) => if i < L.length then xm_nx k (pc + 3) (xm_st1 L i (.int (x + Int32.ofInt z))) st h else none
  | _ => none
/-- the cell of a number -/
def xm_cell (h : xm_H) (i : Nat) : Option xm_E := (h.1[i]?).getD none
def xm_put (h : xm_H) (i : Nat) (e : xm_E) : xm_H := (h.1.set i (some e), h.2)
def xm_new (h : xm_H) (e : xm_E) (n : Nat) : xm_H := (h.1 ++ [some e], h.2 + n)
def xm_fit (ty : FieldType) (v : Value) : Bool := match ty, v with
  | .int, .int _ => true
  | .boolean, .int x => decide (x = 0) || decide (x = 1)
  | .long, .long _ => true
  | .object _, .ref _ => true
  | .object _, .null => true
  | .array _, .ref _ => true
  | .array _, .null => true
  | _, _ => false
def xm_gf (k pc idx : Nat) (L : xm_L) (st : List Value) (h : xm_H) : Option (xm_F × xm_H) := match st, xm_cp k idx with
  | .ref i :: r, some (0, ci, j) => match xm_cell h i with
    | some (.inr (ci', fs)) => if ci' = ci then (match fs[j]? with
      | some v => xm_nx k (pc + 3) L (v :: r) h
      | none => none) else none
    | _ => none
  | _, _ => none
def xm_pf (k pc idx : Nat) (L : xm_L) (st : List Value) (h : xm_H) : Option (xm_F × xm_H) := match st, xm_cp k idx with
  | v :: .ref i :: r, some (0, ci, j) => match xm_cell h i with
    | some (.inr (ci', fs)) => if ci' = ci ∧ j < fs.length ∧ xm_fit (xm_fty ci j) v = true ∧ xm_pok k ci j = true then xm_nx k (pc + 3) L r (xm_put h i (.inr (ci, fs.set j v))) else none
    | _ => none
  | _, _ => none
def xm_iald (sc : xm_S) (k pc : Nat) (L : xm_L) (st : List Value) (h : xm_H) : Option (xm_F × xm_H) := match st with
  | .int j :: .ref i :: r => if i = 0 then (if j < 0 ∨ sc.1 ≤ j.toNatClampNeg then none else xm_nx k (pc + 1) L (.int (sc.2 j.toNatClampNeg) :: r) h) else match xm_cell h i with
    | some (.inl (0, n, .inl f)) => if j < 0 ∨ n ≤ j.toNatClampNeg then none else xm_nx k (pc + 1) L (.int (f j.toNatClampNeg) :: r) h
    | _ => none
  | _ => none
def xm_zald (k pc : Nat) (L : xm_L) (st : List Value) (h : xm_H) : Option (xm_F × xm_H) := match st with
  | .int j :: .ref i :: r => match xm_cell h i with
    | some (.inl (2, n, .inl f)) => if j < 0 ∨ n ≤ j.toNatClampNeg then none else xm_nx k (pc + 1) L (.int (f j.toNatClampNeg) :: r) h
    | _ => none
  | _ => none
def xm_lald (k pc : Nat) (L : xm_L) (st : List Value) (h : xm_H) : Option (xm_F × xm_H) := match st with
  | .int j :: .ref i :: r => match xm_cell h i with
    | some (.inl (1, n, .inr (.inl f))) => if j < 0 ∨ n ≤ j.toNatClampNeg then none else xm_nx k (pc + 1) L (.long (f j.toNatClampNeg) :: r) h
    | _ => none
  | _ => none
def xm_aald (k pc : Nat) (L : xm_L) (st : List Value) (h : xm_H) : Option (xm_F × xm_H) := match st with
  | .int j :: .ref i :: r => match xm_cell h i with
    | some (.inl (3, n, .inr (.inr f))) => if j < 0 ∨ n ≤ j.toNatClampNeg then none else xm_nx k (pc + 1) L (va_rf (f j.toNatClampNeg) :: r) h
    | _ => none
  | _ => none
def xm_iast (k pc : Nat) (L : xm_L) (st : List Value) (h : xm_H) : Option (xm_F × xm_H) := match st with
  | .int x :: .int j :: .ref i :: r => match xm_cell h i with
    | some (.inl (0, n, .inl f)) => if j < 0 ∨ n ≤ j.toNatClampNeg then none else xm_nx k (pc + 1) L r (xm_put h i (.inl (0, n, .inl (upd f j.toNatClampNeg x))))
    | _ => none
  | _ => none
def xm_zast (k pc : Nat) (L : xm_L) (st : List Value) (h : xm_H) : Option (xm_F × xm_H) := match st with
  | .int x :: .int j :: .ref i :: r => match xm_cell h i with
    | some (.inl (2, n, .inl f)) => if (j < 0 ∨ n ≤ j.toNatClampNeg) ∨ ¬ (x = 0 ∨ x = 1) then none else xm_nx k (pc + 1) L r (xm_put h i (.inl (2, n, .inl (upd f j.toNatClampNeg x))))
    | _ => none
  | _ => none
def xm_last (k pc : Nat) (L : xm_L) (st : List Value) (h : xm_H) : Option (xm_F × xm_H) := match st with
  | .long x :: .int j :: .ref i :: r => match xm_cell h i with
    | some (.inl (1, n, .inr (.inl f))) => if j < 0 ∨ n ≤ j.toNatClampNeg then none else xm_nx k (pc + 1) L r (xm_put h i (.inl (1, n, .inr (.inl (vp_updL f j.toNatClampNeg x)))))
    | _ => none
  | _ => none
def xm_aast (k pc : Nat) (L : xm_L) (st : List Value) (h : xm_H) : Option (xm_F × xm_H) := match st with
  | .ref v :: .int j :: .ref i :: r => match xm_cell h i, xm_cell h v with
    | some (.inl (3, n, .inr (.inr f))), some (.inr (ci, _)) => if (j < 0 ∨ n ≤ j.toNatClampNeg) ∨ ¬ ci = xm_elt then none else xm_nx k (pc + 1) L r (xm_put h i (.inl (3, n, .inr (.inr (va_up f j.toNatClampNeg (some v))))))
    | _, _ => none
  | _ => none
def xm_len (sc : xm_S) (k pc : Nat) (L : xm_L) (st : List Value) (h : xm_H) : Option (xm_F × xm_H) := match st with
  | .ref i :: r => if i = 0 then xm_nx k (pc + 1) L (.int (Int32.ofNat sc.1) :: r) h else match xm_cell h i with
    | some (.inl (t, n, _)) => if t < 4 then xm_nx k (pc + 1) L (.int (Int32.ofNat n) :: r) h else none
    | _ => none
  | _ => none
def xm_nob (k pc idx : Nat) (L : xm_L) (st : List Value) (h : xm_H) : Option (xm_F × xm_H) := match xm_cp k idx with
  | some (4, ci, _) => xm_nx k (pc + 3) L (.ref h.1.length :: st) (xm_new h (.inr (ci, xm_def ci)) (xm_siz ci))
  | _ => none
def xm_nar (a : ClassFile.ArrayType) (k pc : Nat) (L : xm_L) (st : List Value) (h : xm_H) : Option (xm_F × xm_H) := match a, st with
  | .int, .int n :: r => if n < 0 ∨ 67108864 < n.toNatClampNeg then none else xm_nx k (pc + 2) L (.ref h.1.length :: r) (xm_new h (.inl (0, n.toNatClampNeg, .inl (fun _ => 0))) n.toNatClampNeg)
  | .long, .int n :: r => if n < 0 ∨ 67108864 < n.toNatClampNeg then none else xm_nx k (pc + 2) L (.ref h.1.length :: r) (xm_new h (.inl (1, n.toNatClampNeg, .inr (.inl (fun _ => 0)))) n.toNatClampNeg)
  | .boolean, .int n :: r => if n < 0 ∨ 67108864 < n.toNatClampNeg then none else xm_nx k (pc + 2) L (.ref h.1.length :: r) (xm_new h (.inl (2, n.toNatClampNeg, .inl (fun _ => 0))) n.toNatClampNeg)
  | _, _ => none
def xm_anw (k pc idx : Nat) (L : xm_L) (st : List Value) (h : xm_H) : Option (xm_F × xm_H) := match st, xm_cp k idx with
  | .int n :: r, some (6, _, _) => if n < 0 ∨ 67108864 < n.toNatClampNeg then none else xm_nx k (pc + 3) L (.ref h.1.length :: r) (xm_new h (.inl (3, n.toNatClampNeg, .inr (.inr (fun _ => none)))) n.toNatClampNeg)
  | _, _ => none
def xm_wt (st : List Value) : Nat := (st.map fun v => v.category).sum
/-- Object's constructor -/
def xm_oin (k pc idx : Nat) (L : xm_L) (st : List Value) (h : xm_H) : Option (xm_F × xm_H) := match st, xm_cp k idx with
  | .ref _ :: r, some (7, _, _) => if xm_wt r ≤ 8 then xm_nx k (pc + 3) L r h else none
  | _, _ => none
/-- System.arraycopy of ints, Math.max, Math.min -/
def xm_lib (k pc idx : Nat) (L : xm_L) (st : List Value) (h : xm_H) : Option (xm_F × xm_H) := match xm_cp k idx, st with
  | some (8, _, _), .int n :: .int dp :: .ref d :: .int sp :: .ref a :: r => match xm_cell h a, xm_cell h d with
    | some (.inl (0, n0, .inl f)), some (.inl (0, n1, .inl g)) =>
      if sp < 0 ∨ dp < 0 ∨ n < 0 ∨ n0 < sp.toNatClampNeg + n.toNatClampNeg ∨ n1 < dp.toNatClampNeg + n.toNatClampNeg ∨ 8 < xm_wt r then none
      else xm_nx k (pc + 3) L r (xm_put h d (.inl (0, n1, .inl (va_cpy f g sp.toNatClampNeg dp.toNatClampNeg n.toNatClampNeg))))
    | _, _ => none
  | some (9, _, _), .int y :: .int x :: r => if 8 < xm_wt r then none else xm_nx k (pc + 3) L (.int (if x < y then y else x) :: r) h
  | some (10, _, _), .int y :: .int x :: r => if 8 < xm_wt r then none else xm_nx k (pc + 3) L (.int (if y < x then y else x) :: r) h
  | _, _ => none
def xm_tsw (dflt lo hi : Int) (offs : Array Int) (k pc : Nat) (L : xm_L) (st : List Value) (h : xm_H) : Option (xm_F × xm_H) := match st with
  | .int x :: r => if x.toInt < lo ∨ hi < x.toInt then (if 0 ≤ (pc : Int) + dflt then xm_nx k (xm_tg pc dflt) L r h else none)
    else match offs.toList[(x.toInt - lo).toNat]? with
      | some off => if 0 ≤ (pc : Int) + off then xm_nx k (xm_tg pc off) L r h else none
      | none => none
  | _ => none
def xm_lsw (dflt : Int) (ps : Array (Int × Int)) (k pc : Nat) (L : xm_L) (st : List Value) (h : xm_H) : Option (xm_F × xm_H) := match st with
  | .int x :: r => if (ps.toList.zip (ps.toList.drop 1)).all (fun (a, next) => a.1 < next.1) = true ∧ 0 ≤ (pc : Int) + Op.lookupswitch.offset ps.toList dflt x.toInt then xm_nx k (xm_tg pc (Op.lookupswitch.offset ps.toList dflt x.toInt)) L r h else none
  | _ => none
def xm_one (st : List Value) : Bool := match st with
  | v :: _ => decide (v.category = 1)
  | [] => false
def xm_do (sc : xm_S) (i : ClassFile.Instr) (n : Nat) (k pc : Nat) (L : xm_L) (st : List Value) (h : xm_H) : Option (xm_F × xm_H) := match i, n with
  | .iconst a, 1 => xm_nx k (pc + 1) L (.int (Int32.ofInt a) :: st) h
  | .bipush a, 2 => xm_nx k (pc + 2) L (.int (Int8.ofInt a).toInt32 :: st) h
  | .sipush a, 3 => xm_nx k (pc + 3) L (.int (Int16.ofInt a).toInt32 :: st) h
  | .lconst a, 1 => xm_nx k (pc + 1) L (.long (Int64.ofNat (a : Nat)) :: st) h
  | .aconst_null, 1 => xm_nx k (pc + 1) L (.null :: st) h
  | .ldc a, 2 => match xm_ki k a with
    | some v => xm_nx k (pc + 2) L (.int v :: st) h
    | none => none
  | .ldc2_w a, 3 => match xm_kl k a with
    | some v => xm_nx k (pc + 3) L (.long v :: st) h
    | none => none
  | .iload_n a, 1 => xm_ilo a 1 k pc L st h
  | .iload a, 2 => xm_ilo a 2 k pc L st h
  | .lload_n a, 1 => xm_llo a 1 k pc L st h
  | .lload a, 2 => xm_llo a 2 k pc L st h
  | .aload_n a, 1 => xm_alo a 1 k pc L st h
  | .aload a, 2 => xm_alo a 2 k pc L st h
  | .istore_n a, 1 => xm_ist a 1 k pc L st h
  | .istore a, 2 => xm_ist a 2 k pc L st h
  | .lstore_n a, 1 => xm_lst a 1 k pc L st h
  | .lstore a, 2 => xm_lst a 2 k pc L st h
  | .astore_n a, 1 => xm_ast a 1 k pc L st h
  | .astore a, 2 => xm_ast a 2 k pc L st h
  | .iinc a z, 3 => xm_inc a z k pc L st h
  | .iadd, 1 => xm_bi2 (fun x y => x + y) k pc L st h
  | .isub, 1 => xm_bi2 (fun x y => x - y) k pc L st h
  | .imul, 1 => xm_bi2 (fun x y => x * y) k pc L st h
  | .iand, 1 => xm_bi2 (fun x y => x &&& y) k pc L st h
  | .ior, 1 => xm_bi2 (fun x y => x ||| y) k pc L st h
  | .ishl, 1 => xm_bi2 (fun x y => x <<< (y &&& 31)) k pc L st h
  | .ishr, 1 => xm_bi2 (fun x y => x >>> (y &&& 31)) k pc L st h
  | .idiv, 1 => xm_bd2 (fun x y => x / y) k pc L st h
  | .irem, 1 => xm_bd2 (fun x y => x - x / y * y) k pc L st h
  | .ladd, 1 => xm_l2 (fun x y => x + y) k pc L st h
  | .lmul, 1 => xm_l2 (fun x y => x * y) k pc L st h
  | .land, 1 => xm_l2 (fun x y => x &&& y) k pc L st h
  | .lor, 1 => xm_l2 (fun x y => x ||| y) k pc L st h
  | .lshl, 1 => xm_ls (fun x y => x <<< (y.toInt64 &&& 63)) k pc L st h
  | .lshr, 1 => xm_ls (fun x y => x >>> (y.toInt64 &&& 63)) k pc L st h
  | .lushr, 1 => xm_ls (fun x y => (x.toUInt64 >>> (y.toInt64.toUInt64 &&& Int64.toUInt64 63)).toInt64) k pc L st h
  | .lcmp, 1 => match st with
    | .long y :: .long x :: r => xm_nx k (pc + 1) L (.int (lg_cmp x y) :: r) h
    | _ => none
  | .i2l, 1 => match st with
    | .int x :: r => xm_nx k (pc + 1) L (.long x.toInt64 :: r) h
    | _ => none
  | .l2i, 1 => match st with
    | .long x :: r => xm_nx k (pc + 1) L (.int x.toInt32 :: r) h
    | _ => none
  | .dup, 1 => match st with
    | v :: r => if v.category = 1 then xm_nx k (pc + 1) L (v :: v :: r) h else none
    | _ => none
  | .dup_x1, 1 => match st with
    | v :: w :: r => if v.category = 1 ∧ w.category = 1 then xm_nx k (pc + 1) L (v :: w :: v :: r) h else none
    | _ => none
  | .dup_x2, 1 => match st with
    | v :: w :: u :: r => if v.category = 1 ∧ w.category = 1 ∧ u.category = 1 then xm_nx k (pc + 1) L (v :: w :: u :: v :: r) h else none
    | _ => none
  | .dup2, 1 => match st with
    | v :: w :: r => if v.category = 1 ∧ w.category = 1 then xm_nx k (pc + 1) L (v :: w :: v :: w :: r) h else none
    | _ => none
  | .pop, 1 => match st with
    | v :: r => if v.category = 1 then xm_nx k (pc + 1) L r h else none
    | _ => none
  | .ifCond c off, 3 => match st with
    | .int x :: r => xm_jp (xm_ic c x 0) k pc off L r h
    | _ => none
  | .if_icmp c off, 3 => match st with
    | .int y :: .int x :: r => xm_jp (xm_ic c x y) k pc off L r h
    | _ => none
  | .ifnull off, 3 => match st with
    | .null :: r => xm_jp true k pc off L r h
    | .ref _ :: r => xm_jp false k pc off L r h
    | _ => none
  | .ifnonnull off, 3 => match st with
    | .null :: r => xm_jp false k pc off L r h
    | .ref _ :: r => xm_jp true k pc off L r h
    | _ => none
  | .goto off, 3 => xm_jp true k pc off L st h
  | .tableswitch d lo hi offs, _ => xm_tsw d lo hi offs k pc L st h
  | .lookupswitch d ps, _ => xm_lsw d ps k pc L st h
  | .getfield a, 3 => xm_gf k pc a L st h
  | .putfield a, 3 => xm_pf k pc a L st h
  | .iaload, 1 => xm_iald sc k pc L st h
  | .laload, 1 => xm_lald k pc L st h
  | .baload, 1 => xm_zald k pc L st h
  | .aaload, 1 => xm_aald k pc L st h
  | .iastore, 1 => xm_iast k pc L st h
  | .lastore, 1 => xm_last k pc L st h
  | .bastore, 1 => xm_zast k pc L st h
  | .aastore, 1 => xm_aast k pc L st h
  | .arraylength, 1 => xm_len sc k pc L st h
  | .new a, 3 => xm_nob k pc a L st h
  | .newarray t, 2 => xm_nar t k pc L st h
  | .anewarray a, 3 => xm_anw k pc a L st h
  | .invokespecial a, 3 => xm_oin k pc a L st h
  | .invokestatic a, 3 => xm_lib k pc a L st h
  | _, _ => none
/-- a new exception that is thrown at once -/
def xm_thr (k pc idx : Nat) (h : xm_H) : Option xm_R := match xm_cp k idx with
  | some (5, x, ic) => if xm_ins k (pc + 3) = some (.dup, 1) ∧ xm_ins k (pc + 4) = some (.invokespecial ic, 3) ∧ xm_ins k (pc + 7) = some (.athrow, 1) ∧ xm_hh k = [] then some (.inr (.inr (.inl (x, (h.1 ++ [none], h.2 + 6))))) else none
  | _ => none
def xm_end (i : ClassFile.Instr) (n k pc : Nat) (st : List Value) (h : xm_H) : Option xm_R := match i, n with
  | .ireturn, 1 => match st, xm_r k with
    | [.int x], some .int => some (.inr (.inl (some (.int x), h)))
    | [.int x], some .boolean => if x = 0 ∨ x = 1 then some (.inr (.inl (some (.int x), h))) else none
    | _, _ => none
  | .areturn, 1 => match st with
    | [.ref x] => if xm_rr k = true then some (.inr (.inl (some (.ref x), h))) else none
    | [.null] => if xm_rr k = true then some (.inr (.inl (some .null, h))) else none
    | _ => none
  | .return_, 1 => match st, xm_r k with
    | [], none => some (.inr (.inl (none, h)))
    | _, _ => none
  | .new a, 3 => if xm_wt st ≤ 8 then xm_thr k pc a h else none
  | .invokevirtual a, 3 => match xm_cp k a with
    | some (1, k2, z) => match st.drop z with
      | .ref i :: r => match xm_cell h i with
        | some (.inr (ci, _)) => if (ci = xm_rc k2 ∧ z ≤ st.length) ∧ xm_wt r ≤ 8 ∧ (xm_sl (.ref i :: (st.take z).reverse)).length ≤ xm_n k2 then some (.inr (.inr (.inr (k2, .ref i :: (st.take z).reverse, r)))) else none
        | _ => none
      | _ => none
    | _ => none
  | .invokespecial a, 3 => match xm_cp k a with
    | some (3, k2, z) => match st.drop z with
      | .ref i :: r => if z ≤ st.length ∧ xm_wt r ≤ 8 ∧ (xm_sl (.ref i :: (st.take z).reverse)).length ≤ xm_n k2 then some (.inr (.inr (.inr (k2, .ref i :: (st.take z).reverse, r)))) else none
      | _ => none
    | some (13, k2, z) => match st.drop z with
      | .ref i :: r => if z ≤ st.length ∧ xm_wt r ≤ 8 ∧ (xm_sl (.ref i :: (st.take z).reverse)).length ≤ xm_n k2 then some (.inr (.inr (.inr (k2, .ref i :: (st.take z).reverse, r)))) else none
      | _ => none
    | _ => none
  | .invokestatic a, 3 => match xm_cp k a with
    | some (2, k2, z) => if z ≤ st.length ∧ xm_wt (st.drop z) ≤ 8 ∧ (xm_sl (st.take z).reverse).length ≤ xm_n k2 then some (.inr (.inr (.inr (k2, (st.take z).reverse, st.drop z)))) else none
    | some (12, k2, z) => if z ≤ st.length ∧ xm_wt (st.drop z) ≤ 8 ∧ (xm_sl (st.take z).reverse).length ≤ xm_n k2 then some (.inr (.inr (.inr (k2, (st.take z).reverse, st.drop z)))) else none
    | _ => none
  | _, _ => none
def xm_step (sc : xm_S) (f : xm_F) (h : xm_H) : Option xm_R := match xm_ins f.1 f.2.1 with
  | none => none
  | some (i, n) => match xm_do sc i n f.1 f.2.1 f.2.2.1 f.2.2.2 h with
    | some q => some (.inl q)
    | none => xm_end i n f.1 f.2.1 f.2.2.2 h
/-- it stands at a call of an object's method -/
def xm_vt (k pc : Nat) : Bool := match xm_ins k pc with
  | some (.invokevirtual _, _) => true
  | _ => false
/-- a run of at most 'n' steps, with calls at most 'd' deep; the frame that waits for a call stands at the call's own place -/
def xm_ev (sc : xm_S) : Nat → Nat → xm_F → xm_H → Option (xm_O × xm_H)
  | 0, _, _, _ => none
  | n + 1, d, f, h => match xm_step sc f h with
    | none => none
    | some (.inl q) => xm_ev sc n d q.1 q.2
    | some (.inr (.inl q)) => some (.inl q.1, q.2)
    | some (.inr (.inr (.inl q))) => some (.inr q.1, q.2)
    | some (.inr (.inr (.inr q))) => match d with
      | 0 => none
      | d' + 1 => match xm_ev sc n d' (q.1, 0, xm_ent (xm_n q.1) q.2.1, []) h with
        | none => none
        | some (.inl v, h2) => xm_ev sc n (d' + 1) (f.1, f.2.1 + 3, f.2.2.1, v.toList ++ q.2.2) h2
        | some (.inr x, h2) => if xm_vt f.1 f.2.1 = true then (match xm_hh f.1 with
          | [] => some (.inr x, h2)
          | _ => match xm_cat f.1 f.2.1 x with
            | some (pc2, i) => xm_ev sc n (d' + 1) (f.1, pc2 + 1, (xm_clr f.2.2.1 i).set i none, []) h2
            | none => none) else none
