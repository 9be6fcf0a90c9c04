/-! A rule an instruction, over whole numbers: written by wip/whole/gen_rules.py. -/
section
variable {sc : xm_S} {P : xm_O → xm_H → Prop} {K : List ym_F} {k pc q t : Nat} {L L2 : ym_L} {st : List ym_V} {s : ym_S}
abbrev ym_Hy (sc : xm_S) (K : List ym_F) : Prop := K.length < 1000 ∧ sc.1 ≤ 67108864
def ym_kc (sc : xm_S) (P : xm_O → xm_H → Prop) (K : List ym_F) (k pc m : Nat) : ym_G := fun t L st s => ym_Go sc P K (k, (match t with
  | none => pc + m
  | some q => q), L, st) s
theorem ym_r {i : ClassFile.Instr} {m : Nat} (H : ym_Hy sc K) (hi : xm_ins k pc = some (i, m)) (hx : ym_x sc P K k pc i m L st s (ym_kc sc P K k pc m)) : ym_Go sc P K (k, pc, L, st) s := ym_x_ok H.1 H.2 hi hx (fun _ _ _ _ h => h)
theorem yr_iconst {a : Int} (H : ym_Hy sc K) (hi : xm_ins k pc = some (.iconst a, 1))  (hq : pc + 1 = q) (kk : ym_Go sc P K (k, q, L, ym_I a :: st) s) : ym_Go sc P K (k, pc, L, st) s := by
  subst hq
  exact ym_r H hi kk
theorem yr_bipush {a : Int} (H : ym_Hy sc K) (hi : xm_ins k pc = some (.bipush a, 2) ∧ (decide (-128 ≤ a) && decide (a < 128)) = true)  (hq : pc + 2 = q) (kk : ym_Go sc P K (k, q, L, ym_I a :: st) s) : ym_Go sc P K (k, pc, L, st) s := by
  subst hq
  refine ym_r H hi.1 ?_
  show ym_ck (decide (-128 ≤ a) && decide (a < 128)) _
  rw [hi.2]
  exact kk
theorem yr_sipush {a : Int} (H : ym_Hy sc K) (hi : xm_ins k pc = some (.sipush a, 3) ∧ (decide (-32768 ≤ a) && decide (a < 32768)) = true)  (hq : pc + 3 = q) (kk : ym_Go sc P K (k, q, L, ym_I a :: st) s) : ym_Go sc P K (k, pc, L, st) s := by
  subst hq
  refine ym_r H hi.1 ?_
  show ym_ck (decide (-32768 ≤ a) && decide (a < 32768)) _
  rw [hi.2]
  exact kk
theorem yr_lconst {a : Fin 2} (H : ym_Hy sc K) (hi : xm_ins k pc = some (.lconst a, 1))  (hq : pc + 1 = q) (kk : ym_Go sc P K (k, q, L, ym_J (Int64.ofNat (a : Nat)) :: st) s) : ym_Go sc P K (k, pc, L, st) s := by
  subst hq
  exact ym_r H hi kk
theorem yr_null  (H : ym_Hy sc K) (hi : xm_ins k pc = some (.aconst_null, 1))  (hq : pc + 1 = q) (kk : ym_Go sc P K (k, q, L, ym_N :: st) s) : ym_Go sc P K (k, pc, L, st) s := by
  subst hq
  exact ym_r H hi kk
theorem yr_ldc {a : Nat} {v : Int} (H : ym_Hy sc K) (hi : xm_ins k pc = some (.ldc a, 2) ∧ ym_ki k a = some v)  (hq : pc + 2 = q) (kk : ym_Go sc P K (k, q, L, ym_I v :: st) s) : ym_Go sc P K (k, pc, L, st) s := by
  subst hq
  refine ym_r H hi.1 ?_
  show (match ym_ki k a with
    | some v => _
    | none => False)
  rw [hi.2]
  exact kk
theorem yr_ldc2 {a : Nat} {v : Int64} (H : ym_Hy sc K) (hi : xm_ins k pc = some (.ldc2_w a, 3) ∧ xm_kl k a = some v)  (hq : pc + 3 = q) (kk : ym_Go sc P K (k, q, L, ym_J v :: st) s) : ym_Go sc P K (k, pc, L, st) s := by
  subst hq
  refine ym_r H hi.1 ?_
  show (match xm_kl k a with
    | some v => _
    | none => False)
  rw [hi.2]
  exact kk
theorem yr_iln {a : Fin 4} {x : Int} (H : ym_Hy sc K) (hi : xm_ins k pc = some (.iload_n a, 1)) (hv : ym_ld L a = some (ym_I x)) (hq : pc + 1 = q) (kk : ym_Go sc P K (k, q, L, (ym_I x) :: st) s) : ym_Go sc P K (k, pc, L, st) s := by
  subst hq
  refine ym_r H hi ?_
  show ym_ilo L st s (ym_kc sc P K k pc 1) a
  unfold ym_ilo
  rw [hv]
  exact kk
theorem yr_il {a : Nat} {x : Int} (H : ym_Hy sc K) (hi : xm_ins k pc = some (.iload a, 2)) (hv : ym_ld L a = some (ym_I x)) (hq : pc + 2 = q) (kk : ym_Go sc P K (k, q, L, (ym_I x) :: st) s) : ym_Go sc P K (k, pc, L, st) s := by
  subst hq
  refine ym_r H hi ?_
  show ym_ilo L st s (ym_kc sc P K k pc 2) a
  unfold ym_ilo
  rw [hv]
  exact kk
theorem yr_lln {a : Fin 4} {x : Int64} (H : ym_Hy sc K) (hi : xm_ins k pc = some (.lload_n a, 1)) (hv : ym_ld L a = some (ym_J x)) (hq : pc + 1 = q) (kk : ym_Go sc P K (k, q, L, (ym_J x) :: st) s) : ym_Go sc P K (k, pc, L, st) s := by
  subst hq
  refine ym_r H hi ?_
  show ym_llo L st s (ym_kc sc P K k pc 1) a
  unfold ym_llo
  rw [hv]
  exact kk
theorem yr_ll {a : Nat} {x : Int64} (H : ym_Hy sc K) (hi : xm_ins k pc = some (.lload a, 2)) (hv : ym_ld L a = some (ym_J x)) (hq : pc + 2 = q) (kk : ym_Go sc P K (k, q, L, (ym_J x) :: st) s) : ym_Go sc P K (k, pc, L, st) s := by
  subst hq
  refine ym_r H hi ?_
  show ym_llo L st s (ym_kc sc P K k pc 2) a
  unfold ym_llo
  rw [hv]
  exact kk
theorem yr_aln {a : Fin 4} {x : Option (Bool × Nat)} (H : ym_Hy sc K) (hi : xm_ins k pc = some (.aload_n a, 1)) (hv : ym_ld L a = some (.inr x)) (hq : pc + 1 = q) (kk : ym_Go sc P K (k, q, L, (.inr x) :: st) s) : ym_Go sc P K (k, pc, L, st) s := by
  subst hq
  refine ym_r H hi ?_
  show ym_alo L st s (ym_kc sc P K k pc 1) a
  unfold ym_alo
  rw [hv]
  exact kk
theorem yr_al {a : Nat} {x : Option (Bool × Nat)} (H : ym_Hy sc K) (hi : xm_ins k pc = some (.aload a, 2)) (hv : ym_ld L a = some (.inr x)) (hq : pc + 2 = q) (kk : ym_Go sc P K (k, q, L, (.inr x) :: st) s) : ym_Go sc P K (k, pc, L, st) s := by
  subst hq
  refine ym_r H hi ?_
  show ym_alo L st s (ym_kc sc P K k pc 2) a
  unfold ym_alo
  rw [hv]
  exact kk
theorem yr_isn {a : Fin 4} {x : Int} (H : ym_Hy sc K) (hi : xm_ins k pc = some (.istore_n a, 1)) (hb : Nat.blt a L.length = true) (hL : (ym_clr L a).set a (some (ym_I x)) = L2) (hq : pc + 1 = q) (kk : ym_Go sc P K (k, q, L2, st) s) : ym_Go sc P K (k, pc, L, (ym_I x) :: st) s := by
  subst hq
  subst hL
  refine ym_r H hi ?_
  show ym_ck (Nat.blt a L.length) _
  rw [hb]
  exact kk
theorem yr_is {a : Nat} {x : Int} (H : ym_Hy sc K) (hi : xm_ins k pc = some (.istore a, 2)) (hb : Nat.blt a L.length = true) (hL : (ym_clr L a).set a (some (ym_I x)) = L2) (hq : pc + 2 = q) (kk : ym_Go sc P K (k, q, L2, st) s) : ym_Go sc P K (k, pc, L, (ym_I x) :: st) s := by
  subst hq
  subst hL
  refine ym_r H hi ?_
  show ym_ck (Nat.blt a L.length) _
  rw [hb]
  exact kk
theorem yr_asn {a : Fin 4} {x : Option (Bool × Nat)} (H : ym_Hy sc K) (hi : xm_ins k pc = some (.astore_n a, 1)) (hb : Nat.blt a L.length = true) (hL : (ym_clr L a).set a (some (.inr x)) = L2) (hq : pc + 1 = q) (kk : ym_Go sc P K (k, q, L2, st) s) : ym_Go sc P K (k, pc, L, (.inr x) :: st) s := by
  subst hq
  subst hL
  refine ym_r H hi ?_
  show ym_ck (Nat.blt a L.length) _
  rw [hb]
  exact kk
theorem yr_as {a : Nat} {x : Option (Bool × Nat)} (H : ym_Hy sc K) (hi : xm_ins k pc = some (.astore a, 2)) (hb : Nat.blt a L.length = true) (hL : (ym_clr L a).set a (some (.inr x)) = L2) (hq : pc + 2 = q) (kk : ym_Go sc P K (k, q, L2, st) s) : ym_Go sc P K (k, pc, L, (.inr x) :: st) s := by
  subst hq
  subst hL
  refine ym_r H hi ?_
  show ym_ck (Nat.blt a L.length) _
  rw [hb]
  exact kk
theorem yr_lsn {a : Fin 4} {x : Int64} (H : ym_Hy sc K) (hi : xm_ins k pc = some (.lstore_n a, 1)) (hb : Nat.blt (a + 1) L.length = true) (hL : ((ym_clr L a).set a (some (ym_J x))).set (a + 1) none = L2) (hq : pc + 1 = q) (kk : ym_Go sc P K (k, q, L2, st) s) : ym_Go sc P K (k, pc, L, ym_J x :: st) s := by
  subst hq
  subst hL
  refine ym_r H hi ?_
  show ym_ck (Nat.blt (a + 1) L.length) _
  rw [hb]
  exact kk
theorem yr_iinc {a : Nat} {z x : Int} (H : ym_Hy sc K) (hi : xm_ins k pc = some (.iinc a z, 3)) (hv : ym_ld L a = some (ym_I x)) (hb : Nat.blt a L.length = true) (hL : (ym_clr L a).set a (some (ym_I (x + z))) = L2) (hq : pc + 3 = q) (kk : ym_Go sc P K (k, q, L2, st) s) : ym_Go sc P K (k, pc, L, st) s := by
  subst hq
  subst hL
  refine ym_r H hi ?_
  show ym_inc L st s (ym_kc sc P K k pc 3) a z
  unfold ym_inc
  rw [hv]
  show ym_ck (Nat.blt a L.length) _
  rw [hb]
  exact kk
theorem yr_iadd {x y : Int} (H : ym_Hy sc K) (hi : xm_ins k pc = some (.iadd, 1))  (hq : pc + 1 = q) (kk : ym_Go sc P K (k, q, L, ym_I (x + y) :: st) s) : ym_Go sc P K (k, pc, L, ym_I y :: ym_I x :: st) s := by
  subst hq
  exact ym_r H hi kk
theorem yr_isub {x y : Int} (H : ym_Hy sc K) (hi : xm_ins k pc = some (.isub, 1))  (hq : pc + 1 = q) (kk : ym_Go sc P K (k, q, L, ym_I (x - y) :: st) s) : ym_Go sc P K (k, pc, L, ym_I y :: ym_I x :: st) s := by
  subst hq
  exact ym_r H hi kk
theorem yr_imul {x y : Int} (H : ym_Hy sc K) (hi : xm_ins k pc = some (.imul, 1))  (hq : pc + 1 = q) (kk : ym_Go sc P K (k, q, L, ym_I (x * y) :: st) s) : ym_Go sc P K (k, pc, L, ym_I y :: ym_I x :: st) s := by
  subst hq
  exact ym_r H hi kk
theorem yr_iand {x y : Int} (H : ym_Hy sc K) (hi : xm_ins k pc = some (.iand, 1))  (hq : pc + 1 = q) (kk : ym_Go sc P K (k, q, L, ym_I (ym_and x y) :: st) s) : ym_Go sc P K (k, pc, L, ym_I y :: ym_I x :: st) s := by
  subst hq
  exact ym_r H hi kk
theorem yr_ior {x y : Int} (H : ym_Hy sc K) (hi : xm_ins k pc = some (.ior, 1))  (hq : pc + 1 = q) (kk : ym_Go sc P K (k, q, L, ym_I (ym_or x y) :: st) s) : ym_Go sc P K (k, pc, L, ym_I y :: ym_I x :: st) s := by
  subst hq
  exact ym_r H hi kk
theorem yr_ishl {x y : Int} (H : ym_Hy sc K) (hi : xm_ins k pc = some (.ishl, 1))  (hq : pc + 1 = q) (kk : ym_Go sc P K (k, q, L, ym_I (ym_shl x y) :: st) s) : ym_Go sc P K (k, pc, L, ym_I y :: ym_I x :: st) s := by
  subst hq
  exact ym_r H hi kk
theorem yr_ishr {x y : Int} (H : ym_Hy sc K) (hi : xm_ins k pc = some (.ishr, 1))  (hq : pc + 1 = q) (kk : ym_Go sc P K (k, q, L, ym_I (ym_shr x y) :: st) s) : ym_Go sc P K (k, pc, L, ym_I y :: ym_I x :: st) s := by
  subst hq
  exact ym_r H hi kk
theorem yr_idiv {x y : Int} (H : ym_Hy sc K) (hi : xm_ins k pc = some (.idiv, 1)) (hc : (decide (0 < y) && decide (y < 2147483648)) = true) (hq : pc + 1 = q) (kk : ym_Go sc P K (k, q, L, ym_I (ym_div x y) :: st) s) : ym_Go sc P K (k, pc, L, ym_I y :: ym_I x :: st) s := by
  subst hq
  refine ym_r H hi ?_
  show ym_ck (decide (0 < y) && decide (y < 2147483648)) _
  rw [hc]
  exact kk
theorem yr_irem {x y : Int} (H : ym_Hy sc K) (hi : xm_ins k pc = some (.irem, 1)) (hc : (decide (0 < y) && decide (y < 2147483648)) = true) (hq : pc + 1 = q) (kk : ym_Go sc P K (k, q, L, ym_I (ym_rem x y) :: st) s) : ym_Go sc P K (k, pc, L, ym_I y :: ym_I x :: st) s := by
  subst hq
  refine ym_r H hi ?_
  show ym_ck (decide (0 < y) && decide (y < 2147483648)) _
  rw [hc]
  exact kk
theorem yr_ladd {x y : Int64} (H : ym_Hy sc K) (hi : xm_ins k pc = some (.ladd, 1))  (hq : pc + 1 = q) (kk : ym_Go sc P K (k, q, L, ym_J (x + y) :: st) s) : ym_Go sc P K (k, pc, L, ym_J y :: ym_J x :: st) s := by
  subst hq
  exact ym_r H hi kk
theorem yr_lmul {x y : Int64} (H : ym_Hy sc K) (hi : xm_ins k pc = some (.lmul, 1))  (hq : pc + 1 = q) (kk : ym_Go sc P K (k, q, L, ym_J (x * y) :: st) s) : ym_Go sc P K (k, pc, L, ym_J y :: ym_J x :: st) s := by
  subst hq
  exact ym_r H hi kk
theorem yr_land {x y : Int64} (H : ym_Hy sc K) (hi : xm_ins k pc = some (.land, 1))  (hq : pc + 1 = q) (kk : ym_Go sc P K (k, q, L, ym_J (x &&& y) :: st) s) : ym_Go sc P K (k, pc, L, ym_J y :: ym_J x :: st) s := by
  subst hq
  exact ym_r H hi kk
theorem yr_lor {x y : Int64} (H : ym_Hy sc K) (hi : xm_ins k pc = some (.lor, 1))  (hq : pc + 1 = q) (kk : ym_Go sc P K (k, q, L, ym_J (x ||| y) :: st) s) : ym_Go sc P K (k, pc, L, ym_J y :: ym_J x :: st) s := by
  subst hq
  exact ym_r H hi kk
theorem yr_lshl {x : Int64} {y : Int} (H : ym_Hy sc K) (hi : xm_ins k pc = some (.lshl, 1))  (hq : pc + 1 = q) (kk : ym_Go sc P K (k, q, L, ym_J (ym_lshl x y) :: st) s) : ym_Go sc P K (k, pc, L, ym_I y :: ym_J x :: st) s := by
  subst hq
  exact ym_r H hi kk
theorem yr_lshr {x : Int64} {y : Int} (H : ym_Hy sc K) (hi : xm_ins k pc = some (.lshr, 1))  (hq : pc + 1 = q) (kk : ym_Go sc P K (k, q, L, ym_J (ym_lshr x y) :: st) s) : ym_Go sc P K (k, pc, L, ym_I y :: ym_J x :: st) s := by
  subst hq
  exact ym_r H hi kk
theorem yr_lushr {x : Int64} {y : Int} (H : ym_Hy sc K) (hi : xm_ins k pc = some (.lushr, 1))  (hq : pc + 1 = q) (kk : ym_Go sc P K (k, q, L, ym_J (ym_lus x y) :: st) s) : ym_Go sc P K (k, pc, L, ym_I y :: ym_J x :: st) s := by
  subst hq
  exact ym_r H hi kk
theorem yr_lcmp {x y : Int64} (H : ym_Hy sc K) (hi : xm_ins k pc = some (.lcmp, 1))  (hq : pc + 1 = q) (kk : ym_Go sc P K (k, q, L, ym_I (ym_cmp x y) :: st) s) : ym_Go sc P K (k, pc, L, ym_J y :: ym_J x :: st) s := by
  subst hq
  exact ym_r H hi kk
theorem yr_i2l {x : Int} (H : ym_Hy sc K) (hi : xm_ins k pc = some (.i2l, 1))  (hq : pc + 1 = q) (kk : ym_Go sc P K (k, q, L, ym_J (ym_i2l x) :: st) s) : ym_Go sc P K (k, pc, L, ym_I x :: st) s := by
  subst hq
  exact ym_r H hi kk
theorem yr_l2i {x : Int64} (H : ym_Hy sc K) (hi : xm_ins k pc = some (.l2i, 1))  (hq : pc + 1 = q) (kk : ym_Go sc P K (k, q, L, ym_I (ym_l2i x) :: st) s) : ym_Go sc P K (k, pc, L, ym_J x :: st) s := by
  subst hq
  exact ym_r H hi kk
theorem yr_dup {v : ym_V} (H : ym_Hy sc K) (hi : xm_ins k pc = some (.dup, 1)) (hc : Nat.beq (ym_ct v) 1 = true) (hq : pc + 1 = q) (kk : ym_Go sc P K (k, q, L, v :: v :: st) s) : ym_Go sc P K (k, pc, L, v :: st) s := by
  subst hq
  refine ym_r H hi ?_
  show ym_ck (Nat.beq (ym_ct v) 1) _
  rw [hc]
  exact kk
theorem yr_dup2 {v w : ym_V} (H : ym_Hy sc K) (hi : xm_ins k pc = some (.dup2, 1)) (hc : (Nat.beq (ym_ct v) 1 && Nat.beq (ym_ct w) 1) = true) (hq : pc + 1 = q) (kk : ym_Go sc P K (k, q, L, v :: w :: v :: w :: st) s) : ym_Go sc P K (k, pc, L, v :: w :: st) s := by
  subst hq
  refine ym_r H hi ?_
  show ym_ck (Nat.beq (ym_ct v) 1 && Nat.beq (ym_ct w) 1) _
  rw [hc]
  exact kk
theorem yr_ic_eq {off x y : Int} (H : ym_Hy sc K) (hi : xm_ins k pc = some (.if_icmp .eq off, 3) ∧ ym_jk pc off = true ∧ xm_tg pc off = t ∧ pc + 3 = q) (hx : ym_in x) (hy : ym_in y) (k1 : x = y → ym_Go sc P K (k, t, L, st) s) (k2 : ¬ x = y → ym_Go sc P K (k, q, L, st) s) : ym_Go sc P K (k, pc, L, ym_I y :: ym_I x :: st) s := by
  obtain ⟨hi, hj, rfl, rfl⟩ := hi
  refine ym_r H hi ?_
  show ym_ck (ym_jk pc off) _
  rw [hj]
  exact ⟨hx, hy, k1, k2⟩
theorem yr_if_eq {off x : Int} (H : ym_Hy sc K) (hi : xm_ins k pc = some (.ifCond .eq off, 3) ∧ ym_jk pc off = true ∧ xm_tg pc off = t ∧ pc + 3 = q) (hx : ym_in x) (k1 : x = 0 → ym_Go sc P K (k, t, L, st) s) (k2 : ¬ x = 0 → ym_Go sc P K (k, q, L, st) s) : ym_Go sc P K (k, pc, L, ym_I x :: st) s := by
  obtain ⟨hi, hj, rfl, rfl⟩ := hi
  refine ym_r H hi ?_
  show ym_ck (ym_jk pc off) _
  rw [hj]
  exact ⟨hx, ym_in0, k1, k2⟩
theorem yr_ic_ne {off x y : Int} (H : ym_Hy sc K) (hi : xm_ins k pc = some (.if_icmp .ne off, 3) ∧ ym_jk pc off = true ∧ xm_tg pc off = t ∧ pc + 3 = q) (hx : ym_in x) (hy : ym_in y) (k1 : x = y → ym_Go sc P K (k, q, L, st) s) (k2 : ¬ x = y → ym_Go sc P K (k, t, L, st) s) : ym_Go sc P K (k, pc, L, ym_I y :: ym_I x :: st) s := by
  obtain ⟨hi, hj, rfl, rfl⟩ := hi
  refine ym_r H hi ?_
  show ym_ck (ym_jk pc off) _
  rw [hj]
  exact ⟨hx, hy, k1, k2⟩
theorem yr_if_ne {off x : Int} (H : ym_Hy sc K) (hi : xm_ins k pc = some (.ifCond .ne off, 3) ∧ ym_jk pc off = true ∧ xm_tg pc off = t ∧ pc + 3 = q) (hx : ym_in x) (k1 : x = 0 → ym_Go sc P K (k, q, L, st) s) (k2 : ¬ x = 0 → ym_Go sc P K (k, t, L, st) s) : ym_Go sc P K (k, pc, L, ym_I x :: st) s := by
  obtain ⟨hi, hj, rfl, rfl⟩ := hi
  refine ym_r H hi ?_
  show ym_ck (ym_jk pc off) _
  rw [hj]
  exact ⟨hx, ym_in0, k1, k2⟩
theorem yr_ic_lt {off x y : Int} (H : ym_Hy sc K) (hi : xm_ins k pc = some (.if_icmp .lt off, 3) ∧ ym_jk pc off = true ∧ xm_tg pc off = t ∧ pc + 3 = q) (hx : ym_in x) (hy : ym_in y) (k1 : x < y → ym_Go sc P K (k, t, L, st) s) (k2 : y ≤ x → ym_Go sc P K (k, q, L, st) s) : ym_Go sc P K (k, pc, L, ym_I y :: ym_I x :: st) s := by
  obtain ⟨hi, hj, rfl, rfl⟩ := hi
  refine ym_r H hi ?_
  show ym_ck (ym_jk pc off) _
  rw [hj]
  exact ⟨hx, hy, k1, k2⟩
theorem yr_if_lt {off x : Int} (H : ym_Hy sc K) (hi : xm_ins k pc = some (.ifCond .lt off, 3) ∧ ym_jk pc off = true ∧ xm_tg pc off = t ∧ pc + 3 = q) (hx : ym_in x) (k1 : x < 0 → ym_Go sc P K (k, t, L, st) s) (k2 : 0 ≤ x → ym_Go sc P K (k, q, L, st) s) : ym_Go sc P K (k, pc, L, ym_I x :: st) s := by
  obtain ⟨hi, hj, rfl, rfl⟩ := hi
  refine ym_r H hi ?_
  show ym_ck (ym_jk pc off) _
  rw [hj]
  exact ⟨hx, ym_in0, k1, k2⟩
theorem yr_ic_ge {off x y : Int} (H : ym_Hy sc K) (hi : xm_ins k pc = some (.if_icmp .ge off, 3) ∧ ym_jk pc off = true ∧ xm_tg pc off = t ∧ pc + 3 = q) (hx : ym_in x) (hy : ym_in y) (k1 : x < y → ym_Go sc P K (k, q, L, st) s) (k2 : y ≤ x → ym_Go sc P K (k, t, L, st) s) : ym_Go sc P K (k, pc, L, ym_I y :: ym_I x :: st) s := by
  obtain ⟨hi, hj, rfl, rfl⟩ := hi
  refine ym_r H hi ?_
  show ym_ck (ym_jk pc off) _
  rw [hj]
  exact ⟨hx, hy, k1, k2⟩
theorem yr_if_ge {off x : Int} (H : ym_Hy sc K) (hi : xm_ins k pc = some (.ifCond .ge off, 3) ∧ ym_jk pc off = true ∧ xm_tg pc off = t ∧ pc + 3 = q) (hx : ym_in x) (k1 : x < 0 → ym_Go sc P K (k, q, L, st) s) (k2 : 0 ≤ x → ym_Go sc P K (k, t, L, st) s) : ym_Go sc P K (k, pc, L, ym_I x :: st) s := by
  obtain ⟨hi, hj, rfl, rfl⟩ := hi
  refine ym_r H hi ?_
  show ym_ck (ym_jk pc off) _
  rw [hj]
  exact ⟨hx, ym_in0, k1, k2⟩
theorem yr_ic_gt {off x y : Int} (H : ym_Hy sc K) (hi : xm_ins k pc = some (.if_icmp .gt off, 3) ∧ ym_jk pc off = true ∧ xm_tg pc off = t ∧ pc + 3 = q) (hx : ym_in x) (hy : ym_in y) (k1 : y < x → ym_Go sc P K (k, t, L, st) s) (k2 : x ≤ y → ym_Go sc P K (k, q, L, st) s) : ym_Go sc P K (k, pc, L, ym_I y :: ym_I x :: st) s := by
  obtain ⟨hi, hj, rfl, rfl⟩ := hi
  refine ym_r H hi ?_
  show ym_ck (ym_jk pc off) _
  rw [hj]
  exact ⟨hx, hy, k1, k2⟩
theorem yr_if_gt {off x : Int} (H : ym_Hy sc K) (hi : xm_ins k pc = some (.ifCond .gt off, 3) ∧ ym_jk pc off = true ∧ xm_tg pc off = t ∧ pc + 3 = q) (hx : ym_in x) (k1 : 0 < x → ym_Go sc P K (k, t, L, st) s) (k2 : x ≤ 0 → ym_Go sc P K (k, q, L, st) s) : ym_Go sc P K (k, pc, L, ym_I x :: st) s := by
  obtain ⟨hi, hj, rfl, rfl⟩ := hi
  refine ym_r H hi ?_
  show ym_ck (ym_jk pc off) _
  rw [hj]
  exact ⟨hx, ym_in0, k1, k2⟩
theorem yr_ic_le {off x y : Int} (H : ym_Hy sc K) (hi : xm_ins k pc = some (.if_icmp .le off, 3) ∧ ym_jk pc off = true ∧ xm_tg pc off = t ∧ pc + 3 = q) (hx : ym_in x) (hy : ym_in y) (k1 : y < x → ym_Go sc P K (k, q, L, st) s) (k2 : x ≤ y → ym_Go sc P K (k, t, L, st) s) : ym_Go sc P K (k, pc, L, ym_I y :: ym_I x :: st) s := by
  obtain ⟨hi, hj, rfl, rfl⟩ := hi
  refine ym_r H hi ?_
  show ym_ck (ym_jk pc off) _
  rw [hj]
  exact ⟨hx, hy, k1, k2⟩
theorem yr_if_le {off x : Int} (H : ym_Hy sc K) (hi : xm_ins k pc = some (.ifCond .le off, 3) ∧ ym_jk pc off = true ∧ xm_tg pc off = t ∧ pc + 3 = q) (hx : ym_in x) (k1 : 0 < x → ym_Go sc P K (k, q, L, st) s) (k2 : x ≤ 0 → ym_Go sc P K (k, t, L, st) s) : ym_Go sc P K (k, pc, L, ym_I x :: st) s := by
  obtain ⟨hi, hj, rfl, rfl⟩ := hi
  refine ym_r H hi ?_
  show ym_ck (ym_jk pc off) _
  rw [hj]
  exact ⟨hx, ym_in0, k1, k2⟩
theorem yr_ifnull_n {off : Int} (H : ym_Hy sc K) (hi : xm_ins k pc = some (.ifnull off, 3) ∧ ym_jk pc off = true ∧ xm_tg pc off = t ∧ pc + 3 = q) (kk : ym_Go sc P K (k, t, L, st) s) : ym_Go sc P K (k, pc, L, ym_N :: st) s := by
  obtain ⟨hi, hj, rfl, rfl⟩ := hi
  refine ym_r H hi ?_
  show ym_ck (ym_jk pc off) _
  rw [hj]
  exact kk
theorem yr_ifnull_s {off : Int} {x : Bool × Nat} (H : ym_Hy sc K) (hi : xm_ins k pc = some (.ifnull off, 3) ∧ ym_jk pc off = true ∧ xm_tg pc off = t ∧ pc + 3 = q) (kk : ym_Go sc P K (k, q, L, st) s) : ym_Go sc P K (k, pc, L, .inr (some x) :: st) s := by
  obtain ⟨hi, hj, rfl, rfl⟩ := hi
  refine ym_r H hi ?_
  show ym_ck (ym_jk pc off) _
  rw [hj]
  exact kk
theorem yr_ifnonnull_n {off : Int} (H : ym_Hy sc K) (hi : xm_ins k pc = some (.ifnonnull off, 3) ∧ ym_jk pc off = true ∧ xm_tg pc off = t ∧ pc + 3 = q) (kk : ym_Go sc P K (k, q, L, st) s) : ym_Go sc P K (k, pc, L, ym_N :: st) s := by
  obtain ⟨hi, hj, rfl, rfl⟩ := hi
  refine ym_r H hi ?_
  show ym_ck (ym_jk pc off) _
  rw [hj]
  exact kk
theorem yr_ifnonnull_s {off : Int} {x : Bool × Nat} (H : ym_Hy sc K) (hi : xm_ins k pc = some (.ifnonnull off, 3) ∧ ym_jk pc off = true ∧ xm_tg pc off = t ∧ pc + 3 = q) (kk : ym_Go sc P K (k, t, L, st) s) : ym_Go sc P K (k, pc, L, .inr (some x) :: st) s := by
  obtain ⟨hi, hj, rfl, rfl⟩ := hi
  refine ym_r H hi ?_
  show ym_ck (ym_jk pc off) _
  rw [hj]
  exact kk
theorem yr_goto {off : Int} (H : ym_Hy sc K) (hi : xm_ins k pc = some (.goto off, 3) ∧ ym_jk pc off = true ∧ xm_tg pc off = t) (kk : ym_Go sc P K (k, t, L, st) s) : ym_Go sc P K (k, pc, L, st) s := by
  obtain ⟨hi, hj, rfl⟩ := hi
  refine ym_r H hi ?_
  show ym_ck (ym_jk pc off) _
  rw [hj]
  exact kk
theorem yr_tsw {d lo hi2 : Int} {offs : Array Int} {m : Nat} (H : ym_Hy sc K) (hi : xm_ins k pc = some (.tableswitch d lo hi2 offs, m)) (hx : ym_sw1 L st s (ym_kc sc P K k pc m) pc d lo hi2 offs.toList) : ym_Go sc P K (k, pc, L, st) s := ym_r H hi hx
theorem yr_lsw {d : Int} {ps : Array (Int × Int)} {m : Nat} (H : ym_Hy sc K) (hi : xm_ins k pc = some (.lookupswitch d ps, m)) (hx : ym_sw2 L st s (ym_kc sc P K k pc m) pc d ps.toList) : ym_Go sc P K (k, pc, L, st) s := ym_r H hi hx
theorem yr_gI {a ci j c : Nat} {x : Int} (H : ym_Hy sc K) (hi : xm_ins k pc = some (.getfield a, 3) ∧ xm_cp k a = some (0, ci, j) ∧ Nat.blt j (xm_def ci).length = true ∧ ym_fk ci j = 0 ∧ ym_isb c (ci + 4) = true) (hr : s.1 c j = x) (hq : pc + 3 = q) (kk : ym_in x → ym_Go sc P K (k, q, L, ym_I x :: st) s) : ym_Go sc P K (k, pc, L, ym_P c :: st) s := by
  subst hq
  subst hr
  obtain ⟨h0, h1, h2, h3, h4⟩ := hi
  refine ym_r H h0 ?_
  show ym_gf L _ s (ym_kc sc P K k pc 3) (xm_cp k a)
  rw [h1]
  show ym_ck (ym_isb c (ci + 4)) _
  rw [h4]
  show ym_ck (Nat.blt j (xm_def ci).length) (match ym_fk ci j with
    | 0 => ym_in (s.1 c j) → ym_Go sc P K (k, pc + 3, L, ym_I (s.1 c j) :: st) s
    | 1 => ym_in (s.1 c j) → ym_Go sc P K (k, pc + 3, L, ym_I (s.1 c j) :: st) s
    | 2 => ym_Go sc P K (k, pc + 3, L, ym_J (s.2.1 c j) :: st) s
    | 3 => ym_rd s true c j (fun v => ym_Go sc P K (k, pc + 3, L, v :: st) s)
    | _ => False)
  rw [h2, h3]
  exact kk
theorem yr_gIq {a ci j c : Nat} {x : Int} (H : ym_Hy sc K) (hi : xm_ins k pc = some (.getfield a, 3) ∧ xm_cp k a = some (0, ci, j) ∧ Nat.blt j (xm_def ci).length = true ∧ ym_fk ci j = 0) (hT : ym_T s c = some (ci + 4, 0)) (hr : s.1 c j = x) (hq : pc + 3 = q) (kk : ym_in x → ym_Go sc P K (k, q, L, ym_I x :: st) s) : ym_Go sc P K (k, pc, L, ym_Q c :: st) s := by
  subst hq
  subst hr
  obtain ⟨h0, h1, h2, h3⟩ := hi
  refine ym_r H h0 ?_
  show ym_gf L _ s (ym_kc sc P K k pc 3) (xm_cp k a)
  rw [h1]
  refine ⟨hT, ?_⟩
  show ym_ck (Nat.blt j (xm_def ci).length) (match ym_fk ci j with
    | 0 => ym_in (s.1 c j) → ym_Go sc P K (k, pc + 3, L, ym_I (s.1 c j) :: st) s
    | 1 => ym_in (s.1 c j) → ym_Go sc P K (k, pc + 3, L, ym_I (s.1 c j) :: st) s
    | 2 => ym_Go sc P K (k, pc + 3, L, ym_J (s.2.1 c j) :: st) s
    | 3 => ym_rd s false c j (fun v => ym_Go sc P K (k, pc + 3, L, v :: st) s)
    | _ => False)
  rw [h2, h3]
  exact kk
theorem yr_gZ {a ci j c : Nat} {x : Int} (H : ym_Hy sc K) (hi : xm_ins k pc = some (.getfield a, 3) ∧ xm_cp k a = some (0, ci, j) ∧ Nat.blt j (xm_def ci).length = true ∧ ym_fk ci j = 1 ∧ ym_isb c (ci + 4) = true) (hr : s.1 c j = x) (hq : pc + 3 = q) (kk : ym_in x → ym_Go sc P K (k, q, L, ym_I x :: st) s) : ym_Go sc P K (k, pc, L, ym_P c :: st) s := by
  subst hq
  subst hr
  obtain ⟨h0, h1, h2, h3, h4⟩ := hi
  refine ym_r H h0 ?_
  show ym_gf L _ s (ym_kc sc P K k pc 3) (xm_cp k a)
  rw [h1]
  show ym_ck (ym_isb c (ci + 4)) _
  rw [h4]
  show ym_ck (Nat.blt j (xm_def ci).length) (match ym_fk ci j with
    | 0 => ym_in (s.1 c j) → ym_Go sc P K (k, pc + 3, L, ym_I (s.1 c j) :: st) s
    | 1 => ym_in (s.1 c j) → ym_Go sc P K (k, pc + 3, L, ym_I (s.1 c j) :: st) s
    | 2 => ym_Go sc P K (k, pc + 3, L, ym_J (s.2.1 c j) :: st) s
    | 3 => ym_rd s true c j (fun v => ym_Go sc P K (k, pc + 3, L, v :: st) s)
    | _ => False)
  rw [h2, h3]
  exact kk
theorem yr_gZq {a ci j c : Nat} {x : Int} (H : ym_Hy sc K) (hi : xm_ins k pc = some (.getfield a, 3) ∧ xm_cp k a = some (0, ci, j) ∧ Nat.blt j (xm_def ci).length = true ∧ ym_fk ci j = 1) (hT : ym_T s c = some (ci + 4, 0)) (hr : s.1 c j = x) (hq : pc + 3 = q) (kk : ym_in x → ym_Go sc P K (k, q, L, ym_I x :: st) s) : ym_Go sc P K (k, pc, L, ym_Q c :: st) s := by
  subst hq
  subst hr
  obtain ⟨h0, h1, h2, h3⟩ := hi
  refine ym_r H h0 ?_
  show ym_gf L _ s (ym_kc sc P K k pc 3) (xm_cp k a)
  rw [h1]
  refine ⟨hT, ?_⟩
  show ym_ck (Nat.blt j (xm_def ci).length) (match ym_fk ci j with
    | 0 => ym_in (s.1 c j) → ym_Go sc P K (k, pc + 3, L, ym_I (s.1 c j) :: st) s
    | 1 => ym_in (s.1 c j) → ym_Go sc P K (k, pc + 3, L, ym_I (s.1 c j) :: st) s
    | 2 => ym_Go sc P K (k, pc + 3, L, ym_J (s.2.1 c j) :: st) s
    | 3 => ym_rd s false c j (fun v => ym_Go sc P K (k, pc + 3, L, v :: st) s)
    | _ => False)
  rw [h2, h3]
  exact kk
theorem yr_gJ {a ci j c : Nat} {x : Int64} (H : ym_Hy sc K) (hi : xm_ins k pc = some (.getfield a, 3) ∧ xm_cp k a = some (0, ci, j) ∧ Nat.blt j (xm_def ci).length = true ∧ ym_fk ci j = 2 ∧ ym_isb c (ci + 4) = true) (hr : s.2.1 c j = x) (hq : pc + 3 = q) (kk : ym_Go sc P K (k, q, L, ym_J x :: st) s) : ym_Go sc P K (k, pc, L, ym_P c :: st) s := by
  subst hq
  subst hr
  obtain ⟨h0, h1, h2, h3, h4⟩ := hi
  refine ym_r H h0 ?_
  show ym_gf L _ s (ym_kc sc P K k pc 3) (xm_cp k a)
  rw [h1]
  show ym_ck (ym_isb c (ci + 4)) _
  rw [h4]
  show ym_ck (Nat.blt j (xm_def ci).length) (match ym_fk ci j with
    | 0 => ym_in (s.1 c j) → ym_Go sc P K (k, pc + 3, L, ym_I (s.1 c j) :: st) s
    | 1 => ym_in (s.1 c j) → ym_Go sc P K (k, pc + 3, L, ym_I (s.1 c j) :: st) s
    | 2 => ym_Go sc P K (k, pc + 3, L, ym_J (s.2.1 c j) :: st) s
    | 3 => ym_rd s true c j (fun v => ym_Go sc P K (k, pc + 3, L, v :: st) s)
    | _ => False)
  rw [h2, h3]
  exact kk
theorem yr_gJq {a ci j c : Nat} {x : Int64} (H : ym_Hy sc K) (hi : xm_ins k pc = some (.getfield a, 3) ∧ xm_cp k a = some (0, ci, j) ∧ Nat.blt j (xm_def ci).length = true ∧ ym_fk ci j = 2) (hT : ym_T s c = some (ci + 4, 0)) (hr : s.2.1 c j = x) (hq : pc + 3 = q) (kk : ym_Go sc P K (k, q, L, ym_J x :: st) s) : ym_Go sc P K (k, pc, L, ym_Q c :: st) s := by
  subst hq
  subst hr
  obtain ⟨h0, h1, h2, h3⟩ := hi
  refine ym_r H h0 ?_
  show ym_gf L _ s (ym_kc sc P K k pc 3) (xm_cp k a)
  rw [h1]
  refine ⟨hT, ?_⟩
  show ym_ck (Nat.blt j (xm_def ci).length) (match ym_fk ci j with
    | 0 => ym_in (s.1 c j) → ym_Go sc P K (k, pc + 3, L, ym_I (s.1 c j) :: st) s
    | 1 => ym_in (s.1 c j) → ym_Go sc P K (k, pc + 3, L, ym_I (s.1 c j) :: st) s
    | 2 => ym_Go sc P K (k, pc + 3, L, ym_J (s.2.1 c j) :: st) s
    | 3 => ym_rd s false c j (fun v => ym_Go sc P K (k, pc + 3, L, v :: st) s)
    | _ => False)
  rw [h2, h3]
  exact kk
theorem yr_gR {a ci j c : Nat} {r : Nat} (H : ym_Hy sc K) (hi : xm_ins k pc = some (.getfield a, 3) ∧ xm_cp k a = some (0, ci, j) ∧ Nat.blt j (xm_def ci).length = true ∧ ym_fk ci j = 3 ∧ ym_isb c (ci + 4) = true ∧ ym_fx c j = some r)  (hq : pc + 3 = q) (kk : ym_Go sc P K (k, q, L, ym_P r :: st) s) : ym_Go sc P K (k, pc, L, ym_P c :: st) s := by
  subst hq
  obtain ⟨h0, h1, h2, h3, h4, h5⟩ := hi
  refine ym_r H h0 ?_
  show ym_gf L _ s (ym_kc sc P K k pc 3) (xm_cp k a)
  rw [h1]
  show ym_ck (ym_isb c (ci + 4)) _
  rw [h4]
  show ym_ck (Nat.blt j (xm_def ci).length) (match ym_fk ci j with
    | 0 => ym_in (s.1 c j) → ym_Go sc P K (k, pc + 3, L, ym_I (s.1 c j) :: st) s
    | 1 => ym_in (s.1 c j) → ym_Go sc P K (k, pc + 3, L, ym_I (s.1 c j) :: st) s
    | 2 => ym_Go sc P K (k, pc + 3, L, ym_J (s.2.1 c j) :: st) s
    | 3 => ym_rd s true c j (fun v => ym_Go sc P K (k, pc + 3, L, v :: st) s)
    | _ => False)
  rw [h2, h3]
  show (match ym_fx c j with
    | some r => ym_Go sc P K (k, pc + 3, L, ym_P r :: st) s
    | none => ym_rq s c j (fun v => ym_Go sc P K (k, pc + 3, L, v :: st) s))
  rw [h5]
  exact kk
theorem yr_gS {a ci j c : Nat} {x : Option Nat} (H : ym_Hy sc K) (hi : xm_ins k pc = some (.getfield a, 3) ∧ xm_cp k a = some (0, ci, j) ∧ Nat.blt j (xm_def ci).length = true ∧ ym_fk ci j = 3 ∧ ym_isb c (ci + 4) = true ∧ ym_fx c j = none) (hr : s.2.2.1 c j = x) (hq : pc + 3 = q) (k1 : x = none → ym_Go sc P K (k, q, L, ym_N :: st) s) (k2 : ∀ y : Nat, x = some y → ym_Go sc P K (k, q, L, ym_Q y :: st) s) : ym_Go sc P K (k, pc, L, ym_P c :: st) s := by
  subst hq
  subst hr
  obtain ⟨h0, h1, h2, h3, h4, h5⟩ := hi
  refine ym_r H h0 ?_
  show ym_gf L _ s (ym_kc sc P K k pc 3) (xm_cp k a)
  rw [h1]
  show ym_ck (ym_isb c (ci + 4)) _
  rw [h4]
  show ym_ck (Nat.blt j (xm_def ci).length) (match ym_fk ci j with
    | 0 => ym_in (s.1 c j) → ym_Go sc P K (k, pc + 3, L, ym_I (s.1 c j) :: st) s
    | 1 => ym_in (s.1 c j) → ym_Go sc P K (k, pc + 3, L, ym_I (s.1 c j) :: st) s
    | 2 => ym_Go sc P K (k, pc + 3, L, ym_J (s.2.1 c j) :: st) s
    | 3 => ym_rd s true c j (fun v => ym_Go sc P K (k, pc + 3, L, v :: st) s)
    | _ => False)
  rw [h2, h3]
  show (match ym_fx c j with
    | some r => ym_Go sc P K (k, pc + 3, L, ym_P r :: st) s
    | none => ym_rq s c j (fun v => ym_Go sc P K (k, pc + 3, L, v :: st) s))
  rw [h5]
  exact ⟨k1, k2⟩
theorem yr_gSq {a ci j c : Nat} {x : Option Nat} (H : ym_Hy sc K) (hi : xm_ins k pc = some (.getfield a, 3) ∧ xm_cp k a = some (0, ci, j) ∧ Nat.blt j (xm_def ci).length = true ∧ ym_fk ci j = 3) (hT : ym_T s c = some (ci + 4, 0)) (hr : s.2.2.1 c j = x) (hq : pc + 3 = q) (k1 : x = none → ym_Go sc P K (k, q, L, ym_N :: st) s) (k2 : ∀ y : Nat, x = some y → ym_Go sc P K (k, q, L, ym_Q y :: st) s) : ym_Go sc P K (k, pc, L, ym_Q c :: st) s := by
  subst hq
  subst hr
  obtain ⟨h0, h1, h2, h3⟩ := hi
  refine ym_r H h0 ?_
  show ym_gf L _ s (ym_kc sc P K k pc 3) (xm_cp k a)
  rw [h1]
  refine ⟨hT, ?_⟩
  show ym_ck (Nat.blt j (xm_def ci).length) (match ym_fk ci j with
    | 0 => ym_in (s.1 c j) → ym_Go sc P K (k, pc + 3, L, ym_I (s.1 c j) :: st) s
    | 1 => ym_in (s.1 c j) → ym_Go sc P K (k, pc + 3, L, ym_I (s.1 c j) :: st) s
    | 2 => ym_Go sc P K (k, pc + 3, L, ym_J (s.2.1 c j) :: st) s
    | 3 => ym_rd s false c j (fun v => ym_Go sc P K (k, pc + 3, L, v :: st) s)
    | _ => False)
  rw [h2, h3]
  exact ⟨k1, k2⟩
theorem yr_pI {a ci j c : Nat} {x : Int} (H : ym_Hy sc K) (hi : xm_ins k pc = some (.putfield a, 3) ∧ xm_cp k a = some (0, ci, j) ∧ (Nat.blt j (xm_def ci).length && xm_pok k ci j) = true ∧ ym_fk ci j = 0 ∧ ym_isb c (ci + 4) = true) (hx : ym_in x) (hq : pc + 3 = q) (kk : ym_Go sc P K (k, q, L, st) (ym_wI s c j x)) : ym_Go sc P K (k, pc, L, (ym_I x) :: ym_P c :: st) s := by
  subst hq
  obtain ⟨h0, h1, h2, h3, h4⟩ := hi
  refine ym_r H h0 ?_
  show ym_pf L _ s (ym_kc sc P K k pc 3) k (xm_cp k a)
  rw [h1]
  show ym_ck (ym_isb c (ci + 4)) _
  rw [h4]
  show ym_ck (Nat.blt j (xm_def ci).length && xm_pok k ci j) (match ym_fk ci j, (ym_I x : ym_V) with
    | 0, .inl (.inl x) => ym_in x ∧ ym_Go sc P K (k, pc + 3, L, st) (ym_wI s c j x)
    | 1, .inl (.inl x) => (x = 0 ∨ x = 1) ∧ ym_Go sc P K (k, pc + 3, L, st) (ym_wI s c j x)
    | 2, .inl (.inr x) => ym_Go sc P K (k, pc + 3, L, st) (ym_wJ s c j x)
    | 3, .inr none => ym_wo true c j (ym_Go sc P K (k, pc + 3, L, st) (ym_wR s c j none))
    | 3, .inr (some (_, d)) => ym_wo true c j (ym_Go sc P K (k, pc + 3, L, st) (ym_wR s c j (some d)))
    | _, _ => False)
  rw [h2, h3]
  exact ⟨hx, kk⟩
theorem yr_pIq {a ci j c : Nat} {x : Int} (H : ym_Hy sc K) (hi : xm_ins k pc = some (.putfield a, 3) ∧ xm_cp k a = some (0, ci, j) ∧ (Nat.blt j (xm_def ci).length && xm_pok k ci j) = true ∧ ym_fk ci j = 0) (hT : ym_T s c = some (ci + 4, 0)) (hx : ym_in x) (hq : pc + 3 = q) (kk : ym_Go sc P K (k, q, L, st) (ym_wI s c j x)) : ym_Go sc P K (k, pc, L, (ym_I x) :: ym_Q c :: st) s := by
  subst hq
  obtain ⟨h0, h1, h2, h3⟩ := hi
  refine ym_r H h0 ?_
  show ym_pf L _ s (ym_kc sc P K k pc 3) k (xm_cp k a)
  rw [h1]
  refine ⟨hT, ?_⟩
  show ym_ck (Nat.blt j (xm_def ci).length && xm_pok k ci j) (match ym_fk ci j, (ym_I x : ym_V) with
    | 0, .inl (.inl x) => ym_in x ∧ ym_Go sc P K (k, pc + 3, L, st) (ym_wI s c j x)
    | 1, .inl (.inl x) => (x = 0 ∨ x = 1) ∧ ym_Go sc P K (k, pc + 3, L, st) (ym_wI s c j x)
    | 2, .inl (.inr x) => ym_Go sc P K (k, pc + 3, L, st) (ym_wJ s c j x)
    | 3, .inr none => ym_wo false c j (ym_Go sc P K (k, pc + 3, L, st) (ym_wR s c j none))
    | 3, .inr (some (_, d)) => ym_wo false c j (ym_Go sc P K (k, pc + 3, L, st) (ym_wR s c j (some d)))
    | _, _ => False)
  rw [h2, h3]
  exact ⟨hx, kk⟩
theorem yr_pZ {a ci j c : Nat} {x : Int} (H : ym_Hy sc K) (hi : xm_ins k pc = some (.putfield a, 3) ∧ xm_cp k a = some (0, ci, j) ∧ (Nat.blt j (xm_def ci).length && xm_pok k ci j) = true ∧ ym_fk ci j = 1 ∧ ym_isb c (ci + 4) = true) (hx : x = 0 ∨ x = 1) (hq : pc + 3 = q) (kk : ym_Go sc P K (k, q, L, st) (ym_wI s c j x)) : ym_Go sc P K (k, pc, L, (ym_I x) :: ym_P c :: st) s := by
  subst hq
  obtain ⟨h0, h1, h2, h3, h4⟩ := hi
  refine ym_r H h0 ?_
  show ym_pf L _ s (ym_kc sc P K k pc 3) k (xm_cp k a)
  rw [h1]
  show ym_ck (ym_isb c (ci + 4)) _
  rw [h4]
  show ym_ck (Nat.blt j (xm_def ci).length && xm_pok k ci j) (match ym_fk ci j, (ym_I x : ym_V) with
    | 0, .inl (.inl x) => ym_in x ∧ ym_Go sc P K (k, pc + 3, L, st) (ym_wI s c j x)
    | 1, .inl (.inl x) => (x = 0 ∨ x = 1) ∧ ym_Go sc P K (k, pc + 3, L, st) (ym_wI s c j x)
    | 2, .inl (.inr x) => ym_Go sc P K (k, pc + 3, L, st) (ym_wJ s c j x)
    | 3, .inr none => ym_wo true c j (ym_Go sc P K (k, pc + 3, L, st) (ym_wR s c j none))
    | 3, .inr (some (_, d)) => ym_wo true c j (ym_Go sc P K (k, pc + 3, L, st) (ym_wR s c j (some d)))
    | _, _ => False)
  rw [h2, h3]
  exact ⟨hx, kk⟩
theorem yr_pZq {a ci j c : Nat} {x : Int} (H : ym_Hy sc K) (hi : xm_ins k pc = some (.putfield a, 3) ∧ xm_cp k a = some (0, ci, j) ∧ (Nat.blt j (xm_def ci).length && xm_pok k ci j) = true ∧ ym_fk ci j = 1) (hT : ym_T s c = some (ci + 4, 0)) (hx : x = 0 ∨ x = 1) (hq : pc + 3 = q) (kk : ym_Go sc P K (k, q, L, st) (ym_wI s c j x)) : ym_Go sc P K (k, pc, L, (ym_I x) :: ym_Q c :: st) s := by
  subst hq
  obtain ⟨h0, h1, h2, h3⟩ := hi
  refine ym_r H h0 ?_
  show ym_pf L _ s (ym_kc sc P K k pc 3) k (xm_cp k a)
  rw [h1]
  refine ⟨hT, ?_⟩
  show ym_ck (Nat.blt j (xm_def ci).length && xm_pok k ci j) (match ym_fk ci j, (ym_I x : ym_V) with
    | 0, .inl (.inl x) => ym_in x ∧ ym_Go sc P K (k, pc + 3, L, st) (ym_wI s c j x)
    | 1, .inl (.inl x) => (x = 0 ∨ x = 1) ∧ ym_Go sc P K (k, pc + 3, L, st) (ym_wI s c j x)
    | 2, .inl (.inr x) => ym_Go sc P K (k, pc + 3, L, st) (ym_wJ s c j x)
    | 3, .inr none => ym_wo false c j (ym_Go sc P K (k, pc + 3, L, st) (ym_wR s c j none))
    | 3, .inr (some (_, d)) => ym_wo false c j (ym_Go sc P K (k, pc + 3, L, st) (ym_wR s c j (some d)))
    | _, _ => False)
  rw [h2, h3]
  exact ⟨hx, kk⟩
theorem yr_pJ {a ci j c : Nat} {x : Int64} (H : ym_Hy sc K) (hi : xm_ins k pc = some (.putfield a, 3) ∧ xm_cp k a = some (0, ci, j) ∧ (Nat.blt j (xm_def ci).length && xm_pok k ci j) = true ∧ ym_fk ci j = 2 ∧ ym_isb c (ci + 4) = true)  (hq : pc + 3 = q) (kk : ym_Go sc P K (k, q, L, st) (ym_wJ s c j x)) : ym_Go sc P K (k, pc, L, (ym_J x) :: ym_P c :: st) s := by
  subst hq
  obtain ⟨h0, h1, h2, h3, h4⟩ := hi
  refine ym_r H h0 ?_
  show ym_pf L _ s (ym_kc sc P K k pc 3) k (xm_cp k a)
  rw [h1]
  show ym_ck (ym_isb c (ci + 4)) _
  rw [h4]
  show ym_ck (Nat.blt j (xm_def ci).length && xm_pok k ci j) (match ym_fk ci j, (ym_J x : ym_V) with
    | 0, .inl (.inl x) => ym_in x ∧ ym_Go sc P K (k, pc + 3, L, st) (ym_wI s c j x)
    | 1, .inl (.inl x) => (x = 0 ∨ x = 1) ∧ ym_Go sc P K (k, pc + 3, L, st) (ym_wI s c j x)
    | 2, .inl (.inr x) => ym_Go sc P K (k, pc + 3, L, st) (ym_wJ s c j x)
    | 3, .inr none => ym_wo true c j (ym_Go sc P K (k, pc + 3, L, st) (ym_wR s c j none))
    | 3, .inr (some (_, d)) => ym_wo true c j (ym_Go sc P K (k, pc + 3, L, st) (ym_wR s c j (some d)))
    | _, _ => False)
  rw [h2, h3]
  exact kk
theorem yr_pJq {a ci j c : Nat} {x : Int64} (H : ym_Hy sc K) (hi : xm_ins k pc = some (.putfield a, 3) ∧ xm_cp k a = some (0, ci, j) ∧ (Nat.blt j (xm_def ci).length && xm_pok k ci j) = true ∧ ym_fk ci j = 2) (hT : ym_T s c = some (ci + 4, 0))  (hq : pc + 3 = q) (kk : ym_Go sc P K (k, q, L, st) (ym_wJ s c j x)) : ym_Go sc P K (k, pc, L, (ym_J x) :: ym_Q c :: st) s := by
  subst hq
  obtain ⟨h0, h1, h2, h3⟩ := hi
  refine ym_r H h0 ?_
  show ym_pf L _ s (ym_kc sc P K k pc 3) k (xm_cp k a)
  rw [h1]
  refine ⟨hT, ?_⟩
  show ym_ck (Nat.blt j (xm_def ci).length && xm_pok k ci j) (match ym_fk ci j, (ym_J x : ym_V) with
    | 0, .inl (.inl x) => ym_in x ∧ ym_Go sc P K (k, pc + 3, L, st) (ym_wI s c j x)
    | 1, .inl (.inl x) => (x = 0 ∨ x = 1) ∧ ym_Go sc P K (k, pc + 3, L, st) (ym_wI s c j x)
    | 2, .inl (.inr x) => ym_Go sc P K (k, pc + 3, L, st) (ym_wJ s c j x)
    | 3, .inr none => ym_wo false c j (ym_Go sc P K (k, pc + 3, L, st) (ym_wR s c j none))
    | 3, .inr (some (_, d)) => ym_wo false c j (ym_Go sc P K (k, pc + 3, L, st) (ym_wR s c j (some d)))
    | _, _ => False)
  rw [h2, h3]
  exact kk
theorem yr_pN {a ci j c : Nat}  (H : ym_Hy sc K) (hi : xm_ins k pc = some (.putfield a, 3) ∧ xm_cp k a = some (0, ci, j) ∧ (Nat.blt j (xm_def ci).length && xm_pok k ci j) = true ∧ ym_fk ci j = 3 ∧ ym_isb c (ci + 4) = true ∧ (ym_fx c j).isNone = true)  (hq : pc + 3 = q) (kk : ym_Go sc P K (k, q, L, st) (ym_wR s c j none)) : ym_Go sc P K (k, pc, L, (ym_N) :: ym_P c :: st) s := by
  subst hq
  obtain ⟨h0, h1, h2, h3, h4, h5⟩ := hi
  refine ym_r H h0 ?_
  show ym_pf L _ s (ym_kc sc P K k pc 3) k (xm_cp k a)
  rw [h1]
  show ym_ck (ym_isb c (ci + 4)) _
  rw [h4]
  show ym_ck (Nat.blt j (xm_def ci).length && xm_pok k ci j) (match ym_fk ci j, (ym_N : ym_V) with
    | 0, .inl (.inl x) => ym_in x ∧ ym_Go sc P K (k, pc + 3, L, st) (ym_wI s c j x)
    | 1, .inl (.inl x) => (x = 0 ∨ x = 1) ∧ ym_Go sc P K (k, pc + 3, L, st) (ym_wI s c j x)
    | 2, .inl (.inr x) => ym_Go sc P K (k, pc + 3, L, st) (ym_wJ s c j x)
    | 3, .inr none => ym_wo true c j (ym_Go sc P K (k, pc + 3, L, st) (ym_wR s c j none))
    | 3, .inr (some (_, d)) => ym_wo true c j (ym_Go sc P K (k, pc + 3, L, st) (ym_wR s c j (some d)))
    | _, _ => False)
  rw [h2, h3]
  show ym_ck (ym_fx c j).isNone _
  rw [h5]
  exact kk
theorem yr_pNq {a ci j c : Nat}  (H : ym_Hy sc K) (hi : xm_ins k pc = some (.putfield a, 3) ∧ xm_cp k a = some (0, ci, j) ∧ (Nat.blt j (xm_def ci).length && xm_pok k ci j) = true ∧ ym_fk ci j = 3) (hT : ym_T s c = some (ci + 4, 0))  (hc : 46 ≤ c) (hq : pc + 3 = q) (kk : ym_Go sc P K (k, q, L, st) (ym_wR s c j none)) : ym_Go sc P K (k, pc, L, (ym_N) :: ym_Q c :: st) s := by
  subst hq
  obtain ⟨h0, h1, h2, h3⟩ := hi
  refine ym_r H h0 ?_
  show ym_pf L _ s (ym_kc sc P K k pc 3) k (xm_cp k a)
  rw [h1]
  refine ⟨hT, ?_⟩
  show ym_ck (Nat.blt j (xm_def ci).length && xm_pok k ci j) (match ym_fk ci j, (ym_N : ym_V) with
    | 0, .inl (.inl x) => ym_in x ∧ ym_Go sc P K (k, pc + 3, L, st) (ym_wI s c j x)
    | 1, .inl (.inl x) => (x = 0 ∨ x = 1) ∧ ym_Go sc P K (k, pc + 3, L, st) (ym_wI s c j x)
    | 2, .inl (.inr x) => ym_Go sc P K (k, pc + 3, L, st) (ym_wJ s c j x)
    | 3, .inr none => ym_wo false c j (ym_Go sc P K (k, pc + 3, L, st) (ym_wR s c j none))
    | 3, .inr (some (_, d)) => ym_wo false c j (ym_Go sc P K (k, pc + 3, L, st) (ym_wR s c j (some d)))
    | _, _ => False)
  rw [h2, h3]
  exact ⟨hc, kk⟩
theorem yr_pR {a ci j c : Nat} {b : Bool} {d : Nat} (H : ym_Hy sc K) (hi : xm_ins k pc = some (.putfield a, 3) ∧ xm_cp k a = some (0, ci, j) ∧ (Nat.blt j (xm_def ci).length && xm_pok k ci j) = true ∧ ym_fk ci j = 3 ∧ ym_isb c (ci + 4) = true ∧ (ym_fx c j).isNone = true)  (hq : pc + 3 = q) (kk : ym_Go sc P K (k, q, L, st) (ym_wR s c j (some d))) : ym_Go sc P K (k, pc, L, (.inr (some (b, d))) :: ym_P c :: st) s := by
  subst hq
  obtain ⟨h0, h1, h2, h3, h4, h5⟩ := hi
  refine ym_r H h0 ?_
  show ym_pf L _ s (ym_kc sc P K k pc 3) k (xm_cp k a)
  rw [h1]
  show ym_ck (ym_isb c (ci + 4)) _
  rw [h4]
  show ym_ck (Nat.blt j (xm_def ci).length && xm_pok k ci j) (match ym_fk ci j, (.inr (some (b, d)) : ym_V) with
    | 0, .inl (.inl x) => ym_in x ∧ ym_Go sc P K (k, pc + 3, L, st) (ym_wI s c j x)
    | 1, .inl (.inl x) => (x = 0 ∨ x = 1) ∧ ym_Go sc P K (k, pc + 3, L, st) (ym_wI s c j x)
    | 2, .inl (.inr x) => ym_Go sc P K (k, pc + 3, L, st) (ym_wJ s c j x)
    | 3, .inr none => ym_wo true c j (ym_Go sc P K (k, pc + 3, L, st) (ym_wR s c j none))
    | 3, .inr (some (_, d)) => ym_wo true c j (ym_Go sc P K (k, pc + 3, L, st) (ym_wR s c j (some d)))
    | _, _ => False)
  rw [h2, h3]
  show ym_ck (ym_fx c j).isNone _
  rw [h5]
  exact kk
theorem yr_pRq {a ci j c : Nat} {b : Bool} {d : Nat} (H : ym_Hy sc K) (hi : xm_ins k pc = some (.putfield a, 3) ∧ xm_cp k a = some (0, ci, j) ∧ (Nat.blt j (xm_def ci).length && xm_pok k ci j) = true ∧ ym_fk ci j = 3) (hT : ym_T s c = some (ci + 4, 0))  (hc : 46 ≤ c) (hq : pc + 3 = q) (kk : ym_Go sc P K (k, q, L, st) (ym_wR s c j (some d))) : ym_Go sc P K (k, pc, L, (.inr (some (b, d))) :: ym_Q c :: st) s := by
  subst hq
  obtain ⟨h0, h1, h2, h3⟩ := hi
  refine ym_r H h0 ?_
  show ym_pf L _ s (ym_kc sc P K k pc 3) k (xm_cp k a)
  rw [h1]
  refine ⟨hT, ?_⟩
  show ym_ck (Nat.blt j (xm_def ci).length && xm_pok k ci j) (match ym_fk ci j, (.inr (some (b, d)) : ym_V) with
    | 0, .inl (.inl x) => ym_in x ∧ ym_Go sc P K (k, pc + 3, L, st) (ym_wI s c j x)
    | 1, .inl (.inl x) => (x = 0 ∨ x = 1) ∧ ym_Go sc P K (k, pc + 3, L, st) (ym_wI s c j x)
    | 2, .inl (.inr x) => ym_Go sc P K (k, pc + 3, L, st) (ym_wJ s c j x)
    | 3, .inr none => ym_wo false c j (ym_Go sc P K (k, pc + 3, L, st) (ym_wR s c j none))
    | 3, .inr (some (_, d)) => ym_wo false c j (ym_Go sc P K (k, pc + 3, L, st) (ym_wR s c j (some d)))
    | _, _ => False)
  rw [h2, h3]
  exact ⟨hc, kk⟩
theorem ym_ar_fix {c t n : Nat} {F : Nat → Prop} (h : ym_fs c = some (t, n)) (hF : F n) : ym_ar s true c t F := by
  show (match ym_fs c with
    | some (t', n) => ym_ck (Nat.beq t' t) (F n)
    | none => False)
  rw [h]
  show ym_ck (Nat.beq t t) (F n)
  rw [show Nat.beq t t = true from Nat.beq_refl t]
  exact hF
theorem yr_scr {j : Int} (H : ym_Hy sc K) (hi : xm_ins k pc = some (.iaload, 1)) (hb : 0 ≤ j ∧ j < (sc.1 : Int)) (hq : pc + 1 = q) (kk : ym_Go sc P K (k, q, L, ym_I (sc.2 (Int.toNat j)).toInt :: st) s) : ym_Go sc P K (k, pc, L, ym_I j :: ym_P 0 :: st) s := by
  subst hq
  exact ym_r H hi ⟨hb, kk⟩
theorem yr_iald {c n : Nat} {j x : Int} (H : ym_Hy sc K) (hi : xm_ins k pc = some (.iaload, 1) ∧ ym_fs (c + 1) = some (0, n)) (hb : 0 ≤ j ∧ j < (n : Int)) (hr : s.1 (c + 1) j = x) (hq : pc + 1 = q) (kk : ym_in x → ym_Go sc P K (k, q, L, ym_I x :: st) s) : ym_Go sc P K (k, pc, L, ym_I j :: ym_P (c + 1) :: st) s := by
  subst hq
  subst hr
  exact ym_r H hi.1 (ym_ar_fix (s := s) hi.2 ⟨hb, kk⟩)
theorem yr_ialdq {c n : Nat} {j x : Int} (H : ym_Hy sc K) (hi : xm_ins k pc = some (.iaload, 1)) (hT : ym_T s c = some (0, n)) (hb : 0 ≤ j ∧ j < (n : Int)) (hr : s.1 c j = x) (hq : pc + 1 = q) (kk : ym_in x → ym_Go sc P K (k, q, L, ym_I x :: st) s) : ym_Go sc P K (k, pc, L, ym_I j :: ym_Q c :: st) s := by
  subst hq
  subst hr
  exact ym_r H hi ⟨n, hT, hb, kk⟩
theorem yr_zald {c n : Nat} {j x : Int} (H : ym_Hy sc K) (hi : xm_ins k pc = some (.baload, 1) ∧ ym_fs c = some (2, n)) (hb : 0 ≤ j ∧ j < (n : Int)) (hr : s.1 c j = x) (hq : pc + 1 = q) (kk : ym_in x → ym_Go sc P K (k, q, L, ym_I x :: st) s) : ym_Go sc P K (k, pc, L, ym_I j :: ym_P c :: st) s := by
  subst hq
  subst hr
  exact ym_r H hi.1 (ym_ar_fix (s := s) hi.2 ⟨hb, kk⟩)
theorem yr_lald {c n : Nat} {j : Int} {x : Int64} (H : ym_Hy sc K) (hi : xm_ins k pc = some (.laload, 1) ∧ ym_fs c = some (1, n)) (hb : 0 ≤ j ∧ j < (n : Int)) (hr : s.2.1 c j = x) (hq : pc + 1 = q) (kk : ym_Go sc P K (k, q, L, ym_J x :: st) s) : ym_Go sc P K (k, pc, L, ym_I j :: ym_P c :: st) s := by
  subst hq
  subst hr
  exact ym_r H hi.1 (ym_ar_fix (s := s) hi.2 ⟨hb, kk⟩)
theorem yr_laldq {c n : Nat} {j : Int} {x : Int64} (H : ym_Hy sc K) (hi : xm_ins k pc = some (.laload, 1)) (hT : ym_T s c = some (1, n)) (hb : 0 ≤ j ∧ j < (n : Int)) (hr : s.2.1 c j = x) (hq : pc + 1 = q) (kk : ym_Go sc P K (k, q, L, ym_J x :: st) s) : ym_Go sc P K (k, pc, L, ym_I j :: ym_Q c :: st) s := by
  subst hq
  subst hr
  exact ym_r H hi ⟨n, hT, hb, kk⟩
theorem yr_aald {c n : Nat} {j : Int} {x : Option Nat} (H : ym_Hy sc K) (hi : xm_ins k pc = some (.aaload, 1) ∧ ym_fs c = some (3, n)) (hb : 0 ≤ j ∧ j < (n : Int)) (hr : s.2.2.1 c j = x) (hq : pc + 1 = q) (k1 : x = none → ym_Go sc P K (k, q, L, ym_N :: st) s) (k2 : ∀ y : Nat, x = some y → ym_Go sc P K (k, q, L, ym_Q y :: st) s) : ym_Go sc P K (k, pc, L, ym_I j :: ym_P c :: st) s := by
  subst hq
  subst hr
  exact ym_r H hi.1 (ym_ar_fix (s := s) hi.2 ⟨hb, k1, k2⟩)
theorem yr_aaldq {c n : Nat} {j : Int} {x : Option Nat} (H : ym_Hy sc K) (hi : xm_ins k pc = some (.aaload, 1)) (hT : ym_T s c = some (3, n)) (hb : 0 ≤ j ∧ j < (n : Int)) (hr : s.2.2.1 c j = x) (hq : pc + 1 = q) (k1 : x = none → ym_Go sc P K (k, q, L, ym_N :: st) s) (k2 : ∀ y : Nat, x = some y → ym_Go sc P K (k, q, L, ym_Q y :: st) s) : ym_Go sc P K (k, pc, L, ym_I j :: ym_Q c :: st) s := by
  subst hq
  subst hr
  exact ym_r H hi ⟨n, hT, hb, k1, k2⟩
theorem yr_iast {c n : Nat} {j x : Int} (H : ym_Hy sc K) (hi : xm_ins k pc = some (.iastore, 1) ∧ ym_fs c = some (0, n)) (hb : 0 ≤ j ∧ j < (n : Int)) (hx : ym_in x) (hq : pc + 1 = q) (kk : ym_Go sc P K (k, q, L, st) (ym_wI s c j x)) : ym_Go sc P K (k, pc, L, ym_I x :: ym_I j :: ym_P c :: st) s := by
  subst hq
  exact ym_r H hi.1 (ym_ar_fix (s := s) hi.2 ⟨hb, hx, kk⟩)
theorem yr_iastq {c n : Nat} {j x : Int} (H : ym_Hy sc K) (hi : xm_ins k pc = some (.iastore, 1)) (hT : ym_T s c = some (0, n)) (hb : 0 ≤ j ∧ j < (n : Int)) (hx : ym_in x) (hq : pc + 1 = q) (kk : ym_Go sc P K (k, q, L, st) (ym_wI s c j x)) : ym_Go sc P K (k, pc, L, ym_I x :: ym_I j :: ym_Q c :: st) s := by
  subst hq
  exact ym_r H hi ⟨n, hT, hb, hx, kk⟩
theorem yr_zast {c n : Nat} {j x : Int} (H : ym_Hy sc K) (hi : xm_ins k pc = some (.bastore, 1) ∧ ym_fs c = some (2, n)) (hb : 0 ≤ j ∧ j < (n : Int)) (hx : x = 0 ∨ x = 1) (hq : pc + 1 = q) (kk : ym_Go sc P K (k, q, L, st) (ym_wI s c j x)) : ym_Go sc P K (k, pc, L, ym_I x :: ym_I j :: ym_P c :: st) s := by
  subst hq
  exact ym_r H hi.1 (ym_ar_fix (s := s) hi.2 ⟨hb, hx, kk⟩)
theorem yr_last {c n : Nat} {j : Int} {x : Int64} (H : ym_Hy sc K) (hi : xm_ins k pc = some (.lastore, 1) ∧ ym_fs c = some (1, n)) (hb : 0 ≤ j ∧ j < (n : Int)) (hq : pc + 1 = q) (kk : ym_Go sc P K (k, q, L, st) (ym_wJ s c j x)) : ym_Go sc P K (k, pc, L, ym_J x :: ym_I j :: ym_P c :: st) s := by
  subst hq
  exact ym_r H hi.1 (ym_ar_fix (s := s) hi.2 ⟨hb, kk⟩)
theorem yr_lastq {c n : Nat} {j : Int} {x : Int64} (H : ym_Hy sc K) (hi : xm_ins k pc = some (.lastore, 1)) (hT : ym_T s c = some (1, n)) (hb : 0 ≤ j ∧ j < (n : Int)) (hq : pc + 1 = q) (kk : ym_Go sc P K (k, q, L, st) (ym_wJ s c j x)) : ym_Go sc P K (k, pc, L, ym_J x :: ym_I j :: ym_Q c :: st) s := by
  subst hq
  exact ym_r H hi ⟨n, hT, hb, kk⟩
theorem yr_aast {c n v : Nat} {j : Int} (H : ym_Hy sc K) (hi : xm_ins k pc = some (.aastore, 1) ∧ ym_fs c = some (3, n) ∧ (ym_fxl.getD c []).isEmpty = true) (hb : 0 ≤ j ∧ j < (n : Int)) (hV : ym_T s v = some (5, 0)) (hq : pc + 1 = q) (kk : ym_Go sc P K (k, q, L, st) (ym_wR s c j (some v))) : ym_Go sc P K (k, pc, L, ym_Q v :: ym_I j :: ym_P c :: st) s := by
  subst hq
  refine ym_r H hi.1 (ym_ar_fix (s := s) hi.2.1 ⟨hb, hV, ?_⟩)
  show ym_ck (ym_fxl.getD c []).isEmpty _
  rw [hi.2.2]
  exact kk
theorem yr_aastq {c n v : Nat} {j : Int} (H : ym_Hy sc K) (hi : xm_ins k pc = some (.aastore, 1)) (hT : ym_T s c = some (3, n)) (hb : 0 ≤ j ∧ j < (n : Int)) (hV : ym_T s v = some (5, 0)) (hc : 46 ≤ c) (hq : pc + 1 = q) (kk : ym_Go sc P K (k, q, L, st) (ym_wR s c j (some v))) : ym_Go sc P K (k, pc, L, ym_Q v :: ym_I j :: ym_Q c :: st) s := by
  subst hq
  exact ym_r H hi ⟨n, hT, hb, hV, hc, kk⟩
theorem yr_lenS (H : ym_Hy sc K) (hi : xm_ins k pc = some (.arraylength, 1)) (hq : pc + 1 = q) (kk : ym_Go sc P K (k, q, L, ym_I (sc.1 : Int) :: st) s) : ym_Go sc P K (k, pc, L, ym_P 0 :: st) s := by
  subst hq
  exact ym_r H hi kk
theorem yr_len {c n : Nat} (H : ym_Hy sc K) (hi : xm_ins k pc = some (.arraylength, 1) ∧ ym_fs (c + 1) = some (0, n)) (hq : pc + 1 = q) (kk : ym_Go sc P K (k, q, L, ym_I (n : Int) :: st) s) : ym_Go sc P K (k, pc, L, ym_P (c + 1) :: st) s := by
  subst hq
  exact ym_r H hi.1 (ym_ar_fix (s := s) hi.2 kk)
theorem yr_lenq {c n : Nat} (H : ym_Hy sc K) (hi : xm_ins k pc = some (.arraylength, 1)) (hT : ym_T s c = some (0, n)) (hq : pc + 1 = q) (kk : ym_Go sc P K (k, q, L, ym_I (n : Int) :: st) s) : ym_Go sc P K (k, pc, L, ym_Q c :: st) s := by
  subst hq
  exact ym_r H hi ⟨n, hT, kk⟩
theorem yr_new {a ci z y : Nat} (H : ym_Hy sc K) (hi : xm_ins k pc = some (.new a, 3) ∧ xm_cp k a = some (4, ci, y) ∧ xm_siz ci = z) (hq : pc + 3 = q) (kk : ym_Go sc P K (k, q, L, ym_Q (ym_n s) :: st) (ym_mk s (ci + 4) 0 z)) : ym_Go sc P K (k, pc, L, st) s := by
  subst hq
  obtain ⟨h0, h1, rfl⟩ := hi
  refine ym_r H h0 ?_
  show ym_new sc P K k L st s (ym_kc sc P K k pc 3) (xm_cp k a)
  rw [h1]
  exact kk
theorem yr_exc {a x y : Nat} (H : ym_Hy sc K) (hi : xm_ins k pc = some (.new a, 3) ∧ xm_cp k a = some (5, x, y) ∧ (!Nat.beq k 134) = true) (hw : Nat.ble (ym_wt st) 8 = true) (kk : ym_Ex sc P K x (ym_ex s)) : ym_Go sc P K (k, pc, L, st) s := by
  obtain ⟨h0, h1, h2⟩ := hi
  refine ym_r H h0 ?_
  show ym_new sc P K k L st s (ym_kc sc P K k pc 3) (xm_cp k a)
  rw [h1]
  show ym_ck (Nat.ble (ym_wt st) 8 && !Nat.beq k 134) _
  rw [hw, h2]
  exact kk
theorem yr_nai {n : Int} (H : ym_Hy sc K) (hi : xm_ins k pc = some (.newarray .int, 2)) (hb : 0 ≤ n ∧ n ≤ 67108864) (hq : pc + 2 = q) (kk : ym_Go sc P K (k, q, L, ym_Q (ym_n s) :: st) (ym_mk s 0 (Int.toNat n) (Int.toNat n))) : ym_Go sc P K (k, pc, L, ym_I n :: st) s := by
  subst hq
  exact ym_r H hi ⟨hb, kk⟩
theorem yr_nal {n : Int} (H : ym_Hy sc K) (hi : xm_ins k pc = some (.newarray .long, 2)) (hb : 0 ≤ n ∧ n ≤ 67108864) (hq : pc + 2 = q) (kk : ym_Go sc P K (k, q, L, ym_Q (ym_n s) :: st) (ym_mk s 1 (Int.toNat n) (Int.toNat n))) : ym_Go sc P K (k, pc, L, ym_I n :: st) s := by
  subst hq
  exact ym_r H hi ⟨hb, kk⟩
theorem yr_nar {n : Int} {a x y : Nat} (H : ym_Hy sc K) (hi : xm_ins k pc = some (.anewarray a, 3) ∧ xm_cp k a = some (6, x, y)) (hb : 0 ≤ n ∧ n ≤ 67108864) (hq : pc + 3 = q) (kk : ym_Go sc P K (k, q, L, ym_Q (ym_n s) :: st) (ym_mk s 3 (Int.toNat n) (Int.toNat n))) : ym_Go sc P K (k, pc, L, ym_I n :: st) s := by
  subst hq
  refine ym_r H hi.1 ?_
  show (match xm_cp k a with
    | some (6, _, _) => ym_nar L (ym_I n :: st) s (ym_kc sc P K k pc 3) 3
    | _ => False)
  rw [hi.2]
  exact ⟨hb, kk⟩
theorem yr_oin {a x y : Nat} {v : Bool × Nat} (H : ym_Hy sc K) (hi : xm_ins k pc = some (.invokespecial a, 3) ∧ xm_cp k a = some (7, x, y)) (hw : Nat.ble (ym_wt st) 8 = true) (hq : pc + 3 = q) (kk : ym_Go sc P K (k, q, L, st) s) : ym_Go sc P K (k, pc, L, .inr (some v) :: st) s := by
  subst hq
  refine ym_r H hi.1 ?_
  show ym_spc sc P K k pc L (.inr (some v) :: st) s (ym_kc sc P K k pc 3) (xm_cp k a)
  rw [hi.2]
  show ym_ck (Nat.ble (ym_wt st) 8) _
  rw [hw]
  exact kk
theorem yr_spc3 {a k2 z c : Nat} {b : Bool} {as rest : List ym_V} {E : ym_L} (H : ym_Hy sc K) (hi : xm_ins k pc = some (.invokespecial a, 3) ∧ xm_cp k a = some (3, k2, z)) (hd : st.drop z = .inr (some (b, c)) :: rest) (ha : .inr (some (b, c)) :: (st.take z).reverse = as) (hz : Nat.ble z st.length = true) (hw : (Nat.ble (ym_wt rest) 8 && Nat.ble (ym_sl as).length (xm_n k2)) = true) (hE : ym_ent (xm_n k2) as = E) (kk : ym_Go sc P ((k, pc, L, rest) :: K) (k2, 0, E, []) s) : ym_Go sc P K (k, pc, L, st) s := by
  refine ym_r H hi.1 ?_
  show ym_spc sc P K k pc L st s (ym_kc sc P K k pc 3) (xm_cp k a)
  rw [hi.2]
  show (match st.drop z with
    | .inr (some (b, c)) :: r => ym_ck (Nat.ble z st.length) (ym_cl sc P K k pc L k2 (.inr (some (b, c)) :: (st.take z).reverse) r s)
    | _ => False)
  rw [hd]
  show ym_ck (Nat.ble z st.length) (ym_cl sc P K k pc L k2 (.inr (some (b, c)) :: (st.take z).reverse) rest s)
  rw [hz, ha]
  show ym_ck (Nat.ble (ym_wt rest) 8 && Nat.ble (ym_sl as).length (xm_n k2)) _
  rw [hw, hE]
  exact kk
theorem yr_spc13 {a k2 z c : Nat} {b : Bool} {as rest : List ym_V} {E : ym_L} (H : ym_Hy sc K) (hi : xm_ins k pc = some (.invokespecial a, 3) ∧ xm_cp k a = some (13, k2, z)) (hd : st.drop z = .inr (some (b, c)) :: rest) (ha : .inr (some (b, c)) :: (st.take z).reverse = as) (hz : Nat.ble z st.length = true) (hw : (Nat.ble (ym_wt rest) 8 && Nat.ble (ym_sl as).length (xm_n k2)) = true) (hE : ym_ent (xm_n k2) as = E) (kk : ym_Go sc P ((k, pc, L, rest) :: K) (k2, 0, E, []) s) : ym_Go sc P K (k, pc, L, st) s := by
  refine ym_r H hi.1 ?_
  show ym_spc sc P K k pc L st s (ym_kc sc P K k pc 3) (xm_cp k a)
  rw [hi.2]
  show (match st.drop z with
    | .inr (some (b, c)) :: r => ym_ck (Nat.ble z st.length) (ym_cl sc P K k pc L k2 (.inr (some (b, c)) :: (st.take z).reverse) r s)
    | _ => False)
  rw [hd]
  show ym_ck (Nat.ble z st.length) (ym_cl sc P K k pc L k2 (.inr (some (b, c)) :: (st.take z).reverse) rest s)
  rw [hz, ha]
  show ym_ck (Nat.ble (ym_wt rest) 8 && Nat.ble (ym_sl as).length (xm_n k2)) _
  rw [hw, hE]
  exact kk
theorem yr_sta2 {a k2 z : Nat} {as rest : List ym_V} {E : ym_L} (H : ym_Hy sc K) (hi : xm_ins k pc = some (.invokestatic a, 3) ∧ xm_cp k a = some (2, k2, z)) (hd : st.drop z = rest) (ha : (st.take z).reverse = as) (hz : Nat.ble z st.length = true) (hw : (Nat.ble (ym_wt rest) 8 && Nat.ble (ym_sl as).length (xm_n k2)) = true) (hE : ym_ent (xm_n k2) as = E) (kk : ym_Go sc P ((k, pc, L, rest) :: K) (k2, 0, E, []) s) : ym_Go sc P K (k, pc, L, st) s := by
  refine ym_r H hi.1 ?_
  show ym_sta sc P K k pc L st s (ym_kc sc P K k pc 3) (xm_cp k a)
  rw [hi.2]
  show ym_ck (Nat.ble z st.length) (ym_cl sc P K k pc L k2 (st.take z).reverse (st.drop z) s)
  rw [hz, ha, hd]
  show ym_ck (Nat.ble (ym_wt rest) 8 && Nat.ble (ym_sl as).length (xm_n k2)) _
  rw [hw, hE]
  exact kk
theorem yr_sta12 {a k2 z : Nat} {as rest : List ym_V} {E : ym_L} (H : ym_Hy sc K) (hi : xm_ins k pc = some (.invokestatic a, 3) ∧ xm_cp k a = some (12, k2, z)) (hd : st.drop z = rest) (ha : (st.take z).reverse = as) (hz : Nat.ble z st.length = true) (hw : (Nat.ble (ym_wt rest) 8 && Nat.ble (ym_sl as).length (xm_n k2)) = true) (hE : ym_ent (xm_n k2) as = E) (kk : ym_Go sc P ((k, pc, L, rest) :: K) (k2, 0, E, []) s) : ym_Go sc P K (k, pc, L, st) s := by
  refine ym_r H hi.1 ?_
  show ym_sta sc P K k pc L st s (ym_kc sc P K k pc 3) (xm_cp k a)
  rw [hi.2]
  show ym_ck (Nat.ble z st.length) (ym_cl sc P K k pc L k2 (st.take z).reverse (st.drop z) s)
  rw [hz, ha, hd]
  show ym_ck (Nat.ble (ym_wt rest) 8 && Nat.ble (ym_sl as).length (xm_n k2)) _
  rw [hw, hE]
  exact kk
theorem yr_vir {a k2 z c : Nat} {as rest : List ym_V} {E : ym_L} (H : ym_Hy sc K) (hi : xm_ins k pc = some (.invokevirtual a, 3) ∧ xm_cp k a = some (1, k2, z) ∧ ym_isb c (xm_rc k2 + 4) = true) (hd : st.drop z = .inr (some (true, c)) :: rest) (ha : .inr (some (true, c)) :: (st.take z).reverse = as) (hz : Nat.ble z st.length = true) (hw : (Nat.ble (ym_wt rest) 8 && Nat.ble (ym_sl as).length (xm_n k2)) = true) (hE : ym_ent (xm_n k2) as = E) (kk : ym_Go sc P ((k, pc, L, rest) :: K) (k2, 0, E, []) s) : ym_Go sc P K (k, pc, L, st) s := by
  refine ym_r H hi.1 ?_
  show ym_vir sc P K k pc L st s (xm_cp k a)
  rw [hi.2.1]
  show (match st.drop z with
    | .inr (some (b, c)) :: r => ym_ob s b c (xm_rc k2 + 4) (ym_ck (Nat.ble z st.length) (ym_cl sc P K k pc L k2 (.inr (some (b, c)) :: (st.take z).reverse) r s))
    | _ => False)
  rw [hd]
  show ym_ck (ym_isb c (xm_rc k2 + 4)) _
  rw [hi.2.2]
  show ym_ck (Nat.ble z st.length) (ym_cl sc P K k pc L k2 (.inr (some (true, c)) :: (st.take z).reverse) rest s)
  rw [hz, ha]
  show ym_ck (Nat.ble (ym_wt rest) 8 && Nat.ble (ym_sl as).length (xm_n k2)) _
  rw [hw, hE]
  exact kk
theorem yr_virq {a k2 z c t4 : Nat} {as rest : List ym_V} {E : ym_L} (H : ym_Hy sc K) (hi : xm_ins k pc = some (.invokevirtual a, 3) ∧ xm_cp k a = some (1, k2, z)) (hr : xm_rc k2 + 4 = t4) (hT : ym_T s c = some (t4, 0)) (hd : st.drop z = .inr (some (false, c)) :: rest) (ha : .inr (some (false, c)) :: (st.take z).reverse = as) (hz : Nat.ble z st.length = true) (hw : (Nat.ble (ym_wt rest) 8 && Nat.ble (ym_sl as).length (xm_n k2)) = true) (hE : ym_ent (xm_n k2) as = E) (kk : ym_Go sc P ((k, pc, L, rest) :: K) (k2, 0, E, []) s) : ym_Go sc P K (k, pc, L, st) s := by
  refine ym_r H hi.1 ?_
  show ym_vir sc P K k pc L st s (xm_cp k a)
  rw [hi.2]
  show (match st.drop z with
    | .inr (some (b, c)) :: r => ym_ob s b c (xm_rc k2 + 4) (ym_ck (Nat.ble z st.length) (ym_cl sc P K k pc L k2 (.inr (some (b, c)) :: (st.take z).reverse) r s))
    | _ => False)
  rw [hd]
  subst hr
  refine ⟨hT, ?_⟩
  show ym_ck (Nat.ble z st.length) (ym_cl sc P K k pc L k2 (.inr (some (false, c)) :: (st.take z).reverse) rest s)
  rw [hz, ha]
  show ym_ck (Nat.ble (ym_wt rest) 8 && Nat.ble (ym_sl as).length (xm_n k2)) _
  rw [hw, hE]
  exact kk
theorem yr_max {a z1 z2 : Nat} {x y : Int} (H : ym_Hy sc K) (hi : xm_ins k pc = some (.invokestatic a, 3) ∧ xm_cp k a = some (9, z1, z2)) (hx : ym_in x) (hy : ym_in y) (hw : Nat.ble (ym_wt st) 8 = true) (hq : pc + 3 = q) (kk : ym_Go sc P K (k, q, L, ym_I (if x < y then y else x) :: st) s) : ym_Go sc P K (k, pc, L, ym_I y :: ym_I x :: st) s := by
  subst hq
  refine ym_r H hi.1 ?_
  show ym_sta sc P K k pc L _ s (ym_kc sc P K k pc 3) (xm_cp k a)
  rw [hi.2]
  refine ⟨hx, hy, ?_⟩
  show ym_ck (Nat.ble (ym_wt st) 8) _
  rw [hw]
  exact kk
theorem yr_min {a z1 z2 : Nat} {x y : Int} (H : ym_Hy sc K) (hi : xm_ins k pc = some (.invokestatic a, 3) ∧ xm_cp k a = some (10, z1, z2)) (hx : ym_in x) (hy : ym_in y) (hw : Nat.ble (ym_wt st) 8 = true) (hq : pc + 3 = q) (kk : ym_Go sc P K (k, q, L, ym_I (if y < x then y else x) :: st) s) : ym_Go sc P K (k, pc, L, ym_I y :: ym_I x :: st) s := by
  subst hq
  refine ym_r H hi.1 ?_
  show ym_sta sc P K k pc L _ s (ym_kc sc P K k pc 3) (xm_cp k a)
  rw [hi.2]
  refine ⟨hx, hy, ?_⟩
  show ym_ck (Nat.ble (ym_wt st) 8) _
  rw [hw]
  exact kk
theorem yr_cpyff {a z1 z2 c d n0 n1 : Nat} {n dp sp : Int} (H : ym_Hy sc K) (hi : xm_ins k pc = some (.invokestatic a, 3) ∧ xm_cp k a = some (8, z1, z2) ∧ ym_fs c = some (0, n0) ∧ ym_fs d = some (0, n1)) (hb : 0 ≤ sp ∧ 0 ≤ dp ∧ 0 ≤ n ∧ sp + n ≤ (n0 : Int) ∧ dp + n ≤ (n1 : Int)) (hw : Nat.ble (ym_wt st) 8 = true) (hq : pc + 3 = q) (kk : ym_Go sc P K (k, q, L, st) (ym_cpy s c d sp dp n)) : ym_Go sc P K (k, pc, L, ym_I n :: ym_I dp :: ym_P d :: ym_I sp :: ym_P c :: st) s := by
  subst hq
  refine ym_r H hi.1 ?_
  show ym_sta sc P K k pc L (ym_I n :: ym_I dp :: ym_P d :: ym_I sp :: ym_P c :: st) s (ym_kc sc P K k pc 3) (xm_cp k a)
  rw [hi.2.1]
  have hck : ym_ck (Nat.ble (ym_wt st) 8) (ym_Go sc P K (k, pc + 3, L, st) (ym_cpy s c d sp dp n)) := by
    rw [hw]
    exact kk
  exact ym_ar_fix (s := s) hi.2.2.1 (ym_ar_fix (s := s) hi.2.2.2 ⟨hb, hck⟩)
theorem yr_cpyqq {a z1 z2 c d n0 n1 : Nat} {n dp sp : Int} (H : ym_Hy sc K) (hi : xm_ins k pc = some (.invokestatic a, 3) ∧ xm_cp k a = some (8, z1, z2)) (hA : ym_T s c = some (0, n0)) (hD : ym_T s d = some (0, n1)) (hb : 0 ≤ sp ∧ 0 ≤ dp ∧ 0 ≤ n ∧ sp + n ≤ (n0 : Int) ∧ dp + n ≤ (n1 : Int)) (hw : Nat.ble (ym_wt st) 8 = true) (hq : pc + 3 = q) (kk : ym_Go sc P K (k, q, L, st) (ym_cpy s c d sp dp n)) : ym_Go sc P K (k, pc, L, ym_I n :: ym_I dp :: ym_Q d :: ym_I sp :: ym_Q c :: st) s := by
  subst hq
  refine ym_r H hi.1 ?_
  show ym_sta sc P K k pc L (ym_I n :: ym_I dp :: ym_Q d :: ym_I sp :: ym_Q c :: st) s (ym_kc sc P K k pc 3) (xm_cp k a)
  rw [hi.2]
  have hck : ym_ck (Nat.ble (ym_wt st) 8) (ym_Go sc P K (k, pc + 3, L, st) (ym_cpy s c d sp dp n)) := by
    rw [hw]
    exact kk
  exact ⟨n0, hA, ⟨n1, hD, hb, hck⟩⟩
theorem yr_cpyqf {a z1 z2 c d n0 n1 : Nat} {n dp sp : Int} (H : ym_Hy sc K) (hi : xm_ins k pc = some (.invokestatic a, 3) ∧ xm_cp k a = some (8, z1, z2) ∧ ym_fs d = some (0, n1)) (hA : ym_T s c = some (0, n0)) (hb : 0 ≤ sp ∧ 0 ≤ dp ∧ 0 ≤ n ∧ sp + n ≤ (n0 : Int) ∧ dp + n ≤ (n1 : Int)) (hw : Nat.ble (ym_wt st) 8 = true) (hq : pc + 3 = q) (kk : ym_Go sc P K (k, q, L, st) (ym_cpy s c d sp dp n)) : ym_Go sc P K (k, pc, L, ym_I n :: ym_I dp :: ym_P d :: ym_I sp :: ym_Q c :: st) s := by
  subst hq
  refine ym_r H hi.1 ?_
  show ym_sta sc P K k pc L (ym_I n :: ym_I dp :: ym_P d :: ym_I sp :: ym_Q c :: st) s (ym_kc sc P K k pc 3) (xm_cp k a)
  rw [hi.2.1]
  have hck : ym_ck (Nat.ble (ym_wt st) 8) (ym_Go sc P K (k, pc + 3, L, st) (ym_cpy s c d sp dp n)) := by
    rw [hw]
    exact kk
  exact ⟨n0, hA, ym_ar_fix (s := s) hi.2.2 ⟨hb, hck⟩⟩
theorem yr_ire {x : Int} (H : ym_Hy sc K) (hi : xm_ins k pc = some (.ireturn, 1) ∧ xm_r k = some .int) (kk : ym_Rt sc P K (some (ym_I x)) s) : ym_Go sc P K (k, pc, L, [ym_I x]) s := by
  refine ym_r H hi.1 ?_
  show (match ([ym_I x] : List ym_V), xm_r k with
    | [.inl (.inl x)], some .int => ym_Rt sc P K (some (ym_I x)) s
    | [.inl (.inl x)], some .boolean => (x = 0 ∨ x = 1) ∧ ym_Rt sc P K (some (ym_I x)) s
    | _, _ => False)
  rw [hi.2]
  exact kk
theorem yr_zre {x : Int} (H : ym_Hy sc K) (hi : xm_ins k pc = some (.ireturn, 1) ∧ xm_r k = some .boolean) (hx : x = 0 ∨ x = 1) (kk : ym_Rt sc P K (some (ym_I x)) s) : ym_Go sc P K (k, pc, L, [ym_I x]) s := by
  refine ym_r H hi.1 ?_
  show (match ([ym_I x] : List ym_V), xm_r k with
    | [.inl (.inl x)], some .int => ym_Rt sc P K (some (ym_I x)) s
    | [.inl (.inl x)], some .boolean => (x = 0 ∨ x = 1) ∧ ym_Rt sc P K (some (ym_I x)) s
    | _, _ => False)
  rw [hi.2]
  exact ⟨hx, kk⟩
theorem yr_are {x : Option (Bool × Nat)} (H : ym_Hy sc K) (hi : xm_ins k pc = some (.areturn, 1) ∧ xm_rr k = true) (kk : ym_Rt sc P K (some (.inr x)) s) : ym_Go sc P K (k, pc, L, [.inr x]) s := by
  refine ym_r H hi.1 ?_
  show ym_ck (xm_rr k) _
  rw [hi.2]
  exact kk
theorem yr_ret (H : ym_Hy sc K) (hi : xm_ins k pc = some (.return_, 1) ∧ xm_r k = none) (kk : ym_Rt sc P K none s) : ym_Go sc P K (k, pc, L, []) s := by
  refine ym_r H hi.1 ?_
  show (match ([] : List ym_V), xm_r k with
    | [], none => ym_Rt sc P K none s
    | _, _ => False)
  rw [hi.2]
  exact kk
theorem ym_ip {c : Prop} [Decidable c] {a b : Int} (hc : c) (h : ym_Go sc P K (k, pc, L, ym_I (if c then a else b) :: st) s) : ym_Go sc P K (k, pc, L, ym_I a :: st) s := by
  rw [if_pos hc] at h
  exact h
theorem ym_im {c : Prop} [Decidable c] {a b : Int} (hc : ¬ c) (h : ym_Go sc P K (k, pc, L, ym_I (if c then a else b) :: st) s) : ym_Go sc P K (k, pc, L, ym_I b :: st) s := by
  rw [if_neg hc] at h
  exact h
theorem ym_iin {c : Prop} [Decidable c] {a b : Int} (ha : ym_in a) (hb : ym_in b) : ym_in (if c then a else b) := by
  split
  · exact ha
  · exact hb
theorem ym_i01 {c : Prop} [Decidable c] {a b : Int} (ha : a = 0 ∨ a = 1) (hb : b = 0 ∨ b = 1) : (if c then a else b) = 0 ∨ (if c then a else b) = 1 := by
  split
  · exact ha
  · exact hb
end
