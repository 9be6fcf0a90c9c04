/-! One step of the small machine is what the instruction does: own work. -/
/-- what is known of the method that runs: number k, begun in the state s -/
def xm_G (B sb Lx : Nat) (xs : Nat → Int32) (D : va_G) (cs : Nat → ClassId) (l : Launch) (p : Program) (s : State) (m : MethodId) (args : Array Value) (meth : Method) (c : Code) (k : Nat) : Prop :=
  p.tables.exec = Jvm.exec ∧ c.code = xm_b k ∧ meth.sig.returnType = xm_r k ∧ c.maxLocals = xm_n k ∧ s.vm.findClass (xm_own k) = some m.cls ∧ (∀ w ∈ xm_ws, w.before args s = true) ∧ meth.locks = false ∧ (xm_ini k = true → meth.name = "<init>") ∧
  c.exceptionTable.toList = tableOf (xm_hh k) ∧ va_K D xm_cls (xm_tys cs) s ∧ va_X sb Lx xs s s.heap ∧ sb ≤ B ∧ B < s.heap.size ∧ xm_Zx B s ∧ xm_Nx s ∧ l.stackTraces = false
/-- from this frame and these cells the walk comes to its end -/
def xm_J (B sb : Nat) (D : va_G) (cs : Nat → ClassId) (p : Program) (l : Launch) (e : Env) (R : Room) (s : State) (m : MethodId) (args : Array Value) (below : List Frame) (meth : Method) (c : Code) (Q : State → Prop) (s0 : Nat) (f : xm_F) (h : xm_H) : Prop :=
  ∀ (H : Heap) (ls : Array Slot) (locs : List Loc) (cells slots : Nat), xm_hb B sb D cs h.1 H → (∀ q : Nat, q ≤ B → H[q]? = s.heap[q]?) → (∀ z ∈ locs, B < z.base) → s.heap.size + cells = B + h.1.length → s0 + slots = h.2 → xm_lh B sb f.2.2.1 ls → f.2.2.1.length = xm_n f.1 →
    W p l e R s m args below meth c H locs cells slots Q (F0 m f.2.1 ls (f.2.2.2.map (xm_cv B sb)))
section
variable {B sb Lx : Nat} {xs : Nat → Int32} {D : va_G} {cs : Nat → ClassId} {p : Program} {l : Launch} {e : Env} {R : Room} {s : State} {m : MethodId} {args : Array Value} {below : List Frame} {meth : Method} {c : Code} {Q : State → Prop} {s0 k pc : Nat} {L : xm_L} {st r : List Value} {h : xm_H}
theorem xm_noref {B sb : Nat} {l : List Value} (h : l.all (fun v => match v with
    | .ref _ => false
    | _ => true) = true) : l.map (xm_cv B sb) = l := by
  have h1 : ∀ v ∈ l, xm_cv B sb v = v := by
    intro v hv
    have h2 := List.all_eq_true.mp h v hv
    cases v with
    | ref i => cases h2
    | _ => rfl
  exact (List.map_congr_left h1).trans (List.map_id' l)
theorem xm_sz {H : Heap} {locs : List Loc} {cells slots : Nat} {g : JFrame} (kk : H.size ≤ s.heap.size + cells → W p l e R s m args below meth c H locs cells slots Q g) : W p l e R s m args below meth c H locs cells slots Q g := by
  intro T hT X
  refine kk ?_ T hT X
  have h3 := X.same.2.2.1
  rw [← hT]
  exact h3
theorem xm_tgt {pc : Nat} {off : Int} (h : 0 ≤ (pc : Int) + off) : (pc : Int) + off = ((xm_tg pc off : Nat) : Int) := by
  unfold xm_tg
  omega
theorem xm_len_st1 (L : xm_L) (i : Nat) (v : Value) : (xm_st1 L i v).length = L.length := by unfold xm_st1; rw [List.length_set, xm_clr_len]
theorem xm_len_st2 (L : xm_L) (i : Nat) (v : Value) : (xm_st2 L i v).length = L.length := by unfold xm_st2; rw [List.length_set, List.length_set, xm_clr_len]

theorem xm_r_iconst {a : Int} (G : xm_G B sb Lx xs D cs l p s m args meth c k) (hd : decode (xm_b k) pc = .ok (.iconst a, 1)) (kk : xm_J B sb D cs p l e R s m args below meth c Q s0 (k, pc + 1, L, .int (Int32.ofInt a) :: st) h) : xm_J B sb D cs p l e R s m args below meth c Q s0 (k, pc, L, st) h :=
  fun H ls locs cells slots a1 a2 a3 a4 a5 a6 a7 => lv_iconst G.1 G.2.1 hd rfl (kk H ls locs cells slots a1 a2 a3 a4 a5 a6 a7)
theorem xm_r_bipush {a : Int} (G : xm_G B sb Lx xs D cs l p s m args meth c k) (hd : decode (xm_b k) pc = .ok (.bipush a, 2)) (kk : xm_J B sb D cs p l e R s m args below meth c Q s0 (k, pc + 2, L, .int (Int8.ofInt a).toInt32 :: st) h) : xm_J B sb D cs p l e R s m args below meth c Q s0 (k, pc, L, st) h :=
  fun H ls locs cells slots a1 a2 a3 a4 a5 a6 a7 => lv_bipush G.1 G.2.1 hd rfl (kk H ls locs cells slots a1 a2 a3 a4 a5 a6 a7)
theorem xm_r_sipush {a : Int} (G : xm_G B sb Lx xs D cs l p s m args meth c k) (hd : decode (xm_b k) pc = .ok (.sipush a, 3)) (kk : xm_J B sb D cs p l e R s m args below meth c Q s0 (k, pc + 3, L, .int (Int16.ofInt a).toInt32 :: st) h) : xm_J B sb D cs p l e R s m args below meth c Q s0 (k, pc, L, st) h :=
  fun H ls locs cells slots a1 a2 a3 a4 a5 a6 a7 => lv_sipush G.1 G.2.1 hd rfl (kk H ls locs cells slots a1 a2 a3 a4 a5 a6 a7)
theorem xm_r_lconst {a : Fin 2} (G : xm_G B sb Lx xs D cs l p s m args meth c k) (hd : decode (xm_b k) pc = .ok (.lconst a, 1)) (kk : xm_J B sb D cs p l e R s m args below meth c Q s0 (k, pc + 1, L, .long (Int64.ofNat (a : Nat)) :: st) h) : xm_J B sb D cs p l e R s m args below meth c Q s0 (k, pc, L, st) h :=
  fun H ls locs cells slots a1 a2 a3 a4 a5 a6 a7 => lv_lconst G.1 G.2.1 hd rfl (kk H ls locs cells slots a1 a2 a3 a4 a5 a6 a7)
theorem xm_r_null (G : xm_G B sb Lx xs D cs l p s m args meth c k) (hd : decode (xm_b k) pc = .ok (.aconst_null, 1)) (kk : xm_J B sb D cs p l e R s m args below meth c Q s0 (k, pc + 1, L, .null :: st) h) : xm_J B sb D cs p l e R s m args below meth c Q s0 (k, pc, L, st) h :=
  fun H ls locs cells slots a1 a2 a3 a4 a5 a6 a7 => lv_null G.1 G.2.1 hd (kk H ls locs cells slots a1 a2 a3 a4 a5 a6 a7)
theorem xm_r_ldc {a : Nat} {v : Int32} (G : xm_G B sb Lx xs D cs l p s m args meth c k) (hd : decode (xm_b k) pc = .ok (.ldc a, 2)) (hk : xm_ki k a = some v) (kk : xm_J B sb D cs p l e R s m args below meth c Q s0 (k, pc + 2, L, .int v :: st) h) : xm_J B sb D cs p l e R s m args below meth c Q s0 (k, pc, L, st) h :=
  fun H ls locs cells slots a1 a2 a3 a4 a5 a6 a7 => lv_ldc G.1 G.2.1 G.2.2.2.2.1 (G.2.2.2.2.2.1 _ (xm_t_ki hk)) hd (kk H ls locs cells slots a1 a2 a3 a4 a5 a6 a7)
theorem xm_r_ldc2 {a : Nat} {v : Int64} (G : xm_G B sb Lx xs D cs l p s m args meth c k) (hd : decode (xm_b k) pc = .ok (.ldc2_w a, 3)) (hk : xm_kl k a = some v) (kk : xm_J B sb D cs p l e R s m args below meth c Q s0 (k, pc + 3, L, .long v :: st) h) : xm_J B sb D cs p l e R s m args below meth c Q s0 (k, pc, L, st) h :=
  fun H ls locs cells slots a1 a2 a3 a4 a5 a6 a7 => lv_ldc2 G.1 G.2.1 G.2.2.2.2.1 (G.2.2.2.2.2.1 _ (xm_t_kl hk)) hd (kk H ls locs cells slots a1 a2 a3 a4 a5 a6 a7)
theorem xm_r_ilo_n {a : Fin 4} {x : Int32} (G : xm_G B sb Lx xs D cs l p s m args meth c k) (hd : decode (xm_b k) pc = .ok (.iload_n a, 1)) (hl : xm_ld L a = some (.int x)) (kk : xm_J B sb D cs p l e R s m args below meth c Q s0 (k, pc + 1, L, .int x :: st) h) : xm_J B sb D cs p l e R s m args below meth c Q s0 (k, pc, L, st) h :=
  fun H ls locs cells slots a1 a2 a3 a4 a5 a6 a7 => lv_iload_n G.1 G.2.1 hd rfl (a6.2.2 _ _ (xm_ld_some hl)) (kk H ls locs cells slots a1 a2 a3 a4 a5 a6 a7)
theorem xm_r_ilo {a : Nat} {x : Int32} (G : xm_G B sb Lx xs D cs l p s m args meth c k) (hd : decode (xm_b k) pc = .ok (.iload a, 2)) (hl : xm_ld L a = some (.int x)) (kk : xm_J B sb D cs p l e R s m args below meth c Q s0 (k, pc + 2, L, .int x :: st) h) : xm_J B sb D cs p l e R s m args below meth c Q s0 (k, pc, L, st) h :=
  fun H ls locs cells slots a1 a2 a3 a4 a5 a6 a7 => lv_iload G.1 G.2.1 hd (a6.2.2 _ _ (xm_ld_some hl)) (kk H ls locs cells slots a1 a2 a3 a4 a5 a6 a7)
theorem xm_r_llo_n {a : Fin 4} {x : Int64} (G : xm_G B sb Lx xs D cs l p s m args meth c k) (hd : decode (xm_b k) pc = .ok (.lload_n a, 1)) (hl : xm_ld L a = some (.long x)) (kk : xm_J B sb D cs p l e R s m args below meth c Q s0 (k, pc + 1, L, .long x :: st) h) : xm_J B sb D cs p l e R s m args below meth c Q s0 (k, pc, L, st) h :=
  fun H ls locs cells slots a1 a2 a3 a4 a5 a6 a7 => lv_lload_n G.1 G.2.1 hd rfl (a6.2.2 _ _ (xm_ld_some hl)) (kk H ls locs cells slots a1 a2 a3 a4 a5 a6 a7)
theorem xm_r_llo {a : Nat} {x : Int64} (G : xm_G B sb Lx xs D cs l p s m args meth c k) (hd : decode (xm_b k) pc = .ok (.lload a, 2)) (hl : xm_ld L a = some (.long x)) (kk : xm_J B sb D cs p l e R s m args below meth c Q s0 (k, pc + 2, L, .long x :: st) h) : xm_J B sb D cs p l e R s m args below meth c Q s0 (k, pc, L, st) h :=
  fun H ls locs cells slots a1 a2 a3 a4 a5 a6 a7 => lv_lload G.1 G.2.1 hd (a6.2.2 _ _ (xm_ld_some hl)) (kk H ls locs cells slots a1 a2 a3 a4 a5 a6 a7)
theorem xm_r_alo_nr {a : Fin 4} {x : Nat} (G : xm_G B sb Lx xs D cs l p s m args meth c k) (hd : decode (xm_b k) pc = .ok (.aload_n a, 1)) (hl : xm_ld L a = some (.ref x)) (kk : xm_J B sb D cs p l e R s m args below meth c Q s0 (k, pc + 1, L, .ref x :: st) h) : xm_J B sb D cs p l e R s m args below meth c Q s0 (k, pc, L, st) h :=
  fun H ls locs cells slots a1 a2 a3 a4 a5 a6 a7 => lv_aload_n G.1 G.2.1 hd rfl (a6.2.2 _ _ (xm_ld_some hl)) (kk H ls locs cells slots a1 a2 a3 a4 a5 a6 a7)
theorem xm_r_alor {a : Nat} {x : Nat} (G : xm_G B sb Lx xs D cs l p s m args meth c k) (hd : decode (xm_b k) pc = .ok (.aload a, 2)) (hl : xm_ld L a = some (.ref x)) (kk : xm_J B sb D cs p l e R s m args below meth c Q s0 (k, pc + 2, L, .ref x :: st) h) : xm_J B sb D cs p l e R s m args below meth c Q s0 (k, pc, L, st) h :=
  fun H ls locs cells slots a1 a2 a3 a4 a5 a6 a7 => lv_aload G.1 G.2.1 hd (a6.2.2 _ _ (xm_ld_some hl)) (kk H ls locs cells slots a1 a2 a3 a4 a5 a6 a7)
theorem xm_r_alo_nz {a : Fin 4} (G : xm_G B sb Lx xs D cs l p s m args meth c k) (hd : decode (xm_b k) pc = .ok (.aload_n a, 1)) (hl : xm_ld L a = some (.null)) (kk : xm_J B sb D cs p l e R s m args below meth c Q s0 (k, pc + 1, L, .null :: st) h) : xm_J B sb D cs p l e R s m args below meth c Q s0 (k, pc, L, st) h :=
  fun H ls locs cells slots a1 a2 a3 a4 a5 a6 a7 => lv_aload_nN G.1 G.2.1 hd rfl (a6.2.2 _ _ (xm_ld_some hl)) (kk H ls locs cells slots a1 a2 a3 a4 a5 a6 a7)
theorem xm_r_aloz {a : Nat} (G : xm_G B sb Lx xs D cs l p s m args meth c k) (hd : decode (xm_b k) pc = .ok (.aload a, 2)) (hl : xm_ld L a = some (.null)) (kk : xm_J B sb D cs p l e R s m args below meth c Q s0 (k, pc + 2, L, .null :: st) h) : xm_J B sb D cs p l e R s m args below meth c Q s0 (k, pc, L, st) h :=
  fun H ls locs cells slots a1 a2 a3 a4 a5 a6 a7 => lv_aloadN G.1 G.2.1 hd (a6.2.2 _ _ (xm_ld_some hl)) (kk H ls locs cells slots a1 a2 a3 a4 a5 a6 a7)
theorem xm_r_ist_n {a : Fin 4} {x : Int32} (G : xm_G B sb Lx xs D cs l p s m args meth c k) (hd : decode (xm_b k) pc = .ok (.istore_n a, 1)) (hi : (a : Nat) < L.length) (kk : xm_J B sb D cs p l e R s m args below meth c Q s0 (k, pc + 1, xm_st1 L a (.int x), r) h) : xm_J B sb D cs p l e R s m args below meth c Q s0 (k, pc, L, .int x :: r) h :=
  fun H ls locs cells slots a1 a2 a3 a4 a5 a6 a7 => lv_istore_n G.1 G.2.1 hd rfl a6.has hi rfl (fun ls2 hl2 => kk H ls2 locs cells slots a1 a2 a3 a4 a5 (xm_lh.st1 hi hl2) ((xm_len_st1 _ _ _).trans a7))
theorem xm_r_ist {a : Nat} {x : Int32} (G : xm_G B sb Lx xs D cs l p s m args meth c k) (hd : decode (xm_b k) pc = .ok (.istore a, 2)) (hi : (a : Nat) < L.length) (kk : xm_J B sb D cs p l e R s m args below meth c Q s0 (k, pc + 2, xm_st1 L a (.int x), r) h) : xm_J B sb D cs p l e R s m args below meth c Q s0 (k, pc, L, .int x :: r) h :=
  fun H ls locs cells slots a1 a2 a3 a4 a5 a6 a7 => lv_istore G.1 G.2.1 hd a6.has hi rfl (fun ls2 hl2 => kk H ls2 locs cells slots a1 a2 a3 a4 a5 (xm_lh.st1 hi hl2) ((xm_len_st1 _ _ _).trans a7))
theorem xm_r_lst_n {a : Fin 4} {x : Int64} (G : xm_G B sb Lx xs D cs l p s m args meth c k) (hd : decode (xm_b k) pc = .ok (.lstore_n a, 1)) (hi : (a : Nat) + 1 < L.length) (kk : xm_J B sb D cs p l e R s m args below meth c Q s0 (k, pc + 1, xm_st2 L a (.long x), r) h) : xm_J B sb D cs p l e R s m args below meth c Q s0 (k, pc, L, .long x :: r) h :=
  fun H ls locs cells slots a1 a2 a3 a4 a5 a6 a7 => lv_lstore_n G.1 G.2.1 hd rfl a6.has hi rfl (fun ls2 hl2 => kk H ls2 locs cells slots a1 a2 a3 a4 a5 (xm_lh.st2 hi hl2) ((xm_len_st2 _ _ _).trans a7))
theorem xm_r_lst {a : Nat} {x : Int64} (G : xm_G B sb Lx xs D cs l p s m args meth c k) (hd : decode (xm_b k) pc = .ok (.lstore a, 2)) (hi : (a : Nat) + 1 < L.length) (kk : xm_J B sb D cs p l e R s m args below meth c Q s0 (k, pc + 2, xm_st2 L a (.long x), r) h) : xm_J B sb D cs p l e R s m args below meth c Q s0 (k, pc, L, .long x :: r) h :=
  fun H ls locs cells slots a1 a2 a3 a4 a5 a6 a7 => lv_lstore G.1 G.2.1 hd a6.has hi rfl (fun ls2 hl2 => kk H ls2 locs cells slots a1 a2 a3 a4 a5 (xm_lh.st2 hi hl2) ((xm_len_st2 _ _ _).trans a7))
theorem xm_r_ast_nr {a : Fin 4} {x : Nat} (G : xm_G B sb Lx xs D cs l p s m args meth c k) (hd : decode (xm_b k) pc = .ok (.astore_n a, 1)) (hi : (a : Nat) < L.length) (kk : xm_J B sb D cs p l e R s m args below meth c Q s0 (k, pc + 1, xm_st1 L a (.ref x), r) h) : xm_J B sb D cs p l e R s m args below meth c Q s0 (k, pc, L, .ref x :: r) h :=
  fun H ls locs cells slots a1 a2 a3 a4 a5 a6 a7 => lv_astore_n G.1 G.2.1 hd rfl a6.has hi rfl (fun ls2 hl2 => kk H ls2 locs cells slots a1 a2 a3 a4 a5 (xm_lh.st1 (v := .ref x) hi hl2) ((xm_len_st1 _ _ _).trans a7))
theorem xm_r_astr {a : Nat} {x : Nat} (G : xm_G B sb Lx xs D cs l p s m args meth c k) (hd : decode (xm_b k) pc = .ok (.astore a, 2)) (hi : (a : Nat) < L.length) (kk : xm_J B sb D cs p l e R s m args below meth c Q s0 (k, pc + 2, xm_st1 L a (.ref x), r) h) : xm_J B sb D cs p l e R s m args below meth c Q s0 (k, pc, L, .ref x :: r) h :=
  fun H ls locs cells slots a1 a2 a3 a4 a5 a6 a7 => lv_astore G.1 G.2.1 hd a6.has hi rfl (fun ls2 hl2 => kk H ls2 locs cells slots a1 a2 a3 a4 a5 (xm_lh.st1 (v := .ref x) hi hl2) ((xm_len_st1 _ _ _).trans a7))
theorem xm_r_ast_nz {a : Fin 4} (G : xm_G B sb Lx xs D cs l p s m args meth c k) (hd : decode (xm_b k) pc = .ok (.astore_n a, 1)) (hi : (a : Nat) < L.length) (kk : xm_J B sb D cs p l e R s m args below meth c Q s0 (k, pc + 1, xm_st1 L a (.null), r) h) : xm_J B sb D cs p l e R s m args below meth c Q s0 (k, pc, L, .null :: r) h :=
  fun H ls locs cells slots a1 a2 a3 a4 a5 a6 a7 => lv_astore_nN G.1 G.2.1 hd rfl a6.has hi rfl (fun ls2 hl2 => kk H ls2 locs cells slots a1 a2 a3 a4 a5 (xm_lh.st1 (v := .null) hi hl2) ((xm_len_st1 _ _ _).trans a7))
theorem xm_r_astz {a : Nat} (G : xm_G B sb Lx xs D cs l p s m args meth c k) (hd : decode (xm_b k) pc = .ok (.astore a, 2)) (hi : (a : Nat) < L.length) (kk : xm_J B sb D cs p l e R s m args below meth c Q s0 (k, pc + 2, xm_st1 L a (.null), r) h) : xm_J B sb D cs p l e R s m args below meth c Q s0 (k, pc, L, .null :: r) h :=
  fun H ls locs cells slots a1 a2 a3 a4 a5 a6 a7 => lv_astoreN G.1 G.2.1 hd a6.has hi rfl (fun ls2 hl2 => kk H ls2 locs cells slots a1 a2 a3 a4 a5 (xm_lh.st1 (v := .null) hi hl2) ((xm_len_st1 _ _ _).trans a7))
theorem xm_r_inc {a : Nat} {z : Int} {x : Int32} (G : xm_G B sb Lx xs D cs l p s m args meth c k) (hd : decode (xm_b k) pc = .ok (.iinc a z, 3)) (hl : xm_ld L a = some (.int x)) (hi : a < L.length) (kk : xm_J B sb D cs p l e R s m args below meth c Q s0 (k, pc + 3, xm_st1 L a (.int (x + Int32.ofInt z)), st) h) : xm_J B sb D cs p l e R s m args below meth c Q s0 (k, pc, L, st) h := by
  intro H ls locs cells slots a1 a2 a3 a4 a5 a6 a7
  obtain ⟨q, hq⟩ := List.mem_iff_getElem?.mp (xm_pr_in (B := B) (sb := sb) (xm_ld_some hl))
  exact lv_iinc (k := q) G.1 G.2.1 hd a6.has hq rfl hi rfl (fun ls2 hl2 => kk H ls2 locs cells slots a1 a2 a3 a4 a5 (xm_lh.st1 (v := .int (x + Int32.ofInt z)) hi hl2) ((xm_len_st1 _ _ _).trans a7))
theorem xm_r_iadd {x y : Int32} (G : xm_G B sb Lx xs D cs l p s m args meth c k) (hd : decode (xm_b k) pc = .ok (.iadd, 1)) (kk : xm_J B sb D cs p l e R s m args below meth c Q s0 (k, pc + 1, L, .int (x + y) :: r) h) : xm_J B sb D cs p l e R s m args below meth c Q s0 (k, pc, L, .int y :: .int x :: r) h :=
  fun H ls locs cells slots a1 a2 a3 a4 a5 a6 a7 => lv_iadd G.1 G.2.1 hd (kk H ls locs cells slots a1 a2 a3 a4 a5 a6 a7)
theorem xm_r_isub {x y : Int32} (G : xm_G B sb Lx xs D cs l p s m args meth c k) (hd : decode (xm_b k) pc = .ok (.isub, 1)) (kk : xm_J B sb D cs p l e R s m args below meth c Q s0 (k, pc + 1, L, .int (x - y) :: r) h) : xm_J B sb D cs p l e R s m args below meth c Q s0 (k, pc, L, .int y :: .int x :: r) h :=
  fun H ls locs cells slots a1 a2 a3 a4 a5 a6 a7 => lv_isub G.1 G.2.1 hd (kk H ls locs cells slots a1 a2 a3 a4 a5 a6 a7)
theorem xm_r_imul {x y : Int32} (G : xm_G B sb Lx xs D cs l p s m args meth c k) (hd : decode (xm_b k) pc = .ok (.imul, 1)) (kk : xm_J B sb D cs p l e R s m args below meth c Q s0 (k, pc + 1, L, .int (x * y) :: r) h) : xm_J B sb D cs p l e R s m args below meth c Q s0 (k, pc, L, .int y :: .int x :: r) h :=
  fun H ls locs cells slots a1 a2 a3 a4 a5 a6 a7 => lv_imul G.1 G.2.1 hd (kk H ls locs cells slots a1 a2 a3 a4 a5 a6 a7)
theorem xm_r_iand {x y : Int32} (G : xm_G B sb Lx xs D cs l p s m args meth c k) (hd : decode (xm_b k) pc = .ok (.iand, 1)) (kk : xm_J B sb D cs p l e R s m args below meth c Q s0 (k, pc + 1, L, .int (x &&& y) :: r) h) : xm_J B sb D cs p l e R s m args below meth c Q s0 (k, pc, L, .int y :: .int x :: r) h :=
  fun H ls locs cells slots a1 a2 a3 a4 a5 a6 a7 => lv_iand G.1 G.2.1 hd (kk H ls locs cells slots a1 a2 a3 a4 a5 a6 a7)
theorem xm_r_ior {x y : Int32} (G : xm_G B sb Lx xs D cs l p s m args meth c k) (hd : decode (xm_b k) pc = .ok (.ior, 1)) (kk : xm_J B sb D cs p l e R s m args below meth c Q s0 (k, pc + 1, L, .int (x ||| y) :: r) h) : xm_J B sb D cs p l e R s m args below meth c Q s0 (k, pc, L, .int y :: .int x :: r) h :=
  fun H ls locs cells slots a1 a2 a3 a4 a5 a6 a7 => lv_ior G.1 G.2.1 hd (kk H ls locs cells slots a1 a2 a3 a4 a5 a6 a7)
theorem xm_r_ishl {x y : Int32} (G : xm_G B sb Lx xs D cs l p s m args meth c k) (hd : decode (xm_b k) pc = .ok (.ishl, 1)) (kk : xm_J B sb D cs p l e R s m args below meth c Q s0 (k, pc + 1, L, .int (x <<< (y &&& 31)) :: r) h) : xm_J B sb D cs p l e R s m args below meth c Q s0 (k, pc, L, .int y :: .int x :: r) h :=
  fun H ls locs cells slots a1 a2 a3 a4 a5 a6 a7 => lv_ishl G.1 G.2.1 hd (kk H ls locs cells slots a1 a2 a3 a4 a5 a6 a7)
theorem xm_r_ishr {x y : Int32} (G : xm_G B sb Lx xs D cs l p s m args meth c k) (hd : decode (xm_b k) pc = .ok (.ishr, 1)) (kk : xm_J B sb D cs p l e R s m args below meth c Q s0 (k, pc + 1, L, .int (x >>> (y &&& 31)) :: r) h) : xm_J B sb D cs p l e R s m args below meth c Q s0 (k, pc, L, .int y :: .int x :: r) h :=
  fun H ls locs cells slots a1 a2 a3 a4 a5 a6 a7 => lv_ishr G.1 G.2.1 hd (kk H ls locs cells slots a1 a2 a3 a4 a5 a6 a7)
theorem xm_r_idiv {x y : Int32} (G : xm_G B sb Lx xs D cs l p s m args meth c k) (hd : decode (xm_b k) pc = .ok (.idiv, 1)) (hy : ¬ y = 0) (kk : xm_J B sb D cs p l e R s m args below meth c Q s0 (k, pc + 1, L, .int (x / y) :: r) h) : xm_J B sb D cs p l e R s m args below meth c Q s0 (k, pc, L, .int y :: .int x :: r) h :=
  fun H ls locs cells slots a1 a2 a3 a4 a5 a6 a7 => lv_idiv G.1 G.2.1 hd hy (kk H ls locs cells slots a1 a2 a3 a4 a5 a6 a7)
theorem xm_r_irem {x y : Int32} (G : xm_G B sb Lx xs D cs l p s m args meth c k) (hd : decode (xm_b k) pc = .ok (.irem, 1)) (hy : ¬ y = 0) (kk : xm_J B sb D cs p l e R s m args below meth c Q s0 (k, pc + 1, L, .int (x - x / y * y) :: r) h) : xm_J B sb D cs p l e R s m args below meth c Q s0 (k, pc, L, .int y :: .int x :: r) h :=
  fun H ls locs cells slots a1 a2 a3 a4 a5 a6 a7 => lv_irem G.1 G.2.1 hd hy (kk H ls locs cells slots a1 a2 a3 a4 a5 a6 a7)
theorem xm_r_ladd {x y : Int64} (G : xm_G B sb Lx xs D cs l p s m args meth c k) (hd : decode (xm_b k) pc = .ok (.ladd, 1)) (kk : xm_J B sb D cs p l e R s m args below meth c Q s0 (k, pc + 1, L, .long (x + y) :: r) h) : xm_J B sb D cs p l e R s m args below meth c Q s0 (k, pc, L, .long y :: .long x :: r) h :=
  fun H ls locs cells slots a1 a2 a3 a4 a5 a6 a7 => lv_ladd G.1 G.2.1 hd (kk H ls locs cells slots a1 a2 a3 a4 a5 a6 a7)
theorem xm_r_lmul {x y : Int64} (G : xm_G B sb Lx xs D cs l p s m args meth c k) (hd : decode (xm_b k) pc = .ok (.lmul, 1)) (kk : xm_J B sb D cs p l e R s m args below meth c Q s0 (k, pc + 1, L, .long (x * y) :: r) h) : xm_J B sb D cs p l e R s m args below meth c Q s0 (k, pc, L, .long y :: .long x :: r) h :=
  fun H ls locs cells slots a1 a2 a3 a4 a5 a6 a7 => lv_lmul G.1 G.2.1 hd (kk H ls locs cells slots a1 a2 a3 a4 a5 a6 a7)
theorem xm_r_land {x y : Int64} (G : xm_G B sb Lx xs D cs l p s m args meth c k) (hd : decode (xm_b k) pc = .ok (.land, 1)) (kk : xm_J B sb D cs p l e R s m args below meth c Q s0 (k, pc + 1, L, .long (x &&& y) :: r) h) : xm_J B sb D cs p l e R s m args below meth c Q s0 (k, pc, L, .long y :: .long x :: r) h :=
  fun H ls locs cells slots a1 a2 a3 a4 a5 a6 a7 => lv_land G.1 G.2.1 hd (kk H ls locs cells slots a1 a2 a3 a4 a5 a6 a7)
theorem xm_r_lor {x y : Int64} (G : xm_G B sb Lx xs D cs l p s m args meth c k) (hd : decode (xm_b k) pc = .ok (.lor, 1)) (kk : xm_J B sb D cs p l e R s m args below meth c Q s0 (k, pc + 1, L, .long (x ||| y) :: r) h) : xm_J B sb D cs p l e R s m args below meth c Q s0 (k, pc, L, .long y :: .long x :: r) h :=
  fun H ls locs cells slots a1 a2 a3 a4 a5 a6 a7 => lv_lor G.1 G.2.1 hd (kk H ls locs cells slots a1 a2 a3 a4 a5 a6 a7)
theorem xm_r_lshl {x : Int64} {y : Int32} (G : xm_G B sb Lx xs D cs l p s m args meth c k) (hd : decode (xm_b k) pc = .ok (.lshl, 1)) (kk : xm_J B sb D cs p l e R s m args below meth c Q s0 (k, pc + 1, L, .long (x <<< (y.toInt64 &&& 63)) :: r) h) : xm_J B sb D cs p l e R s m args below meth c Q s0 (k, pc, L, .int y :: .long x :: r) h :=
  fun H ls locs cells slots a1 a2 a3 a4 a5 a6 a7 => lv_lshl G.1 G.2.1 hd rfl (kk H ls locs cells slots a1 a2 a3 a4 a5 a6 a7)
theorem xm_r_lshr {x : Int64} {y : Int32} (G : xm_G B sb Lx xs D cs l p s m args meth c k) (hd : decode (xm_b k) pc = .ok (.lshr, 1)) (kk : xm_J B sb D cs p l e R s m args below meth c Q s0 (k, pc + 1, L, .long (x >>> (y.toInt64 &&& 63)) :: r) h) : xm_J B sb D cs p l e R s m args below meth c Q s0 (k, pc, L, .int y :: .long x :: r) h :=
  fun H ls locs cells slots a1 a2 a3 a4 a5 a6 a7 => lv_lshr G.1 G.2.1 hd rfl (kk H ls locs cells slots a1 a2 a3 a4 a5 a6 a7)
theorem xm_r_lushr {x : Int64} {y : Int32} (G : xm_G B sb Lx xs D cs l p s m args meth c k) (hd : decode (xm_b k) pc = .ok (.lushr, 1)) (kk : xm_J B sb D cs p l e R s m args below meth c Q s0 (k, pc + 1, L, .long ((x.toUInt64 >>> (y.toInt64.toUInt64 &&& Int64.toUInt64 63)).toInt64) :: r) h) : xm_J B sb D cs p l e R s m args below meth c Q s0 (k, pc, L, .int y :: .long x :: r) h :=
  fun H ls locs cells slots a1 a2 a3 a4 a5 a6 a7 => lv_lushr G.1 G.2.1 hd rfl (kk H ls locs cells slots a1 a2 a3 a4 a5 a6 a7)
theorem xm_r_lcmp {x y : Int64} (G : xm_G B sb Lx xs D cs l p s m args meth c k) (hd : decode (xm_b k) pc = .ok (.lcmp, 1)) (kk : xm_J B sb D cs p l e R s m args below meth c Q s0 (k, pc + 1, L, .int (lg_cmp x y) :: r) h) : xm_J B sb D cs p l e R s m args below meth c Q s0 (k, pc, L, .long y :: .long x :: r) h :=
  fun H ls locs cells slots a1 a2 a3 a4 a5 a6 a7 => W.lcmp G.1 G.2.1 hd (kk H ls locs cells slots a1 a2 a3 a4 a5 a6 a7)
theorem xm_r_i2l {x : Int32} (G : xm_G B sb Lx xs D cs l p s m args meth c k) (hd : decode (xm_b k) pc = .ok (.i2l, 1)) (kk : xm_J B sb D cs p l e R s m args below meth c Q s0 (k, pc + 1, L, .long x.toInt64 :: r) h) : xm_J B sb D cs p l e R s m args below meth c Q s0 (k, pc, L, .int x :: r) h :=
  fun H ls locs cells slots a1 a2 a3 a4 a5 a6 a7 => lv_i2l G.1 G.2.1 hd rfl (kk H ls locs cells slots a1 a2 a3 a4 a5 a6 a7)
theorem xm_r_l2i {x : Int64} (G : xm_G B sb Lx xs D cs l p s m args meth c k) (hd : decode (xm_b k) pc = .ok (.l2i, 1)) (kk : xm_J B sb D cs p l e R s m args below meth c Q s0 (k, pc + 1, L, .int x.toInt32 :: r) h) : xm_J B sb D cs p l e R s m args below meth c Q s0 (k, pc, L, .long x :: r) h :=
  fun H ls locs cells slots a1 a2 a3 a4 a5 a6 a7 => lv_l2i G.1 G.2.1 hd rfl (kk H ls locs cells slots a1 a2 a3 a4 a5 a6 a7)
theorem xm_r_dup {v : Value} (G : xm_G B sb Lx xs D cs l p s m args meth c k) (hd : decode (xm_b k) pc = .ok (.dup, 1)) (hv : v.category = 1) (kk : xm_J B sb D cs p l e R s m args below meth c Q s0 (k, pc + 1, L, v :: v :: r) h) : xm_J B sb D cs p l e R s m args below meth c Q s0 (k, pc, L, v :: r) h :=
  fun H ls locs cells slots a1 a2 a3 a4 a5 a6 a7 => lv_dup G.1 G.2.1 hd ((xm_cat_cv B sb v).trans hv) (kk H ls locs cells slots a1 a2 a3 a4 a5 a6 a7)
theorem xm_r_pop {v : Value} (G : xm_G B sb Lx xs D cs l p s m args meth c k) (hd : decode (xm_b k) pc = .ok (.pop, 1)) (hv : v.category = 1) (kk : xm_J B sb D cs p l e R s m args below meth c Q s0 (k, pc + 1, L, r) h) : xm_J B sb D cs p l e R s m args below meth c Q s0 (k, pc, L, v :: r) h :=
  fun H ls locs cells slots a1 a2 a3 a4 a5 a6 a7 => lv_pop G.1 G.2.1 hd ((xm_cat_cv B sb v).trans hv) (kk H ls locs cells slots a1 a2 a3 a4 a5 a6 a7)
theorem xm_r_dup_x1 {v u : Value} (G : xm_G B sb Lx xs D cs l p s m args meth c k) (hd : decode (xm_b k) pc = .ok (.dup_x1, 1)) (hv : v.category = 1) (hu : u.category = 1) (kk : xm_J B sb D cs p l e R s m args below meth c Q s0 (k, pc + 1, L, v :: u :: v :: r) h) : xm_J B sb D cs p l e R s m args below meth c Q s0 (k, pc, L, v :: u :: r) h :=
  fun H ls locs cells slots a1 a2 a3 a4 a5 a6 a7 => lv_dup_x1 G.1 G.2.1 hd ((xm_cat_cv B sb v).trans hv) ((xm_cat_cv B sb u).trans hu) (kk H ls locs cells slots a1 a2 a3 a4 a5 a6 a7)
theorem xm_r_dup_x2 {v u t : Value} (G : xm_G B sb Lx xs D cs l p s m args meth c k) (hd : decode (xm_b k) pc = .ok (.dup_x2, 1)) (hv : v.category = 1) (hu : u.category = 1) (ht : t.category = 1) (kk : xm_J B sb D cs p l e R s m args below meth c Q s0 (k, pc + 1, L, v :: u :: t :: v :: r) h) : xm_J B sb D cs p l e R s m args below meth c Q s0 (k, pc, L, v :: u :: t :: r) h :=
  fun H ls locs cells slots a1 a2 a3 a4 a5 a6 a7 => lv_dup_x2 G.1 G.2.1 hd ((xm_cat_cv B sb v).trans hv) ((xm_cat_cv B sb u).trans hu) ((xm_cat_cv B sb t).trans ht) (kk H ls locs cells slots a1 a2 a3 a4 a5 a6 a7)
theorem xm_r_dup2 {v u : Value} (G : xm_G B sb Lx xs D cs l p s m args meth c k) (hd : decode (xm_b k) pc = .ok (.dup2, 1)) (hv : v.category = 1) (hu : u.category = 1) (kk : xm_J B sb D cs p l e R s m args below meth c Q s0 (k, pc + 1, L, v :: u :: v :: u :: r) h) : xm_J B sb D cs p l e R s m args below meth c Q s0 (k, pc, L, v :: u :: r) h :=
  fun H ls locs cells slots a1 a2 a3 a4 a5 a6 a7 => lv_dup2_11 G.1 G.2.1 hd ((xm_cat_cv B sb v).trans hv) ((xm_cat_cv B sb u).trans hu) (kk H ls locs cells slots a1 a2 a3 a4 a5 a6 a7)
theorem xm_r_if_eq {x : Int32} {off : Int} (G : xm_G B sb Lx xs D cs l p s m args meth c k) (hd : decode (xm_b k) pc = .ok (.ifCond .eq off, 3)) (ho : 0 ≤ (pc : Int) + off) (kk : xm_J B sb D cs p l e R s m args below meth c Q s0 (k, (if xm_ic .eq x 0 = true then xm_tg pc off else pc + 3), L, r) h) : xm_J B sb D cs p l e R s m args below meth c Q s0 (k, pc, L, .int x :: r) h := by
  intro H ls locs cells slots a1 a2 a3 a4 a5 a6 a7
  have kk := kk H ls locs cells slots a1 a2 a3 a4 a5 a6 a7
  exact lv_if_eq G.1 G.2.1 hd (xm_tgt ho) (fun q => by rw [if_pos (by simpa [xm_ic] using q)] at kk; exact kk) (fun q => by rw [if_neg (by simpa [xm_ic] using q)] at kk; exact kk)
theorem xm_r_ic_eq {x y : Int32} {off : Int} (G : xm_G B sb Lx xs D cs l p s m args meth c k) (hd : decode (xm_b k) pc = .ok (.if_icmp .eq off, 3)) (ho : 0 ≤ (pc : Int) + off) (kk : xm_J B sb D cs p l e R s m args below meth c Q s0 (k, (if xm_ic .eq x y = true then xm_tg pc off else pc + 3), L, r) h) : xm_J B sb D cs p l e R s m args below meth c Q s0 (k, pc, L, .int y :: .int x :: r) h := by
  intro H ls locs cells slots a1 a2 a3 a4 a5 a6 a7
  have kk := kk H ls locs cells slots a1 a2 a3 a4 a5 a6 a7
  exact lv_icmp_eq G.1 G.2.1 hd (xm_tgt ho) (fun q => by rw [if_pos (by simpa [xm_ic] using q)] at kk; exact kk) (fun q => by rw [if_neg (by simpa [xm_ic] using q)] at kk; exact kk)
theorem xm_r_if_ne {x : Int32} {off : Int} (G : xm_G B sb Lx xs D cs l p s m args meth c k) (hd : decode (xm_b k) pc = .ok (.ifCond .ne off, 3)) (ho : 0 ≤ (pc : Int) + off) (kk : xm_J B sb D cs p l e R s m args below meth c Q s0 (k, (if xm_ic .ne x 0 = true then xm_tg pc off else pc + 3), L, r) h) : xm_J B sb D cs p l e R s m args below meth c Q s0 (k, pc, L, .int x :: r) h := by
  intro H ls locs cells slots a1 a2 a3 a4 a5 a6 a7
  have kk := kk H ls locs cells slots a1 a2 a3 a4 a5 a6 a7
  exact lv_if_ne G.1 G.2.1 hd (xm_tgt ho) (fun q => by rw [if_pos (by simpa [xm_ic] using q)] at kk; exact kk) (fun q => by rw [if_neg (by simpa [xm_ic] using q)] at kk; exact kk)
theorem xm_r_ic_ne {x y : Int32} {off : Int} (G : xm_G B sb Lx xs D cs l p s m args meth c k) (hd : decode (xm_b k) pc = .ok (.if_icmp .ne off, 3)) (ho : 0 ≤ (pc : Int) + off) (kk : xm_J B sb D cs p l e R s m args below meth c Q s0 (k, (if xm_ic .ne x y = true then xm_tg pc off else pc + 3), L, r) h) : xm_J B sb D cs p l e R s m args below meth c Q s0 (k, pc, L, .int y :: .int x :: r) h := by
  intro H ls locs cells slots a1 a2 a3 a4 a5 a6 a7
  have kk := kk H ls locs cells slots a1 a2 a3 a4 a5 a6 a7
  exact lv_icmp_ne G.1 G.2.1 hd (xm_tgt ho) (fun q => by rw [if_pos (by simpa [xm_ic] using q)] at kk; exact kk) (fun q => by rw [if_neg (by simpa [xm_ic] using q)] at kk; exact kk)
theorem xm_r_if_lt {x : Int32} {off : Int} (G : xm_G B sb Lx xs D cs l p s m args meth c k) (hd : decode (xm_b k) pc = .ok (.ifCond .lt off, 3)) (ho : 0 ≤ (pc : Int) + off) (kk : xm_J B sb D cs p l e R s m args below meth c Q s0 (k, (if xm_ic .lt x 0 = true then xm_tg pc off else pc + 3), L, r) h) : xm_J B sb D cs p l e R s m args below meth c Q s0 (k, pc, L, .int x :: r) h := by
  intro H ls locs cells slots a1 a2 a3 a4 a5 a6 a7
  have kk := kk H ls locs cells slots a1 a2 a3 a4 a5 a6 a7
  exact lv_if_lt G.1 G.2.1 hd (xm_tgt ho) (fun q => by rw [if_pos (by simpa [xm_ic] using q)] at kk; exact kk) (fun q => by rw [if_neg (by simpa [xm_ic] using q)] at kk; exact kk)
theorem xm_r_ic_lt {x y : Int32} {off : Int} (G : xm_G B sb Lx xs D cs l p s m args meth c k) (hd : decode (xm_b k) pc = .ok (.if_icmp .lt off, 3)) (ho : 0 ≤ (pc : Int) + off) (kk : xm_J B sb D cs p l e R s m args below meth c Q s0 (k, (if xm_ic .lt x y = true then xm_tg pc off else pc + 3), L, r) h) : xm_J B sb D cs p l e R s m args below meth c Q s0 (k, pc, L, .int y :: .int x :: r) h := by
  intro H ls locs cells slots a1 a2 a3 a4 a5 a6 a7
  have kk := kk H ls locs cells slots a1 a2 a3 a4 a5 a6 a7
  exact lv_icmp_lt G.1 G.2.1 hd (xm_tgt ho) (fun q => by rw [if_pos (by simpa [xm_ic] using q)] at kk; exact kk) (fun q => by rw [if_neg (by simpa [xm_ic] using q)] at kk; exact kk)
theorem xm_r_if_ge {x : Int32} {off : Int} (G : xm_G B sb Lx xs D cs l p s m args meth c k) (hd : decode (xm_b k) pc = .ok (.ifCond .ge off, 3)) (ho : 0 ≤ (pc : Int) + off) (kk : xm_J B sb D cs p l e R s m args below meth c Q s0 (k, (if xm_ic .ge x 0 = true then xm_tg pc off else pc + 3), L, r) h) : xm_J B sb D cs p l e R s m args below meth c Q s0 (k, pc, L, .int x :: r) h := by
  intro H ls locs cells slots a1 a2 a3 a4 a5 a6 a7
  have kk := kk H ls locs cells slots a1 a2 a3 a4 a5 a6 a7
  exact lv_if_ge G.1 G.2.1 hd (xm_tgt ho) (fun q => by rw [if_pos (by simpa [xm_ic] using q)] at kk; exact kk) (fun q => by rw [if_neg (by simpa [xm_ic] using q)] at kk; exact kk)
theorem xm_r_ic_ge {x y : Int32} {off : Int} (G : xm_G B sb Lx xs D cs l p s m args meth c k) (hd : decode (xm_b k) pc = .ok (.if_icmp .ge off, 3)) (ho : 0 ≤ (pc : Int) + off) (kk : xm_J B sb D cs p l e R s m args below meth c Q s0 (k, (if xm_ic .ge x y = true then xm_tg pc off else pc + 3), L, r) h) : xm_J B sb D cs p l e R s m args below meth c Q s0 (k, pc, L, .int y :: .int x :: r) h := by
  intro H ls locs cells slots a1 a2 a3 a4 a5 a6 a7
  have kk := kk H ls locs cells slots a1 a2 a3 a4 a5 a6 a7
  exact lv_icmp_ge G.1 G.2.1 hd (xm_tgt ho) (fun q => by rw [if_pos (by simpa [xm_ic] using q)] at kk; exact kk) (fun q => by rw [if_neg (by simpa [xm_ic] using q)] at kk; exact kk)
theorem xm_r_if_gt {x : Int32} {off : Int} (G : xm_G B sb Lx xs D cs l p s m args meth c k) (hd : decode (xm_b k) pc = .ok (.ifCond .gt off, 3)) (ho : 0 ≤ (pc : Int) + off) (kk : xm_J B sb D cs p l e R s m args below meth c Q s0 (k, (if xm_ic .gt x 0 = true then xm_tg pc off else pc + 3), L, r) h) : xm_J B sb D cs p l e R s m args below meth c Q s0 (k, pc, L, .int x :: r) h := by
  intro H ls locs cells slots a1 a2 a3 a4 a5 a6 a7
  have kk := kk H ls locs cells slots a1 a2 a3 a4 a5 a6 a7
  exact lv_if_gt G.1 G.2.1 hd (xm_tgt ho) (fun q => by rw [if_pos (by simpa [xm_ic] using q)] at kk; exact kk) (fun q => by rw [if_neg (by simpa [xm_ic] using q)] at kk; exact kk)
theorem xm_r_ic_gt {x y : Int32} {off : Int} (G : xm_G B sb Lx xs D cs l p s m args meth c k) (hd : decode (xm_b k) pc = .ok (.if_icmp .gt off, 3)) (ho : 0 ≤ (pc : Int) + off) (kk : xm_J B sb D cs p l e R s m args below meth c Q s0 (k, (if xm_ic .gt x y = true then xm_tg pc off else pc + 3), L, r) h) : xm_J B sb D cs p l e R s m args below meth c Q s0 (k, pc, L, .int y :: .int x :: r) h := by
  intro H ls locs cells slots a1 a2 a3 a4 a5 a6 a7
  have kk := kk H ls locs cells slots a1 a2 a3 a4 a5 a6 a7
  exact lv_icmp_gt G.1 G.2.1 hd (xm_tgt ho) (fun q => by rw [if_pos (by simpa [xm_ic] using q)] at kk; exact kk) (fun q => by rw [if_neg (by simpa [xm_ic] using q)] at kk; exact kk)
theorem xm_r_if_le {x : Int32} {off : Int} (G : xm_G B sb Lx xs D cs l p s m args meth c k) (hd : decode (xm_b k) pc = .ok (.ifCond .le off, 3)) (ho : 0 ≤ (pc : Int) + off) (kk : xm_J B sb D cs p l e R s m args below meth c Q s0 (k, (if xm_ic .le x 0 = true then xm_tg pc off else pc + 3), L, r) h) : xm_J B sb D cs p l e R s m args below meth c Q s0 (k, pc, L, .int x :: r) h := by
  intro H ls locs cells slots a1 a2 a3 a4 a5 a6 a7
  have kk := kk H ls locs cells slots a1 a2 a3 a4 a5 a6 a7
  exact lv_if_le G.1 G.2.1 hd (xm_tgt ho) (fun q => by rw [if_pos (by simpa [xm_ic] using q)] at kk; exact kk) (fun q => by rw [if_neg (by simpa [xm_ic] using q)] at kk; exact kk)
theorem xm_r_ic_le {x y : Int32} {off : Int} (G : xm_G B sb Lx xs D cs l p s m args meth c k) (hd : decode (xm_b k) pc = .ok (.if_icmp .le off, 3)) (ho : 0 ≤ (pc : Int) + off) (kk : xm_J B sb D cs p l e R s m args below meth c Q s0 (k, (if xm_ic .le x y = true then xm_tg pc off else pc + 3), L, r) h) : xm_J B sb D cs p l e R s m args below meth c Q s0 (k, pc, L, .int y :: .int x :: r) h := by
  intro H ls locs cells slots a1 a2 a3 a4 a5 a6 a7
  have kk := kk H ls locs cells slots a1 a2 a3 a4 a5 a6 a7
  exact lv_icmp_le G.1 G.2.1 hd (xm_tgt ho) (fun q => by rw [if_pos (by simpa [xm_ic] using q)] at kk; exact kk) (fun q => by rw [if_neg (by simpa [xm_ic] using q)] at kk; exact kk)
theorem xm_r_goto {off : Int} (G : xm_G B sb Lx xs D cs l p s m args meth c k) (hd : decode (xm_b k) pc = .ok (.goto off, 3)) (ho : 0 ≤ (pc : Int) + off) (kk : xm_J B sb D cs p l e R s m args below meth c Q s0 (k, (if true = true then xm_tg pc off else pc + 3), L, r) h) : xm_J B sb D cs p l e R s m args below meth c Q s0 (k, pc, L, r) h := by
  intro H ls locs cells slots a1 a2 a3 a4 a5 a6 a7
  have kk := kk H ls locs cells slots a1 a2 a3 a4 a5 a6 a7
  exact lv_goto G.1 G.2.1 hd (xm_tgt ho) (by rw [if_pos rfl] at kk; exact kk)
theorem xm_r_ifnullN {off : Int} (G : xm_G B sb Lx xs D cs l p s m args meth c k) (hd : decode (xm_b k) pc = .ok (.ifnull off, 3)) (ho : 0 ≤ (pc : Int) + off) (kk : xm_J B sb D cs p l e R s m args below meth c Q s0 (k, (if true = true then xm_tg pc off else pc + 3), L, r) h) : xm_J B sb D cs p l e R s m args below meth c Q s0 (k, pc, L, .null :: r) h := by
  intro H ls locs cells slots a1 a2 a3 a4 a5 a6 a7
  have kk := kk H ls locs cells slots a1 a2 a3 a4 a5 a6 a7
  exact lv_ifnullN G.1 G.2.1 hd (xm_tgt ho) (by rw [if_pos rfl] at kk; exact kk)
theorem xm_r_ifnull {x : Nat} {off : Int} (G : xm_G B sb Lx xs D cs l p s m args meth c k) (hd : decode (xm_b k) pc = .ok (.ifnull off, 3)) (ho : 0 ≤ (pc : Int) + off) (kk : xm_J B sb D cs p l e R s m args below meth c Q s0 (k, (if false = true then xm_tg pc off else pc + 3), L, r) h) : xm_J B sb D cs p l e R s m args below meth c Q s0 (k, pc, L, .ref x :: r) h := by
  intro H ls locs cells slots a1 a2 a3 a4 a5 a6 a7
  have kk := kk H ls locs cells slots a1 a2 a3 a4 a5 a6 a7
  exact lv_ifnull G.1 G.2.1 hd (by rw [if_neg (by decide)] at kk; exact kk)
theorem xm_r_ifnonnull {x : Nat} {off : Int} (G : xm_G B sb Lx xs D cs l p s m args meth c k) (hd : decode (xm_b k) pc = .ok (.ifnonnull off, 3)) (ho : 0 ≤ (pc : Int) + off) (kk : xm_J B sb D cs p l e R s m args below meth c Q s0 (k, (if true = true then xm_tg pc off else pc + 3), L, r) h) : xm_J B sb D cs p l e R s m args below meth c Q s0 (k, pc, L, .ref x :: r) h := by
  intro H ls locs cells slots a1 a2 a3 a4 a5 a6 a7
  have kk := kk H ls locs cells slots a1 a2 a3 a4 a5 a6 a7
  exact lv_ifnonnull G.1 G.2.1 hd (xm_tgt ho) (by rw [if_pos rfl] at kk; exact kk)
theorem xm_r_ifnonnullN {off : Int} (G : xm_G B sb Lx xs D cs l p s m args meth c k) (hd : decode (xm_b k) pc = .ok (.ifnonnull off, 3)) (ho : 0 ≤ (pc : Int) + off) (kk : xm_J B sb D cs p l e R s m args below meth c Q s0 (k, (if false = true then xm_tg pc off else pc + 3), L, r) h) : xm_J B sb D cs p l e R s m args below meth c Q s0 (k, pc, L, .null :: r) h := by
  intro H ls locs cells slots a1 a2 a3 a4 a5 a6 a7
  have kk := kk H ls locs cells slots a1 a2 a3 a4 a5 a6 a7
  exact lv_ifnonnullN G.1 G.2.1 hd (by rw [if_neg (by decide)] at kk; exact kk)
theorem xm_r_tout {d lo hi : Int} {offs : Array Int} {n : Nat} {x : Int32} (G : xm_G B sb Lx xs D cs l p s m args meth c k) (hd : decode (xm_b k) pc = .ok (.tableswitch d lo hi offs, n)) (hx : x.toInt < lo ∨ hi < x.toInt) (ho : 0 ≤ (pc : Int) + d) (kk : xm_J B sb D cs p l e R s m args below meth c Q s0 (k, xm_tg pc d, L, r) h) : xm_J B sb D cs p l e R s m args below meth c Q s0 (k, pc, L, .int x :: r) h :=
  fun H ls locs cells slots a1 a2 a3 a4 a5 a6 a7 => lv_tableOut G.1 G.2.1 hd hx (xm_tgt ho) (kk H ls locs cells slots a1 a2 a3 a4 a5 a6 a7)
theorem xm_r_tin {d lo hi off : Int} {offs : Array Int} {n : Nat} {x : Int32} (G : xm_G B sb Lx xs D cs l p s m args meth c k) (hd : decode (xm_b k) pc = .ok (.tableswitch d lo hi offs, n)) (hx : ¬ (x.toInt < lo ∨ hi < x.toInt)) (hf : offs.toList[(x.toInt - lo).toNat]? = some off) (ho : 0 ≤ (pc : Int) + off) (kk : xm_J B sb D cs p l e R s m args below meth c Q s0 (k, xm_tg pc off, L, r) h) : xm_J B sb D cs p l e R s m args below meth c Q s0 (k, pc, L, .int x :: r) h :=
  fun H ls locs cells slots a1 a2 a3 a4 a5 a6 a7 => lv_tableIn G.1 G.2.1 hd (fun q => hx (Or.inl q)) (fun q => hx (Or.inr q)) (by rw [← Array.getElem?_toList]; exact hf) (xm_tgt ho) (kk H ls locs cells slots a1 a2 a3 a4 a5 a6 a7)
theorem xm_r_lsw {d : Int} {ps : Array (Int × Int)} {n : Nat} {x : Int32} (G : xm_G B sb Lx xs D cs l p s m args meth c k) (hd : decode (xm_b k) pc = .ok (.lookupswitch d ps, n)) (hp : (ps.toList.zip (ps.toList.drop 1)).all (fun (a, next) => a.1 < next.1) = true) (ho : 0 ≤ (pc : Int) + Op.lookupswitch.offset ps.toList d x.toInt) (kk : xm_J B sb D cs p l e R s m args below meth c Q s0 (k, xm_tg pc (Op.lookupswitch.offset ps.toList d x.toInt), L, r) h) : xm_J B sb D cs p l e R s m args below meth c Q s0 (k, pc, L, .int x :: r) h :=
  fun H ls locs cells slots a1 a2 a3 a4 a5 a6 a7 => lv_lookup G.1 G.2.1 hd hp rfl (xm_tgt ho) (kk H ls locs cells slots a1 a2 a3 a4 a5 a6 a7)
/-- a cell is changed: what the kit's row gives is what the machine says -/
theorem xm_back {H H1 : Heap} {ls : Array Slot} {locs1 : List Loc} {cells slots i q0 pc2 : Nat} {e1 e2 : xm_E} {st2 : List Value} (kk : xm_J B sb D cs p l e R s m args below meth c Q s0 (k, pc2, L, st2) (xm_put h i e2)) (hB : B < s.heap.size)
    (a1 : xm_hb B sb D cs h.1 H) (a2 : ∀ q : Nat, q ≤ B → H[q]? = s.heap[q]?) (a4 : s.heap.size + cells = B + h.1.length) (a5 : s0 + slots = h.2) (a6 : xm_lh B sb L ls) (a7 : L.length = xm_n k)
    (hi : h.1[i]? = some (some e1)) (hq : (xm_wl B sb cs h.1)[q0]? = some (B + i, xm_ce B sb cs e1)) (hP : va_P D xm_cls ((xm_wl B sb cs h.1).set q0 (B + i, xm_ce B sb cs e2)) H1) (hS : va_S (fun q => B < q) H H1 locs1) :
    W p l e R s m args below meth c H1 locs1 cells slots Q (F0 m pc2 ls (st2.map (xm_cv B sb))) := by
  refine xm_sz fun hsz => ?_
  have hz : H1.size = H.size := by
    have h1 := hS.1
    have h2 := a1.1
    omega
  have hl : 0 < h.1.length := (List.getElem?_eq_some_iff.mp a1.2.1).1
  refine kk H1 ls locs1 cells slots (a1.set hi hq hP hz) (fun q hq9 => ?_) hS.2.2 ?_ a5 a6 a7
  · rw [hS.2.1 q (by have := a1.1; omega) (by omega)]
    exact a2 q hq9
  · show s.heap.size + cells = B + (h.1.set i (some e2)).length
    rw [List.length_set]
    exact a4
theorem xm_s0 {H : Heap} {locs : List Loc} (a3 : ∀ z ∈ locs, B < z.base) : va_S (fun q => B < q) H H locs := ⟨Nat.le_refl _, fun _ _ _ => rfl, a3⟩

theorem xm_r_gf {a i ci j : Nat} {fs : List Value} {v : Value} (G : xm_G B sb Lx xs D cs l p s m args meth c k) (hd : decode (xm_b k) pc = .ok (.getfield a, 3)) (hc : xm_cp k a = some (0, ci, j)) (hi : xm_cell h i = some (.inr (ci, fs))) (hv : fs[j]? = some v) (kk : xm_J B sb D cs p l e R s m args below meth c Q s0 (k, pc + 3, L, v :: r) h) : xm_J B sb D cs p l e R s m args below meth c Q s0 (k, pc, L, .ref i :: r) h := by
  intro H ls locs cells slots a1 a2 a3 a4 a5 a6 a7
  have hi := xm_cell_some hi
  obtain ⟨C, T, N, t1, t2, t3, -⟩ := xm_t_f hc
  obtain ⟨q0, hq⟩ := xm_wl_at (B := B) (sb := sb) (cs := cs) hi
  show W p l e R s m args below meth c H locs cells slots Q (F0 m pc ls (.ref (xm_ad B sb i) :: r.map (xm_cv B sb)))
  rw [a1.adr hi]
  exact va_get (D := D) (ci := ci) (v := xm_cv B sb v) (C := C) (T := T) (N := N) G.1 G.2.1 G.2.2.2.2.2.1 (xm_t_lay t1).1 G.2.2.2.2.1 G.2.2.2.2.2.2.2.2.2.1 (xm_wl_P a1) q0 (fs := fs.map (xm_cv B sb)) hq t1 j t2 (G.2.2.2.2.2.1 _ t3) (fun _ h9 => h9) (by rw [List.getElem?_map, hv]; rfl) hd (kk H ls locs cells slots a1 a2 a3 a4 a5 a6 a7)
theorem xm_fit_ok {ty : FieldType} {v : Value} (hf : xm_fit ty v = true) : narrow ty (xm_cv B sb v) = xm_cv B sb v ∧ fits ty (xm_cv B sb v) = true := by
  unfold xm_fit at hf
  split at hf
  · exact ⟨rfl, rfl⟩
  · rename_i x
    simp only [Bool.or_eq_true, decide_eq_true_eq] at hf
    rcases hf with rfl | rfl
    · exact ⟨show narrow .boolean (.int 0) = .int 0 from by decide +kernel, show fits .boolean (.int 0) = true from by decide +kernel⟩
    · exact ⟨show narrow .boolean (.int 1) = .int 1 from by decide +kernel, show fits .boolean (.int 1) = true from by decide +kernel⟩
  · exact ⟨rfl, rfl⟩
  · exact ⟨rfl, rfl⟩
  · exact ⟨rfl, rfl⟩
  · exact ⟨rfl, rfl⟩
  · exact ⟨rfl, rfl⟩
  · cases hf
theorem xm_r_pf {a i ci j : Nat} {fs : List Value} {v : Value} (G : xm_G B sb Lx xs D cs l p s m args meth c k) (hd : decode (xm_b k) pc = .ok (.putfield a, 3)) (hc : xm_cp k a = some (0, ci, j)) (hi : xm_cell h i = some (.inr (ci, fs))) (hj : j < fs.length) (hf : xm_fit (xm_fty ci j) v = true) (hk : xm_pok k ci j = true) (kk : xm_J B sb D cs p l e R s m args below meth c Q s0 (k, pc + 3, L, r) (xm_put h i (.inr (ci, fs.set j v)))) : xm_J B sb D cs p l e R s m args below meth c Q s0 (k, pc, L, v :: .ref i :: r) h := by
  intro H ls locs cells slots a1 a2 a3 a4 a5 a6 a7
  have hi := xm_cell_some hi
  obtain ⟨C, T, N, t1, t2, t3, t4, t5, t6⟩ := xm_t_f hc
  obtain ⟨u1, u2, u3⟩ := xm_t_lay t1
  obtain ⟨q0, hq⟩ := xm_wl_at (B := B) (sb := sb) (cs := cs) hi
  show W p l e R s m args below meth c H locs cells slots Q (F0 m pc ls (xm_cv B sb v :: .ref (xm_ad B sb i) :: r.map (xm_cv B sb)))
  rw [a1.adr hi]
  have hm : (fs.map (xm_cv B sb)).set j (xm_cv B sb v) = (fs.set j v).map (xm_cv B sb) := (List.map_set ..).symm
  unfold xm_pok at hk
  rw [Bool.or_eq_true] at hk
  by_cases hfin : xm_fin ci j = true
  · rw [hfin, Bool.not_true, Bool.and_eq_true] at hk
    obtain ⟨k1, k2⟩ := hk.resolve_left (by decide)
    refine va_putF (D := D) (ci := ci) (v := xm_cv B sb v) (ty := xm_fty ci j) (C := C) (T := T) (N := N) (H0 := H) (A := fun q => B < q) G.1 G.2.1 G.2.2.2.2.2.1 u1 (xm_fty ci) u2 u3 G.2.2.2.2.1 G.2.2.2.2.2.2.2.2.2.1 (xm_wl_P a1) (xm_wl_D a1) (xm_s0 a3) q0 (fs := fs.map (xm_cv B sb)) hq t1 j t2 (G.2.2.2.2.2.1 _ t3) (fun _ h9 => h9) (t5.trans hfin) (G.2.2.2.2.2.2.2.1 k1) (t6 (of_decide_eq_true k2)) t4 (xm_fit_ok hf).1 (xm_fit_ok hf).2 (by rw [List.length_map]; exact hj) hd (fun H1 locs1 hP _ hS => ?_)
    rw [hm] at hP
    exact xm_back kk G.2.2.2.2.2.2.2.2.2.2.2.2.1 a1 a2 a4 a5 a6 a7 hi hq hP hS
  · refine va_put (D := D) (ci := ci) (v := xm_cv B sb v) (ty := xm_fty ci j) (C := C) (T := T) (N := N) (H0 := H) (A := fun q => B < q) G.1 G.2.1 G.2.2.2.2.2.1 u1 (xm_fty ci) u2 u3 G.2.2.2.2.1 G.2.2.2.2.2.2.2.2.2.1 (xm_wl_P a1) (xm_wl_D a1) (xm_s0 a3) q0 (fs := fs.map (xm_cv B sb)) hq t1 j t2 (G.2.2.2.2.2.1 _ t3) (fun _ h9 => h9) (t5.trans (by simpa using hfin)) t4 (xm_fit_ok hf).1 (xm_fit_ok hf).2 (by rw [List.length_map]; exact hj) hd (fun H1 locs1 hP _ hS => ?_)
    rw [hm] at hP
    exact xm_back kk G.2.2.2.2.2.2.2.2.2.2.2.2.1 a1 a2 a4 a5 a6 a7 hi hq hP hS
theorem xm_r_iald {i n : Nat} {f : Nat → Int32} {j : Int32} (G : xm_G B sb Lx xs D cs l p s m args meth c k) (hd : decode (xm_b k) pc = .ok (.iaload, 1)) (hi : xm_cell h i = some (.inl (0, n, .inl f))) (hj : ¬ (j < 0 ∨ n ≤ j.toNatClampNeg)) (kk : xm_J B sb D cs p l e R s m args below meth c Q s0 (k, pc + 1, L, .int (f j.toNatClampNeg) :: r) h) : xm_J B sb D cs p l e R s m args below meth c Q s0 (k, pc, L, .int j :: .ref i :: r) h := by
  intro H ls locs cells slots a1 a2 a3 a4 a5 a6 a7
  have hi := xm_cell_some hi
  obtain ⟨q0, hq⟩ := xm_wl_at (B := B) (sb := sb) (cs := cs) hi
  show W p l e R s m args below meth c H locs cells slots Q (F0 m pc ls (.int j :: .ref (xm_ad B sb i) :: r.map (xm_cv B sb)))
  rw [a1.adr hi]
  exact va_iald (f := f) (n := n) G.1 G.2.1 G.2.2.2.2.2.2.2.2.2.1 (xm_wl_P a1) q0 0 hq rfl hj hd (kk H ls locs cells slots a1 a2 a3 a4 a5 a6 a7)
theorem xm_r_zald {i n : Nat} {f : Nat → Int32} {j : Int32} (G : xm_G B sb Lx xs D cs l p s m args meth c k) (hd : decode (xm_b k) pc = .ok (.baload, 1)) (hi : xm_cell h i = some (.inl (2, n, .inl f))) (hj : ¬ (j < 0 ∨ n ≤ j.toNatClampNeg)) (kk : xm_J B sb D cs p l e R s m args below meth c Q s0 (k, pc + 1, L, .int (f j.toNatClampNeg) :: r) h) : xm_J B sb D cs p l e R s m args below meth c Q s0 (k, pc, L, .int j :: .ref i :: r) h := by
  intro H ls locs cells slots a1 a2 a3 a4 a5 a6 a7
  have hi := xm_cell_some hi
  obtain ⟨q0, hq⟩ := xm_wl_at (B := B) (sb := sb) (cs := cs) hi
  show W p l e R s m args below meth c H locs cells slots Q (F0 m pc ls (.int j :: .ref (xm_ad B sb i) :: r.map (xm_cv B sb)))
  rw [a1.adr hi]
  exact va_zald (f := f) (n := n) G.1 G.2.1 G.2.2.2.2.2.2.2.2.2.1 (xm_wl_P a1) q0 2 hq rfl hj hd (kk H ls locs cells slots a1 a2 a3 a4 a5 a6 a7)
theorem xm_r_lald {i n : Nat} {f : Nat → Int64} {j : Int32} (G : xm_G B sb Lx xs D cs l p s m args meth c k) (hd : decode (xm_b k) pc = .ok (.laload, 1)) (hi : xm_cell h i = some (.inl (1, n, .inr (.inl f)))) (hj : ¬ (j < 0 ∨ n ≤ j.toNatClampNeg)) (kk : xm_J B sb D cs p l e R s m args below meth c Q s0 (k, pc + 1, L, .long (f j.toNatClampNeg) :: r) h) : xm_J B sb D cs p l e R s m args below meth c Q s0 (k, pc, L, .int j :: .ref i :: r) h := by
  intro H ls locs cells slots a1 a2 a3 a4 a5 a6 a7
  have hi := xm_cell_some hi
  obtain ⟨q0, hq⟩ := xm_wl_at (B := B) (sb := sb) (cs := cs) hi
  show W p l e R s m args below meth c H locs cells slots Q (F0 m pc ls (.int j :: .ref (xm_ad B sb i) :: r.map (xm_cv B sb)))
  rw [a1.adr hi]
  exact va_lald (f := f) (n := n) G.1 G.2.1 G.2.2.2.2.2.2.2.2.2.1 (xm_wl_P a1) q0 1 hq rfl hj hd (kk H ls locs cells slots a1 a2 a3 a4 a5 a6 a7)
theorem xm_cv_rf (B sb : Nat) (o : Option Nat) : xm_cv B sb (va_rf o) = va_rf (o.map (xm_ad B sb)) := by cases o <;> rfl
theorem xm_r_aald {i n : Nat} {f : Nat → Option Nat} {j : Int32} (G : xm_G B sb Lx xs D cs l p s m args meth c k) (hd : decode (xm_b k) pc = .ok (.aaload, 1)) (hi : xm_cell h i = some (.inl (3, n, .inr (.inr f)))) (hj : ¬ (j < 0 ∨ n ≤ j.toNatClampNeg)) (kk : xm_J B sb D cs p l e R s m args below meth c Q s0 (k, pc + 1, L, va_rf (f j.toNatClampNeg) :: r) h) : xm_J B sb D cs p l e R s m args below meth c Q s0 (k, pc, L, .int j :: .ref i :: r) h := by
  intro H ls locs cells slots a1 a2 a3 a4 a5 a6 a7
  have hi := xm_cell_some hi
  obtain ⟨q0, hq⟩ := xm_wl_at (B := B) (sb := sb) (cs := cs) hi
  have kk := kk H ls locs cells slots a1 a2 a3 a4 a5 a6 a7
  rw [List.map_cons, xm_cv_rf] at kk
  show W p l e R s m args below meth c H locs cells slots Q (F0 m pc ls (.int j :: .ref (xm_ad B sb i) :: r.map (xm_cv B sb)))
  rw [a1.adr hi]
  exact va_aldq (f := fun j => (f j).map (xm_ad B sb)) (n := n) G.1 G.2.1 G.2.2.2.2.2.2.2.2.2.1 (xm_wl_P a1) q0 3 hq rfl hj hd kk
theorem xm_r_sld {j : Int32} (G : xm_G B sb Lx xs D cs l p s m args meth c k) (hd : decode (xm_b k) pc = .ok (.iaload, 1)) (hj : ¬ (j < 0 ∨ Lx ≤ j.toNatClampNeg)) (kk : xm_J B sb D cs p l e R s m args below meth c Q s0 (k, pc + 1, L, .int (xs j.toNatClampNeg) :: r) h) : xm_J B sb D cs p l e R s m args below meth c Q s0 (k, pc, L, .int j :: .ref 0 :: r) h := by
  intro H ls locs cells slots a1 a2 a3 a4 a5 a6 a7
  have hX := G.2.2.2.2.2.2.2.2.2.2.1
  have hsb := G.2.2.2.2.2.2.2.2.2.2.2.1
  have hX2 : va_X sb Lx xs s H := hX.kept (a2 sb hsb)
  have hl : sb < H.size := by have := a1.1; have : 0 < h.1.length := (List.getElem?_eq_some_iff.mp a1.2.1).1; omega
  exact va_sld (A := fun q => B < q) (H0 := H) G.1 G.2.1 hX2 hl (by show ¬ B < sb; omega) (xm_s0 a3) hj hd (kk H ls locs cells slots a1 a2 a3 a4 a5 a6 a7)
theorem xm_r_slen (G : xm_G B sb Lx xs D cs l p s m args meth c k) (hd : decode (xm_b k) pc = .ok (.arraylength, 1)) (kk : xm_J B sb D cs p l e R s m args below meth c Q s0 (k, pc + 1, L, .int (Int32.ofNat Lx) :: r) h) : xm_J B sb D cs p l e R s m args below meth c Q s0 (k, pc, L, .ref 0 :: r) h := by
  intro H ls locs cells slots a1 a2 a3 a4 a5 a6 a7
  have hX := G.2.2.2.2.2.2.2.2.2.2.1
  have hsb := G.2.2.2.2.2.2.2.2.2.2.2.1
  have hX2 : va_X sb Lx xs s H := hX.kept (a2 sb hsb)
  have hl : sb < H.size := by have := a1.1; have : 0 < h.1.length := (List.getElem?_eq_some_iff.mp a1.2.1).1; omega
  exact va_slen (A := fun q => B < q) (H0 := H) G.1 G.2.1 hX2 hl (by show ¬ B < sb; omega) (xm_s0 a3) hd (kk H ls locs cells slots a1 a2 a3 a4 a5 a6 a7)
theorem xm_ca_1 (B sb n : Nat) (a : xm_A) : (xm_ca B sb n a).1 = n := by
  unfold xm_ca
  split <;> rfl
theorem xm_r_len {i t n : Nat} {x : xm_A} (G : xm_G B sb Lx xs D cs l p s m args meth c k) (hd : decode (xm_b k) pc = .ok (.arraylength, 1)) (hi : xm_cell h i = some (.inl (t, n, x))) (ht : t < 4) (kk : xm_J B sb D cs p l e R s m args below meth c Q s0 (k, pc + 1, L, .int (Int32.ofNat n) :: r) h) : xm_J B sb D cs p l e R s m args below meth c Q s0 (k, pc, L, .ref i :: r) h := by
  intro H ls locs cells slots a1 a2 a3 a4 a5 a6 a7
  have hi := xm_cell_some hi
  obtain ⟨q0, hq⟩ := xm_wl_at (B := B) (sb := sb) (cs := cs) hi
  show W p l e R s m args below meth c H locs cells slots Q (F0 m pc ls (.ref (xm_ad B sb i) :: r.map (xm_cv B sb)))
  rw [a1.adr hi]
  have hty : ∃ ty, (xm_tys cs)[t]? = some (cs t, ty) := by
    rcases (show t = 0 ∨ t = 1 ∨ t = 2 ∨ t = 3 by omega) with rfl | rfl | rfl | rfl <;> exact ⟨_, rfl⟩
  obtain ⟨ty, hty⟩ := hty
  exact va_alen (x := xm_ca B sb n x) (v := Int32.ofNat n) G.1 G.2.1 G.2.2.2.2.2.2.2.2.2.1 (xm_wl_P a1) q0 t hq hty (by rw [xm_ca_1]) hd (kk H ls locs cells slots a1 a2 a3 a4 a5 a6 a7)
theorem xm_r_iast {i n : Nat} {f : Nat → Int32} {j : Int32} {x : Int32} (G : xm_G B sb Lx xs D cs l p s m args meth c k) (hd : decode (xm_b k) pc = .ok (.iastore, 1)) (hi : xm_cell h i = some (.inl (0, n, .inl f))) (hj : ¬ (j < 0 ∨ n ≤ j.toNatClampNeg)) (kk : xm_J B sb D cs p l e R s m args below meth c Q s0 (k, pc + 1, L, r) (xm_put h i (.inl (0, n, .inl (upd f j.toNatClampNeg x))))) : xm_J B sb D cs p l e R s m args below meth c Q s0 (k, pc, L, .int x :: .int j :: .ref i :: r) h := by
  intro H ls locs cells slots a1 a2 a3 a4 a5 a6 a7
  have hi := xm_cell_some hi
  obtain ⟨q0, hq⟩ := xm_wl_at (B := B) (sb := sb) (cs := cs) hi
  show W p l e R s m args below meth c H locs cells slots Q (F0 m pc ls (.int x :: .int j :: .ref (xm_ad B sb i) :: r.map (xm_cv B sb)))
  rw [a1.adr hi]
  refine va_iast (f := f) (n := n) (H0 := H) (A := fun q => B < q) G.1 G.2.1 G.2.2.2.2.2.2.2.2.2.1 (xm_wl_P a1) (xm_wl_D a1) (xm_s0 a3) q0 0 hq rfl hj hd (fun H1 locs1 hP _ hS => ?_)
  exact xm_back kk G.2.2.2.2.2.2.2.2.2.2.2.2.1 a1 a2 a4 a5 a6 a7 hi hq hP hS
theorem xm_r_last {i n : Nat} {f : Nat → Int64} {j : Int32} {x : Int64} (G : xm_G B sb Lx xs D cs l p s m args meth c k) (hd : decode (xm_b k) pc = .ok (.lastore, 1)) (hi : xm_cell h i = some (.inl (1, n, .inr (.inl f)))) (hj : ¬ (j < 0 ∨ n ≤ j.toNatClampNeg)) (kk : xm_J B sb D cs p l e R s m args below meth c Q s0 (k, pc + 1, L, r) (xm_put h i (.inl (1, n, .inr (.inl (vp_updL f j.toNatClampNeg x)))))) : xm_J B sb D cs p l e R s m args below meth c Q s0 (k, pc, L, .long x :: .int j :: .ref i :: r) h := by
  intro H ls locs cells slots a1 a2 a3 a4 a5 a6 a7
  have hi := xm_cell_some hi
  obtain ⟨q0, hq⟩ := xm_wl_at (B := B) (sb := sb) (cs := cs) hi
  show W p l e R s m args below meth c H locs cells slots Q (F0 m pc ls (.long x :: .int j :: .ref (xm_ad B sb i) :: r.map (xm_cv B sb)))
  rw [a1.adr hi]
  refine va_last (f := f) (n := n) (H0 := H) (A := fun q => B < q) G.1 G.2.1 G.2.2.2.2.2.2.2.2.2.1 (xm_wl_P a1) (xm_wl_D a1) (xm_s0 a3) q0 1 hq rfl hj hd (fun H1 locs1 hP _ hS => ?_)
  exact xm_back kk G.2.2.2.2.2.2.2.2.2.2.2.2.1 a1 a2 a4 a5 a6 a7 hi hq hP hS
theorem xm_r_zast {i n : Nat} {f : Nat → Int32} {j : Int32} {x : Int32} (G : xm_G B sb Lx xs D cs l p s m args meth c k) (hd : decode (xm_b k) pc = .ok (.bastore, 1)) (hi : xm_cell h i = some (.inl (2, n, .inl f))) (hj : ¬ (j < 0 ∨ n ≤ j.toNatClampNeg)) (hx : x = 0 ∨ x = 1) (kk : xm_J B sb D cs p l e R s m args below meth c Q s0 (k, pc + 1, L, r) (xm_put h i (.inl (2, n, .inl (upd f j.toNatClampNeg x))))) : xm_J B sb D cs p l e R s m args below meth c Q s0 (k, pc, L, .int x :: .int j :: .ref i :: r) h := by
  intro H ls locs cells slots a1 a2 a3 a4 a5 a6 a7
  have hi := xm_cell_some hi
  obtain ⟨q0, hq⟩ := xm_wl_at (B := B) (sb := sb) (cs := cs) hi
  show W p l e R s m args below meth c H locs cells slots Q (F0 m pc ls (.int x :: .int j :: .ref (xm_ad B sb i) :: r.map (xm_cv B sb)))
  rw [a1.adr hi]
  refine va_zast (f := f) (n := n) (H0 := H) (A := fun q => B < q) G.1 G.2.1 G.2.2.2.2.2.2.2.2.2.1 (xm_wl_P a1) (xm_wl_D a1) (xm_s0 a3) q0 2 hq rfl hj hd (fun H1 locs1 hP _ hS => ?_)
  have hn : vp_nar .boolean x = x := by rcases hx with rfl | rfl <;> decide +kernel
  rw [hn] at hP
  exact xm_back kk G.2.2.2.2.2.2.2.2.2.2.2.2.1 a1 a2 a4 a5 a6 a7 hi hq hP hS
theorem xm_r_aast {i n v ci : Nat} {f : Nat → Option Nat} {j : Int32} {vs : List Value} (G : xm_G B sb Lx xs D cs l p s m args meth c k) (hd : decode (xm_b k) pc = .ok (.aastore, 1)) (hi : xm_cell h i = some (.inl (3, n, .inr (.inr f)))) (hv : xm_cell h v = some (.inr (ci, vs))) (hc : ci = xm_elt) (hj : ¬ (j < 0 ∨ n ≤ j.toNatClampNeg)) (kk : xm_J B sb D cs p l e R s m args below meth c Q s0 (k, pc + 1, L, r) (xm_put h i (.inl (3, n, .inr (.inr (va_up f j.toNatClampNeg (some v))))))) : xm_J B sb D cs p l e R s m args below meth c Q s0 (k, pc, L, .ref v :: .int j :: .ref i :: r) h := by
  intro H ls locs cells slots a1 a2 a3 a4 a5 a6 a7
  have hi := xm_cell_some hi
  have hv := xm_cell_some hv
  subst hc
  obtain ⟨q0, hq⟩ := xm_wl_at (B := B) (sb := sb) (cs := cs) hi
  obtain ⟨q1, hq1⟩ := xm_wl_at (B := B) (sb := sb) (cs := cs) hv
  obtain ⟨cr, hcr, hcn⟩ := xm_t_elt
  show W p l e R s m args below meth c H locs cells slots Q (F0 m pc ls (.ref (xm_ad B sb v) :: .int j :: .ref (xm_ad B sb i) :: r.map (xm_cv B sb)))
  rw [a1.adr hi, a1.adr hv]
  refine va_astq (f := fun j => (f j).map (xm_ad B sb)) (n := n) (H0 := H) (A := fun q => B < q) (r := cr) G.1 G.2.1 G.2.2.2.2.2.2.2.2.2.1 (xm_wl_P a1) (xm_wl_D a1) (xm_s0 a3) q0 3 q1 xm_elt hq (by rw [hcn]; rfl) hq1 hcr hj hd (fun H1 locs1 hP _ hS => ?_)
  have hu : va_up (fun j => (f j).map (xm_ad B sb)) j.toNatClampNeg (some (B + v)) = fun z => (va_up f j.toNatClampNeg (some v) z).map (xm_ad B sb) := by
    funext z
    unfold va_up
    split
    · rw [Option.map_some, a1.adr hv]
    · rfl
  rw [hu] at hP
  exact xm_back kk G.2.2.2.2.2.2.2.2.2.2.2.2.1 a1 a2 a4 a5 a6 a7 hi hq hP hS
/-- a cell has been made: the heap that came -/
theorem xm_born {H H1 : Heap} {ls : Array Slot} {locs : List Loc} {cells slots z pc2 : Nat} {e2 : xm_E} {st2 : List Value} (kk : xm_J B sb D cs p l e R s m args below meth c Q s0 (k, pc2, L, st2) (xm_new h e2 z))
    (a1 : xm_hb B sb D cs h.1 H) (a2 : ∀ q : Nat, q ≤ B → H[q]? = s.heap[q]?) (a3 : ∀ z ∈ locs, B < z.base) (a4 : s.heap.size + cells = B + h.1.length) (a5 : s0 + slots = h.2) (a6 : xm_lh B sb L ls) (a7 : L.length = xm_n k)
    (hz : H1.size = H.size + 1) (ho : ∀ q : Nat, q < H.size → H1[q]? = H[q]?) (he : va_at D xm_cls (H.size, xm_ce B sb cs e2) H1) :
    W p l e R s m args below meth c H1 locs (cells + 1) (slots + z) Q (F0 m pc2 ls (st2.map (xm_cv B sb))) := by
  have hl : 0 < h.1.length := (List.getElem?_eq_some_iff.mp a1.2.1).1
  refine kk H1 ls locs (cells + 1) (slots + z) (a1.push hz ho (fun e' q => by cases q; exact he)) (fun q hq => ?_) a3 ?_ ?_ a6 a7
  · rw [ho q (by have := a1.1; omega)]
    exact a2 q hq
  · show s.heap.size + (cells + 1) = B + (h.1 ++ [some e2]).length
    rw [List.length_append]
    show s.heap.size + (cells + 1) = B + (h.1.length + 1)
    omega
  · show s0 + (slots + z) = h.2 + z
    omega
theorem xm_adl {H : Heap} (a1 : xm_hb B sb D cs h.1 H) : xm_ad B sb h.1.length = H.size := by
  have hl : 0 < h.1.length := (List.getElem?_eq_some_iff.mp a1.2.1).1
  unfold xm_ad
  rw [if_neg (by omega), a1.1]
theorem xm_r_new {a ci y : Nat} (G : xm_G B sb Lx xs D cs l p s m args meth c k) (hd : decode (xm_b k) pc = .ok (.new a, 3)) (hc : xm_cp k a = some (4, ci, y)) (hm : B + (h.1.length + 1) ≤ s.heap.size + R.cells ∧ h.2 + xm_siz ci ≤ s0 + R.slots) (kk : xm_J B sb D cs p l e R s m args below meth c Q s0 (k, pc + 3, L, .ref h.1.length :: st) (xm_new h (.inr (ci, xm_def ci)) (xm_siz ci))) : xm_J B sb D cs p l e R s m args below meth c Q s0 (k, pc, L, st) h := by
  intro H ls locs cells slots a1 a2 a3 a4 a5 a6 a7
  obtain ⟨C, T, N, t1, t2, t3, t4, t5, t6, t7⟩ := xm_t_new hc
  obtain ⟨u1, u2, u3⟩ := xm_t_lay t1
  have hts := G.2.2.2.2.2.1
  have hKn := (G.2.2.2.2.2.2.2.2.2.1).1 ci _ t1
  subst t5
  refine W.newcK G.1 G.2.1 G.2.2.2.2.1 (hts _ t2) (hts _ t3) (hts _ t4) rfl hd (by omega) (by omega) hKn.2.1 rfl fun H1 kC hkC e1 z1 o1 => ?_
  have hw := xm_born (H1 := H1) kk a1 a2 a3 a4 a5 a6 a7 z1 o1 ⟨_, t1, (u_born (xm_fty ci) hts u1 hKn hkC e1 u2).to (fun j hj => by rw [xm_noref (t7 B sb)]; exact t6 j hj)⟩
  rw [List.map_cons] at hw
  have hr : xm_cv B sb (.ref h.1.length) = .ref H.size := by
    show Value.ref (xm_ad B sb h.1.length) = _
    rw [xm_adl a1]
  rw [hr] at hw
  exact hw
theorem xm_r_nai {n : Int32} (G : xm_G B sb Lx xs D cs l p s m args meth c k) (hd : decode (xm_b k) pc = .ok (.newarray .int, 2)) (hn : ¬ (n < 0 ∨ 67108864 < n.toNatClampNeg)) (hm : B + (h.1.length + 1) ≤ s.heap.size + R.cells ∧ h.2 + n.toNatClampNeg ≤ s0 + R.slots) (kk : xm_J B sb D cs p l e R s m args below meth c Q s0 (k, pc + 2, L, .ref h.1.length :: r) (xm_new h (.inl (0, n.toNatClampNeg, .inl (fun _ => 0))) n.toNatClampNeg)) : xm_J B sb D cs p l e R s m args below meth c Q s0 (k, pc, L, .int n :: r) h := by
  intro H ls locs cells slots a1 a2 a3 a4 a5 a6 a7
  have hts := G.2.2.2.2.2.1
  refine va_newaK (N := n.toNatClampNeg) G.1 G.2.1 (hts _ xm_t_a0) rfl hd rfl (fun q => hn (Or.inl q)) rfl (by show _ * 4 ≤ _; omega) (by omega) (by omega) rfl fun H1 cA e1 z1 o1 hAr hNm => ?_
  have hcs : cA = cs 0 := by
    have h9 := ((G.2.2.2.2.2.2.2.2.2.1).2 0 _ rfl).2
    exact Option.some.inj (hNm.symm.trans h9)
  subst hcs
  have hw := xm_born (H1 := H1) kk a1 a2 a3 a4 a5 a6 a7 z1 o1 e1
  rw [List.map_cons] at hw
  have hr : xm_cv B sb (.ref h.1.length) = .ref H.size := by
    show Value.ref (xm_ad B sb h.1.length) = _
    rw [xm_adl a1]
  rw [hr] at hw
  exact hw
theorem xm_r_nal {n : Int32} (G : xm_G B sb Lx xs D cs l p s m args meth c k) (hd : decode (xm_b k) pc = .ok (.newarray .long, 2)) (hn : ¬ (n < 0 ∨ 67108864 < n.toNatClampNeg)) (hm : B + (h.1.length + 1) ≤ s.heap.size + R.cells ∧ h.2 + n.toNatClampNeg ≤ s0 + R.slots) (kk : xm_J B sb D cs p l e R s m args below meth c Q s0 (k, pc + 2, L, .ref h.1.length :: r) (xm_new h (.inl (1, n.toNatClampNeg, .inr (.inl (fun _ => 0)))) n.toNatClampNeg)) : xm_J B sb D cs p l e R s m args below meth c Q s0 (k, pc, L, .int n :: r) h := by
  intro H ls locs cells slots a1 a2 a3 a4 a5 a6 a7
  have hts := G.2.2.2.2.2.1
  refine va_newaK (N := n.toNatClampNeg) G.1 G.2.1 (hts _ xm_t_a1) rfl hd rfl (fun q => hn (Or.inl q)) rfl (by show _ * 8 ≤ _; omega) (by omega) (by omega) rfl fun H1 cA e1 z1 o1 hAr hNm => ?_
  have hcs : cA = cs 1 := by
    have h9 := ((G.2.2.2.2.2.2.2.2.2.1).2 1 _ rfl).2
    exact Option.some.inj (hNm.symm.trans h9)
  subst hcs
  have hw := xm_born (H1 := H1) kk a1 a2 a3 a4 a5 a6 a7 z1 o1 e1
  rw [List.map_cons] at hw
  have hr : xm_cv B sb (.ref h.1.length) = .ref H.size := by
    show Value.ref (xm_ad B sb h.1.length) = _
    rw [xm_adl a1]
  rw [hr] at hw
  exact hw
theorem xm_r_naz {n : Int32} (G : xm_G B sb Lx xs D cs l p s m args meth c k) (hd : decode (xm_b k) pc = .ok (.newarray .boolean, 2)) (hn : ¬ (n < 0 ∨ 67108864 < n.toNatClampNeg)) (hm : B + (h.1.length + 1) ≤ s.heap.size + R.cells ∧ h.2 + n.toNatClampNeg ≤ s0 + R.slots) (kk : xm_J B sb D cs p l e R s m args below meth c Q s0 (k, pc + 2, L, .ref h.1.length :: r) (xm_new h (.inl (2, n.toNatClampNeg, .inl (fun _ => 0))) n.toNatClampNeg)) : xm_J B sb D cs p l e R s m args below meth c Q s0 (k, pc, L, .int n :: r) h := by
  intro H ls locs cells slots a1 a2 a3 a4 a5 a6 a7
  have hts := G.2.2.2.2.2.1
  refine va_newaK (N := n.toNatClampNeg) G.1 G.2.1 (hts _ xm_t_a2) rfl hd rfl (fun q => hn (Or.inl q)) rfl (by show _ * 1 ≤ _; omega) (by omega) (by omega) rfl fun H1 cA e1 z1 o1 hAr hNm => ?_
  have hcs : cA = cs 2 := by
    have h9 := ((G.2.2.2.2.2.2.2.2.2.1).2 2 _ rfl).2
    exact Option.some.inj (hNm.symm.trans h9)
  subst hcs
  have hw := xm_born (H1 := H1) kk a1 a2 a3 a4 a5 a6 a7 z1 o1 e1
  rw [List.map_cons] at hw
  have hr : xm_cv B sb (.ref h.1.length) = .ref H.size := by
    show Value.ref (xm_ad B sb h.1.length) = _
    rw [xm_adl a1]
  rw [hr] at hw
  exact hw
theorem xm_r_anw {a y1 y2 : Nat} {n : Int32} (G : xm_G B sb Lx xs D cs l p s m args meth c k) (hd : decode (xm_b k) pc = .ok (.anewarray a, 3)) (hc : xm_cp k a = some (6, y1, y2)) (hn : ¬ (n < 0 ∨ 67108864 < n.toNatClampNeg)) (hm : B + (h.1.length + 1) ≤ s.heap.size + R.cells ∧ h.2 + n.toNatClampNeg ≤ s0 + R.slots) (kk : xm_J B sb D cs p l e R s m args below meth c Q s0 (k, pc + 3, L, .ref h.1.length :: r) (xm_new h (.inl (3, n.toNatClampNeg, .inr (.inr (fun _ => none)))) n.toNatClampNeg)) : xm_J B sb D cs p l e R s m args below meth c Q s0 (k, pc, L, .int n :: r) h := by
  intro H ls locs cells slots a1 a2 a3 a4 a5 a6 a7
  have hts := G.2.2.2.2.2.1
  refine W.anew G.1 G.2.1 G.2.2.2.2.1 (hts _ (xm_t_anw hc)) (show (Cond.arrayOver (.object xm_eln)).before args s = true from G.2.2.2.2.2.2.2.2.2.2.2.2.2.2.1 s (State.WarmedH.refl _) args _ List.mem_cons_self) rfl hd rfl (fun q => hn (Or.inl q)) (by omega) (by omega) (by omega) fun cA kA comp f1 f2 f3 f4 => ?_
  have hcs : cA = cs 3 := by
    obtain ⟨kA', comp', g1, g2, g3, g4⟩ := ((G.2.2.2.2.2.2.2.2.2.1).2 3 _ rfl).2
    exact Option.some.inj (f1.symm.trans g4)
  subst hcs
  have hw := xm_born (H1 := H.push ({ cls := cs 3, slots := Array.replicate n.toNatClampNeg .null, vm := .none } : Cell)) kk a1 a2 a3 a4 a5 a6 a7 (by simp) (fun q hq => by rw [Array.getElem?_push, if_neg (Nat.ne_of_lt hq)]) (by
    show (H.push ({ cls := cs 3, slots := Array.replicate n.toNatClampNeg .null, vm := .none } : Cell))[H.size]? = some (arrV (cs 3) n.toNatClampNeg (fun _ => .null))
    rw [← arrV_new]
    simp)
  rw [List.map_cons] at hw
  have hr : xm_cv B sb (.ref h.1.length) = .ref H.size := by
    show Value.ref (xm_ad B sb h.1.length) = _
    rw [xm_adl a1]
  rw [hr] at hw
  exact hw
theorem xm_r_oin {a i y1 y2 : Nat} (G : xm_G B sb Lx xs D cs l p s m args meth c k) (hd : decode (xm_b k) pc = .ok (.invokespecial a, 3)) (hc : xm_cp k a = some (7, y1, y2)) (hw : xm_wt r ≤ 8) (hR : 1 ≤ R.frames ∧ 40 ≤ R.locals) (kk : xm_J B sb D cs p l e R s m args below meth c Q s0 (k, pc + 3, L, r) h) : xm_J B sb D cs p l e R s m args below meth c Q s0 (k, pc, L, .ref i :: r) h := by
  intro H ls locs cells slots a1 a2 a3 a4 a5 a6 a7
  have hts := G.2.2.2.2.2.1
  obtain ⟨t1, t2, t3⟩ := xm_t_oin hc
  exact W.objInit (rest := r.map (xm_cv B sb)) G.1 G.2.1 G.2.2.2.2.1 (hts _ t1) (hts _ t2) (hts _ t3) rfl (by rw [G.2.2.2.1]; exact a6.1.trans a7) rfl hd hR.1 (by show 2 * 0 + _ + 12 ≤ _; rw [xm_wt_cv]; omega) (kk H ls locs cells slots a1 a2 a3 a4 a5 a6 a7)
theorem xm_r_cpy {a0 d n0 n1 a y1 y2 : Nat} {f g : Nat → Int32} {sp dp n : Int32} (G : xm_G B sb Lx xs D cs l p s m args meth c k) (hd : decode (xm_b k) pc = .ok (.invokestatic a, 3)) (hc : xm_cp k a = some (8, y1, y2)) (h0 : xm_cell h a0 = some (.inl (0, n0, .inl f))) (h1 : xm_cell h d = some (.inl (0, n1, .inl g)))
    (hn : ¬ (sp < 0 ∨ dp < 0 ∨ n < 0 ∨ n0 < sp.toNatClampNeg + n.toNatClampNeg ∨ n1 < dp.toNatClampNeg + n.toNatClampNeg ∨ 8 < xm_wt r)) (hR : 1 ≤ R.frames ∧ 40 ≤ R.locals)
    (kk : xm_J B sb D cs p l e R s m args below meth c Q s0 (k, pc + 3, L, r) (xm_put h d (.inl (0, n1, .inl (va_cpy f g sp.toNatClampNeg dp.toNatClampNeg n.toNatClampNeg))))) : xm_J B sb D cs p l e R s m args below meth c Q s0 (k, pc, L, .int n :: .int dp :: .ref d :: .int sp :: .ref a0 :: r) h := by
  intro H ls locs cells slots a1 a2 a3 a4 a5 a6 a7
  have hts := G.2.2.2.2.2.1
  have h0 := xm_cell_some h0
  have h1 := xm_cell_some h1
  obtain ⟨t1, t2, t3, t4⟩ := xm_t_cpy hc
  obtain ⟨q0, hq⟩ := xm_wl_at (B := B) (sb := sb) (cs := cs) h0
  obtain ⟨q1, hq1⟩ := xm_wl_at (B := B) (sb := sb) (cs := cs) h1
  show W p l e R s m args below meth c H locs cells slots Q (F0 m pc ls (.int n :: .int dp :: .ref (xm_ad B sb d) :: .int sp :: .ref (xm_ad B sb a0) :: r.map (xm_cv B sb)))
  rw [a1.adr h0, a1.adr h1]
  have hnf : nativeFrameWords "java/lang/System" "arraycopy" 5 + 11 ≤ 30 := by decide +kernel
  refine va_copyi (f := f) (g := g) (n0 := n0) (n1 := n1) (ty := .int) (H0 := H) (A := fun q => B < q) (rest := r.map (xm_cv B sb)) G.1 G.2.1 (by rw [G.2.2.2.1]; exact (a6.1.trans a7).symm) G.2.2.2.2.1 (hts _ t1) (hts _ t2) (hts _ t3) (hts _ t4) G.2.2.2.2.2.2.2.2.2.1 (xm_wl_P a1) (xm_wl_D a1) (xm_s0 a3) q0 q1 0 0 hq hq1 rfl rfl rfl (fun q => hn (Or.inl q)) (fun q => hn (Or.inr (Or.inl q))) (fun q => hn (Or.inr (Or.inr (Or.inl q)))) (by omega) (by omega) (fun _ _ => rfl) hR.1 (by rw [xm_wt_cv]; omega) hd (fun H1 locs1 hP _ hS => ?_)
  exact xm_back kk G.2.2.2.2.2.2.2.2.2.2.2.2.1 a1 a2 a4 a5 a6 a7 h1 hq1 hP hS
theorem xm_r_max {a y1 y2 : Nat} {x y : Int32} (G : xm_G B sb Lx xs D cs l p s m args meth c k) (hd : decode (xm_b k) pc = .ok (.invokestatic a, 3)) (hc : xm_cp k a = some (9, y1, y2)) (hw : ¬ 8 < xm_wt r) (hR : 1 ≤ R.frames ∧ 40 ≤ R.locals) (hm : B + h.1.length ≤ s.heap.size + R.cells ∧ h.2 ≤ s0 + R.slots) (kk : xm_J B sb D cs p l e R s m args below meth c Q s0 (k, pc + 3, L, .int (if x < y then y else x) :: r) h) : xm_J B sb D cs p l e R s m args below meth c Q s0 (k, pc, L, .int y :: .int x :: r) h := by
  intro H ls locs cells slots a1 a2 a3 a4 a5 a6 a7
  have hts := G.2.2.2.2.2.1
  obtain ⟨t1, t2, t3, t4⟩ := xm_t_max hc
  exact va_mmax (rest := r.map (xm_cv B sb)) G.1 G.2.1 (by rw [G.2.2.2.1]; exact (a6.1.trans a7).symm) G.2.2.2.2.1 (hts _ t1) (hts _ t2) (hts _ t3) (hts _ t4) hR.1 (by rw [xm_wt_cv]; omega) (by omega) (by omega) hd (kk H ls locs cells slots a1 a2 a3 a4 a5 a6 a7)
theorem xm_r_min {a y1 y2 : Nat} {x y : Int32} (G : xm_G B sb Lx xs D cs l p s m args meth c k) (hd : decode (xm_b k) pc = .ok (.invokestatic a, 3)) (hc : xm_cp k a = some (10, y1, y2)) (hw : ¬ 8 < xm_wt r) (hR : 1 ≤ R.frames ∧ 40 ≤ R.locals) (hm : B + h.1.length ≤ s.heap.size + R.cells ∧ h.2 ≤ s0 + R.slots) (kk : xm_J B sb D cs p l e R s m args below meth c Q s0 (k, pc + 3, L, .int (if y < x then y else x) :: r) h) : xm_J B sb D cs p l e R s m args below meth c Q s0 (k, pc, L, .int y :: .int x :: r) h := by
  intro H ls locs cells slots a1 a2 a3 a4 a5 a6 a7
  have hts := G.2.2.2.2.2.1
  obtain ⟨t1, t2, t3, t4⟩ := xm_t_min hc
  exact va_mmin (rest := r.map (xm_cv B sb)) G.1 G.2.1 (by rw [G.2.2.2.1]; exact (a6.1.trans a7).symm) G.2.2.2.2.1 (hts _ t1) (hts _ t2) (hts _ t3) (hts _ t4) hR.1 (by rw [xm_wt_cv]; omega) (by omega) (by omega) hd (kk H ls locs cells slots a1 a2 a3 a4 a5 a6 a7)
end
