/-! The law's start: what the Statement gives is what the small machine asks: own work. -/
theorem xm_at {s : State} {args : Array Value} (hts : ∀ w ∈ lw_tbl, w.before args s = true) (j i : Nat) {w : Cond} (h : (xm_tb j)[i]? = some w) : w.before args s = true := hts w (xm_tb_in (List.mem_of_getElem? h))
theorem xm_Nx_start {s : State} {args : Array Value} (hts : ∀ w ∈ lw_tbl, w.before args s = true) (hno : (Cond.not (.castable "java/lang/IllegalArgumentException" "java/lang/IndexOutOfBoundsException")).before args s = true) : xm_Nx s := by
  intro V hV a w hw
  unfold xm_xw at hw
  simp only [List.mem_cons, List.not_mem_nil, or_false] at hw
  rcases hw with rfl | rfl | rfl | rfl | rfl | rfl | rfl | rfl | rfl | rfl
  · exact va_AO.use (va_AO.moved hV.alike (va_AO.of (xm_at hts 1 23 (by decide +kernel))))
  · exact va_Nw.use rfl (va_Nw.warmM hV (va_Nw.of rfl (xm_at hts 1 26 (by decide +kernel))))
  · exact va_Nw.use rfl (va_Nw.warmM hV (va_Nw.of rfl (xm_at hts 1 43 (by decide +kernel))))
  · exact va_Nw.use rfl (va_Nw.warmM hV (va_Nw.of rfl (xm_at hts 1 48 (by decide +kernel))))
  · exact va_Nw.use rfl (va_Nw.warmD hV (va_Nw.of rfl (xm_at hts 2 80 (by decide +kernel))))
  · exact va_Nw.use rfl (va_Nw.warmD hV (va_Nw.of rfl (xm_at hts 2 82 (by decide +kernel))))
  · exact va_Nw.use rfl (va_Nw.warmD hV (va_Nw.of rfl (xm_at hts 2 84 (by decide +kernel))))
  · exact va_Nw.use rfl (va_Nw.warmC hV (va_Nw.of rfl (xm_at hts 2 79 (by decide +kernel))))
  · exact va_Nw.use rfl (va_Nw.warmC hV (va_Nw.of rfl (xm_at hts 2 154 (by decide +kernel))))
  · obtain ⟨c1, t1, g1, g2, g3⟩ := va_Nc.moved hV.alike (va_Nc.of hno)
    simp [Cond.before, Cond.holds, Cond.value, g1, g2, g3]
theorem xm_Z1 {C n d : String} {A : Nat → Prop} {V : State} {a : Array Value} (h : va_Zq C n d A V V.heap) : (Cond.isRef (.static C n d)).before a V = true := by
  rcases h with h | ⟨t, h⟩
  · obtain ⟨cf, kf, fi, f, q, cell, h1, h2, h3, h4, h5, h6, h7, -⟩ := h
    have hu : cell.vm ≠ .unknown := fun z => by rw [z] at h6; cases h6
    simp [Cond.before, Cond.holds, Cond.value, Term.eval, State.fieldNamed?, h1, h2, h4, h5, h6, h7, hu]
  · obtain ⟨cf, kf, fi, f, q, cell, h1, h2, h3, h4, h5, h6, h7, -⟩ := h
    have hu : cell.vm ≠ .unknown := fun z => by rw [z] at h6; cases h6
    simp [Cond.before, Cond.holds, Cond.value, Term.eval, State.fieldNamed?, h1, h2, h4, h5, h6, h7, hu]
theorem xm_Z2 {B : Nat} {C n d : String} {s V : State} {args a : Array Value} (hB : s.heap.size = B + 1) (h : (Cond.laysStatic C n d).before args s = true) (hvm : s.vm.Alike V.vm) (ho : ∀ q : Nat, q ≤ B → V.heap[q]? = s.heap[q]?) : (Cond.laysStatic C n d).before a V = true := by
  obtain ⟨c, k, i, f, q, cell, hc, hi, hst, hq, hcell, hs, hcls, hlt, hty⟩ := Cond.laysStatic_spec h
  obtain ⟨k2, hi2, he⟩ := State.fieldFound?_setVm hvm hi
  have hlq : q < s.heap.size := (Array.getElem?_eq_some_iff.mp hcell).1
  have hlq2 : q < B + 1 := by rw [← hB]; exact hlq
  have hcV : V.vm.findClass C = some c := by rw [hvm.findClass]; exact hc
  have hcell2 : V.heap[q]? = some cell := by rw [ho q (Nat.le_of_lt_succ hlq2)]; exact hcell
  have hq2 : k2.statics = some q := by rw [he]; exact hq
  have hty2 : k2.staticTypes[f.slot]? = some f.type := by rw [he]; exact hty
  have hi3 : V.fieldFound? C n d = some (c, k2, i, f) := hi2
  simp [Cond.before, Cond.holds, Cond.value, hcV, hi3, hq2, hcell2, hst, hs, hcls, hlt, hty2]
theorem xm_Zx_start {B : Nat} {s : State} {args : Array Value} (hB : s.heap.size = B + 1) (hts : ∀ w ∈ lw_tbl, w.before args s = true) (hu : (Cond.isRef (.static "java/lang/Throwable" "UNASSIGNED_STACK" "[Ljava/lang/StackTraceElement;")).before args s = true) (hn : (Cond.isRef (.static "java/lang/Throwable" "SUPPRESSED_SENTINEL" "Ljava/util/List;")).before args s = true) : xm_Zx B s := by
  have l1 := xm_at hts 2 104 (w := .laysStatic "java/lang/Throwable" "UNASSIGNED_STACK" "[Ljava/lang/StackTraceElement;") (by decide +kernel)
  have l2 := xm_at hts 2 106 (w := .laysStatic "java/lang/Throwable" "SUPPRESSED_SENTINEL" "Ljava/util/List;") (by decide +kernel)
  have hi := xm_at hts 1 8 (w := .initialized "java/lang/Throwable") (by decide +kernel)
  have z1 := va_Zqof (A := fun q => B < q) l1 hi hu (fun a ha => by omega)
  have z2 := va_Zqof (A := fun q => B < q) l2 hi hn (fun a ha => by omega)
  intro V hvm ho a w hw
  have hk : ∀ q : Nat, q < s.heap.size → ¬ B < q → V.heap[q]? = s.heap[q]? := fun q _ hq => ho q (by omega)
  unfold xm_ew at hw
  simp only [List.mem_cons, List.not_mem_nil, or_false] at hw
  rcases hw with rfl | rfl | rfl | rfl
  · exact xm_Z1 (va_Zq.moved hvm (z1.kept hk))
  · exact xm_Z1 (va_Zq.moved hvm (z2.kept hk))
  · exact xm_Z2 hB l1 hvm ho
  · exact xm_Z2 hB l2 hvm ho
def xm_ipp : List (Nat × Nat) := [(1, 15), (1, 111), (1, 202), (1, 25), (1, 42), (3, 95)]
theorem xm_insall : xm_za (fun (r : vw_C) q => xm_inw (.instantiable r.1 r.2.2) q) xm_cls xm_ipp = true := by decide +kernel
theorem xm_K_start {s : State} {args : Array Value} (hts : ∀ w ∈ lw_tbl, w.before args s = true) : ∃ (D : va_G) (cs : Nat → ClassId), va_K D xm_cls (xm_tys cs) s := by
  have hws : ∀ w ∈ xm_ws, w.before args s = true := fun w hw => hts w (List.mem_filter.mp hw).1
  have h1 : ∀ ci : Nat, ∃ (cC : ClassId) (iS : Nat → Nat), ∀ q : vw_C, xm_cls[ci]? = some q → u_Kn s q.1 q.2.1 q.2.2 cC iS := by
    intro ci
    cases hr : xm_cls[ci]? with
    | none => exact ⟨0, fun _ => 0, fun q hq => by cases hq⟩
    | some r =>
      obtain ⟨C, T, N⟩ := r
      obtain ⟨q, hq⟩ := xm_za_in xm_insall (List.mem_of_getElem? hr)
      obtain ⟨cC, iS, hK⟩ := u_known hws (xm_t_lay hr).1 (hws _ (xm_inw_in hq))
      exact ⟨cC, iS, fun q hq => by cases hq; exact hK⟩
  obtain ⟨c0, k0, p0, f0, g0, e0⟩ := Cond.arrayClass_spec (hws _ xm_t_a0)
  obtain ⟨c1, k1, p1, f1, g1, e1⟩ := Cond.arrayClass_spec (hws _ xm_t_a1)
  obtain ⟨c2, k2, p2, f2, g2, e2⟩ := Cond.arrayClass_spec (hws _ xm_t_a2)
  obtain ⟨p3, c3, k3, f3, -, g3, e3, d3⟩ := Cond.arrayOver_spec (xm_at hts 1 23 (w := .arrayOver (.object "TagCoder$Type")) (by decide +kernel))
  refine ⟨(fun ci => Classical.choose (h1 ci), fun ci => Classical.choose (Classical.choose_spec (h1 ci))), fun t => match t with
    | 0 => c0
    | 1 => c1
    | 2 => c2
    | _ => c3, fun ci q hq => Classical.choose_spec (Classical.choose_spec (h1 ci)) q hq, fun t q hq => ?_⟩
  have ht : t < 4 := (List.getElem?_eq_some_iff.mp hq).1
  rcases (show t = 0 ∨ t = 1 ∨ t = 2 ∨ t = 3 by omega) with rfl | rfl | rfl | rfl
  · cases hq
    exact ⟨fun n z => ⟨fun k h => (by cases h), k0, g0, p0, e0⟩, f0⟩
  · cases hq
    exact ⟨fun n z => ⟨fun k h => (by cases h), k1, g1, p1, e1⟩, f1⟩
  · cases hq
    exact ⟨fun n z => ⟨fun k h => (by cases h), k2, g2, p2, e2⟩, f2⟩
  · cases hq
    exact ⟨fun n z => ⟨fun k h => (by cases h), k3, g3, p3, e3⟩, k3, p3, g3, e3, f3, d3⟩
/-- the pure statement: on every script of at most N ints the small machine's run of the law ends with 1, within the claim's room -/
def xm_PURE (N C S : Nat) : Prop := ∀ (L : Nat) (xs : Nat → Int32), L ≤ N → ∃ (n : Nat) (h2 : xm_H), xm_ev (L, xs) n 1000 (135, 0, xm_ent 7 [.ref 0], []) ([none], 0) = some (.inl (some (.int 1)), h2) ∧ h2.1.length ≤ C + 1 ∧ h2.2 ≤ S
