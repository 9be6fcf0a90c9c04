/-! A run of the small machine is a run of the bytecode: own work. -/
def xm_fr (d : Nat) : Nat := d + 6
def xm_lo (d : Nat) : Nat := 60 * d + 120
def xm_rm (d mc ms : Nat) : Room := { frames := xm_fr d, cells := mc, slots := ms, locals := xm_lo d }
def xm_SND (B sb Lx : Nat) (xs : Nat → Int32) (D : va_G) (cs : Nat → ClassId) (l : Launch) (n : Nat) : Prop := ∀ (d : Nat) (f : xm_F) (h : xm_H) (o : xm_O) (h2 : xm_H), xm_ev (Lx, xs) n d f h = some (o, h2) →
  ∀ (p : Program) (e : Env) (R : Room) (s : State) (m : MethodId) (args : Array Value) (below : List Frame) (meth : Method) (c : Code) (s0 mc ms : Nat), xm_G B sb Lx xs D cs l p s m args meth c f.1 → xm_fr d ≤ R.frames → xm_lo d ≤ R.locals → B + h2.1.length = s.heap.size + mc → h2.2 = s0 + ms → mc ≤ R.cells → ms ≤ R.slots →
    xm_J B sb D cs p l e R s m args below meth c (xm_QQ B sb D cs o h2 below s mc ms) s0 f h
theorem xm_ev_ins {sc : xm_S} {n d : Nat} {f : xm_F} {h : xm_H} {z : xm_O × xm_H} (q : xm_ev sc n d f h = some z) : ∃ x, xm_ins f.1 f.2.1 = some x := by
  cases n with
  | zero => cases q
  | succ n =>
    cases hi : xm_ins f.1 f.2.1 with
    | some x => exact ⟨x, rfl⟩
    | none =>
      unfold xm_ev xm_step at q
      rw [hi] at q
      cases q
section
variable {B sb Lx : Nat} {xs : Nat → Int32} {D : va_G} {cs : Nat → ClassId} {l : Launch}
theorem xm_bodyG {p : Program} {s : State} {m : MethodId} {args : Array Value} {below : List Frame} {meth : Method} {c : Code} {s₁ : State} {e : Env} {k : Nat} {ws : List Cond} {rm : Room} {as : List Value} {h : xm_H}
    (hl : l.stackTraces = false) (B9 : BodyLoose p l (xm_y k) (headSpec ws rm) (xm_b k) (xm_n k) (xm_r k) e s m args below meth c s₁) (hml : c.maxLocals = xm_n k) (hw : ∀ w ∈ xm_ws, w ∈ ws) (ht : c.exceptionTable.toList = tableOf (xm_hh k)) (hv : xm_Pc B sb Lx xs D cs as h args s) : xm_G B sb Lx xs D cs l p s m args meth c k := by
  obtain ⟨-, q1, q2, q3, q4, q5, q6⟩ := hv
  have hts := atoms_spec (ws := ws) B9.pre
  have hl0 : 0 < h.1.length := (List.getElem?_eq_some_iff.mp q1.2.1).1
  exact ⟨B9.exec, B9.bytes, B9.returns, hml, findClass_of_methodNamed B9.named, fun w hw9 => hts w (hw w hw9), B9.notSynchronized, fun hi => (name_of_methodNamed B9.named B9.method).1.trans (xm_t_ini hi), ht, q2, q3, q4, by have := q1.1; omega, q5, q6, hl⟩
theorem xm_body {n d k mc ms : Nat} {as : List Value} {h h2 : xm_H} {o : xm_O} {p : Program} {s : State} {m : MethodId} {args : Array Value} {below : List Frame} {meth : Method} {c : Code} {e : Env} {R : Room} (hS : xm_SND B sb Lx xs D cs l n)
    (hev : xm_ev (Lx, xs) n d (k, 0, xm_ent (xm_n k) as, []) h = some (o, h2)) (hn : (xm_sl as).length ≤ xm_n k) (hmc : h.1.length + mc = h2.1.length) (hms : h.2 + ms = h2.2) (hv : xm_Pc B sb Lx xs D cs as h args s) (G : xm_G B sb Lx xs D cs l p s m args meth c k)
    (hf : xm_fr d ≤ R.frames) (hlo : xm_lo d ≤ R.locals) (hc : mc ≤ R.cells) (hz : ms ≤ R.slots) :
    W p l e R s m args below meth c s.heap [] 0 0 (xm_QQ B sb D cs o h2 below s mc ms) (entryFrame m args (xm_n k)) := by
  obtain ⟨hargs, q1, -⟩ := hv
  have he : entryFrame m args (xm_n k) = F0 m 0 ((lg_sl (as.map (xm_cv B sb)) ++ List.replicate (xm_n k - (lg_sl (as.map (xm_cv B sb))).length) Slot.unset).toArray) [] := by rw [hargs, lg_entry_eq]
  rw [he]
  exact hS d _ h o h2 hev p e R s m args below meth c h.2 mc ms G hf hlo (by have := q1.1; omega) (by omega) hc hz s.heap _ [] 0 0 q1 (fun _ _ => rfl) (fun _ z => by cases z) (by have := q1.1; omega) (by omega) (xm_lh.entry hn) (by
    show (xm_ent (xm_n k) as).length = xm_n k
    unfold xm_ent
    rw [List.length_append, List.length_replicate]
    omega)
theorem xm_met {n d k mc ms : Nat} {as : List Value} {h h2 : xm_H} {o : xm_O} (hS : xm_SND B sb Lx xs D cs l n) (hl : l.stackTraces = false) (hev : xm_ev (Lx, xs) n d (k, 0, xm_ent (xm_n k) as, []) h = some (o, h2)) (hn : (xm_sl as).length ≤ xm_n k) (hh : xm_hh k = []) (hmc : h.1.length + mc = h2.1.length) (hms : h.2 + ms = h2.2) :
    xm_Met B sb D cs l (xm_y k) (xm_wk k) (xm_rm d mc ms) (xm_Pc B sb Lx xs D cs as h) o h2 mc ms := by
  obtain ⟨x, hi⟩ := xm_ev_ins hev
  refine xm_of (cc := xm_b k) (maxL := xm_n k) (ret := xm_r k) (xm_t_plain hi) ?_ ?_
  · intro args s m hpre hnm
    obtain ⟨meth, c, h1, h2, h3, h4, h5, h6, -, -⟩ := Cond.code_spec hnm (atoms_spec (ws := xm_wk k) hpre _ List.mem_cons_self)
    exact ⟨meth, c, h1, h2, h3, h4, h5, h6⟩
  · intro p e s m args below meth c s₁ B9 hml hv
    have ht : c.exceptionTable.toList = tableOf (xm_hh k) := by
      have h9 := BodyLoose.noHandlers B9 (atoms_spec (ws := xm_wk k) B9.pre _ List.mem_cons_self)
      rw [hh]
      cases hx : c.exceptionTable with
      | mk zs =>
        rw [hx] at h9
        cases zs with
        | nil => rfl
        | cons z r => simp at h9
    exact xm_body hS hev hn hmc hms hv (xm_bodyG hl B9 hml (fun w hw => List.mem_cons_of_mem _ hw) ht hv) (Nat.le_refl _) (Nat.le_refl _) (Nat.le_refl _) (Nat.le_refl _)
/-- what a callee's contract asks, at a call -/
theorem xm_pre {p : Program} {s U : State} {m : MethodId} {args : Array Value} {meth : Method} {c : Code} {k : Nat} {H : Heap} {h : xm_H} {as : List Value} (G : xm_G B sb Lx xs D cs l p s m args meth c k) (a1 : xm_hb B sb D cs h.1 H) (a2 : ∀ q : Nat, q ≤ B → H[q]? = s.heap[q]?) (hU : U.heap = H) (hW : s.WarmedH U.vm) : xm_Pc B sb Lx xs D cs as h (as.map (xm_cv B sb)).toArray U := by
  obtain ⟨-, -, -, -, -, -, -, -, -, hK, hX, hsb, hB, hZ, hN, -⟩ := G
  have hk : ∀ q : Nat, q ≤ B → U.heap[q]? = s.heap[q]? := fun q hq => by rw [hU]; exact a2 q hq
  exact ⟨rfl, by rw [hU]; exact a1, va_K.moved hW.alike hK, va_X.moved hW.alike (hX.kept (hk sb hsb)), hsb, xm_Zx.moved hW.alike hk hZ, xm_Nx.moved hW hN⟩
end
section
variable {B sb Lx : Nat} {xs : Nat → Int32} {D : va_G} {cs : Nat → ClassId} {p : Program} {l : Launch} {e : Env} {R : Room} {s : State} {m : MethodId} {args : Array Value} {below : List Frame} {meth : Method} {c : Code} {Q : State → Prop} {s0 k pc : Nat} {L : xm_L} {st r : List Value} {h h3 : xm_H} {o : xm_O} {d mc ms : Nat}
theorem xm_locs {locs L1 : List Loc} (a3 : ∀ z ∈ locs, B < z.base) (hL : ∀ z ∈ L1, B < z.base) : ∀ z ∈ locs ++ L1, B < z.base := fun z hz => by
  rcases List.mem_append.mp hz with g | g
  · exact a3 z g
  · exact hL z g
/-- behind a call that returned -/
theorem xm_returned {v : Option Value} {cells slots : Nat} {H : Heap} {ls : Array Slot} {locs : List Loc} {st0 : List Value}
    (hr : va_Run p l e R s m args below meth c H locs cells slots mc ms (F0 m pc ls st0) (r.map (xm_cv B sb)) (fun st₀ oc t => xm_OC B sb D cs (.inl v) h3 st₀ oc t) (fun q => B < q))
    (a2 : ∀ q : Nat, q ≤ B → H[q]? = s.heap[q]?) (a3 : ∀ z ∈ locs, B < z.base) (a4 : s.heap.size + cells = B + h.1.length) (a5 : s0 + slots = h.2) (a6 : xm_lh B sb L ls) (a7 : L.length = xm_n k)
    (hmc : h.1.length + mc = h3.1.length) (hms : h.2 + ms = h3.2)
    (kv : xm_J B sb D cs p l e R s m args below meth c Q s0 (k, pc + 3, L, v.toList ++ r) h3) :
    W p l e R s m args below meth c H locs cells slots Q (F0 m pc ls st0) := by
  intro T hT X
  obtain ⟨v2, st₀, t, T', L1, h0, X', hL, e1, e2, ⟨hv, hb, ho⟩, st⟩ := hr T hT X
  have hv2 : v2 = v.map (xm_cv B sb) := Outcome.returned.inj hv
  have hst : v2.toList ++ r.map (xm_cv B sb) = (v.toList ++ r).map (xm_cv B sb) := by
    rw [hv2, List.map_append]
    cases v <;> rfl
  have kv := kv T'.heap ls (locs ++ L1) (cells + mc) (slots + ms) (by rw [e1]; exact hb) (fun q hq => by rw [e1, ho q hq, h0]; exact a2 q hq) (xm_locs a3 hL) (by omega) (by omega) a6 a7
  obtain ⟨t2, b1, b2⟩ := kv T' rfl X'
  refine ⟨t2, st t2 ?_, b2⟩
  show Steps p.tables e below (T'.setTop (F0 m (pc + 3) ls (v2.toList ++ r.map (xm_cv B sb)))) t2
  rw [hst]
  exact b1
theorem xm_stk {z i : Nat} (hst : st.drop z = .ref i :: r) : st.map (xm_cv B sb) = (((st.take z).reverse).map (xm_cv B sb)).reverse ++ .ref (xm_ad B sb i) :: r.map (xm_cv B sb) := by
  rw [← List.map_reverse, List.reverse_reverse]
  conv => lhs; rw [← List.take_append_drop z st, hst, List.map_append, List.map_cons]
  rfl
theorem xm_callV {a k2 z i : Nat} {fs : List Value} (G : xm_G B sb Lx xs D cs l p s m args meth c k) (hd : decode (xm_b k) pc = .ok (.invokevirtual a, 3)) (hc : xm_cp k a = some (1, k2, z)) (hst : st.drop z = .ref i :: r) (hcell : xm_cell h i = some (.inr (xm_rc k2, fs))) (hz : z ≤ st.length) (hw : xm_wt r ≤ 8)
    (hM : xm_Met B sb D cs l (xm_y k2) (xm_wk k2) (xm_rm d mc ms) (xm_Pc B sb Lx xs D cs (.ref i :: (st.take z).reverse) h) o h3 mc ms) (hmc : h.1.length + mc = h3.1.length) (hms : h.2 + ms = h3.2)
    (hf : xm_fr (d + 1) ≤ R.frames) (hlo : xm_lo (d + 1) ≤ R.locals) (hm : B + h3.1.length ≤ s.heap.size + R.cells ∧ h3.2 ≤ s0 + R.slots)
    (kv : ∀ v, o = .inl v → xm_J B sb D cs p l e R s m args below meth c Q s0 (k, pc + 3, L, v.toList ++ r) h3)
    (kx : ∀ x, o = .inr x → xm_JX B sb D cs p l e R s m args below meth c Q s0 (k, pc, L, r) h3 x) :
    xm_J B sb D cs p l e R s m args below meth c Q s0 (k, pc, L, st) h := by
  intro H ls locs cells slots a1 a2 a3 a4 a5 a6 a7
  obtain ⟨t1, t2, ⟨cr, t3, t4⟩, -, t5⟩ := xm_t_v hc
  have hi := xm_cell_some hcell
  have hts := G.2.2.2.2.2.1
  have hstk := xm_stk (B := B) (sb := sb) hst
  obtain ⟨q0, hq⟩ := xm_wl_at (B := B) (sb := sb) (cs := cs) hi
  have hrec := va_recv G.2.2.2.2.2.2.2.2.2.1 (xm_wl_P a1) t3 hq
  rw [t4] at hrec
  have hcw : CallW R s args (xm_own k) (xm_own k2) a (xm_y k2) (xm_b k2) (xm_n k2) (xm_r k2) (xm_wk k2) (xm_rm d mc ms) mc ms z := cwV z hts t1 rfl rfl rfl ⟨rfl, t2⟩ ⟨by show xm_fr d + 1 ≤ _; unfold xm_fr at *; omega, by show 8 + (xm_n k2 + 11) + xm_lo d ≤ _; unfold xm_lo at *; omega⟩
  have hpre : PreV s H (xm_own k2) (B + i) (xm_Pc B sb Lx xs D cs (.ref i :: (st.take z).reverse) h) (((st.take z).reverse).map (xm_cv B sb)) := ⟨xm_blind, hrec, fun U hU hW => by
    have := xm_pre (as := .ref i :: (st.take z).reverse) G a1 a2 hU hW
    rw [List.map_cons] at this
    have ha : xm_cv B sb (.ref i) = .ref (B + i) := by show Value.ref (xm_ad B sb i) = _; rw [a1.adr hi]
    rw [ha] at this
    exact this⟩
  have hlen : (((st.take z).reverse).map (xm_cv B sb)).length = z := by rw [List.length_map, List.length_reverse, List.length_take]; omega
  have hstk2 : (F0 m pc ls (st.map (xm_cv B sb))).stack = (((st.take z).reverse).map (xm_cv B sb)).reverse ++ .ref (B + i) :: r.map (xm_cv B sb) := by rw [← a1.adr hi]; exact hstk
  have hw8 : 2 * (F0 m pc ls (st.map (xm_cv B sb))).monitorRoom + ((r.map (xm_cv B sb)).map fun v => v.category).sum ≤ 8 := by show 2 * 0 + _ ≤ 8; rw [xm_wt_cv]; omega
  cases o with
  | inl v =>
    have hr := va_runV (S := ⟨G.1, G.2.1, G.2.2.2.1, G.2.2.2.2.1, hts⟩) (H := H) (locs := locs) (cells := cells) (slots := slots) (p := p) (l := l) (e := e) (R := R) (below := below) (meth := meth) (rest := r.map (xm_cv B sb)) (g := F0 m pc ls (st.map (xm_cv B sb))) (xm_toMet hM) hcw hpre rfl hlen (a6.1.trans a7) hstk2 hw8 hd ⟨by omega, by omega⟩
    exact xm_returned hr a2 a3 a4 a5 a6 a7 hmc hms (kv v rfl)
  | inr x =>
    intro T hT X
    obtain ⟨q, st₀, t, T', L1, h0, hal, X', hL, e1, ⟨⟨q9, ce, hq9, hce, hcv, hcl⟩, hb, ho⟩, hsteps⟩ := xm_callVT (g := F0 m pc ls (st.map (xm_cv B sb))) (As := ((st.take z).reverse).map (xm_cv B sb)) (rest := r.map (xm_cv B sb)) X G.1 G.2.2.2.2.1 hM hcw hpre hT rfl hlen ((a6.1.trans a7).trans G.2.2.2.1.symm) hstk2 hw8 (by rw [G.2.1]; exact hd) ⟨by omega, by omega⟩
    cases hq9
    have hcl2 : s.vm.findClass (xm_xn x) = some ce.cls := by rw [← hal.findClass] at hcl; exact hcl
    obtain ⟨t2, b1, b2⟩ := kx x rfl T'.heap ls (locs ++ L1) (cells + mc) (slots + ms) q ce (by rw [e1]; exact hb) (fun q hq => by rw [e1, ho q hq, h0]; exact a2 q hq) (xm_locs a3 hL) (by omega) (by omega) a6 a7 (by rw [e1]; exact hce) hcv hcl2 T' rfl X'
    exact ⟨t2, hsteps.trans b1, b2⟩
theorem xm_callS {a k2 z : Nat} {v : Option Value} (G : xm_G B sb Lx xs D cs l p s m args meth c k) (hd : decode (xm_b k) pc = .ok (.invokestatic a, 3)) (hc : xm_cp k a = some (2, k2, z)) (hz : z ≤ st.length) (hw : xm_wt (st.drop z) ≤ 8)
    (hM : xm_Met B sb D cs l (xm_y k2) (xm_wk k2) (xm_rm d mc ms) (xm_Pc B sb Lx xs D cs (st.take z).reverse h) (.inl v) h3 mc ms) (hmc : h.1.length + mc = h3.1.length) (hms : h.2 + ms = h3.2)
    (hf : xm_fr (d + 1) ≤ R.frames) (hlo : xm_lo (d + 1) ≤ R.locals) (hm : B + h3.1.length ≤ s.heap.size + R.cells ∧ h3.2 ≤ s0 + R.slots)
    (kv : xm_J B sb D cs p l e R s m args below meth c Q s0 (k, pc + 3, L, v.toList ++ st.drop z) h3) :
    xm_J B sb D cs p l e R s m args below meth c Q s0 (k, pc, L, st) h := by
  intro H ls locs cells slots a1 a2 a3 a4 a5 a6 a7
  obtain ⟨t1, t2, -, t5⟩ := xm_t_s hc
  have hts := G.2.2.2.2.2.1
  have hstk : st.map (xm_cv B sb) = (((st.take z).reverse).map (xm_cv B sb)).reverse ++ (st.drop z).map (xm_cv B sb) := by
    rw [← List.map_reverse, List.reverse_reverse, ← List.map_append, List.take_append_drop]
  have hr := va_runS (S := ⟨G.1, G.2.1, G.2.2.2.1, G.2.2.2.2.1, hts⟩) (H := H) (locs := locs) (cells := cells) (slots := slots) (p := p) (l := l) (e := e) (R := R) (below := below) (meth := meth) (rest := (st.drop z).map (xm_cv B sb)) (g := F0 m pc ls (st.map (xm_cv B sb))) (As := ((st.take z).reverse).map (xm_cv B sb)) (n := z) (xm_toMet hM)
    (va_cwS z hts t1 rfl rfl rfl t2 ⟨by show xm_fr d + 1 ≤ _; unfold xm_fr at *; omega, by show 8 + (xm_n k2 + 11) + xm_lo d ≤ _; unfold xm_lo at *; omega⟩)
    ⟨xm_blind, fun U hU hW => xm_pre (as := (st.take z).reverse) G a1 a2 hU hW⟩ rfl (by rw [List.length_map, List.length_reverse, List.length_take]; omega) (a6.1.trans a7) hstk (by show 2 * 0 + _ ≤ 8; rw [xm_wt_cv]; omega) hd ⟨by omega, by omega⟩
  exact xm_returned hr a2 a3 a4 a5 a6 a7 hmc hms kv
theorem xm_callI {a k2 z i : Nat} {v : Option Value} (G : xm_G B sb Lx xs D cs l p s m args meth c k) (hd : decode (xm_b k) pc = .ok (.invokespecial a, 3)) (hc : xm_cp k a = some (3, k2, z) ∨ xm_cp k a = some (13, k2, z)) (hst : st.drop z = .ref i :: r) (hz : z ≤ st.length) (hw : xm_wt r ≤ 8)
    (hM : xm_Met B sb D cs l (xm_y k2) (xm_wk k2) (xm_rm d mc ms) (xm_Pc B sb Lx xs D cs (.ref i :: (st.take z).reverse) h) (.inl v) h3 mc ms) (hmc : h.1.length + mc = h3.1.length) (hms : h.2 + ms = h3.2)
    (hf : xm_fr (d + 1) ≤ R.frames) (hlo : xm_lo (d + 1) ≤ R.locals) (hm : B + h3.1.length ≤ s.heap.size + R.cells ∧ h3.2 ≤ s0 + R.slots)
    (kv : xm_J B sb D cs p l e R s m args below meth c Q s0 (k, pc + 3, L, v.toList ++ r) h3) :
    xm_J B sb D cs p l e R s m args below meth c Q s0 (k, pc, L, st) h := by
  intro H ls locs cells slots a1 a2 a3 a4 a5 a6 a7
  have hts := G.2.2.2.2.2.1
  have hstk := xm_stk (B := B) (sb := sb) hst
  have hpre : PreS s H (xm_Pc B sb Lx xs D cs (.ref i :: (st.take z).reverse) h) (.ref (xm_ad B sb i) :: ((st.take z).reverse).map (xm_cv B sb)) := ⟨xm_blind, fun U hU hW => xm_pre (as := .ref i :: (st.take z).reverse) G a1 a2 hU hW⟩
  have hlen : (((st.take z).reverse).map (xm_cv B sb)).length = z := by rw [List.length_map, List.length_reverse, List.length_take]; omega
  have hw8 : 2 * (F0 m pc ls (st.map (xm_cv B sb))).monitorRoom + ((r.map (xm_cv B sb)).map fun v => v.category).sum ≤ 8 := by show 2 * 0 + _ ≤ 8; rw [xm_wt_cv]; omega
  rcases hc with hc | hc
  · obtain ⟨t1, t2, t3, t4, t5, t6, t7, -, t8⟩ := xm_t_i hc
    have hM2 := xm_toMet hM
    have hr := va_runI (S := ⟨G.1, G.2.1, G.2.2.2.1, G.2.2.2.2.1, hts⟩) (H := H) (locs := locs) (cells := cells) (slots := slots) (p := p) (l := l) (e := e) (R := R) (below := below) (meth := meth) (rest := r.map (xm_cv B sb)) (g := F0 m pc ls (st.map (xm_cv B sb))) (b := xm_ad B sb i) (As := ((st.take z).reverse).map (xm_cv B sb)) (n := z) hM2
      (cwI z hts t1 (by unfold xm_wk; rw [t7]) rfl rfl (hts _ t2) (hts _ t3) (hts _ t4) t5 t6 ⟨by show xm_fr d + 1 ≤ _; unfold xm_fr at *; omega, by show 8 + (xm_n k2 + 11) + xm_lo d ≤ _; unfold xm_lo at *; omega⟩) hpre rfl hlen (a6.1.trans a7) hstk hw8 hd ⟨by omega, by omega⟩
    exact xm_returned hr a2 a3 a4 a5 a6 a7 hmc hms kv
  · obtain ⟨t1, t2, t3, t4, t5, t6, t7, -, t8⟩ := xm_t_in hc
    have hM2 := xm_toMet hM
    have hnest : va_Nw (.methodLinkNest (xm_own k) a (xm_y k2) "TagCoder") s := G.2.2.2.2.2.2.2.2.2.2.2.2.2.2.1 s (State.WarmedH.refl _) #[] _ t3
    have hr := va_runIN (S := ⟨G.1, G.2.1, G.2.2.2.1, G.2.2.2.2.1, hts⟩) (H := H) (locs := locs) (cells := cells) (slots := slots) (p := p) (l := l) (e := e) (R := R) (below := below) (meth := meth) (rest := r.map (xm_cv B sb)) (g := F0 m pc ls (st.map (xm_cv B sb))) (b := xm_ad B sb i) (As := ((st.take z).reverse).map (xm_cv B sb)) (n := z) hM2
      ⟨va_cnB z hts t1 (by unfold xm_wk; rw [t7]) rfl rfl hnest (hts _ t2) t6 ⟨by show xm_fr d + 1 ≤ _; unfold xm_fr at *; omega, by show 8 + (xm_n k2 + 11) + xm_lo d ≤ _; unfold xm_lo at *; omega⟩, t5, hts _ t4⟩ hpre rfl hlen (a6.1.trans a7) hstk hw8 hd ⟨by omega, by omega⟩
    exact xm_returned hr a2 a3 a4 a5 a6 a7 hmc hms kv
end
