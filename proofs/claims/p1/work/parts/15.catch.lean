/-! The law's helper: a static method with a table of handlers; what it catches: own work. -/
theorem xm_th {k2 : Nat} (hk : k2 = 134) : GoodIn xm_ws (Cond.codeWith (xm_y k2) (xm_b k2) (xm_n k2) (xm_r k2) (xm_hh k2) :: xm_ws) := by
  subst hk
  refine xm_gi (fun w hw => ?_)
  rcases List.mem_cons.mp hw with rfl | hw
  · exact List.mem_filter.mpr ⟨xm_tb_in (j := 2) (List.mem_of_getElem? (i := 70) rfl), rfl⟩
  · exact hw
theorem xm_tableOf {t : List ExceptionTableEntry} {hh : List (Nat × Nat × Nat × Nat)} (h : t.map (fun h => (h.startPc, h.endPc, h.handlerPc, h.catchType)) = hh) : t = tableOf hh := by
  subst h
  unfold tableOf
  rw [List.map_map]
  exact (List.map_id' t).symm
section
variable {B sb Lx : Nat} {xs : Nat → Int32} {D : va_G} {cs : Nat → ClassId} {l : Launch}
theorem xm_metH {n d k mc ms : Nat} {as : List Value} {h h2 : xm_H} {o : xm_O} (hS : xm_SND B sb Lx xs D cs l n) (hl : l.stackTraces = false) (hev : xm_ev (Lx, xs) n d (k, 0, xm_ent (xm_n k) as, []) h = some (o, h2)) (hn : (xm_sl as).length ≤ xm_n k) (hmc : h.1.length + mc = h2.1.length) (hms : h.2 + ms = h2.2) :
    xm_Met B sb D cs l (xm_y k) (Cond.codeWith (xm_y k) (xm_b k) (xm_n k) (xm_r k) (xm_hh k) :: xm_ws) (xm_rm d mc ms) (xm_Pc B sb Lx xs D cs as h) o h2 mc ms := by
  obtain ⟨x, hi⟩ := xm_ev_ins hev
  refine xm_of (cc := xm_b k) (maxL := xm_n k) (ret := xm_r k) (xm_t_plain hi) ?_ ?_
  · intro args s m hpre hnm
    obtain ⟨m2, meth, c, h0, h1, h2, h3, h4, -, h5, h6, -⟩ := Cond.codeWith_spec (atoms_spec (ws := Cond.codeWith (xm_y k) (xm_b k) (xm_n k) (xm_r k) (xm_hh k) :: xm_ws) hpre _ List.mem_cons_self)
    cases Option.some.inj (h0.symm.trans hnm)
    exact ⟨meth, c, h1, h2, h3, h4, h5, h6⟩
  · intro p e s m args below meth c s₁ B9 hml hv
    have ht : c.exceptionTable.toList = tableOf (xm_hh k) := by
      obtain ⟨m2, meth2, c2, h0, h1, h2, h3, h4, h5, -⟩ := Cond.codeWith_spec (atoms_spec (ws := Cond.codeWith (xm_y k) (xm_b k) (xm_n k) (xm_r k) (xm_hh k) :: xm_ws) B9.pre _ List.mem_cons_self)
      cases Option.some.inj (h0.symm.trans B9.named)
      cases B9.method.symm.trans h1
      cases (Stand.of_body B9).code.symm.trans h2
      exact xm_tableOf h5
    exact xm_body hS hev hn hmc hms hv (xm_bodyG hl B9 hml (fun w hw => List.mem_cons_of_mem _ hw) ht hv) (Nat.le_refl _) (Nat.le_refl _) (Nat.le_refl _) (Nat.le_refl _)
end
section
variable {B sb Lx : Nat} {xs : Nat → Int32} {D : va_G} {cs : Nat → ClassId} {p : Program} {l : Launch} {e : Env} {R : Room} {s : State} {m : MethodId} {args : Array Value} {below : List Frame} {meth : Method} {c : Code} {Q : State → Prop} {s0 k pc : Nat} {L : xm_L} {st r : List Value} {h h3 : xm_H} {o : xm_O} {d mc ms : Nat}
theorem xm_t_h {k a k2 z : Nat} (h : xm_cp k a = some (12, k2, z)) : Cond.methodLink (xm_own k) a (xm_y k2) ∈ xm_ws ∧ Cond.static (xm_y k2) ∈ xm_ws ∧ Cond.initialized (xm_y k2).cls ∈ xm_ws ∧ ((xm_y k2).cls ≠ "java/lang/invoke/MethodHandle" ∧ (xm_y k2).cls ≠ "java/lang/invoke/VarHandle" ∧ (parseMethodDescriptor (xm_y k2).desc).map (fun d => d.parameters.length) = some z) ∧ xm_n k2 ≤ 41 ∧ k2 = 134 := by
  obtain ⟨⟨ps, h1⟩, h2⟩ := xm_cp_in h
  have h3 : xm_ck12 ps (xm_kc k) a k2 z = true := h1
  unfold xm_ck12 at h3
  simp only [Bool.and_eq_true] at h3
  obtain ⟨⟨b1, b2, b3⟩, b5, b6⟩ := h3
  exact ⟨by rw [h2]; exact xm_inw_in b1, xm_inw_in b2, xm_inw_in b3, (xm_mh_in b5).1, (xm_mh_in b5).2, of_decide_eq_true b6⟩
set_option maxHeartbeats 4000000 in
theorem xm_callH {a k2 z : Nat} {v : Option Value} (G : xm_G B sb Lx xs D cs l p s m args meth c k) (hd : decode (xm_b k) pc = .ok (.invokestatic a, 3)) (hc : xm_cp k a = some (12, k2, z)) (hz : z ≤ st.length) (hw : xm_wt (st.drop z) ≤ 8)
    (hM : xm_Met B sb D cs l (xm_y k2) (Cond.codeWith (xm_y k2) (xm_b k2) (xm_n k2) (xm_r k2) (xm_hh k2) :: xm_ws) (xm_rm d mc ms) (xm_Pc B sb Lx xs D cs (st.take z).reverse h) (.inl v) h3 mc ms) (hmc : h.1.length + mc = h3.1.length) (hms : h.2 + ms = h3.2)
    (hf : xm_fr (d + 1) ≤ R.frames) (hlo : xm_lo (d + 1) ≤ R.locals) (hm : B + h3.1.length ≤ s.heap.size + R.cells ∧ h3.2 ≤ s0 + R.slots)
    (kv : xm_J B sb D cs p l e R s m args below meth c Q s0 (k, pc + 3, L, v.toList ++ st.drop z) h3) :
    xm_J B sb D cs p l e R s m args below meth c Q s0 (k, pc, L, st) h := by
  intro H ls locs cells slots a1 a2 a3 a4 a5 a6 a7
  obtain ⟨t1, t2, t3, ⟨y1, y2, y3⟩, t5, t6⟩ := xm_t_h hc
  have hts := G.2.2.2.2.2.1
  have hgood := xm_th t6
  have hstk : st.map (xm_cv B sb) = (((st.take z).reverse).map (xm_cv B sb)).reverse ++ (st.drop z).map (xm_cv B sb) := by
    rw [← List.map_reverse, List.reverse_reverse, ← List.map_append, List.take_append_drop]
  intro T hT X
  have hcw := hts _ (hgood _ List.mem_cons_self).1
  obtain ⟨mk, methM, cM, hnamed, hmethM, -, -, -, -, -, -, hsigM⟩ := Cond.codeWith_spec hcw
  have hstatic : methM.isStatic = true := Cond.static_spec hnamed hmethM (hts _ t2)
  obtain ⟨kP, hkP, -⟩ := className_of_methodNamed hnamed
  have hinitP : kP.init = .initialized := Cond.initialized_spec (findClass_of_methodNamed hnamed) hkP (hts _ t3)
  have hlen : (((st.take z).reverse).map (xm_cv B sb)).length = methM.sig.parameters.length := by
    rw [List.length_map, List.length_reverse, List.length_take]
    rw [hsigM] at y3
    have h9 : methM.sig.parameters.length = z := Option.some.inj y3
    omega
  obtain ⟨vm1, X1, hstep1⟩ := X.invokestatic G.1 G.2.2.2.2.1 (hts _ t1) hnamed hmethM hstatic hkP hinitP ⟨y1, y2⟩ (g := F0 m pc ls (st.map (xm_cv B sb))) rfl (argsL := ((st.take z).reverse).map (xm_cv B sb)) (rest := (st.drop z).map (xm_cv B sb)) hlen hstk (by rw [G.2.1]; exact hd)
  have hwU : ∀ w ∈ (Cond.codeWith (xm_y k2) (xm_b k2) (xm_n k2) (xm_r k2) (xm_hh k2) :: xm_ws), w.before (((st.take z).reverse).map (xm_cv B sb)).toArray (T.setVm vm1) = true := fun w hw9 => word_at X1.warmed (hgood w hw9).2 (hts _ (hgood w hw9).1)
  have hnU : (T.setVm vm1).methodNamed? (xm_y k2) = some mk := X1.named hnamed
  obtain ⟨mk2, methY, cY, hnY, hmY, hcY, -, hlY, -, -, -, -⟩ := Cond.codeWith_spec (hwU _ List.mem_cons_self)
  cases Option.some.inj (hnY.symm.trans hnU)
  obtain ⟨kY, hkY, -⟩ := className_of_methodNamed hnU
  have hiU : (Cond.initialized (xm_y k2).cls).before (((st.take z).reverse).map (xm_cv B sb)).toArray (T.setVm vm1) = true := hwU _ (List.mem_cons_of_mem _ t3)
  have hinitY : kY.init = .initialized := Cond.initialized_spec (findClass_of_methodNamed hnU) hkY hiU
  have hw8 : xm_wt (st.drop z) = (((st.drop z).map (xm_cv B sb)).map fun v => v.category).sum := (xm_wt_cv B sb _).symm
  have happ : (headSpec (Cond.codeWith (xm_y k2) (xm_b k2) (xm_n k2) (xm_r k2) (xm_hh k2) :: xm_ws) (xm_rm d mc ms)).appliesLoose (xm_y k2) e.platform ((T.setVm vm1).calling (F0 m pc ls ((st.drop z).map (xm_cv B sb))) mk (((st.take z).reverse).map (xm_cv B sb)).toArray) = true :=
    Spec.appliesLoose_calling (g := F0 m pc ls ((st.drop z).map (xm_cv B sb))) X1.here (by rw [G.2.1]; exact hd) hnU hkY hinitY
      (X1.room_calling (g := F0 m pc ls ((st.drop z).map (xm_cv B sb))) (R' := xm_rm d mc ms) ((a6.1.trans a7).trans G.2.2.2.1.symm) hmY hcY (by show xm_fr d + 1 ≤ _; unfold xm_fr at *; omega) (by rw [hlY]; show 2 * 0 + (((st.drop z).map (xm_cv B sb)).map fun v => v.category).sum + (xm_n k2 + 11) + xm_lo d ≤ R.locals; rw [← hw8]; unfold xm_lo at *; omega) (by show cells + mc ≤ _; omega) (by show slots + ms ≤ _; omega)) (atoms_intro hwU)
  obtain ⟨mid, hmid⟩ := X1.here.above
  have hfr2 : ((T.setVm vm1).setTop (F0 m pc ls ((st.drop z).map (xm_cv B sb)))).frames = (.java (F0 m pc ls ((st.drop z).map (xm_cv B sb))) :: mid) ++ below := by rw [State.frames_setTop' _ X1.here.top, hmid]; rfl
  have hPU : xm_Pc B sb Lx xs D cs (st.take z).reverse h (((st.take z).reverse).map (xm_cv B sb)).toArray ((T.setVm vm1).calling (F0 m pc ls ((st.drop z).map (xm_cv B sb))) mk (((st.take z).reverse).map (xm_cv B sb)).toArray) := xm_blind _ _ _ _ (xm_pre (as := (st.take z).reverse) (U := T.setVm vm1) G a1 a2 hT X1.warmed)
  obtain ⟨oc, t, hsteps, -, hend, hq⟩ := Steps.callFree hM p X.admits X.cas X.clock (acts := []) hfr2 happ hPU trivial
  rw [State.frames_setTop' _ X1.here.top, X1.tail] at hend
  obtain ⟨⟨hv, hhb, hho⟩, L1, ⟨hW, hsame⟩, hL⟩ := hq
  subst hv
  obtain ⟨T', X', -, -, ht⟩ := X1.outOf (g := F0 m pc ls ((st.drop z).map (xm_cv B sb))) rfl (by rw [G.2.1]; exact hd) (mk := mk) (a := (((st.take z).reverse).map (xm_cv B sb)).toArray) (t := t) hend hW hsame
  have hth : T'.heap = t.heap := by
    rw [ht]
    exact (State.heap_setTop _ _).symm
  obtain ⟨t2, b1, b2⟩ := kv T'.heap ls (locs ++ L1) (cells + mc) (slots + ms) (by rw [hth]; exact hhb) (fun q hq => by rw [hth, hho q hq]; show T.heap[q]? = _; rw [hT]; exact a2 q hq) (xm_locs a3 hL) (by omega) (by omega) a6 a7 T' rfl X'
  have hst : (Option.map (xm_cv B sb) v).toList ++ (st.drop z).map (xm_cv B sb) = (v.toList ++ st.drop z).map (xm_cv B sb) := by
    rw [List.map_append]
    cases v <;> rfl
  refine ⟨t2, (hstep1 t2 fun acts => ?_), b2⟩
  rw [doInvoke_state]
  refine hsteps.trans ?_
  rw [ht]
  show Steps p.tables e below (T'.setTop (F0 m (pc + 3) ls ((Option.map (xm_cv B sb) v).toList ++ (st.drop z).map (xm_cv B sb)))) t2
  rw [hst]
  exact b1
end
