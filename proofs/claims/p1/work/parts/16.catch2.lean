/-! What the law's helper catches: own work, over the library's laws of the search for a handler. -/
section
variable {Q : Handler → Pre} {E : CtlPost} {e : Env} {d : Bool} {acts : List Action} {s : State} {f : JFrame} {a : Addr}
/-- an entry whose class the tables link: taken or passed, and the link is noted -/
theorem xm_go1 {x : ExceptionTableEntry} {t : List ExceptionTableEntry} {c : ClassId} {cell : Cell} (hx : covers x f.pc = true) (h0 : x.catchType ≠ 0) (hl : s.vm.ClassLinks e.platform f.method.cls x.catchType c)
    (hcell : s.heap[a]? = some cell) (hobj : ∀ k, cell.vm ≠ .statics k) (hk : ∃ k, s.vm.classes[cell.cls]? = some k) (hc : ∃ k, s.vm.classes[c]? = some k) :
    wp (findHandler.go f a (x :: t)) Q E e d acts s ↔ if s.vm.assignable cell.cls c = true then Q (.found x.handlerPc) d acts (s.setVm (s.vm.noted f.method.cls x.catchType (.cls c))) else wp (findHandler.go f a t) Q E e d acts (s.setVm (s.vm.noted f.method.cls x.catchType (.cls c))) := by
  simp only [covers] at hx
  obtain ⟨r1, r2⟩ := (resolveClass_links e.toSetting hl).op (op := VmOp.resolveClass f.method.cls x.catchType) rfl
  have hal : s.vm.Alike (s.vm.noted f.method.cls x.catchType (.cls c)) := (Vm.Alike.refl s.vm).noted _ _ _
  obtain ⟨k1, hk1⟩ := hk
  obtain ⟨k2, hk2⟩ := hc
  obtain ⟨k3, hk3, -⟩ := hal.2.2 _ _ hk1
  obtain ⟨k4, hk4, -⟩ := hal.2.2 _ _ hk2
  have has : (s.vm.noted f.method.cls x.catchType (.cls c)).assignable cell.cls c = s.vm.assignable cell.cls c := hal.assignable _ _
  cases hfit : s.vm.assignable cell.cls c <;> rw [hfit] at has <;> simp [findHandler.go, hx, h0, r1, r2, hcell, hobj, hk3, hk4, has, VmOp.dirties, VmOp.acts]
/-- the search ends in a handler, and leaves those tables -/
theorem xm_step1 {f : JFrame} {r : List Frame} {pc : Nat} {vm2 : Vm} (hfind : ∀ (Q : Handler → Pre) (E : CtlPost) (d : Bool) (acts : List Action), wp (findHandler f a) Q E e d acts s ↔ Q (.found pc) d acts (s.setVm vm2)) :
    (stepThrowing e s a (.java f :: r)).Is ((s.setVm vm2).setFrames (.java { f with pc := pc, stack := [.ref a] } :: r)) [] := by
  simp only [stepThrowing, searchFrame, vmDo]
  generalize hr : Sem.go _ e false [] s = res
  obtain ⟨as, rfl, ha⟩ := Sem.eq_ok_of hr (a := Handler.found pc) (s' := s.setVm vm2) (acts' := []) (by simp [hfind _ _ _ _])
  exact ⟨rfl, ha⟩
theorem xm_caught {tb : Tables} {s target : State} {g : JFrame} {c : Code} {below : List Frame} (h : At s g.method c below) {pc : Nat} {vm2 : Vm}
    (hfind : ∀ (Q : Handler → Pre) (E : CtlPost) (d : Bool) (acts : List Action), wp (findHandler g a) Q E e d acts ((s.setTop g).pushFrame (.throwing a)) ↔ Q (.found pc) d acts (((s.setTop g).pushFrame (.throwing a)).setVm vm2))
    (hrest : Steps tb e below ((s.setVm vm2).setTop { g with pc := pc, stack := [.ref a] }) target) : Steps tb e below ((s.setTop g).pushFrame (.throwing a)) target := by
  obtain ⟨hgo, hw⟩ := h.throwing a
  refine Steps.head hgo hw ?_
  rw [stepThread_throwing (frames_entered h.top _), (xm_step1 (s := (s.setTop g).pushFrame (.throwing a)) hfind).1]
  obtain ⟨g0, hg⟩ := Option.isSome_iff_exists.mp h.top
  obtain ⟨r, hr⟩ := State.topJava?_eq_some.mp hg
  have hr2 : (s.setVm vm2).frames = .java g0 :: r := hr
  have key : ∀ (u : State) (A B : List Frame), ((u.setFrames A).setVm vm2).setFrames B = (u.setVm vm2).setFrames B := fun u A B => by
    show ((u.setVm vm2).setFrames A).setFrames B = _
    rw [State.setFrames_setFrames]
  rw [State.setTop_of_frames _ hr2] at hrest
  rw [hr, List.tail_cons, State.pushFrame, key, State.setTop_of_frames _ hr, key]
  exact hrest
end
section
variable {B sb Lx : Nat} {xs : Nat → Int32} {D : va_G} {cs : Nat → ClassId} {p : Program} {l : Launch} {e : Env} {R : Room} {s : State} {m : MethodId} {args : Array Value} {below : List Frame} {meth : Method} {c : Code} {Q : State → Prop} {s0 k pc : Nat} {L : xm_L} {st r : List Value} {h h3 : xm_H} {o : xm_O} {d mc ms : Nat}
theorem xm_link {own name : String} {idx : Nat} {vm1 : Vm} (hpl : e.platform.magicAccessors = ({} : Platform).magicAccessors) (hown : s.vm.findClass own = some m.cls) (hlink : (Cond.classLink own idx name).before args s = true) (hW : s.WarmedH vm1) :
    ∃ c9, s.vm.findClass name = some c9 ∧ vm1.ClassLinks e.platform m.cls idx c9 ∧ s.WarmedH (vm1.noted m.cls idx (.cls c9)) ∧ ∃ k9, vm1.classes[c9]? = some k9 := by
  obtain ⟨c9, h1, h2⟩ := Cond.classLink_spec hown hlink e.platform hpl
  have hU : (Cond.classLink own idx name).before args (s.setVm vm1) = true := word_at (U := s.setVm vm1) hW (Or.inl (by first | rfl | simp [Cond.onTables, Cond.keeps, Cond.steady])) hlink
  have hownU : (s.setVm vm1).vm.findClass own = some m.cls := by
    show vm1.findClass own = _
    rw [hW.alike.findClass]
    exact hown
  obtain ⟨c8, g1, g2⟩ := Cond.classLink_spec hownU hU e.platform hpl
  have g1 : vm1.findClass name = some c8 := g1
  have hc : c8 = c9 := by
    rw [hW.alike.findClass] at g1
    exact Option.some.inj (g1.symm.trans h1)
  subst hc
  obtain ⟨dk, cf, nm, ck, hd, -, -, -, -, -, -, hres⟩ := h2.here
  obtain ⟨k9, hk9, -⟩ := Vm.findClass_spec g1
  exact ⟨c8, h1, g2, State.WarmedH.noted hW hd hres (State.rightAt_cls h2), k9, hk9⟩
theorem xm_cl13 : Cond.classLink (xm_own 134) 13 "java/lang/IndexOutOfBoundsException" ∈ xm_ws := xm_inw_in (q := (2, 71)) (by decide +kernel)
theorem xm_cl15 : Cond.classLink (xm_own 134) 15 "java/lang/IllegalArgumentException" ∈ xm_ws := xm_inw_in (q := (2, 72)) (by decide +kernel)
set_option maxHeartbeats 4000000 in
theorem xm_catch {x pc2 i : Nat} (G : xm_G B sb Lx xs D cs l p s m args meth c k) (hcat : xm_cat k pc x = some (pc2, i)) (kk : xm_J B sb D cs p l e R s m args below meth c Q s0 (k, pc2 + 1, (xm_clr L i).set i none, []) h) :
    xm_JX B sb D cs p l e R s m args below meth c Q s0 (k, pc, L, r) h x := by
  intro H ls locs cells slots q9 ce a1 a2 a3 a4 a5 a6 a7 h1 h2 h3
  intro T hT X
  unfold xm_cat at hcat
  split at hcat
  · rename_i hkp
    obtain ⟨hk, hpc⟩ := hkp
    subst hk
    have hL4 : L.length = 4 := a7
    have hts := G.2.2.2.2.2.1
    have hown := G.2.2.2.2.1
    have hN := G.2.2.2.2.2.2.2.2.2.2.2.2.2.2.1
    have hex : c.exceptionTable.toList = [⟨0, 9, 12, 13⟩, ⟨0, 9, 15, 15⟩] := G.2.2.2.2.2.2.2.2.1
    have hpl : e.platform.magicAccessors = ({} : Platform).magicAccessors := by rw [X.admits.platform]
    have hb := G.2.1
    have hstat : ∀ z, ce.vm ≠ .statics z := fun z hz => by rw [h2] at hz; cases hz
    obtain ⟨kce, hkce, -⟩ := Vm.findClass_spec h3
    obtain ⟨kceT, hkceT, -⟩ := X.warmed.alike.2.2 _ _ hkce
    -- behind the handler's first instruction the walk goes on
    have goon : ∀ (hp : Nat) (vm2 : Vm), s.WarmedH vm2 → pc2 = hp → i = 3 → decode (xm_b 134) hp = .ok (.astore_n 3, 1) → ∃ t, Steps p.tables e below ((T.setVm vm2).setTop (F0 m hp ls [.ref q9])) t ∧ Q t := by
      intro hp vm2 hW2 e1 e2 hd
      subst e1
      subst e2
      have hi9 : 3 < L.length := by omega
      have w : W p l e R s m args below meth c H locs cells slots Q (F0 m pc2 ls [.ref q9]) :=
        lv_astore_n (k := 3) (x := q9) G.1 hb hd rfl a6.has hi9 rfl (fun ls2 hl2 => kk H ls2 locs cells slots a1 a2 a3 a4 a5 (xm_lh.fg (v := .ref q9) hi9 hl2) (by
          show ((xm_clr L 3).set 3 none).length = _
          rw [List.length_set, xm_clr_len]
          exact a7))
      exact w (T.setVm vm2) hT (X.noted hW2)
    have hmeth : ((T.setTop (F0 m pc ls (r.map (xm_cv B sb)))).pushFrame (.throwing q9)).vm.method? m = some meth := by
      rw [Stand.throwing_vm]
      exact X.method'
    have hheap : ((T.setTop (F0 m pc ls (r.map (xm_cv B sb)))).pushFrame (.throwing q9)).heap[q9]? = some ce := by
      rw [Stand.throwing_heap, hT]
      exact h1
    have hvmT : ((T.setTop (F0 m pc ls (r.map (xm_cv B sb)))).pushFrame (.throwing q9)).vm = T.vm := Stand.throwing_vm _ _ _
    obtain ⟨cI, i1, i2, i3, kI, i4⟩ := xm_link hpl hown (hts _ xm_cl13) X.warmed
    obtain ⟨cA, j1, j2, j3, kA, j4⟩ := xm_link hpl hown (hts _ xm_cl15) i3
    have cov : ∀ b z : Nat, covers ⟨0, 9, b, z⟩ pc = true := fun b z => by simp [covers, hpc]
    split at hcat
    · rename_i hx
      subst hx
      cases hcat
      have hcast : (Cond.castable "java/lang/IndexOutOfBoundsException" "java/lang/IndexOutOfBoundsException").before args s = true := hN s (State.WarmedH.refl _) args _ (by decide)
      obtain ⟨u1, u2, v1, v2, v3⟩ := Cond.castable_spec hcast
      cases Option.some.inj (v1.symm.trans h3)
      cases Option.some.inj (v2.symm.trans i1)
      have hfit : T.vm.assignable ce.cls cI = true := by rw [X.warmed.alike.assignable]; exact v3
      obtain ⟨t, b1, b2⟩ := goon 12 _ i3 rfl rfl (xm_t_ins (by decide +kernel))
      refine ⟨t, xm_caught (g := F0 m pc ls (r.map (xm_cv B sb))) (pc := 12) (vm2 := T.vm.noted m.cls 13 (.cls cI)) X.here ?_ b1, b2⟩
      intro Q9 E9 d9 acts9
      rw [W.findHandler_eq hmeth X.code, hex, xm_go1 (c := cI) (cell := ce) (cov _ _) (by decide) (by rw [hvmT]; exact i2) hheap hstat (by rw [hvmT]; exact ⟨_, hkceT⟩) (by rw [hvmT]; exact ⟨_, i4⟩), if_pos (by rw [hvmT]; exact hfit), hvmT]
    · split at hcat
      · rename_i hx
        subst hx
        cases hcat
        have hcast : (Cond.castable "java/lang/IllegalArgumentException" "java/lang/IllegalArgumentException").before args s = true := hN s (State.WarmedH.refl _) args _ (by decide)
        obtain ⟨u1, u2, v1, v2, v3⟩ := Cond.castable_spec hcast
        cases Option.some.inj (v1.symm.trans h3)
        cases Option.some.inj (v2.symm.trans j1)
        obtain ⟨w1, w2, n1, n2, n3⟩ := va_Nc.of (hN s (State.WarmedH.refl _) args (.not (.castable "java/lang/IllegalArgumentException" "java/lang/IndexOutOfBoundsException")) (by decide))
        cases Option.some.inj (n1.symm.trans h3)
        cases Option.some.inj (n2.symm.trans i1)
        have hno : ¬ T.vm.assignable ce.cls cI = true := by rw [X.warmed.alike.assignable, n3]; decide
        have hfit : (T.vm.noted m.cls 13 (.cls cI)).assignable ce.cls cA = true := by rw [i3.alike.assignable]; exact v3
        obtain ⟨kce2, hkce2, -⟩ := i3.alike.2.2 _ _ hkce
        obtain ⟨t, b1, b2⟩ := goon 15 _ j3 rfl rfl (xm_t_ins (by decide +kernel))
        refine ⟨t, xm_caught (g := F0 m pc ls (r.map (xm_cv B sb))) (pc := 15) (vm2 := (T.vm.noted m.cls 13 (.cls cI)).noted m.cls 15 (.cls cA)) X.here ?_ b1, b2⟩
        intro Q9 E9 d9 acts9
        rw [W.findHandler_eq hmeth X.code, hex, xm_go1 (c := cI) (cell := ce) (cov _ _) (by decide) (by rw [hvmT]; exact i2) hheap hstat (by rw [hvmT]; exact ⟨_, hkceT⟩) (by rw [hvmT]; exact ⟨_, i4⟩), if_neg (by rw [hvmT]; exact hno), hvmT]
        have h9 := xm_go1 (Q := Q9) (E := E9) (d := d9) (acts := acts9) (e := e) (f := F0 m pc ls (r.map (xm_cv B sb))) (a := q9) (s := ((T.setTop (F0 m pc ls (r.map (xm_cv B sb)))).pushFrame (.throwing q9)).setVm (T.vm.noted m.cls 13 (.cls cI))) (x := ⟨0, 9, 15, 15⟩) (t := []) (c := cA) (cell := ce) (cov _ _) (by decide) j2 hheap hstat ⟨_, hkce2⟩ ⟨_, j4⟩
        rw [if_pos] at h9
        · exact h9
        · exact hfit
      · cases hcat
  · cases hcat
end
