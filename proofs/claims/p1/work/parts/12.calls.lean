/-! Contracts that may end in a throw, and calls by them: own work. -/
def xm_Met (B sb : Nat) (D : va_G) (cs : Nat → ClassId) (l : Launch) (y : MethodName) (ws : List Cond) (rm : Room) (Pc : Array Value → State → Prop) (o : xm_O) (h2 : xm_H) (mc ms : Nat) : Prop :=
  MetFree l y (headSpec ws rm) Pc (fun _ _ _ _ _ => True) (fun _ st oc t => xm_OC B sb D cs o h2 st oc t ∧ xm_FE B st t mc ms)
theorem xm_toMet {B sb : Nat} {D : va_G} {cs : Nat → ClassId} {l : Launch} {y : MethodName} {ws : List Cond} {rm : Room} {Pc : Array Value → State → Prop} {v : Option Value} {h2 : xm_H} {mc ms : Nat} (hM : xm_Met B sb D cs l y ws rm Pc (.inl v) h2 mc ms) :
    Met l y ws rm Pc (fun _ st oc t => xm_OC B sb D cs (.inl v) h2 st oc t) mc ms (fun q => B < q) := by
  intro p e ha hc hk s m args below hf happ hP hK
  obtain ⟨n, oc, q1, q2, q3, q4, L, ⟨q5, q6⟩, q7⟩ := hM p e ha hc hk s m args below hf happ hP hK
  exact ⟨n, oc, q1, q2, q3, q4, L, ⟨⟨_, q4.1⟩, q5, q6⟩, q7⟩
theorem xm_of {B sb : Nat} {D : va_G} {cs : Nat → ClassId} {l : Launch} {y : MethodName} {ws : List Cond} {rm : Room} {Pc : Array Value → State → Prop} {o : xm_O} {h2 : xm_H} {mc ms : Nat} {cc : ByteArray} {maxL : Nat} {ret : Option FieldType} (hy : plainName y.cls = true)
    (his : ∀ args (s : State) m, (headSpec ws rm).pre.before args s = true → s.methodNamed? y = some m → ∃ meth c, s.vm.method? m = some meth ∧ meth.code = some c ∧ c.code = cc ∧ c.maxLocals = maxL ∧ meth.sig.returnType = ret ∧ meth.locks = false)
    (body : ∀ p e s m args below meth c s₁, BodyLoose p l y (headSpec ws rm) cc maxL ret e s m args below meth c s₁ → c.maxLocals = maxL → Pc args s →
      W p l e (headSpec ws rm).room s m args below meth c s.heap [] 0 0 (xm_QQ B sb D cs o h2 below s mc ms) (entryFrame m args maxL)) : xm_Met B sb D cs l y ws rm Pc o h2 mc ms := by
  refine MetFree.of_bodyS (code := cc) (maxLocals := maxL) (ret := ret) hy his ?_
  intro p e s m args below meth c s₁ B9 hml hP _
  have hh0 : s₁.heap = s.heap := by rw [B9.state]; rfl
  obtain ⟨t, a1, oc, b1, b2, b3, b4⟩ := body p e s m args below meth c s₁ B9 hml hP s₁ hh0 (Stand.of_body B9)
  exact ⟨t, oc, a1, b1, b2, b3, b4⟩
section
variable {B sb : Nat} {D : va_G} {cs : Nat → ClassId} {p : Program} {l : Launch} {e : Env} {R : Room} {s : State} {m : MethodId} {args : Array Value} {below : List Frame} {meth : Method} {c : Code} {T : State} {locs : List Loc} {cells slots : Nat}
set_option maxHeartbeats 4000000 in
/-- a method of an object is called, and throws -/
theorem xm_callVT {own C : String} {index : Nat} {y : MethodName} {bytes : ByteArray} {maxL z mc ms x : Nat} {ret : Option FieldType} {ws : List Cond} {rm : Room} {Pc : Array Value → State → Prop} {h3 : xm_H} {b : Addr} {g : JFrame} {As rest : List Value} {H : Heap}
    (X : Stand p l e R s m args below meth c T locs cells slots) (hexec : p.tables.exec = Jvm.exec) (hown : s.vm.findClass own = some m.cls) (hM : xm_Met B sb D cs l y ws rm Pc (.inr x) h3 mc ms) (cw : CallW R s args own C index y bytes maxL ret ws rm mc ms z) (hp : PreV s H C b Pc As) (hT : T.heap = H)
    (hg : g.method = m) (hn : As.length = z) (hsize : g.locals.size = c.maxLocals) (hstack : g.stack = As.reverse ++ .ref b :: rest) (hW8 : 2 * g.monitorRoom + (rest.map fun v => v.category).sum ≤ 8) (hdg : decode c.code g.pc = .ok (.invokevirtual index, 3)) (hf : cells + mc ≤ R.cells ∧ slots + ms ≤ R.slots) :
    ∃ (q : Addr) (st₀ t T' : State) (L : List Loc), st₀.heap = H ∧ st₀.vm.Alike s.vm ∧ Stand p l e R s m args below meth c T' (locs ++ L) (cells + mc) (slots + ms) ∧ (∀ z ∈ L, B < z.base) ∧ T'.heap = t.heap ∧ xm_OC B sb D cs (.inr x) h3 st₀ (.threw q) t ∧
      Steps p.tables e below (T.setTop g) ((T'.setTop { g with stack := rest }).pushFrame (.throwing q)) := by
  obtain ⟨⟨hrc, hrs, hfr, hlo, hws, hcw, hcode, hini, hy, hlen, hlink⟩, hinst, hsel⟩ := cw
  obtain ⟨hbl, ⟨cellB, hcell, hobj, hcls⟩, hPc⟩ := hp
  obtain ⟨mk, methM, hnamed, hmethM, hstM, habM⟩ := Cond.instanceMethod_spec hinst
  obtain ⟨methM', cM, hmethM', -, -, -, -, -, -, hsigM⟩ := Cond.code_spec hnamed hcode
  cases hmethM.symm.trans hmethM'
  obtain ⟨c2, r2, m2, q1, q2, q3, q4, kP, hkP, hkPi⟩ := Cond.selects_spec hsel
  cases hcls.symm.trans q1
  cases (State.methodFound?_of_named hnamed hy).symm.trans q2
  cases hnamed.symm.trans q3
  have hselP : selectMethod e.platform s.vm cellB.cls mk = .method mk := by rw [Launch.admits_selectMethod X.admits]; exact q4
  obtain ⟨vm1, X1, hstep1⟩ := X.invokevirtual hexec hown hlink hnamed hmethM hstM hkP hkPi hy (a := b) (cell := cellB) (by rw [hT]; exact hcell)
    (fun w h => by rw [h] at hobj; cases hobj) hselP hmethM habM hkP hkPi (g := g) hg (argsL := As) (rest := rest) (hn.trans (hlen _ hsigM)) hstack hdg
  have hwU : ∀ w ∈ ws, w.before (Value.ref b :: As).toArray (T.setVm vm1) = true := fun w hw => hws w hw _ _ X1.warmed
  have hiU : (Cond.initialized y.cls).before (Value.ref b :: As).toArray (T.setVm vm1) = true := word_at X1.warmed (Or.inl (by first | rfl | simp [Cond.onTables, Cond.keeps, Cond.steady])) hini
  have hnU : (T.setVm vm1).methodNamed? y = some mk := X1.named hnamed
  obtain ⟨methY, cY, hmY, hcY, -, hlY, -, -, -, -⟩ := Cond.code_spec hnU (hwU _ hcw)
  obtain ⟨kY, hkY, -⟩ := className_of_methodNamed hnU
  have hinitY : kY.init = .initialized := Cond.initialized_spec (findClass_of_methodNamed hnU) hkY hiU
  have hat : At (T.setVm vm1) ({ g with stack := rest } : JFrame).method c below := by
    show At (T.setVm vm1) g.method c below
    rw [hg]
    exact X1.here
  have happ : (headSpec ws rm).appliesLoose y e.platform ((T.setVm vm1).calling { g with stack := rest } mk (Value.ref b :: As).toArray) = true :=
    Spec.appliesLoose_calling (g := { g with stack := rest }) hat hdg hnU hkY hinitY
      (X1.room_calling (g := { g with stack := rest }) (R' := (headSpec ws rm).room) hsize hmY hcY hfr (by rw [hlY]; show 2 * g.monitorRoom + (rest.map fun v => v.category).sum + (maxL + 11) + rm.locals ≤ R.locals; omega) (by show cells + rm.cells ≤ _; omega) (by show slots + rm.slots ≤ _; omega)) (atoms_intro hwU)
  obtain ⟨mid, hmid⟩ := hat.above
  have hfr2 : ((T.setVm vm1).setTop { g with stack := rest }).frames = (.java { g with stack := rest } :: mid) ++ below := by rw [State.frames_setTop' _ hat.top, hmid]; rfl
  have hPU : Pc (Value.ref b :: As).toArray ((T.setVm vm1).calling { g with stack := rest } mk (Value.ref b :: As).toArray) := hbl _ _ _ _ (hPc (T.setVm vm1) hT X1.warmed)
  obtain ⟨oc, t, hsteps, -, hend, hq⟩ := Steps.callFree hM p X.admits X.cas X.clock (acts := []) hfr2 happ hPU trivial
  rw [State.frames_setTop' _ hat.top, X1.tail] at hend
  obtain ⟨⟨⟨q, ce, rfl, hce, hcv, hcl⟩, hhb, hho⟩, L, ⟨hW, hsame⟩, hL⟩ := hq
  obtain ⟨T', X', -, -, ht⟩ := X1.outOfThrown (g := { g with stack := rest }) hg (mk := mk) (a := (Value.ref b :: As).toArray) (t := t) hend hW hsame
  have hth : T'.heap = t.heap := by
    rw [ht]
    exact (Stand.throwing_heap T' { g with stack := rest } q).symm
  refine ⟨q, (T.setVm vm1).calling { g with stack := rest } mk (Value.ref b :: As).toArray, t, T', L, hT, X1.warmed.alike.symm, X', hL, hth, ⟨⟨q, ce, rfl, hce, hcv, hcl⟩, hhb, hho⟩, hstep1 _ fun acts => ?_⟩
  rw [doInvoke_state, ← ht]
  exact hsteps
end
