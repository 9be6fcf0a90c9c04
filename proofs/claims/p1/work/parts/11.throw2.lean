/-! A new exception that is thrown at once; an exception that leaves the method: own work, over the library's laws of them. -/
section
variable {B sb Lx : Nat} {xs : Nat → Int32} {D : va_G} {cs : Nat → ClassId} {p : Program} {l : Launch} {e : Env} {R : Room} {s : State} {m : MethodId} {args : Array Value} {below : List Frame} {meth : Method} {c : Code} {Q : State → Prop} {s0 k pc : Nat} {L : xm_L} {st r : List Value} {h h2 : xm_H} {mc ms : Nat}
set_option maxHeartbeats 4000000 in
theorem xm_throw {a x ic : Nat} (G : xm_G B sb Lx xs D cs l p s m args meth c k) (hc : xm_cp k a = some (5, x, ic)) (d0 : decode (xm_b k) pc = .ok (.new a, 3)) (d3 : decode (xm_b k) (pc + 3) = .ok (.dup, 1)) (d4 : decode (xm_b k) (pc + 4) = .ok (.invokespecial ic, 3)) (d7 : decode (xm_b k) (pc + 7) = .ok (.athrow, 1)) (hh : xm_hh k = [])
    (hw : xm_wt st ≤ 8) (hR : 5 < R.frames ∧ 100 ≤ R.locals) (hm : B + (h.1.length + 1) = s.heap.size + mc ∧ h.2 + 6 = s0 + ms) (hmR : mc ≤ R.cells ∧ ms ≤ R.slots) :
    xm_J B sb D cs p l e R s m args below meth c (xm_QQ B sb D cs (.inr x) (h.1 ++ [none], h.2 + 6) below s mc ms) s0 (k, pc, L, st) h := by
  intro H ls locs cells slots a1 a2 a3 a4 a5 a6 a7
  intro T hT X
  obtain ⟨hexec, hb, -, hml, hown, hts, hlk, -, hex, -, -, -, hB, hZ, hN, hl⟩ := G
  obtain ⟨t1, t2, t3, t4, t5⟩ := xm_t_exc hc
  have hl0 : 0 < h.1.length := (List.getElem?_eq_some_iff.mp a1.2.1).1
  have htr : e.platform.stackTraces = false := (show e.platform.stackTraces = l.stackTraces by rw [X.admits.platform]).trans hl
  have Y := xm_anew X (by omega) (by omega)
  obtain ⟨s2, hs2⟩ : ∃ z, z = (T.setVm s.vm).setFrames (.invoking m args :: below) := ⟨_, rfl⟩
  rw [← hs2] at Y
  have hvm : s2.vm = s.vm := by rw [hs2]; rfl
  have hhp : s2.heap = H := by rw [hs2]; exact hT
  have hW0 : s.WarmedH s2.vm := by rw [hvm]; exact State.WarmedH.refl s
  have hgood : ∀ w ∈ xm_ws, w.before args s2 = true := fun w hw9 => word_at hW0 (good_of_word (xm_ws_good w hw9)) (hts w hw9)
  have hall : ∀ w ∈ Bundle.ownAtoms0 (xm_own k) ic (xm_xn x) xm_xs, w.before args s2 = true := by
    intro w hw9
    rcases t5 w hw9 with g | g | g
    · exact hgood w g
    · exact hN s2 hW0 args w g
    · exact hZ s2 hW0.alike (fun q hq => by rw [hhp]; exact a2 q hq) args w g
  have hown2 : s2.vm.findClass (xm_own k) = some m.cls := by rw [hvm]; exact hown
  have e0 : decode c.code pc = .ok (.new a, 3) := by rw [hb]; exact d0
  have e3 : decode c.code (pc + 3) = .ok (.dup, 1) := by rw [hb]; exact d3
  have e4 : decode c.code (pc + 4) = .ok (.invokespecial ic, 3) := by rw [hb]; exact d4
  have e7 : decode c.code (pc + 7) = .ok (.athrow, 1) := by rw [hb]; exact d7
  obtain ⟨vm1, cX, kX, hfX, hkX, -, -, X1, st1⟩ := Y.newCold hexec (own := xm_own k) (C := xm_xn x) (index := a) (n := 6) hown2 (hgood _ t3) (hall _ (by simp [Bundle.ownAtoms0])) (hgood _ t4)
    (g := F0 m pc ls (st.map (xm_cv B sb))) rfl e0 (Nat.le_refl _) (Nat.le_refl _)
  generalize hT1 : (T.setVm vm1).pushCell { cls := cX, slots := kX.instanceTypes.map defaultValue, vm := .none } = T1 at X1 st1
  have hcellA : T1.heap[T.heap.size]? = some (freshCell cX kX) := by rw [← hT1]; exact State.heap_pushCell_size _ _
  have hcat : (Value.ref T.heap.size).category = 1 := rfl
  have hsz : ls.size = c.maxLocals := by rw [hml]; exact a6.1.trans a7
  rw [hh] at hex
  obtain ⟨U, hsteps, hrun, hend, hW, hsame, ce, hce, hO⟩ := X1.ctorThrow0 hexec htr (own := xm_own k) (cls := xm_xn x) (names := xm_xs) (ic := ic) hown2 t1 t2 hall (fun z hz => nomatch hz) hfX hkX hcellA (by rw [hhp, hT]; exact Nat.le_refl _)
    (g := { method := m, pc := pc + 4, locals := ls, stack := .ref T.heap.size :: .ref T.heap.size :: st.map (xm_cv B sb), locked := none }) rfl hsz rfl rfl (rest := st.map (xm_cv B sb)) rfl e4 e7 (fun z hz => by rw [hex] at hz; cases hz)
    (by show 2 + 3 < R.frames; omega) (by
      simp only [List.map_cons, List.sum_cons, hcat]
      rw [xm_wt_cv]
      show 2 * 0 + (1 + xm_wt st) + (13 * (2 + 1) + 41) ≤ R.locals
      omega) hlk
  have hks : ∀ q : Nat, q < H.size → U.heap[q]? = H[q]? := fun q hq => by
    have := xm_kept hsame (q := q) (by rw [hhp]; exact hq)
    rw [hhp] at this
    exact this
  have hWs : s.WarmedH U.vm := State.WarmedH.trans hW0 hW
  have hcl : s.vm.findClass (xm_xn x) = some ce.cls := by
    have h9 := hO.cls
    rw [hvm] at h9
    exact h9
  have hlt : T.heap.size < U.heap.size := (Array.getElem?_eq_some_iff.mp hce).1
  have hub : U.heap.size ≤ s2.heap.size + 1 := hsame.2.2.1
  have hUz : U.heap.size = H.size + 1 := by rw [hhp] at hub; rw [hT] at hlt; omega
  have hend2 : s.sameButNew ({ U with vm := s.vm } : State) locs mc ms := by
    subst hs2
    obtain ⟨g1, g2⟩ := hsame
    rw [State.setFrames_setFrames] at g1
    have h2 : (T.setVm s.vm).sameButNew ({ U with vm := s.vm } : State) [] (0 + 1) (0 + 6) := ⟨g1, g2⟩
    have h3 := X.same.trans h2
    rw [List.append_nil] at h3
    exact h3.mono (by omega) (by omega)
  refine ⟨U, ?_, .threw T.heap.size, hrun, hend, ⟨⟨T.heap.size, ce, rfl, hce, hO.vm, hcl⟩, a1.push hUz hks (fun e' q => by cases q), fun q hq => ?_⟩, locs, ⟨hWs, hend2⟩, a3⟩
  · refine st1 _ ?_
    show Steps p.tables e below (T1.setTop { method := m, pc := pc + 3, locals := ls, stack := .ref T.heap.size :: st.map (xm_cv B sb), locked := none }) _
    jvm_step X1.here [X1.here.top, hexec, e3, Value.category]
    exact hsteps
  · rw [hks q (by have := a1.1; omega)]
    exact a2 q hq
/-- from this frame, over which an exception of the number x is thrown, the walk comes to its end -/
def xm_JX (B sb : Nat) (D : va_G) (cs : Nat → ClassId) (p : Program) (l : Launch) (e : Env) (R : Room) (s : State) (m : MethodId) (args : Array Value) (below : List Frame) (meth : Method) (c : Code) (Q : State → Prop) (s0 : Nat) (f : xm_F) (h : xm_H) (x : Nat) : Prop :=
  ∀ (H : Heap) (ls : Array Slot) (locs : List Loc) (cells slots : Nat) (q9 : Addr) (ce : Cell), xm_hb B sb D cs h.1 H → (∀ q : Nat, q ≤ B → H[q]? = s.heap[q]?) → (∀ z ∈ locs, B < z.base) → s.heap.size + cells = B + h.1.length → s0 + slots = h.2 → xm_lh B sb f.2.2.1 ls → f.2.2.1.length = xm_n f.1 →
    H[q9]? = some ce → ce.vm = .none → s.vm.findClass (xm_xn x) = some ce.cls → xm_WT p l e R s m args below meth c H locs cells slots Q (F0 m f.2.1 ls (f.2.2.2.map (xm_cv B sb))) q9
theorem xm_out {x : Nat} (G : xm_G B sb Lx xs D cs l p s m args meth c k) (hh : xm_hh k = []) (hm : B + h.1.length = s.heap.size + mc ∧ h.2 = s0 + ms) :
    xm_JX B sb D cs p l e R s m args below meth c (xm_QQ B sb D cs (.inr x) h below s mc ms) s0 (k, pc, L, st) h x := by
  intro H ls locs cells slots q9 ce a1 a2 a3 a4 a5 a6 a7 h1 h2 h3
  intro T hT X
  have hx := G.2.2.2.2.2.2.2.2.1
  rw [hh] at hx
  obtain ⟨g1, g2, g3, g4, g5⟩ := X.leaveThrown q9 (g := F0 m pc ls (st.map (xm_cv B sb))) rfl rfl rfl (fun z hz => by rw [hx] at hz; cases hz) G.2.2.2.2.2.2.1
  have hH : (T.setFrames (.throwing q9 :: below)).heap = H := hT
  refine ⟨_, g1, .threw q9, g2, g3, ⟨⟨q9, ce, rfl, by rw [hH]; exact h1, h2, h3⟩, by rw [hH]; exact a1, fun q hq => by rw [hH]; exact a2 q hq⟩, locs, ⟨g4, ?_⟩, a3⟩
  have hc : cells = mc := by omega
  have hs : slots = ms := by omega
  subst hc
  subst hs
  exact g5
end
