/-! Returns, throws and calls of the small machine: own work. -/
set_option maxHeartbeats 4000000 in
set_option maxRecDepth 100000 in
theorem xm_do_k {sc : xm_S} {i : ClassFile.Instr} {n k pc : Nat} {L : xm_L} {st : List Value} {h h2 : xm_H} {f2 : xm_F} (hs : xm_do sc i n k pc L st h = some (f2, h2)) : f2.1 = k ∧ h.1.length ≤ h2.1.length ∧ h.2 ≤ h2.2 := by
  unfold xm_do at hs
  simp only [xm_bi2, xm_bd2, xm_l2, xm_ls, xm_jp, xm_ilo, xm_llo, xm_alo, xm_ist, xm_lst, xm_ast, xm_inc, xm_gf, xm_pf, xm_iald, xm_zald, xm_lald, xm_aald, xm_iast, xm_zast, xm_last, xm_aast, xm_len, xm_nob, xm_nar, xm_anw, xm_oin, xm_lib, xm_tsw, xm_lsw, xm_nx] at hs
  repeat' (split at hs)
  all_goals first
    | (cases hs; done)
    | (cases hs; refine ⟨rfl, ?_, ?_⟩ <;> simp [xm_put, xm_new])
theorem xm_ev_mono (sc : xm_S) : ∀ (n d : Nat) (f : xm_F) (h : xm_H) (o : xm_O) (h2 : xm_H), xm_ev sc n d f h = some (o, h2) → h.1.length ≤ h2.1.length ∧ h.2 ≤ h2.2
  | 0, _, _, _, _, _, q => by cases q
  | n + 1, d, f, h, o, h2, q => by
    unfold xm_ev at q
    split at q
    · cases q
    · rename_i q9 hs
      have h1 := xm_ev_mono sc n d _ _ _ _ q
      unfold xm_step at hs
      split at hs
      · cases hs
      · split at hs
        · rename_i r9 hd
          cases hs
          have h3 := xm_do_k hd
          exact ⟨Nat.le_trans h3.2.1 h1.1, Nat.le_trans h3.2.2 h1.2⟩
        · unfold xm_end at hs
          simp only [xm_thr] at hs
          repeat' (split at hs)
          all_goals cases hs
    · rename_i q9 hs
      cases q
      unfold xm_step at hs
      split at hs
      · cases hs
      · split at hs
        · cases hs
        · unfold xm_end at hs
          simp only [xm_thr] at hs
          repeat' (split at hs)
          all_goals first | (cases hs; done) | (cases hs; exact ⟨Nat.le_refl _, Nat.le_refl _⟩)
    · rename_i q9 hs
      cases q
      unfold xm_step at hs
      split at hs
      · cases hs
      · split at hs
        · cases hs
        · unfold xm_end at hs
          simp only [xm_thr] at hs
          repeat' (split at hs)
          all_goals first | (cases hs; done) | (cases hs; simp)
    · split at q
      · cases q
      · split at q
        · cases q
        · rename_i hc
          have h1 := xm_ev_mono sc n _ _ _ _ _ hc
          have h3 := xm_ev_mono sc n _ _ _ _ _ q
          exact ⟨Nat.le_trans h1.1 h3.1, Nat.le_trans h1.2 h3.2⟩
        · rename_i hc
          have h1 := xm_ev_mono sc n _ _ _ _ _ hc
          split at q
          · split at q
            · cases q
              exact h1
            · split at q
              · have h3 := xm_ev_mono sc n _ _ _ _ _ q
                exact ⟨Nat.le_trans h1.1 h3.1, Nat.le_trans h1.2 h3.2⟩
              · cases q
          · cases q
/-- how a method ended: with that answer, or with that exception; and the cells then -/
def xm_OC (B sb : Nat) (D : va_G) (cs : Nat → ClassId) (o : xm_O) (h2 : xm_H) (s : State) (oc : Outcome) (t : State) : Prop :=
  (match o with
    | .inl v => oc = .returned (v.map (xm_cv B sb))
    | .inr x => ∃ (q : Addr) (ce : Cell), oc = .threw q ∧ t.heap[q]? = some ce ∧ ce.vm = .none ∧ s.vm.findClass (xm_xn x) = some ce.cls) ∧
  xm_hb B sb D cs h2.1 t.heap ∧ ∀ q : Nat, q ≤ B → t.heap[q]? = s.heap[q]?
def xm_FE (B : Nat) (s t : State) (mc ms : Nat) : Prop := ∃ L : List Loc, (s.WarmedH t.vm ∧ s.sameButNew ({ t with vm := s.vm } : State) L mc ms) ∧ ∀ q ∈ L, B < q.base
def xm_QQ (B sb : Nat) (D : va_G) (cs : Nat → ClassId) (o : xm_O) (h2 : xm_H) (below : List Frame) (s : State) (mc ms : Nat) : State → Prop := fun t =>
  ∃ oc, t.status = .running ∧ Ended t below oc ∧ xm_OC B sb D cs o h2 s oc t ∧ xm_FE B s t mc ms
def xm_Pc (B sb Lx : Nat) (xs : Nat → Int32) (D : va_G) (cs : Nat → ClassId) (as : List Value) (h : xm_H) : Array Value → State → Prop := va_Pc (as.map (xm_cv B sb)) (fun U =>
  xm_hb B sb D cs h.1 U.heap ∧ va_K D xm_cls (xm_tys cs) U ∧ va_X sb Lx xs U U.heap ∧ sb ≤ B ∧ xm_Zx B U ∧ xm_Nx U)
theorem xm_Wmono {p : Program} {l : Launch} {e : Env} {R : Room} {s : State} {m : MethodId} {args : Array Value} {below : List Frame} {meth : Method} {c : Code} {H : Heap} {locs : List Loc} {cells slots : Nat} {Q Q2 : State → Prop} {g : JFrame} (hQ : ∀ t, Q t → Q2 t) (w : W p l e R s m args below meth c H locs cells slots Q g) : W p l e R s m args below meth c H locs cells slots Q2 g := by
  intro T hT X
  obtain ⟨t, a, b⟩ := w T hT X
  exact ⟨t, a, hQ t b⟩
theorem xm_toQQ {B sb : Nat} {D : va_G} {cs : Nat → ClassId} {o : xm_O} {h2 : xm_H} {below : List Frame} {args : Array Value} {s : State} {mc ms : Nat} (t : State) (q : MQ below (fun _ st oc t => xm_OC B sb D cs o h2 st oc t) args s mc ms (fun q => B < q) t) : xm_QQ B sb D cs o h2 below s mc ms t := by
  obtain ⟨oc, q1, q2, q3, L, ⟨-, q4, q5⟩, q6⟩ := q
  exact ⟨oc, q1, q2, q3, L, ⟨q4, q5⟩, q6⟩
theorem xm_blind {B sb Lx : Nat} {xs : Nat → Int32} {D : va_G} {cs : Nat → ClassId} {as : List Value} {h : xm_H} : FrameBlind (xm_Pc B sb Lx xs D cs as h) := by
  intro a U g mk q
  obtain ⟨q0, q1, q2, q3, q4, q5, q6⟩ := q
  exact ⟨q0, q1, va_K.moved (u := U) (U := U.calling g mk a) (Vm.Alike.refl U.vm) q2, va_X.moved (u := U) (U := U.calling g mk a) (Vm.Alike.refl U.vm) q3, q4, xm_Zx.moved (u := U) (U := U.calling g mk a) (Vm.Alike.refl U.vm) (fun _ _ => rfl) q5, xm_Nx.moved (u := U) (U := U.calling g mk a) (State.WarmedH.refl U) q6⟩
section
variable {B sb Lx : Nat} {xs : Nat → Int32} {D : va_G} {cs : Nat → ClassId} {p : Program} {l : Launch} {e : Env} {R : Room} {s : State} {m : MethodId} {args : Array Value} {below : List Frame} {meth : Method} {c : Code} {Q : State → Prop} {s0 k pc : Nat} {L : xm_L} {st r : List Value} {h h2 : xm_H}
theorem xm_ret {i : ClassFile.Instr} {n : Nat} {v : Option Value} (G : xm_G B sb Lx xs D cs l p s m args meth c k) (hd : decode (xm_b k) pc = .ok (i, n)) (hs : xm_end i n k pc st h = some (.inr (.inl (v, h2)))) {mc ms : Nat} (hm : B + h2.1.length = s.heap.size + mc ∧ h2.2 = s0 + ms) :
    xm_J B sb D cs p l e R s m args below meth c (xm_QQ B sb D cs (.inl v) h2 below s mc ms) s0 (k, pc, L, st) h := by
  have hlk := G.2.2.2.2.2.2.1
  have hr := G.2.2.1
  have key : ∀ (H : Heap), xm_hb B sb D cs h.1 H → (∀ q : Nat, q ≤ B → H[q]? = s.heap[q]?) → ∀ v2 : Option Value, (Option.map (xm_cv B sb) v) = v2 → h2 = h → ∀ t : State, t.heap = H → s.WarmedH t.vm → xm_OC B sb D cs (.inl v) h2 s (.returned v2) t := by
    intro H a1 a2 v2 hv hh t ht _
    subst hh
    exact ⟨by rw [← hv], by rw [ht]; exact a1, fun q hq => by rw [ht]; exact a2 q hq⟩
  intro H ls locs cells slots a1 a2 a3 a4 a5 a6 a7
  have hh : h2 = h := by
    unfold xm_end at hs
    simp only [xm_thr] at hs
    repeat' (split at hs)
    all_goals first | (cases hs; done) | (cases hs; rfl)
  have hc : cells = mc := by rw [hh] at hm; omega
  have hz : slots = ms := by rw [hh] at hm; omega
  subst hc
  subst hz
  unfold xm_end at hs
  split at hs
  · split at hs
    · rename_i hr9
      cases hs
      exact xm_Wmono xm_toQQ (W.iret G.1 G.2.1 (hr.trans hr9) (key H a1 a2 _ rfl hh) a3 hd hlk)
    · rename_i hr9
      split at hs
      · rename_i hx
        cases hs
        exact xm_Wmono xm_toQQ (W.zret (ty := .boolean) G.1 G.2.1 (hr.trans hr9) (by rcases hx with rfl | rfl <;> decide +kernel) (key H a1 a2 _ rfl hh) a3 hd hlk)
      · cases hs
    · cases hs
  · split at hs
    · split at hs
      · rename_i hrr
        cases hs
        obtain ⟨rt, hrt, hrk⟩ := xm_t_rr hrr
        exact xm_Wmono xm_toQQ (W.aret (rt := rt) G.1 G.2.1 (hr.trans hrt) hrk (Or.inr ⟨_, rfl⟩) (key H a1 a2 _ rfl hh) a3 hd hlk)
      · cases hs
    · split at hs
      · rename_i hrr
        cases hs
        obtain ⟨rt, hrt, hrk⟩ := xm_t_rr hrr
        exact xm_Wmono xm_toQQ (W.aret (rt := rt) G.1 G.2.1 (hr.trans hrt) hrk (Or.inl rfl) (key H a1 a2 _ rfl hh) a3 hd hlk)
      · cases hs
    · cases hs
  · split at hs
    · rename_i hr9
      cases hs
      exact xm_Wmono xm_toQQ (W.vret G.1 G.2.1 (hr.trans hr9) (key H a1 a2 _ rfl hh) a3 hd hlk)
    · cases hs
  · exfalso
    simp only [xm_thr] at hs
    repeat' (split at hs)
    all_goals cases hs
  · exfalso
    repeat' (split at hs)
    all_goals cases hs
  · exfalso
    repeat' (split at hs)
    all_goals cases hs
  · exfalso
    repeat' (split at hs)
    all_goals cases hs
  · cases hs
end
