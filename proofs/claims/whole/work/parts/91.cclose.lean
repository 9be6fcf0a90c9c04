/-! The class closes a draft: own work. -/
def zQ (E : zEnv) (s : ym_S) (d : Nat) : Prop := ym_T s d = some (6, 0) ∧ s.1 d 4 = E.1 22 16 ∧ ym_R s d 1 = some (d + 1) ∧ ym_T s (d + 1) = some (3, 6) ∧ ∀ k, 0 ≤ k → k < E.1 22 16 → ∃ q, ym_R s (d + 1) k = some q ∧ ym_T s q = some (5, 0) ∧ ym_R s q 7 = some (q + 1) ∧ ym_T s (q + 1) = some (0, (zft E (E.1 23 (96 + k))).length) ∧ zr (s.1 (q + 1)) 0 (zft E (E.1 23 (96 + k)))
/-- one array of ints is written -/
def zCp (c : Nat) (s s2 : ym_S) : Prop := (∀ k, k ≠ c → s2.1 k = s.1 k) ∧ s2.2 = s.2
section
variable {E : zEnv} {s s2 s3 : ym_S} {n op : Int} {d c : Nat}
theorem zQ_old (hT : zTn s) (ho : zOld s s2) (h : zQ E s d) : zQ E s2 d := by
  obtain ⟨a1, a2, a3, a4, a5⟩ := h
  have g0 := ho.1 d (hT.1 _ _ a1)
  have g1 := ho.1 (d + 1) (hT.1 _ _ a4)
  unfold zQ
  rw [g0.1, g0.2.2.1, g0.2.2.2, g1.2.2.1, g1.2.2.2]
  refine ⟨a1, a2, a3, a4, fun k k0 k1 => ?_⟩
  obtain ⟨q, b1, b2, b3, b4, b5⟩ := a5 k k0 k1
  have x0 := ho.1 q (hT.1 _ _ b2)
  have x1 := ho.1 (q + 1) (hT.1 _ _ b4)
  refine ⟨q, b1, ?_, ?_, ?_, ?_⟩
  · rw [x0.2.2.2]; exact b2
  · rw [x0.2.2.1]; exact b3
  · rw [x1.2.2.2]; exact b4
  · rw [x1.1]; exact b5
theorem zQ_of (hW : zWF E n) (hC : zCl E s n) (hd : zDd E s n op d) (hv : ∀ k, 0 ≤ k → k < E.1 22 16 → zMv E n (96 + k)) : zQ E s d := by
  obtain ⟨e1, e2, e3, e4, e5, e6, e7, e8, e9, e10, e11, e12, e13⟩ := hd
  refine ⟨e2, e5, e6, e7, fun k k0 k1 => ?_⟩
  obtain ⟨v1, v2, -⟩ := hv k k0 k1
  obtain ⟨c, hc, hct⟩ := hC _ v1 v2
  obtain ⟨x1, x2, x3, x4, x5, x6, x7, x8, x9, x10, x11⟩ := hct
  have f0 := (zWf_of hW v1 v2).1
  refine ⟨c, (e12 k k0 k1).1.trans hc, x1, x9, ?_, ?_⟩
  · rw [zft_len]
    exact x10
  · exact zfl_r _ 0 (fun i i0 i1 => x11 i i0 (by omega))
theorem zOld_cp (ho : zOld s s2) (hc : ym_n s ≤ c) (h : zCp c s2 s3) : zOld s s3 := by
  obtain ⟨h1, h2⟩ := h
  refine ⟨fun k hk => ?_, ?_⟩
  · obtain ⟨a, b, c', d'⟩ := ho.1 k hk
    refine ⟨(h1 k (by omega)).trans a, ?_, ?_, ?_⟩
    · rw [h2]; exact b
    · show s3.2.2.1 k = _
      rw [h2]; exact c'
    · show s3.2.2.2.1 k = _
      rw [h2]; exact d'
  · show ym_n s ≤ s3.2.2.2.2.1
    rw [h2]
    exact ho.2
end
section
variable {sc : xm_S} {P : xm_O → xm_H → Prop} {K : List ym_F} {s : ym_S} {E : zEnv} {n op : Int} {d : Nat}
theorem cc_39a (H : zh sc K 0) (hQ : zQ E s d) (h6 : E.1 22 16 ≤ 6) {T : Int} (hT2 : T ≤ 67108864) (kk : ym_Go sc P K (39, 40, [some (ym_Q d), some (ym_I T), some (ym_Q (ym_n s)), some (ym_I 0), some (ym_I 0), none], []) (ym_mk s 0 T.toNat T.toNat)) : ∀ (m : Nat) (k a1 : Int), 0 ≤ k → E.1 22 16 - k = m → 0 ≤ a1 → a1 + ((zFL E m k).length : Int) = T → ym_Go sc P K (39, 4, [some (ym_Q d), some (ym_I a1), some (ym_I k), none, none, none], []) s := by
  obtain ⟨q1, q2, q3, q4, q5⟩ := hQ
  have q3' : s.2.2.1 d 1 = some (d + 1) := q3
  intro m
  induction m with
  | zero =>
    intro k a1 k0 km a0 aT
    rw [zFL] at aT
    obtain rfl : a1 = T := by
      rw [← aT]
      show a1 = a1 + ((0 : Nat) : Int)
      omega
    refine sg_39_4 (zy H) _ _ _ ?_
    rw [q2]
    exact ⟨q1, ⟨by omega, by omega⟩, fun w => by exfalso; omega, fun _ => ⟨⟨a0, hT2⟩, kk⟩⟩
  | succ m ih =>
    intro k a1 k0 km a0 aT
    rw [zFL, List.length_append] at aT
    obtain ⟨q, b1, b2, b3, b4, b5⟩ := q5 k k0 (by omega)
    have b1' : s.2.2.1 (d + 1) k = some q := b1
    have b3' : s.2.2.1 q 7 = some (q + 1) := b3
    refine sg_39_4 (zy H) _ _ _ ?_
    rw [q2, q3']
    refine ⟨q1, ⟨by omega, by omega⟩, fun _ => ⟨fun z => (by cases z), fun x hx => ?_⟩, fun w => by exfalso; omega⟩
    obtain rfl := Option.some.inj hx
    refine ⟨6, q4, ⟨k0, by omega⟩, fun z => (by rw [b1'] at z; cases z), fun y hy => ?_⟩
    rw [b1'] at hy
    obtain rfl := Option.some.inj hy
    refine ⟨b2, fun z => (by rw [b3'] at z; cases z), fun w hw => ?_⟩
    rw [b3'] at hw
    obtain rfl := Option.some.inj hw
    exact ⟨_, b4, ih (k + 1) _ (by omega) (by omega) (by omega) (by omega)⟩
theorem cc_39b (H : zh sc K 0) {sb s1 : ym_S} (hT : zTn sb) (hQ : zQ E sb d) (h6 : E.1 22 16 ≤ 6) (ho : zOld sb s1) {c : Nat} (hc : ym_n sb ≤ c) {T : Int} {L : List Int} (hT1 : ym_T s1 c = some (0, L.length)) (kr : ∀ s2, zCp c s1 s2 → zr (s2.1 c) 0 L → ym_Rt sc P K (some (ym_Q c)) s2) : ∀ (m : Nat) (k a3 : Int) (L1 : List Int) (a5 : Option Nat) (s : ym_S), 0 ≤ k → E.1 22 16 - k = m → a3 = (L1.length : Int) → L1 ++ zFL E m k = L → zCp c s1 s → zr (s.1 c) 0 L1 → ym_Go sc P K (39, 40, [some (ym_Q d), some (ym_I T), some (ym_Q c), some (ym_I a3), some (ym_I k), a5.map ym_Q], []) s := by
  intro m
  induction m with
  | zero =>
    intro k a3 L1 a5 s k0 km ha hL hcp hz
    rw [zFL, List.append_nil] at hL
    rw [hL] at hz
    obtain ⟨q1, q2, q3, q4, q5⟩ := zQ_old hT (zOld_cp ho hc hcp) hQ
    have fin := kr s hcp hz
    cases a5 with
    | none =>
      refine sg_39_40 (zy H) _ _ _ _ _ ?_
      rw [q2]
      exact ⟨q1, ⟨by omega, by omega⟩, fun w => by exfalso; omega, fun _ => fin⟩
    | some c5 =>
      refine sg_39_40b (zy H) _ _ _ _ _ _ ?_
      rw [q2]
      exact ⟨q1, ⟨by omega, by omega⟩, fun w => by exfalso; omega, fun _ => fin⟩
  | succ m ih =>
    intro k a3 L1 a5 s k0 km ha hL hcp hz
    have hos := zOld_cp ho hc hcp
    obtain ⟨q1, q2, q3, q4, q5⟩ := zQ_old hT hos hQ
    obtain ⟨q, b1, b2, b3, b4, b5⟩ := q5 k k0 (by omega)
    obtain ⟨-, -, -, p4, p5⟩ := id hQ
    obtain ⟨q', g1, g2, g3, g4, g5⟩ := p5 k k0 (by omega)
    have hq : q' = q := by
      have := (hos.1 (d + 1) (hT.1 _ _ p4)).2.2.1
      rw [this] at b1
      exact Option.some.inj (g1.symm.trans b1)
    rw [hq] at g4
    have hlt : q + 1 < ym_n sb := hT.1 _ _ g4
    have q3' : s.2.2.1 d 1 = some (d + 1) := q3
    have b1' : s.2.2.1 (d + 1) k = some q := b1
    have b3' : s.2.2.1 q 7 = some (q + 1) := b3
    have hTc : ym_T s c = some (0, L.length) := by
      show s.2.2.2.1 c = _
      rw [hcp.2]
      exact hT1
    rw [zFL] at hL
    have hlen : L1.length + (zft E (E.1 23 (96 + k))).length ≤ L.length := by
      rw [← hL, List.length_append, List.length_append]
      omega
    have next : ym_Go sc P K (39, 40, [some (ym_Q d), some (ym_I T), some (ym_Q c), some (ym_I (a3 + ((zft E (E.1 23 (96 + k))).length : Int))), some (ym_I (k + 1)), some (ym_Q (q + 1))], []) (ym_cpy s (q + 1) c 0 a3 ((zft E (E.1 23 (96 + k))).length : Int)) := by
      have row : ∀ j, (ym_cpy s (q + 1) c 0 a3 ((zft E (E.1 23 (96 + k))).length : Int)).1 c j = if a3 ≤ j ∧ j < a3 + ((zft E (E.1 23 (96 + k))).length : Int) then s.1 (q + 1) (0 + (j - a3)) else s.1 c j := fun j => by
        show (bif Nat.beq c c then _ else _) = _
        rw [zb_eq]
      refine ih (k + 1) _ (L1 ++ zft E (E.1 23 (96 + k))) (some (q + 1)) _ (by omega) (by omega) (by rw [List.length_append]; omega) (by rw [List.append_assoc]; exact hL) ⟨fun x hx => ?_, hcp.2⟩ (zr_app ?_ ?_)
      · refine Eq.trans (funext fun j => ?_) (hcp.1 x hx)
        show (bif Nat.beq x c then _ else _) = _
        rw [zb_ne hx]
        rfl
      · refine zr_of _ _ _ _ hz (fun j j0 j1 => (row j).trans (if_neg (by omega)))
      · refine zr_shift _ _ _ _ _ b5 (fun j j0 j1 => (row _).trans ?_)
        rw [if_pos (by omega), show (0 + (0 + (L1.length : Int) + j - a3)) = 0 + j by omega]
    cases a5 with
    | none =>
      refine sg_39_40 (zy H) _ _ _ _ _ ?_
      rw [q2, q3']
      refine ⟨q1, ⟨by omega, by omega⟩, fun _ => ⟨fun z => (by cases z), fun x hx => ?_⟩, fun w => by exfalso; omega⟩
      obtain rfl := Option.some.inj hx
      refine ⟨6, q4, ⟨k0, by omega⟩, fun z => (by rw [b1'] at z; cases z), fun y hy => ?_⟩
      rw [b1'] at hy
      obtain rfl := Option.some.inj hy
      refine ⟨b2, fun z => (by rw [b3'] at z; cases z), fun w hw => ?_⟩
      rw [b3'] at hw
      obtain rfl := Option.some.inj hw
      exact ⟨_, b4, _, hTc, ⟨by omega, by omega, by omega, by omega, by omega⟩, next⟩
    | some c5 =>
      refine sg_39_40b (zy H) _ _ _ _ _ _ ?_
      rw [q2, q3']
      refine ⟨q1, ⟨by omega, by omega⟩, fun _ => ⟨fun z => (by cases z), fun x hx => ?_⟩, fun w => by exfalso; omega⟩
      obtain rfl := Option.some.inj hx
      refine ⟨6, q4, ⟨k0, by omega⟩, fun z => (by rw [b1'] at z; cases z), fun y hy => ?_⟩
      rw [b1'] at hy
      obtain rfl := Option.some.inj hy
      refine ⟨b2, fun z => (by rw [b3'] at z; cases z), fun w hw => ?_⟩
      rw [b3'] at hw
      obtain rfl := Option.some.inj hw
      exact ⟨_, b4, _, hTc, ⟨by omega, by omega, by omega, by omega, by omega⟩, next⟩
/-- a CHOICE is made -/
theorem cc_18c (H : zh sc K 2) (hT : zTn s) (hQ : zQ E s d) (h22 : 0 ≤ E.1 22 16 ∧ E.1 22 16 ≤ 6) {L : List Int} (hL : L = zFL E (E.1 22 16).toNat 0) (hl : L.length ≤ 16) (kr : ∀ s2, zOld s s2 → zTy s2 (ym_n s) 20 (-1) 0 (Int64.ofNat 0) (Int64.ofNat 0) none (some d) L → ym_n s2 = ym_n s + 2 → ym_z s2 = ym_z s + 8 + L.length → ym_Rt sc P K none s2) : ym_Go sc P K (18, 0, [some (ym_Q (ym_n s)), some (ym_I 20), some (ym_I (-1)), some (ym_I 0), some (ym_J (Int64.ofNat 0)), none, some (ym_J (Int64.ofNat 0)), none, some (ym_N), some (ym_Q d)], []) (ym_mk s 5 0 8) := by
  have h46 := hT.2
  have T0 : ym_T (ym_mk s 5 0 8) (ym_n s) = some (5, 0) := by
    show (bif Nat.beq (ym_n s) (ym_n s) then some (5, 0) else _) = _
    rw [zb_eq]
  have Td : ym_T (ym_mk s 5 0 8) d = some (6, 0) := by
    rw [((zOld_mk s 5 0 8).1 d (hT.1 _ _ hQ.1)).2.2.2]
    exact hQ.1
  obtain ⟨s1, hs1⟩ : ∃ s1, s1 = zFl (ym_mk s 5 0 8) (ym_n s) 20 (-1) 0 (Int64.ofNat 0) (Int64.ofNat 0) none (some d) := ⟨_, rfl⟩
  have ho1 : zOld s s1 := by
    rw [hs1]
    exact zFl_old (zOld_mk s 5 0 8) (Nat.le_refl _)
  have n1 : ym_n s1 = ym_n s + 1 := by rw [hs1]; rfl
  have ho2 : zOld s (ym_mk s1 0 L.length L.length) := zOld_t ho1 (zOld_mk _ 0 L.length L.length)
  refine sg_18_0b (zy H) _ _ _ _ _ _ _ ⟨T0, by decide, by decide, Or.inl rfl, h46, h46, by decide, fun _ => ⟨Td, ?_⟩, fun y => absurd rfl y⟩
  show ym_Go sc P _ (39, 0, [some (ym_Q d), none, none, none, none, none], []) (zFl (ym_mk s 5 0 8) (ym_n s) 20 (-1) 0 (Int64.ofNat 0) (Int64.ofNat 0) none (some d))
  rw [← hs1]
  have H1 := zk (f := (18, 57, [some (ym_Q (ym_n s)), some (ym_I 20), some (ym_I (-1)), some (ym_I 0), some (ym_J (Int64.ofNat 0)), none, some (ym_J (Int64.ofNat 0)), none, some (ym_N), some (ym_Q d)], [ym_Q (ym_n s)])) (zm H (show 1 ≤ 2 by omega))
  refine sg_39_0 (zy H1) _ (cc_39a H1 (zQ_old hT ho1 hQ) h22.2 (T := (L.length : Int)) (by omega) ?_ (E.1 22 16).toNat 0 0 (by decide) (by omega) (by decide) (by rw [← hL]; omega))
  rw [n1, Int.toNat_natCast]
  refine cc_39b H1 hT hQ h22.2 ho2 (c := ym_n s + 1) (by omega) (L := L) ?_ (fun s3 hcp hz => ?_) (E.1 22 16).toNat 0 0 [] none _ (by decide) (by omega) rfl (by rw [← hL]; rfl) ⟨fun _ _ => rfl, rfl⟩ trivial
  · show (bif Nat.beq (ym_n s + 1) (ym_n s1) then some (0, L.length) else _) = _
    rw [n1, zb_eq]
  · obtain ⟨a1, a2, a3, a4, a5, a6, a7, a8⟩ := zFl_ok (s := ym_mk s 5 0 8) (c := ym_n s) (fo := 20) (tg := -1) (b := 0) (lo := Int64.ofNat 0) (hi := Int64.ofNat 0) (i := none) (m := some d)
    rw [← hs1] at a1 a2 a3 a4 a5 a6 a7 a8
    have ho3 := zOld_cp ho2 (by omega) hcp
    obtain ⟨p1, p2⟩ := hcp
    have e0 : s3.1 (ym_n s) = s1.1 (ym_n s) := p1 (ym_n s) (by omega)
    have e1 : s3.2.1 = s1.2.1 := by rw [p2]; rfl
    have e2 : s3.2.2.1 = s1.2.2.1 := by rw [p2]; rfl
    have ne : ym_n s ≠ ym_n s1 := by omega
    have e3 : ym_T s3 (ym_n s) = some (5, 0) := by
      show s3.2.2.2.1 (ym_n s) = _
      rw [p2]
      show (bif Nat.beq (ym_n s) (ym_n s1) then some (0, L.length) else s1.2.2.2.1 (ym_n s)) = _
      rw [zb_ne ne, a8]
      exact T0
    have e4 : ym_T s3 (ym_n s + 1) = some (0, L.length) := by
      show s3.2.2.2.1 (ym_n s + 1) = _
      rw [p2]
      show (bif Nat.beq (ym_n s + 1) (ym_n s1) then some (0, L.length) else _) = _
      rw [n1, zb_eq]
    refine ym_rt_cons (sg_18_60b (zy H) _ _ _ _ _ _ _ _ _ ⟨e3, h46, kr _ (zOld_wR ho3 (Nat.le_refl _)) ?_ ?_ ?_⟩)
    · refine ⟨e3, h46, ?_, ?_, ?_, ?_, ?_, ?_, ?_, ym_u_eq, e4, hz⟩
      · show s3.1 (ym_n s) 0 = _
        rw [e0]; exact a1
      · show s3.1 (ym_n s) 1 = _
        rw [e0]; exact a2
      · show s3.1 (ym_n s) 2 = _
        rw [e0]; exact a3
      · show s3.2.1 (ym_n s) 3 = _
        rw [e1]; exact a4
      · show s3.2.1 (ym_n s) 4 = _
        rw [e1]; exact a5
      · show ym_u s3.2.2.1 (ym_n s) 7 (some (ym_n s + 1)) (ym_n s) 5 = _
        rw [ym_u_jn (by decide), e2]; exact a6
      · show ym_u s3.2.2.1 (ym_n s) 7 (some (ym_n s + 1)) (ym_n s) 6 = _
        rw [ym_u_jn (by decide), e2]; exact a7
    · show s3.2.2.2.2.1 = _
      rw [p2]
      show ym_n s1 + 1 = _
      omega
    · show s3.2.2.2.2.2 = _
      rw [p2]
      show ym_z s1 + L.length = _
      rw [hs1]
      rfl
/-- close -/
theorem cc_7 (H : zh sc K 10) (hT : zTn s) {N M : Int} {r rr : Int → Int} (hP : zPI E n op N r M) (hC : zCI s E n op N r M rr) {L : List Int} (hL : L = if op = 20 then zFL E (E.1 22 16).toNat 0 else [op]) (hl : zBr E op = false → L.length ≤ 16) (k0 : (op = 0 ∨ n = 16 ∨ zBr E op = true) → ym_Rt sc P K (some (ym_I (-1))) s) (k1 : op ≠ 0 → n < 16 → zBr E op = false → ∀ d, ym_R s 1 2 = some d → zDd E s n op d → ∀ s2, zMade s s2 n op (if op = 20 then -1 else op) 0 (Int64.ofNat 0) (Int64.ofNat 0) none (some d) L → ym_n s2 = ym_n s + 2 → ym_z s2 ≤ ym_z s + 24 → (∀ k, 12 ≤ k → k ≤ 27 → zAc s s2 k) → ym_Rt sc P K (some (ym_I n)) (ym_wR s2 1 2 none)) : ym_Go sc P K (7, 0, [some (ym_P 1), none], []) s := by
  obtain ⟨p1, p2, p3, p4, p5, p6, p7, p8⟩ := id hP
  obtain ⟨c1, c2, c3, c4, c5, c6⟩ := id hC
  have hn := p1.1
  have h46 := hT.2
  refine sg_7_0 (zy H) ?_
  rw [c1]
  rcases c5 with ⟨d1, d2⟩ | ⟨d, d1, hd⟩
  · have d1' : s.2.2.1 1 2 = none := d1
    rw [d1']
    exact ⟨fun _ => k0 (Or.inl d2), fun x hx => (by cases hx)⟩
  · have d1' : s.2.2.1 1 2 = some d := d1
    have hd0 := hd
    obtain ⟨e1, e2, e3, e4, e5, -⟩ := hd
    have hop0 : op ≠ 0 := by omega
    rw [d1']
    refine ⟨fun z => (by cases z), fun x hx => ⟨fun w => ⟨fun z => (by cases z), fun y hy => ?_⟩, fun w => k0 (Or.inr (Or.inl (by omega)))⟩⟩
    obtain rfl := Option.some.inj hy
    refine ⟨e2, cc_37 (zk (zm H (show 6 ≤ 10 by omega))) p1 c2 hd0 p7 p8 (ym_rt_cons (sg_7_23 (zy H) _ ?_))⟩
    cases hb : zBr E op with
    | true => exact ⟨by decide, fun z => absurd z (by decide), fun _ => k0 (Or.inr (Or.inr hb))⟩
    | false =>
      rw [d1']
      refine ⟨by decide, fun _ => ⟨fun z => (by cases z), fun y hy => ?_⟩, fun z => absurd rfl z⟩
      obtain rfl := Option.some.inj hy
      have Td : ym_T (ym_mk s 5 0 8) d = some (6, 0) := by
        rw [((zOld_mk s 5 0 8).1 d (hT.1 _ _ e2)).2.2.2]
        exact e2
      have keep : ∀ s2, zOld s s2 → zTy s2 (ym_n s) op (if op = 20 then -1 else op) 0 (Int64.ofNat 0) (Int64.ofNat 0) none (some d) L → ym_n s2 = ym_n s + 2 → ym_z s2 ≤ ym_z s + 24 → ym_Go sc P ((7, 36, [some (ym_P 1), none], []) :: K) (17, 0, [some (ym_P 1), some (ym_Q (ym_n s))], []) s2 := fun s2 ho hTy m1 m2 =>
        cc_17 (zk (zm H (show 1 ≤ 10 by omega))) h46 ho hTy c1 p3 hn (fun z => by exfalso; omega) (fun w2 s3 hM n1 n2 hk => ym_rt_cons (sg_7_39 (zy H) _ (k1 hop0 w2 hb d d1 hd0 s3 hM (by omega) (by omega) hk)))
      refine sg_22_0b (zy (zk (zm H (show 1 ≤ 10 by omega)))) _ ⟨e2, Td, ?_⟩
      rw [e4]
      by_cases h20 : op = 20
      · rw [if_pos h20] at keep hL ⊢
        have hl2 := hl hb
        rw [h20]
        rw [h20] at keep
        exact cc_18c (zk (zk (zm H (show 4 ≤ 10 by omega)))) hT (zQ_of p1 c2 hd0 p8) p7 hL hl2 (fun s2 ho hTy m1 m2 => ym_rt_cons (sg_22_35 (zy (zk (zm H (show 1 ≤ 10 by omega)))) _ _ _ (ym_rt_cons (sg_7_36b (zy H) _ (keep s2 ho hTy m1 (by omega))))))
      · rw [if_neg h20] at keep hL ⊢
        rw [hL] at keep
        exact cc_18 (zk (zk (zm H (show 2 ≤ 10 by omega)))) h46 ⟨by omega, by omega⟩ ⟨by omega, by omega⟩ (Or.inl rfl) h20 none (some d) (fun s2 ho hTy m1 m2 => ym_rt_cons (sg_22_35 (zy (zk (zm H (show 1 ≤ 10 by omega)))) _ _ _ (ym_rt_cons (sg_7_36b (zy H) _ (keep s2 ho hTy m1 (by omega))))))
end
