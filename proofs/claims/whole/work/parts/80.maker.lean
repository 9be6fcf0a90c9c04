/-! The class makes types: own work. -/
def zOld (s s2 : ym_S) : Prop := (∀ k, k < ym_n s → zAc s s2 k) ∧ ym_n s ≤ ym_n s2
def zTn (s : ym_S) : Prop := (∀ k t, ym_T s k = some t → k < ym_n s) ∧ 46 ≤ ym_n s
def zTy (s : ym_S) (c : Nat) (fo tg b : Int) (lo hi : Int64) (i m : Option Nat) (L : List Int) : Prop := ym_T s c = some (5, 0) ∧ 46 ≤ c ∧ s.1 c 0 = fo ∧ s.1 c 1 = tg ∧ s.1 c 2 = b ∧ s.2.1 c 3 = lo ∧ s.2.1 c 4 = hi ∧ ym_R s c 5 = i ∧ ym_R s c 6 = m ∧ ym_R s c 7 = some (c + 1) ∧ ym_T s (c + 1) = some (0, L.length) ∧ zr (s.1 (c + 1)) 0 L
/-- a type is made and kept -/
def zMade (s s2 : ym_S) (n : Int) (fo tg b : Int) (lo hi : Int64) (i m : Option Nat) (L : List Int) : Prop := (∀ k, k < ym_n s → k ≠ 1 → k ≠ 2 → zAc s s2 k) ∧ (∀ j, j ≠ n → ym_R s2 2 j = ym_R s 2 j) ∧ ym_R s2 2 n = some (ym_n s) ∧ zTy s2 (ym_n s) fo tg b lo hi i m L ∧ s2.1 1 1 = n + 1 ∧ ym_R s2 1 = ym_R s 1 ∧ ym_n s ≤ ym_n s2
def ym_o : Option Nat → ym_V
  | none => ym_N
  | some q => ym_Q q
theorem zTn_H {s : ym_S} {h : xm_H} (hH : ym_H s h) : zTn s := by
  obtain ⟨⟨h1, h2⟩, h3, h4, h5, h6⟩ := hH
  have key : ∀ k t, ym_T s k = some t → k < ym_n s := by
    intro k t ht
    obtain ⟨t, n⟩ := t
    have hc := h6 k t n ht
    have : ∃ e, xm_cell h k = some e := by
      match t, hc with
      | 0, hc => exact ⟨_, hc.2.choose_spec.1⟩
      | 1, hc => exact ⟨_, hc.2.choose_spec.1⟩
      | 2, hc => exact ⟨_, hc.2.choose_spec.1⟩
      | 3, hc => exact ⟨_, hc.2.choose_spec.1⟩
      | ci + 4, hc => exact ⟨_, hc.choose_spec.1⟩
    obtain ⟨e, he⟩ := this
    have := xm_cell_some he
    rw [← h1]
    exact (List.getElem?_eq_some_iff.mp this).1
  refine ⟨key, ?_⟩
  have := key 45 _ (h5.1 45 (1, 1) (by decide))
  omega
theorem zOld_r (s : ym_S) : zOld s s := ⟨fun _ _ => ⟨rfl, rfl, rfl, rfl⟩, Nat.le_refl _⟩
theorem zAc_t {s s2 s3 : ym_S} {k : Nat} (h : zAc s s2 k) (h2 : zAc s2 s3 k) : zAc s s3 k := ⟨h2.1.trans h.1, h2.2.1.trans h.2.1, h2.2.2.1.trans h.2.2.1, h2.2.2.2.trans h.2.2.2⟩
theorem zOld_t {s s2 s3 : ym_S} (h : zOld s s2) (h2 : zOld s2 s3) : zOld s s3 := ⟨fun k hk => zAc_t (h.1 k hk) (h2.1 k (Nat.lt_of_lt_of_le hk h.2)), Nat.le_trans h.2 h2.2⟩
theorem zb_eq {α : Type} {k : Nat} {a b : α} : (bif Nat.beq k k then a else b) = a := by rw [Nat.beq_refl]; rfl
theorem u_f {α : Type} {I : Nat → Int → α} {c k : Nat} {j : Int} {v : α} (h : k ≠ c) : ym_u I c j v k = I k := funext fun _ => ym_u_ne h
theorem zOld_mk (s : ym_S) (t n z : Nat) : zOld s (ym_mk s t n z) := ⟨fun k hk => ⟨rfl, rfl, rfl, by
  show (bif Nat.beq k (ym_n s) then _ else _) = _
  rw [zb_ne (by omega)]
  rfl⟩, by show ym_n s ≤ ym_n s + 1; omega⟩
theorem zOld_wI {s s2 : ym_S} {c : Nat} {j v : Int} (h : zOld s s2) (hc : ym_n s ≤ c) : zOld s (ym_wI s2 c j v) := ⟨fun k hk => by
  obtain ⟨a, b, c', d⟩ := h.1 k hk
  exact ⟨(u_f (by omega)).trans a, b, c', d⟩, h.2⟩
theorem zOld_wJ {s s2 : ym_S} {c : Nat} {j : Int} {v : Int64} (h : zOld s s2) (hc : ym_n s ≤ c) : zOld s (ym_wJ s2 c j v) := ⟨fun k hk => by
  obtain ⟨a, b, c', d⟩ := h.1 k hk
  exact ⟨a, (u_f (by omega)).trans b, c', d⟩, h.2⟩
theorem zOld_wR {s s2 : ym_S} {c : Nat} {j : Int} {v : Option Nat} (h : zOld s s2) (hc : ym_n s ≤ c) : zOld s (ym_wR s2 c j v) := ⟨fun k hk => by
  obtain ⟨a, b, c', d⟩ := h.1 k hk
  exact ⟨a, b, (u_f (by omega)).trans c', d⟩, h.2⟩
/-- the fields of a new type -/
def zFl (s : ym_S) (c : Nat) (fo tg b : Int) (lo hi : Int64) (i m : Option Nat) : ym_S := ym_wR (ym_wR (ym_wJ (ym_wJ (ym_wI (ym_wI (ym_wI s c 0 fo) c 1 tg) c 2 b) c 3 lo) c 4 hi) c 5 i) c 6 m
section
variable {s : ym_S} {c : Nat} {fo tg b : Int} {lo hi : Int64} {i m : Option Nat}
theorem zFl_old {s2 : ym_S} (h : zOld s2 s) (hc : ym_n s2 ≤ c) : zOld s2 (zFl s c fo tg b lo hi i m) := zOld_wR (zOld_wR (zOld_wJ (zOld_wJ (zOld_wI (zOld_wI (zOld_wI h hc) hc) hc) hc) hc) hc) hc
theorem zFl_ok : (zFl s c fo tg b lo hi i m).1 c 0 = fo ∧ (zFl s c fo tg b lo hi i m).1 c 1 = tg ∧ (zFl s c fo tg b lo hi i m).1 c 2 = b ∧ (zFl s c fo tg b lo hi i m).2.1 c 3 = lo ∧ (zFl s c fo tg b lo hi i m).2.1 c 4 = hi ∧ ym_R (zFl s c fo tg b lo hi i m) c 5 = i ∧ ym_R (zFl s c fo tg b lo hi i m) c 6 = m ∧ (zFl s c fo tg b lo hi i m).2.2.2 = s.2.2.2 := by
  refine ⟨?_, ?_, ?_, ?_, ?_, ?_, ?_, rfl⟩
  · show ym_u (ym_u (ym_u s.1 c 0 fo) c 1 tg) c 2 b c 0 = fo
    rw [ym_u_jn (by decide), ym_u_jn (by decide), ym_u_eq]
  · show ym_u (ym_u (ym_u s.1 c 0 fo) c 1 tg) c 2 b c 1 = tg
    rw [ym_u_jn (by decide), ym_u_eq]
  · exact ym_u_eq
  · show ym_u (ym_u s.2.1 c 3 lo) c 4 hi c 3 = lo
    rw [ym_u_jn (by decide), ym_u_eq]
  · exact ym_u_eq
  · show ym_u (ym_u s.2.2.1 c 5 i) c 6 m c 5 = i
    rw [ym_u_jn (by decide), ym_u_eq]
  · exact ym_u_eq
theorem zFl_row {k : Nat} (h : k ≠ c) : (zFl s c fo tg b lo hi i m).1 k = s.1 k ∧ (zFl s c fo tg b lo hi i m).2.1 k = s.2.1 k ∧ ym_R (zFl s c fo tg b lo hi i m) k = ym_R s k := by
  refine ⟨?_, ?_, ?_⟩
  · exact (u_f h).trans ((u_f h).trans (u_f h))
  · exact (u_f h).trans (u_f h)
  · exact (u_f h).trans (u_f h)
/-- a type that isn't a CHOICE -/
theorem zTy_1 (h46 : 46 ≤ ym_n s) : zTy (ym_wR (ym_wI (ym_mk (zFl (ym_mk s 5 0 8) (ym_n s) fo tg b lo hi i m) 0 1 1) (ym_n s + 1) 0 tg) (ym_n s) 7 (some (ym_n s + 1))) (ym_n s) fo tg b lo hi i m [tg] := by
  obtain ⟨a1, a2, a3, a4, a5, a6, a7, a8⟩ := zFl_ok (s := ym_mk s 5 0 8) (c := ym_n s) (fo := fo) (tg := tg) (b := b) (lo := lo) (hi := hi) (i := i) (m := m)
  have en : ym_n (zFl (ym_mk s 5 0 8) (ym_n s) fo tg b lo hi i m) = ym_n s + 1 := rfl
  have ne : ym_n s ≠ ym_n s + 1 := by omega
  refine ⟨?_, h46, ?_, ?_, ?_, a4, a5, ?_, ?_, ym_u_eq, ?_, ?_, trivial⟩
  · show (bif Nat.beq (ym_n s) (ym_n s + 1) then some (0, 1) else bif Nat.beq (ym_n s) (ym_n s) then some (5, 0) else ym_T s (ym_n s)) = _
    rw [zb_ne ne, zb_eq]
    rfl
  · exact (ym_u_ne ne).trans a1
  · exact (ym_u_ne ne).trans a2
  · exact (ym_u_ne ne).trans a3
  · exact (ym_u_jn (by decide)).trans a6
  · exact (ym_u_jn (by decide)).trans a7
  · show (bif Nat.beq (ym_n s + 1) (ym_n s + 1) then some (0, 1) else _) = _
    rw [zb_eq]
    rfl
  · exact ym_u_eq
end
section
variable {sc : xm_S} {P : xm_O → xm_H → Prop} {K : List ym_F} {s : ym_S} {n : Int}
theorem cc_18 (H : zh sc K 0) (h46 : 46 ≤ ym_n s) {fo tg b : Int} (hfo : ym_in fo) (htg : ym_in tg) (hb : b = 0 ∨ b = 1) (h20 : ¬ fo = 20) {lo hi : Int64} (i m : Option Nat) (kr : ∀ s2, zOld s s2 → zTy s2 (ym_n s) fo tg b lo hi i m [tg] → ym_n s2 = ym_n s + 2 → ym_z s2 = ym_z s + 9 → ym_Rt sc P K none s2) : ym_Go sc P K (18, 0, [some (ym_Q (ym_n s)), some (ym_I fo), some (ym_I tg), some (ym_I b), some (ym_J lo), none, some (ym_J hi), none, some (ym_o i), some (ym_o m)], []) (ym_mk s 5 0 8) := by
  have T0 : ym_T (ym_mk s 5 0 8) (ym_n s) = some (5, 0) := by
    show (bif Nat.beq (ym_n s) (ym_n s) then some (5, 0) else _) = _
    rw [zb_eq]
  have T1 : ym_T (ym_mk (ym_mk s 5 0 8) 0 (Int.toNat 1) (Int.toNat 1)) (ym_n (ym_mk s 5 0 8)) = some (0, 1) := by
    show (bif Nat.beq (ym_n s + 1) (ym_n s + 1) then some (0, 1) else _) = _
    rw [zb_eq]
  have T2 : ym_T (ym_mk (ym_mk s 5 0 8) 0 (Int.toNat 1) (Int.toNat 1)) (ym_n s) = some (5, 0) := by
    show (bif Nat.beq (ym_n s) (ym_n s + 1) then _ else bif Nat.beq (ym_n s) (ym_n s) then some (5, 0) else _) = _
    rw [zb_ne (by omega), zb_eq]
    rfl
  have fin := kr _ (zOld_wR (zOld_wI (zOld_t (zFl_old (zOld_mk s 5 0 8) (Nat.le_refl _)) (zOld_mk _ 0 1 1)) (Nat.le_succ _)) (Nat.le_refl _)) (zTy_1 h46) rfl rfl
  have b01 : (0 : Int) ≤ 0 ∧ (0 : Int) < ((1 : Nat) : Int) := by decide
  cases i with
  | none => cases m with
    | none => exact sg_18_0 (zy H) _ _ _ _ _ _ ⟨T0, hfo, htg, hb, h46, h46, hfo, fun y => absurd y h20, fun _ => ⟨1, T1, b01, htg, T2, h46, fin⟩⟩
    | some m => exact sg_18_0b (zy H) _ _ _ _ _ _ _ ⟨T0, hfo, htg, hb, h46, h46, hfo, fun y => absurd y h20, fun _ => ⟨1, T1, b01, htg, T2, h46, fin⟩⟩
  | some i => cases m with
    | none => exact sg_18_0c (zy H) _ _ _ _ _ _ _ ⟨T0, hfo, htg, hb, h46, h46, hfo, fun y => absurd y h20, fun _ => ⟨1, T1, b01, htg, T2, h46, fin⟩⟩
    | some m => exact sg_18_0d (zy H) _ _ _ _ _ _ _ _ ⟨T0, hfo, htg, hb, h46, h46, hfo, fun y => absurd y h20, fun _ => ⟨1, T1, b01, htg, T2, h46, fin⟩⟩
/-- keep -/
theorem cc_17 (H : zh sc K 0) {s2 : ym_S} (h46 : 46 ≤ ym_n s) (ho : zOld s s2) {fo tg b : Int} {lo hi : Int64} {i m : Option Nat} {L : List Int} (hT : zTy s2 (ym_n s) fo tg b lo hi i m L) (hn1 : s.1 1 1 = n) (hn0 : 0 ≤ n) (hn : n ≤ 16) (k0 : n = 16 → ym_Rt sc P K (some (ym_I (-1))) s2) (k1 : n < 16 → ∀ s3, zMade s s3 n fo tg b lo hi i m L → ym_n s3 = ym_n s2 → ym_z s3 = ym_z s2 → (∀ k, 12 ≤ k → k ≤ 27 → zAc s s3 k) → ym_Rt sc P K (some (ym_I n)) s3) : ym_Go sc P K (17, 0, [some (ym_P 1), some (ym_Q (ym_n s))], []) s2 := by
  have e1 : s2.1 1 1 = n := by
    rw [(ho.1 1 (by omega)).1]
    exact hn1
  have hT2 := hT
  obtain ⟨t1, t2, t3, t4, t5, t6, t7, t8, t9, t10, t11, t12⟩ := hT2
  refine sg_17_0b (zy H) _ ?_
  rw [e1, show n + 1 - 1 = n by omega]
  refine ⟨fun w => ⟨⟨hn0, w⟩, t1, ⟨by omega, by omega⟩, k1 w _ ?_ rfl rfl (fun k h1 h2 => ?_)⟩, fun w => k0 (by omega)⟩
  · refine ⟨fun k hk k1 k2 => ?_, fun j hj => ?_, (show ym_u s2.2.2.1 2 n (some (ym_n s)) 2 n = _ from ym_u_eq), ?_, wI_e, ?_, ho.2⟩
    · obtain ⟨a, b', c', d'⟩ := ho.1 k hk
      exact ⟨(u_f k1).trans a, b', (u_f k2).trans c', d'⟩
    · show ym_u s2.2.2.1 2 n (some (ym_n s)) 2 j = _
      rw [ym_u_jn hj]
      exact congrFun (ho.1 2 (by omega)).2.2.1 j
    · have r1 : ∀ k, 46 ≤ k → (ym_wI (ym_wR s2 2 n (some (ym_n s))) 1 1 (n + 1)).1 k = s2.1 k := fun k hk => u_f (by omega)
      have r2 : ∀ k, 46 ≤ k → ym_R (ym_wI (ym_wR s2 2 n (some (ym_n s))) 1 1 (n + 1)) k = ym_R s2 k := fun k hk => u_f (by omega)
      unfold zTy
      rw [r1 _ h46, r2 _ h46, r1 _ (by omega : 46 ≤ ym_n s + 1)]
      exact hT
    · show ym_u s2.2.2.1 2 n (some (ym_n s)) 1 = _
      rw [u_f (by decide)]
      exact (ho.1 1 (by omega)).2.2.1
  · obtain ⟨a, b', c', d'⟩ := ho.1 k (by omega)
    exact ⟨(u_f (by omega)).trans a, b', (u_f (by omega)).trans c', d'⟩
end
