/-! Values keep to their bounds; defaults below tags: own work. -/
section
variable {E : zEnv} {n : Int} {r : Int → Int} {N : Int}
theorem zW_w4 (hW : zWF E n) {t : Int} (h0 : 0 ≤ t) (h1 : t < n) (h4 : E.1 13 t = 4) : zW4 E t := by
  obtain ⟨-, w⟩ := hW.2 t h0 h1
  rcases w with w | w | w | w | w
  all_goals first | exact w.2 | (exfalso; have := w.1; omega)
theorem zW_w1 (hW : zWF E n) {t : Int} (h0 : 0 ≤ t) (h1 : t < n) (h4 : E.1 13 t = 1) : zWi E t ∧ zWg E t ∧ eCh E (E.1 16 t) = false := by
  obtain ⟨-, w⟩ := hW.2 t h0 h1
  rcases w with w | w | w | w | w
  all_goals first | exact w.2 | (exfalso; have := w.1; omega)
theorem zW_w2 (hW : zWF E n) {t : Int} (h0 : 0 ≤ t) (h1 : t < n) (h4 : E.1 13 t = 2) : zWi E t ∧ zWg E t := by
  obtain ⟨-, w⟩ := hW.2 t h0 h1
  rcases w with w | w | w | w | w
  all_goals first | exact w.2 | (exfalso; have := w.1; omega)
theorem zW_w3 (hW : zWF E n) {t : Int} (h0 : 0 ≤ t) (h1 : t < n) (h4 : E.1 13 t = 3) : zWi E t ∧ (E.1 15 t = 16 ∨ E.1 15 t = 17) ∧ E.1 14 t = E.1 15 t := by
  obtain ⟨-, w⟩ := hW.2 t h0 h1
  rcases w with w | w | w | w | w
  all_goals first | exact w.2 | (exfalso; have := w.1; omega)
theorem zW_w0 (hW : zWF E n) {t : Int} (h0 : 0 ≤ t) (h1 : t < n) (h4 : E.1 13 t = 0) : zW0 E t := by
  obtain ⟨-, w⟩ := hW.2 t h0 h1
  rcases w with w | w | w | w | w
  all_goals first | exact w.2 | (exfalso; have := w.1; omega)
theorem zW_srt (hW : zWF E n) {t : Int} (h0 : 0 ≤ t) (h1 : t < n) : E.1 13 t = 0 ∨ E.1 13 t = 1 ∨ E.1 13 t = 2 ∨ E.1 13 t = 3 ∨ E.1 13 t = 4 := by
  obtain ⟨-, w⟩ := hW.2 t h0 h1
  rcases w with w | w | w | w | w
  all_goals (have := w.1; omega)
theorem eRs_ok (hW : zWF E n) {g : Int} : ∀ (f : Nat) (t v : Int), 0 ≤ t → t < n → eRs E g f t = some v → 0 ≤ v ∧ v ≤ t ∧ eCh E v = false ∧ E.1 14 v = g
  | 0, t, v, h0, h1, h => by cases h
  | f + 1, t, v, h0, h1, h => by
    unfold eRs at h
    cases hb : eCh E t with
    | false =>
      rw [hb, if_neg (by decide)] at h
      split at h
      · rename_i hg
        obtain rfl := Option.some.inj h
        exact ⟨h0, Int.le_refl _, hb, hg⟩
      · cases h
    | true =>
      rw [hb, if_pos rfl] at h
      cases hk : eIx E t g 0 with
      | none => rw [hk] at h; cases h
      | some k =>
        rw [hk] at h
        have h4 : E.1 13 t = 4 := by
          unfold eCh at hb
          simp at hb
          exact hb.1
        obtain ⟨-, -, w5, w6, w7, -⟩ := zW_w4 hW h0 h1 h4
        obtain ⟨k1, k2, -⟩ := ef_ok _ _ _ hk
        obtain ⟨v1, v2, -⟩ := w7 k k1 (by omega)
        have := eRs_ok hW f _ v v1 (by omega) h
        exact ⟨this.1, by omega, this.2.2⟩
/-- a type that isn't a CHOICE bears its own tag alone -/
theorem eRs_own {g t : Int} (hc : eCh E t = false) (f : Nat) : eRs E g (f + 1) t = if E.1 14 t = g then some t else none := by
  rw [eRs, hc, if_neg (by decide)]
theorem zs_bd_ok (hW : zWF E n) (hr : zs_oct r N) {rec : Int → Int → Int → Option ((Int × List Int) × Int)} {u : Int} (h0 : 0 ≤ u) (h1 : u < n) (hrec : ∀ t lim p x, 0 ≤ t → t < u → lim ≤ N → 0 ≤ p → p ≤ lim → rec t lim p = some x → zs_vok lim p x) (hs : E.1 13 u ≠ 1) {c i e p : Int} {x : List Int × Int} (hi2 : i = 0 ∨ i = 1) (hic : i ≠ 0 → c ≠ 0) (he : e ≤ N) (hp : 0 ≤ p) (hpe : p ≤ e) (h : zs_bd E r rec u c i e p = some x) : zs_cok i e p x := by
  unfold zs_bd at h
  split at h
  · exact zs_co_ok hr hi2 hic he hp hpe h
  · rename_i s0
    split at h
    · cases h
    · split at h
      · rename_i s2
        obtain ⟨wi, -⟩ := zW_w2 hW h0 h1 s2
        cases e1 : rec (E.1 16 u) e p with
        | none => rw [e1] at h; cases h
        | some z =>
          rw [e1] at h
          obtain ⟨v1, v2, v3, v4⟩ := hrec _ _ _ _ wi.1 wi.2 he hp hpe e1
          change (if zs_on r e i z.2 then none else some (z.1.2, zs_sk i z.2)) = _ at h
          cases hon : zs_on r e i z.2 with
          | true => rw [hon, if_pos rfl] at h; cases h
          | false =>
            rw [hon, if_neg (by decide)] at h
            obtain rfl := Option.some.inj h
            obtain ⟨a1, a2, a3⟩ := zs_on_end hon v2
            refine ⟨?_, by show p ≤ zs_sk i z.2; omega, a2, a3, v4.2.2.1⟩
            show (z.1.2.length : Int) + _ ≤ zs_sk i z.2 - p
            unfold zs_sk at a1 ⊢
            split <;> omega
      · split at h
        · rename_i s2 s3
          obtain ⟨wi, -⟩ := zW_w3 hW h0 h1 s3
          cases e1 : zs_vs r (rec (E.1 16 u)) 201 e i p with
          | none => rw [e1] at h; cases h
          | some z =>
            rw [e1] at h
            obtain rfl := Option.some.inj h
            obtain ⟨w1, w2, w3, w4, w5⟩ := zs_vs_ok (fun lim p x a b c d => hrec _ lim p x wi.1 wi.2 a b c d) 201 e i p z he hp hpe e1
            refine ⟨?_, w2, w3, w4, ?_⟩
            · show ((zs_fl (if E.1 15 u = 17 then zs_is false z.1 else z.1)).length : Int) + _ ≤ z.2 - p
              split
              · rw [zs_is_len]
                omega
              · omega
            · show zs_all (zs_fl (if E.1 15 u = 17 then zs_is false z.1 else z.1))
              split
              · exact zs_fl_all _ (fun y hy => w5 y (zs_is_mem _ _ _ hy))
              · exact zs_fl_all _ w5
        · rename_i s2 s3
          have s4 : E.1 13 u = 4 := by
            have := zW_srt hW h0 h1
            omega
          obtain ⟨-, -, w5, w6, w7, -⟩ := zW_w4 hW h0 h1 s4
          cases e1 : zs_ms E r rec u (decide (E.1 15 u = 17)) 201 e i p 0 (fun _ => false) with
          | none => rw [e1] at h; cases h
          | some z =>
            rw [e1] at h
            obtain rfl := Option.some.inj h
            obtain ⟨w1, w2, w3, w4, w5⟩ := zs_ms_ok (fun k lim p x a1 a2 b c d f => hrec _ lim p x (w7 k a1 a2).1 (w7 k a1 a2).2.1 b c d f) 201 e i p 0 (fun _ => false) z he hp hpe (by omega) e1
            refine ⟨?_, w2, w3, w4, ?_⟩
            · show ((zs_fl (if E.1 15 u = 17 then zs_is true z.1 else z.1)).length : Int) + _ ≤ z.2 - p
              split
              · rw [zs_is_len]
                omega
              · omega
            · show zs_all (zs_fl (if E.1 15 u = 17 then zs_is true z.1 else z.1))
              split
              · exact zs_fl_all _ (fun y hy => w5 y (zs_is_mem _ _ _ hy))
              · exact zs_fl_all _ w5
theorem zs_hd_all {g c k : Int} (hg : 0 ≤ g) (hg2 : g < 8388608) (hc : c = 0 ∨ c = 1) (hk : 0 ≤ k) (hk2 : k < 256) : zs_all (zs_hd g c k) := by
  intro x hx
  unfold zs_hd at hx
  rcases List.mem_cons.mp hx with rfl | hx
  · have := zs_ld_b hg hg2 hc
    exact ⟨this.1, this.2.1⟩
  · rcases List.mem_append.mp hx with hx | hx
    · obtain ⟨m, hm⟩ : ∃ m, m = g % 2097152 := ⟨_, rfl⟩
      rw [← hm] at hx
      unfold zs_sv at hx
      split at hx
      · cases hx
      · split at hx
        · rw [List.mem_singleton.mp hx]
          omega
        · split at hx
          · rcases List.mem_cons.mp hx with rfl | hx
            · omega
            · rw [List.mem_singleton.mp hx]
              omega
          · rcases List.mem_cons.mp hx with rfl | hx
            · omega
            · rcases List.mem_cons.mp hx with rfl | hx
              · omega
              · rw [List.mem_singleton.mp hx]
                omega
    · unfold zs_l2 at hx
      split at hx
      · rw [List.mem_singleton.mp hx]
        omega
      · rcases List.mem_cons.mp hx with rfl | hx
        · omega
        · rw [List.mem_singleton.mp hx]
          omega
theorem zs_v_ok (hW : zWF E n) (hr : zs_oct r N) (hN : N ≤ 200) : ∀ (f : Nat) (t lim p : Int) (x : (Int × List Int) × Int), 0 ≤ t → t < n → lim ≤ N → 0 ≤ p → p ≤ lim → zs_v E r f t lim p = some x → zs_vok lim p x
  | 0, t, lim, p, x, h0, h1, hl, hp, hpl, h => by cases h
  | f + 1, t, lim, p, x, h0, h1, hl, hp, hpl, h => by
    have hn := hW.1
    unfold zs_v at h
    cases e1 : zs_id r lim p with
    | none => rw [e1] at h; cases h
    | some y =>
      rw [e1] at h
      obtain ⟨c, g, b⟩ := y
      have o1 := zs_id_ok hr hl hp e1
      have l1 := zs_id_len hr hl hp e1
      change (zs_le r lim b c).bind _ = _ at h
      cases e2 : zs_le r lim b c with
      | none => rw [e2] at h; cases h
      | some y2 =>
        rw [e2] at h
        obtain ⟨i, e, b2⟩ := y2
        have o2 := zs_le_ok hr hl (by omega) e2
        have l2 := zs_le_len hr hl (by omega) e2
        change (eRs E g 17 t).bind _ = _ at h
        cases e3 : eRs E g 17 t with
        | none => rw [e3] at h; cases h
        | some v =>
          rw [e3] at h
          obtain ⟨r1, r2, r3, r4⟩ := eRs_ok hW 17 t v h0 h1 e3
          obtain ⟨c0, c1, c2, c3, c4⟩ := eCo_ok hW 17 v r1 (by omega) (by omega)
          change (zs_bd E r (zs_v E r f) (eCo E 17 v) c i e b2).map _ = _ at h
          cases e4 : zs_bd E r (zs_v E r f) (eCo E 17 v) c i e b2 with
          | none => rw [e4] at h; cases h
          | some z =>
            rw [e4] at h
            obtain rfl := Option.some.inj h
            obtain ⟨d1, d2, d3, d4, d5⟩ := zs_bd_ok hW hr c0 (by omega) (fun t' lim' p' x' a1 a2 a3 a4 a5 a6 => zs_v_ok hW hr hN f t' lim' p' x' a1 (by omega) a3 a4 a5 a6) c2 o2.1 (fun z2 => (o2.2.2.2.2 (by omega)).2) (by omega) (by omega) (by omega) e4
            have hcc : (if E.1 13 (eCo E 17 v) = 0 then (0 : Int) else 1) = 0 ∨ (if E.1 13 (eCo E 17 v) = 0 then (0 : Int) else 1) = 1 := by split <;> simp
            have hlen := zs_enc_len g (if E.1 13 (eCo E 17 v) = 0 then 0 else 1) z.1
            have hsc := zs_sc_b (g % 2097152)
            have key : ((zs_enc g (if E.1 13 (eCo E 17 v) = 0 then 0 else 1) z.1).length : Int) ≤ z.2 - p := by
              rw [hlen]
              by_cases hz : (z.1.length : Int) < 128
              · rw [if_pos hz]
                split at d1 <;> omega
              · rw [if_neg hz]
                by_cases hi : i = 0
                · have := l2.2 hi (by have := d4 hi; rw [if_pos hi] at d1; omega)
                  rw [if_pos hi] at d1
                  omega
                · rw [if_neg hi] at d1
                  omega
            refine ⟨by show p + 2 ≤ z.2; split at d1 <;> omega, by show z.2 ≤ lim; omega, key, o1.2.1, o1.2.2.1, ?_, _, z.1, hcc, rfl⟩
            show zs_all (zs_enc g (if E.1 13 (eCo E 17 v) = 0 then 0 else 1) z.1)
            unfold zs_enc
            exact zs_all_app (zs_hd_all o1.2.1 o1.2.2.1 hcc (by omega) (by split at d1 <;> omega)) d5
theorem zs_de_fuel (hW : zWF E n) (v : Int) : ∀ (f f2 : Nat) (t g : Int), 0 ≤ t → t < n → t < f → t < f2 → zs_de E v f t g = zs_de E v f2 t g
  | 0, f2, t, g, h0, h1, hf, hf2 => by exfalso; omega
  | f + 1, 0, t, g, h0, h1, hf, hf2 => by exfalso; omega
  | f + 1, f2 + 1, t, g, h0, h1, hf, hf2 => by
    unfold zs_de
    by_cases s1 : E.1 13 t = 1
    · rw [if_pos s1, if_pos s1]
      obtain ⟨⟨w1, w2⟩, -⟩ := zW_w1 hW h0 h1 s1
      exact zs_de_fuel hW v f f2 _ _ w1 (by omega) (by omega) (by omega)
    · rw [if_neg s1, if_neg s1]
      by_cases s2 : E.1 13 t = 2
      · rw [if_pos s2, if_pos s2]
        obtain ⟨⟨w1, w2⟩, -⟩ := zW_w2 hW h0 h1 s2
        rw [zs_de_fuel hW v f f2 _ _ w1 (by omega) (by omega) (by omega)]
      · rw [if_neg s2, if_neg s2]
theorem zs_de_co (hW : zWF E n) (v : Int) : ∀ (f : Nat) (t g : Int), 0 ≤ t → t < n → t < f → zs_de E v f t g = if E.1 13 (eCo E f t) = 2 then zs_enc g 1 (zs_df E (E.1 16 (eCo E f t)) v) else zs_enc g 0 (zs_nb (E.1 15 (eCo E f t)) v)
  | 0, t, g, h0, h1, hf => by exfalso; omega
  | f + 1, t, g, h0, h1, hf => by
    have hn := hW.1
    unfold zs_de eCo
    by_cases s1 : E.1 13 t = 1
    · rw [if_pos s1, if_pos s1]
      obtain ⟨⟨w1, w2⟩, -⟩ := zW_w1 hW h0 h1 s1
      exact zs_de_co hW v f _ _ w1 (by omega) (by omega)
    · rw [if_neg s1, if_neg s1]
      by_cases s2 : E.1 13 t = 2
      · rw [if_pos s2, if_pos s2]
        obtain ⟨⟨w1, w2⟩, -⟩ := zW_w2 hW h0 h1 s2
        rw [zs_de_fuel hW v f 17 _ _ w1 (by omega) (by omega) (by omega)]
        rfl
      · rw [if_neg s2, if_neg s2]
theorem eNc_fuel (hW : zWF E n) : ∀ (f f2 : Nat) (t : Int), 0 ≤ t → t < n → t < f → t < f2 → eNc E f t = eNc E f2 t
  | 0, f2, t, h0, h1, hf, hf2 => by exfalso; omega
  | f + 1, 0, t, h0, h1, hf, hf2 => by exfalso; omega
  | f + 1, f2 + 1, t, h0, h1, hf, hf2 => by
    unfold eNc
    by_cases s1 : E.1 13 t = 1 ∨ E.1 13 t = 2
    · rw [if_pos s1, if_pos s1]
      have w : zWi E t := s1.elim (fun z => (zW_w1 hW h0 h1 z).1) (fun z => (zW_w2 hW h0 h1 z).1)
      have := w.2
      exact eNc_fuel hW f f2 _ w.1 (by omega) (by omega) (by omega)
    · rw [if_neg s1, if_neg s1]
theorem eNc_co (hW : zWF E n) : ∀ (f : Nat) (t : Int), 0 ≤ t → t < n → t < f → eNc E f t = if E.1 13 (eCo E f t) = 2 then eNc E 17 (E.1 16 (eCo E f t)) else eCo E f t
  | 0, t, h0, h1, hf => by exfalso; omega
  | f + 1, t, h0, h1, hf => by
    have hn := hW.1
    unfold eNc eCo
    by_cases s1 : E.1 13 t = 1
    · rw [if_pos (Or.inl s1), if_pos s1]
      obtain ⟨⟨w1, w2⟩, -⟩ := zW_w1 hW h0 h1 s1
      exact eNc_co hW f _ w1 (by omega) (by omega)
    · rw [if_neg s1]
      by_cases s2 : E.1 13 t = 2
      · rw [if_pos (Or.inr s2), if_pos s2]
        obtain ⟨⟨w1, w2⟩, -⟩ := zW_w2 hW h0 h1 s2
        exact eNc_fuel hW f 17 _ w1 (by omega) (by omega) (by omega)
      · rw [if_neg s2, if_neg (fun z => z.elim s1 s2)]
/-- what the class knows of the last number -/
def zs_np (E : zEnv) (t : Int) (l : List Int) (w : Int) (m : Int64) : Prop := E.1 13 (eNc E 17 t) = 0 → ∀ v : Int64, ((E.1 15 (eNc E 17 t) = 1 ∧ (v.toInt = 0 ∨ v.toInt = 1)) ∨ E.1 15 (eNc E 17 t) = 2) → ((w = 0 ∧ m = v) ↔ l = zs_df E t v.toInt)
theorem zs_np_simple (hW : zWF E n) {t : Int} (h0 : 0 ≤ t) (h1 : t < n) (s0 : E.1 13 (eCo E 17 t) = 0) {bd : Int} {lo hi : Int64} {l0 l : List Int} {w : Int} {m : Int64} (hall : zs_all l0) (hs : zs_sm (E.1 15 (eCo E 17 t)) bd lo hi l0 = some l) (hn : zs_nm (E.1 15 (eCo E 17 t)) l w m) : zs_np E t (zs_enc (E.1 14 t) 0 l) w m := by
  have hn16 := hW.1
  have e1 := eNc_co hW 17 t h0 h1 (by omega)
  rw [if_neg (by omega)] at e1
  intro _ v hv
  rw [e1] at hv
  have e2 : zs_df E t v.toInt = zs_enc (E.1 14 t) 0 (zs_nb (E.1 15 (eCo E 17 t)) v.toInt) := by
    unfold zs_df
    rw [zs_de_co hW v.toInt 17 t _ h0 h1 (by omega), if_neg (by omega)]
  rw [e2, zs_nm_eq hall hs hn hv]
  constructor
  · intro h
    rw [h]
  · intro h
    exact zs_enc_inj h
theorem zs_np_explicit (hW : zWF E n) {t : Int} (h0 : 0 ≤ t) (h1 : t < n) (s2 : E.1 13 (eCo E 17 t) = 2) {l : List Int} {w : Int} {m : Int64} (hin : zs_np E (E.1 16 (eCo E 17 t)) l w m) : zs_np E t (zs_enc (E.1 14 t) 1 l) w m := by
  have hn16 := hW.1
  have e1 := eNc_co hW 17 t h0 h1 (by omega)
  rw [if_pos s2] at e1
  intro hz v hv
  rw [e1] at hz hv
  have e2 : zs_df E t v.toInt = zs_enc (E.1 14 t) 1 (zs_df E (E.1 16 (eCo E 17 t)) v.toInt) := by
    unfold zs_df
    rw [zs_de_co hW v.toInt 17 t _ h0 h1 (by omega), if_pos s2]
    rfl
  rw [e2, hin hz v hv]
  constructor
  · intro h
    rw [h]
  · intro h
    exact zs_enc_inj h
theorem zs_np_other (hW : zWF E n) {t : Int} (h0 : 0 ≤ t) (h1 : t < n) (s0 : E.1 13 (eCo E 17 t) ≠ 0) (s2 : E.1 13 (eCo E 17 t) ≠ 2) (l : List Int) (w : Int) (m : Int64) : zs_np E t l w m := by
  have hn16 := hW.1
  have e1 := eNc_co hW 17 t h0 h1 (by omega)
  rw [if_neg s2] at e1
  intro hz
  rw [e1] at hz
  exact absurd hz s0
end
