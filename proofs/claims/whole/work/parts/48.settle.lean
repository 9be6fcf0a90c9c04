/-! The class' order of encodings: own work. -/
def zs_fl : List (Int × List Int) → List Int
  | [] => []
  | y :: t => y.2 ++ zs_fl t
def zs_bl : Nat → List Int → List Int → Bool
  | 0, _, _ => false
  | n + 1, x, y => if x.headD 0 = y.headD 0 then zs_bl n x.tail y.tail else decide (x.headD 0 < y.headD 0)
def zs_blt (x y : List Int) : Bool := zs_bl (max x.length y.length) x y
def zs_lt (byTag : Bool) (x y : Int × List Int) : Bool := if byTag then decide (x.1 < y.1) else zs_blt x.2 y.2
def zs_ins (b : Bool) (x : Int × List Int) : List (Int × List Int) → List (Int × List Int)
  | [] => [x]
  | y :: t => if zs_lt b x y then x :: y :: t else y :: zs_ins b x t
/-- an encoding in the strict form, with its tag -/
def zs_kd (y : Int × List Int) : Prop := 0 ≤ y.1 ∧ y.1 < 8388608 ∧ zs_all y.2 ∧ ∃ (c : Int) (l : List Int), (c = 0 ∨ c = 1) ∧ y.2 = zs_enc y.1 c l
theorem zr_split {o : Int → Int} : ∀ {l l2 : List Int} {a : Int}, zr o a (l ++ l2) → zr o a l ∧ zr o (a + l.length) l2
  | [], l2, a, h => ⟨trivial, by rw [show a + (([] : List Int).length : Int) = a by simp]; exact h⟩
  | x :: t, l2, a, h => by
    have := zr_split (l := t) h.2
    refine ⟨⟨h.1, this.1⟩, ?_⟩
    rw [List.length_cons, show a + ((t.length + 1 : Nat) : Int) = a + 1 + (t.length : Int) by omega]
    exact this.2
theorem zr_enc {o : Int → Int} {a g c : Int} {l : List Int} (h : zr o a (zs_enc g c l)) (n k : Int) (hn : n = g % 2097152) (hk : k = (l.length : Int)) : o a = zs_ld g c ∧ zr o (a + 1) (zs_sv n) ∧ zr o (a + 1 + zs_sc n) (zs_l2 k) := by
  have h1 : zr o a (zs_ld g c :: (zs_sv (g % 2097152) ++ zs_l2 l.length)) := (zr_split h).1
  rw [← hn, ← hk] at h1
  have h3 : zr o (a + 1) (zs_sv n ++ zs_l2 k) := h1.2
  have h4 := zr_split h3
  rw [zs_sv_len] at h4
  exact And.intro h1.1 (And.intro h4.1 h4.2)
theorem zs_ld_b {g c : Int} (hg : 0 ≤ g) (hg2 : g < 8388608) (hc : c = 0 ∨ c = 1) : 0 ≤ zs_ld g c ∧ zs_ld g c < 256 ∧ zs_ld g c / 64 = g / 2097152 ∧ zs_ld g c % 32 = (if g % 2097152 < 31 then g % 2097152 else 31) := by
  unfold zs_ld
  have h1 : (if c = 0 then (0 : Int) else 32) = 0 ∨ (if c = 0 then (0 : Int) else 32) = 32 := by split <;> simp
  have h2 : (if g % 2097152 < 31 then g % 2097152 else 31) ≤ 31 ∧ 0 ≤ (if g % 2097152 < 31 then g % 2097152 else 31) := by split <;> omega
  omega
section
variable {sc : xm_S} {P : xm_O → xm_H → Prop} {K : List ym_F} {s : ym_S} {p g c i e w u q : Int} {m : Int64} {o : Int → Int} {r : Int → Int} {N : Int}
theorem cc_48s (H : zh sc K 0) {a1 a2 : Int} (h0 : 0 ≤ a2) (h1 : a2 < q) (h2 : q ≤ 200) (k1 : o a2 < 128 → ym_Rt sc P K (some (ym_I a2)) (zc s p g c i e w u q m o)) (k2 : 128 ≤ o a2 → ym_Go sc P K (48, 20, [some (ym_P 8), some (ym_I a1), some (ym_I (a2 + 1))], []) (zc s p g c i e w u q m o)) : ym_Go sc P K (48, 20, [some (ym_P 8), some (ym_I a1), some (ym_I a2)], []) (zc s p g c i e w u q m o) := by
  refine sg_48_20 (zy H) _ _ ?_
  simp only [zc_7_2, zc_7_3, zc_7_4, zc_7_5, zc_7_6, zc_7_8, zc_7_9, zc_8_1, zc_7_7, zc_9, zc_1, zc_2, zc_3, zc_4, zc_5, zc_6, zc_10, zc_11, zc_r, zc_w7_2, zc_w7_3, zc_w7_4, zc_w7_5, zc_w7_6, zc_w7_8, zc_w7_9, zc_w8_1, zc_w7_7, zc_w9, zc_p9]
  exact ⟨⟨by omega, by omega⟩, fun _ => ⟨⟨by omega, by omega⟩, k1, k2⟩, fun z => by exfalso; omega⟩
theorem cc_48 (H : zh sc K 0) {a gg cc : Int} {l : List Int} (ha : 0 ≤ a) (hg : 0 ≤ gg) (hg2 : gg < 8388608) (hc : cc = 0 ∨ cc = 1) (hz : zr o a (zs_enc gg cc l)) (hq : a + (zs_enc gg cc l).length ≤ q) (hq2 : q ≤ 200) (kr : ym_Rt sc P K (some (ym_I (a + zs_sc (gg % 2097152)))) (zc s p g c i e w u q m o)) : ym_Go sc P K (48, 0, [some (ym_P 8), some (ym_I a), none], []) (zc s p g c i e w u q m o) := by
  obtain ⟨nn, hnn⟩ : ∃ nn : Int, nn = gg % 2097152 := ⟨_, rfl⟩
  obtain ⟨kk, hkk⟩ : ∃ kk : Int, kk = (l.length : Int) := ⟨_, rfl⟩
  obtain ⟨z1, z2, z3⟩ := zr_enc hz nn kk hnn hkk
  have hl := zs_enc_len gg cc l
  rw [← hnn, ← hkk] at hl
  rw [← hnn] at kr
  obtain ⟨b0, b1, b2, b3⟩ := zs_ld_b hg hg2 hc
  rw [← hnn] at b3
  have hb := zs_sc_b (nn)
  have hll : (if kk < 128 then (1 : Int) else 2) ≥ 1 := by split <;> omega
  refine sg_48_0 (zy H) _ ?_
  simp only [zc_7_2, zc_7_3, zc_7_4, zc_7_5, zc_7_6, zc_7_8, zc_7_9, zc_8_1, zc_7_7, zc_9, zc_1, zc_2, zc_3, zc_4, zc_5, zc_6, zc_10, zc_11, zc_r, zc_w7_2, zc_w7_3, zc_w7_4, zc_w7_5, zc_w7_6, zc_w7_8, zc_w7_9, zc_w8_1, zc_w7_7, zc_w9, zc_p9]
  rw [z1, zn_31 b0 (by omega), b3]
  refine ⟨⟨by omega, by omega⟩, fun h => ?_, fun h => ?_⟩
  · by_cases h31 : nn < 31
    · rw [if_pos h31] at h
      omega
    · unfold zs_sc at kr hl hb
      rw [if_neg h31] at kr hl hb
      by_cases h2 : nn < 128
      · rw [if_pos h2] at kr hl hb
        unfold zs_sv at z2
        rw [if_neg h31, if_pos h2] at z2
        exact cc_48s H (by omega) (by omega) hq2 (fun _ => kr) (fun z => by have := z2.1; exfalso; omega)
      · rw [if_neg h2] at kr hl hb
        by_cases h3 : nn < 16384
        · rw [if_pos h3] at kr hl hb
          unfold zs_sv at z2
          rw [if_neg h31, if_neg h2, if_pos h3] at z2
          obtain ⟨y1, y2, y3⟩ := z2
          refine cc_48s H (by omega) (by omega) hq2 (fun z => by exfalso; omega) (fun _ => cc_48s H (by omega) (by omega) hq2 (fun _ => ?_) (fun z => by exfalso; omega))
          rw [show a + 1 + 1 = a + 2 by omega]
          exact kr
        · rw [if_neg h3] at kr hl hb
          unfold zs_sv at z2
          rw [if_neg h31, if_neg h2, if_neg h3] at z2
          obtain ⟨y1, y2, y3, y4⟩ := z2
          refine cc_48s H (by omega) (by omega) hq2 (fun z => by exfalso; omega) (fun _ => cc_48s H (by omega) (by omega) hq2 (fun z => by exfalso; omega) (fun _ => cc_48s H (by omega) (by omega) hq2 (fun _ => ?_) (fun z => by exfalso; omega)))
          rw [show a + 1 + 1 + 1 = a + 3 by omega]
          exact kr
  · by_cases h31 : nn < 31
    · unfold zs_sc at kr
      rw [if_pos h31, Int.add_zero] at kr
      exact kr
    · rw [if_neg h31] at h
      exact absurd rfl h
theorem cc_49s (H : zh sc K 0) {a1 a2 a3 a4 : Int} (h0 : 0 ≤ a4) (h1 : a4 ≤ a2) (h2 : a2 < 200) (h3 : 0 ≤ a3) (h4 : a3 < 16384) (h5 : 0 ≤ o a4) (h6 : o a4 < 256) (k : ym_Go sc P K (49, 30, [some (ym_P 8), some (ym_I a1), some (ym_I a2), some (ym_I (a3 * 128 + o a4 % 128)), some (ym_I (a4 + 1))], []) (zc s p g c i e w u q m o)) : ym_Go sc P K (49, 30, [some (ym_P 8), some (ym_I a1), some (ym_I a2), some (ym_I a3), some (ym_I a4)], []) (zc s p g c i e w u q m o) := by
  refine sg_49_30 (zy H) _ _ _ _ ?_
  simp only [zc_7_2, zc_7_3, zc_7_4, zc_7_5, zc_7_6, zc_7_8, zc_7_9, zc_8_1, zc_7_7, zc_9, zc_1, zc_2, zc_3, zc_4, zc_5, zc_6, zc_10, zc_11, zc_r, zc_w7_2, zc_w7_3, zc_w7_4, zc_w7_5, zc_w7_6, zc_w7_8, zc_w7_9, zc_w8_1, zc_w7_7, zc_w9, zc_p9]
  refine ⟨⟨by omega, by omega⟩, ⟨by omega, by omega⟩, fun z => by exfalso; omega, fun _ => ⟨⟨by omega, by omega⟩, ?_⟩⟩
  rw [zn_127 h5 (by omega), zn_shl7 h3 (by omega), zn_or7 h3 (by omega) (by omega) (by omega)]
  exact k
theorem cc_49e (H : zh sc K 0) {a1 a2 a3 a4 : Int} (h0 : 0 ≤ a1) (h1 : a2 < a4) (h2 : a4 ≤ 200) (h3 : a1 < 200) (h4 : 0 ≤ a2) (h5 : 0 ≤ o a1) (h6 : o a1 < 256) (kr : ym_Rt sc P K (some (ym_I (o a1 / 64 * 2097152 + a3))) (zc s p g c i e w u q m o)) : ym_Go sc P K (49, 30, [some (ym_P 8), some (ym_I a1), some (ym_I a2), some (ym_I a3), some (ym_I a4)], []) (zc s p g c i e w u q m o) := by
  refine sg_49_30 (zy H) _ _ _ _ ?_
  simp only [zc_7_2, zc_7_3, zc_7_4, zc_7_5, zc_7_6, zc_7_8, zc_7_9, zc_8_1, zc_7_7, zc_9, zc_1, zc_2, zc_3, zc_4, zc_5, zc_6, zc_10, zc_11, zc_r, zc_w7_2, zc_w7_3, zc_w7_4, zc_w7_5, zc_w7_6, zc_w7_8, zc_w7_9, zc_w8_1, zc_w7_7, zc_w9, zc_p9]
  refine ⟨⟨by omega, by omega⟩, ⟨by omega, by omega⟩, fun _ => ⟨⟨by omega, by omega⟩, ?_⟩, fun z => by exfalso; omega⟩
  rw [zn_shr6 h5 (by omega), zn_shl21 (by omega) (by omega)]
  exact kr
theorem cc_49 (H : zh sc K 1) {a gg cc : Int} {l : List Int} (ha : 0 ≤ a) (hg : 0 ≤ gg) (hg2 : gg < 8388608) (hc : cc = 0 ∨ cc = 1) (hz : zr o a (zs_enc gg cc l)) (hq : a + (zs_enc gg cc l).length ≤ q) (hq2 : q ≤ 200) (kr : ym_Rt sc P K (some (ym_I gg)) (zc s p g c i e w u q m o)) : ym_Go sc P K (49, 0, [some (ym_P 8), some (ym_I a), none, none, none], []) (zc s p g c i e w u q m o) := by
  obtain ⟨nn, hnn⟩ : ∃ nn : Int, nn = gg % 2097152 := ⟨_, rfl⟩
  obtain ⟨kk, hkk⟩ : ∃ kk : Int, kk = (l.length : Int) := ⟨_, rfl⟩
  obtain ⟨z1, z2, z3⟩ := zr_enc hz nn kk hnn hkk
  have hl := zs_enc_len gg cc l
  rw [← hnn, ← hkk] at hl
  obtain ⟨b0, b1, b2, b3⟩ := zs_ld_b hg hg2 hc
  rw [← hnn] at b3
  have hb := zs_sc_b (nn)
  have hll : (if kk < 128 then (1 : Int) else 2) ≥ 1 := by split <;> omega
  have ho0 : 0 ≤ o a := by rw [z1]; exact b0
  have ho1 : o a < 256 := by rw [z1]; exact b1
  have H0 : zh sc K 0 := zm H (by omega)
  refine sg_49_0 (zy H) _ (cc_48 (zk H) ha hg hg2 hc hz hq hq2 ?_)
  rw [← hnn]
  refine ym_rt_cons (sg_49_5 (zy H) _ _ ⟨⟨⟨by omega, by omega⟩, ⟨by omega, by omega⟩, fun _ => ⟨by omega, by omega⟩⟩, ?_⟩)
  simp only [zc_7_2, zc_7_3, zc_7_4, zc_7_5, zc_7_6, zc_7_8, zc_7_9, zc_8_1, zc_7_7, zc_9, zc_1, zc_2, zc_3, zc_4, zc_5, zc_6, zc_10, zc_11, zc_r, zc_w7_2, zc_w7_3, zc_w7_4, zc_w7_5, zc_w7_6, zc_w7_8, zc_w7_9, zc_w8_1, zc_w7_7, zc_w9, zc_p9]
  by_cases h31 : nn < 31
  · have e1 : zs_sc (nn) = 0 := by unfold zs_sc; rw [if_pos h31]
    rw [e1, Int.add_zero, if_pos rfl, z1, zn_31 b0 (by omega), b3, if_pos h31]
    refine cc_49e H0 ha (by omega) (by omega) (by omega) ha ho0 ho1 ?_
    rw [z1, b2, show gg / 2097152 * 2097152 + nn = gg by omega]
    exact kr
  · by_cases h2 : nn < 128
    · have e1 : zs_sc (nn) = 1 := by unfold zs_sc; rw [if_neg h31, if_pos h2]
      unfold zs_sv at z2
      rw [if_neg h31, if_pos h2] at z2
      obtain ⟨y1, y2⟩ := z2
      rw [e1, if_neg (by omega)]
      refine cc_49s H0 (by omega) (by omega) (by omega) (by omega) (by omega) (by omega) (by omega) (cc_49e H0 ha (by omega) (by omega) (by omega) (by omega) ho0 ho1 ?_)
      rw [z1, b2, y1, show gg / 2097152 * 2097152 + (0 * 128 + nn % 128) = gg by omega]
      exact kr
    · by_cases h3 : nn < 16384
      · have e1 : zs_sc (nn) = 2 := by unfold zs_sc; rw [if_neg h31, if_neg h2, if_pos h3]
        unfold zs_sv at z2
        rw [if_neg h31, if_neg h2, if_pos h3] at z2
        obtain ⟨y1, y2, y3⟩ := z2
        rw [e1, if_neg (by omega)]
        refine cc_49s H0 (by omega) (by omega) (by omega) (by omega) (by omega) (by omega) (by omega) (cc_49s H0 (by omega) (by omega) (by omega) (by omega) (by omega) (by omega) (by omega) (cc_49e H0 ha (by omega) (by omega) (by omega) (by omega) ho0 ho1 ?_))
        rw [z1, b2, y1, y2, show gg / 2097152 * 2097152 + ((0 * 128 + (nn / 128 + 128) % 128) * 128 + nn % 128 % 128) = gg by omega]
        exact kr
      · have e1 : zs_sc (nn) = 3 := by unfold zs_sc; rw [if_neg h31, if_neg h2, if_neg h3]
        unfold zs_sv at z2
        rw [if_neg h31, if_neg h2, if_neg h3] at z2
        obtain ⟨y1, y2, y3, y4⟩ := z2
        rw [e1, if_neg (by omega)]
        refine cc_49s H0 (by omega) (by omega) (by omega) (by omega) (by omega) (by omega) (by omega) (cc_49s H0 (by omega) (by omega) (by omega) (by omega) (by omega) (by omega) (by omega) (cc_49s H0 (by omega) (by omega) (by omega) (by omega) (by omega) (by omega) (by omega) (cc_49e H0 ha (by omega) (by omega) (by omega) (by omega) ho0 ho1 ?_)))
        rw [z1, b2, y1, y2, y3, show gg / 2097152 * 2097152 + (((0 * 128 + (nn / 16384 + 128) % 128) * 128 + (nn / 128 % 128 + 128) % 128) * 128 + nn % 128 % 128) = gg by omega]
        exact kr
theorem cc_50 (H : zh sc K 1) {a gg cc : Int} {l : List Int} (ha : 0 ≤ a) (hg : 0 ≤ gg) (hg2 : gg < 8388608) (hc : cc = 0 ∨ cc = 1) (hz : zr o a (zs_enc gg cc l)) (hq : a + (zs_enc gg cc l).length ≤ q) (hq2 : q ≤ 200) (kr : ym_Rt sc P K (some (ym_I (a + (zs_enc gg cc l).length))) (zc s p g c i e w u q m o)) : ym_Go sc P K (50, 0, [some (ym_P 8), some (ym_I a), none, none], []) (zc s p g c i e w u q m o) := by
  obtain ⟨nn, hnn⟩ : ∃ nn : Int, nn = gg % 2097152 := ⟨_, rfl⟩
  obtain ⟨kk, hkk⟩ : ∃ kk : Int, kk = (l.length : Int) := ⟨_, rfl⟩
  obtain ⟨z1, z2, z3⟩ := zr_enc hz nn kk hnn hkk
  have hl := zs_enc_len gg cc l
  rw [← hnn, ← hkk] at hl
  have hb := zs_sc_b (nn)
  refine sg_50_0 (zy H) _ (cc_48 (zk H) ha hg hg2 hc hz hq hq2 ?_)
  rw [← hnn]
  refine ym_rt_cons (sg_50_5 (zy H) _ _ ?_)
  simp only [zc_7_2, zc_7_3, zc_7_4, zc_7_5, zc_7_6, zc_7_8, zc_7_9, zc_8_1, zc_7_7, zc_9, zc_1, zc_2, zc_3, zc_4, zc_5, zc_6, zc_10, zc_11, zc_r, zc_w7_2, zc_w7_3, zc_w7_4, zc_w7_5, zc_w7_6, zc_w7_8, zc_w7_9, zc_w8_1, zc_w7_7, zc_w9, zc_p9]
  rw [hl] at kr hq
  rw [show a + zs_sc (nn) + 1 = a + 1 + zs_sc (nn) by omega]
  by_cases h : kk < 128
  · rw [if_pos h] at kr hq
    unfold zs_l2 at z3
    rw [if_pos h] at z3
    have y := z3.1
    rw [y]
    refine ⟨⟨by omega, by omega⟩, fun _ => ⟨⟨by omega, by omega⟩, fun z => by exfalso; omega, fun _ => ⟨⟨⟨by omega, by omega⟩, fun _ => ⟨by omega, by omega⟩⟩, ?_⟩⟩, fun z => by exfalso; omega⟩
    rw [if_pos (by omega)]
    refine ⟨⟨by omega, by omega⟩, ?_⟩
    rw [show (if a + 1 + zs_sc (nn) + 1 + kk < q then a + 1 + zs_sc (nn) + 1 + kk else q) = a + (1 + zs_sc (nn) + 1 + kk) by split <;> omega]
    exact kr
  · rw [if_neg h] at kr hq
    unfold zs_l2 at z3
    rw [if_neg h] at z3
    obtain ⟨y1, y2, y3⟩ := z3
    rw [y1, y2]
    refine ⟨⟨by omega, by omega⟩, fun _ => ⟨⟨by omega, by omega⟩, fun _ => ⟨⟨⟨by omega, by omega⟩, fun _ => ⟨by omega, by omega⟩⟩, ?_⟩, fun z => by exfalso; omega⟩, fun z => by exfalso; omega⟩
    rw [if_pos (by omega)]
    refine ⟨⟨by omega, by omega⟩, ?_⟩
    rw [show (if a + 1 + zs_sc (nn) + 1 + 1 + kk < q then a + 1 + zs_sc (nn) + 1 + 1 + kk else q) = a + (1 + zs_sc (nn) + 2 + kk) by split <;> omega]
    exact kr
/-- a stretch turned round -/
def zrv (o : Int → Int) (a b : Int) : Int → Int := fun j => if a ≤ j ∧ j < b then o (a + b - 1 - j) else o j
theorem zrv_step (o : Int → Int) (a b : Int) (h : a < b) : zrv (zu (zu o a (o b)) b (o a)) (a + 1) b = zrv o a (b + 1) := by
  funext j
  show (if a + 1 ≤ j ∧ j < b then (if a + 1 + b - 1 - j = b then o a else if a + 1 + b - 1 - j = a then o b else o (a + 1 + b - 1 - j)) else (if j = b then o a else if j = a then o b else o j)) = (if a ≤ j ∧ j < b + 1 then o (a + (b + 1) - 1 - j) else o j)
  by_cases h1 : a + 1 ≤ j ∧ j < b
  · have h2 : a ≤ j ∧ j < b + 1 := by omega
    have h3 : ¬ a + 1 + b - 1 - j = b := by omega
    have h4 : ¬ a + 1 + b - 1 - j = a := by omega
    rw [if_pos h1, if_pos h2, if_neg h3, if_neg h4, show a + 1 + b - 1 - j = a + (b + 1) - 1 - j by omega]
  · rw [if_neg h1]
    by_cases h2 : j = b
    · have h3 : a ≤ j ∧ j < b + 1 := by omega
      rw [if_pos h2, if_pos h3, show a + (b + 1) - 1 - j = a by omega]
    · rw [if_neg h2]
      by_cases h3 : j = a
      · have h4 : a ≤ j ∧ j < b + 1 := by omega
        rw [if_pos h3, if_pos h4, show a + (b + 1) - 1 - j = b by omega]
      · have h4 : ¬ (a ≤ j ∧ j < b + 1) := by omega
        rw [if_neg h3, if_neg h4]
theorem zrv_none (o : Int → Int) (a b : Int) (h : b ≤ a + 1) : zrv o a b = o := by
  funext j
  unfold zrv
  by_cases h1 : a ≤ j ∧ j < b
  · rw [if_pos h1, show a + b - 1 - j = j by omega]
  · rw [if_neg h1]
theorem cc_52l (H : zh sc K 0) (p g c i e w u q : Int) (m : Int64) (a1 a2 : Int) : ∀ (n : Nat) (a3 a4 : Int) (o : Int → Int) (x : Option Int), a3 - a4 ≤ n → 0 ≤ a4 → a4 ≤ 200 → -1 ≤ a3 → a3 < 200 → ym_Rt sc P K none (zc s p g c i e w u q m (zrv o a4 (a3 + 1))) → ym_Go sc P K (52, 7, [some (ym_P 8), some (ym_I a1), some (ym_I a2), some (ym_I a3), some (ym_I a4), x.map ym_I], []) (zc s p g c i e w u q m o)
  | n, a3, a4, o, x, hn, h4, h42, h3, h32, kr => by
    by_cases h : a4 < a3
    · obtain ⟨n2, rfl⟩ : ∃ n2, n = n2 + 1 := ⟨n - 1, by omega⟩
      have kr2 : ym_Go sc P K (52, 7, [some (ym_P 8), some (ym_I a1), some (ym_I a2), some (ym_I (a3 + -1)), some (ym_I (a4 + 1)), some (ym_I (o a4))], []) (zc s p g c i e w u q m (zu (zu o a4 (o a3)) a3 (o a4))) := by
        refine cc_52l H p g c i e w u q m a1 a2 n2 (a3 + -1) (a4 + 1) _ (some _) (by omega) (by omega) (by omega) (by omega) (by omega) ?_
        rw [show a3 + -1 + 1 = a3 by omega, zrv_step o a4 a3 h]
        exact kr
      cases x
      · refine sg_52_7 (zy H) _ _ _ _ ⟨⟨by omega, by omega⟩, ⟨by omega, by omega⟩, fun _ => ⟨⟨by omega, by omega⟩, ⟨by omega, by omega⟩, ⟨by omega, by omega⟩, ⟨by omega, by omega⟩, ?_⟩, fun z => by exfalso; omega⟩
        simp only [zc_7_2, zc_7_3, zc_7_4, zc_7_5, zc_7_6, zc_7_8, zc_7_9, zc_8_1, zc_7_7, zc_9, zc_1, zc_2, zc_3, zc_4, zc_5, zc_6, zc_10, zc_11, zc_r, zc_w7_2, zc_w7_3, zc_w7_4, zc_w7_5, zc_w7_6, zc_w7_8, zc_w7_9, zc_w8_1, zc_w7_7, zc_w9, zc_p9]
        exact kr2
      · refine sg_52_7b (zy H) _ _ _ _ _ ⟨⟨by omega, by omega⟩, ⟨by omega, by omega⟩, fun _ => ⟨⟨by omega, by omega⟩, ⟨by omega, by omega⟩, ⟨by omega, by omega⟩, ⟨by omega, by omega⟩, ?_⟩, fun z => by exfalso; omega⟩
        simp only [zc_7_2, zc_7_3, zc_7_4, zc_7_5, zc_7_6, zc_7_8, zc_7_9, zc_8_1, zc_7_7, zc_9, zc_1, zc_2, zc_3, zc_4, zc_5, zc_6, zc_10, zc_11, zc_r, zc_w7_2, zc_w7_3, zc_w7_4, zc_w7_5, zc_w7_6, zc_w7_8, zc_w7_9, zc_w8_1, zc_w7_7, zc_w9, zc_p9]
        exact kr2
    · rw [zrv_none o a4 (a3 + 1) (by omega)] at kr
      cases x
      · exact sg_52_7 (zy H) _ _ _ _ ⟨⟨by omega, by omega⟩, ⟨by omega, by omega⟩, fun z => by exfalso; omega, fun _ => kr⟩
      · exact sg_52_7b (zy H) _ _ _ _ _ ⟨⟨by omega, by omega⟩, ⟨by omega, by omega⟩, fun z => by exfalso; omega, fun _ => kr⟩
theorem cc_52 (H : zh sc K 0) {a b : Int} (ha : 0 ≤ a) (hb : 0 ≤ b) (hb2 : b ≤ 200) (ha2 : a ≤ 200) (kr : ym_Rt sc P K none (zc s p g c i e w u q m (zrv o a b))) : ym_Go sc P K (52, 0, [some (ym_P 8), some (ym_I a), some (ym_I b), none, none, none], []) (zc s p g c i e w u q m o) := by
  refine sg_52_0 (zy H) _ _ (cc_52l H _ _ _ _ _ _ _ _ _ a b (b - 1 - a).toNat (b - 1) a o none (by omega) ha ha2 (by omega) (by omega) ?_)
  rw [show b - 1 + 1 = b by omega]
  exact kr
theorem cc_51 (H : zh sc K 1) {a b : Int} {A B : List Int} (ha : 0 ≤ a) (hb : b = a + A.length) (hq : q = b + B.length) (hq2 : q ≤ 200) (hA : zr o a A) (hB : zr o b B) (kr : ∀ o2 : Int → Int, (∀ j, j < a → o2 j = o j) → zr o2 a (B ++ A) → ym_Rt sc P K none (zc s p g c i e w u q m o2)) : ym_Go sc P K (51, 0, [some (ym_P 8), some (ym_I a), some (ym_I b)], []) (zc s p g c i e w u q m o) := by
  refine sg_51_0 (zy H) _ _ (cc_52 (zk H) ha (by omega) (by omega) (by omega) (ym_rt_cons (sg_51_6 (zy H) _ _ ?_)))
  simp only [zc_7_2, zc_7_3, zc_7_4, zc_7_5, zc_7_6, zc_7_8, zc_7_9, zc_8_1, zc_7_7, zc_9, zc_1, zc_2, zc_3, zc_4, zc_5, zc_6, zc_10, zc_11, zc_r, zc_w7_2, zc_w7_3, zc_w7_4, zc_w7_5, zc_w7_6, zc_w7_8, zc_w7_9, zc_w8_1, zc_w7_7, zc_w9, zc_p9]
  refine cc_52 (zk H) (by omega) (by omega) hq2 (by omega) (ym_rt_cons (sg_51_15 (zy H) _ _ ?_))
  simp only [zc_7_2, zc_7_3, zc_7_4, zc_7_5, zc_7_6, zc_7_8, zc_7_9, zc_8_1, zc_7_7, zc_9, zc_1, zc_2, zc_3, zc_4, zc_5, zc_6, zc_10, zc_11, zc_r, zc_w7_2, zc_w7_3, zc_w7_4, zc_w7_5, zc_w7_6, zc_w7_8, zc_w7_9, zc_w8_1, zc_w7_7, zc_w9, zc_p9]
  refine cc_52 (zk H) ha (by omega) hq2 (by omega) (ym_rt_cons (sg_51_24 (zy H) _ _ (kr _ (fun j hj => ?_) (zr_app ?_ ?_))))
  · unfold zrv
    rw [if_neg (by omega), if_neg (by omega), if_neg (by omega)]
  · refine zr_shift B o _ b a hB (fun j h1 h2 => ?_)
    unfold zrv
    rw [if_pos (by omega), if_pos (by omega), if_neg (by omega)]
    congr 1
    omega
  · refine zr_shift A o _ a _ hA (fun j h1 h2 => ?_)
    unfold zrv
    rw [if_pos (by omega), if_neg (by omega), if_pos (by omega)]
    congr 1
    omega
end
