/-! The main theorem of the small machine: own work. -/
/-- how a frame goes on behind a call -/
def xm_cont (sc : xm_S) (n d : Nat) (f : xm_F) (rest : List Value) (z : xm_O × xm_H) : Option (xm_O × xm_H) := match z.1 with
  | .inl v => xm_ev sc n (d + 1) (f.1, f.2.1 + 3, f.2.2.1, v.toList ++ rest) z.2
  | .inr x => if xm_vt f.1 f.2.1 = true then (match xm_hh f.1 with
    | [] => some (.inr x, z.2)
    | _ => match xm_cat f.1 f.2.1 x with
      | some (pc2, i) => xm_ev sc n (d + 1) (f.1, pc2 + 1, (xm_clr f.2.2.1 i).set i none, []) z.2
      | none => none) else none
section
variable {sc : xm_S} {n d : Nat} {f : xm_F} {h : xm_H}
theorem xm_ev_on {q : xm_F × xm_H} (hs : xm_step sc f h = some (.inl q)) : xm_ev sc (n + 1) d f h = xm_ev sc n d q.1 q.2 := by
  conv => lhs; unfold xm_ev
  rw [hs]
theorem xm_ev_rt {q : Option Value × xm_H} (hs : xm_step sc f h = some (.inr (.inl q))) : xm_ev sc (n + 1) d f h = some (.inl q.1, q.2) := by
  conv => lhs; unfold xm_ev
  rw [hs]
theorem xm_ev_th {q : Nat × xm_H} (hs : xm_step sc f h = some (.inr (.inr (.inl q)))) : xm_ev sc (n + 1) d f h = some (.inr q.1, q.2) := by
  conv => lhs; unfold xm_ev
  rw [hs]
theorem xm_ev_no (hs : xm_step sc f h = none) : xm_ev sc (n + 1) d f h = none := by
  conv => lhs; unfold xm_ev
  rw [hs]
theorem xm_ev_c0 {q : Nat × List Value × List Value} (hs : xm_step sc f h = some (.inr (.inr (.inr q)))) : xm_ev sc (n + 1) 0 f h = none := by
  conv => lhs; unfold xm_ev
  rw [hs]
theorem xm_ev_cn {q : Nat × List Value × List Value} (hs : xm_step sc f h = some (.inr (.inr (.inr q)))) (hi : xm_ev sc n d (q.1, 0, xm_ent (xm_n q.1) q.2.1, []) h = none) : xm_ev sc (n + 1) (d + 1) f h = none := by
  conv => lhs; unfold xm_ev
  rw [hs]
  simp only [hi]
theorem xm_ev_cl {q : Nat × List Value × List Value} {z : xm_O × xm_H} (hs : xm_step sc f h = some (.inr (.inr (.inr q)))) (hi : xm_ev sc n d (q.1, 0, xm_ent (xm_n q.1) q.2.1, []) h = some z) : xm_ev sc (n + 1) (d + 1) f h = xm_cont sc n d f q.2.2 z := by
  conv => lhs; unfold xm_ev
  rw [hs]
  simp only [hi]
  obtain ⟨o, h2⟩ := z
  cases o with
  | inl v => rfl
  | inr x =>
    unfold xm_cont
    rfl
end
section
variable {B sb Lx : Nat} {xs : Nat → Int32} {D : va_G} {cs : Nat → ClassId} {l : Launch}
theorem xm_vt_no {k pc n : Nat} {i : ClassFile.Instr} (hi : xm_ins k pc = some (i, n)) (h : xm_vt k pc = true) : ∃ a, i = .invokevirtual a := by
  unfold xm_vt at h
  rw [hi] at h
  split at h
  · rename_i e
    cases e
    exact ⟨_, rfl⟩
  · cases h
set_option maxHeartbeats 4000000 in
theorem xm_snd (hl : l.stackTraces = false) : ∀ n, xm_SND B sb Lx xs D cs l n
  | 0 => fun d f h o h2 hev => by cases hev
  | n + 1 => by
    have ih := xm_snd hl n
    intro d f h o h2 hev p e R s m args below meth c s0 mc ms G hf hlo hc hz hmc hms
    obtain ⟨k, pc, L, st⟩ := f
    have hfr : 6 ≤ R.frames := by unfold xm_fr at hf; omega
    have hlc : 120 ≤ R.locals := by unfold xm_lo at hlo; omega
    obtain ⟨⟨i, n9⟩, hi⟩ := xm_ev_ins hev
    have hi : xm_ins k pc = some (i, n9) := hi
    have hd := xm_t_ins hi
    have hstep : xm_step (Lx, xs) (k, pc, L, st) h = match xm_do (Lx, xs) i n9 k pc L st h with
        | some q => some (.inl q)
        | none => xm_end i n9 k pc st h := by
      unfold xm_step
      show (match xm_ins k pc with
        | none => none
        | some (i, n) => match xm_do (Lx, xs) i n k pc L st h with
          | some q => some (Sum.inl q)
          | none => xm_end i n k pc st h) = _
      rw [hi]
    cases hdo : xm_do (Lx, xs) i n9 k pc L st h with
    | some q =>
      obtain ⟨f2, hh2⟩ := q
      rw [hdo] at hstep
      rw [xm_ev_on hstep] at hev
      have hev : xm_ev (Lx, xs) n d f2 hh2 = some (o, h2) := hev
      have hk := xm_do_k hdo
      have hmono := xm_ev_mono _ _ _ _ _ _ _ hev
      exact xm_on G hd hdo ⟨by omega, by omega⟩ ⟨by omega, by omega⟩ (ih d f2 hh2 o h2 hev p e R s m args below meth c s0 mc ms (by rw [hk.1]; exact G) hf hlo hc hz hmc hms)
    | none =>
      rw [hdo] at hstep
      have hstep : xm_step (Lx, xs) (k, pc, L, st) h = xm_end i n9 k pc st h := hstep
      cases hend : xm_end i n9 k pc st h with
      | none => rw [xm_ev_no (hstep.trans hend)] at hev; cases hev
      | some z =>
        rcases z with q | q | q | q
        · exfalso
          unfold xm_end at hend
          simp only [xm_thr] at hend
          repeat' (split at hend)
          all_goals cases hend
        · obtain ⟨v, h9⟩ := q
          rw [xm_ev_rt (hstep.trans hend)] at hev
          cases hev
          exact xm_ret G hd hend ⟨hc, hz⟩
        · obtain ⟨x, h9⟩ := q
          rw [xm_ev_th (hstep.trans hend)] at hev
          cases hev
          unfold xm_end at hend
          split at hend
          · exfalso
            repeat' (split at hend)
            all_goals cases hend
          · exfalso
            repeat' (split at hend)
            all_goals cases hend
          · exfalso
            repeat' (split at hend)
            all_goals cases hend
          · split at hend
            · rename_i hw
              unfold xm_thr at hend
              split at hend
              · rename_i hc5
                split at hend
                · rename_i hq
                  obtain ⟨g1, g2, g3, g4⟩ := hq
                  cases hend
                  refine xm_throw G hc5 hd (xm_t_ins g1) (xm_t_ins g2) (xm_t_ins g3) g4 hw ⟨by omega, by omega⟩ ⟨?_, hz⟩ ⟨hmc, hms⟩
                  rw [List.length_append] at hc
                  exact hc
                · cases hend
              · cases hend
            · cases hend
          · exfalso
            repeat' (split at hend)
            all_goals cases hend
          · exfalso
            repeat' (split at hend)
            all_goals cases hend
          · exfalso
            repeat' (split at hend)
            all_goals cases hend
          · cases hend
        · obtain ⟨k2, as, rest⟩ := q
          cases d with
          | zero => rw [xm_ev_c0 (hstep.trans hend)] at hev; cases hev
          | succ d' =>
            cases hin : xm_ev (Lx, xs) n d' (k2, 0, xm_ent (xm_n k2) as, []) h with
            | none => rw [xm_ev_cn (hstep.trans hend) hin] at hev; cases hev
            | some z =>
              rw [xm_ev_cl (hstep.trans hend) hin] at hev
              obtain ⟨o3, h3⟩ := z
              have hm1 := xm_ev_mono _ _ _ _ _ _ _ hin
              obtain ⟨mc1, hmc1⟩ : ∃ z, h.1.length + z = h3.1.length := ⟨h3.1.length - h.1.length, by omega⟩
              obtain ⟨ms1, hms1⟩ : ∃ z, h.2 + z = h3.2 := ⟨h3.2 - h.2, by omega⟩
              -- how it goes on behind a return, and over a throw
              have kv : ∀ v, o3 = .inl v → (B + h3.1.length ≤ s.heap.size + R.cells ∧ h3.2 ≤ s0 + R.slots) ∧ xm_J B sb D cs p l e R s m args below meth c (xm_QQ B sb D cs o h2 below s mc ms) s0 (k, pc + 3, L, v.toList ++ rest) h3 := by
                intro v hv
                subst hv
                have hev : xm_ev (Lx, xs) n (d' + 1) (k, pc + 3, L, v.toList ++ rest) h3 = some (o, h2) := hev
                have hm2 := xm_ev_mono _ _ _ _ _ _ _ hev
                exact ⟨⟨by omega, by omega⟩, ih (d' + 1) (k, pc + 3, L, v.toList ++ rest) h3 o h2 hev p e R s m args below meth c s0 mc ms G hf hlo hc hz hmc hms⟩
              have kx : ∀ x, o3 = .inr x → (B + h3.1.length ≤ s.heap.size + R.cells ∧ h3.2 ≤ s0 + R.slots) ∧ xm_vt k pc = true ∧ xm_JX B sb D cs p l e R s m args below meth c (xm_QQ B sb D cs o h2 below s mc ms) s0 (k, pc, L, rest) h3 x := by
                intro x hx
                subst hx
                unfold xm_cont at hev
                dsimp only at hev
                split at hev
                · rename_i hvt
                  split at hev
                  · rename_i hh
                    cases hev
                    exact ⟨⟨by omega, by omega⟩, hvt, xm_out G hh ⟨hc, hz⟩⟩
                  · split at hev
                    · rename_i pc2 i2 hcat
                      have hm2 := xm_ev_mono _ _ _ _ _ _ _ hev
                      exact ⟨⟨by omega, by omega⟩, hvt, xm_catch G hcat (ih (d' + 1) _ h3 o h2 hev p e R s m args below meth c s0 mc ms G hf hlo hc hz hmc hms)⟩
                    · cases hev
                · cases hev
              have hroom : B + h3.1.length ≤ s.heap.size + R.cells ∧ h3.2 ≤ s0 + R.slots := by
                cases o3 with
                | inl v => exact (kv v rfl).1
                | inr x => exact (kx x rfl).1
              unfold xm_end at hend
              split at hend
              · exfalso
                repeat' (split at hend)
                all_goals cases hend
              · exfalso
                repeat' (split at hend)
                all_goals cases hend
              · exfalso
                repeat' (split at hend)
                all_goals cases hend
              · exfalso
                simp only [xm_thr] at hend
                repeat' (split at hend)
                all_goals cases hend
              · -- a method of an object
                split at hend
                · rename_i hc1
                  split at hend
                  · rename_i hdr
                    split at hend
                    · rename_i hcell
                      split at hend
                      · rename_i hq
                        obtain ⟨⟨q1, q2⟩, q3, q4⟩ := hq
                        cases hend
                        subst q1
                        exact xm_callV G hd hc1 hdr hcell q2 q3 (xm_met ih hl hin q4 (xm_t_v hc1).2.2.2.1 hmc1 hms1) hmc1 hms1 hf hlo hroom (fun v hv => (kv v hv).2) (fun x hx => (kx x hx).2.2)
                      · cases hend
                    · cases hend
                  · cases hend
                · cases hend
              · -- a constructor
                have hov : ∃ v, o3 = .inl v := by
                  cases o3 with
                  | inl v => exact ⟨v, rfl⟩
                  | inr x =>
                    obtain ⟨a9, h9⟩ := xm_vt_no hi (kx x rfl).2.1
                    cases h9
                obtain ⟨v, rfl⟩ := hov
                split at hend
                · rename_i hc1
                  split at hend
                  · rename_i hdr
                    split at hend
                    · rename_i hq
                      obtain ⟨q2, q3, q4⟩ := hq
                      cases hend
                      exact xm_callI G hd (Or.inl hc1) hdr q2 q3 (xm_met ih hl hin q4 (xm_t_i hc1).2.2.2.2.2.2.2.1 hmc1 hms1) hmc1 hms1 hf hlo hroom (kv v rfl).2
                    · cases hend
                  · cases hend
                · rename_i hc1
                  split at hend
                  · rename_i hdr
                    split at hend
                    · rename_i hq
                      obtain ⟨q2, q3, q4⟩ := hq
                      cases hend
                      exact xm_callI G hd (Or.inr hc1) hdr q2 q3 (xm_met ih hl hin q4 (xm_t_in hc1).2.2.2.2.2.2.2.1 hmc1 hms1) hmc1 hms1 hf hlo hroom (kv v rfl).2
                    · cases hend
                  · cases hend
                · cases hend
              · -- a static method
                have hov : ∃ v, o3 = .inl v := by
                  cases o3 with
                  | inl v => exact ⟨v, rfl⟩
                  | inr x =>
                    obtain ⟨a9, h9⟩ := xm_vt_no hi (kx x rfl).2.1
                    cases h9
                obtain ⟨v, rfl⟩ := hov
                split at hend
                · rename_i hc1
                  split at hend
                  · rename_i hq
                    obtain ⟨q2, q3, q4⟩ := hq
                    cases hend
                    exact xm_callS G hd hc1 q2 q3 (xm_met ih hl hin q4 (xm_t_s hc1).2.2.1 hmc1 hms1) hmc1 hms1 hf hlo hroom (kv v rfl).2
                  · cases hend
                · rename_i hc1
                  split at hend
                  · rename_i hq
                    obtain ⟨q2, q3, q4⟩ := hq
                    cases hend
                    exact xm_callH G hd hc1 q2 q3 (xm_metH ih hl hin q4 hmc1 hms1) hmc1 hms1 hf hlo hroom (kv v rfl).2
                  · cases hend
                · cases hend
              · cases hend
end
