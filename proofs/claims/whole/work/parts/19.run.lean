/-! Runs of the small machine with the frames that wait: own work. -/
section
variable {sc : xm_S}
theorem xm_ev_up : ∀ (n d : Nat) (f : xm_F) (h : xm_H) (r : xm_O × xm_H), xm_ev sc n d f h = some r → xm_ev sc (n + 1) d f h = some r
  | 0, _, _, _, _, hev => by cases hev
  | n + 1, d, f, h, r, hev => by
    cases hs : xm_step sc f h with
    | none => rw [xm_ev_no hs] at hev; cases hev
    | some z =>
      rcases z with q | q | q | q
      · rw [xm_ev_on hs] at hev
        rw [xm_ev_on hs]
        exact xm_ev_up n _ _ _ _ hev
      · rw [xm_ev_rt hs] at hev
        rw [xm_ev_rt hs]
        exact hev
      · rw [xm_ev_th hs] at hev
        rw [xm_ev_th hs]
        exact hev
      · cases d with
        | zero => rw [xm_ev_c0 hs] at hev; cases hev
        | succ d =>
          cases hi : xm_ev sc n d (q.1, 0, xm_ent (xm_n q.1) q.2.1, []) h with
          | none => rw [xm_ev_cn hs hi] at hev; cases hev
          | some z =>
            have hi2 := xm_ev_up n _ _ _ _ hi
            rw [xm_ev_cl hs hi] at hev
            rw [xm_ev_cl hs hi2]
            obtain ⟨o, h2⟩ := z
            cases o with
            | inl v => exact xm_ev_up n _ _ _ _ hev
            | inr x =>
              unfold xm_cont at hev
              unfold xm_cont
              dsimp only at hev ⊢
              split at hev
              · rename_i hv
                rw [if_pos hv]
                split at hev
                · exact hev
                · rename_i hh
                  split at hev
                  · rename_i pc2 i hc
                    exact xm_ev_up n _ _ _ _ hev
                  · cases hev
              · cases hev
theorem xm_ev_le {n n2 d : Nat} {f : xm_F} {h : xm_H} {r : xm_O × xm_H} (hn : n ≤ n2) (hev : xm_ev sc n d f h = some r) : xm_ev sc n2 d f h = some r := by
  induction hn with
  | refl => exact hev
  | step _ ih => exact xm_ev_up _ _ _ _ _ ih
/-- what waits goes on: K's frames stand at their calls, without the arguments -/
def xm_U (sc : xm_S) (P : xm_O → xm_H → Prop) : List xm_F → xm_O → xm_H → Prop
  | [], o, h => P o h
  | g :: K, .inl v, h => ∃ (n : Nat) (o2 : xm_O) (h2 : xm_H), xm_ev sc n (1000 - K.length) (g.1, g.2.1 + 3, g.2.2.1, v.toList ++ g.2.2.2) h = some (o2, h2) ∧ xm_U sc P K o2 h2
  | g :: K, .inr x, h => xm_vt g.1 g.2.1 = true ∧ ((xm_hh g.1 = [] ∧ xm_U sc P K (.inr x) h) ∨ (xm_hh g.1 ≠ [] ∧ ∃ (pc2 i n : Nat) (o2 : xm_O) (h2 : xm_H), xm_cat g.1 g.2.1 x = some (pc2, i) ∧ xm_ev sc n (1000 - K.length) (g.1, pc2 + 1, (xm_clr g.2.2.1 i).set i none, []) h = some (o2, h2) ∧ xm_U sc P K o2 h2))
/-- the run of f, over the frames K that wait for it, ends as P says -/
def xm_Go (sc : xm_S) (P : xm_O → xm_H → Prop) (K : List xm_F) (f : xm_F) (h : xm_H) : Prop := ∃ (n : Nat) (o : xm_O) (h2 : xm_H), xm_ev sc n (1000 - K.length) f h = some (o, h2) ∧ xm_U sc P K o h2
variable {P : xm_O → xm_H → Prop} {K : List xm_F} {f f2 : xm_F} {h h2 : xm_H}
theorem xm_go_on (hs : xm_step sc f h = some (.inl (f2, h2))) (kk : xm_Go sc P K f2 h2) : xm_Go sc P K f h := by
  obtain ⟨n, o, h3, a, b⟩ := kk
  exact ⟨n + 1, o, h3, by rw [xm_ev_on hs]; exact a, b⟩
theorem xm_go_rt {v : Option Value} (hs : xm_step sc f h = some (.inr (.inl (v, h2)))) (kk : xm_U sc P K (.inl v) h2) : xm_Go sc P K f h := ⟨1, _, _, xm_ev_rt hs, kk⟩
theorem xm_go_th {x : Nat} (hs : xm_step sc f h = some (.inr (.inr (.inl (x, h2))))) (kk : xm_U sc P K (.inr x) h2) : xm_Go sc P K f h := ⟨1, _, _, xm_ev_th hs, kk⟩
theorem xm_go_cl {k2 : Nat} {as rest : List Value} (hK : K.length < 1000) (hs : xm_step sc f h = some (.inr (.inr (.inr (k2, as, rest))))) (kk : xm_Go sc P ((f.1, f.2.1, f.2.2.1, rest) :: K) (k2, 0, xm_ent (xm_n k2) as, []) h) : xm_Go sc P K f h := by
  obtain ⟨n, o, h3, a, b⟩ := kk
  obtain ⟨d, hd⟩ : ∃ d, 1000 - K.length = d + 1 := ⟨1000 - K.length - 1, by omega⟩
  have hd2 : 1000 - ((f.1, f.2.1, f.2.2.1, rest) :: K : List xm_F).length = d := by rw [List.length_cons]; omega
  rw [hd2] at a
  unfold xm_Go
  rw [hd]
  cases o with
  | inl v =>
    unfold xm_U at b
    obtain ⟨n2, o2, h4, c1, c2⟩ := b
    rw [hd] at c1
    refine ⟨max n n2 + 1, o2, h4, ?_, c2⟩
    rw [xm_ev_cl hs (xm_ev_le (Nat.le_max_left _ _) a)]
    exact xm_ev_le (Nat.le_max_right _ _) c1
  | inr x =>
    unfold xm_U at b
    obtain ⟨hv, b⟩ := b
    have hv : xm_vt f.1 f.2.1 = true := hv
    rcases b with ⟨hh, b⟩ | ⟨hh, pc2, i, n2, o2, h4, hc, c1, c2⟩
    · have hh : xm_hh f.1 = [] := hh
      refine ⟨n + 1, _, _, ?_, b⟩
      rw [xm_ev_cl hs a]
      unfold xm_cont
      dsimp only
      rw [if_pos hv, hh]
    · have hh : xm_hh f.1 ≠ [] := hh
      have hc : xm_cat f.1 f.2.1 x = some (pc2, i) := hc
      rw [hd] at c1
      refine ⟨max n n2 + 1, o2, h4, ?_, c2⟩
      rw [xm_ev_cl hs (xm_ev_le (Nat.le_max_left _ _) a)]
      unfold xm_cont
      dsimp only
      rw [if_pos hv]
      split
      · rename_i h6
        exact absurd h6 hh
      · rw [hc]
        exact xm_ev_le (Nat.le_max_right _ _) c1
/-- some steps at once -/
def xm_run (sc : xm_S) : Nat → xm_F → xm_H → Option (xm_F × xm_H)
  | 0, f, h => some (f, h)
  | n + 1, f, h => match xm_step sc f h with
    | some (.inl q) => xm_run sc n q.1 q.2
    | _ => none
theorem xm_go_run : ∀ (n : Nat) {f : xm_F} {h : xm_H}, xm_run sc n f h = some (f2, h2) → xm_Go sc P K f2 h2 → xm_Go sc P K f h
  | 0, f, h, hr, kk => by cases hr; exact kk
  | n + 1, f, h, hr, kk => by
    unfold xm_run at hr
    cases hs : xm_step sc f h with
    | none => rw [hs] at hr; cases hr
    | some z =>
      rw [hs] at hr
      rcases z with q | q | q | q
      · exact xm_go_on hs (xm_go_run n hr kk)
      · cases hr
      · cases hr
      · cases hr
end
