/-! The class' state while it transcodes, by its fields; written by wip/whole/gen_view.py. -/
theorem zb_ne {k n : Nat} (h : k ≠ n) : Nat.beq k n = false := by
  cases hb : Nat.beq k n with
  | false => rfl
  | true => exact absurd (Nat.eq_of_beq_eq_true hb) h
def zc (s : ym_S) (p g c i e w u q : Int) (m : Int64) (o : Int → Int) : ym_S := ((fun k j => bif Nat.beq k 7 then (if j = 2 then p else if j = 3 then g else if j = 4 then c else if j = 5 then i else if j = 6 then e else if j = 8 then w else if j = 9 then u else s.1 k j) else bif Nat.beq k 8 then (if j = 1 then q else s.1 k j) else bif Nat.beq k 9 then o j else s.1 k j), (fun k j => bif Nat.beq k 7 then (if j = 7 then m else s.2.1 k j) else s.2.1 k j), s.2.2)
def zu (o : Int → Int) (j v : Int) : Int → Int := fun x => if x = j then v else o x
def zp (o : Int → Int) (a d n : Int) : Int → Int := fun j => if d ≤ j ∧ j < d + n then o (a + (j - d)) else o j
section
variable {s : ym_S} {p g c i e w u q : Int} {m : Int64} {o : Int → Int}
theorem zc_7_2 : (zc s p g c i e w u q m o).1 7 2 = p := id rfl
theorem zc_7_3 : (zc s p g c i e w u q m o).1 7 3 = g := id rfl
theorem zc_7_4 : (zc s p g c i e w u q m o).1 7 4 = c := id rfl
theorem zc_7_5 : (zc s p g c i e w u q m o).1 7 5 = i := id rfl
theorem zc_7_6 : (zc s p g c i e w u q m o).1 7 6 = e := id rfl
theorem zc_7_8 : (zc s p g c i e w u q m o).1 7 8 = w := id rfl
theorem zc_7_9 : (zc s p g c i e w u q m o).1 7 9 = u := id rfl
theorem zc_8_1 : (zc s p g c i e w u q m o).1 8 1 = q := id rfl
theorem zc_7_7 : (zc s p g c i e w u q m o).2.1 7 7 = m := id rfl
theorem zc_9 {j : Int} : (zc s p g c i e w u q m o).1 9 j = o j := id rfl
theorem zc_1 {j : Int} : (zc s p g c i e w u q m o).1 1 j = s.1 1 j := id rfl
theorem zc_2 {j : Int} : (zc s p g c i e w u q m o).1 2 j = s.1 2 j := id rfl
theorem zc_3 {j : Int} : (zc s p g c i e w u q m o).1 3 j = s.1 3 j := id rfl
theorem zc_4 {j : Int} : (zc s p g c i e w u q m o).1 4 j = s.1 4 j := id rfl
theorem zc_5 {j : Int} : (zc s p g c i e w u q m o).1 5 j = s.1 5 j := id rfl
theorem zc_6 {j : Int} : (zc s p g c i e w u q m o).1 6 j = s.1 6 j := id rfl
theorem zc_10 {j : Int} : (zc s p g c i e w u q m o).1 10 j = s.1 10 j := id rfl
theorem zc_11 {j : Int} : (zc s p g c i e w u q m o).1 11 j = s.1 11 j := id rfl
theorem zc_r : (zc s p g c i e w u q m o).2.2 = s.2.2 := id rfl
theorem zc_hi {k : Nat} {j : Int} (h : 9 < k) : (zc s p g c i e w u q m o).1 k j = s.1 k j := by
  show (bif Nat.beq k 7 then _ else bif Nat.beq k 8 then _ else bif Nat.beq k 9 then _ else _) = _
  rw [zb_ne (by omega), zb_ne (by omega), zb_ne (by omega)]
  rfl
theorem zc_hj {k : Nat} {j : Int} (h : 9 < k) : (zc s p g c i e w u q m o).2.1 k j = s.2.1 k j := by
  show (bif Nat.beq k 7 then _ else _) = _
  rw [zb_ne (by omega)]
  rfl
theorem zc_w7_2 {v : Int} : ym_wI (zc s p g c i e w u q m o) 7 2 v = zc s v g c i e w u q m o := by
  refine Prod.ext (funext fun k => funext fun j => ?_) rfl
  show (bif Nat.beq k 7 then (if j = 2 then v else (zc s p g c i e w u q m o).1 k j) else (zc s p g c i e w u q m o).1 k j) = _
  unfold zc
  rcases Nat.decEq k 7 with h | h
  · rw [zb_ne h]
    dsimp only [cond]
    rw [zb_ne h]
  · subst h
    dsimp only [cond, Nat.beq]
    repeat' split
    all_goals first | rfl | omega
theorem zc_w7_3 {v : Int} : ym_wI (zc s p g c i e w u q m o) 7 3 v = zc s p v c i e w u q m o := by
  refine Prod.ext (funext fun k => funext fun j => ?_) rfl
  show (bif Nat.beq k 7 then (if j = 3 then v else (zc s p g c i e w u q m o).1 k j) else (zc s p g c i e w u q m o).1 k j) = _
  unfold zc
  rcases Nat.decEq k 7 with h | h
  · rw [zb_ne h]
    dsimp only [cond]
    rw [zb_ne h]
  · subst h
    dsimp only [cond, Nat.beq]
    repeat' split
    all_goals first | rfl | omega
theorem zc_w7_4 {v : Int} : ym_wI (zc s p g c i e w u q m o) 7 4 v = zc s p g v i e w u q m o := by
  refine Prod.ext (funext fun k => funext fun j => ?_) rfl
  show (bif Nat.beq k 7 then (if j = 4 then v else (zc s p g c i e w u q m o).1 k j) else (zc s p g c i e w u q m o).1 k j) = _
  unfold zc
  rcases Nat.decEq k 7 with h | h
  · rw [zb_ne h]
    dsimp only [cond]
    rw [zb_ne h]
  · subst h
    dsimp only [cond, Nat.beq]
    repeat' split
    all_goals first | rfl | omega
theorem zc_w7_5 {v : Int} : ym_wI (zc s p g c i e w u q m o) 7 5 v = zc s p g c v e w u q m o := by
  refine Prod.ext (funext fun k => funext fun j => ?_) rfl
  show (bif Nat.beq k 7 then (if j = 5 then v else (zc s p g c i e w u q m o).1 k j) else (zc s p g c i e w u q m o).1 k j) = _
  unfold zc
  rcases Nat.decEq k 7 with h | h
  · rw [zb_ne h]
    dsimp only [cond]
    rw [zb_ne h]
  · subst h
    dsimp only [cond, Nat.beq]
    repeat' split
    all_goals first | rfl | omega
theorem zc_w7_6 {v : Int} : ym_wI (zc s p g c i e w u q m o) 7 6 v = zc s p g c i v w u q m o := by
  refine Prod.ext (funext fun k => funext fun j => ?_) rfl
  show (bif Nat.beq k 7 then (if j = 6 then v else (zc s p g c i e w u q m o).1 k j) else (zc s p g c i e w u q m o).1 k j) = _
  unfold zc
  rcases Nat.decEq k 7 with h | h
  · rw [zb_ne h]
    dsimp only [cond]
    rw [zb_ne h]
  · subst h
    dsimp only [cond, Nat.beq]
    repeat' split
    all_goals first | rfl | omega
theorem zc_w7_8 {v : Int} : ym_wI (zc s p g c i e w u q m o) 7 8 v = zc s p g c i e v u q m o := by
  refine Prod.ext (funext fun k => funext fun j => ?_) rfl
  show (bif Nat.beq k 7 then (if j = 8 then v else (zc s p g c i e w u q m o).1 k j) else (zc s p g c i e w u q m o).1 k j) = _
  unfold zc
  rcases Nat.decEq k 7 with h | h
  · rw [zb_ne h]
    dsimp only [cond]
    rw [zb_ne h]
  · subst h
    dsimp only [cond, Nat.beq]
    repeat' split
    all_goals first | rfl | omega
theorem zc_w7_9 {v : Int} : ym_wI (zc s p g c i e w u q m o) 7 9 v = zc s p g c i e w v q m o := by
  refine Prod.ext (funext fun k => funext fun j => ?_) rfl
  show (bif Nat.beq k 7 then (if j = 9 then v else (zc s p g c i e w u q m o).1 k j) else (zc s p g c i e w u q m o).1 k j) = _
  unfold zc
  rcases Nat.decEq k 7 with h | h
  · rw [zb_ne h]
    dsimp only [cond]
    rw [zb_ne h]
  · subst h
    dsimp only [cond, Nat.beq]
    repeat' split
    all_goals first | rfl | omega
theorem zc_w8_1 {v : Int} : ym_wI (zc s p g c i e w u q m o) 8 1 v = zc s p g c i e w u v m o := by
  refine Prod.ext (funext fun k => funext fun j => ?_) rfl
  show (bif Nat.beq k 8 then (if j = 1 then v else (zc s p g c i e w u q m o).1 k j) else (zc s p g c i e w u q m o).1 k j) = _
  unfold zc
  rcases Nat.decEq k 8 with h | h
  · rw [zb_ne h]
    dsimp only [cond]
    rw [zb_ne h]
  · subst h
    dsimp only [cond, Nat.beq]
    repeat' split
    all_goals first | rfl | omega
theorem zc_w7_7 {v : Int64} : ym_wJ (zc s p g c i e w u q m o) 7 7 v = zc s p g c i e w u q v o := by
  refine Prod.ext rfl (Prod.ext (funext fun k => funext fun j => ?_) rfl)
  show (bif Nat.beq k 7 then (if j = 7 then v else (zc s p g c i e w u q m o).2.1 k j) else (zc s p g c i e w u q m o).2.1 k j) = (bif Nat.beq k 7 then (if j = 7 then v else s.2.1 k j) else s.2.1 k j)
  unfold zc
  dsimp only
  rcases Nat.decEq k 7 with h | h
  · rw [zb_ne h]
    rfl
  · subst h
    dsimp only [cond, Nat.beq]
    repeat' split
    all_goals rfl
theorem zc_w9 {x v : Int} : ym_wI (zc s p g c i e w u q m o) 9 x v = zc s p g c i e w u q m (zu o x v) := by
  refine Prod.ext (funext fun k => funext fun j => ?_) rfl
  show (bif Nat.beq k 9 then (if j = x then v else (zc s p g c i e w u q m o).1 k j) else (zc s p g c i e w u q m o).1 k j) = _
  unfold zc zu
  rcases Nat.decEq k 9 with h | h
  · rw [zb_ne h]
    dsimp only [cond]
    rw [zb_ne h]
  · subst h
    rfl
theorem zc_p9 {a d n : Int} : ym_cpy (zc s p g c i e w u q m o) 9 9 a d n = zc s p g c i e w u q m (zp o a d n) := by
  refine Prod.ext (funext fun k => funext fun j => ?_) rfl
  show (bif Nat.beq k 9 then (if d ≤ j ∧ j < d + n then (zc s p g c i e w u q m o).1 9 (a + (j - d)) else (zc s p g c i e w u q m o).1 k j) else (zc s p g c i e w u q m o).1 k j) = _
  unfold zc zp
  rcases Nat.decEq k 9 with h | h
  · rw [zb_ne h]
    dsimp only [cond]
    rw [zb_ne h]
  · subst h
    rfl
end
