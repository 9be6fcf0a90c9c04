/-! The reference's state while it transcodes, by its fields; written by wip/whole/gen_rview.py. -/
def rv (s : ym_S) (p l g x c e z : Int) (b : Int → Int) (f : Int) (F : Nat → Int → Int) (q : Int) (A B C : Int → Int) (h : Int) (o W : Int → Int) (S : Nat → Int → Int) : ym_S := ((fun k j => bif Nat.beq k 12 then (if j = 20 then x else if j = 21 then p else if j = 22 then l else if j = 23 then g else if j = 24 then c else if j = 25 then e else if j = 26 then z else if j = 28 then f else if j = 38 then q else if j = 42 then h else s.1 k j) else bif Nat.beq k 28 then b j else bif Nat.beq k 37 then W j else bif Nat.beq k 38 then A j else bif Nat.beq k 39 then B j else bif Nat.beq k 40 then C j else bif Nat.beq k 41 then o j else bif (Nat.ble 29 k && Nat.ble k 36) then F k j else bif (Nat.ble 42 k && Nat.ble k 44) then S k j else s.1 k j), s.2)
section
variable {s : ym_S} {p l g x c e z : Int} {b : Int → Int} {f : Int} {F : Nat → Int → Int} {q : Int} {A B C : Int → Int} {h : Int} {o W : Int → Int} {S : Nat → Int → Int}
theorem rv_12_20 : (rv s p l g x c e z b f F q A B C h o W S).1 12 20 = x := id rfl
theorem rv_12_21 : (rv s p l g x c e z b f F q A B C h o W S).1 12 21 = p := id rfl
theorem rv_12_22 : (rv s p l g x c e z b f F q A B C h o W S).1 12 22 = l := id rfl
theorem rv_12_23 : (rv s p l g x c e z b f F q A B C h o W S).1 12 23 = g := id rfl
theorem rv_12_24 : (rv s p l g x c e z b f F q A B C h o W S).1 12 24 = c := id rfl
theorem rv_12_25 : (rv s p l g x c e z b f F q A B C h o W S).1 12 25 = e := id rfl
theorem rv_12_26 : (rv s p l g x c e z b f F q A B C h o W S).1 12 26 = z := id rfl
theorem rv_12_28 : (rv s p l g x c e z b f F q A B C h o W S).1 12 28 = f := id rfl
theorem rv_12_38 : (rv s p l g x c e z b f F q A B C h o W S).1 12 38 = q := id rfl
theorem rv_12_42 : (rv s p l g x c e z b f F q A B C h o W S).1 12 42 = h := id rfl
theorem rv_12_0 : (rv s p l g x c e z b f F q A B C h o W S).1 12 0 = s.1 12 0 := id rfl
theorem rv_12_1 : (rv s p l g x c e z b f F q A B C h o W S).1 12 1 = s.1 12 1 := id rfl
theorem rv_12_15 : (rv s p l g x c e z b f F q A B C h o W S).1 12 15 = s.1 12 15 := id rfl
theorem rv_12_16 : (rv s p l g x c e z b f F q A B C h o W S).1 12 16 = s.1 12 16 := id rfl
theorem rv_12_18 : (rv s p l g x c e z b f F q A B C h o W S).1 12 18 = s.1 12 18 := id rfl
theorem rv_28 {j : Int} : (rv s p l g x c e z b f F q A B C h o W S).1 28 j = b j := id rfl
theorem rv_37 {j : Int} : (rv s p l g x c e z b f F q A B C h o W S).1 37 j = W j := id rfl
theorem rv_38 {j : Int} : (rv s p l g x c e z b f F q A B C h o W S).1 38 j = A j := id rfl
theorem rv_39 {j : Int} : (rv s p l g x c e z b f F q A B C h o W S).1 39 j = B j := id rfl
theorem rv_40 {j : Int} : (rv s p l g x c e z b f F q A B C h o W S).1 40 j = C j := id rfl
theorem rv_41 {j : Int} : (rv s p l g x c e z b f F q A B C h o W S).1 41 j = o j := id rfl
theorem rv_29 {j : Int} : (rv s p l g x c e z b f F q A B C h o W S).1 29 j = F 29 j := id rfl
theorem rv_30 {j : Int} : (rv s p l g x c e z b f F q A B C h o W S).1 30 j = F 30 j := id rfl
theorem rv_31 {j : Int} : (rv s p l g x c e z b f F q A B C h o W S).1 31 j = F 31 j := id rfl
theorem rv_32 {j : Int} : (rv s p l g x c e z b f F q A B C h o W S).1 32 j = F 32 j := id rfl
theorem rv_33 {j : Int} : (rv s p l g x c e z b f F q A B C h o W S).1 33 j = F 33 j := id rfl
theorem rv_34 {j : Int} : (rv s p l g x c e z b f F q A B C h o W S).1 34 j = F 34 j := id rfl
theorem rv_35 {j : Int} : (rv s p l g x c e z b f F q A B C h o W S).1 35 j = F 35 j := id rfl
theorem rv_36 {j : Int} : (rv s p l g x c e z b f F q A B C h o W S).1 36 j = F 36 j := id rfl
theorem rv_42 {j : Int} : (rv s p l g x c e z b f F q A B C h o W S).1 42 j = S 42 j := id rfl
theorem rv_43 {j : Int} : (rv s p l g x c e z b f F q A B C h o W S).1 43 j = S 43 j := id rfl
theorem rv_44 {j : Int} : (rv s p l g x c e z b f F q A B C h o W S).1 44 j = S 44 j := id rfl
theorem rv_13 {j : Int} : (rv s p l g x c e z b f F q A B C h o W S).1 13 j = s.1 13 j := id rfl
theorem rv_14 {j : Int} : (rv s p l g x c e z b f F q A B C h o W S).1 14 j = s.1 14 j := id rfl
theorem rv_15 {j : Int} : (rv s p l g x c e z b f F q A B C h o W S).1 15 j = s.1 15 j := id rfl
theorem rv_16 {j : Int} : (rv s p l g x c e z b f F q A B C h o W S).1 16 j = s.1 16 j := id rfl
theorem rv_17 {j : Int} : (rv s p l g x c e z b f F q A B C h o W S).1 17 j = s.1 17 j := id rfl
theorem rv_18 {j : Int} : (rv s p l g x c e z b f F q A B C h o W S).1 18 j = s.1 18 j := id rfl
theorem rv_19 {j : Int} : (rv s p l g x c e z b f F q A B C h o W S).1 19 j = s.1 19 j := id rfl
theorem rv_20 {j : Int} : (rv s p l g x c e z b f F q A B C h o W S).1 20 j = s.1 20 j := id rfl
theorem rv_21 {j : Int} : (rv s p l g x c e z b f F q A B C h o W S).1 21 j = s.1 21 j := id rfl
theorem rv_22 {j : Int} : (rv s p l g x c e z b f F q A B C h o W S).1 22 j = s.1 22 j := id rfl
theorem rv_23 {j : Int} : (rv s p l g x c e z b f F q A B C h o W S).1 23 j = s.1 23 j := id rfl
theorem rv_24 {j : Int} : (rv s p l g x c e z b f F q A B C h o W S).1 24 j = s.1 24 j := id rfl
theorem rv_25 {j : Int} : (rv s p l g x c e z b f F q A B C h o W S).1 25 j = s.1 25 j := id rfl
theorem rv_26 {j : Int} : (rv s p l g x c e z b f F q A B C h o W S).1 26 j = s.1 26 j := id rfl
theorem rv_27 {j : Int} : (rv s p l g x c e z b f F q A B C h o W S).1 27 j = s.1 27 j := id rfl
theorem rv_r : (rv s p l g x c e z b f F q A B C h o W S).2 = s.2 := id rfl
theorem rv_w12_20 {v : Int} : ym_wI (rv s p l g x c e z b f F q A B C h o W S) 12 20 v = rv s p l g v c e z b f F q A B C h o W S := by
  refine Prod.ext (funext fun k => funext fun j => ?_) rfl
  show (bif Nat.beq k 12 then (if j = 20 then v else (rv s p l g x c e z b f F q A B C h o W S).1 k j) else (rv s p l g x c e z b f F q A B C h o W S).1 k j) = _
  rcases Nat.decEq k 12 with hk | hk
  · rw [zb_ne hk]
    unfold rv
    dsimp only [cond]
    rw [zb_ne hk]
  · subst hk
    unfold rv
    dsimp only [cond, Nat.beq]
    repeat' split
    all_goals first | rfl | omega
theorem rv_w12_21 {v : Int} : ym_wI (rv s p l g x c e z b f F q A B C h o W S) 12 21 v = rv s v l g x c e z b f F q A B C h o W S := by
  refine Prod.ext (funext fun k => funext fun j => ?_) rfl
  show (bif Nat.beq k 12 then (if j = 21 then v else (rv s p l g x c e z b f F q A B C h o W S).1 k j) else (rv s p l g x c e z b f F q A B C h o W S).1 k j) = _
  rcases Nat.decEq k 12 with hk | hk
  · rw [zb_ne hk]
    unfold rv
    dsimp only [cond]
    rw [zb_ne hk]
  · subst hk
    unfold rv
    dsimp only [cond, Nat.beq]
    repeat' split
    all_goals first | rfl | omega
theorem rv_w12_22 {v : Int} : ym_wI (rv s p l g x c e z b f F q A B C h o W S) 12 22 v = rv s p v g x c e z b f F q A B C h o W S := by
  refine Prod.ext (funext fun k => funext fun j => ?_) rfl
  show (bif Nat.beq k 12 then (if j = 22 then v else (rv s p l g x c e z b f F q A B C h o W S).1 k j) else (rv s p l g x c e z b f F q A B C h o W S).1 k j) = _
  rcases Nat.decEq k 12 with hk | hk
  · rw [zb_ne hk]
    unfold rv
    dsimp only [cond]
    rw [zb_ne hk]
  · subst hk
    unfold rv
    dsimp only [cond, Nat.beq]
    repeat' split
    all_goals first | rfl | omega
theorem rv_w12_23 {v : Int} : ym_wI (rv s p l g x c e z b f F q A B C h o W S) 12 23 v = rv s p l v x c e z b f F q A B C h o W S := by
  refine Prod.ext (funext fun k => funext fun j => ?_) rfl
  show (bif Nat.beq k 12 then (if j = 23 then v else (rv s p l g x c e z b f F q A B C h o W S).1 k j) else (rv s p l g x c e z b f F q A B C h o W S).1 k j) = _
  rcases Nat.decEq k 12 with hk | hk
  · rw [zb_ne hk]
    unfold rv
    dsimp only [cond]
    rw [zb_ne hk]
  · subst hk
    unfold rv
    dsimp only [cond, Nat.beq]
    repeat' split
    all_goals first | rfl | omega
theorem rv_w12_24 {v : Int} : ym_wI (rv s p l g x c e z b f F q A B C h o W S) 12 24 v = rv s p l g x v e z b f F q A B C h o W S := by
  refine Prod.ext (funext fun k => funext fun j => ?_) rfl
  show (bif Nat.beq k 12 then (if j = 24 then v else (rv s p l g x c e z b f F q A B C h o W S).1 k j) else (rv s p l g x c e z b f F q A B C h o W S).1 k j) = _
  rcases Nat.decEq k 12 with hk | hk
  · rw [zb_ne hk]
    unfold rv
    dsimp only [cond]
    rw [zb_ne hk]
  · subst hk
    unfold rv
    dsimp only [cond, Nat.beq]
    repeat' split
    all_goals first | rfl | omega
theorem rv_w12_25 {v : Int} : ym_wI (rv s p l g x c e z b f F q A B C h o W S) 12 25 v = rv s p l g x c v z b f F q A B C h o W S := by
  refine Prod.ext (funext fun k => funext fun j => ?_) rfl
  show (bif Nat.beq k 12 then (if j = 25 then v else (rv s p l g x c e z b f F q A B C h o W S).1 k j) else (rv s p l g x c e z b f F q A B C h o W S).1 k j) = _
  rcases Nat.decEq k 12 with hk | hk
  · rw [zb_ne hk]
    unfold rv
    dsimp only [cond]
    rw [zb_ne hk]
  · subst hk
    unfold rv
    dsimp only [cond, Nat.beq]
    repeat' split
    all_goals first | rfl | omega
theorem rv_w12_26 {v : Int} : ym_wI (rv s p l g x c e z b f F q A B C h o W S) 12 26 v = rv s p l g x c e v b f F q A B C h o W S := by
  refine Prod.ext (funext fun k => funext fun j => ?_) rfl
  show (bif Nat.beq k 12 then (if j = 26 then v else (rv s p l g x c e z b f F q A B C h o W S).1 k j) else (rv s p l g x c e z b f F q A B C h o W S).1 k j) = _
  rcases Nat.decEq k 12 with hk | hk
  · rw [zb_ne hk]
    unfold rv
    dsimp only [cond]
    rw [zb_ne hk]
  · subst hk
    unfold rv
    dsimp only [cond, Nat.beq]
    repeat' split
    all_goals first | rfl | omega
theorem rv_w12_28 {v : Int} : ym_wI (rv s p l g x c e z b f F q A B C h o W S) 12 28 v = rv s p l g x c e z b v F q A B C h o W S := by
  refine Prod.ext (funext fun k => funext fun j => ?_) rfl
  show (bif Nat.beq k 12 then (if j = 28 then v else (rv s p l g x c e z b f F q A B C h o W S).1 k j) else (rv s p l g x c e z b f F q A B C h o W S).1 k j) = _
  rcases Nat.decEq k 12 with hk | hk
  · rw [zb_ne hk]
    unfold rv
    dsimp only [cond]
    rw [zb_ne hk]
  · subst hk
    unfold rv
    dsimp only [cond, Nat.beq]
    repeat' split
    all_goals first | rfl | omega
theorem rv_w12_38 {v : Int} : ym_wI (rv s p l g x c e z b f F q A B C h o W S) 12 38 v = rv s p l g x c e z b f F v A B C h o W S := by
  refine Prod.ext (funext fun k => funext fun j => ?_) rfl
  show (bif Nat.beq k 12 then (if j = 38 then v else (rv s p l g x c e z b f F q A B C h o W S).1 k j) else (rv s p l g x c e z b f F q A B C h o W S).1 k j) = _
  rcases Nat.decEq k 12 with hk | hk
  · rw [zb_ne hk]
    unfold rv
    dsimp only [cond]
    rw [zb_ne hk]
  · subst hk
    unfold rv
    dsimp only [cond, Nat.beq]
    repeat' split
    all_goals first | rfl | omega
theorem rv_w12_42 {v : Int} : ym_wI (rv s p l g x c e z b f F q A B C h o W S) 12 42 v = rv s p l g x c e z b f F q A B C v o W S := by
  refine Prod.ext (funext fun k => funext fun j => ?_) rfl
  show (bif Nat.beq k 12 then (if j = 42 then v else (rv s p l g x c e z b f F q A B C h o W S).1 k j) else (rv s p l g x c e z b f F q A B C h o W S).1 k j) = _
  rcases Nat.decEq k 12 with hk | hk
  · rw [zb_ne hk]
    unfold rv
    dsimp only [cond]
    rw [zb_ne hk]
  · subst hk
    unfold rv
    dsimp only [cond, Nat.beq]
    repeat' split
    all_goals first | rfl | omega
theorem rv_w28 {y : Int} {v : Int} : ym_wI (rv s p l g x c e z b f F q A B C h o W S) 28 y v = rv s p l g x c e z (zu b y v) f F q A B C h o W S := by
  refine Prod.ext (funext fun k => funext fun j => ?_) rfl
  show (bif Nat.beq k 28 then (if j = y then v else (rv s p l g x c e z b f F q A B C h o W S).1 k j) else (rv s p l g x c e z b f F q A B C h o W S).1 k j) = _
  rcases Nat.decEq k 28 with hk | hk
  · rw [zb_ne hk]
    unfold rv
    dsimp only [cond]
    rw [zb_ne hk]
  · subst hk
    unfold rv
    rfl
theorem rv_w37 {y : Int} {v : Int} : ym_wI (rv s p l g x c e z b f F q A B C h o W S) 37 y v = rv s p l g x c e z b f F q A B C h o (zu W y v) S := by
  refine Prod.ext (funext fun k => funext fun j => ?_) rfl
  show (bif Nat.beq k 37 then (if j = y then v else (rv s p l g x c e z b f F q A B C h o W S).1 k j) else (rv s p l g x c e z b f F q A B C h o W S).1 k j) = _
  rcases Nat.decEq k 37 with hk | hk
  · rw [zb_ne hk]
    unfold rv
    dsimp only [cond]
    rw [zb_ne hk]
  · subst hk
    unfold rv
    rfl
theorem rv_w38 {y : Int} {v : Int} : ym_wI (rv s p l g x c e z b f F q A B C h o W S) 38 y v = rv s p l g x c e z b f F q (zu A y v) B C h o W S := by
  refine Prod.ext (funext fun k => funext fun j => ?_) rfl
  show (bif Nat.beq k 38 then (if j = y then v else (rv s p l g x c e z b f F q A B C h o W S).1 k j) else (rv s p l g x c e z b f F q A B C h o W S).1 k j) = _
  rcases Nat.decEq k 38 with hk | hk
  · rw [zb_ne hk]
    unfold rv
    dsimp only [cond]
    rw [zb_ne hk]
  · subst hk
    unfold rv
    rfl
theorem rv_w39 {y : Int} {v : Int} : ym_wI (rv s p l g x c e z b f F q A B C h o W S) 39 y v = rv s p l g x c e z b f F q A (zu B y v) C h o W S := by
  refine Prod.ext (funext fun k => funext fun j => ?_) rfl
  show (bif Nat.beq k 39 then (if j = y then v else (rv s p l g x c e z b f F q A B C h o W S).1 k j) else (rv s p l g x c e z b f F q A B C h o W S).1 k j) = _
  rcases Nat.decEq k 39 with hk | hk
  · rw [zb_ne hk]
    unfold rv
    dsimp only [cond]
    rw [zb_ne hk]
  · subst hk
    unfold rv
    rfl
theorem rv_w40 {y : Int} {v : Int} : ym_wI (rv s p l g x c e z b f F q A B C h o W S) 40 y v = rv s p l g x c e z b f F q A B (zu C y v) h o W S := by
  refine Prod.ext (funext fun k => funext fun j => ?_) rfl
  show (bif Nat.beq k 40 then (if j = y then v else (rv s p l g x c e z b f F q A B C h o W S).1 k j) else (rv s p l g x c e z b f F q A B C h o W S).1 k j) = _
  rcases Nat.decEq k 40 with hk | hk
  · rw [zb_ne hk]
    unfold rv
    dsimp only [cond]
    rw [zb_ne hk]
  · subst hk
    unfold rv
    rfl
theorem rv_w41 {y : Int} {v : Int} : ym_wI (rv s p l g x c e z b f F q A B C h o W S) 41 y v = rv s p l g x c e z b f F q A B C h (zu o y v) W S := by
  refine Prod.ext (funext fun k => funext fun j => ?_) rfl
  show (bif Nat.beq k 41 then (if j = y then v else (rv s p l g x c e z b f F q A B C h o W S).1 k j) else (rv s p l g x c e z b f F q A B C h o W S).1 k j) = _
  rcases Nat.decEq k 41 with hk | hk
  · rw [zb_ne hk]
    unfold rv
    dsimp only [cond]
    rw [zb_ne hk]
  · subst hk
    unfold rv
    rfl
theorem rv_w29 {y v : Int} : ym_wI (rv s p l g x c e z b f F q A B C h o W S) 29 y v = rv s p l g x c e z b f (ym_u F 29 y v) q A B C h o W S := by
  refine Prod.ext (funext fun k => funext fun j => ?_) rfl
  show (bif Nat.beq k 29 then (if j = y then v else (rv s p l g x c e z b f F q A B C h o W S).1 k j) else (rv s p l g x c e z b f F q A B C h o W S).1 k j) = _
  rcases Nat.decEq k 29 with hk | hk
  · rw [zb_ne hk]
    unfold rv ym_u
    dsimp only [cond]
    rw [zb_ne hk]
  · subst hk
    rfl
theorem rv_w30 {y v : Int} : ym_wI (rv s p l g x c e z b f F q A B C h o W S) 30 y v = rv s p l g x c e z b f (ym_u F 30 y v) q A B C h o W S := by
  refine Prod.ext (funext fun k => funext fun j => ?_) rfl
  show (bif Nat.beq k 30 then (if j = y then v else (rv s p l g x c e z b f F q A B C h o W S).1 k j) else (rv s p l g x c e z b f F q A B C h o W S).1 k j) = _
  rcases Nat.decEq k 30 with hk | hk
  · rw [zb_ne hk]
    unfold rv ym_u
    dsimp only [cond]
    rw [zb_ne hk]
  · subst hk
    rfl
theorem rv_w31 {y v : Int} : ym_wI (rv s p l g x c e z b f F q A B C h o W S) 31 y v = rv s p l g x c e z b f (ym_u F 31 y v) q A B C h o W S := by
  refine Prod.ext (funext fun k => funext fun j => ?_) rfl
  show (bif Nat.beq k 31 then (if j = y then v else (rv s p l g x c e z b f F q A B C h o W S).1 k j) else (rv s p l g x c e z b f F q A B C h o W S).1 k j) = _
  rcases Nat.decEq k 31 with hk | hk
  · rw [zb_ne hk]
    unfold rv ym_u
    dsimp only [cond]
    rw [zb_ne hk]
  · subst hk
    rfl
theorem rv_w32 {y v : Int} : ym_wI (rv s p l g x c e z b f F q A B C h o W S) 32 y v = rv s p l g x c e z b f (ym_u F 32 y v) q A B C h o W S := by
  refine Prod.ext (funext fun k => funext fun j => ?_) rfl
  show (bif Nat.beq k 32 then (if j = y then v else (rv s p l g x c e z b f F q A B C h o W S).1 k j) else (rv s p l g x c e z b f F q A B C h o W S).1 k j) = _
  rcases Nat.decEq k 32 with hk | hk
  · rw [zb_ne hk]
    unfold rv ym_u
    dsimp only [cond]
    rw [zb_ne hk]
  · subst hk
    rfl
theorem rv_w33 {y v : Int} : ym_wI (rv s p l g x c e z b f F q A B C h o W S) 33 y v = rv s p l g x c e z b f (ym_u F 33 y v) q A B C h o W S := by
  refine Prod.ext (funext fun k => funext fun j => ?_) rfl
  show (bif Nat.beq k 33 then (if j = y then v else (rv s p l g x c e z b f F q A B C h o W S).1 k j) else (rv s p l g x c e z b f F q A B C h o W S).1 k j) = _
  rcases Nat.decEq k 33 with hk | hk
  · rw [zb_ne hk]
    unfold rv ym_u
    dsimp only [cond]
    rw [zb_ne hk]
  · subst hk
    rfl
theorem rv_w34 {y v : Int} : ym_wI (rv s p l g x c e z b f F q A B C h o W S) 34 y v = rv s p l g x c e z b f (ym_u F 34 y v) q A B C h o W S := by
  refine Prod.ext (funext fun k => funext fun j => ?_) rfl
  show (bif Nat.beq k 34 then (if j = y then v else (rv s p l g x c e z b f F q A B C h o W S).1 k j) else (rv s p l g x c e z b f F q A B C h o W S).1 k j) = _
  rcases Nat.decEq k 34 with hk | hk
  · rw [zb_ne hk]
    unfold rv ym_u
    dsimp only [cond]
    rw [zb_ne hk]
  · subst hk
    rfl
theorem rv_w35 {y v : Int} : ym_wI (rv s p l g x c e z b f F q A B C h o W S) 35 y v = rv s p l g x c e z b f (ym_u F 35 y v) q A B C h o W S := by
  refine Prod.ext (funext fun k => funext fun j => ?_) rfl
  show (bif Nat.beq k 35 then (if j = y then v else (rv s p l g x c e z b f F q A B C h o W S).1 k j) else (rv s p l g x c e z b f F q A B C h o W S).1 k j) = _
  rcases Nat.decEq k 35 with hk | hk
  · rw [zb_ne hk]
    unfold rv ym_u
    dsimp only [cond]
    rw [zb_ne hk]
  · subst hk
    rfl
theorem rv_w36 {y v : Int} : ym_wI (rv s p l g x c e z b f F q A B C h o W S) 36 y v = rv s p l g x c e z b f (ym_u F 36 y v) q A B C h o W S := by
  refine Prod.ext (funext fun k => funext fun j => ?_) rfl
  show (bif Nat.beq k 36 then (if j = y then v else (rv s p l g x c e z b f F q A B C h o W S).1 k j) else (rv s p l g x c e z b f F q A B C h o W S).1 k j) = _
  rcases Nat.decEq k 36 with hk | hk
  · rw [zb_ne hk]
    unfold rv ym_u
    dsimp only [cond]
    rw [zb_ne hk]
  · subst hk
    rfl
theorem rv_w42 {y v : Int} : ym_wI (rv s p l g x c e z b f F q A B C h o W S) 42 y v = rv s p l g x c e z b f F q A B C h o W (ym_u S 42 y v) := by
  refine Prod.ext (funext fun k => funext fun j => ?_) rfl
  show (bif Nat.beq k 42 then (if j = y then v else (rv s p l g x c e z b f F q A B C h o W S).1 k j) else (rv s p l g x c e z b f F q A B C h o W S).1 k j) = _
  rcases Nat.decEq k 42 with hk | hk
  · rw [zb_ne hk]
    unfold rv ym_u
    dsimp only [cond]
    rw [zb_ne hk]
  · subst hk
    rfl
theorem rv_w43 {y v : Int} : ym_wI (rv s p l g x c e z b f F q A B C h o W S) 43 y v = rv s p l g x c e z b f F q A B C h o W (ym_u S 43 y v) := by
  refine Prod.ext (funext fun k => funext fun j => ?_) rfl
  show (bif Nat.beq k 43 then (if j = y then v else (rv s p l g x c e z b f F q A B C h o W S).1 k j) else (rv s p l g x c e z b f F q A B C h o W S).1 k j) = _
  rcases Nat.decEq k 43 with hk | hk
  · rw [zb_ne hk]
    unfold rv ym_u
    dsimp only [cond]
    rw [zb_ne hk]
  · subst hk
    rfl
theorem rv_w44 {y v : Int} : ym_wI (rv s p l g x c e z b f F q A B C h o W S) 44 y v = rv s p l g x c e z b f F q A B C h o W (ym_u S 44 y v) := by
  refine Prod.ext (funext fun k => funext fun j => ?_) rfl
  show (bif Nat.beq k 44 then (if j = y then v else (rv s p l g x c e z b f F q A B C h o W S).1 k j) else (rv s p l g x c e z b f F q A B C h o W S).1 k j) = _
  rcases Nat.decEq k 44 with hk | hk
  · rw [zb_ne hk]
    unfold rv ym_u
    dsimp only [cond]
    rw [zb_ne hk]
  · subst hk
    rfl
theorem rv_self (s : ym_S) : rv s (s.1 12 21) (s.1 12 22) (s.1 12 23) (s.1 12 20) (s.1 12 24) (s.1 12 25) (s.1 12 26) (s.1 28) (s.1 12 28) s.1 (s.1 12 38) (s.1 38) (s.1 39) (s.1 40) (s.1 12 42) (s.1 41) (s.1 37) s.1 = s := by
  refine Prod.ext (funext fun k => funext fun j => ?_) rfl
  unfold rv
  dsimp only
  rcases Nat.decEq k 12 with hk | hk
  · rw [zb_ne hk]
    rcases Nat.decEq k 28 with hk | hk
    · rw [zb_ne hk]
      rcases Nat.decEq k 37 with hk | hk
      · rw [zb_ne hk]
        rcases Nat.decEq k 38 with hk | hk
        · rw [zb_ne hk]
          rcases Nat.decEq k 39 with hk | hk
          · rw [zb_ne hk]
            rcases Nat.decEq k 40 with hk | hk
            · rw [zb_ne hk]
              rcases Nat.decEq k 41 with hk | hk
              · rw [zb_ne hk]
                dsimp only [cond]
                cases (Nat.ble 29 k && Nat.ble k 36)
                · cases (Nat.ble 42 k && Nat.ble k 44) <;> rfl
                · rfl
              · subst hk; rfl
            · subst hk; rfl
          · subst hk; rfl
        · subst hk; rfl
      · subst hk; rfl
    · subst hk; rfl
  · subst hk
    dsimp only [cond, Nat.beq]
    repeat' split
    all_goals first | rfl | (rename_i h3; rw [h3])
end
