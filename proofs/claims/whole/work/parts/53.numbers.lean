/-! Defaults: equal numbers and equal octets: own work. -/
theorem zs_enc_inj {g c : Int} {x y : List Int} (h : zs_enc g c x = zs_enc g c y) : x = y := by
  unfold zs_enc zs_hd at h
  rw [List.cons_append, List.cons_append, List.append_assoc, List.append_assoc] at h
  have h1 := List.append_cancel_left (List.tail_eq_of_cons_eq h)
  unfold zs_l2 at h1
  by_cases a : (x.length : Int) < 128
  · by_cases b : (y.length : Int) < 128
    · rw [if_pos a, if_pos b] at h1
      exact List.tail_eq_of_cons_eq h1
    · rw [if_pos a, if_neg b] at h1
      have := List.head_eq_of_cons_eq h1
      omega
  · by_cases b : (y.length : Int) < 128
    · rw [if_neg a, if_pos b] at h1
      have := List.head_eq_of_cons_eq h1
      omega
    · rw [if_neg a, if_neg b] at h1
      exact List.tail_eq_of_cons_eq (List.tail_eq_of_cons_eq h1)
theorem zs_pw (n : Nat) : (0 : Int) < ((256 ^ n : Nat) : Int) := Int.natCast_pos.mpr (Nat.pow_pos (by decide))
theorem zs_pw_s (n : Nat) : ((256 ^ (n + 1) : Nat) : Int) = 256 * ((256 ^ n : Nat) : Int) := by
  rw [Nat.pow_succ, Int.natCast_mul]
  omega
theorem zs_emod (v X : Int) (hX : 0 < X) : v % (256 * X) = (v / X % 256) * X + v % X := by
  have h1 := Int.mul_ediv_add_emod v X
  have h2 := Int.mul_ediv_add_emod (v / X) 256
  have h3 : 0 ≤ v % X := Int.emod_nonneg _ (by omega)
  have h4 : v % X < X := Int.emod_lt_of_pos _ hX
  have h5 : 0 ≤ v / X % 256 := by omega
  have h6 : v / X % 256 ≤ 255 := by omega
  have e : v = ((v / X % 256) * X + v % X) + (256 * X) * (v / X / 256) := by
    have : (256 * X) * (v / X / 256) = X * (256 * (v / X / 256)) := by rw [Int.mul_comm 256 X, Int.mul_assoc]
    rw [this, Int.mul_comm (v / X % 256) X]
    have : X * (v / X) = X * (256 * (v / X / 256)) + X * (v / X % 256) := by rw [← Int.mul_add, h2]
    omega
  have b0 : 0 ≤ (v / X % 256) * X := Int.mul_nonneg h5 (by omega)
  have b1 : (v / X % 256) * X ≤ 255 * X := Int.mul_le_mul_of_nonneg_right h6 (by omega)
  rw [show v % (256 * X) = (((v / X % 256) * X + v % X) + (256 * X) * (v / X / 256)) % (256 * X) by rw [← e], Int.add_mul_emod_self_left, Int.emod_eq_of_lt (by omega) (by omega)]
theorem zs_nv_by (v : Int) : ∀ (n : Nat) (a : Int), zs_nv (zs_by v n) a = a * ((256 ^ n : Nat) : Int) + v % ((256 ^ n : Nat) : Int)
  | 0, a => by
    show a = a * 1 + v % 1
    omega
  | n + 1, a => by
    rw [zs_by, zs_nv, zs_nv_by v n, zs_pw_s, zs_emod v _ (zs_pw n), Int.add_mul, Int.mul_assoc]
    omega
theorem zs_by_len (v : Int) : ∀ n : Nat, (zs_by v n).length = n
  | 0 => rfl
  | n + 1 => by rw [zs_by, List.length_cons, zs_by_len v n]
theorem zs_fit_iff (v : Int) (n : Nat) : zs_fit v (n + 1) = true ↔ -(128 * ((256 ^ n : Nat) : Int)) ≤ v ∧ v < 128 * ((256 ^ n : Nat) : Int) := by
  have e : (2 ^ (8 * (n + 1) - 1) : Nat) = 128 * 256 ^ n := by
    rw [show 8 * (n + 1) - 1 = 7 + 8 * n by omega, Nat.pow_add, Nat.pow_mul]
  unfold zs_fit
  rw [e, Int.natCast_mul]
  simp
theorem zs_val_by {v : Int} {n : Nat} (h : zs_fit v (n + 1) = true) : zs_val (zs_by v (n + 1)) = v := by
  have hX := zs_pw n
  rw [zs_fit_iff] at h
  rw [zs_by, zs_val, zs_nv_by]
  generalize hX2 : ((256 ^ n : Nat) : Int) = X at *
  have h1 := Int.mul_ediv_add_emod v X
  have h3 : 0 ≤ v % X := Int.emod_nonneg _ (by omega)
  have h4 : v % X < X := Int.emod_lt_of_pos _ hX
  have l1 : -128 ≤ v / X := by
    rw [Int.le_ediv_iff_mul_le hX]
    omega
  have l2 : v / X < 128 := by
    rw [Int.ediv_lt_iff_lt_mul hX]
    omega
  have e : zs_v1 (v / X % 256) = v / X := by
    unfold zs_v1
    split <;> omega
  rw [e, Int.mul_comm]
  omega
theorem zs_nv_u : ∀ (l : List Int) (a : Int), zs_all l → ∃ u : Int, 0 ≤ u ∧ u < ((256 ^ l.length : Nat) : Int) ∧ zs_nv l a = a * ((256 ^ l.length : Nat) : Int) + u ∧ zs_by (zs_nv l a) l.length = l
  | [], a, h => ⟨0, by decide, by decide, by show a = a * 1 + 0; omega, rfl⟩
  | x :: t, a, h => by
    obtain ⟨x0, x1⟩ := h x (List.mem_cons_self ..)
    obtain ⟨u, u0, u1, u2, u3⟩ := zs_nv_u t (a * 256 + x) (fun y hy => h y (List.mem_cons_of_mem _ hy))
    have hX := zs_pw t.length
    refine ⟨x * ((256 ^ t.length : Nat) : Int) + u, ?_, ?_, ?_, ?_⟩
    · have := Int.mul_nonneg x0 (Int.le_of_lt hX)
      omega
    · rw [List.length_cons, zs_pw_s]
      have := Int.mul_le_mul_of_nonneg_right (show x ≤ 255 by omega) (Int.le_of_lt hX)
      omega
    · rw [zs_nv, u2, List.length_cons, zs_pw_s, Int.add_mul, Int.mul_assoc]
      omega
    · rw [zs_nv, List.length_cons, zs_by, u3]
      congr 1
      rw [u2]
      generalize ((256 ^ t.length : Nat) : Int) = X at *
      rw [Int.add_comm, Int.add_mul_ediv_right _ _ (by omega), Int.ediv_eq_zero_of_lt u0 u1]
      omega
theorem zs_min_eq {l : List Int} (hall : zs_all l) (hmin : zs_min l = true) : l ≠ [] ∧ zs_by (zs_val l) l.length = l ∧ zs_fit (zs_val l) l.length = true ∧ (l.length = 1 ∨ zs_fit (zs_val l) (l.length - 1) = false) := by
  cases l with
  | nil => cases hmin
  | cons x t =>
    obtain ⟨x0, x1⟩ := hall x (List.mem_cons_self ..)
    have hall2 : zs_all t := fun y hy => hall y (List.mem_cons_of_mem _ hy)
    obtain ⟨u, u0, u1, u2, u3⟩ := zs_nv_u t (zs_v1 x) hall2
    have hX := zs_pw t.length
    have v1 : -128 ≤ zs_v1 x ∧ zs_v1 x ≤ 127 ∧ zs_v1 x % 256 = x := by
      unfold zs_v1
      split <;> omega
    refine ⟨by simp, ?_, ?_, ?_⟩
    · rw [List.length_cons, zs_val, zs_by, u3]
      congr 1
      rw [u2]
      generalize ((256 ^ t.length : Nat) : Int) = X at *
      rw [Int.add_comm, Int.add_mul_ediv_right _ _ (by omega), Int.ediv_eq_zero_of_lt u0 u1]
      omega
    · rw [List.length_cons, zs_fit_iff, zs_val, u2]
      generalize ((256 ^ t.length : Nat) : Int) = X at *
      have b1 := Int.mul_le_mul_of_nonneg_right v1.2.1 (Int.le_of_lt hX)
      have b2 := Int.mul_le_mul_of_nonneg_right v1.1 (Int.le_of_lt hX)
      omega
    · cases t with
      | nil => exact Or.inl rfl
      | cons y t =>
        right
        obtain ⟨y0, y1⟩ := hall2 y (List.mem_cons_self ..)
        obtain ⟨w, w0, w1, w2, w3⟩ := zs_nv_u t (zs_v1 x * 256 + y) (fun z hz => hall2 z (List.mem_cons_of_mem _ hz))
        have hY := zs_pw t.length
        have e1 : (x :: y :: t).length - 1 = t.length + 1 := rfl
        have hz : ¬ (-128 ≤ zs_v1 x * 256 + y ∧ zs_v1 x * 256 + y < 128) := by
          unfold zs_min at hmin
          simp at hmin
          unfold zs_v1
          split <;> omega
        cases hb : zs_fit (zs_val (x :: y :: t)) ((x :: y :: t).length - 1) with
        | false => rfl
        | true =>
          exfalso
          rw [e1, zs_fit_iff, zs_val, zs_nv, w2] at hb
          generalize ((256 ^ t.length : Nat) : Int) = X at *
          generalize zs_v1 x * 256 + y = z at *
          apply hz
          refine ⟨?_, ?_⟩
          · by_cases q : -128 ≤ z
            · exact q
            · have := Int.mul_le_mul_of_nonneg_right (show z ≤ -129 by omega) (Int.le_of_lt hY)
              omega
          · by_cases q : z < 128
            · exact q
            · have := Int.mul_le_mul_of_nonneg_right (show 128 ≤ z by omega) (Int.le_of_lt hY)
              omega
theorem zs_fit_mono {v : Int} : ∀ {n : Nat}, zs_fit v (n + 1) = true → zs_fit v (n + 2) = true := by
  intro n h
  rw [zs_fit_iff] at h ⊢
  have := zs_pw n
  rw [zs_pw_s]
  omega
theorem zs_fit_le {v : Int} {n : Nat} (h : zs_fit v (n + 1) = true) : ∀ k : Nat, zs_fit v (n + 1 + k) = true
  | 0 => h
  | k + 1 => by
    have h2 : zs_fit v (n + k + 1) = true := by
      rw [show n + k + 1 = n + 1 + k by omega]
      exact zs_fit_le h k
    have h3 := zs_fit_mono h2
    rw [show n + 1 + (k + 1) = n + k + 2 by omega]
    exact h3
theorem zs_dn_eq {v : Int} {n : Nat} (h1 : zs_fit v (n + 1) = true) (h2 : n = 0 ∨ zs_fit v n = false) : ∀ k : Nat, zs_dn v (n + 1 + k) = n + 1
  | 0 => by
    cases n with
    | zero => rfl
    | succ n =>
      rcases h2 with h | h
      · omega
      · show (if zs_fit v (n + 1) then _ else n + 2) = _
        rw [h]
        rfl
  | k + 1 => by
    rw [show n + 1 + (k + 1) = n + k + 2 by omega, zs_dn]
    have e := zs_fit_le h1 k
    rw [show n + 1 + k = n + k + 1 by omega] at e
    rw [e, if_pos rfl]
    have := zs_dn_eq h1 h2 k
    rw [show n + 1 + k = n + k + 1 by omega] at this
    exact this
theorem zs_dn_1 (v : Int) : zs_dn v 1 = 1 := rfl
theorem zs_dn_2 (v : Int) (n : Nat) : zs_dn v (n + 2) = if zs_fit v (n + 1) then zs_dn v (n + 1) else n + 2 := rfl
theorem zs_dn_fit {v : Int} (n : Nat) : zs_fit v (n + 1) = true → zs_fit v (zs_dn v (n + 1)) = true ∧ 1 ≤ zs_dn v (n + 1) ∧ zs_dn v (n + 1) ≤ n + 1 := by
  induction n with
  | zero =>
    intro h
    rw [Nat.zero_add] at h ⊢
    rw [zs_dn_1]
    exact And.intro h (And.intro (Nat.le_refl _) (Nat.le_refl _))
  | succ n ih =>
    intro h
    rw [zs_dn_2]
    generalize hb : zs_fit v (n + 1) = b at *
    cases b with
    | false =>
      rw [if_neg (by decide)]
      exact And.intro h (And.intro (by omega) (Nat.le_refl _))
    | true =>
      rw [if_pos rfl]
      have h2 := ih rfl
      exact And.intro h2.1 (And.intro h2.2.1 (by omega))
/-- an INTEGER's octets are a number's octets where they have its value -/
theorem zs_int_eq {l : List Int} (hall : zs_all l) (hmin : zs_min l = true) (v : Int64) : l = zs_by v.toInt (zs_dn v.toInt 8) ↔ (l.length ≤ 8 ∧ zs_val l = v.toInt) := by
  have hv : zs_fit v.toInt 8 = true := by
    have h1 := v.le_toInt
    have h2 := v.toInt_lt
    rw [zs_fit_iff]
    have : ((256 ^ 7 : Nat) : Int) = 72057594037927936 := by decide
    rw [this]
    omega
  constructor
  · intro h
    obtain ⟨f1, f2, f3⟩ := zs_dn_fit 7 hv
    rw [show (7 + 1 : Nat) = 8 from rfl] at f1 f2 f3
    have hl : l.length = zs_dn v.toInt 8 := by rw [h]; rw [zs_by_len]
    refine ⟨by omega, ?_⟩
    rw [h]
    obtain ⟨k, hk⟩ : ∃ k, zs_dn v.toInt 8 = k + 1 := ⟨zs_dn v.toInt 8 - 1, by omega⟩
    rw [hk] at f1 ⊢
    exact zs_val_by f1
  · rintro ⟨h1, h2⟩
    obtain ⟨m1, m2, m3, m4⟩ := zs_min_eq hall hmin
    rw [h2] at m2 m3 m4
    obtain ⟨n, hn⟩ : ∃ n, l.length = n + 1 := by
      cases l with
      | nil => exact absurd rfl m1
      | cons x t => exact ⟨t.length, rfl⟩
    rw [hn] at m2 m3 m4 h1
    have := zs_dn_eq m3 (m4.elim (fun z => Or.inl (by omega)) (fun z => Or.inr z)) (7 - n)
    rw [show n + 1 + (7 - n) = 8 by omega] at this
    rw [this]
    exact m2.symm
/-- the class' look at a default is the look at the octets -/
theorem zs_nm_eq {k bd : Int} {lo hi : Int64} {l0 l : List Int} {w : Int} {m v : Int64} (hall : zs_all l0) (hs : zs_sm k bd lo hi l0 = some l) (hn : zs_nm k l w m) (hk : (k = 1 ∧ (v.toInt = 0 ∨ v.toInt = 1)) ∨ k = 2) : (w = 0 ∧ m = v) ↔ l = zs_nb k v.toInt := by
  rcases hk with ⟨rfl, hv⟩ | rfl
  · have h1 := hn.1 rfl
    have e1 : zs_nb 1 v.toInt = [if v.toInt = 0 then 0 else 255] := rfl
    have hl : l = [0] ∨ l = [255] := by
      unfold zs_sm at hs
      rw [if_pos rfl] at hs
      split at hs
      · have := Option.some.inj hs
        split at this
        · exact Or.inl this.symm
        · exact Or.inr this.symm
      · cases hs
    rw [e1]
    constructor
    · rintro ⟨-, rfl⟩
      rw [h1.2]
      rcases hl with rfl | rfl
      · rfl
      · rfl
    · intro h
      refine ⟨h1.1, Int64.toInt_inj.mp ?_⟩
      rw [h1.2]
      rcases hv with hv | hv
      · rw [hv, if_pos rfl] at h
        rw [if_pos h, hv]
      · rw [hv, if_neg (by decide)] at h
        rw [h, if_neg (by decide), hv]
  · have h2 := hn.2 rfl
    have hs2 : zs_ig bd lo hi l0 = true ∧ l0 = l := by
      unfold zs_sm at hs
      rw [if_neg (by decide), if_pos rfl] at hs
      split at hs
      · rename_i h
        exact ⟨h, Option.some.inj hs⟩
      · cases hs
    obtain ⟨hig, rfl⟩ := hs2
    have hmin : zs_min l0 = true := by
      unfold zs_ig at hig
      simp at hig
      exact hig.1
    have e1 : zs_nb 2 v.toInt = zs_by v.toInt (zs_dn v.toInt 8) := rfl
    rw [e1, zs_int_eq hall hmin v]
    constructor
    · rintro ⟨h3, rfl⟩
      have h4 : l0.length ≤ 8 := by
        by_cases z : 8 < l0.length
        · rw [h2.1, if_pos z] at h3
          exact absurd h3 (by decide)
        · omega
      exact ⟨h4, (h2.2 h4).symm⟩
    · rintro ⟨h3, h4⟩
      refine ⟨by rw [h2.1, if_neg (by omega)], Int64.toInt_inj.mp ?_⟩
      rw [h2.2 h3, h4]
