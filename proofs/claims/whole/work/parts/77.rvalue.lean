/-! The reference's values, all of them: own work. -/
section
variable {sc : xm_S} {P : xm_O → xm_H → Prop} {K : List ym_F} {a1 : Int} {s : ym_S} {r : Int → Int} {N : Int} {E : zEnv} {n : Int}
theorem zb_2 {rec : Int → Int → Int → Option ((Int × List Int) × Int)} {u c i e p gg : Int} (s2 : E.1 13 u = 2) (hc : c ≠ 0) : (zs_bd E r rec u c i e p).map (fun z => ((gg, zs_enc gg (if E.1 13 u = 0 then 0 else 1) z.1), z.2)) = (rec (E.1 16 u) e p).bind (fun z => if zs_on r e i z.2 then none else some ((gg, zs_enc gg 1 z.1.2), zs_sk i z.2)) := by
  unfold zs_bd
  rw [if_neg (by omega), if_neg hc, if_pos s2, if_neg (by omega)]
  cases rec (E.1 16 u) e p with
  | none => rfl
  | some z =>
    show (if zs_on r e i z.2 then none else some (z.1.2, zs_sk i z.2) : Option (List Int × Int)).map _ = if zs_on r e i z.2 then none else some ((gg, zs_enc gg 1 z.1.2), zs_sk i z.2)
    split <;> rfl
theorem zb_3 {rec : Int → Int → Int → Option ((Int × List Int) × Int)} {u c i e p gg : Int} (s3 : E.1 13 u = 3) (hc : c ≠ 0) : (zs_bd E r rec u c i e p).map (fun z => ((gg, zs_enc gg (if E.1 13 u = 0 then 0 else 1) z.1), z.2)) = (zs_vs r (rec (E.1 16 u)) 201 e i p).map (fun z => ((gg, zs_enc gg 1 (zs_fl (rKs E u ([] ++ z.1)))), z.2)) := by
  unfold zs_bd
  rw [if_neg (by omega), if_neg hc, if_neg (by omega), if_pos s3, if_neg (by omega), Option.map_map]
  generalize zs_vs r (rec (E.1 16 u)) 201 e i p = X
  cases X with
  | none => rw [Option.map_none, Option.map_none]
  | some z =>
  refine congrArg some ?_
  show ((gg, zs_enc gg 1 (zs_fl (if E.1 15 u = 17 then zs_is false z.1 else z.1))), z.2) = ((gg, zs_enc gg 1 (zs_fl (rKs E u z.1))), z.2)
  have : rKs E u z.1 = if E.1 15 u = 17 then zs_is false z.1 else z.1 := by
    unfold rKs rSet
    rw [decide_eq_false (show ¬ E.1 13 u = 2 by omega), decide_eq_false (show ¬ E.1 13 u = 4 by omega)]
    by_cases w : E.1 15 u = 17 <;> simp [w]
  rw [this]
theorem zb_4 {rec : Int → Int → Int → Option ((Int × List Int) × Int)} {u c i e p gg : Int} (s4 : E.1 13 u = 4) (hc : c ≠ 0) : (zs_bd E r rec u c i e p).map (fun z => ((gg, zs_enc gg (if E.1 13 u = 0 then 0 else 1) z.1), z.2)) = (zs_ms E r rec u (decide (E.1 15 u = 17)) 201 e i p 0 (fun _ => false)).map (fun z => ((gg, zs_enc gg 1 (zs_fl (rKs E u ([] ++ z.1)))), z.2)) := by
  unfold zs_bd
  rw [if_neg (by omega), if_neg hc, if_neg (by omega), if_neg (by omega), if_neg (by omega), Option.map_map]
  generalize zs_ms E r rec u (decide (E.1 15 u = 17)) 201 e i p 0 (fun _ => false) = X
  cases X with
  | none => rw [Option.map_none, Option.map_none]
  | some z =>
  refine congrArg some ?_
  show ((gg, zs_enc gg 1 (zs_fl (if E.1 15 u = 17 then zs_is true z.1 else z.1))), z.2) = ((gg, zs_enc gg 1 (zs_fl (rKs E u z.1))), z.2)
  have : rKs E u z.1 = if E.1 15 u = 17 then zs_is true z.1 else z.1 := by
    unfold rKs rSet
    rw [decide_eq_false (show ¬ E.1 13 u = 2 by omega), decide_eq_true s4]
    by_cases w : E.1 15 u = 17 <;> simp [w]
  rw [this]
theorem rV (H : zh sc K 12) (hI : rIn s r N) (hE : zRE s E) (hW : zWF E n) : ∀ fu : Nat, rVP sc P K a1 s r N E n fu
  | 0 => fun K1 t p l g c e z b f F q A B C h o W S hR H1 t0 t1 tf => by exfalso; omega
  | fu + 1 => fun K1 t p l g c e z b f F q A B C h o W S hR H1 t0 t1 tf hp hpl hl hf hft hq hqp hh hroom kx kr => by
    have ih : rVP sc P K a1 s r N E n fu := rV H hI hE hW fu
    have hN := hI.1
    have hn := hW.1
    have mr : 0 ≤ (t + 1) * (l - p) := Int.mul_nonneg (by omega) (by omega)
    refine sg_123_0 (zy H1) _ ?_
    refine rc_123c H1 hI hE hW hp (by omega) (by omega) hl hf (by omega) hh (by omega) hq (by omega) fu t (zs_v E r (fu + 1) t l p) (fun y p2 l2 g2 c2 e2 z2 b2 f2 F2 S2 => hR _ _ _ _ _ _ _ _ _ _ _ _ _ _ _ _ _ _ (kx y _ _ _ _ _ _ _ _ _ _ _ _ _ _ _ _ _)) (fun v v0 v1 vt hch hres s0 c2 i2 e2 b2 hzh a b3 hco g2 c3 e3 z2 b4 S2 => ?_) (fun v v0 v1 vt hch hres s0 c2 i2 e2 b2 hzh hc F2 hF => ?_) 17 t g c 0 rfl t0 t1 (by omega) rfl (by omega)
    · have hown := zs_v_own (E := E) (r := r) (f := fu) (l := l) (p := p) hch
      rw [hzh] at hown
      change _ = (zs_bd E r (zs_v E r fu) (eCo E 17 v) c2 i2 e2 b2).map _ at hown
      have hbd : zs_bd E r (zs_v E r fu) (eCo E 17 v) c2 i2 e2 b2 = some (a, b3) := by
        unfold zs_bd
        rw [if_pos s0]
        exact hco
      rw [hbd, if_pos s0] at hown
      have hv := hres.trans hown
      change _ = some ((E.1 14 v, zs_enc (E.1 14 v) 0 a), b3) at hv
      obtain ⟨v1', v2', v3', v4'⟩ := zs_v_ok hW hI.2.1 hN (fu + 1) t l p _ t0 t1 hl hp hpl hv
      change p + 2 ≤ b3 at v1'
      change ((zs_enc (E.1 14 v) 0 a).length : Int) ≤ b3 - p at v3'
      have m1 : 1 * (b3 - p) ≤ (t + 1) * (b3 - p) := Int.mul_le_mul_of_nonneg_right (by omega) (by omega)
      rw [Int.one_mul] at m1
      refine hR _ _ _ _ _ _ _ _ _ _ _ _ _ _ _ _ _ _ (kr _ _ _ hv _ _ _ _ _ _ _ _ _ _ _ _ _ (fun _ _ _ => rfl) (fun j hj => ?_) (fun j j0 j1 => za_lt _ _ _ _ (by omega)) ?_ (by omega) (by omega))
      · refine ⟨?_, ?_, ?_⟩
        · exact if_neg (by omega)
        · exact if_neg (by omega)
        · exact if_neg (by omega)
      · refine ⟨if_pos rfl, if_pos rfl, ?_, ?_, ?_⟩
        · show zr _ (if q = q then h else A q) _
          rw [if_pos rfl]
          exact zr_za _ _ _
        · show 0 ≤ (if q = q then h else A q)
          rw [if_pos rfl]
          exact hh
        · show (if q = q then h else A q) + (if q = q then ((zs_enc (E.1 14 v) 0 a).length : Int) else B q) ≤ _
          rw [if_pos rfl, if_pos rfl]
          exact Int.le_refl _
    · have hown := zs_v_own (E := E) (r := r) (f := fu) (l := l) (p := p) hch
      rw [hzh] at hown
      change _ = (zs_bd E r (zs_v E r fu) (eCo E 17 v) c2 i2 e2 b2).map _ at hown
      have hv := hres.trans hown
      obtain ⟨u, hu⟩ : ∃ u, u = eCo E 17 v := ⟨_, rfl⟩
      obtain ⟨u0, u1, u2, u3, u4⟩ := eCo_ok hW 17 v v0 v1 (by omega)
      rw [← hu] at hv s0 hF u0 u1 u2 u3
      obtain ⟨gv1, gv2⟩ := zW_tag hW v0 v1 hch
      obtain ⟨oc, oi, ob, obe, oel, oic, -, -⟩ := zs_h_ok hI.2.1 hl hp hzh
      have m1 : u * (e2 - b2) ≤ (t + 1) * (l - p) := zmul u0 (by omega) (by omega) (by omega)
      have hcx : rCx N f u (E.1 14 v) i2 e2 q h b2 t p := ⟨hf, u0, by omega, oi, gv1, gv2, by omega, by omega, hq, by omega, hh, by omega, by omega, by omega, by omega⟩
      have hgd : rGd sc P K a1 s f l q h F A B C o t p (zs_v E r (fu + 1) t l p) := by
        refine ⟨kx, fun gl y bb hsome => ⟨?_, kr gl y bb hsome⟩⟩
        exact (zs_v_ok hW hI.2.1 hN (fu + 1) t l p _ t0 t1 hl hp hpl hsome).2.2.1
      obtain ⟨F29, F30, F31, F32, F33, F34, F35, F36, Fo⟩ := hF
      have hk : rK E f (E.1 13 u) u (E.1 14 v) i2 e2 l q h b2 F A B C o b2 F2 q A B C h o [] := by
        refine ⟨⟨F29, F30, F31, F32, F33, F34⟩, fun k j hj => Fo k j (by omega), ?_, trivial, fun _ _ => ⟨rfl, rfl, rfl⟩, fun _ _ _ => rfl, fun w hw => (by cases hw), ?_, ?_, Int.le_refl _, ?_, Int.le_refl _, obe⟩
        · show q = q + ((0 : Nat) : Int)
          omega
        · show ((0 : Nat) : Int) ≤ b2 - b2
          omega
        · show 2 * ((0 : Nat) : Int) ≤ b2 - b2
          omega
        · rw [Int.sub_self, Int.mul_zero]
          omega
      refine hR _ _ _ _ _ _ _ _ _ _ _ _ _ _ _ _ _ _ ?_
      have srt := zW_srt hW u0 (by omega : u < n)
      by_cases s2 : E.1 13 u = 2
      · rw [zb_2 s2 hc] at hv
        exact rEx H hI hE hW ih hcx (by omega) (by omega) s2 s2 hgd hk rfl rfl rfl F35 F36 hv
      by_cases s3 : E.1 13 u = 3
      · rw [zb_3 s3 hc] at hv
        exact rLs H hI hE hW ih hcx (by omega) (by omega) s3 s3 hgd rfl rfl 201 _ _ _ _ _ _ _ _ _ _ _ _ _ _ _ _ hk F36 (by omega) hv
      have s4 : E.1 13 u = 4 := by omega
      rw [zb_4 s4 hc] at hv
      obtain ⟨w1, w2, w5, w6, w7, w8⟩ := zW_w4 hW u0 (by omega) s4
      by_cases s17 : E.1 15 u = 17
      · rw [decide_eq_true s17] at hv
        refine rStart H hE hcx s4 hk rfl rfl F36 ?_
        exact rStt H hI hE hW ih hcx (by omega) (by omega) s4 s4 s17 hgd rfl rfl 201 _ _ _ _ _ _ _ _ _ _ _ _ _ _ _ _ (fun _ => false) hk (by rw [F35]; exact zMk_0) (by omega) hv
      · have s16 : E.1 15 u = 16 := by
          rcases w1 with w | w | w
          · exact w
          · exact absurd w s17
          · exfalso
            have : eCh E u = true := by
              unfold eCh
              rw [decide_eq_true s4, decide_eq_true w]
              rfl
            rw [← u3, hch] at this
            cases this
        rw [decide_eq_false s17] at hv
        refine rStart H hE hcx s4 hk rfl rfl F36 ?_
        exact rSq H hI hE hW ih hcx (by omega) (by omega) s4 s4 s16 hgd rfl rfl 201 _ _ _ _ _ _ _ _ _ _ _ _ _ _ _ _ (fun _ => false) hk (by omega) (by omega) (fun _ _ => rfl) (fun j j0 j1 => by exfalso; omega) (by omega) (by rw [F35]; exact hv)
end
