/-! The step function, alternative by alternative: own work. -/
section
variable {B sb Lx : Nat} {xs : Nat → Int32} {D : va_G} {cs : Nat → ClassId} {p : Program} {l : Launch} {e : Env} {R : Room} {s : State} {m : MethodId} {args : Array Value} {below : List Frame} {meth : Method} {c : Code} {Q : State → Prop} {s0 k pc : Nat} {L : xm_L} {st r : List Value} {h : xm_H}
set_option maxHeartbeats 4000000 in
set_option maxRecDepth 100000 in
theorem xm_on {i : ClassFile.Instr} {n : Nat} {f2 : xm_F} {h2 : xm_H} (G : xm_G B sb Lx xs D cs l p s m args meth c k) (hd : decode (xm_b k) pc = .ok (i, n)) (hs : xm_do (Lx, xs) i n k pc L st h = some (f2, h2)) (hR : 1 ≤ R.frames ∧ 40 ≤ R.locals) (hm : B + h2.1.length ≤ s.heap.size + R.cells ∧ h2.2 ≤ s0 + R.slots) (kk : xm_J B sb D cs p l e R s m args below meth c Q s0 f2 h2) : xm_J B sb D cs p l e R s m args below meth c Q s0 (k, pc, L, st) h := by
  unfold xm_do at hs
  split at hs
  · cases hs
    exact xm_r_iconst G hd kk
  · cases hs
    exact xm_r_bipush G hd kk
  · cases hs
    exact xm_r_sipush G hd kk
  · cases hs
    exact xm_r_lconst G hd kk
  · cases hs
    exact xm_r_null G hd kk
  · split at hs
    · rename_i v hk
      cases hs
      exact xm_r_ldc G hd hk kk
    · cases hs
  · split at hs
    · rename_i v hk
      cases hs
      exact xm_r_ldc2 G hd hk kk
    · cases hs
  · unfold xm_ilo at hs
    split at hs
    · rename_i x hl
      cases hs
      exact xm_r_ilo_n G hd hl kk
    · cases hs
  · unfold xm_ilo at hs
    split at hs
    · rename_i x hl
      cases hs
      exact xm_r_ilo G hd hl kk
    · cases hs
  · unfold xm_llo at hs
    split at hs
    · rename_i x hl
      cases hs
      exact xm_r_llo_n G hd hl kk
    · cases hs
  · unfold xm_llo at hs
    split at hs
    · rename_i x hl
      cases hs
      exact xm_r_llo G hd hl kk
    · cases hs
  · unfold xm_alo at hs
    split at hs
    · rename_i x hl
      cases hs
      exact xm_r_alo_nr G hd hl kk
    · rename_i hl
      cases hs
      exact xm_r_alo_nz G hd hl kk
    · cases hs
  · unfold xm_alo at hs
    split at hs
    · rename_i x hl
      cases hs
      exact xm_r_alor G hd hl kk
    · rename_i hl
      cases hs
      exact xm_r_aloz G hd hl kk
    · cases hs
  · unfold xm_ist at hs
    split at hs
    · split at hs
      · rename_i hi
        cases hs
        exact xm_r_ist_n G hd hi kk
      · cases hs
    · cases hs
  · unfold xm_ist at hs
    split at hs
    · split at hs
      · rename_i hi
        cases hs
        exact xm_r_ist G hd hi kk
      · cases hs
    · cases hs
  · unfold xm_lst at hs
    split at hs
    · split at hs
      · rename_i hi
        cases hs
        exact xm_r_lst_n G hd hi kk
      · cases hs
    · cases hs
  · unfold xm_lst at hs
    split at hs
    · split at hs
      · rename_i hi
        cases hs
        exact xm_r_lst G hd hi kk
      · cases hs
    · cases hs
  · unfold xm_ast at hs
    split at hs
    · split at hs
      · rename_i hi
        cases hs
        exact xm_r_ast_nr G hd hi kk
      · cases hs
    · split at hs
      · rename_i hi
        cases hs
        exact xm_r_ast_nz G hd hi kk
      · cases hs
    · cases hs
  · unfold xm_ast at hs
    split at hs
    · split at hs
      · rename_i hi
        cases hs
        exact xm_r_astr G hd hi kk
      · cases hs
    · split at hs
      · rename_i hi
        cases hs
        exact xm_r_astz G hd hi kk
      · cases hs
    · cases hs
  · unfold xm_inc at hs
    split at hs
    · rename_i x hl
      split at hs
      · rename_i hi
        cases hs
        exact xm_r_inc G hd hl hi kk
      · cases hs
    · cases hs
  · unfold xm_bi2 at hs
    split at hs
    · cases hs
      exact xm_r_iadd G hd kk
    · cases hs
  · unfold xm_bi2 at hs
    split at hs
    · cases hs
      exact xm_r_isub G hd kk
    · cases hs
  · unfold xm_bi2 at hs
    split at hs
    · cases hs
      exact xm_r_imul G hd kk
    · cases hs
  · unfold xm_bi2 at hs
    split at hs
    · cases hs
      exact xm_r_iand G hd kk
    · cases hs
  · unfold xm_bi2 at hs
    split at hs
    · cases hs
      exact xm_r_ior G hd kk
    · cases hs
  · unfold xm_bi2 at hs
    split at hs
    · cases hs
      exact xm_r_ishl G hd kk
    · cases hs
  · unfold xm_bi2 at hs
    split at hs
    · cases hs
      exact xm_r_ishr G hd kk
    · cases hs
  · unfold xm_bd2 at hs
    split at hs
    · split at hs
      · cases hs
      · rename_i hy
        cases hs
        exact xm_r_idiv G hd hy kk
    · cases hs
  · unfold xm_bd2 at hs
    split at hs
    · split at hs
      · cases hs
      · rename_i hy
        cases hs
        exact xm_r_irem G hd hy kk
    · cases hs
  · unfold xm_l2 at hs
    split at hs
    · cases hs
      exact xm_r_ladd G hd kk
    · cases hs
  · unfold xm_l2 at hs
    split at hs
    · cases hs
      exact xm_r_lmul G hd kk
    · cases hs
  · unfold xm_l2 at hs
    split at hs
    · cases hs
      exact xm_r_land G hd kk
    · cases hs
  · unfold xm_l2 at hs
    split at hs
    · cases hs
      exact xm_r_lor G hd kk
    · cases hs
  · unfold xm_ls at hs
    split at hs
    · cases hs
      exact xm_r_lshl G hd kk
    · cases hs
  · unfold xm_ls at hs
    split at hs
    · cases hs
      exact xm_r_lshr G hd kk
    · cases hs
  · unfold xm_ls at hs
    split at hs
    · cases hs
      exact xm_r_lushr G hd kk
    · cases hs
  · split at hs
    · cases hs
      exact xm_r_lcmp G hd kk
    · cases hs
  · split at hs
    · cases hs
      exact xm_r_i2l G hd kk
    · cases hs
  · split at hs
    · cases hs
      exact xm_r_l2i G hd kk
    · cases hs
  · split at hs
    · split at hs
      · rename_i hv
        cases hs
        exact xm_r_dup G hd hv kk
      · cases hs
    · cases hs
  · split at hs
    · split at hs
      · rename_i hv
        cases hs
        exact xm_r_dup_x1 G hd hv.1 hv.2 kk
      · cases hs
    · cases hs
  · split at hs
    · split at hs
      · rename_i hv
        cases hs
        exact xm_r_dup_x2 G hd hv.1 hv.2.1 hv.2.2 kk
      · cases hs
    · cases hs
  · split at hs
    · split at hs
      · rename_i hv
        cases hs
        exact xm_r_dup2 G hd hv.1 hv.2 kk
      · cases hs
    · cases hs
  · split at hs
    · split at hs
      · rename_i hv
        cases hs
        exact xm_r_pop G hd hv kk
      · cases hs
    · cases hs
  · split at hs
    · unfold xm_jp at hs
      split at hs
      · rename_i ho
        cases hs
        rename ClassFile.Cond => cnd
        cases cnd
        · exact xm_r_if_eq G hd ho kk
        · exact xm_r_if_ne G hd ho kk
        · exact xm_r_if_lt G hd ho kk
        · exact xm_r_if_ge G hd ho kk
        · exact xm_r_if_gt G hd ho kk
        · exact xm_r_if_le G hd ho kk
      · cases hs
    · cases hs
  · split at hs
    · unfold xm_jp at hs
      split at hs
      · rename_i ho
        cases hs
        rename ClassFile.Cond => cnd
        cases cnd
        · exact xm_r_ic_eq G hd ho kk
        · exact xm_r_ic_ne G hd ho kk
        · exact xm_r_ic_lt G hd ho kk
        · exact xm_r_ic_ge G hd ho kk
        · exact xm_r_ic_gt G hd ho kk
        · exact xm_r_ic_le G hd ho kk
      · cases hs
    · cases hs
  · split at hs
    · unfold xm_jp at hs
      split at hs
      · rename_i ho
        cases hs
        exact xm_r_ifnullN G hd ho kk
      · cases hs
    · unfold xm_jp at hs
      split at hs
      · rename_i ho
        cases hs
        exact xm_r_ifnull G hd ho kk
      · cases hs
    · cases hs
  · split at hs
    · unfold xm_jp at hs
      split at hs
      · rename_i ho
        cases hs
        exact xm_r_ifnonnullN G hd ho kk
      · cases hs
    · unfold xm_jp at hs
      split at hs
      · rename_i ho
        cases hs
        exact xm_r_ifnonnull G hd ho kk
      · cases hs
    · cases hs
  · unfold xm_jp at hs
    split at hs
    · rename_i ho
      cases hs
      exact xm_r_goto G hd ho kk
    · cases hs
  · unfold xm_tsw at hs
    split at hs
    · split at hs
      · rename_i hx
        split at hs
        · rename_i ho
          cases hs
          exact xm_r_tout G hd hx ho kk
        · cases hs
      · rename_i hx
        split at hs
        · rename_i off hf
          split at hs
          · rename_i ho
            cases hs
            exact xm_r_tin G hd hx hf ho kk
          · cases hs
        · cases hs
    · cases hs
  · unfold xm_lsw at hs
    split at hs
    · split at hs
      · rename_i hx
        cases hs
        exact xm_r_lsw G hd hx.1 hx.2 kk
      · cases hs
    · cases hs
  · unfold xm_gf at hs
    split at hs
    · rename_i hc
      split at hs
      · rename_i hi
        split at hs
        · rename_i hci
          subst hci
          split at hs
          · rename_i v hv
            cases hs
            exact xm_r_gf G hd hc hi hv kk
          · cases hs
        · cases hs
      · cases hs
    · cases hs
  · unfold xm_pf at hs
    split at hs
    · rename_i hc
      split at hs
      · rename_i hi
        split at hs
        · rename_i hq
          obtain ⟨hci, h3, h4, h5⟩ := hq
          subst hci
          cases hs
          exact xm_r_pf G hd hc hi h3 h4 h5 kk
        · cases hs
      · cases hs
    · cases hs
  · unfold xm_iald at hs
    split at hs
    · split at hs
      · rename_i hz
        subst hz
        split at hs
        · cases hs
        · rename_i hj
          cases hs
          exact xm_r_sld G hd hj kk
      · split at hs
        · rename_i hi
          split at hs
          · cases hs
          · rename_i hj
            cases hs
            exact xm_r_iald G hd hi hj kk
        · cases hs
    · cases hs
  · unfold xm_lald at hs
    split at hs
    · split at hs
      · rename_i hi
        split at hs
        · cases hs
        · rename_i hj
          cases hs
          exact xm_r_lald G hd hi hj kk
      · cases hs
    · cases hs
  · unfold xm_zald at hs
    split at hs
    · split at hs
      · rename_i hi
        split at hs
        · cases hs
        · rename_i hj
          cases hs
          exact xm_r_zald G hd hi hj kk
      · cases hs
    · cases hs
  · unfold xm_aald at hs
    split at hs
    · split at hs
      · rename_i hi
        split at hs
        · cases hs
        · rename_i hj
          cases hs
          exact xm_r_aald G hd hi hj kk
      · cases hs
    · cases hs
  · unfold xm_iast at hs
    split at hs
    · split at hs
      · rename_i hi
        split at hs
        · cases hs
        · rename_i hj
          cases hs
          exact xm_r_iast G hd hi hj kk
      · cases hs
    · cases hs
  · unfold xm_last at hs
    split at hs
    · split at hs
      · rename_i hi
        split at hs
        · cases hs
        · rename_i hj
          cases hs
          exact xm_r_last G hd hi hj kk
      · cases hs
    · cases hs
  · unfold xm_zast at hs
    split at hs
    · split at hs
      · rename_i hi
        split at hs
        · cases hs
        · rename_i hj
          cases hs
          exact xm_r_zast G hd hi (fun q => hj (Or.inl q)) (Classical.byContradiction fun q => hj (Or.inr q)) kk
      · cases hs
    · cases hs
  · unfold xm_aast at hs
    split at hs
    · split at hs
      · rename_i hi hv
        split at hs
        · cases hs
        · rename_i hj
          cases hs
          exact xm_r_aast G hd hi hv (Classical.byContradiction fun q => hj (Or.inr q)) (fun q => hj (Or.inl q)) kk
      · cases hs
    · cases hs
  · unfold xm_len at hs
    split at hs
    · split at hs
      · rename_i hz
        subst hz
        cases hs
        exact xm_r_slen G hd kk
      · split at hs
        · rename_i hi
          split at hs
          · rename_i ht
            cases hs
            exact xm_r_len G hd hi ht kk
          · cases hs
        · cases hs
    · cases hs
  · unfold xm_nob at hs
    split at hs
    · rename_i hc
      cases hs
      exact xm_r_new G hd hc (by simpa [xm_new] using hm) kk
    · cases hs
  · unfold xm_nar at hs
    split at hs
    · split at hs
      · cases hs
      · rename_i hn
        cases hs
        exact xm_r_nai G hd hn (by simpa [xm_new] using hm) kk
    · split at hs
      · cases hs
      · rename_i hn
        cases hs
        exact xm_r_nal G hd hn (by simpa [xm_new] using hm) kk
    · split at hs
      · cases hs
      · rename_i hn
        cases hs
        exact xm_r_naz G hd hn (by simpa [xm_new] using hm) kk
    · cases hs
  · unfold xm_anw at hs
    split at hs
    · rename_i hc
      split at hs
      · cases hs
      · rename_i hn
        cases hs
        exact xm_r_anw G hd hc hn (by simpa [xm_new] using hm) kk
    · cases hs
  · unfold xm_oin at hs
    split at hs
    · rename_i hc
      split at hs
      · rename_i hw
        cases hs
        exact xm_r_oin G hd hc hw hR kk
      · cases hs
    · cases hs
  · unfold xm_lib at hs
    split at hs
    · rename_i hc
      split at hs
      · rename_i h0 h1
        split at hs
        · cases hs
        · rename_i hn
          cases hs
          exact xm_r_cpy G hd hc h0 h1 hn hR kk
      · cases hs
    · rename_i hc
      split at hs
      · cases hs
      · rename_i hn
        cases hs
        exact xm_r_max G hd hc hn hR hm kk
    · rename_i hc
      split at hs
      · cases hs
      · rename_i hn
        cases hs
        exact xm_r_min G hd hc hn hR hm kk
    · cases hs
  · cases hs
end
