/-! ===== Keeper.hopeFor, showBest ===== -/
/-- the first of the best showings: what it brings, whom it shows -/
def sBest (ct G : Nat → Nat → Int) (nf nc : Nat) (me : Nat → Int) : Int × List Int := (sAll ct nf nc 0 me).foldl (sStep G 0 [] 0) (0, List.replicate nc (-1))
section Keeper
variable {Γ : xSh} {σ : Nat → Nat → Int} {k g mask d n nf nc : Nat} {Q : xV → xMem → Prop} {ct G jo ic : Nat → Nat → Int} {me : Nat → Int}
set_option maxHeartbeats 4000000 in
theorem c_hopeFor (hS : SK Γ k) (hR : SKr Γ k) (hB : SBase σ k g mask nf nc ct G me) (hl : ∀ f, f < nf → σ (k + 20) f = me f)
    (hQ : ∀ σ', Sm (fun q => q = k + 23) σ σ' → (∀ m c, c + m = nc → σ' (k + 23) c = sHope (ctm mask ct) G nf me m c) → Q vu (Γ, σ')) : xRM M_X0_hopeFor (d + 3) (0, 0) [vr k, vr g] (Γ, σ) Q := by
  obtain ⟨hg, hmask, hnf, hnc, k8, k9, k10, kt, hme⟩ := hB
  refine xRM_of (by decide) (Nat.le_of_ble_eq_true rfl) ?_
  have loop : ∀ (n : Nat) (x : Int) (σ' : Nat → Nat → Int) (v3 v4 : xV), x = (n : Int) - 1 → n ≤ nc → Sm (fun q => q = k + 23) σ σ' → (∀ m c, c + m = nc → n ≤ c → σ' (k + 23) c = sHope (ctm mask ct) G nf me m c) → xR M_X0_hopeFor (d + 3) (0, 0) 17 [vr k, vr g, vi x, v3, v4] [] (Γ, σ') Q := by
    intro n
    induction n with
    | zero =>
      intro x σ' v3 v4 hx hn hm hh
      refine b_X0_hopeFor_17 _ _ _ _ ?_
      simp only [k_X0_hopeFor_17, x_push, x_iload, x_lload, x_aload, x_bin, x_div, x_un, x_lbin, x_ldiv, x_lcmp, x_i2l, x_l2i, x_dup, x_pop, x_dup2, x_c1, x_c2, x_null, x_cat1, x_istore, x_astore, x_lstore, x_iinc, x_nol, x_tsw, xsw, x_lsw, xlsw, x_ret, x_zret, x_lret, x_aret, x_vret, x_getI, x_getL, x_getR, x_putI, x_putZ, x_putL, x_iaload, x_zaload, x_aaload, x_iastore, x_zastore, x_alen, x_mm, x_acopy, xpush, xJ, xK, x_cV0, x_cV1, x_cV2, x_cV3, x_cV4, x_cV5, x_cV6, x_cV7, x_cV8, x_cS1, x_cS2, x_cS3, x_cS4, x_cS5, List.getD_cons_zero, List.getD_cons_succ, List.set_cons_zero, List.set_cons_succ, List.length_cons, List.length_nil, Nat.zero_add, true_and, and_true, List.getD_nil, not_true, not_false_eq_true, Int.toNat_natCast, false_implies, true_implies, if_true, if_false, Int.toNat_zero, Int.toNat_one, true_or, or_true, Int.reduceEq, Int.reduceLT, Int.reduceLE, Int.reduceNe, Int.reduceNeg, Int.reduceAdd, Int.reduceSub, Int.reduceMul, Int.reduceToNat, Nat.reduceLT, Nat.reduceLeDiff, Nat.reduceAdd, Nat.reduceEqDiff, Nat.reduceSub, not_false_iff, and_self, implies_true, false_and, and_false, or_self, false_or, or_false, Int.cast_ofNat_Int, Int.natCast_nonneg]
      exact ⟨fun _ => hQ σ' hm (fun m c hc => hh m c hc (by omega)), fun q => absurd (show x < 0 by omega) q⟩
    | succ c ih =>
      intro x σ' v3 v4 hx hn hm hh
      have hx : x = (c : Int) := by omega
      subst hx
      have hcn : c < nc := by omega
      obtain ⟨⟨r1, r2⟩, ⟨r3, r4⟩, ⟨r5, r6⟩⟩ := hR c (by omega)
      have rg : gF Γ g c = some (g + 1 + c) ∧ gK Γ (g + 1 + c) = some (.inr (.int, 6)) := by
        rcases hg with rfl | rfl
        · exact ⟨by rw [r3], by rw [show k + 7 + 1 + c = k + 8 + c by omega]; exact r4⟩
        · exact ⟨by rw [r5], by rw [show k + 13 + 1 + c = k + 14 + c by omega]; exact r6⟩
      have ga : (∃ ty, gArr Γ g ty ∧ ty.isReference = true) = True := by
        rcases hg with rfl | rfl
        · exact SK.a15 hS
        · exact SK.a16 hS
      have gl : gLen Γ g = 5 := by
        rcases hg with rfl | rfl
        · exact SK.l15 hS
        · exact SK.l16 hS
      obtain ⟨m, hmc⟩ : ∃ m, c + 1 + m = nc := ⟨nc - (c + 1), by omega⟩
      have hnext := hh m (c + 1) hmc (by omega)
      have hb1 := sHope_nn (ctm mask ct) G nf me m (c + 1)
      have hb2 := sHope_le (ct := ctm mask ct) (G := G) (me := me) (nf := nf) (nc := nc) (fun c hc f hf => (kt c hc f hf).2.2.2.2) m (c + 1) (by omega)
      have inner : ∀ (nn f : Nat), f + nn = nf → xR M_X0_hopeFor (d + 3) (0, 0) 26 [vr k, vr g, vi (c : Int), vi (sMx (ctm mask ct) G me c f), vi f] [] (Γ, σ') Q := by
        intro nn
        induction nn with
        | zero =>
          intro f hf
          have hf : f = nf := by omega
          subst hf
          refine b_X0_hopeFor_26 _ _ _ _ ?_
          have e8 : σ' k 8 = f := by rw [hm k (by omega)]; exact k8
          have hx1 := sMx_nn (ctm mask ct) G me c f
          have hx2 := sMx_le (ct := ctm mask ct) (me := me) (G := G) (c := c) (B := 1999) (by omega) (n := f) (fun z hz => (kt c hcn z hz).2.2.2.2)
          have fin : xR M_X0_hopeFor (d + 3) (0, 0) 17 [vr k, vr g, vi (oadd (c : Int) (-1)), vi (sMx (ctm mask ct) G me c f), vi f] [] (Γ, upd2 σ' (k + 23) c (oadd (sHope (ctm mask ct) G f me m (c + 1)) (sMx (ctm mask ct) G me c f))) Q := by
            rw [oadd_id (a := (c : Int)) (b := -1) (by omega) (by omega), oadd_id (by omega) (by omega)]
            refine ih _ _ _ _ (by omega) (by omega) (hm.put rfl) (fun m' c' hc' hle => ?_)
            by_cases e : c' = c
            · subst e
              have : m' = m + 1 := by omega
              subst this
              rw [upd2_eq]
              rfl
            · rw [upd2_col e]
              exact hh m' c' hc' (by omega)
          simp only [k_X0_hopeFor_26, x_push, x_iload, x_lload, x_aload, x_bin, x_div, x_un, x_lbin, x_ldiv, x_lcmp, x_i2l, x_l2i, x_dup, x_pop, x_dup2, x_c1, x_c2, x_null, x_cat1, x_istore, x_astore, x_lstore, x_iinc, x_nol, x_tsw, xsw, x_lsw, xlsw, x_ret, x_zret, x_lret, x_aret, x_vret, x_getI, x_getL, x_getR, x_putI, x_putZ, x_putL, x_iaload, x_zaload, x_aaload, x_iastore, x_zastore, x_alen, x_mm, x_acopy, xpush, xJ, xK, x_cV0, x_cV1, x_cV2, x_cV3, x_cV4, x_cV5, x_cV6, x_cV7, x_cV8, x_cS1, x_cS2, x_cS3, x_cS4, x_cS5, List.getD_cons_zero, List.getD_cons_succ, List.set_cons_zero, List.set_cons_succ, List.length_cons, List.length_nil, Nat.zero_add, true_and, and_true, List.getD_nil, not_true, not_false_eq_true, Int.toNat_natCast, false_implies, true_implies, if_true, if_false, Int.toNat_zero, Int.toNat_one, true_or, or_true, Int.reduceEq, Int.reduceLT, Int.reduceLE, Int.reduceNe, Int.reduceNeg, Int.reduceAdd, Int.reduceSub, Int.reduceMul, Int.reduceToNat, Nat.reduceLT, Nat.reduceLeDiff, Nat.reduceAdd, Nat.reduceEqDiff, Nat.reduceSub, not_false_iff, and_self, implies_true, false_and, and_false, or_self, false_or, or_false, Int.cast_ofNat_Int, Int.natCast_nonneg, SK.f0 hS, SK.f1 hS, SK.f2 hS, SK.f3 hS, SK.f4 hS, SK.f5 hS, SK.f6 hS, SK.f7 hS, SK.f8 hS, SK.f9 hS, SK.l9 hS, SK.a9 hS, SK.e9 hS, SK.f10 hS, SK.l10 hS, SK.a10 hS, SK.e10 hS, SK.f11 hS, SK.l11 hS, SK.a11 hS, SK.e11 hS, SK.f12 hS, SK.l12 hS, SK.a12 hS, SK.e12 hS, SK.f13 hS, SK.l13 hS, SK.a13 hS, SK.e13 hS, SK.f14 hS, SK.l14 hS, SK.a14 hS, SK.f15 hS, SK.l15 hS, SK.a15 hS, SK.f16 hS, SK.l16 hS, SK.a16 hS, e8, (show oadd (c : Int) 1 = ((c + 1 : Nat) : Int) by (first | rw [oadd_id (by omega) (by omega)] | rw [osub_id (by omega) (by omega)] | rw [omul_id (by omega) (by omega)]) <;> omega), hnext, eq_true (show (c : Int) < 6 by omega), eq_true (show ((c + 1 : Nat) : Int) < 6 by omega)]
          exact ⟨fun _ => fin, fun h => absurd (Int.le_refl _) h⟩
        | succ nn ih2 =>
          intro f hf
          have hfn : f < nf := by omega
          obtain ⟨t1, t2, ⟨t3, t4⟩, t5, t6⟩ := kt c hcn f hfn
          refine b_X0_hopeFor_26 _ _ _ _ ?_
          have e8 : σ' k 8 = nf := by rw [hm k (by omega)]; exact k8
          have e10 : σ' k 10 = mask := by rw [hm k (by omega)]; exact k10
          have g1 : σ' (k + 2 + c) f = ct c f := by rw [hm _ (by omega)]; exact t1
          have l1 : σ' (k + 20) f = me f := by rw [hm _ (by omega)]; exact hl f hfn
          simp only [k_X0_hopeFor_26, x_push, x_iload, x_lload, x_aload, x_bin, x_div, x_un, x_lbin, x_ldiv, x_lcmp, x_i2l, x_l2i, x_dup, x_pop, x_dup2, x_c1, x_c2, x_null, x_cat1, x_istore, x_astore, x_lstore, x_iinc, x_nol, x_tsw, xsw, x_lsw, xlsw, x_ret, x_zret, x_lret, x_aret, x_vret, x_getI, x_getL, x_getR, x_putI, x_putZ, x_putL, x_iaload, x_zaload, x_aaload, x_iastore, x_zastore, x_alen, x_mm, x_acopy, xpush, xJ, xK, x_cV0, x_cV1, x_cV2, x_cV3, x_cV4, x_cV5, x_cV6, x_cV7, x_cV8, x_cS1, x_cS2, x_cS3, x_cS4, x_cS5, List.getD_cons_zero, List.getD_cons_succ, List.set_cons_zero, List.set_cons_succ, List.length_cons, List.length_nil, Nat.zero_add, true_and, and_true, List.getD_nil, not_true, not_false_eq_true, Int.toNat_natCast, false_implies, true_implies, if_true, if_false, Int.toNat_zero, Int.toNat_one, true_or, or_true, Int.reduceEq, Int.reduceLT, Int.reduceLE, Int.reduceNe, Int.reduceNeg, Int.reduceAdd, Int.reduceSub, Int.reduceMul, Int.reduceToNat, Nat.reduceLT, Nat.reduceLeDiff, Nat.reduceAdd, Nat.reduceEqDiff, Nat.reduceSub, not_false_iff, and_self, implies_true, false_and, and_false, or_self, false_or, or_false, Int.cast_ofNat_Int, Int.natCast_nonneg, SK.f0 hS, SK.f1 hS, SK.f2 hS, SK.f3 hS, SK.f4 hS, SK.f5 hS, SK.f6 hS, SK.f7 hS, SK.f8 hS, SK.f9 hS, SK.l9 hS, SK.a9 hS, SK.e9 hS, SK.f10 hS, SK.l10 hS, SK.a10 hS, SK.e10 hS, SK.f11 hS, SK.l11 hS, SK.a11 hS, SK.e11 hS, SK.f12 hS, SK.l12 hS, SK.a12 hS, SK.e12 hS, SK.f13 hS, SK.l13 hS, SK.a13 hS, SK.e13 hS, SK.f14 hS, SK.l14 hS, SK.a14 hS, SK.f15 hS, SK.l15 hS, SK.a15 hS, SK.f16 hS, SK.l16 hS, SK.a16 hS, e8, eq_false (show ¬ ((nf : Int) ≤ (f : Int)) by omega)]
          refine c_isAllowed hS hR (by omega) (by omega) e10 hmask (fun q0 q1 q2 => ?_) (fun q => ?_)
          · rw [g1] at q1
            rw [g1, l1] at q2
            have g2 : σ' (g + 1 + c) f = G c f := by rw [hm _ (by omega)]; exact t2 q1
            simp only [x_push, x_iload, x_lload, x_aload, x_bin, x_div, x_un, x_lbin, x_ldiv, x_lcmp, x_i2l, x_l2i, x_dup, x_pop, x_dup2, x_c1, x_c2, x_null, x_cat1, x_istore, x_astore, x_lstore, x_iinc, x_nol, x_tsw, xsw, x_lsw, xlsw, x_ret, x_zret, x_lret, x_aret, x_vret, x_getI, x_getL, x_getR, x_putI, x_putZ, x_putL, x_iaload, x_zaload, x_aaload, x_iastore, x_zastore, x_alen, x_mm, x_acopy, xpush, xJ, xK, x_cV0, x_cV1, x_cV2, x_cV3, x_cV4, x_cV5, x_cV6, x_cV7, x_cV8, x_cS1, x_cS2, x_cS3, x_cS4, x_cS5, List.getD_cons_zero, List.getD_cons_succ, List.set_cons_zero, List.set_cons_succ, List.length_cons, List.length_nil, Nat.zero_add, true_and, and_true, List.getD_nil, not_true, not_false_eq_true, Int.toNat_natCast, false_implies, true_implies, if_true, if_false, Int.toNat_zero, Int.toNat_one, true_or, or_true, Int.reduceEq, Int.reduceLT, Int.reduceLE, Int.reduceNe, Int.reduceNeg, Int.reduceAdd, Int.reduceSub, Int.reduceMul, Int.reduceToNat, Nat.reduceLT, Nat.reduceLeDiff, Nat.reduceAdd, Nat.reduceEqDiff, Nat.reduceSub, not_false_iff, and_self, implies_true, false_and, and_false, or_self, false_or, or_false, Int.cast_ofNat_Int, Int.natCast_nonneg, SK.f0 hS, SK.f1 hS, SK.f2 hS, SK.f3 hS, SK.f4 hS, SK.f5 hS, SK.f6 hS, SK.f7 hS, SK.f8 hS, SK.f9 hS, SK.l9 hS, SK.a9 hS, SK.e9 hS, SK.f10 hS, SK.l10 hS, SK.a10 hS, SK.e10 hS, SK.f11 hS, SK.l11 hS, SK.a11 hS, SK.e11 hS, SK.f12 hS, SK.l12 hS, SK.a12 hS, SK.e12 hS, SK.f13 hS, SK.l13 hS, SK.a13 hS, SK.e13 hS, SK.f14 hS, SK.l14 hS, SK.a14 hS, SK.f15 hS, SK.l15 hS, SK.a15 hS, SK.f16 hS, SK.l16 hS, SK.a16 hS, rg.1, ga, gl, gArr_of rg.2, gLen_of rg.2, eq_true (show (c : Int) < 5 by omega), eq_true (show (f : Int) < 6 by omega), g2]
            rw [oadd_id (a := (f : Int)) (b := 1) (by omega) (by omega)]
            have := ih2 (f + 1) (by omega)
            have ectm : ctm mask ct c f = ct c f := by unfold ctm; rw [if_pos q0]
            simp only [sMx, ectm] at this
            rw [if_pos ⟨q1, q2⟩] at this
            exact this
          · rw [g1, l1] at q
            simp only [x_push, x_iload, x_lload, x_aload, x_bin, x_div, x_un, x_lbin, x_ldiv, x_lcmp, x_i2l, x_l2i, x_dup, x_pop, x_dup2, x_c1, x_c2, x_null, x_cat1, x_istore, x_astore, x_lstore, x_iinc, x_nol, x_tsw, xsw, x_lsw, xlsw, x_ret, x_zret, x_lret, x_aret, x_vret, x_getI, x_getL, x_getR, x_putI, x_putZ, x_putL, x_iaload, x_zaload, x_aaload, x_iastore, x_zastore, x_alen, x_mm, x_acopy, xpush, xJ, xK, x_cV0, x_cV1, x_cV2, x_cV3, x_cV4, x_cV5, x_cV6, x_cV7, x_cV8, x_cS1, x_cS2, x_cS3, x_cS4, x_cS5, List.getD_cons_zero, List.getD_cons_succ, List.set_cons_zero, List.set_cons_succ, List.length_cons, List.length_nil, Nat.zero_add, true_and, and_true, List.getD_nil, not_true, not_false_eq_true, Int.toNat_natCast, false_implies, true_implies, if_true, if_false, Int.toNat_zero, Int.toNat_one, true_or, or_true, Int.reduceEq, Int.reduceLT, Int.reduceLE, Int.reduceNe, Int.reduceNeg, Int.reduceAdd, Int.reduceSub, Int.reduceMul, Int.reduceToNat, Nat.reduceLT, Nat.reduceLeDiff, Nat.reduceAdd, Nat.reduceEqDiff, Nat.reduceSub, not_false_iff, and_self, implies_true, false_and, and_false, or_self, false_or, or_false, Int.cast_ofNat_Int, Int.natCast_nonneg]
            rw [oadd_id (a := (f : Int)) (b := 1) (by omega) (by omega)]
            have := ih2 (f + 1) (by omega)
            have ne : ¬ (ctm mask ct c f ≠ -1 ∧ ctm mask ct c f ≤ me f) := by
              unfold ctm
              by_cases z : xbit mask f = 1
              · rw [if_pos z]; exact fun y => q ⟨z, y⟩
              · rw [if_neg z]; exact fun y => y.1 rfl
            simp only [sMx] at this
            rw [if_neg ne] at this
            exact this
      refine b_X0_hopeFor_17 _ _ _ _ ?_
      simp only [k_X0_hopeFor_17, x_push, x_iload, x_lload, x_aload, x_bin, x_div, x_un, x_lbin, x_ldiv, x_lcmp, x_i2l, x_l2i, x_dup, x_pop, x_dup2, x_c1, x_c2, x_null, x_cat1, x_istore, x_astore, x_lstore, x_iinc, x_nol, x_tsw, xsw, x_lsw, xlsw, x_ret, x_zret, x_lret, x_aret, x_vret, x_getI, x_getL, x_getR, x_putI, x_putZ, x_putL, x_iaload, x_zaload, x_aaload, x_iastore, x_zastore, x_alen, x_mm, x_acopy, xpush, xJ, xK, x_cV0, x_cV1, x_cV2, x_cV3, x_cV4, x_cV5, x_cV6, x_cV7, x_cV8, x_cS1, x_cS2, x_cS3, x_cS4, x_cS5, List.getD_cons_zero, List.getD_cons_succ, List.set_cons_zero, List.set_cons_succ, List.length_cons, List.length_nil, Nat.zero_add, true_and, and_true, List.getD_nil, not_true, not_false_eq_true, Int.toNat_natCast, false_implies, true_implies, if_true, if_false, Int.toNat_zero, Int.toNat_one, true_or, or_true, Int.reduceEq, Int.reduceLT, Int.reduceLE, Int.reduceNe, Int.reduceNeg, Int.reduceAdd, Int.reduceSub, Int.reduceMul, Int.reduceToNat, Nat.reduceLT, Nat.reduceLeDiff, Nat.reduceAdd, Nat.reduceEqDiff, Nat.reduceSub, not_false_iff, and_self, implies_true, false_and, and_false, or_self, false_or, or_false, Int.cast_ofNat_Int, Int.natCast_nonneg]
      exact ⟨fun q => absurd q (by omega), fun _ => inner nf 0 (by omega)⟩
  refine b_X0_hopeFor_0 _ _ _ _ ?_
  show k_X0_hopeFor_0 (d + 2) Q (0, 0) [vr k, vr g, vu, vu, vu] [] (Γ, σ)
  simp only [k_X0_hopeFor_0, x_push, x_iload, x_lload, x_aload, x_bin, x_div, x_un, x_lbin, x_ldiv, x_lcmp, x_i2l, x_l2i, x_dup, x_pop, x_dup2, x_c1, x_c2, x_null, x_cat1, x_istore, x_astore, x_lstore, x_iinc, x_nol, x_tsw, xsw, x_lsw, xlsw, x_ret, x_zret, x_lret, x_aret, x_vret, x_getI, x_getL, x_getR, x_putI, x_putZ, x_putL, x_iaload, x_zaload, x_aaload, x_iastore, x_zastore, x_alen, x_mm, x_acopy, xpush, xJ, xK, x_cV0, x_cV1, x_cV2, x_cV3, x_cV4, x_cV5, x_cV6, x_cV7, x_cV8, x_cS1, x_cS2, x_cS3, x_cS4, x_cS5, List.getD_cons_zero, List.getD_cons_succ, List.set_cons_zero, List.set_cons_succ, List.length_cons, List.length_nil, Nat.zero_add, true_and, and_true, List.getD_nil, not_true, not_false_eq_true, Int.toNat_natCast, false_implies, true_implies, if_true, if_false, Int.toNat_zero, Int.toNat_one, true_or, or_true, Int.reduceEq, Int.reduceLT, Int.reduceLE, Int.reduceNe, Int.reduceNeg, Int.reduceAdd, Int.reduceSub, Int.reduceMul, Int.reduceToNat, Nat.reduceLT, Nat.reduceLeDiff, Nat.reduceAdd, Nat.reduceEqDiff, Nat.reduceSub, not_false_iff, and_self, implies_true, false_and, and_false, or_self, false_or, or_false, Int.cast_ofNat_Int, Int.natCast_nonneg, SK.f0 hS, SK.f1 hS, SK.f2 hS, SK.f3 hS, SK.f4 hS, SK.f5 hS, SK.f6 hS, SK.f7 hS, SK.f8 hS, SK.f9 hS, SK.l9 hS, SK.a9 hS, SK.e9 hS, SK.f10 hS, SK.l10 hS, SK.a10 hS, SK.e10 hS, SK.f11 hS, SK.l11 hS, SK.a11 hS, SK.e11 hS, SK.f12 hS, SK.l12 hS, SK.a12 hS, SK.e12 hS, SK.f13 hS, SK.l13 hS, SK.a13 hS, SK.e13 hS, SK.f14 hS, SK.l14 hS, SK.a14 hS, SK.f15 hS, SK.l15 hS, SK.a15 hS, SK.f16 hS, SK.l16 hS, SK.a16 hS, k9, eq_true (show (nc : Int) < 6 by omega), upd2_row (show k ≠ k + 23 by omega)]
  rw [osub_id (by omega) (by omega)]
  refine loop nc _ _ _ _ rfl (Nat.le_refl _) (Sm.rf.put rfl) (fun m c hc hle => ?_)
  have hcn : c = nc := by omega
  have hm0 : m = 0 := by omega
  subst hcn hm0
  rw [upd2_eq]
  rfl
/-- what showing the best may write -/
def RB (k : Nat) : Nat → Prop := fun q => RS k q ∨ q = k + 23
set_option maxHeartbeats 4000000 in
theorem c_showBest (hS : SK Γ k) (hR : SKr Γ k) (hg : g = k + 7 ∨ g = k + 13) (hmask : mask < 64) (hK : KT2 σ k nf nc ct jo ic me) (hB : TB nf nc ct jo ic me) (hG : (g = k + 7 ∧ G = jo) ∨ (g = k + 13 ∧ G = ic))
    (hQ : ∀ σ', Sm (RB k) σ σ' → (∀ j, j ≠ 10 → j ≠ 11 → σ' k j = σ k j) → σ' k 10 = mask → σ' k 11 = (sBest (ctm mask ct) G nf nc me).1 → (∀ i, i < nc → σ' (k + 21) i = (sBest (ctm mask ct) G nf nc me).2.getD i 0) → (∀ m c, c + m = nc → σ' (k + 23) c = sHope (ctm mask ct) G nf me m c) → Q (vi (sBest (ctm mask ct) G nf nc me).1) (Γ, σ')) : xRM M_X0_showBest (d + nc + 4) (0, 0) [vr k, vr g, vi mask] (Γ, σ) Q := by
  obtain ⟨k8, k9, k19, kt⟩ := hK
  obtain ⟨hnf, hnc, hme, htb⟩ := hB
  refine xRM_of (by decide) (Nat.le_of_ble_eq_true rfl) ?_
  refine b_X0_showBest_0 _ _ _ _ ?_
  show k_X0_showBest_0 (d + nc + 3) Q (0, 0) [vr k, vr g, vi mask, vu] [] (Γ, σ)
  simp only [k_X0_showBest_0, x_push, x_iload, x_lload, x_aload, x_bin, x_div, x_un, x_lbin, x_ldiv, x_lcmp, x_i2l, x_l2i, x_dup, x_pop, x_dup2, x_c1, x_c2, x_null, x_cat1, x_istore, x_astore, x_lstore, x_iinc, x_nol, x_tsw, xsw, x_lsw, xlsw, x_ret, x_zret, x_lret, x_aret, x_vret, x_getI, x_getL, x_getR, x_putI, x_putZ, x_putL, x_iaload, x_zaload, x_aaload, x_iastore, x_zastore, x_alen, x_mm, x_acopy, xpush, xJ, xK, x_cV0, x_cV1, x_cV2, x_cV3, x_cV4, x_cV5, x_cV6, x_cV7, x_cV8, x_cS1, x_cS2, x_cS3, x_cS4, x_cS5, List.getD_cons_zero, List.getD_cons_succ, List.set_cons_zero, List.set_cons_succ, List.length_cons, List.length_nil, Nat.zero_add, true_and, and_true, List.getD_nil, not_true, not_false_eq_true, Int.toNat_natCast, false_implies, true_implies, if_true, if_false, Int.toNat_zero, Int.toNat_one, true_or, or_true, Int.reduceEq, Int.reduceLT, Int.reduceLE, Int.reduceNe, Int.reduceNeg, Int.reduceAdd, Int.reduceSub, Int.reduceMul, Int.reduceToNat, Nat.reduceLT, Nat.reduceLeDiff, Nat.reduceAdd, Nat.reduceEqDiff, Nat.reduceSub, not_false_iff, and_self, implies_true, false_and, and_false, or_self, false_or, or_false, Int.cast_ofNat_Int, Int.natCast_nonneg, SK.f0 hS, SK.f1 hS, SK.f2 hS, SK.f3 hS, SK.f4 hS, SK.f5 hS, SK.f6 hS, SK.f7 hS, SK.f8 hS, SK.f9 hS, SK.l9 hS, SK.a9 hS, SK.e9 hS, SK.f10 hS, SK.l10 hS, SK.a10 hS, SK.e10 hS, SK.f11 hS, SK.l11 hS, SK.a11 hS, SK.e11 hS, SK.f12 hS, SK.l12 hS, SK.a12 hS, SK.e12 hS, SK.f13 hS, SK.l13 hS, SK.a13 hS, SK.e13 hS, SK.f14 hS, SK.l14 hS, SK.a14 hS, SK.f15 hS, SK.l15 hS, SK.a15 hS, SK.f16 hS, SK.l16 hS, SK.a16 hS]
  refine c_fillPurses (d := d + nc + 2) hS (fun σ1 h1 h2 => ?_)
  simp only [x_push, x_iload, x_lload, x_aload, x_bin, x_div, x_un, x_lbin, x_ldiv, x_lcmp, x_i2l, x_l2i, x_dup, x_pop, x_dup2, x_c1, x_c2, x_null, x_cat1, x_istore, x_astore, x_lstore, x_iinc, x_nol, x_tsw, xsw, x_lsw, xlsw, x_ret, x_zret, x_lret, x_aret, x_vret, x_getI, x_getL, x_getR, x_putI, x_putZ, x_putL, x_iaload, x_zaload, x_aaload, x_iastore, x_zastore, x_alen, x_mm, x_acopy, xpush, xJ, xK, x_cV0, x_cV1, x_cV2, x_cV3, x_cV4, x_cV5, x_cV6, x_cV7, x_cV8, x_cS1, x_cS2, x_cS3, x_cS4, x_cS5, List.getD_cons_zero, List.getD_cons_succ, List.set_cons_zero, List.set_cons_succ, List.length_cons, List.length_nil, Nat.zero_add, true_and, and_true, List.getD_nil, not_true, not_false_eq_true, Int.toNat_natCast, false_implies, true_implies, if_true, if_false, Int.toNat_zero, Int.toNat_one, true_or, or_true, Int.reduceEq, Int.reduceLT, Int.reduceLE, Int.reduceNe, Int.reduceNeg, Int.reduceAdd, Int.reduceSub, Int.reduceMul, Int.reduceToNat, Nat.reduceLT, Nat.reduceLeDiff, Nat.reduceAdd, Nat.reduceEqDiff, Nat.reduceSub, not_false_iff, and_self, implies_true, false_and, and_false, or_self, false_or, or_false, Int.cast_ofNat_Int, Int.natCast_nonneg, SK.f0 hS, SK.f1 hS, SK.f2 hS, SK.f3 hS, SK.f4 hS, SK.f5 hS, SK.f6 hS, SK.f7 hS, SK.f8 hS, SK.f9 hS, SK.l9 hS, SK.a9 hS, SK.e9 hS, SK.f10 hS, SK.l10 hS, SK.a10 hS, SK.e10 hS, SK.f11 hS, SK.l11 hS, SK.a11 hS, SK.e11 hS, SK.f12 hS, SK.l12 hS, SK.a12 hS, SK.e12 hS, SK.f13 hS, SK.l13 hS, SK.a13 hS, SK.e13 hS, SK.f14 hS, SK.l14 hS, SK.a14 hS, SK.f15 hS, SK.l15 hS, SK.a15 hS, SK.f16 hS, SK.l16 hS, SK.a16 hS]
  have hm1 : Sm (RB k) σ σ1 := fun q hq => by
    rw [h1 q (fun e => hq (Or.inl (Or.inr (Or.inl e)))), upd2_row (fun e => hq (Or.inl (Or.inl e)))]
  have hk1 : ∀ j, j ≠ 10 → σ1 k j = σ k j := fun j hj => by rw [h1 k (by omega), upd2_col hj]
  have base : ∀ σ2, Sm (RB k) σ σ2 → (∀ j, j ≠ 10 → j ≠ 11 → σ2 k j = σ k j) → σ2 k 10 = mask → SBase σ2 k g mask nf nc ct G me := by
    intro σ2 hm2 hj2 h10
    refine ⟨hg, hmask, hnf, hnc, by rw [hj2 8 (by decide) (by decide)]; exact k8, by rw [hj2 9 (by decide) (by decide)]; exact k9, h10, fun c hc f hf => ?_, hme⟩
    obtain ⟨t1, t2⟩ := kt c hc f hf
    obtain ⟨b1, b2, b3⟩ := htb c hc f hf
    refine ⟨by rw [hm2 _ (by unfold RB RS; omega)]; exact t1, fun q => ?_, b1, ?_⟩
    · rw [hm2 _ (by unfold RB RS; omega)]
      rcases hG with ⟨e, rfl⟩ | ⟨e, rfl⟩
      · rw [show g + 1 + c = k + 8 + c by omega]; exact (t2 q).1
      · rw [show g + 1 + c = k + 14 + c by omega]; exact (t2 q).2
    · rcases hG with ⟨e, rfl⟩ | ⟨e, rfl⟩
      · omega
      · omega
  have h10 : σ1 k 10 = mask := by rw [h1 k (by omega), upd2_eq]
  refine c_hopeFor (d := d + nc) hS hR (base σ1 hm1 (fun j a _ => hk1 j a) h10) (fun f hf => ?_) (fun σ2 h3 h4 => ?_)
  · rw [h2 f (by omega), upd2_row (by omega)]; exact k19 f hf
  · simp only [x_push, x_iload, x_lload, x_aload, x_bin, x_div, x_un, x_lbin, x_ldiv, x_lcmp, x_i2l, x_l2i, x_dup, x_pop, x_dup2, x_c1, x_c2, x_null, x_cat1, x_istore, x_astore, x_lstore, x_iinc, x_nol, x_tsw, xsw, x_lsw, xlsw, x_ret, x_zret, x_lret, x_aret, x_vret, x_getI, x_getL, x_getR, x_putI, x_putZ, x_putL, x_iaload, x_zaload, x_aaload, x_iastore, x_zastore, x_alen, x_mm, x_acopy, xpush, xJ, xK, x_cV0, x_cV1, x_cV2, x_cV3, x_cV4, x_cV5, x_cV6, x_cV7, x_cV8, x_cS1, x_cS2, x_cS3, x_cS4, x_cS5, List.getD_cons_zero, List.getD_cons_succ, List.set_cons_zero, List.set_cons_succ, List.length_cons, List.length_nil, Nat.zero_add, true_and, and_true, List.getD_nil, not_true, not_false_eq_true, Int.toNat_natCast, false_implies, true_implies, if_true, if_false, Int.toNat_zero, Int.toNat_one, true_or, or_true, Int.reduceEq, Int.reduceLT, Int.reduceLE, Int.reduceNe, Int.reduceNeg, Int.reduceAdd, Int.reduceSub, Int.reduceMul, Int.reduceToNat, Nat.reduceLT, Nat.reduceLeDiff, Nat.reduceAdd, Nat.reduceEqDiff, Nat.reduceSub, not_false_iff, and_self, implies_true, false_and, and_false, or_self, false_or, or_false, Int.cast_ofNat_Int, Int.natCast_nonneg]
    have hm2 : Sm (RB k) σ σ2 := hm1.tr (h3.mono (fun _ z => Or.inr z))
    have hk2 : ∀ j, σ2 k j = σ1 k j := fun j => by rw [h3 k (by omega)]
    have loop : ∀ (m i : Nat) (σ3 : Nat → Nat → Int), i + m = 5 → Sm (fun q => q = k + 21) σ2 σ3 → (∀ z, z < i → σ3 (k + 21) z = -1) → xR M_X0_showBest (d + nc + 4) (0, 0) 16 [vr k, vr g, vi mask, vi i] [] (Γ, σ3) Q := by
      intro m
      induction m with
      | zero =>
        intro i σ3 hi hm3 hz
        have hi : i = 5 := by omega
        subst hi
        refine b_X0_showBest_16 _ _ _ _ ?_
        simp only [k_X0_showBest_16, x_push, x_iload, x_lload, x_aload, x_bin, x_div, x_un, x_lbin, x_ldiv, x_lcmp, x_i2l, x_l2i, x_dup, x_pop, x_dup2, x_c1, x_c2, x_null, x_cat1, x_istore, x_astore, x_lstore, x_iinc, x_nol, x_tsw, xsw, x_lsw, xlsw, x_ret, x_zret, x_lret, x_aret, x_vret, x_getI, x_getL, x_getR, x_putI, x_putZ, x_putL, x_iaload, x_zaload, x_aaload, x_iastore, x_zastore, x_alen, x_mm, x_acopy, xpush, xJ, xK, x_cV0, x_cV1, x_cV2, x_cV3, x_cV4, x_cV5, x_cV6, x_cV7, x_cV8, x_cS1, x_cS2, x_cS3, x_cS4, x_cS5, List.getD_cons_zero, List.getD_cons_succ, List.set_cons_zero, List.set_cons_succ, List.length_cons, List.length_nil, Nat.zero_add, true_and, and_true, List.getD_nil, not_true, not_false_eq_true, Int.toNat_natCast, false_implies, true_implies, if_true, if_false, Int.toNat_zero, Int.toNat_one, true_or, or_true, Int.reduceEq, Int.reduceLT, Int.reduceLE, Int.reduceNe, Int.reduceNeg, Int.reduceAdd, Int.reduceSub, Int.reduceMul, Int.reduceToNat, Nat.reduceLT, Nat.reduceLeDiff, Nat.reduceAdd, Nat.reduceEqDiff, Nat.reduceSub, not_false_iff, and_self, implies_true, false_and, and_false, or_self, false_or, or_false, Int.cast_ofNat_Int, Int.natCast_nonneg, SK.f0 hS, SK.f1 hS, SK.f2 hS, SK.f3 hS, SK.f4 hS, SK.f5 hS, SK.f6 hS, SK.f7 hS, SK.f8 hS, SK.f9 hS, SK.l9 hS, SK.a9 hS, SK.e9 hS, SK.f10 hS, SK.l10 hS, SK.a10 hS, SK.e10 hS, SK.f11 hS, SK.l11 hS, SK.a11 hS, SK.e11 hS, SK.f12 hS, SK.l12 hS, SK.a12 hS, SK.e12 hS, SK.f13 hS, SK.l13 hS, SK.a13 hS, SK.e13 hS, SK.f14 hS, SK.l14 hS, SK.a14 hS, SK.f15 hS, SK.l15 hS, SK.a15 hS, SK.f16 hS, SK.l16 hS, SK.a16 hS]
        generalize hg4 : upd2 σ3 k 11 0 = σ4
        have hm4 : Sm (RB k) σ σ4 := by
          rw [← hg4]
          exact (hm2.tr (hm3.mono (fun _ z => Or.inl (Or.inr (Or.inr (Or.inl z)))))).put (Or.inl (Or.inl rfl))
        have hk4 : ∀ j, j ≠ 11 → σ4 k j = σ1 k j := fun j hj => by rw [← hg4, upd2_col hj, hm3 k (by omega), hk2]
        have hB4 := base σ4 hm4 (fun j a b => by rw [hk4 j b]; exact hk1 j a) (by rw [hk4 10 (by decide)]; exact h10)
        have e23 : σ4 (k + 23) = σ2 (k + 23) := by rw [← hg4, upd2_row (by omega), hm3 _ (by omega)]
        refine c_search (d := d) (σ := σ4) hS hR hB4 (fun m c hc => by rw [e23]; exact h4 m c hc) nc 0 me [] 0 (0, List.replicate nc (-1)) σ4 _ (by omega) ⟨Sm.rf, fun _ _ => rfl, by rw [← hg4, upd2_eq], fun f hf => ?_, fun i hi => ?_, fun i hi => by omega, rfl⟩ (by omega) (fun f hf => ⟨(hme f hf).1, Int.le_refl _⟩) (fun σ5 hI => ?_)
        · rw [← hg4, upd2_row (by omega), hm3 _ (by omega), h3 _ (by omega), h2 f (by omega), upd2_row (by omega)]; exact k19 f hf
        · rw [← hg4, upd2_row (by omega), hz i (by omega)]
          simp [List.getD_eq_getElem?_getD, hi]
        · obtain ⟨hm5, hj5, h115, -, hsh5, -, -⟩ := hI
          simp only [x_push, x_iload, x_lload, x_aload, x_bin, x_div, x_un, x_lbin, x_ldiv, x_lcmp, x_i2l, x_l2i, x_dup, x_pop, x_dup2, x_c1, x_c2, x_null, x_cat1, x_istore, x_astore, x_lstore, x_iinc, x_nol, x_tsw, xsw, x_lsw, xlsw, x_ret, x_zret, x_lret, x_aret, x_vret, x_getI, x_getL, x_getR, x_putI, x_putZ, x_putL, x_iaload, x_zaload, x_aaload, x_iastore, x_zastore, x_alen, x_mm, x_acopy, xpush, xJ, xK, x_cV0, x_cV1, x_cV2, x_cV3, x_cV4, x_cV5, x_cV6, x_cV7, x_cV8, x_cS1, x_cS2, x_cS3, x_cS4, x_cS5, List.getD_cons_zero, List.getD_cons_succ, List.set_cons_zero, List.set_cons_succ, List.length_cons, List.length_nil, Nat.zero_add, true_and, and_true, List.getD_nil, not_true, not_false_eq_true, Int.toNat_natCast, false_implies, true_implies, if_true, if_false, Int.toNat_zero, Int.toNat_one, true_or, or_true, Int.reduceEq, Int.reduceLT, Int.reduceLE, Int.reduceNe, Int.reduceNeg, Int.reduceAdd, Int.reduceSub, Int.reduceMul, Int.reduceToNat, Nat.reduceLT, Nat.reduceLeDiff, Nat.reduceAdd, Nat.reduceEqDiff, Nat.reduceSub, not_false_iff, and_self, implies_true, false_and, and_false, or_self, false_or, or_false, Int.cast_ofNat_Int, Int.natCast_nonneg, SK.f0 hS, SK.f1 hS, SK.f2 hS, SK.f3 hS, SK.f4 hS, SK.f5 hS, SK.f6 hS, SK.f7 hS, SK.f8 hS, SK.f9 hS, SK.l9 hS, SK.a9 hS, SK.e9 hS, SK.f10 hS, SK.l10 hS, SK.a10 hS, SK.e10 hS, SK.f11 hS, SK.l11 hS, SK.a11 hS, SK.e11 hS, SK.f12 hS, SK.l12 hS, SK.a12 hS, SK.e12 hS, SK.f13 hS, SK.l13 hS, SK.a13 hS, SK.e13 hS, SK.f14 hS, SK.l14 hS, SK.a14 hS, SK.f15 hS, SK.l15 hS, SK.a15 hS, SK.f16 hS, SK.l16 hS, SK.a16 hS, h115]
          refine hQ σ5 (hm4.tr (hm5.mono (fun _ z => Or.inl z))) (fun j a b => ?_) ?_ h115 hsh5 (fun m c hc => ?_)
          · rw [hj5 j b, hk4 j b]; exact hk1 j a
          · rw [hj5 10 (by decide), hk4 10 (by decide)]; exact h10
          · rw [hm5 _ (by unfold RS; omega), e23]; exact h4 m c hc
      | succ m ih =>
        intro i σ3 hi hm3 hz
        refine b_X0_showBest_16 _ _ _ _ ?_
        simp only [k_X0_showBest_16, x_push, x_iload, x_lload, x_aload, x_bin, x_div, x_un, x_lbin, x_ldiv, x_lcmp, x_i2l, x_l2i, x_dup, x_pop, x_dup2, x_c1, x_c2, x_null, x_cat1, x_istore, x_astore, x_lstore, x_iinc, x_nol, x_tsw, xsw, x_lsw, xlsw, x_ret, x_zret, x_lret, x_aret, x_vret, x_getI, x_getL, x_getR, x_putI, x_putZ, x_putL, x_iaload, x_zaload, x_aaload, x_iastore, x_zastore, x_alen, x_mm, x_acopy, xpush, xJ, xK, x_cV0, x_cV1, x_cV2, x_cV3, x_cV4, x_cV5, x_cV6, x_cV7, x_cV8, x_cS1, x_cS2, x_cS3, x_cS4, x_cS5, List.getD_cons_zero, List.getD_cons_succ, List.set_cons_zero, List.set_cons_succ, List.length_cons, List.length_nil, Nat.zero_add, true_and, and_true, List.getD_nil, not_true, not_false_eq_true, Int.toNat_natCast, false_implies, true_implies, if_true, if_false, Int.toNat_zero, Int.toNat_one, true_or, or_true, Int.reduceEq, Int.reduceLT, Int.reduceLE, Int.reduceNe, Int.reduceNeg, Int.reduceAdd, Int.reduceSub, Int.reduceMul, Int.reduceToNat, Nat.reduceLT, Nat.reduceLeDiff, Nat.reduceAdd, Nat.reduceEqDiff, Nat.reduceSub, not_false_iff, and_self, implies_true, false_and, and_false, or_self, false_or, or_false, Int.cast_ofNat_Int, Int.natCast_nonneg, SK.f0 hS, SK.f1 hS, SK.f2 hS, SK.f3 hS, SK.f4 hS, SK.f5 hS, SK.f6 hS, SK.f7 hS, SK.f8 hS, SK.f9 hS, SK.l9 hS, SK.a9 hS, SK.e9 hS, SK.f10 hS, SK.l10 hS, SK.a10 hS, SK.e10 hS, SK.f11 hS, SK.l11 hS, SK.a11 hS, SK.e11 hS, SK.f12 hS, SK.l12 hS, SK.a12 hS, SK.e12 hS, SK.f13 hS, SK.l13 hS, SK.a13 hS, SK.e13 hS, SK.f14 hS, SK.l14 hS, SK.a14 hS, SK.f15 hS, SK.l15 hS, SK.a15 hS, SK.f16 hS, SK.l16 hS, SK.a16 hS, eq_false (show ¬ ((5 : Int) ≤ (i : Int)) by omega), eq_true (show (i : Int) < 5 by omega)]
        rw [oadd_id (by omega) (by omega)]
        refine ih (i + 1) _ (by omega) (hm3.put rfl) (fun z hz' => ?_)
        by_cases e : z = i
        · rw [e, upd2_eq]
        · rw [upd2_col e]; exact hz z (by omega)
    exact loop 5 0 σ2 (by omega) Sm.rf (fun z hz => by omega)
end Keeper
