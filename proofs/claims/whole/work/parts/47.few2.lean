/-! ===== Keeper.searchFewest, fewestFigures ===== -/
/-- a search for the fewest under way -/
def FI (σ σ' : Nat → Nat → Int) (k nf : Nat) (acc : Nat) (left : Nat → Int) : Prop := Sm (fun q => q = k ∨ q = k + 20) σ σ' ∧ (∀ j, j ≠ 12 → σ' k j = σ k j) ∧ σ' k 12 = (acc : Int) ∧ (∀ f, f < nf → σ' (k + 20) f = left f) ∧ acc < 64
section Few2
variable {Γ : xSh} {σ : Nat → Nat → Int} {k mask d n nf nc : Nat} {Q : xV → xMem → Prop} {ct G jo ic : Nat → Nat → Int} {me : Nat → Int}
set_option maxHeartbeats 8000000 in
theorem c_searchFewest (hS : SK Γ k) (hR : SKr Γ k) (hB : SBase σ k (k + 7) mask nf nc ct G me) (hH : ∀ m c, c + m = nc → σ (k + 23) c = sHope (ctm mask ct) G nf me m c) :
    ∀ (m c : Nat) (left : Nat → Int) (u : Nat) (sum : Int) (acc : Nat) (σ' : Nat → Nat → Int) (Q : xV → xMem → Prop), c + m = nc → FI σ σ' k nf acc left → u < 64 → (-1999 * c ≤ sum ∧ sum ≤ 1999 * c) → (∀ f, f < nf → 0 ≤ left f ∧ left f ≤ me f) →
      (∀ σ'', FI σ σ'' k nf ((sAll (ctm mask ct) nf m c left).foldl (fStep G (σ k 11) c u sum) acc) left → Q vu (Γ, σ'')) → xRM M_X0_searchFewest (d + m + 3) (0, 0) [vr k, vi c, vi sum, vi u] (Γ, σ') Q := by
  obtain ⟨hg, hmask, hnf, hnc, k8, k9, k10, kt, hme⟩ := hB
  intro m
  induction m with
  | zero =>
    intro c left u sum acc σ' Q hc hI hu bs bl hQ
    have hc : c = nc := by omega
    subst hc
    obtain ⟨hm, hj, h12, hlf, hacc⟩ := id hI
    have hh := hH 0 c rfl
    simp only [sHope] at hh
    refine xRM_of (by decide) (Nat.le_of_ble_eq_true rfl) ?_
    refine b_X0_searchFewest_0 _ _ _ _ ?_
    show k_X0_searchFewest_0 (d + 2) Q (0, 0) [vr k, vi c, vi sum, vi u, vu] [] (Γ, σ')
    have e9 : σ' k 9 = c := by rw [hj 9 (by decide)]; exact k9
    have e11 : σ' k 11 = σ k 11 := hj 11 (by decide)
    have e23 : σ' (k + 23) c = 0 := by rw [hm _ (by omega)]; exact hh
    simp only [sAll, List.foldl_cons, List.foldl_nil, fStep, sV, Int.add_zero, sUse] at hQ
    have put : FI σ (upd2 σ' k 12 (u : Int)) k nf u left := by
      refine ⟨hm.put (Or.inl rfl), fun j hj' => ?_, upd2_eq, fun f hf => ?_, hu⟩
      · rw [upd2_col hj']; exact hj j hj'
      · rw [upd2_row (by omega)]; exact hlf f hf
    simp only [k_X0_searchFewest_0, x_push, x_iload, x_lload, x_aload, x_bin, x_div, x_un, x_lbin, x_ldiv, x_lcmp, x_i2l, x_l2i, x_dup, x_pop, x_dup2, x_c1, x_c2, x_null, x_cat1, x_istore, x_astore, x_lstore, x_iinc, x_nol, x_tsw, xsw, x_lsw, xlsw, x_ret, x_zret, x_lret, x_aret, x_vret, x_getI, x_getL, x_getR, x_putI, x_putZ, x_putL, x_iaload, x_zaload, x_aaload, x_iastore, x_zastore, x_alen, x_mm, x_acopy, xpush, xJ, xK, x_cV0, x_cV1, x_cV2, x_cV3, x_cV4, x_cV5, x_cV6, x_cV7, x_cV8, x_cS1, x_cS2, x_cS3, x_cS4, x_cS5, List.getD_cons_zero, List.getD_cons_succ, List.set_cons_zero, List.set_cons_succ, List.length_cons, List.length_nil, Nat.zero_add, true_and, and_true, List.getD_nil, not_true, not_false_eq_true, Int.toNat_natCast, false_implies, true_implies, if_true, if_false, Int.toNat_zero, Int.toNat_one, true_or, or_true, Int.reduceEq, Int.reduceLT, Int.reduceLE, Int.reduceNe, Int.reduceNeg, Int.reduceAdd, Int.reduceSub, Int.reduceMul, Int.reduceToNat, Nat.reduceLT, Nat.reduceLeDiff, Nat.reduceAdd, Nat.reduceEqDiff, Nat.reduceSub, not_false_iff, and_self, implies_true, false_and, and_false, or_self, false_or, or_false, Int.cast_ofNat_Int, Int.natCast_nonneg, SK.f0 hS, SK.f1 hS, SK.f2 hS, SK.f3 hS, SK.f4 hS, SK.f5 hS, SK.f6 hS, SK.f7 hS, SK.f8 hS, SK.f9 hS, SK.l9 hS, SK.a9 hS, SK.e9 hS, SK.f10 hS, SK.l10 hS, SK.a10 hS, SK.e10 hS, SK.f11 hS, SK.l11 hS, SK.a11 hS, SK.e11 hS, SK.f12 hS, SK.l12 hS, SK.a12 hS, SK.e12 hS, SK.f13 hS, SK.l13 hS, SK.a13 hS, SK.e13 hS, SK.f14 hS, SK.l14 hS, SK.a14 hS, SK.f15 hS, SK.l15 hS, SK.a15 hS, SK.f16 hS, SK.l16 hS, SK.a16 hS, e23, e11, eq_true (show (c : Int) < 6 by omega)]
    rw [oadd_id (a := sum) (by omega) (by omega), Int.add_zero]
    refine ⟨fun q => ?_, fun q => ?_⟩
    · rw [if_neg (by omega)] at hQ
      exact hQ σ' hI
    · rw [if_pos (by omega)] at hQ
      refine c_bitCount hu ?_
      simp only [x_push, x_iload, x_lload, x_aload, x_bin, x_div, x_un, x_lbin, x_ldiv, x_lcmp, x_i2l, x_l2i, x_dup, x_pop, x_dup2, x_c1, x_c2, x_null, x_cat1, x_istore, x_astore, x_lstore, x_iinc, x_nol, x_tsw, xsw, x_lsw, xlsw, x_ret, x_zret, x_lret, x_aret, x_vret, x_getI, x_getL, x_getR, x_putI, x_putZ, x_putL, x_iaload, x_zaload, x_aaload, x_iastore, x_zastore, x_alen, x_mm, x_acopy, xpush, xJ, xK, x_cV0, x_cV1, x_cV2, x_cV3, x_cV4, x_cV5, x_cV6, x_cV7, x_cV8, x_cS1, x_cS2, x_cS3, x_cS4, x_cS5, List.getD_cons_zero, List.getD_cons_succ, List.set_cons_zero, List.set_cons_succ, List.length_cons, List.length_nil, Nat.zero_add, true_and, and_true, List.getD_nil, not_true, not_false_eq_true, Int.toNat_natCast, false_implies, true_implies, if_true, if_false, Int.toNat_zero, Int.toNat_one, true_or, or_true, Int.reduceEq, Int.reduceLT, Int.reduceLE, Int.reduceNe, Int.reduceNeg, Int.reduceAdd, Int.reduceSub, Int.reduceMul, Int.reduceToNat, Nat.reduceLT, Nat.reduceLeDiff, Nat.reduceAdd, Nat.reduceEqDiff, Nat.reduceSub, not_false_iff, and_self, implies_true, false_and, and_false, or_self, false_or, or_false, Int.cast_ofNat_Int, Int.natCast_nonneg, SK.f0 hS, SK.f1 hS, SK.f2 hS, SK.f3 hS, SK.f4 hS, SK.f5 hS, SK.f6 hS, SK.f7 hS, SK.f8 hS, SK.f9 hS, SK.l9 hS, SK.a9 hS, SK.e9 hS, SK.f10 hS, SK.l10 hS, SK.a10 hS, SK.e10 hS, SK.f11 hS, SK.l11 hS, SK.a11 hS, SK.e11 hS, SK.f12 hS, SK.l12 hS, SK.a12 hS, SK.e12 hS, SK.f13 hS, SK.l13 hS, SK.a13 hS, SK.e13 hS, SK.f14 hS, SK.l14 hS, SK.a14 hS, SK.f15 hS, SK.l15 hS, SK.a15 hS, SK.f16 hS, SK.l16 hS, SK.a16 hS, h12]
      refine c_bitCount hacc ?_
      simp only [x_push, x_iload, x_lload, x_aload, x_bin, x_div, x_un, x_lbin, x_ldiv, x_lcmp, x_i2l, x_l2i, x_dup, x_pop, x_dup2, x_c1, x_c2, x_null, x_cat1, x_istore, x_astore, x_lstore, x_iinc, x_nol, x_tsw, xsw, x_lsw, xlsw, x_ret, x_zret, x_lret, x_aret, x_vret, x_getI, x_getL, x_getR, x_putI, x_putZ, x_putL, x_iaload, x_zaload, x_aaload, x_iastore, x_zastore, x_alen, x_mm, x_acopy, xpush, xJ, xK, x_cV0, x_cV1, x_cV2, x_cV3, x_cV4, x_cV5, x_cV6, x_cV7, x_cV8, x_cS1, x_cS2, x_cS3, x_cS4, x_cS5, List.getD_cons_zero, List.getD_cons_succ, List.set_cons_zero, List.set_cons_succ, List.length_cons, List.length_nil, Nat.zero_add, true_and, and_true, List.getD_nil, not_true, not_false_eq_true, Int.toNat_natCast, false_implies, true_implies, if_true, if_false, Int.toNat_zero, Int.toNat_one, true_or, or_true, Int.reduceEq, Int.reduceLT, Int.reduceLE, Int.reduceNe, Int.reduceNeg, Int.reduceAdd, Int.reduceSub, Int.reduceMul, Int.reduceToNat, Nat.reduceLT, Nat.reduceLeDiff, Nat.reduceAdd, Nat.reduceEqDiff, Nat.reduceSub, not_false_iff, and_self, implies_true, false_and, and_false, or_self, false_or, or_false, Int.cast_ofNat_Int, Int.natCast_nonneg, SK.f0 hS, SK.f1 hS, SK.f2 hS, SK.f3 hS, SK.f4 hS, SK.f5 hS, SK.f6 hS, SK.f7 hS, SK.f8 hS, SK.f9 hS, SK.l9 hS, SK.a9 hS, SK.e9 hS, SK.f10 hS, SK.l10 hS, SK.a10 hS, SK.e10 hS, SK.f11 hS, SK.l11 hS, SK.a11 hS, SK.e11 hS, SK.f12 hS, SK.l12 hS, SK.a12 hS, SK.e12 hS, SK.f13 hS, SK.l13 hS, SK.a13 hS, SK.e13 hS, SK.f14 hS, SK.l14 hS, SK.a14 hS, SK.f15 hS, SK.l15 hS, SK.a15 hS, SK.f16 hS, SK.l16 hS, SK.a16 hS, e9, eq_false (show ¬ ((c : Int) < (c : Int)) by omega)]
      refine ⟨fun q1 => ?_, fun q1 => ?_⟩
      · simp only [x_push, x_iload, x_lload, x_aload, x_bin, x_div, x_un, x_lbin, x_ldiv, x_lcmp, x_i2l, x_l2i, x_dup, x_pop, x_dup2, x_c1, x_c2, x_null, x_cat1, x_istore, x_astore, x_lstore, x_iinc, x_nol, x_tsw, xsw, x_lsw, xlsw, x_ret, x_zret, x_lret, x_aret, x_vret, x_getI, x_getL, x_getR, x_putI, x_putZ, x_putL, x_iaload, x_zaload, x_aaload, x_iastore, x_zastore, x_alen, x_mm, x_acopy, xpush, xJ, xK, x_cV0, x_cV1, x_cV2, x_cV3, x_cV4, x_cV5, x_cV6, x_cV7, x_cV8, x_cS1, x_cS2, x_cS3, x_cS4, x_cS5, List.getD_cons_zero, List.getD_cons_succ, List.set_cons_zero, List.set_cons_succ, List.length_cons, List.length_nil, Nat.zero_add, true_and, and_true, List.getD_nil, not_true, not_false_eq_true, Int.toNat_natCast, false_implies, true_implies, if_true, if_false, Int.toNat_zero, Int.toNat_one, true_or, or_true, Int.reduceEq, Int.reduceLT, Int.reduceLE, Int.reduceNe, Int.reduceNeg, Int.reduceAdd, Int.reduceSub, Int.reduceMul, Int.reduceToNat, Nat.reduceLT, Nat.reduceLeDiff, Nat.reduceAdd, Nat.reduceEqDiff, Nat.reduceSub, not_false_iff, and_self, implies_true, false_and, and_false, or_self, false_or, or_false, Int.cast_ofNat_Int, Int.natCast_nonneg, SK.f0 hS, SK.f1 hS, SK.f2 hS, SK.f3 hS, SK.f4 hS, SK.f5 hS, SK.f6 hS, SK.f7 hS, SK.f8 hS, SK.f9 hS, SK.l9 hS, SK.a9 hS, SK.e9 hS, SK.f10 hS, SK.l10 hS, SK.a10 hS, SK.e10 hS, SK.f11 hS, SK.l11 hS, SK.a11 hS, SK.e11 hS, SK.f12 hS, SK.l12 hS, SK.a12 hS, SK.e12 hS, SK.f13 hS, SK.l13 hS, SK.a13 hS, SK.e13 hS, SK.f14 hS, SK.l14 hS, SK.a14 hS, SK.f15 hS, SK.l15 hS, SK.a15 hS, SK.f16 hS, SK.l16 hS, SK.a16 hS, h12]
        refine ⟨fun q2 => ?_, fun q2 => ?_⟩
        · rw [show sBet acc u = u from if_pos (by omega)] at hQ
          exact hQ _ put
        · refine c_bitCount hu ?_
          simp only [x_push, x_iload, x_lload, x_aload, x_bin, x_div, x_un, x_lbin, x_ldiv, x_lcmp, x_i2l, x_l2i, x_dup, x_pop, x_dup2, x_c1, x_c2, x_null, x_cat1, x_istore, x_astore, x_lstore, x_iinc, x_nol, x_tsw, xsw, x_lsw, xlsw, x_ret, x_zret, x_lret, x_aret, x_vret, x_getI, x_getL, x_getR, x_putI, x_putZ, x_putL, x_iaload, x_zaload, x_aaload, x_iastore, x_zastore, x_alen, x_mm, x_acopy, xpush, xJ, xK, x_cV0, x_cV1, x_cV2, x_cV3, x_cV4, x_cV5, x_cV6, x_cV7, x_cV8, x_cS1, x_cS2, x_cS3, x_cS4, x_cS5, List.getD_cons_zero, List.getD_cons_succ, List.set_cons_zero, List.set_cons_succ, List.length_cons, List.length_nil, Nat.zero_add, true_and, and_true, List.getD_nil, not_true, not_false_eq_true, Int.toNat_natCast, false_implies, true_implies, if_true, if_false, Int.toNat_zero, Int.toNat_one, true_or, or_true, Int.reduceEq, Int.reduceLT, Int.reduceLE, Int.reduceNe, Int.reduceNeg, Int.reduceAdd, Int.reduceSub, Int.reduceMul, Int.reduceToNat, Nat.reduceLT, Nat.reduceLeDiff, Nat.reduceAdd, Nat.reduceEqDiff, Nat.reduceSub, not_false_iff, and_self, implies_true, false_and, and_false, or_self, false_or, or_false, Int.cast_ofNat_Int, Int.natCast_nonneg, SK.f0 hS, SK.f1 hS, SK.f2 hS, SK.f3 hS, SK.f4 hS, SK.f5 hS, SK.f6 hS, SK.f7 hS, SK.f8 hS, SK.f9 hS, SK.l9 hS, SK.a9 hS, SK.e9 hS, SK.f10 hS, SK.l10 hS, SK.a10 hS, SK.e10 hS, SK.f11 hS, SK.l11 hS, SK.a11 hS, SK.e11 hS, SK.f12 hS, SK.l12 hS, SK.a12 hS, SK.e12 hS, SK.f13 hS, SK.l13 hS, SK.a13 hS, SK.e13 hS, SK.f14 hS, SK.l14 hS, SK.a14 hS, SK.f15 hS, SK.l15 hS, SK.a15 hS, SK.f16 hS, SK.l16 hS, SK.a16 hS, h12]
          refine c_bitCount hacc ?_
          simp only [x_push, x_iload, x_lload, x_aload, x_bin, x_div, x_un, x_lbin, x_ldiv, x_lcmp, x_i2l, x_l2i, x_dup, x_pop, x_dup2, x_c1, x_c2, x_null, x_cat1, x_istore, x_astore, x_lstore, x_iinc, x_nol, x_tsw, xsw, x_lsw, xlsw, x_ret, x_zret, x_lret, x_aret, x_vret, x_getI, x_getL, x_getR, x_putI, x_putZ, x_putL, x_iaload, x_zaload, x_aaload, x_iastore, x_zastore, x_alen, x_mm, x_acopy, xpush, xJ, xK, x_cV0, x_cV1, x_cV2, x_cV3, x_cV4, x_cV5, x_cV6, x_cV7, x_cV8, x_cS1, x_cS2, x_cS3, x_cS4, x_cS5, List.getD_cons_zero, List.getD_cons_succ, List.set_cons_zero, List.set_cons_succ, List.length_cons, List.length_nil, Nat.zero_add, true_and, and_true, List.getD_nil, not_true, not_false_eq_true, Int.toNat_natCast, false_implies, true_implies, if_true, if_false, Int.toNat_zero, Int.toNat_one, true_or, or_true, Int.reduceEq, Int.reduceLT, Int.reduceLE, Int.reduceNe, Int.reduceNeg, Int.reduceAdd, Int.reduceSub, Int.reduceMul, Int.reduceToNat, Nat.reduceLT, Nat.reduceLeDiff, Nat.reduceAdd, Nat.reduceEqDiff, Nat.reduceSub, not_false_iff, and_self, implies_true, false_and, and_false, or_self, false_or, or_false, Int.cast_ofNat_Int, Int.natCast_nonneg, SK.f0 hS, SK.f1 hS, SK.f2 hS, SK.f3 hS, SK.f4 hS, SK.f5 hS, SK.f6 hS, SK.f7 hS, SK.f8 hS, SK.f9 hS, SK.l9 hS, SK.a9 hS, SK.e9 hS, SK.f10 hS, SK.l10 hS, SK.a10 hS, SK.e10 hS, SK.f11 hS, SK.l11 hS, SK.a11 hS, SK.e11 hS, SK.f12 hS, SK.l12 hS, SK.a12 hS, SK.e12 hS, SK.f13 hS, SK.l13 hS, SK.a13 hS, SK.e13 hS, SK.f14 hS, SK.l14 hS, SK.a14 hS, SK.f15 hS, SK.l15 hS, SK.a15 hS, SK.f16 hS, SK.l16 hS, SK.a16 hS]
          refine ⟨fun q3 => ?_, fun q3 => ?_⟩
          · rw [show sBet acc u = acc from if_neg (by omega)] at hQ
            exact hQ σ' hI
          · rw [show sBet acc u = u from if_pos (by omega)] at hQ
            exact hQ _ put
      · rw [show sBet acc u = acc from if_neg (by omega)] at hQ
        exact hQ σ' hI
  | succ m ih =>
    intro c left u sum acc σ' Q hc hI hu bs bl hQ
    have hcn : c < nc := by omega
    obtain ⟨⟨r1, r2⟩, ⟨r3, r4⟩, ⟨r5, r6⟩⟩ := hR c (by omega)
    have hh := hH (m + 1) c hc
    have hb1 := sHope_nn (ctm mask ct) G nf me (m + 1) c
    have hb2 := sHope_le (ct := ctm mask ct) (G := G) (me := me) (nf := nf) (nc := nc) (fun c hc f hf => (kt c hc f hf).2.2.2.2) (m + 1) c (by omega)
    refine xRM_of (by decide) (Nat.le_of_ble_eq_true rfl) ?_
    -- the loop over figures
    have loop : ∀ (n f : Nat) (σ2 : Nat → Nat → Int) (acc1 : Nat), f + n = nf → FI σ σ2 k nf (fPart (ctm mask ct) G (σ k 11) nf m c left u sum acc1 f) left → fPart (ctm mask ct) G (σ k 11) nf m c left u sum acc1 nf = (sAll (ctm mask ct) nf (m + 1) c left).foldl (fStep G (σ k 11) c u sum) acc → xR M_X0_searchFewest (d + m + 4) (0, 0) 78 [vr k, vi c, vi sum, vi u, vi f] [] (Γ, σ2) Q := by
      intro n
      induction n with
      | zero =>
        intro f σ2 acc1 hf hI2 hfin
        have hf : f = nf := by omega
        subst hf
        refine b_X0_searchFewest_78 _ _ _ _ ?_
        have e8 : σ2 k 8 = f := by rw [hI2.2.1 8 (by decide)]; exact k8
        simp only [k_X0_searchFewest_78, x_push, x_iload, x_lload, x_aload, x_bin, x_div, x_un, x_lbin, x_ldiv, x_lcmp, x_i2l, x_l2i, x_dup, x_pop, x_dup2, x_c1, x_c2, x_null, x_cat1, x_istore, x_astore, x_lstore, x_iinc, x_nol, x_tsw, xsw, x_lsw, xlsw, x_ret, x_zret, x_lret, x_aret, x_vret, x_getI, x_getL, x_getR, x_putI, x_putZ, x_putL, x_iaload, x_zaload, x_aaload, x_iastore, x_zastore, x_alen, x_mm, x_acopy, xpush, xJ, xK, x_cV0, x_cV1, x_cV2, x_cV3, x_cV4, x_cV5, x_cV6, x_cV7, x_cV8, x_cS1, x_cS2, x_cS3, x_cS4, x_cS5, List.getD_cons_zero, List.getD_cons_succ, List.set_cons_zero, List.set_cons_succ, List.length_cons, List.length_nil, Nat.zero_add, true_and, and_true, List.getD_nil, not_true, not_false_eq_true, Int.toNat_natCast, false_implies, true_implies, if_true, if_false, Int.toNat_zero, Int.toNat_one, true_or, or_true, Int.reduceEq, Int.reduceLT, Int.reduceLE, Int.reduceNe, Int.reduceNeg, Int.reduceAdd, Int.reduceSub, Int.reduceMul, Int.reduceToNat, Nat.reduceLT, Nat.reduceLeDiff, Nat.reduceAdd, Nat.reduceEqDiff, Nat.reduceSub, not_false_iff, and_self, implies_true, false_and, and_false, or_self, false_or, or_false, Int.cast_ofNat_Int, Int.natCast_nonneg, SK.f0 hS, SK.f1 hS, SK.f2 hS, SK.f3 hS, SK.f4 hS, SK.f5 hS, SK.f6 hS, SK.f7 hS, SK.f8 hS, SK.f9 hS, SK.l9 hS, SK.a9 hS, SK.e9 hS, SK.f10 hS, SK.l10 hS, SK.a10 hS, SK.e10 hS, SK.f11 hS, SK.l11 hS, SK.a11 hS, SK.e11 hS, SK.f12 hS, SK.l12 hS, SK.a12 hS, SK.e12 hS, SK.f13 hS, SK.l13 hS, SK.a13 hS, SK.e13 hS, SK.f14 hS, SK.l14 hS, SK.a14 hS, SK.f15 hS, SK.l15 hS, SK.a15 hS, SK.f16 hS, SK.l16 hS, SK.a16 hS, e8]
        refine ⟨fun _ => hQ σ2 ?_, fun h => absurd (Int.le_refl _) h⟩
        rw [← hfin]
        exact hI2
      | succ n ih2 =>
        intro f σ2 acc1 hf hI2 hfin
        have hfn : f < nf := by omega
        obtain ⟨t1, t2, ⟨t3, t4⟩, t5, t6⟩ := kt c hcn f hfn
        obtain ⟨hm2, hj2, h122, hlf2, hacc2⟩ := id hI2
        have e8 : σ2 k 8 = nf := by rw [hj2 8 (by decide)]; exact k8
        have e10 : σ2 k 10 = mask := by rw [hj2 10 (by decide)]; exact k10
        have g1 : σ2 (k + 2 + c) f = ct c f := by rw [hm2 _ (by omega)]; exact t1
        have l1 := hlf2 f hfn
        obtain ⟨l2, l3⟩ := bl f hfn
        have me1 := hme f hfn
        refine b_X0_searchFewest_78 _ _ _ _ ?_
        simp only [k_X0_searchFewest_78, x_push, x_iload, x_lload, x_aload, x_bin, x_div, x_un, x_lbin, x_ldiv, x_lcmp, x_i2l, x_l2i, x_dup, x_pop, x_dup2, x_c1, x_c2, x_null, x_cat1, x_istore, x_astore, x_lstore, x_iinc, x_nol, x_tsw, xsw, x_lsw, xlsw, x_ret, x_zret, x_lret, x_aret, x_vret, x_getI, x_getL, x_getR, x_putI, x_putZ, x_putL, x_iaload, x_zaload, x_aaload, x_iastore, x_zastore, x_alen, x_mm, x_acopy, xpush, xJ, xK, x_cV0, x_cV1, x_cV2, x_cV3, x_cV4, x_cV5, x_cV6, x_cV7, x_cV8, x_cS1, x_cS2, x_cS3, x_cS4, x_cS5, List.getD_cons_zero, List.getD_cons_succ, List.set_cons_zero, List.set_cons_succ, List.length_cons, List.length_nil, Nat.zero_add, true_and, and_true, List.getD_nil, not_true, not_false_eq_true, Int.toNat_natCast, false_implies, true_implies, if_true, if_false, Int.toNat_zero, Int.toNat_one, true_or, or_true, Int.reduceEq, Int.reduceLT, Int.reduceLE, Int.reduceNe, Int.reduceNeg, Int.reduceAdd, Int.reduceSub, Int.reduceMul, Int.reduceToNat, Nat.reduceLT, Nat.reduceLeDiff, Nat.reduceAdd, Nat.reduceEqDiff, Nat.reduceSub, not_false_iff, and_self, implies_true, false_and, and_false, or_self, false_or, or_false, Int.cast_ofNat_Int, Int.natCast_nonneg, SK.f0 hS, SK.f1 hS, SK.f2 hS, SK.f3 hS, SK.f4 hS, SK.f5 hS, SK.f6 hS, SK.f7 hS, SK.f8 hS, SK.f9 hS, SK.l9 hS, SK.a9 hS, SK.e9 hS, SK.f10 hS, SK.l10 hS, SK.a10 hS, SK.e10 hS, SK.f11 hS, SK.l11 hS, SK.a11 hS, SK.e11 hS, SK.f12 hS, SK.l12 hS, SK.a12 hS, SK.e12 hS, SK.f13 hS, SK.l13 hS, SK.a13 hS, SK.e13 hS, SK.f14 hS, SK.l14 hS, SK.a14 hS, SK.f15 hS, SK.l15 hS, SK.a15 hS, SK.f16 hS, SK.l16 hS, SK.a16 hS, e8, eq_false (show ¬ ((nf : Int) ≤ (f : Int)) by omega)]
        refine c_isAllowed hS hR (by omega) (by omega) e10 hmask (fun q0 q1 q2 => ?_) (fun q => ?_)
        · rw [g1] at q1
          rw [g1, l1] at q2
          have g2 : σ2 (k + 8 + c) f = G c f := by rw [hm2 _ (by omega), show k + 8 + c = k + 7 + 1 + c by omega]; exact t2 q1
          have ectm : ctm mask ct c f = ct c f := by unfold ctm; rw [if_pos q0]
          simp only [x_push, x_iload, x_lload, x_aload, x_bin, x_div, x_un, x_lbin, x_ldiv, x_lcmp, x_i2l, x_l2i, x_dup, x_pop, x_dup2, x_c1, x_c2, x_null, x_cat1, x_istore, x_astore, x_lstore, x_iinc, x_nol, x_tsw, xsw, x_lsw, xlsw, x_ret, x_zret, x_lret, x_aret, x_vret, x_getI, x_getL, x_getR, x_putI, x_putZ, x_putL, x_iaload, x_zaload, x_aaload, x_iastore, x_zastore, x_alen, x_mm, x_acopy, xpush, xJ, xK, x_cV0, x_cV1, x_cV2, x_cV3, x_cV4, x_cV5, x_cV6, x_cV7, x_cV8, x_cS1, x_cS2, x_cS3, x_cS4, x_cS5, List.getD_cons_zero, List.getD_cons_succ, List.set_cons_zero, List.set_cons_succ, List.length_cons, List.length_nil, Nat.zero_add, true_and, and_true, List.getD_nil, not_true, not_false_eq_true, Int.toNat_natCast, false_implies, true_implies, if_true, if_false, Int.toNat_zero, Int.toNat_one, true_or, or_true, Int.reduceEq, Int.reduceLT, Int.reduceLE, Int.reduceNe, Int.reduceNeg, Int.reduceAdd, Int.reduceSub, Int.reduceMul, Int.reduceToNat, Nat.reduceLT, Nat.reduceLeDiff, Nat.reduceAdd, Nat.reduceEqDiff, Nat.reduceSub, not_false_iff, and_self, implies_true, false_and, and_false, or_self, false_or, or_false, Int.cast_ofNat_Int, Int.natCast_nonneg, SK.f0 hS, SK.f1 hS, SK.f2 hS, SK.f3 hS, SK.f4 hS, SK.f5 hS, SK.f6 hS, SK.f7 hS, SK.f8 hS, SK.f9 hS, SK.l9 hS, SK.a9 hS, SK.e9 hS, SK.f10 hS, SK.l10 hS, SK.a10 hS, SK.e10 hS, SK.f11 hS, SK.l11 hS, SK.a11 hS, SK.e11 hS, SK.f12 hS, SK.l12 hS, SK.a12 hS, SK.e12 hS, SK.f13 hS, SK.l13 hS, SK.a13 hS, SK.e13 hS, SK.f14 hS, SK.l14 hS, SK.a14 hS, SK.f15 hS, SK.l15 hS, SK.a15 hS, SK.f16 hS, SK.l16 hS, SK.a16 hS, r1, r3, gArr_of r2, gLen_of r2, gArr_of r4, gLen_of r4, eq_true (show (c : Int) < 5 by omega), eq_true (show (f : Int) < 6 by omega), upd2_row (show k + 8 + c ≠ k + 20 by omega), l1, g1, g2]
          rw [osub_id (by omega) (by omega), oadd_id (a := sum) (b := G c f) (by omega) (by omega), oadd_id (a := (c : Int)) (b := 1) (by omega) (by omega), oor_bit hu (by omega)]
          refine ih (c + 1) (updf left f (left f - ct c f)) (u ||| 2 ^ f) (sum + G c f) (fPart (ctm mask ct) G (σ k 11) nf m c left u sum acc1 f) _ _ (by omega) ⟨hm2.put (Or.inr rfl), fun j hj' => ?_, ?_, fun z hz => ?_, hacc2⟩ (or_lt ⟨u, hu⟩ ⟨f, by omega⟩).1 (by omega) (fun z hz => ?_) (fun σ3 hI3 => ?_)
          · rw [upd2_row (by omega)]; exact hj2 j hj'
          · rw [upd2_row (by omega)]; exact h122
          · by_cases e : z = f
            · rw [e, upd2_eq, updf_eq]
            · rw [upd2_col e, updf_ne e]; exact hlf2 z hz
          · by_cases e : z = f
            · rw [e, updf_eq]; omega
            · rw [updf_ne e]; exact bl z hz
          · have estep : fPart (ctm mask ct) G (σ k 11) nf m c left u sum acc1 (f + 1) = (sAll (ctm mask ct) nf m (c + 1) (updf left f (left f - ct c f))).foldl (fStep G (σ k 11) (c + 1) (u ||| 2 ^ f) (sum + G c f)) (fPart (ctm mask ct) G (σ k 11) nf m c left u sum acc1 f) := by
              simp only [fPart, ectm]
              rw [if_pos ⟨q1, q2⟩]
            rw [← estep] at hI3
            obtain ⟨hm3, hj3, h123, hlf3, hacc3⟩ := hI3
            have g3 : σ3 (k + 2 + c) f = ct c f := by rw [hm3 _ (by omega)]; exact t1
            have l4 : σ3 (k + 20) f = left f - ct c f := by rw [hlf3 f hfn, updf_eq]
            simp only [x_push, x_iload, x_lload, x_aload, x_bin, x_div, x_un, x_lbin, x_ldiv, x_lcmp, x_i2l, x_l2i, x_dup, x_pop, x_dup2, x_c1, x_c2, x_null, x_cat1, x_istore, x_astore, x_lstore, x_iinc, x_nol, x_tsw, xsw, x_lsw, xlsw, x_ret, x_zret, x_lret, x_aret, x_vret, x_getI, x_getL, x_getR, x_putI, x_putZ, x_putL, x_iaload, x_zaload, x_aaload, x_iastore, x_zastore, x_alen, x_mm, x_acopy, xpush, xJ, xK, x_cV0, x_cV1, x_cV2, x_cV3, x_cV4, x_cV5, x_cV6, x_cV7, x_cV8, x_cS1, x_cS2, x_cS3, x_cS4, x_cS5, List.getD_cons_zero, List.getD_cons_succ, List.set_cons_zero, List.set_cons_succ, List.length_cons, List.length_nil, Nat.zero_add, true_and, and_true, List.getD_nil, not_true, not_false_eq_true, Int.toNat_natCast, false_implies, true_implies, if_true, if_false, Int.toNat_zero, Int.toNat_one, true_or, or_true, Int.reduceEq, Int.reduceLT, Int.reduceLE, Int.reduceNe, Int.reduceNeg, Int.reduceAdd, Int.reduceSub, Int.reduceMul, Int.reduceToNat, Nat.reduceLT, Nat.reduceLeDiff, Nat.reduceAdd, Nat.reduceEqDiff, Nat.reduceSub, not_false_iff, and_self, implies_true, false_and, and_false, or_self, false_or, or_false, Int.cast_ofNat_Int, Int.natCast_nonneg, SK.f0 hS, SK.f1 hS, SK.f2 hS, SK.f3 hS, SK.f4 hS, SK.f5 hS, SK.f6 hS, SK.f7 hS, SK.f8 hS, SK.f9 hS, SK.l9 hS, SK.a9 hS, SK.e9 hS, SK.f10 hS, SK.l10 hS, SK.a10 hS, SK.e10 hS, SK.f11 hS, SK.l11 hS, SK.a11 hS, SK.e11 hS, SK.f12 hS, SK.l12 hS, SK.a12 hS, SK.e12 hS, SK.f13 hS, SK.l13 hS, SK.a13 hS, SK.e13 hS, SK.f14 hS, SK.l14 hS, SK.a14 hS, SK.f15 hS, SK.l15 hS, SK.a15 hS, SK.f16 hS, SK.l16 hS, SK.a16 hS, r1, gArr_of r2, gLen_of r2, eq_true (show (c : Int) < 5 by omega), eq_true (show (f : Int) < 6 by omega), l4, g3]
            rw [oadd_id (a := left f - ct c f) (b := ct c f) (by omega) (by omega), oadd_id (a := (f : Int)) (b := 1) (by omega) (by omega)]
            refine ih2 (f + 1) _ acc1 (by omega) ⟨hm3.put (Or.inr rfl), fun j hj' => ?_, ?_, fun z hz => ?_, hacc3⟩ hfin
            · rw [upd2_row (by omega)]; exact hj3 j hj'
            · rw [upd2_row (by omega)]; exact h123
            · by_cases e : z = f
              · rw [e, upd2_eq]; omega
              · rw [upd2_col e, hlf3 z hz, updf_ne e]
        · rw [g1, l1] at q
          simp only [x_push, x_iload, x_lload, x_aload, x_bin, x_div, x_un, x_lbin, x_ldiv, x_lcmp, x_i2l, x_l2i, x_dup, x_pop, x_dup2, x_c1, x_c2, x_null, x_cat1, x_istore, x_astore, x_lstore, x_iinc, x_nol, x_tsw, xsw, x_lsw, xlsw, x_ret, x_zret, x_lret, x_aret, x_vret, x_getI, x_getL, x_getR, x_putI, x_putZ, x_putL, x_iaload, x_zaload, x_aaload, x_iastore, x_zastore, x_alen, x_mm, x_acopy, xpush, xJ, xK, x_cV0, x_cV1, x_cV2, x_cV3, x_cV4, x_cV5, x_cV6, x_cV7, x_cV8, x_cS1, x_cS2, x_cS3, x_cS4, x_cS5, List.getD_cons_zero, List.getD_cons_succ, List.set_cons_zero, List.set_cons_succ, List.length_cons, List.length_nil, Nat.zero_add, true_and, and_true, List.getD_nil, not_true, not_false_eq_true, Int.toNat_natCast, false_implies, true_implies, if_true, if_false, Int.toNat_zero, Int.toNat_one, true_or, or_true, Int.reduceEq, Int.reduceLT, Int.reduceLE, Int.reduceNe, Int.reduceNeg, Int.reduceAdd, Int.reduceSub, Int.reduceMul, Int.reduceToNat, Nat.reduceLT, Nat.reduceLeDiff, Nat.reduceAdd, Nat.reduceEqDiff, Nat.reduceSub, not_false_iff, and_self, implies_true, false_and, and_false, or_self, false_or, or_false, Int.cast_ofNat_Int, Int.natCast_nonneg]
          rw [oadd_id (a := (f : Int)) (b := 1) (by omega) (by omega)]
          refine ih2 (f + 1) σ2 acc1 (by omega) ?_ hfin
          have ne : ¬ (ctm mask ct c f ≠ -1 ∧ ctm mask ct c f ≤ left f) := by
            unfold ctm
            by_cases z : xbit mask f = 1
            · rw [if_pos z]; exact fun y => q ⟨z, y⟩
            · rw [if_neg z]; exact fun y => y.1 rfl
          have : fPart (ctm mask ct) G (σ k 11) nf m c left u sum acc1 (f + 1) = fPart (ctm mask ct) G (σ k 11) nf m c left u sum acc1 f := by
            simp only [fPart]
            rw [if_neg ne]
          rw [this]
          exact hI2
    obtain ⟨hm, hj, h12, hlf, hacc⟩ := id hI
    refine b_X0_searchFewest_0 _ _ _ _ ?_
    show k_X0_searchFewest_0 (d + m + 3) Q (0, 0) [vr k, vi c, vi sum, vi u, vu] [] (Γ, σ')
    have e9 : σ' k 9 = nc := by rw [hj 9 (by decide)]; exact k9
    have e11 : σ' k 11 = σ k 11 := hj 11 (by decide)
    have e23 : σ' (k + 23) c = sHope (ctm mask ct) G nf me (m + 1) c := by rw [hm _ (by omega)]; exact hh
    simp only [k_X0_searchFewest_0, x_push, x_iload, x_lload, x_aload, x_bin, x_div, x_un, x_lbin, x_ldiv, x_lcmp, x_i2l, x_l2i, x_dup, x_pop, x_dup2, x_c1, x_c2, x_null, x_cat1, x_istore, x_astore, x_lstore, x_iinc, x_nol, x_tsw, xsw, x_lsw, xlsw, x_ret, x_zret, x_lret, x_aret, x_vret, x_getI, x_getL, x_getR, x_putI, x_putZ, x_putL, x_iaload, x_zaload, x_aaload, x_iastore, x_zastore, x_alen, x_mm, x_acopy, xpush, xJ, xK, x_cV0, x_cV1, x_cV2, x_cV3, x_cV4, x_cV5, x_cV6, x_cV7, x_cV8, x_cS1, x_cS2, x_cS3, x_cS4, x_cS5, List.getD_cons_zero, List.getD_cons_succ, List.set_cons_zero, List.set_cons_succ, List.length_cons, List.length_nil, Nat.zero_add, true_and, and_true, List.getD_nil, not_true, not_false_eq_true, Int.toNat_natCast, false_implies, true_implies, if_true, if_false, Int.toNat_zero, Int.toNat_one, true_or, or_true, Int.reduceEq, Int.reduceLT, Int.reduceLE, Int.reduceNe, Int.reduceNeg, Int.reduceAdd, Int.reduceSub, Int.reduceMul, Int.reduceToNat, Nat.reduceLT, Nat.reduceLeDiff, Nat.reduceAdd, Nat.reduceEqDiff, Nat.reduceSub, not_false_iff, and_self, implies_true, false_and, and_false, or_self, false_or, or_false, Int.cast_ofNat_Int, Int.natCast_nonneg, SK.f0 hS, SK.f1 hS, SK.f2 hS, SK.f3 hS, SK.f4 hS, SK.f5 hS, SK.f6 hS, SK.f7 hS, SK.f8 hS, SK.f9 hS, SK.l9 hS, SK.a9 hS, SK.e9 hS, SK.f10 hS, SK.l10 hS, SK.a10 hS, SK.e10 hS, SK.f11 hS, SK.l11 hS, SK.a11 hS, SK.e11 hS, SK.f12 hS, SK.l12 hS, SK.a12 hS, SK.e12 hS, SK.f13 hS, SK.l13 hS, SK.a13 hS, SK.e13 hS, SK.f14 hS, SK.l14 hS, SK.a14 hS, SK.f15 hS, SK.l15 hS, SK.a15 hS, SK.f16 hS, SK.l16 hS, SK.a16 hS, e11, e23, eq_true (show (c : Int) < 6 by omega)]
    rw [oadd_id (a := sum) (by omega) (by omega)]
    refine ⟨fun q => ?_, fun q => ?_⟩
    · refine hQ σ' ?_
      rw [ffold_noop (fun s hs => Or.inl ?_)]
      · exact hI
      · have := sAll_hope (ct := ctm mask ct) (G := G) (nf := nf) (nc := nc) (me := me) (fun c hc f hf => by unfold ctm; split; exact (kt c hc f hf).2.2.1.1; omega) (m + 1) c left hc (fun f hf => (bl f hf).2) s hs
        omega
    · refine c_bitCount hu ?_
      simp only [x_push, x_iload, x_lload, x_aload, x_bin, x_div, x_un, x_lbin, x_ldiv, x_lcmp, x_i2l, x_l2i, x_dup, x_pop, x_dup2, x_c1, x_c2, x_null, x_cat1, x_istore, x_astore, x_lstore, x_iinc, x_nol, x_tsw, xsw, x_lsw, xlsw, x_ret, x_zret, x_lret, x_aret, x_vret, x_getI, x_getL, x_getR, x_putI, x_putZ, x_putL, x_iaload, x_zaload, x_aaload, x_iastore, x_zastore, x_alen, x_mm, x_acopy, xpush, xJ, xK, x_cV0, x_cV1, x_cV2, x_cV3, x_cV4, x_cV5, x_cV6, x_cV7, x_cV8, x_cS1, x_cS2, x_cS3, x_cS4, x_cS5, List.getD_cons_zero, List.getD_cons_succ, List.set_cons_zero, List.set_cons_succ, List.length_cons, List.length_nil, Nat.zero_add, true_and, and_true, List.getD_nil, not_true, not_false_eq_true, Int.toNat_natCast, false_implies, true_implies, if_true, if_false, Int.toNat_zero, Int.toNat_one, true_or, or_true, Int.reduceEq, Int.reduceLT, Int.reduceLE, Int.reduceNe, Int.reduceNeg, Int.reduceAdd, Int.reduceSub, Int.reduceMul, Int.reduceToNat, Nat.reduceLT, Nat.reduceLeDiff, Nat.reduceAdd, Nat.reduceEqDiff, Nat.reduceSub, not_false_iff, and_self, implies_true, false_and, and_false, or_self, false_or, or_false, Int.cast_ofNat_Int, Int.natCast_nonneg, SK.f0 hS, SK.f1 hS, SK.f2 hS, SK.f3 hS, SK.f4 hS, SK.f5 hS, SK.f6 hS, SK.f7 hS, SK.f8 hS, SK.f9 hS, SK.l9 hS, SK.a9 hS, SK.e9 hS, SK.f10 hS, SK.l10 hS, SK.a10 hS, SK.e10 hS, SK.f11 hS, SK.l11 hS, SK.a11 hS, SK.e11 hS, SK.f12 hS, SK.l12 hS, SK.a12 hS, SK.e12 hS, SK.f13 hS, SK.l13 hS, SK.a13 hS, SK.e13 hS, SK.f14 hS, SK.l14 hS, SK.a14 hS, SK.f15 hS, SK.l15 hS, SK.a15 hS, SK.f16 hS, SK.l16 hS, SK.a16 hS, h12]
      refine c_bitCount hacc ?_
      simp only [x_push, x_iload, x_lload, x_aload, x_bin, x_div, x_un, x_lbin, x_ldiv, x_lcmp, x_i2l, x_l2i, x_dup, x_pop, x_dup2, x_c1, x_c2, x_null, x_cat1, x_istore, x_astore, x_lstore, x_iinc, x_nol, x_tsw, xsw, x_lsw, xlsw, x_ret, x_zret, x_lret, x_aret, x_vret, x_getI, x_getL, x_getR, x_putI, x_putZ, x_putL, x_iaload, x_zaload, x_aaload, x_iastore, x_zastore, x_alen, x_mm, x_acopy, xpush, xJ, xK, x_cV0, x_cV1, x_cV2, x_cV3, x_cV4, x_cV5, x_cV6, x_cV7, x_cV8, x_cS1, x_cS2, x_cS3, x_cS4, x_cS5, List.getD_cons_zero, List.getD_cons_succ, List.set_cons_zero, List.set_cons_succ, List.length_cons, List.length_nil, Nat.zero_add, true_and, and_true, List.getD_nil, not_true, not_false_eq_true, Int.toNat_natCast, false_implies, true_implies, if_true, if_false, Int.toNat_zero, Int.toNat_one, true_or, or_true, Int.reduceEq, Int.reduceLT, Int.reduceLE, Int.reduceNe, Int.reduceNeg, Int.reduceAdd, Int.reduceSub, Int.reduceMul, Int.reduceToNat, Nat.reduceLT, Nat.reduceLeDiff, Nat.reduceAdd, Nat.reduceEqDiff, Nat.reduceSub, not_false_iff, and_self, implies_true, false_and, and_false, or_self, false_or, or_false, Int.cast_ofNat_Int, Int.natCast_nonneg, SK.f0 hS, SK.f1 hS, SK.f2 hS, SK.f3 hS, SK.f4 hS, SK.f5 hS, SK.f6 hS, SK.f7 hS, SK.f8 hS, SK.f9 hS, SK.l9 hS, SK.a9 hS, SK.e9 hS, SK.f10 hS, SK.l10 hS, SK.a10 hS, SK.e10 hS, SK.f11 hS, SK.l11 hS, SK.a11 hS, SK.e11 hS, SK.f12 hS, SK.l12 hS, SK.a12 hS, SK.e12 hS, SK.f13 hS, SK.l13 hS, SK.a13 hS, SK.e13 hS, SK.f14 hS, SK.l14 hS, SK.a14 hS, SK.f15 hS, SK.l15 hS, SK.a15 hS, SK.f16 hS, SK.l16 hS, SK.a16 hS, e9, eq_true (show (c : Int) < (nc : Int) by omega)]
      refine ⟨fun q1 => ?_, fun q1 => ?_⟩
      · rw [oadd_id (a := (c : Int)) (b := 1) (by omega) (by omega)]
        refine ih (c + 1) left u sum acc _ _ (by omega) hI hu (by omega) bl (fun σ3 hI3 => ?_)
        simp only [x_push, x_iload, x_lload, x_aload, x_bin, x_div, x_un, x_lbin, x_ldiv, x_lcmp, x_i2l, x_l2i, x_dup, x_pop, x_dup2, x_c1, x_c2, x_null, x_cat1, x_istore, x_astore, x_lstore, x_iinc, x_nol, x_tsw, xsw, x_lsw, xlsw, x_ret, x_zret, x_lret, x_aret, x_vret, x_getI, x_getL, x_getR, x_putI, x_putZ, x_putL, x_iaload, x_zaload, x_aaload, x_iastore, x_zastore, x_alen, x_mm, x_acopy, xpush, xJ, xK, x_cV0, x_cV1, x_cV2, x_cV3, x_cV4, x_cV5, x_cV6, x_cV7, x_cV8, x_cS1, x_cS2, x_cS3, x_cS4, x_cS5, List.getD_cons_zero, List.getD_cons_succ, List.set_cons_zero, List.set_cons_succ, List.length_cons, List.length_nil, Nat.zero_add, true_and, and_true, List.getD_nil, not_true, not_false_eq_true, Int.toNat_natCast, false_implies, true_implies, if_true, if_false, Int.toNat_zero, Int.toNat_one, true_or, or_true, Int.reduceEq, Int.reduceLT, Int.reduceLE, Int.reduceNe, Int.reduceNeg, Int.reduceAdd, Int.reduceSub, Int.reduceMul, Int.reduceToNat, Nat.reduceLT, Nat.reduceLeDiff, Nat.reduceAdd, Nat.reduceEqDiff, Nat.reduceSub, not_false_iff, and_self, implies_true, false_and, and_false, or_self, false_or, or_false, Int.cast_ofNat_Int, Int.natCast_nonneg]
        exact loop nf 0 σ3 _ (by omega) hI3 fAll_fold.symm
      · refine hQ σ' ?_
        rw [ffold_noop (fun s hs => Or.inr ?_)]
        · exact hI
        · have := (sUse_ge (nf := nf) hnf (ct := ctm mask ct) (m + 1) c left u hu s hs).2
          omega
/-- the fewest figures of the best showings, of like many the least set -/
def sFew (ct G : Nat → Nat → Int) (best : Int) (nf nc : Nat) (me : Nat → Int) : Nat := (sAll ct nf nc 0 me).foldl (fStep G best 0 0 0) 63
set_option maxHeartbeats 2000000 in
theorem c_fewestFigures (hS : SK Γ k) (hR : SKr Γ k) (hB : SBase σ k (k + 7) mask nf nc ct G me) (hH : ∀ m c, c + m = nc → σ (k + 23) c = sHope (ctm mask ct) G nf me m c) (h19 : ∀ f, f < nf → σ (k + 19) f = me f)
    (hQ : ∀ σ', Sm (fun q => q = k ∨ q = k + 20) σ σ' → (∀ j, j ≠ 12 → σ' k j = σ k j) → sFew (ctm mask ct) G (σ k 11) nf nc me < 64 → Q (vi (sFew (ctm mask ct) G (σ k 11) nf nc me)) (Γ, σ')) : xRM M_X0_fewestFigures (d + nc + 4) (0, 0) [vr k] (Γ, σ) Q := by
  have hnf := hB.2.2.1
  have hme := hB.2.2.2.2.2.2.2.2
  refine xRM_of (by decide) (Nat.le_of_ble_eq_true rfl) ?_
  refine b_X0_fewestFigures_0 _ _ _ _ ?_
  show k_X0_fewestFigures_0 (d + nc + 3) Q (0, 0) [vr k] [] (Γ, σ)
  simp only [k_X0_fewestFigures_0, x_push, x_iload, x_lload, x_aload, x_bin, x_div, x_un, x_lbin, x_ldiv, x_lcmp, x_i2l, x_l2i, x_dup, x_pop, x_dup2, x_c1, x_c2, x_null, x_cat1, x_istore, x_astore, x_lstore, x_iinc, x_nol, x_tsw, xsw, x_lsw, xlsw, x_ret, x_zret, x_lret, x_aret, x_vret, x_getI, x_getL, x_getR, x_putI, x_putZ, x_putL, x_iaload, x_zaload, x_aaload, x_iastore, x_zastore, x_alen, x_mm, x_acopy, xpush, xJ, xK, x_cV0, x_cV1, x_cV2, x_cV3, x_cV4, x_cV5, x_cV6, x_cV7, x_cV8, x_cS1, x_cS2, x_cS3, x_cS4, x_cS5, List.getD_cons_zero, List.getD_cons_succ, List.set_cons_zero, List.set_cons_succ, List.length_cons, List.length_nil, Nat.zero_add, true_and, and_true, List.getD_nil, not_true, not_false_eq_true, Int.toNat_natCast, false_implies, true_implies, if_true, if_false, Int.toNat_zero, Int.toNat_one, true_or, or_true, Int.reduceEq, Int.reduceLT, Int.reduceLE, Int.reduceNe, Int.reduceNeg, Int.reduceAdd, Int.reduceSub, Int.reduceMul, Int.reduceToNat, Nat.reduceLT, Nat.reduceLeDiff, Nat.reduceAdd, Nat.reduceEqDiff, Nat.reduceSub, not_false_iff, and_self, implies_true, false_and, and_false, or_self, false_or, or_false, Int.cast_ofNat_Int, Int.natCast_nonneg, SK.f0 hS, SK.f1 hS, SK.f2 hS, SK.f3 hS, SK.f4 hS, SK.f5 hS, SK.f6 hS, SK.f7 hS, SK.f8 hS, SK.f9 hS, SK.l9 hS, SK.a9 hS, SK.e9 hS, SK.f10 hS, SK.l10 hS, SK.a10 hS, SK.e10 hS, SK.f11 hS, SK.l11 hS, SK.a11 hS, SK.e11 hS, SK.f12 hS, SK.l12 hS, SK.a12 hS, SK.e12 hS, SK.f13 hS, SK.l13 hS, SK.a13 hS, SK.e13 hS, SK.f14 hS, SK.l14 hS, SK.a14 hS, SK.f15 hS, SK.l15 hS, SK.a15 hS, SK.f16 hS, SK.l16 hS, SK.a16 hS]
  refine c_fillPurses (d := d + nc + 2) hS (fun σ1 h1 h2 => ?_)
  simp only [x_push, x_iload, x_lload, x_aload, x_bin, x_div, x_un, x_lbin, x_ldiv, x_lcmp, x_i2l, x_l2i, x_dup, x_pop, x_dup2, x_c1, x_c2, x_null, x_cat1, x_istore, x_astore, x_lstore, x_iinc, x_nol, x_tsw, xsw, x_lsw, xlsw, x_ret, x_zret, x_lret, x_aret, x_vret, x_getI, x_getL, x_getR, x_putI, x_putZ, x_putL, x_iaload, x_zaload, x_aaload, x_iastore, x_zastore, x_alen, x_mm, x_acopy, xpush, xJ, xK, x_cV0, x_cV1, x_cV2, x_cV3, x_cV4, x_cV5, x_cV6, x_cV7, x_cV8, x_cS1, x_cS2, x_cS3, x_cS4, x_cS5, List.getD_cons_zero, List.getD_cons_succ, List.set_cons_zero, List.set_cons_succ, List.length_cons, List.length_nil, Nat.zero_add, true_and, and_true, List.getD_nil, not_true, not_false_eq_true, Int.toNat_natCast, false_implies, true_implies, if_true, if_false, Int.toNat_zero, Int.toNat_one, true_or, or_true, Int.reduceEq, Int.reduceLT, Int.reduceLE, Int.reduceNe, Int.reduceNeg, Int.reduceAdd, Int.reduceSub, Int.reduceMul, Int.reduceToNat, Nat.reduceLT, Nat.reduceLeDiff, Nat.reduceAdd, Nat.reduceEqDiff, Nat.reduceSub, not_false_iff, and_self, implies_true, false_and, and_false, or_self, false_or, or_false, Int.cast_ofNat_Int, Int.natCast_nonneg, SK.f0 hS, SK.f1 hS, SK.f2 hS, SK.f3 hS, SK.f4 hS, SK.f5 hS, SK.f6 hS, SK.f7 hS, SK.f8 hS, SK.f9 hS, SK.l9 hS, SK.a9 hS, SK.e9 hS, SK.f10 hS, SK.l10 hS, SK.a10 hS, SK.e10 hS, SK.f11 hS, SK.l11 hS, SK.a11 hS, SK.e11 hS, SK.f12 hS, SK.l12 hS, SK.a12 hS, SK.e12 hS, SK.f13 hS, SK.l13 hS, SK.a13 hS, SK.e13 hS, SK.f14 hS, SK.l14 hS, SK.a14 hS, SK.f15 hS, SK.l15 hS, SK.a15 hS, SK.f16 hS, SK.l16 hS, SK.a16 hS]
  have hm : Sm (fun q => q = k ∨ q = k + 20) σ σ1 := fun q hq => by
    rw [h1 q (fun e => hq (Or.inr e)), upd2_row (fun e => hq (Or.inl e))]
  have fin : ∀ σ2, FI σ σ2 k nf (sFew (ctm mask ct) G (σ k 11) nf nc me) me → Q (vi (σ2 k 12)) (Γ, σ2) := by
    intro σ2 hI
    obtain ⟨a1, a2, a3, a4, a5⟩ := hI
    rw [a3]
    exact hQ σ2 a1 a2 a5
  refine c_searchFewest (d := d) hS hR hB hH nc 0 me 0 0 63 σ1 _ (by omega) ⟨hm, fun j hj => ?_, ?_, fun f hf => ?_, by decide⟩ (by decide) (by omega) (fun f hf => ⟨(hme f hf).1, Int.le_refl _⟩) (fun σ2 hI => ?_)
  · rw [h1 k (by omega), upd2_col hj]
  · rw [h1 k (by omega), upd2_eq]
    rfl
  · rw [h2 f (by omega), upd2_row (by omega)]
    exact h19 f hf
  · simp only [x_push, x_iload, x_lload, x_aload, x_bin, x_div, x_un, x_lbin, x_ldiv, x_lcmp, x_i2l, x_l2i, x_dup, x_pop, x_dup2, x_c1, x_c2, x_null, x_cat1, x_istore, x_astore, x_lstore, x_iinc, x_nol, x_tsw, xsw, x_lsw, xlsw, x_ret, x_zret, x_lret, x_aret, x_vret, x_getI, x_getL, x_getR, x_putI, x_putZ, x_putL, x_iaload, x_zaload, x_aaload, x_iastore, x_zastore, x_alen, x_mm, x_acopy, xpush, xJ, xK, x_cV0, x_cV1, x_cV2, x_cV3, x_cV4, x_cV5, x_cV6, x_cV7, x_cV8, x_cS1, x_cS2, x_cS3, x_cS4, x_cS5, List.getD_cons_zero, List.getD_cons_succ, List.set_cons_zero, List.set_cons_succ, List.length_cons, List.length_nil, Nat.zero_add, true_and, and_true, List.getD_nil, not_true, not_false_eq_true, Int.toNat_natCast, false_implies, true_implies, if_true, if_false, Int.toNat_zero, Int.toNat_one, true_or, or_true, Int.reduceEq, Int.reduceLT, Int.reduceLE, Int.reduceNe, Int.reduceNeg, Int.reduceAdd, Int.reduceSub, Int.reduceMul, Int.reduceToNat, Nat.reduceLT, Nat.reduceLeDiff, Nat.reduceAdd, Nat.reduceEqDiff, Nat.reduceSub, not_false_iff, and_self, implies_true, false_and, and_false, or_self, false_or, or_false, Int.cast_ofNat_Int, Int.natCast_nonneg, SK.f0 hS, SK.f1 hS, SK.f2 hS, SK.f3 hS, SK.f4 hS, SK.f5 hS, SK.f6 hS, SK.f7 hS, SK.f8 hS, SK.f9 hS, SK.l9 hS, SK.a9 hS, SK.e9 hS, SK.f10 hS, SK.l10 hS, SK.a10 hS, SK.e10 hS, SK.f11 hS, SK.l11 hS, SK.a11 hS, SK.e11 hS, SK.f12 hS, SK.l12 hS, SK.a12 hS, SK.e12 hS, SK.f13 hS, SK.l13 hS, SK.a13 hS, SK.e13 hS, SK.f14 hS, SK.l14 hS, SK.a14 hS, SK.f15 hS, SK.l15 hS, SK.a15 hS, SK.f16 hS, SK.l16 hS, SK.a16 hS]
    exact fin σ2 hI
/-- what a search rests on, from the tables -/
theorem SBase_of {g : Nat} (hK : KT2 σ k nf nc ct jo ic me) (hB : TB nf nc ct jo ic me) (hG : (g = k + 7 ∧ G = jo) ∨ (g = k + 13 ∧ G = ic)) (hmask : mask < 64) (h10 : σ k 10 = mask) : SBase σ k g mask nf nc ct G me := by
  obtain ⟨k8, k9, k19, kt⟩ := hK
  obtain ⟨hnf, hnc, hme, htb⟩ := hB
  refine ⟨by omega, hmask, hnf, hnc, k8, k9, h10, fun c hc f hf => ?_, hme⟩
  obtain ⟨t1, t2⟩ := kt c hc f hf
  obtain ⟨b1, b2, b3⟩ := htb c hc f hf
  refine ⟨t1, fun q => ?_, b1, ?_⟩
  · rcases hG with ⟨e, rfl⟩ | ⟨e, rfl⟩
    · rw [show g + 1 + c = k + 8 + c by omega]; exact (t2 q).1
    · rw [show g + 1 + c = k + 14 + c by omega]; exact (t2 q).2
  · rcases hG with ⟨e, rfl⟩ | ⟨e, rfl⟩
    · omega
    · omega
end Few2
/-- the cost, or -1 where nothing shows -/
noncomputable def tCt (E : Nat → Nat → List Int) (A : Nat → Nat → Int) (nc c f : Nat) : Int := @ite _ (tAp A c f) (Classical.propDecidable _) (tCo E A nc c f) (-1)
theorem tCt_pos {E : Nat → Nat → List Int} {A : Nat → Nat → Int} {nc c f : Nat} (h : tAp A c f) : tCt E A nc c f = tCo E A nc c f := by
  unfold tCt
  rw [if_pos h]
theorem tCt_neg {E : Nat → Nat → List Int} {A : Nat → Nat → Int} {nc c f : Nat} (h : ¬ tAp A c f) : tCt E A nc c f = -1 := by
  unfold tCt
  rw [if_neg h]
theorem KT2_of {σ : Nat → Nat → Int} {k nf nc : Nat} {E : Nat → Nat → List Int} {A : Nat → Nat → Int} {jo ic : Nat → Nat → Int} {me : Nat → Int} (h : KT σ k nf nc (tAp A) (tCo E A nc) jo ic me) : KT2 σ k nf nc (tCt E A nc) jo ic me := by
  obtain ⟨a1, a2, a3, a4⟩ := h
  refine ⟨a1, a2, a3, fun c hc f hf => ?_⟩
  obtain ⟨b1, b2⟩ := a4 c hc f hf
  by_cases z : tAp A c f
  · obtain ⟨c1, c2, c3⟩ := b1 z
    exact ⟨by rw [tCt_pos z]; exact c1, fun _ => ⟨c2, c3⟩⟩
  · exact ⟨by rw [tCt_neg z]; exact b2 z, fun q => absurd (tCt_neg z) q⟩
theorem TB_of {nf nc tc : Nat} {A : Nat → Nat → Int} {E : Nat → Nat → List Int} (hA : AI nf nc tc A) : TB nf nc (tCt E A nc) (sGlad E A nc) (tIc E A nc) (A 2) := by
  refine ⟨hA.1, hA.2.1, fun f hf => (hA.2.2.2.2.1 f hf).2.1, fun c hc f hf => ⟨?_, ?_, ?_⟩⟩
  · have h := sCost_le (E := E) hA hf (A 4 c)
    by_cases z : tAp A c f
    · rw [tCt_pos z]
      unfold tCo
      omega
    · rw [tCt_neg z]
      omega
  · unfold sGlad
    have hr := sClamp_le 1 (ev (sNm A nc f (A 4 c) 1) (E (A 7 0).toNat 1))
    rw [if_pos rfl] at hr
    change _ ≤ sRule E A nc 1 f (A 4 c) 1 ∧ sRule E A nc 1 f (A 4 c) 1 ≤ 99 at hr
    generalize sRule E A nc 1 f (A 4 c) 1 = r at hr
    have hv : -99 ≤ (if sWish A c f = 1 then r else 0) ∧ (if sWish A c f = 1 then r else 0) ≤ 99 := by split <;> omega
    generalize (if sWish A c f = 1 then r else 0) = v at hv
    have ht : -99 ≤ v.tdiv 2 ∧ v.tdiv 2 ≤ 99 := by
      rcases Int.le_total 0 v with z | z
      · rw [Int.tdiv_eq_ediv_of_nonneg z]
        omega
      · have e : v.tdiv 2 = -((-v).tdiv 2) := by rw [Int.neg_tdiv, Int.neg_neg]
        rw [e, Int.tdiv_eq_ediv_of_nonneg (by omega)]
        omega
    dsimp only
    generalize v.tdiv 2 = x at ht
    (repeat' split) <;> omega
  · have h := sCost_le (E := E) hA hf (A 4 c)
    have hr := sClamp_le 2 (ev (sNm A nc f (A 4 c) (sWish A c f)) (E (A 7 0).toNat 2))
    rw [if_neg (by decide)] at hr
    change _ ≤ sPay E A nc c f ∧ sPay E A nc c f ≤ 99 at hr
    unfold tIc
    omega
