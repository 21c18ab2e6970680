/-! ===== Tape.wordOf, Text.clear ===== -/
section Tape
variable {Γ : xSh} {σ : Nat → Nat → Int} {t d n : Nat} {Q : xV → xMem → Prop}
set_option maxHeartbeats 2000000 in
theorem c_wordOf {w : Nat} {μ : xMem} (hw : w < 12) (hQ : Q (vo (w + 3)) μ) : xRM M_X2_wordOf (d + 1) (0, 0) [vi w] μ Q := by
  refine xRM_of (by decide) (Nat.le_of_ble_eq_true rfl) ?_
  refine b_X2_wordOf_0 _ _ _ _ ?_
  show k_X2_wordOf_0 d Q (0, 0) [vi w] [] μ
  simp only [k_X2_wordOf_0, x_push, x_iload, x_lload, x_aload, x_bin, x_div, x_un, x_lbin, x_ldiv, x_lcmp, x_i2l, x_l2i, x_dup, x_pop, x_dup2, x_c1, x_c2, x_null, x_cat1, x_istore, x_astore, x_lstore, x_iinc, x_nol, x_tsw, xsw, x_lsw, xlsw, x_ret, x_zret, x_lret, x_aret, x_vret, x_getI, x_getL, x_getR, x_putI, x_putZ, x_putL, x_iaload, x_zaload, x_aaload, x_iastore, x_zastore, x_alen, x_mm, x_acopy, xpush, xJ, xK, x_cV0, x_cV1, x_cV2, x_cV3, x_cV4, x_cV5, x_cV6, x_cV7, x_cV8, x_cS1, x_cS2, x_cS3, x_cS4, x_cS5, List.getD_cons_zero, List.getD_cons_succ, List.set_cons_zero, List.set_cons_succ, List.length_cons, List.length_nil, Nat.zero_add, true_and, and_true, List.getD_nil, not_true, not_false_eq_true, Int.toNat_natCast, false_implies, true_implies, if_true, if_false, Int.toNat_zero, Int.toNat_one, true_or, or_true, Int.reduceEq, Int.reduceLT, Int.reduceLE, Int.reduceNe, Int.reduceNeg, Int.reduceAdd, Int.reduceSub, Int.reduceMul, Int.reduceToNat, Nat.reduceLT, Nat.reduceLeDiff, Nat.reduceAdd, Nat.reduceEqDiff, Nat.reduceSub, not_false_iff, and_self, implies_true, false_and, and_false, or_self, false_or, or_false, Int.cast_ofNat_Int, Int.natCast_nonneg]
  refine ⟨?_, ?_, ?_, ?_, ?_, ?_, ?_, ?_, ?_, ?_, ?_, ?_⟩
  all_goals intro q
  · have : w = 0 := by omega
    subst this; exact hQ
  · have : w = 1 := by omega
    subst this; exact hQ
  · have : w = 2 := by omega
    subst this; exact hQ
  · have : w = 3 := by omega
    subst this; exact hQ
  · have : w = 4 := by omega
    subst this; exact hQ
  · have : w = 5 := by omega
    subst this; exact hQ
  · have : w = 6 := by omega
    subst this; exact hQ
  · have : w = 7 := by omega
    subst this; exact hQ
  · have : w = 8 := by omega
    subst this; exact hQ
  · have : w = 9 := by omega
    subst this; exact hQ
  · have : w = 10 := by omega
    subst this; exact hQ
  · have : w = 11 := by omega
    subst this; exact hQ
set_option maxHeartbeats 2000000 in
theorem c_textClear (hS : ST Γ t) (hQ : ∀ σ', Sm (fun q => q = t ∨ q = t + 2) σ σ' → σ' t 3 = 0 → (∀ p, p < 3 → σ' (t + 2) p = 0) → Q vu (Γ, σ')) : xRM M_X3_clear (d + 1) (0, 0) [vr t] (Γ, σ) Q := by
  refine xRM_of (by decide) (Nat.le_of_ble_eq_true rfl) ?_
  have loop : ∀ (m i : Nat) (σ' : Nat → Nat → Int), i + m = 3 → Sm (fun q => q = t ∨ q = t + 2) σ σ' → σ' t 3 = 0 → (∀ p, p < i → σ' (t + 2) p = 0) → xR M_X3_clear (d + 1) (0, 0) 7 [vr t, vi i] [] (Γ, σ') Q := by
    intro m
    induction m with
    | zero =>
      intro i σ' hi hm h3 hz
      have hi : i = 3 := by omega
      subst hi
      refine b_X3_clear_7 _ _ _ _ ?_
      simp only [k_X3_clear_7, x_push, x_iload, x_lload, x_aload, x_bin, x_div, x_un, x_lbin, x_ldiv, x_lcmp, x_i2l, x_l2i, x_dup, x_pop, x_dup2, x_c1, x_c2, x_null, x_cat1, x_istore, x_astore, x_lstore, x_iinc, x_nol, x_tsw, xsw, x_lsw, xlsw, x_ret, x_zret, x_lret, x_aret, x_vret, x_getI, x_getL, x_getR, x_putI, x_putZ, x_putL, x_iaload, x_zaload, x_aaload, x_iastore, x_zastore, x_alen, x_mm, x_acopy, xpush, xJ, xK, x_cV0, x_cV1, x_cV2, x_cV3, x_cV4, x_cV5, x_cV6, x_cV7, x_cV8, x_cS1, x_cS2, x_cS3, x_cS4, x_cS5, List.getD_cons_zero, List.getD_cons_succ, List.set_cons_zero, List.set_cons_succ, List.length_cons, List.length_nil, Nat.zero_add, true_and, and_true, List.getD_nil, not_true, not_false_eq_true, Int.toNat_natCast, false_implies, true_implies, if_true, if_false, Int.toNat_zero, Int.toNat_one, true_or, or_true, Int.reduceEq, Int.reduceLT, Int.reduceLE, Int.reduceNe, Int.reduceNeg, Int.reduceAdd, Int.reduceSub, Int.reduceMul, Int.reduceToNat, Nat.reduceLT, Nat.reduceLeDiff, Nat.reduceAdd, Nat.reduceEqDiff, Nat.reduceSub, not_false_iff, and_self, implies_true, false_and, and_false, or_self, false_or, or_false, Int.cast_ofNat_Int, Int.natCast_nonneg]
      exact hQ σ' hm h3 hz
    | succ m ih =>
      intro i σ' hi hm h3 hz
      refine b_X3_clear_7 _ _ _ _ ?_
      simp only [k_X3_clear_7, x_push, x_iload, x_lload, x_aload, x_bin, x_div, x_un, x_lbin, x_ldiv, x_lcmp, x_i2l, x_l2i, x_dup, x_pop, x_dup2, x_c1, x_c2, x_null, x_cat1, x_istore, x_astore, x_lstore, x_iinc, x_nol, x_tsw, xsw, x_lsw, xlsw, x_ret, x_zret, x_lret, x_aret, x_vret, x_getI, x_getL, x_getR, x_putI, x_putZ, x_putL, x_iaload, x_zaload, x_aaload, x_iastore, x_zastore, x_alen, x_mm, x_acopy, xpush, xJ, xK, x_cV0, x_cV1, x_cV2, x_cV3, x_cV4, x_cV5, x_cV6, x_cV7, x_cV8, x_cS1, x_cS2, x_cS3, x_cS4, x_cS5, List.getD_cons_zero, List.getD_cons_succ, List.set_cons_zero, List.set_cons_succ, List.length_cons, List.length_nil, Nat.zero_add, true_and, and_true, List.getD_nil, not_true, not_false_eq_true, Int.toNat_natCast, false_implies, true_implies, if_true, if_false, Int.toNat_zero, Int.toNat_one, true_or, or_true, Int.reduceEq, Int.reduceLT, Int.reduceLE, Int.reduceNe, Int.reduceNeg, Int.reduceAdd, Int.reduceSub, Int.reduceMul, Int.reduceToNat, Nat.reduceLT, Nat.reduceLeDiff, Nat.reduceAdd, Nat.reduceEqDiff, Nat.reduceSub, not_false_iff, and_self, implies_true, false_and, and_false, or_self, false_or, or_false, Int.cast_ofNat_Int, Int.natCast_nonneg, ST.f0 hS, ST.f1 hS, ST.f2 hS, ST.f3 hS, ST.f4 hS, ST.l4 hS, ST.a4 hS, ST.e4 hS, ST.f5 hS, ST.l5 hS, ST.a5 hS, ST.e5 hS, ST.f6 hS, ST.l6 hS, ST.a6 hS, ST.e6 hS, eq_false (show ¬ ((3 : Int) ≤ (i : Int)) by omega), eq_true (show (i : Int) < 3 by omega)]
      rw [oadd_id (by omega) (by omega)]
      refine ih (i + 1) _ (by omega) (hm.put (Or.inr rfl)) (by rw [upd2_row (by omega)]; exact h3) (fun p hp => ?_)
      by_cases e : p = i
      · rw [e, upd2_eq]
      · rw [upd2_col e]; exact hz p (by omega)
  refine b_X3_clear_0 _ _ _ _ ?_
  show k_X3_clear_0 d Q (0, 0) [vr t, vu] [] (Γ, σ)
  simp only [k_X3_clear_0, x_push, x_iload, x_lload, x_aload, x_bin, x_div, x_un, x_lbin, x_ldiv, x_lcmp, x_i2l, x_l2i, x_dup, x_pop, x_dup2, x_c1, x_c2, x_null, x_cat1, x_istore, x_astore, x_lstore, x_iinc, x_nol, x_tsw, xsw, x_lsw, xlsw, x_ret, x_zret, x_lret, x_aret, x_vret, x_getI, x_getL, x_getR, x_putI, x_putZ, x_putL, x_iaload, x_zaload, x_aaload, x_iastore, x_zastore, x_alen, x_mm, x_acopy, xpush, xJ, xK, x_cV0, x_cV1, x_cV2, x_cV3, x_cV4, x_cV5, x_cV6, x_cV7, x_cV8, x_cS1, x_cS2, x_cS3, x_cS4, x_cS5, List.getD_cons_zero, List.getD_cons_succ, List.set_cons_zero, List.set_cons_succ, List.length_cons, List.length_nil, Nat.zero_add, true_and, and_true, List.getD_nil, not_true, not_false_eq_true, Int.toNat_natCast, false_implies, true_implies, if_true, if_false, Int.toNat_zero, Int.toNat_one, true_or, or_true, Int.reduceEq, Int.reduceLT, Int.reduceLE, Int.reduceNe, Int.reduceNeg, Int.reduceAdd, Int.reduceSub, Int.reduceMul, Int.reduceToNat, Nat.reduceLT, Nat.reduceLeDiff, Nat.reduceAdd, Nat.reduceEqDiff, Nat.reduceSub, not_false_iff, and_self, implies_true, false_and, and_false, or_self, false_or, or_false, Int.cast_ofNat_Int, Int.natCast_nonneg, ST.f0 hS, ST.f1 hS, ST.f2 hS, ST.f3 hS, ST.f4 hS, ST.l4 hS, ST.a4 hS, ST.e4 hS, ST.f5 hS, ST.l5 hS, ST.a5 hS, ST.e5 hS, ST.f6 hS, ST.l6 hS, ST.a6 hS, ST.e6 hS]
  exact loop 3 0 _ (by omega) (Sm.rf.put (Or.inl rfl)) upd2_eq (fun p hp => by omega)
end Tape
