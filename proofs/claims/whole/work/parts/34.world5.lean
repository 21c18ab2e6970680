/-! ===== World: what it holds changes ===== -/
section World
variable {Γ : xSh} {σ : Nat → Nat → Int} {w tx t0 d n nf nc tc : Nat} {A : Nat → Nat → Int} {E : Nat → Nat → List Int} {h x what of v : Int} {Q : xV → xMem → Prop}
theorem upd2_at {σ : Nat → Nat → Int} {a j k i : Nat} {v : Int} : upd2 σ a j v k i = if k = a ∧ i = j then v else σ k i := rfl
theorem WV.rate (hV : WV σ w nf nc A) : WV (upd2 σ w 1 v) w nf nc (upd2 A 0 0 v) := by
  obtain ⟨h1, h2, h3, h4, h5, h6⟩ := hV
  refine ⟨by simp [upd2], by simp [upd2, h2], by simp [upd2, h3], by simp [upd2, h4], fun f hf => ?_, fun c hc => ?_⟩
  · obtain ⟨a, b, c, d⟩ := h5 f hf
    simp [upd2, a, b, c, d]
  · obtain ⟨a, b⟩ := h6 c hc
    simp [upd2, a, b]
theorem WV.p1 {j : Nat} (hV : WV σ w nf nc A) : WV (upd2 σ (w + 2) j v) w nf nc (upd2 A 1 j v) := by
  obtain ⟨h1, h2, h3, h4, h5, h6⟩ := hV
  refine ⟨by simp [upd2, h1], by simp [upd2, h2], by simp [upd2, h3], by simp [upd2, h4], fun f hf => ?_, fun c hc => ?_⟩
  · obtain ⟨a, b, c, d⟩ := h5 f hf
    simp [upd2, a, b, c, d]
  · obtain ⟨a, b⟩ := h6 c hc
    simp [upd2, a, b]
theorem WV.p2 {j : Nat} (hV : WV σ w nf nc A) : WV (upd2 σ (w + 3) j v) w nf nc (upd2 A 2 j v) := by
  obtain ⟨h1, h2, h3, h4, h5, h6⟩ := hV
  refine ⟨by simp [upd2, h1], by simp [upd2, h2], by simp [upd2, h3], by simp [upd2, h4], fun f hf => ?_, fun c hc => ?_⟩
  · obtain ⟨a, b, c, d⟩ := h5 f hf
    simp [upd2, a, b, c, d]
  · obtain ⟨a, b⟩ := h6 c hc
    simp [upd2, a, b]
theorem WV.p3 {j : Nat} (hV : WV σ w nf nc A) : WV (upd2 σ (w + 4) j v) w nf nc (upd2 A 3 j v) := by
  obtain ⟨h1, h2, h3, h4, h5, h6⟩ := hV
  refine ⟨by simp [upd2, h1], by simp [upd2, h2], by simp [upd2, h3], by simp [upd2, h4], fun f hf => ?_, fun c hc => ?_⟩
  · obtain ⟨a, b, c, d⟩ := h5 f hf
    simp [upd2, a, b, c, d]
  · obtain ⟨a, b⟩ := h6 c hc
    simp [upd2, a, b]
theorem WV.p6 {j : Nat} (hV : WV σ w nf nc A) : WV (upd2 σ (w + 1) j v) w nf nc (upd2 A 6 j v) := by
  obtain ⟨h1, h2, h3, h4, h5, h6⟩ := hV
  refine ⟨by simp [upd2, h1], by simp [upd2, h2], by simp [upd2, h3], by simp [upd2, h4], fun f hf => ?_, fun c hc => ?_⟩
  · obtain ⟨a, b, c, d⟩ := h5 f hf
    simp [upd2, a, b, c, d]
  · obtain ⟨a, b⟩ := h6 c hc
    simp [upd2, a, b]
theorem WV.p4 {j : Nat} (hV : WV σ w nf nc A) : WV (upd2 σ (w + 5) j v) w nf nc (upd2 A 4 j v) := by
  obtain ⟨h1, h2, h3, h4, h5, h6⟩ := hV
  refine ⟨by simp [upd2, h1], by simp [upd2, h2], by simp [upd2, h3], by simp [upd2, h4], fun f hf => ?_, fun c hc => ?_⟩
  · obtain ⟨a, b, c, d⟩ := h5 f hf
    simp [upd2, a, b, c, d]
  · obtain ⟨a, b⟩ := h6 c hc
    simp [upd2, a, b]
theorem WV.p5 {j : Nat} (hV : WV σ w nf nc A) : WV (upd2 σ (w + 6) j v) w nf nc (upd2 A 5 j v) := by
  obtain ⟨h1, h2, h3, h4, h5, h6⟩ := hV
  refine ⟨by simp [upd2, h1], by simp [upd2, h2], by simp [upd2, h3], by simp [upd2, h4], fun f hf => ?_, fun c hc => ?_⟩
  · obtain ⟨a, b, c, d⟩ := h5 f hf
    simp [upd2, a, b, c, d]
  · obtain ⟨a, b⟩ := h6 c hc
    simp [upd2, a, b]
set_option maxHeartbeats 2000000 in
theorem c_alter (hS : SW Γ w tx) (hV : WV σ w nf nc A) (hnf : nf ≤ 6) (hnc : nc ≤ 5) (hh : sHas nf nc what of) (h6 : what ≠ 6) (hQ : ∀ σ', Sm (RV w) σ σ' → WV σ' w nf nc (upd2 A what.toNat (sIx what of) v) → Q vu (Γ, σ')) : xRM M_X4_alter (d + 3) (0, 0) [vr w, vi what, vi of, vi v] (Γ, σ) Q := by
  refine xRM_of (by decide) (Nat.le_of_ble_eq_true rfl) ?_
  refine b_X4_alter_0 _ _ _ _ ?_
  show k_X4_alter_0 (d + 2) Q (0, 0) [vr w, vi what, vi of, vi v] [] (Γ, σ)
  simp only [k_X4_alter_0, x_push, x_iload, x_lload, x_aload, x_bin, x_div, x_un, x_lbin, x_ldiv, x_lcmp, x_i2l, x_l2i, x_dup, x_pop, x_dup2, x_c1, x_c2, x_null, x_cat1, x_istore, x_astore, x_lstore, x_iinc, x_nol, x_tsw, xsw, x_lsw, xlsw, x_ret, x_zret, x_lret, x_aret, x_vret, x_getI, x_getL, x_getR, x_putI, x_putZ, x_putL, x_iaload, x_zaload, x_aaload, x_iastore, x_zastore, x_alen, x_mm, x_acopy, xpush, xJ, xK, x_cV0, x_cV1, x_cV2, x_cV3, x_cV4, x_cV5, x_cV6, x_cV7, x_cV8, x_cS1, x_cS2, x_cS3, x_cS4, x_cS5, List.getD_cons_zero, List.getD_cons_succ, List.set_cons_zero, List.set_cons_succ, List.length_cons, List.length_nil, Nat.zero_add, true_and, and_true, List.getD_nil, not_true, not_false_eq_true, Int.toNat_natCast, false_implies, true_implies, if_true, if_false, Int.toNat_zero, Int.toNat_one, true_or, or_true, Int.reduceEq, Int.reduceLT, Int.reduceLE, Int.reduceNe, Int.reduceNeg, Int.reduceAdd, Int.reduceSub, Int.reduceMul, Int.reduceToNat, Nat.reduceLT, Nat.reduceLeDiff, Nat.reduceAdd, Nat.reduceEqDiff, Nat.reduceSub, not_false_iff, and_self, implies_true, false_and, and_false, or_self, false_or, or_false, Int.cast_ofNat_Int, Int.natCast_nonneg, SW.f0 hS, SW.f1 hS, SW.f2 hS, SW.f3 hS, SW.f4 hS, SW.f5 hS, SW.f6 hS, SW.f7 hS, SW.f8 hS, SW.f9 hS, SW.l9 hS, SW.a9 hS, SW.e9 hS, SW.f10 hS, SW.l10 hS, SW.a10 hS, SW.e10 hS, SW.f11 hS, SW.l11 hS, SW.a11 hS, SW.e11 hS, SW.f12 hS, SW.l12 hS, SW.a12 hS, SW.e12 hS, SW.f13 hS, SW.l13 hS, SW.a13 hS, SW.e13 hS, SW.f14 hS, SW.l14 hS, SW.a14 hS, SW.e14 hS, SW.f15 hS, SW.l15 hS, SW.a15 hS, SW.e15 hS]
  have in' : ∀ j, j ≤ 6 → RV w (w + j) := fun j hj => ⟨by omega, by omega⟩
  refine c_has hS hV (fun _ => ?_) (fun z => absurd hh z)
  rcases hh with rfl | ⟨hw, o0, o1⟩ | ⟨hw, o0, o1⟩
  · simp only [x_push, x_iload, x_lload, x_aload, x_bin, x_div, x_un, x_lbin, x_ldiv, x_lcmp, x_i2l, x_l2i, x_dup, x_pop, x_dup2, x_c1, x_c2, x_null, x_cat1, x_istore, x_astore, x_lstore, x_iinc, x_nol, x_tsw, xsw, x_lsw, xlsw, x_ret, x_zret, x_lret, x_aret, x_vret, x_getI, x_getL, x_getR, x_putI, x_putZ, x_putL, x_iaload, x_zaload, x_aaload, x_iastore, x_zastore, x_alen, x_mm, x_acopy, xpush, xJ, xK, x_cV0, x_cV1, x_cV2, x_cV3, x_cV4, x_cV5, x_cV6, x_cV7, x_cV8, x_cS1, x_cS2, x_cS3, x_cS4, x_cS5, List.getD_cons_zero, List.getD_cons_succ, List.set_cons_zero, List.set_cons_succ, List.length_cons, List.length_nil, Nat.zero_add, true_and, and_true, List.getD_nil, not_true, not_false_eq_true, Int.toNat_natCast, false_implies, true_implies, if_true, if_false, Int.toNat_zero, Int.toNat_one, true_or, or_true, Int.reduceEq, Int.reduceLT, Int.reduceLE, Int.reduceNe, Int.reduceNeg, Int.reduceAdd, Int.reduceSub, Int.reduceMul, Int.reduceToNat, Nat.reduceLT, Nat.reduceLeDiff, Nat.reduceAdd, Nat.reduceEqDiff, Nat.reduceSub, not_false_iff, and_self, implies_true, false_and, and_false, or_self, false_or, or_false, Int.cast_ofNat_Int, Int.natCast_nonneg, SW.f0 hS, SW.f1 hS, SW.f2 hS, SW.f3 hS, SW.f4 hS, SW.f5 hS, SW.f6 hS, SW.f7 hS, SW.f8 hS, SW.f9 hS, SW.l9 hS, SW.a9 hS, SW.e9 hS, SW.f10 hS, SW.l10 hS, SW.a10 hS, SW.e10 hS, SW.f11 hS, SW.l11 hS, SW.a11 hS, SW.e11 hS, SW.f12 hS, SW.l12 hS, SW.a12 hS, SW.e12 hS, SW.f13 hS, SW.l13 hS, SW.a13 hS, SW.e13 hS, SW.f14 hS, SW.l14 hS, SW.a14 hS, SW.e14 hS, SW.f15 hS, SW.l15 hS, SW.a15 hS, SW.e15 hS]
    exact hQ _ (Sm.rf.put (in' 0 (by omega))) hV.rate
  · obtain ⟨f, rfl⟩ : ∃ f : Nat, of = f := ⟨of.toNat, by omega⟩
    rcases hw with rfl | rfl | rfl | rfl
    · simp only [x_push, x_iload, x_lload, x_aload, x_bin, x_div, x_un, x_lbin, x_ldiv, x_lcmp, x_i2l, x_l2i, x_dup, x_pop, x_dup2, x_c1, x_c2, x_null, x_cat1, x_istore, x_astore, x_lstore, x_iinc, x_nol, x_tsw, xsw, x_lsw, xlsw, x_ret, x_zret, x_lret, x_aret, x_vret, x_getI, x_getL, x_getR, x_putI, x_putZ, x_putL, x_iaload, x_zaload, x_aaload, x_iastore, x_zastore, x_alen, x_mm, x_acopy, xpush, xJ, xK, x_cV0, x_cV1, x_cV2, x_cV3, x_cV4, x_cV5, x_cV6, x_cV7, x_cV8, x_cS1, x_cS2, x_cS3, x_cS4, x_cS5, List.getD_cons_zero, List.getD_cons_succ, List.set_cons_zero, List.set_cons_succ, List.length_cons, List.length_nil, Nat.zero_add, true_and, and_true, List.getD_nil, not_true, not_false_eq_true, Int.toNat_natCast, false_implies, true_implies, if_true, if_false, Int.toNat_zero, Int.toNat_one, true_or, or_true, Int.reduceEq, Int.reduceLT, Int.reduceLE, Int.reduceNe, Int.reduceNeg, Int.reduceAdd, Int.reduceSub, Int.reduceMul, Int.reduceToNat, Nat.reduceLT, Nat.reduceLeDiff, Nat.reduceAdd, Nat.reduceEqDiff, Nat.reduceSub, not_false_iff, and_self, implies_true, false_and, and_false, or_self, false_or, or_false, Int.cast_ofNat_Int, Int.natCast_nonneg, SW.f0 hS, SW.f1 hS, SW.f2 hS, SW.f3 hS, SW.f4 hS, SW.f5 hS, SW.f6 hS, SW.f7 hS, SW.f8 hS, SW.f9 hS, SW.l9 hS, SW.a9 hS, SW.e9 hS, SW.f10 hS, SW.l10 hS, SW.a10 hS, SW.e10 hS, SW.f11 hS, SW.l11 hS, SW.a11 hS, SW.e11 hS, SW.f12 hS, SW.l12 hS, SW.a12 hS, SW.e12 hS, SW.f13 hS, SW.l13 hS, SW.a13 hS, SW.e13 hS, SW.f14 hS, SW.l14 hS, SW.a14 hS, SW.e14 hS, SW.f15 hS, SW.l15 hS, SW.a15 hS, SW.e15 hS, eq_true (show (f : Int) < 6 by omega)]
      exact hQ _ (Sm.rf.put (in' 2 (by omega))) hV.p1
    · simp only [x_push, x_iload, x_lload, x_aload, x_bin, x_div, x_un, x_lbin, x_ldiv, x_lcmp, x_i2l, x_l2i, x_dup, x_pop, x_dup2, x_c1, x_c2, x_null, x_cat1, x_istore, x_astore, x_lstore, x_iinc, x_nol, x_tsw, xsw, x_lsw, xlsw, x_ret, x_zret, x_lret, x_aret, x_vret, x_getI, x_getL, x_getR, x_putI, x_putZ, x_putL, x_iaload, x_zaload, x_aaload, x_iastore, x_zastore, x_alen, x_mm, x_acopy, xpush, xJ, xK, x_cV0, x_cV1, x_cV2, x_cV3, x_cV4, x_cV5, x_cV6, x_cV7, x_cV8, x_cS1, x_cS2, x_cS3, x_cS4, x_cS5, List.getD_cons_zero, List.getD_cons_succ, List.set_cons_zero, List.set_cons_succ, List.length_cons, List.length_nil, Nat.zero_add, true_and, and_true, List.getD_nil, not_true, not_false_eq_true, Int.toNat_natCast, false_implies, true_implies, if_true, if_false, Int.toNat_zero, Int.toNat_one, true_or, or_true, Int.reduceEq, Int.reduceLT, Int.reduceLE, Int.reduceNe, Int.reduceNeg, Int.reduceAdd, Int.reduceSub, Int.reduceMul, Int.reduceToNat, Nat.reduceLT, Nat.reduceLeDiff, Nat.reduceAdd, Nat.reduceEqDiff, Nat.reduceSub, not_false_iff, and_self, implies_true, false_and, and_false, or_self, false_or, or_false, Int.cast_ofNat_Int, Int.natCast_nonneg, SW.f0 hS, SW.f1 hS, SW.f2 hS, SW.f3 hS, SW.f4 hS, SW.f5 hS, SW.f6 hS, SW.f7 hS, SW.f8 hS, SW.f9 hS, SW.l9 hS, SW.a9 hS, SW.e9 hS, SW.f10 hS, SW.l10 hS, SW.a10 hS, SW.e10 hS, SW.f11 hS, SW.l11 hS, SW.a11 hS, SW.e11 hS, SW.f12 hS, SW.l12 hS, SW.a12 hS, SW.e12 hS, SW.f13 hS, SW.l13 hS, SW.a13 hS, SW.e13 hS, SW.f14 hS, SW.l14 hS, SW.a14 hS, SW.e14 hS, SW.f15 hS, SW.l15 hS, SW.a15 hS, SW.e15 hS, eq_true (show (f : Int) < 6 by omega)]
      exact hQ _ (Sm.rf.put (in' 3 (by omega))) hV.p2
    · simp only [x_push, x_iload, x_lload, x_aload, x_bin, x_div, x_un, x_lbin, x_ldiv, x_lcmp, x_i2l, x_l2i, x_dup, x_pop, x_dup2, x_c1, x_c2, x_null, x_cat1, x_istore, x_astore, x_lstore, x_iinc, x_nol, x_tsw, xsw, x_lsw, xlsw, x_ret, x_zret, x_lret, x_aret, x_vret, x_getI, x_getL, x_getR, x_putI, x_putZ, x_putL, x_iaload, x_zaload, x_aaload, x_iastore, x_zastore, x_alen, x_mm, x_acopy, xpush, xJ, xK, x_cV0, x_cV1, x_cV2, x_cV3, x_cV4, x_cV5, x_cV6, x_cV7, x_cV8, x_cS1, x_cS2, x_cS3, x_cS4, x_cS5, List.getD_cons_zero, List.getD_cons_succ, List.set_cons_zero, List.set_cons_succ, List.length_cons, List.length_nil, Nat.zero_add, true_and, and_true, List.getD_nil, not_true, not_false_eq_true, Int.toNat_natCast, false_implies, true_implies, if_true, if_false, Int.toNat_zero, Int.toNat_one, true_or, or_true, Int.reduceEq, Int.reduceLT, Int.reduceLE, Int.reduceNe, Int.reduceNeg, Int.reduceAdd, Int.reduceSub, Int.reduceMul, Int.reduceToNat, Nat.reduceLT, Nat.reduceLeDiff, Nat.reduceAdd, Nat.reduceEqDiff, Nat.reduceSub, not_false_iff, and_self, implies_true, false_and, and_false, or_self, false_or, or_false, Int.cast_ofNat_Int, Int.natCast_nonneg, SW.f0 hS, SW.f1 hS, SW.f2 hS, SW.f3 hS, SW.f4 hS, SW.f5 hS, SW.f6 hS, SW.f7 hS, SW.f8 hS, SW.f9 hS, SW.l9 hS, SW.a9 hS, SW.e9 hS, SW.f10 hS, SW.l10 hS, SW.a10 hS, SW.e10 hS, SW.f11 hS, SW.l11 hS, SW.a11 hS, SW.e11 hS, SW.f12 hS, SW.l12 hS, SW.a12 hS, SW.e12 hS, SW.f13 hS, SW.l13 hS, SW.a13 hS, SW.e13 hS, SW.f14 hS, SW.l14 hS, SW.a14 hS, SW.e14 hS, SW.f15 hS, SW.l15 hS, SW.a15 hS, SW.e15 hS, eq_true (show (f : Int) < 6 by omega)]
      exact hQ _ (Sm.rf.put (in' 4 (by omega))) hV.p3
    · exact absurd rfl h6
  · obtain ⟨c, rfl⟩ : ∃ c : Nat, of = c := ⟨of.toNat, by omega⟩
    rcases hw with rfl | rfl
    · simp only [x_push, x_iload, x_lload, x_aload, x_bin, x_div, x_un, x_lbin, x_ldiv, x_lcmp, x_i2l, x_l2i, x_dup, x_pop, x_dup2, x_c1, x_c2, x_null, x_cat1, x_istore, x_astore, x_lstore, x_iinc, x_nol, x_tsw, xsw, x_lsw, xlsw, x_ret, x_zret, x_lret, x_aret, x_vret, x_getI, x_getL, x_getR, x_putI, x_putZ, x_putL, x_iaload, x_zaload, x_aaload, x_iastore, x_zastore, x_alen, x_mm, x_acopy, xpush, xJ, xK, x_cV0, x_cV1, x_cV2, x_cV3, x_cV4, x_cV5, x_cV6, x_cV7, x_cV8, x_cS1, x_cS2, x_cS3, x_cS4, x_cS5, List.getD_cons_zero, List.getD_cons_succ, List.set_cons_zero, List.set_cons_succ, List.length_cons, List.length_nil, Nat.zero_add, true_and, and_true, List.getD_nil, not_true, not_false_eq_true, Int.toNat_natCast, false_implies, true_implies, if_true, if_false, Int.toNat_zero, Int.toNat_one, true_or, or_true, Int.reduceEq, Int.reduceLT, Int.reduceLE, Int.reduceNe, Int.reduceNeg, Int.reduceAdd, Int.reduceSub, Int.reduceMul, Int.reduceToNat, Nat.reduceLT, Nat.reduceLeDiff, Nat.reduceAdd, Nat.reduceEqDiff, Nat.reduceSub, not_false_iff, and_self, implies_true, false_and, and_false, or_self, false_or, or_false, Int.cast_ofNat_Int, Int.natCast_nonneg, SW.f0 hS, SW.f1 hS, SW.f2 hS, SW.f3 hS, SW.f4 hS, SW.f5 hS, SW.f6 hS, SW.f7 hS, SW.f8 hS, SW.f9 hS, SW.l9 hS, SW.a9 hS, SW.e9 hS, SW.f10 hS, SW.l10 hS, SW.a10 hS, SW.e10 hS, SW.f11 hS, SW.l11 hS, SW.a11 hS, SW.e11 hS, SW.f12 hS, SW.l12 hS, SW.a12 hS, SW.e12 hS, SW.f13 hS, SW.l13 hS, SW.a13 hS, SW.e13 hS, SW.f14 hS, SW.l14 hS, SW.a14 hS, SW.e14 hS, SW.f15 hS, SW.l15 hS, SW.a15 hS, SW.e15 hS, eq_true (show (c : Int) < 5 by omega)]
      exact hQ _ (Sm.rf.put (in' 5 (by omega))) hV.p4
    · simp only [x_push, x_iload, x_lload, x_aload, x_bin, x_div, x_un, x_lbin, x_ldiv, x_lcmp, x_i2l, x_l2i, x_dup, x_pop, x_dup2, x_c1, x_c2, x_null, x_cat1, x_istore, x_astore, x_lstore, x_iinc, x_nol, x_tsw, xsw, x_lsw, xlsw, x_ret, x_zret, x_lret, x_aret, x_vret, x_getI, x_getL, x_getR, x_putI, x_putZ, x_putL, x_iaload, x_zaload, x_aaload, x_iastore, x_zastore, x_alen, x_mm, x_acopy, xpush, xJ, xK, x_cV0, x_cV1, x_cV2, x_cV3, x_cV4, x_cV5, x_cV6, x_cV7, x_cV8, x_cS1, x_cS2, x_cS3, x_cS4, x_cS5, List.getD_cons_zero, List.getD_cons_succ, List.set_cons_zero, List.set_cons_succ, List.length_cons, List.length_nil, Nat.zero_add, true_and, and_true, List.getD_nil, not_true, not_false_eq_true, Int.toNat_natCast, false_implies, true_implies, if_true, if_false, Int.toNat_zero, Int.toNat_one, true_or, or_true, Int.reduceEq, Int.reduceLT, Int.reduceLE, Int.reduceNe, Int.reduceNeg, Int.reduceAdd, Int.reduceSub, Int.reduceMul, Int.reduceToNat, Nat.reduceLT, Nat.reduceLeDiff, Nat.reduceAdd, Nat.reduceEqDiff, Nat.reduceSub, not_false_iff, and_self, implies_true, false_and, and_false, or_self, false_or, or_false, Int.cast_ofNat_Int, Int.natCast_nonneg, SW.f0 hS, SW.f1 hS, SW.f2 hS, SW.f3 hS, SW.f4 hS, SW.f5 hS, SW.f6 hS, SW.f7 hS, SW.f8 hS, SW.f9 hS, SW.l9 hS, SW.a9 hS, SW.e9 hS, SW.f10 hS, SW.l10 hS, SW.a10 hS, SW.e10 hS, SW.f11 hS, SW.l11 hS, SW.a11 hS, SW.e11 hS, SW.f12 hS, SW.l12 hS, SW.a12 hS, SW.e12 hS, SW.f13 hS, SW.l13 hS, SW.a13 hS, SW.e13 hS, SW.f14 hS, SW.l14 hS, SW.a14 hS, SW.e14 hS, SW.f15 hS, SW.l15 hS, SW.a15 hS, SW.e15 hS, eq_true (show (c : Int) < 5 by omega)]
      exact hQ _ (Sm.rf.put (in' 6 (by omega))) hV.p5
/-- a new figure -/
def sAdd (A : Nat → Nat → Int) (nf : Nat) (k n m : Int) : Nat → Nat → Int := upd2 (upd2 (upd2 (upd2 A 6 nf k) 1 nf n) 2 nf m) 3 nf 4095
def sFigOk (k n m : Int) : Prop := (0 ≤ k ∧ k < 6) ∧ (0 ≤ n ∧ n < 10) ∧ 0 ≤ m ∧ m < 1000
set_option maxHeartbeats 2000000 in
theorem c_addFigure {k n m : Int} (hS : SW Γ w tx) (hV : WV σ w nf nc A) (hnf : nf ≤ 6) (hB : ¬ sFigOk k n m → Q (vi (-2)) (Γ, σ)) (hF : sFigOk k n m → nf = 6 → Q (vi (-4)) (Γ, σ))
    (hQ : sFigOk k n m → nf < 6 → ∀ σ', Sm (RV w) σ σ' → WV σ' w (nf + 1) nc (sAdd A nf k n m) → Q (vi nf) (Γ, σ')) : xRM M_X4_addFigure (d + 1) (0, 0) [vr w, vi k, vi n, vi m] (Γ, σ) Q := by
  refine xRM_of (by decide) (Nat.le_of_ble_eq_true rfl) ?_
  refine b_X4_addFigure_0 _ _ _ _ ?_
  show k_X4_addFigure_0 d Q (0, 0) [vr w, vi k, vi n, vi m, vu] [] (Γ, σ)
  have in' : ∀ j, j ≤ 6 → RV w (w + j) := fun j hj => ⟨by omega, by omega⟩
  have h3 := hV.2.2.1
  simp only [k_X4_addFigure_0, x_push, x_iload, x_lload, x_aload, x_bin, x_div, x_un, x_lbin, x_ldiv, x_lcmp, x_i2l, x_l2i, x_dup, x_pop, x_dup2, x_c1, x_c2, x_null, x_cat1, x_istore, x_astore, x_lstore, x_iinc, x_nol, x_tsw, xsw, x_lsw, xlsw, x_ret, x_zret, x_lret, x_aret, x_vret, x_getI, x_getL, x_getR, x_putI, x_putZ, x_putL, x_iaload, x_zaload, x_aaload, x_iastore, x_zastore, x_alen, x_mm, x_acopy, xpush, xJ, xK, x_cV0, x_cV1, x_cV2, x_cV3, x_cV4, x_cV5, x_cV6, x_cV7, x_cV8, x_cS1, x_cS2, x_cS3, x_cS4, x_cS5, List.getD_cons_zero, List.getD_cons_succ, List.set_cons_zero, List.set_cons_succ, List.length_cons, List.length_nil, Nat.zero_add, true_and, and_true, List.getD_nil, not_true, not_false_eq_true, Int.toNat_natCast, false_implies, true_implies, if_true, if_false, Int.toNat_zero, Int.toNat_one, true_or, or_true, Int.reduceEq, Int.reduceLT, Int.reduceLE, Int.reduceNe, Int.reduceNeg, Int.reduceAdd, Int.reduceSub, Int.reduceMul, Int.reduceToNat, Nat.reduceLT, Nat.reduceLeDiff, Nat.reduceAdd, Nat.reduceEqDiff, Nat.reduceSub, not_false_iff, and_self, implies_true, false_and, and_false, or_self, false_or, or_false, Int.cast_ofNat_Int, Int.natCast_nonneg, SW.f0 hS, SW.f1 hS, SW.f2 hS, SW.f3 hS, SW.f4 hS, SW.f5 hS, SW.f6 hS, SW.f7 hS, SW.f8 hS, SW.f9 hS, SW.l9 hS, SW.a9 hS, SW.e9 hS, SW.f10 hS, SW.l10 hS, SW.a10 hS, SW.e10 hS, SW.f11 hS, SW.l11 hS, SW.a11 hS, SW.e11 hS, SW.f12 hS, SW.l12 hS, SW.a12 hS, SW.e12 hS, SW.f13 hS, SW.l13 hS, SW.a13 hS, SW.e13 hS, SW.f14 hS, SW.l14 hS, SW.a14 hS, SW.e14 hS, SW.f15 hS, SW.l15 hS, SW.a15 hS, SW.e15 hS, h3]
  refine ⟨fun q => hB (by unfold sFigOk; omega), fun q => ⟨fun q => hB (by unfold sFigOk; omega), fun q => ⟨fun q => hB (by unfold sFigOk; omega), fun q => ⟨fun q => hB (by unfold sFigOk; omega), fun q => ⟨fun q => hB (by unfold sFigOk; omega), fun q => ⟨fun q => ⟨fun z => ?_, fun z => hF (by unfold sFigOk; omega) (by omega)⟩, fun q => hB (by unfold sFigOk; omega)⟩⟩⟩⟩⟩⟩
  have hlt : (nf : Int) < 6 := z
  have ok : sFigOk k n m := by unfold sFigOk; omega
  simp only [hlt, x_push, x_iload, x_lload, x_aload, x_bin, x_div, x_un, x_lbin, x_ldiv, x_lcmp, x_i2l, x_l2i, x_dup, x_pop, x_dup2, x_c1, x_c2, x_null, x_cat1, x_istore, x_astore, x_lstore, x_iinc, x_nol, x_tsw, xsw, x_lsw, xlsw, x_ret, x_zret, x_lret, x_aret, x_vret, x_getI, x_getL, x_getR, x_putI, x_putZ, x_putL, x_iaload, x_zaload, x_aaload, x_iastore, x_zastore, x_alen, x_mm, x_acopy, xpush, xJ, xK, x_cV0, x_cV1, x_cV2, x_cV3, x_cV4, x_cV5, x_cV6, x_cV7, x_cV8, x_cS1, x_cS2, x_cS3, x_cS4, x_cS5, List.getD_cons_zero, List.getD_cons_succ, List.set_cons_zero, List.set_cons_succ, List.length_cons, List.length_nil, Nat.zero_add, true_and, and_true, List.getD_nil, not_true, not_false_eq_true, Int.toNat_natCast, false_implies, true_implies, if_true, if_false, Int.toNat_zero, Int.toNat_one, true_or, or_true, Int.reduceEq, Int.reduceLT, Int.reduceLE, Int.reduceNe, Int.reduceNeg, Int.reduceAdd, Int.reduceSub, Int.reduceMul, Int.reduceToNat, Nat.reduceLT, Nat.reduceLeDiff, Nat.reduceAdd, Nat.reduceEqDiff, Nat.reduceSub, not_false_iff, and_self, implies_true, false_and, and_false, or_self, false_or, or_false, Int.cast_ofNat_Int, Int.natCast_nonneg, SW.f0 hS, SW.f1 hS, SW.f2 hS, SW.f3 hS, SW.f4 hS, SW.f5 hS, SW.f6 hS, SW.f7 hS, SW.f8 hS, SW.f9 hS, SW.l9 hS, SW.a9 hS, SW.e9 hS, SW.f10 hS, SW.l10 hS, SW.a10 hS, SW.e10 hS, SW.f11 hS, SW.l11 hS, SW.a11 hS, SW.e11 hS, SW.f12 hS, SW.l12 hS, SW.a12 hS, SW.e12 hS, SW.f13 hS, SW.l13 hS, SW.a13 hS, SW.e13 hS, SW.f14 hS, SW.l14 hS, SW.a14 hS, SW.e14 hS, SW.f15 hS, SW.l15 hS, SW.a15 hS, SW.e15 hS]
  have e : upd2 (upd2 (upd2 (upd2 σ (w + 1) nf k) (w + 2) nf n) (w + 3) nf m) (w + 4) nf 4095 w 3 = nf := by simp [upd2, h3]
  rw [e, oadd_id (by omega) (by omega)]
  refine hQ ok (by omega) _ (((((Sm.rf.put (in' 1 (by omega))).put (in' 2 (by omega))).put (in' 3 (by omega))).put (in' 4 (by omega))).put (in' 0 (by omega))) ?_
  obtain ⟨a1, a2, a3, a4, a5, a6⟩ := hV
  refine ⟨by simp [upd2, sAdd, a1], by simp [upd2, sAdd, a2], by simp [upd2], by simp [upd2, a4], fun f hf => ?_, fun c hc => ?_⟩
  · by_cases ef : f = nf
    · subst ef
      simp [upd2, sAdd]
    · obtain ⟨b1, b2, b3, b4⟩ := a5 f (by omega)
      simp [upd2, sAdd, ef, b1, b2, b3, b4]
  · obtain ⟨b1, b2⟩ := a6 c hc
    simp [upd2, sAdd, b1, b2]
def sAddC (A : Nat → Nat → Int) (nc : Nat) (h v : Int) : Nat → Nat → Int := upd2 (upd2 A 4 nc h) 5 nc v
set_option maxHeartbeats 2000000 in
theorem c_addClient (hS : SW Γ w tx) (hV : WV σ w nf nc A) (hnc : nc ≤ 5) (hF : nc = 5 → Q (vi (-4)) (Γ, σ))
    (hQ : nc < 5 → ∀ σ', Sm (RV w) σ σ' → WV σ' w nf (nc + 1) (sAddC A nc h v) → Q (vi nc) (Γ, σ')) : xRM M_X4_addClient (d + 1) (0, 0) [vr w, vi h, vi v] (Γ, σ) Q := by
  refine xRM_of (by decide) (Nat.le_of_ble_eq_true rfl) ?_
  refine b_X4_addClient_0 _ _ _ _ ?_
  show k_X4_addClient_0 d Q (0, 0) [vr w, vi h, vi v, vu] [] (Γ, σ)
  have in' : ∀ j, j ≤ 6 → RV w (w + j) := fun j hj => ⟨by omega, by omega⟩
  have h3 := hV.2.2.2.1
  simp only [k_X4_addClient_0, x_push, x_iload, x_lload, x_aload, x_bin, x_div, x_un, x_lbin, x_ldiv, x_lcmp, x_i2l, x_l2i, x_dup, x_pop, x_dup2, x_c1, x_c2, x_null, x_cat1, x_istore, x_astore, x_lstore, x_iinc, x_nol, x_tsw, xsw, x_lsw, xlsw, x_ret, x_zret, x_lret, x_aret, x_vret, x_getI, x_getL, x_getR, x_putI, x_putZ, x_putL, x_iaload, x_zaload, x_aaload, x_iastore, x_zastore, x_alen, x_mm, x_acopy, xpush, xJ, xK, x_cV0, x_cV1, x_cV2, x_cV3, x_cV4, x_cV5, x_cV6, x_cV7, x_cV8, x_cS1, x_cS2, x_cS3, x_cS4, x_cS5, List.getD_cons_zero, List.getD_cons_succ, List.set_cons_zero, List.set_cons_succ, List.length_cons, List.length_nil, Nat.zero_add, true_and, and_true, List.getD_nil, not_true, not_false_eq_true, Int.toNat_natCast, false_implies, true_implies, if_true, if_false, Int.toNat_zero, Int.toNat_one, true_or, or_true, Int.reduceEq, Int.reduceLT, Int.reduceLE, Int.reduceNe, Int.reduceNeg, Int.reduceAdd, Int.reduceSub, Int.reduceMul, Int.reduceToNat, Nat.reduceLT, Nat.reduceLeDiff, Nat.reduceAdd, Nat.reduceEqDiff, Nat.reduceSub, not_false_iff, and_self, implies_true, false_and, and_false, or_self, false_or, or_false, Int.cast_ofNat_Int, Int.natCast_nonneg, SW.f0 hS, SW.f1 hS, SW.f2 hS, SW.f3 hS, SW.f4 hS, SW.f5 hS, SW.f6 hS, SW.f7 hS, SW.f8 hS, SW.f9 hS, SW.l9 hS, SW.a9 hS, SW.e9 hS, SW.f10 hS, SW.l10 hS, SW.a10 hS, SW.e10 hS, SW.f11 hS, SW.l11 hS, SW.a11 hS, SW.e11 hS, SW.f12 hS, SW.l12 hS, SW.a12 hS, SW.e12 hS, SW.f13 hS, SW.l13 hS, SW.a13 hS, SW.e13 hS, SW.f14 hS, SW.l14 hS, SW.a14 hS, SW.e14 hS, SW.f15 hS, SW.l15 hS, SW.a15 hS, SW.e15 hS, h3]
  refine ⟨fun z => ?_, fun z => hF (by omega)⟩
  have hlt : (nc : Int) < 5 := z
  simp only [hlt, x_push, x_iload, x_lload, x_aload, x_bin, x_div, x_un, x_lbin, x_ldiv, x_lcmp, x_i2l, x_l2i, x_dup, x_pop, x_dup2, x_c1, x_c2, x_null, x_cat1, x_istore, x_astore, x_lstore, x_iinc, x_nol, x_tsw, xsw, x_lsw, xlsw, x_ret, x_zret, x_lret, x_aret, x_vret, x_getI, x_getL, x_getR, x_putI, x_putZ, x_putL, x_iaload, x_zaload, x_aaload, x_iastore, x_zastore, x_alen, x_mm, x_acopy, xpush, xJ, xK, x_cV0, x_cV1, x_cV2, x_cV3, x_cV4, x_cV5, x_cV6, x_cV7, x_cV8, x_cS1, x_cS2, x_cS3, x_cS4, x_cS5, List.getD_cons_zero, List.getD_cons_succ, List.set_cons_zero, List.set_cons_succ, List.length_cons, List.length_nil, Nat.zero_add, true_and, and_true, List.getD_nil, not_true, not_false_eq_true, Int.toNat_natCast, false_implies, true_implies, if_true, if_false, Int.toNat_zero, Int.toNat_one, true_or, or_true, Int.reduceEq, Int.reduceLT, Int.reduceLE, Int.reduceNe, Int.reduceNeg, Int.reduceAdd, Int.reduceSub, Int.reduceMul, Int.reduceToNat, Nat.reduceLT, Nat.reduceLeDiff, Nat.reduceAdd, Nat.reduceEqDiff, Nat.reduceSub, not_false_iff, and_self, implies_true, false_and, and_false, or_self, false_or, or_false, Int.cast_ofNat_Int, Int.natCast_nonneg, SW.f0 hS, SW.f1 hS, SW.f2 hS, SW.f3 hS, SW.f4 hS, SW.f5 hS, SW.f6 hS, SW.f7 hS, SW.f8 hS, SW.f9 hS, SW.l9 hS, SW.a9 hS, SW.e9 hS, SW.f10 hS, SW.l10 hS, SW.a10 hS, SW.e10 hS, SW.f11 hS, SW.l11 hS, SW.a11 hS, SW.e11 hS, SW.f12 hS, SW.l12 hS, SW.a12 hS, SW.e12 hS, SW.f13 hS, SW.l13 hS, SW.a13 hS, SW.e13 hS, SW.f14 hS, SW.l14 hS, SW.a14 hS, SW.e14 hS, SW.f15 hS, SW.l15 hS, SW.a15 hS, SW.e15 hS]
  have e : upd2 (upd2 σ (w + 5) nc h) (w + 6) nc v w 4 = nc := by simp [upd2, h3]
  rw [e, oadd_id (by omega) (by omega)]
  refine hQ (by omega) _ (((Sm.rf.put (in' 5 (by omega))).put (in' 6 (by omega))).put (in' 0 (by omega))) ?_
  obtain ⟨a1, a2, a3, a4, a5, a6⟩ := hV
  refine ⟨by simp [upd2, sAddC, a1], by simp [upd2, sAddC, a2], by simp [upd2, a3], by simp [upd2], fun f hf => ?_, fun c hc => ?_⟩
  · obtain ⟨b1, b2, b3, b4⟩ := a5 f hf
    simp [upd2, sAddC, b1, b2, b3, b4]
  · by_cases ec : c = nc
    · subst ec
      simp [upd2, sAddC]
    · obtain ⟨b1, b2⟩ := a6 c (by omega)
      simp [upd2, sAddC, ec, b1, b2]
/-- the means of n figures, together -/
def sSum (g : Nat → Int) : Nat → Int
  | 0 => 0
  | n + 1 => sSum g n + g n
theorem sSum_le {g : Nat → Int} : ∀ {n : Nat}, (∀ f, f < n → 0 ≤ g f ∧ g f ≤ 999) → 0 ≤ sSum g n ∧ sSum g n ≤ 999 * n
  | 0, _ => ⟨by simp [sSum], by simp [sSum]⟩
  | n + 1, h => by
    have ih := sSum_le (n := n) (fun f hf => h f (by omega))
    have h1 := h n (by omega)
    simp only [sSum]
    omega
set_option maxHeartbeats 2000000 in
theorem c_meansOfAll (hS : SW Γ w tx) (hV : WV σ w nf nc A) (hA : AI nf nc tc A) (hQ : Q (vi (sSum (A 2) nf)) (Γ, σ)) : xRM M_X4_meansOfAll (d + 1) (0, 0) [vr w] (Γ, σ) Q := by
  refine xRM_of (by decide) (Nat.le_of_ble_eq_true rfl) ?_
  have h3 := hV.2.2.1
  have hnf := hA.1
  have loop : ∀ (k c : Nat), c + k = nf → xR M_X4_meansOfAll (d + 1) (0, 0) 4 [vr w, vi (sSum (A 2) c), vi c] [] (Γ, σ) Q := by
    intro k
    induction k with
    | zero =>
      intro c hc
      have hc : c = nf := by omega
      subst hc
      refine b_X4_meansOfAll_4 _ _ _ _ ?_
      simp only [k_X4_meansOfAll_4, x_push, x_iload, x_lload, x_aload, x_bin, x_div, x_un, x_lbin, x_ldiv, x_lcmp, x_i2l, x_l2i, x_dup, x_pop, x_dup2, x_c1, x_c2, x_null, x_cat1, x_istore, x_astore, x_lstore, x_iinc, x_nol, x_tsw, xsw, x_lsw, xlsw, x_ret, x_zret, x_lret, x_aret, x_vret, x_getI, x_getL, x_getR, x_putI, x_putZ, x_putL, x_iaload, x_zaload, x_aaload, x_iastore, x_zastore, x_alen, x_mm, x_acopy, xpush, xJ, xK, x_cV0, x_cV1, x_cV2, x_cV3, x_cV4, x_cV5, x_cV6, x_cV7, x_cV8, x_cS1, x_cS2, x_cS3, x_cS4, x_cS5, List.getD_cons_zero, List.getD_cons_succ, List.set_cons_zero, List.set_cons_succ, List.length_cons, List.length_nil, Nat.zero_add, true_and, and_true, List.getD_nil, not_true, not_false_eq_true, Int.toNat_natCast, false_implies, true_implies, if_true, if_false, Int.toNat_zero, Int.toNat_one, true_or, or_true, Int.reduceEq, Int.reduceLT, Int.reduceLE, Int.reduceNe, Int.reduceNeg, Int.reduceAdd, Int.reduceSub, Int.reduceMul, Int.reduceToNat, Nat.reduceLT, Nat.reduceLeDiff, Nat.reduceAdd, Nat.reduceEqDiff, Nat.reduceSub, not_false_iff, and_self, implies_true, false_and, and_false, or_self, false_or, or_false, Int.cast_ofNat_Int, Int.natCast_nonneg, SW.f0 hS, SW.f1 hS, SW.f2 hS, SW.f3 hS, SW.f4 hS, SW.f5 hS, SW.f6 hS, SW.f7 hS, SW.f8 hS, SW.f9 hS, SW.l9 hS, SW.a9 hS, SW.e9 hS, SW.f10 hS, SW.l10 hS, SW.a10 hS, SW.e10 hS, SW.f11 hS, SW.l11 hS, SW.a11 hS, SW.e11 hS, SW.f12 hS, SW.l12 hS, SW.a12 hS, SW.e12 hS, SW.f13 hS, SW.l13 hS, SW.a13 hS, SW.e13 hS, SW.f14 hS, SW.l14 hS, SW.a14 hS, SW.e14 hS, SW.f15 hS, SW.l15 hS, SW.a15 hS, SW.e15 hS, h3]
      exact ⟨fun _ => hQ, fun h => absurd (Int.le_refl _) h⟩
    | succ k ih =>
      intro c hc
      refine b_X4_meansOfAll_4 _ _ _ _ ?_
      have h1 := sSum_le (g := A 2) (n := c) (fun f hf => (hA.2.2.2.2.1 f (by omega)).2.1)
      have h2 := (hA.2.2.2.2.1 c (by omega)).2.1
      simp only [k_X4_meansOfAll_4, x_push, x_iload, x_lload, x_aload, x_bin, x_div, x_un, x_lbin, x_ldiv, x_lcmp, x_i2l, x_l2i, x_dup, x_pop, x_dup2, x_c1, x_c2, x_null, x_cat1, x_istore, x_astore, x_lstore, x_iinc, x_nol, x_tsw, xsw, x_lsw, xlsw, x_ret, x_zret, x_lret, x_aret, x_vret, x_getI, x_getL, x_getR, x_putI, x_putZ, x_putL, x_iaload, x_zaload, x_aaload, x_iastore, x_zastore, x_alen, x_mm, x_acopy, xpush, xJ, xK, x_cV0, x_cV1, x_cV2, x_cV3, x_cV4, x_cV5, x_cV6, x_cV7, x_cV8, x_cS1, x_cS2, x_cS3, x_cS4, x_cS5, List.getD_cons_zero, List.getD_cons_succ, List.set_cons_zero, List.set_cons_succ, List.length_cons, List.length_nil, Nat.zero_add, true_and, and_true, List.getD_nil, not_true, not_false_eq_true, Int.toNat_natCast, false_implies, true_implies, if_true, if_false, Int.toNat_zero, Int.toNat_one, true_or, or_true, Int.reduceEq, Int.reduceLT, Int.reduceLE, Int.reduceNe, Int.reduceNeg, Int.reduceAdd, Int.reduceSub, Int.reduceMul, Int.reduceToNat, Nat.reduceLT, Nat.reduceLeDiff, Nat.reduceAdd, Nat.reduceEqDiff, Nat.reduceSub, not_false_iff, and_self, implies_true, false_and, and_false, or_self, false_or, or_false, Int.cast_ofNat_Int, Int.natCast_nonneg, SW.f0 hS, SW.f1 hS, SW.f2 hS, SW.f3 hS, SW.f4 hS, SW.f5 hS, SW.f6 hS, SW.f7 hS, SW.f8 hS, SW.f9 hS, SW.l9 hS, SW.a9 hS, SW.e9 hS, SW.f10 hS, SW.l10 hS, SW.a10 hS, SW.e10 hS, SW.f11 hS, SW.l11 hS, SW.a11 hS, SW.e11 hS, SW.f12 hS, SW.l12 hS, SW.a12 hS, SW.e12 hS, SW.f13 hS, SW.l13 hS, SW.a13 hS, SW.e13 hS, SW.f14 hS, SW.l14 hS, SW.a14 hS, SW.e14 hS, SW.f15 hS, SW.l15 hS, SW.a15 hS, SW.e15 hS, h3, eq_false (show ¬ ((nf : Int) ≤ (c : Int)) by omega), eq_true (show (c : Int) < 6 by omega), (hV.2.2.2.2.1 c (by omega)).2.2.1]
      rw [oadd_id (by omega) (by omega), oadd_id (by omega) (by omega)]
      exact ih (c + 1) (by omega)
  refine b_X4_meansOfAll_0 _ _ _ _ ?_
  exact ⟨trivial, trivial, loop nf 0 (by omega)⟩
end World
