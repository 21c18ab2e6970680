/-! ===== the class's first text is read; the class's constructor ===== -/
theorem S0_sBy : ∀ j : Fin 38, sBy 2 j.val = S0f j.val := by decide +kernel
theorem S0_E : zE S0 0 = sPt ([5], [10], [-4, 8, -17]) := by
  funext p
  show (match pText (sTx S0f 40) with
    | .inl _ => []
    | .inr q => sPt q p) = _
  rw [S0_text]
set_option maxHeartbeats 4000000 in
theorem i_fill {μ : xMem} {Γ : xSh} {σ : Nat → Nat → Int} {c d : Nat} {Q : xV → xMem → Prop} (h : PC μ c 85 (Γ, σ)) (hQ : ∀ μ', gN μ'.1 = c + 85 → Gx c μ μ' → TBL c μ'.1 → CVa μ'.2 c S0 → Q vu μ') : xR M_X5_init (d + 58) (0, 0) 143 [vr c, vi 0] [] (Γ, σ) Q := by
  have hB : TBL c Γ := h.tb
  have hS := CS_of hB
  have hC := hS.1
  have hX := hS.2.1
  have hP := hS.2.2.1
  obtain ⟨x1, x2⟩ := hX.2 0 (by decide)
  have hz : ∀ o, o < 85 → σ (c + o) = cZ o := fun o ho => (h.2.2 o ho).2.2
  have loop : ∀ (k i : Nat) (σ1 : Nat → Nat → Int), i + k = 38 → Sm (fun q => q = c + 2 ∨ q = c + 3) σ σ1 → σ1 (c + 2) 1 = (i : Int) → (∀ j, j < i → σ1 (c + 3) j = S0f j) → xR M_X5_init (d + 58) (0, 0) 143 [vr c, vi (i : Int)] [] (Γ, σ1) Q := by
    intro k
    induction k with
    | zero =>
      intro i σ1 hi hs h1 hb
      have hi : i = 38 := by omega
      subst hi
      refine b_X5_init_143 _ _ _ _ ?_
      simp only [k_X5_init_143, x_cW0, x_cW1, x_push, x_iload, x_lload, x_aload, x_bin, x_div, x_un, x_lbin, x_ldiv, x_lcmp, x_i2l, x_l2i, x_dup, x_pop, x_dup2, x_c1, x_c2, x_null, x_cat1, x_istore, x_astore, x_lstore, x_iinc, x_nol, x_tsw, xsw, x_lsw, xlsw, x_ret, x_zret, x_lret, x_aret, x_vret, x_getI, x_getL, x_getR, x_putI, x_putZ, x_putL, x_iaload, x_zaload, x_aaload, x_iastore, x_zastore, x_alen, x_mm, x_acopy, xpush, xJ, xK, x_cV0, x_cV1, x_cV2, x_cV3, x_cV4, x_cV5, x_cV6, x_cV7, x_cV8, x_cS1, x_cS2, x_cS3, x_cS4, x_cS5, List.getD_cons_zero, List.getD_cons_succ, List.set_cons_zero, List.set_cons_succ, List.length_cons, List.length_nil, Nat.zero_add, true_and, and_true, List.getD_nil, not_true, not_false_eq_true, Int.toNat_natCast, false_implies, true_implies, if_true, if_false, Int.toNat_zero, Int.toNat_one, true_or, or_true, Int.reduceEq, Int.reduceLT, Int.reduceLE, Int.reduceNe, Int.reduceNeg, Int.reduceAdd, Int.reduceSub, Int.reduceMul, Int.reduceToNat, Nat.reduceLT, Nat.reduceLeDiff, Nat.reduceAdd, Nat.reduceEqDiff, Nat.reduceSub, not_false_iff, and_self, implies_true, false_and, and_false, or_self, false_or, or_false, Int.cast_ofNat_Int, Int.natCast_nonneg]
      refine c_strLength (d := d + 55) ⟨by omega, by omega⟩ ?_
      have e38 : ((xLen.getD (2 - 2) 0 : Nat) : Int) = 38 := rfl
      rw [e38]
      simp only [x_push, x_iload, x_lload, x_aload, x_bin, x_div, x_un, x_lbin, x_ldiv, x_lcmp, x_i2l, x_l2i, x_dup, x_pop, x_dup2, x_c1, x_c2, x_null, x_cat1, x_istore, x_astore, x_lstore, x_iinc, x_nol, x_tsw, xsw, x_lsw, xlsw, x_ret, x_zret, x_lret, x_aret, x_vret, x_getI, x_getL, x_getR, x_putI, x_putZ, x_putL, x_iaload, x_zaload, x_aaload, x_iastore, x_zastore, x_alen, x_mm, x_acopy, xpush, xJ, xK, x_cV0, x_cV1, x_cV2, x_cV3, x_cV4, x_cV5, x_cV6, x_cV7, x_cV8, x_cS1, x_cS2, x_cS3, x_cS4, x_cS5, List.getD_cons_zero, List.getD_cons_succ, List.set_cons_zero, List.set_cons_succ, List.length_cons, List.length_nil, Nat.zero_add, true_and, and_true, List.getD_nil, not_true, not_false_eq_true, Int.toNat_natCast, false_implies, true_implies, if_true, if_false, Int.toNat_zero, Int.toNat_one, true_or, or_true, Int.reduceEq, Int.reduceLT, Int.reduceLE, Int.reduceNe, Int.reduceNeg, Int.reduceAdd, Int.reduceSub, Int.reduceMul, Int.reduceToNat, Nat.reduceLT, Nat.reduceLeDiff, Nat.reduceAdd, Nat.reduceEqDiff, Nat.reduceSub, not_false_iff, and_self, implies_true, false_and, and_false, or_self, false_or, or_false, Int.cast_ofNat_Int, Int.natCast_nonneg, SC.f0 hC, SC.f1 hC, SC.f2 hC, SC.f3 hC, SC.f4 hC, SC.f5 hC, SC.f6 hC, SC.f7 hC, SP.f0 hP, SP.f1 hP, SP.f2 hP, SP.l2 hP, SP.a2 hP, SP.e2 hP, x1, gLen_of hX.1, eq_true (show ∃ ty, gArr Γ (c + 1) ty ∧ ty.isReference = true from ⟨_, ⟨_, hX.1⟩, rfl⟩)]
      refine c_read (n := 38) (B := σ1 (c + 3)) hP x2 (by omega) (by omega) h1 rfl (fun f σ' e k1 k2 => ?_) (fun q σ' e k1 k2 k3 => ?_)
      · rw [sTx_congr (B' := S0f) hb, S0_text38] at e
        cases e
      · rw [sTx_congr (B' := S0f) hb, S0_text38] at e
        obtain rfl := Sum.inr.inj e
        simp only [x_push, x_iload, x_lload, x_aload, x_bin, x_div, x_un, x_lbin, x_ldiv, x_lcmp, x_i2l, x_l2i, x_dup, x_pop, x_dup2, x_c1, x_c2, x_null, x_cat1, x_istore, x_astore, x_lstore, x_iinc, x_nol, x_tsw, xsw, x_lsw, xlsw, x_ret, x_zret, x_lret, x_aret, x_vret, x_getI, x_getL, x_getR, x_putI, x_putZ, x_putL, x_iaload, x_zaload, x_aaload, x_iastore, x_zastore, x_alen, x_mm, x_acopy, xpush, xJ, xK, x_cV0, x_cV1, x_cV2, x_cV3, x_cV4, x_cV5, x_cV6, x_cV7, x_cV8, x_cS1, x_cS2, x_cS3, x_cS4, x_cS5, List.getD_cons_zero, List.getD_cons_succ, List.set_cons_zero, List.set_cons_succ, List.length_cons, List.length_nil, Nat.zero_add, true_and, and_true, List.getD_nil, not_true, not_false_eq_true, Int.toNat_natCast, false_implies, true_implies, if_true, if_false, Int.toNat_zero, Int.toNat_one, true_or, or_true, Int.reduceEq, Int.reduceLT, Int.reduceLE, Int.reduceNe, Int.reduceNeg, Int.reduceAdd, Int.reduceSub, Int.reduceMul, Int.reduceToNat, Nat.reduceLT, Nat.reduceLeDiff, Nat.reduceAdd, Nat.reduceEqDiff, Nat.reduceSub, not_false_iff, and_self, implies_true, false_and, and_false, or_self, false_or, or_false, Int.cast_ofNat_Int, Int.natCast_nonneg, SC.f0 hC, SC.f1 hC, SC.f2 hC, SC.f3 hC, SC.f4 hC, SC.f5 hC, SC.f6 hC, SC.f7 hC, SP.f0 hP, SP.f1 hP, SP.f2 hP, SP.l2 hP, SP.a2 hP, SP.e2 hP]
        refine c_tapeClear hP ?_
        simp only [x_push, x_iload, x_lload, x_aload, x_bin, x_div, x_un, x_lbin, x_ldiv, x_lcmp, x_i2l, x_l2i, x_dup, x_pop, x_dup2, x_c1, x_c2, x_null, x_cat1, x_istore, x_astore, x_lstore, x_iinc, x_nol, x_tsw, xsw, x_lsw, xlsw, x_ret, x_zret, x_lret, x_aret, x_vret, x_getI, x_getL, x_getR, x_putI, x_putZ, x_putL, x_iaload, x_zaload, x_aaload, x_iastore, x_zastore, x_alen, x_mm, x_acopy, xpush, xJ, xK, x_cV0, x_cV1, x_cV2, x_cV3, x_cV4, x_cV5, x_cV6, x_cV7, x_cV8, x_cS1, x_cS2, x_cS3, x_cS4, x_cS5, List.getD_cons_zero, List.getD_cons_succ, List.set_cons_zero, List.set_cons_succ, List.length_cons, List.length_nil, Nat.zero_add, true_and, and_true, List.getD_nil, not_true, not_false_eq_true, Int.toNat_natCast, false_implies, true_implies, if_true, if_false, Int.toNat_zero, Int.toNat_one, true_or, or_true, Int.reduceEq, Int.reduceLT, Int.reduceLE, Int.reduceNe, Int.reduceNeg, Int.reduceAdd, Int.reduceSub, Int.reduceMul, Int.reduceToNat, Nat.reduceLT, Nat.reduceLeDiff, Nat.reduceAdd, Nat.reduceEqDiff, Nat.reduceSub, not_false_iff, and_self, implies_true, false_and, and_false, or_self, false_or, or_false, Int.cast_ofNat_Int, Int.natCast_nonneg, SC.f0 hC, SC.f1 hC, SC.f2 hC, SC.f3 hC, SC.f4 hC, SC.f5 hC, SC.f6 hC, SC.f7 hC, SP.f0 hP, SP.f1 hP, SP.f2 hP, SP.l2 hP, SP.a2 hP, SP.e2 hP]
        have ne : ∀ q, (q < c + 2 ∨ (c + 3 < q ∧ q < c + 29) ∨ c + 31 < q) → σ' q = σ q := fun q hq => by
          rw [k1 q (fun y => by unfold RT3 at y; omega), hs q (by omega)]
        have fin : ∀ q, (q < c ∨ (c + 3 < q ∧ q < c + 29) ∨ c + 31 < q) → upd2 (upd2 σ' (c + 2) 1 0) c 1 1 q = σ q := fun q hq => by
          rw [upd2_row (by omega), upd2_row (by omega), ne q (by omega)]
        have zw : ∀ o, (o = 4 ∨ 31 < o) → o < 85 → upd2 (upd2 σ' (c + 2) 1 0) c 1 1 (c + o) = cZ o := fun o ho hl => by
          rw [fin (c + o) (by omega), hz o hl]
        refine hQ _ h.1 ⟨h.2.1.1, fun k hk => ⟨(h.2.1.2 k hk).1, (h.2.1.2 k hk).2.1, (fin k (Or.inl hk)).trans (h.2.1.2 k hk).2.2⟩⟩ hB ⟨upd2_eq, ⟨?_, fun i hi => absurd hi (Nat.not_lt_zero i)⟩, ⟨?_, ?_, ?_, ?_, fun f hf => absurd hf (Nat.not_lt_zero f), fun f hf => absurd hf (Nat.not_lt_zero f)⟩, fun i hi => ?_, ⟨?_, fun y => absurd y (by decide)⟩, fun i hi => ⟨?_, ?_, fun j hj => absurd hj (Nat.not_lt_zero j)⟩⟩
        · show upd2 (upd2 σ' (c + 2) 1 0) c 1 1 (c + 2) 1 = 0
          rw [upd2_row (by omega), upd2_eq]
        · show upd2 (upd2 σ' (c + 2) 1 0) c 1 1 (c + 61) 1 = 1
          rw [zw 61 (by omega) (by omega)]; rfl
        · show upd2 (upd2 σ' (c + 2) 1 0) c 1 1 (c + 61) 2 = 0
          rw [zw 61 (by omega) (by omega)]; rfl
        · show upd2 (upd2 σ' (c + 2) 1 0) c 1 1 (c + 61) 3 = 0
          rw [zw 61 (by omega) (by omega)]; rfl
        · show upd2 (upd2 σ' (c + 2) 1 0) c 1 1 (c + 61) 4 = 0
          rw [zw 61 (by omega) (by omega)]; rfl
        · have hi : i = 0 := by
            have : i < 1 := hi
            omega
          subst hi
          rw [S0_E]
          have s1 : upd2 (upd2 σ' (c + 2) 1 0) c 1 1 (c + 29 + 4 * 0 + 1) = σ' (c + 29 + 4 * 0 + 1) := by rw [upd2_row (by omega), upd2_row (by omega)]
          have s2 : upd2 (upd2 σ' (c + 2) 1 0) c 1 1 (c + 29 + 4 * 0 + 2) = σ' (c + 29 + 4 * 0 + 2) := by rw [upd2_row (by omega), upd2_row (by omega)]
          exact k3.same s1 s2
        · show upd2 (upd2 σ' (c + 2) 1 0) c 1 1 c 6 = 0
          rw [upd2_col (by decide), upd2_row (by omega), ne c (by omega)]
          have := hz 0 (by omega)
          rw [Nat.add_zero] at this
          rw [this]; rfl
        · show upd2 (upd2 σ' (c + 2) 1 0) c 1 1 (c + 53 + 2 * i) 0 = -1
          rw [show c + 53 + 2 * i = c + (53 + 2 * i) by omega, zw (53 + 2 * i) (by omega) (by omega), cZ_1 (by omega)]; rfl
        · show upd2 (upd2 σ' (c + 2) 1 0) c 1 1 (c + 53 + 2 * i) 1 = 0
          rw [show c + 53 + 2 * i = c + (53 + 2 * i) by omega, zw (53 + 2 * i) (by omega) (by omega), cZ_1 (by omega)]; rfl
    | succ k ih =>
      intro i σ1 hi hs h1 hb
      refine b_X5_init_143 _ _ _ _ ?_
      simp only [k_X5_init_143, x_cW0, x_cW1, x_push, x_iload, x_lload, x_aload, x_bin, x_div, x_un, x_lbin, x_ldiv, x_lcmp, x_i2l, x_l2i, x_dup, x_pop, x_dup2, x_c1, x_c2, x_null, x_cat1, x_istore, x_astore, x_lstore, x_iinc, x_nol, x_tsw, xsw, x_lsw, xlsw, x_ret, x_zret, x_lret, x_aret, x_vret, x_getI, x_getL, x_getR, x_putI, x_putZ, x_putL, x_iaload, x_zaload, x_aaload, x_iastore, x_zastore, x_alen, x_mm, x_acopy, xpush, xJ, xK, x_cV0, x_cV1, x_cV2, x_cV3, x_cV4, x_cV5, x_cV6, x_cV7, x_cV8, x_cS1, x_cS2, x_cS3, x_cS4, x_cS5, List.getD_cons_zero, List.getD_cons_succ, List.set_cons_zero, List.set_cons_succ, List.length_cons, List.length_nil, Nat.zero_add, true_and, and_true, List.getD_nil, not_true, not_false_eq_true, Int.toNat_natCast, false_implies, true_implies, if_true, if_false, Int.toNat_zero, Int.toNat_one, true_or, or_true, Int.reduceEq, Int.reduceLT, Int.reduceLE, Int.reduceNe, Int.reduceNeg, Int.reduceAdd, Int.reduceSub, Int.reduceMul, Int.reduceToNat, Nat.reduceLT, Nat.reduceLeDiff, Nat.reduceAdd, Nat.reduceEqDiff, Nat.reduceSub, not_false_iff, and_self, implies_true, false_and, and_false, or_self, false_or, or_false, Int.cast_ofNat_Int, Int.natCast_nonneg]
      refine c_strLength (d := d + 55) ⟨by omega, by omega⟩ ?_
      have e38 : ((xLen.getD (2 - 2) 0 : Nat) : Int) = 38 := rfl
      rw [e38]
      simp only [x_cW1, x_push, x_iload, x_lload, x_aload, x_bin, x_div, x_un, x_lbin, x_ldiv, x_lcmp, x_i2l, x_l2i, x_dup, x_pop, x_dup2, x_c1, x_c2, x_null, x_cat1, x_istore, x_astore, x_lstore, x_iinc, x_nol, x_tsw, xsw, x_lsw, xlsw, x_ret, x_zret, x_lret, x_aret, x_vret, x_getI, x_getL, x_getR, x_putI, x_putZ, x_putL, x_iaload, x_zaload, x_aaload, x_iastore, x_zastore, x_alen, x_mm, x_acopy, xpush, xJ, xK, x_cV0, x_cV1, x_cV2, x_cV3, x_cV4, x_cV5, x_cV6, x_cV7, x_cV8, x_cS1, x_cS2, x_cS3, x_cS4, x_cS5, List.getD_cons_zero, List.getD_cons_succ, List.set_cons_zero, List.set_cons_succ, List.length_cons, List.length_nil, Nat.zero_add, true_and, and_true, List.getD_nil, not_true, not_false_eq_true, Int.toNat_natCast, false_implies, true_implies, if_true, if_false, Int.toNat_zero, Int.toNat_one, true_or, or_true, Int.reduceEq, Int.reduceLT, Int.reduceLE, Int.reduceNe, Int.reduceNeg, Int.reduceAdd, Int.reduceSub, Int.reduceMul, Int.reduceToNat, Nat.reduceLT, Nat.reduceLeDiff, Nat.reduceAdd, Nat.reduceEqDiff, Nat.reduceSub, not_false_iff, and_self, implies_true, false_and, and_false, or_self, false_or, or_false, Int.cast_ofNat_Int, Int.natCast_nonneg, SC.f0 hC, SC.f1 hC, SC.f2 hC, SC.f3 hC, SC.f4 hC, SC.f5 hC, SC.f6 hC, SC.f7 hC, SP.f0 hP, SP.f1 hP, SP.f2 hP, SP.l2 hP, SP.a2 hP, SP.e2 hP, eq_false (show ¬ ((38 : Int) ≤ (i : Int)) by omega)]
      refine c_charAt (d := d + 53) ⟨by omega, by omega⟩ (show i < 38 by omega) ?_
      simp only [x_push, x_iload, x_lload, x_aload, x_bin, x_div, x_un, x_lbin, x_ldiv, x_lcmp, x_i2l, x_l2i, x_dup, x_pop, x_dup2, x_c1, x_c2, x_null, x_cat1, x_istore, x_astore, x_lstore, x_iinc, x_nol, x_tsw, xsw, x_lsw, xlsw, x_ret, x_zret, x_lret, x_aret, x_vret, x_getI, x_getL, x_getR, x_putI, x_putZ, x_putL, x_iaload, x_zaload, x_aaload, x_iastore, x_zastore, x_alen, x_mm, x_acopy, xpush, xJ, xK, x_cV0, x_cV1, x_cV2, x_cV3, x_cV4, x_cV5, x_cV6, x_cV7, x_cV8, x_cS1, x_cS2, x_cS3, x_cS4, x_cS5, List.getD_cons_zero, List.getD_cons_succ, List.set_cons_zero, List.set_cons_succ, List.length_cons, List.length_nil, Nat.zero_add, true_and, and_true, List.getD_nil, not_true, not_false_eq_true, Int.toNat_natCast, false_implies, true_implies, if_true, if_false, Int.toNat_zero, Int.toNat_one, true_or, or_true, Int.reduceEq, Int.reduceLT, Int.reduceLE, Int.reduceNe, Int.reduceNeg, Int.reduceAdd, Int.reduceSub, Int.reduceMul, Int.reduceToNat, Nat.reduceLT, Nat.reduceLeDiff, Nat.reduceAdd, Nat.reduceEqDiff, Nat.reduceSub, not_false_iff, and_self, implies_true, false_and, and_false, or_self, false_or, or_false, Int.cast_ofNat_Int, Int.natCast_nonneg, SC.f0 hC, SC.f1 hC, SC.f2 hC, SC.f3 hC, SC.f4 hC, SC.f5 hC, SC.f6 hC, SC.f7 hC, SP.f0 hP, SP.f1 hP, SP.f2 hP, SP.l2 hP, SP.a2 hP, SP.e2 hP]
      refine c_tapeAdd (n := i) hP h1 (fun _ => ?_) (fun y => by omega)
      simp only [x_push, x_iload, x_lload, x_aload, x_bin, x_div, x_un, x_lbin, x_ldiv, x_lcmp, x_i2l, x_l2i, x_dup, x_pop, x_dup2, x_c1, x_c2, x_null, x_cat1, x_istore, x_astore, x_lstore, x_iinc, x_nol, x_tsw, xsw, x_lsw, xlsw, x_ret, x_zret, x_lret, x_aret, x_vret, x_getI, x_getL, x_getR, x_putI, x_putZ, x_putL, x_iaload, x_zaload, x_aaload, x_iastore, x_zastore, x_alen, x_mm, x_acopy, xpush, xJ, xK, x_cV0, x_cV1, x_cV2, x_cV3, x_cV4, x_cV5, x_cV6, x_cV7, x_cV8, x_cS1, x_cS2, x_cS3, x_cS4, x_cS5, List.getD_cons_zero, List.getD_cons_succ, List.set_cons_zero, List.set_cons_succ, List.length_cons, List.length_nil, Nat.zero_add, true_and, and_true, List.getD_nil, not_true, not_false_eq_true, Int.toNat_natCast, false_implies, true_implies, if_true, if_false, Int.toNat_zero, Int.toNat_one, true_or, or_true, Int.reduceEq, Int.reduceLT, Int.reduceLE, Int.reduceNe, Int.reduceNeg, Int.reduceAdd, Int.reduceSub, Int.reduceMul, Int.reduceToNat, Nat.reduceLT, Nat.reduceLeDiff, Nat.reduceAdd, Nat.reduceEqDiff, Nat.reduceSub, not_false_iff, and_self, implies_true, false_and, and_false, or_self, false_or, or_false, Int.cast_ofNat_Int, Int.natCast_nonneg, (show oadd (i : Int) 1 = ((i + 1 : Nat) : Int) by (first | rw [oadd_id (by omega) (by omega)] | rw [osub_id (by omega) (by omega)] | rw [omul_id (by omega) (by omega)]) <;> omega)]
      refine ih (i + 1) _ (by omega) ((hs.put (Or.inr rfl)).put (Or.inl rfl)) upd2_eq (fun j hj => ?_)
      rw [upd2_row (by omega)]
      by_cases e : j = i
      · subst e
        rw [upd2_eq]
        exact S0_sBy ⟨j, by omega⟩
      · rw [upd2_col e]
        exact hb j (by omega)
  refine loop 38 0 σ (by omega) Sm.rf ?_ (fun j hj => absurd hj (Nat.not_lt_zero j))
  rw [hz 2 (by omega)]; rfl
set_option maxHeartbeats 4000000 in
theorem i_sheets {μ : xMem} {c d : Nat} {Q : xV → xMem → Prop} (hQ : ∀ μ', gN μ'.1 = c + 85 → Gx c μ μ' → TBL c μ'.1 → CVa μ'.2 c S0 → Q vu μ') : ∀ (k i : Nat) (μ1 : xMem), i + k = 4 → PC μ c (53 + 2 * i) μ1 → xR M_X5_init (d + 58) (2 * k + 24, 43 * k + 156) 72 [vr c, vi (i : Int)] [] μ1 Q := by
  intro k
  induction k with
  | zero =>
    intro i μ1 hi h1
    have hi : i = 4 := by omega
    subst hi
    refine b_X5_init_72 _ _ _ _ ⟨fun q => ?_, fun q => absurd (show (4 : Int) ≤ ((4 : Nat) : Int) by omega) q⟩
    refine cw (f := 3) (t := 61) h1 (by decide) tOK_w3 (by omega) (fun μ2 h2 => ?_)
    refine cw (f := 4) (t := 69) h2 (by decide) tOK_w4 (by omega) (fun μ3 h3 => ?_)
    refine cw (f := 5) (t := 77) h3 (by decide) tOK_w5 (by omega) (fun μ4 h4 => ?_)
    exact ⟨trivial, xR_bud (i_fill (Γ := μ4.1) (σ := μ4.2) h4 hQ) (Nat.zero_le _) (Nat.zero_le _)⟩
  | succ k ih =>
    intro i μ1 hi h1
    have hN := h1.1
    have hP := push_PO (kd := .inl 1) hN
    have hg : gF μ1.1 c 8 = some (c + 28) := h1.f0 (x := 28) (by omega) (by decide +kernel) (by omega)
    refine b_X5_init_72 _ _ _ _ ⟨fun q => ?_, fun q => ?_⟩
    · have q : (4 : Int) ≤ (i : Int) := q
      omega
    · refine ⟨h1.k0 (by omega), ⟨(by show 1 ≤ 2 * (k + 1) + 24; omega), (by show 3 ≤ 43 * (k + 1) + 156; omega)⟩, trivial, (by show 3 ≤ 4; decide), ⟨(by show 1 ≤ 2 * (k + 1) + 24 - 1; omega), (by show 40 ≤ 43 * (k + 1) + 156 - 3; omega)⟩, ?_⟩
      show xRM M_X1_init (d + 57) BUD_X1_init [vr (gN μ1.1)] (gPush μ1.1 (.inl 1), zer2 μ1.2 (gN μ1.1)) (xK (x_aastore 1 "CrystalByTheMinute$Sheet" <| x_iinc 1 1 <| xJ M_X5_init (d + 58) 72 Q) (2 * (k + 1) + 24 - 1 - 1, 43 * (k + 1) + 156 - 3 - 40) [vr c, vi (i : Int)] [vr (gN μ1.1), vi (i : Int), vq (gF μ1.1 c 8)])
      rw [show [vr (gN μ1.1)] = [vr (c + (53 + 2 * i))] by rw [hN], show [vr (gN μ1.1), vi (i : Int), vq (gF μ1.1 c 8)] = [vr (c + (53 + 2 * i)), vi (i : Int), vr (c + 28)] by rw [hN, hg]]
      refine i_sheet hP.1 (hP.k (o := 0) (kd := .inl 1) List.mem_cons_self) (fun μ2 p2 => ?_)
      rw [hP.2.2.2.2.2.1] at p2
      have key := h1.sub p2 (tOK_sheet ⟨i, by omega⟩) (cZ_1 (by omega)).symm (fun j a b => cZ_0 (by omega) (by omega)) (fun y => absurd y (by
        have : i = 0 ∨ i = 1 ∨ i = 2 ∨ i = 3 := by omega
        rcases this with rfl | rfl | rfl | rfl <;> decide +kernel))
      have k28 := (key.2.2 28 (by omega)).1
      show gArr μ2.1 (c + 28) (.object "CrystalByTheMinute$Sheet") ∧ gK μ2.1 (c + (53 + 2 * i)) = some (.inl 1) ∧ 0 ≤ (i : Int) ∧ (i : Int) < gLen μ2.1 (c + 28) ∧ xR M_X5_init (d + 58) (2 * (k + 1) + 24 - 1 - 1, 43 * (k + 1) + 156 - 3 - 40) 72 [vr c, vi (oadd (i : Int) 1)] [] (gSetF μ2.1 (c + 28) i (some (c + (53 + 2 * i))), μ2.2) Q
      have k28 : gK μ2.1 (c + 28) = some (.inr (.object "CrystalByTheMinute$Sheet", 4)) := k28
      refine ⟨⟨_, k28⟩, p2.k (o := 0) (kd := .inl 1) List.mem_cons_self, by omega, by rw [gLen_of k28]; omega, ?_⟩
      rw [(show oadd (i : Int) 1 = ((i + 1 : Nat) : Int) by (first | rw [oadd_id (by omega) (by omega)] | rw [osub_id (by omega) (by omega)] | rw [omul_id (by omega) (by omega)]) <;> omega)]
      exact xR_bud (ih (i + 1) _ (by omega) (by rw [show 53 + 2 * (i + 1) = 53 + 2 * i + 2 by omega]; exact key)) (by show 2 * k + 24 ≤ 2 * (k + 1) + 24 - 1 - 1; omega) (by show 43 * k + 156 ≤ 43 * (k + 1) + 156 - 3 - 40; omega)
set_option maxHeartbeats 4000000 in
theorem i_texts {μ : xMem} {c d : Nat} {Q : xV → xMem → Prop} (hQ : ∀ μ', gN μ'.1 = c + 85 → Gx c μ μ' → TBL c μ'.1 → CVa μ'.2 c S0 → Q vu μ') : ∀ (k i : Nat) (μ1 : xMem), i + k = 6 → PC μ c (29 + 4 * i) μ1 → xR M_X5_init (d + 58) (4 * k + 32, 199 * k + 328) 45 [vr c, vi (i : Int)] [] μ1 Q := by
  intro k
  induction k with
  | zero =>
    intro i μ1 hi h1
    have hi : i = 6 := by omega
    subst hi
    refine b_X5_init_45 _ _ _ _ ⟨fun q => ?_, fun q => absurd (show (6 : Int) ≤ ((6 : Nat) : Int) by omega) q⟩
    exact ⟨trivial, xR_bud (i_sheets hQ 4 0 _ (by omega) h1) (Nat.le_refl _) (Nat.le_refl _)⟩
  | succ k ih =>
    intro i μ1 hi h1
    have hN := h1.1
    have hP := push_PO (kd := .inl 3) hN
    have hg : gF μ1.1 c 0 = some (c + 1) := h1.f0 (x := 1) (by omega) (by decide +kernel) (by omega)
    refine b_X5_init_45 _ _ _ _ ⟨fun q => ?_, fun q => ?_⟩
    · have q : (6 : Int) ≤ (i : Int) := q
      omega
    · refine ⟨h1.k0 (by omega), ⟨(by show 1 ≤ 4 * (k + 1) + 32; omega), (by show 4 ≤ 199 * (k + 1) + 328; omega)⟩, trivial, (by show 3 ≤ 4; decide), ⟨(by show 3 ≤ 4 * (k + 1) + 32 - 1; omega), (by show 195 ≤ 199 * (k + 1) + 328 - 4; omega)⟩, ?_⟩
      show xRM M_X3_init (d + 57) BUD_X3_init [vr (gN μ1.1)] (gPush μ1.1 (.inl 3), zer2 μ1.2 (gN μ1.1)) (xK (x_aastore 3 "CrystalByTheMinute$Text" <| x_iinc 1 1 <| xJ M_X5_init (d + 58) 45 Q) (4 * (k + 1) + 32 - 1 - 3, 199 * (k + 1) + 328 - 4 - 195) [vr c, vi (i : Int)] [vr (gN μ1.1), vi (i : Int), vq (gF μ1.1 c 0)])
      rw [show [vr (gN μ1.1)] = [vr (c + (29 + 4 * i))] by rw [hN], show [vr (gN μ1.1), vi (i : Int), vq (gF μ1.1 c 0)] = [vr (c + (29 + 4 * i)), vi (i : Int), vr (c + 1)] by rw [hN, hg]]
      refine i_text hP.1 (hP.k (o := 0) (kd := .inl 3) List.mem_cons_self) (fun μ2 p2 => ?_)
      rw [hP.2.2.2.2.2.1] at p2
      have key := h1.sub p2 (tOK_text ⟨i, by omega⟩) (cZ_0 (by omega) (by omega)).symm (fun j a b => cZ_0 (by omega) (by omega)) (fun y => absurd y (by
        have : i = 0 ∨ i = 1 ∨ i = 2 ∨ i = 3 ∨ i = 4 ∨ i = 5 := by omega
        rcases this with rfl | rfl | rfl | rfl | rfl | rfl <;> decide +kernel))
      have k28 := (key.2.2 1 (by omega)).1
      show gArr μ2.1 (c + 1) (.object "CrystalByTheMinute$Text") ∧ gK μ2.1 (c + (29 + 4 * i)) = some (.inl 3) ∧ 0 ≤ (i : Int) ∧ (i : Int) < gLen μ2.1 (c + 1) ∧ xR M_X5_init (d + 58) (4 * (k + 1) + 32 - 1 - 3, 199 * (k + 1) + 328 - 4 - 195) 45 [vr c, vi (oadd (i : Int) 1)] [] (gSetF μ2.1 (c + 1) i (some (c + (29 + 4 * i))), μ2.2) Q
      have k28 : gK μ2.1 (c + 1) = some (.inr (.object "CrystalByTheMinute$Text", 6)) := k28
      refine ⟨⟨_, k28⟩, p2.k (o := 0) (kd := .inl 3) List.mem_cons_self, by omega, by rw [gLen_of k28]; omega, ?_⟩
      rw [(show oadd (i : Int) 1 = ((i + 1 : Nat) : Int) by (first | rw [oadd_id (by omega) (by omega)] | rw [osub_id (by omega) (by omega)] | rw [omul_id (by omega) (by omega)]) <;> omega)]
      exact xR_bud (ih (i + 1) _ (by omega) (by rw [show 29 + 4 * (i + 1) = 29 + 4 * i + 4 by omega]; exact key)) (by show 4 * k + 32 ≤ 4 * (k + 1) + 32 - 1 - 3; omega) (by show 199 * k + 328 ≤ 199 * (k + 1) + 328 - 4 - 195; omega)
set_option maxHeartbeats 4000000 in
theorem i_class {μ : xMem} {c d : Nat} {Q : xV → xMem → Prop} (hn : gN μ.1 = c + 1) (hk : gK μ.1 c = some (.inl 5)) (h0 : μ.2 c = fun _ => 0) (hQ : ∀ μ', gN μ'.1 = c + 85 → Gx c μ μ' → TBL c μ'.1 → CVa μ'.2 c S0 → Q vu μ') : xRM M_X5_init (d + 58) BUD_X5_init [vr c] μ Q := by
  refine xRM_of (by decide) (Nat.le_of_ble_eq_true rfl) ?_
  have hp : PC μ c 1 μ := ⟨hn, Gx.rf, fun o ho => by
    have ho : o = 0 := by omega
    subst ho
    exact ⟨hk, fun p hp hlt => absurd hlt ((show ∀ p ∈ cF 0, ¬ p.2 < 1 by decide +kernel) p hp), h0.trans (cZ_0 (by decide) (by decide)).symm⟩⟩
  refine b_X5_init_0 _ _ _ _ ?_
  show k_X5_init_0 (d + 57) Q (84, 1847) [vr c, vu] [] μ
  unfold k_X5_init_0
  refine bo ?_
  refine ck hp (by decide) tOK_texts (cZ_0 (by decide) (by decide)) (by decide +kernel) (fun μ1 h1 => ?_)
  refine cn h1 (by decide) (fun μ2 Q' a1 a2 a3 hq => i_tape a1 a2 (fun μ3 p => hq μ3 (by rw [a3] at p; exact p))) tOK_tape (cZ_0 (by decide) (by decide)).symm (fun i a b => cZ_0 (by omega) (by omega)) (by decide +kernel) (fun μ3 h3 => ?_)
  refine cn h3 (by decide) (fun μ2 Q' a1 a2 a3 hq => i_keeper a1 a2 (fun μ3 p => hq μ3 (by rw [a3] at p; exact p))) tOK_keeper (cZ_0 (by decide) (by decide)).symm (fun i a b => cZ_0 (by omega) (by omega)) (by decide +kernel) (fun μ4 h4 => ?_)
  refine ck h4 (by decide) tOK_sheets (cZ_0 (by decide) (by decide)) (by decide +kernel) (fun μ5 h5 => ?_)
  exact ⟨trivial, xR_bud (i_texts hQ 6 0 _ (by omega) h5) (by decide) (by decide)⟩
