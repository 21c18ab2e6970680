/-! ===== World.become, firstOtherwise; Sheet ===== -/
section World
variable {Γ : xSh} {σ : Nat → Nat → Int} {w w2 tx tx2 t0 d n nf nc tc t : Nat} {A : Nat → Nat → Int} {E : Nat → Nat → List Int} {h x what of v : Int} {Q : xV → xMem → Prop}
theorem Sm.cpy {P : Nat → Prop} {σ σ' : Nat → Nat → Int} {src sp dst dp n : Nat} (h : Sm P σ σ') (ha : P dst) : Sm P σ (cpy2 σ' src sp dst dp n) := fun k hk => by
  rw [cpy2_row (fun e => hk (by rw [e]; exact ha))]
  exact h k hk
theorem cpy2_dst {σ : Nat → Nat → Int} {src dst n i : Nat} (h : i < n) : cpy2 σ src 0 dst 0 n dst i = σ src i := by
  unfold cpy2
  rw [if_pos ⟨rfl, Nat.zero_le _, by omega⟩]
  simp
theorem upd2_eq {σ : Nat → Nat → Int} {a j : Nat} {v : Int} : upd2 σ a j v a j = v := by simp [upd2]
theorem upd2_col {σ : Nat → Nat → Int} {a j i : Nat} {v : Int} (h : i ≠ j) : upd2 σ a j v a i = σ a i := by simp [upd2, h]
set_option maxHeartbeats 4000000 in
theorem c_become (hS : SW Γ w tx) (hS2 : SW Γ w2 tx2) (hd : w + 8 ≤ w2 ∨ w2 + 8 ≤ w) (hV : WV σ w2 nf nc A) (hnf : nf ≤ 6) (hnc : nc ≤ 5) (hQ : ∀ σ', Sm (RV w) σ σ' → WV σ' w nf nc A → Q vu (Γ, σ')) : xRM M_X4_become (d + 1) (0, 0) [vr w, vr w2] (Γ, σ) Q := by
  refine xRM_of (by decide) (Nat.le_of_ble_eq_true rfl) ?_
  refine b_X4_become_0 _ _ _ _ ?_
  show k_X4_become_0 d Q (0, 0) [vr w, vr w2] [] (Γ, σ)
  have in' : ∀ j, j ≤ 6 → RV w (w + j) := fun j hj => ⟨by omega, by omega⟩
  simp only [k_X4_become_0, x_push, x_iload, x_lload, x_aload, x_bin, x_div, x_un, x_lbin, x_ldiv, x_lcmp, x_i2l, x_l2i, x_dup, x_pop, x_dup2, x_c1, x_c2, x_null, x_cat1, x_istore, x_astore, x_lstore, x_iinc, x_nol, x_tsw, xsw, x_lsw, xlsw, x_ret, x_zret, x_lret, x_aret, x_vret, x_getI, x_getL, x_getR, x_putI, x_putZ, x_putL, x_iaload, x_zaload, x_aaload, x_iastore, x_zastore, x_alen, x_mm, x_acopy, xpush, xJ, xK, x_cV0, x_cV1, x_cV2, x_cV3, x_cV4, x_cV5, x_cV6, x_cV7, x_cV8, x_cS1, x_cS2, x_cS3, x_cS4, x_cS5, List.getD_cons_zero, List.getD_cons_succ, List.set_cons_zero, List.set_cons_succ, List.length_cons, List.length_nil, Nat.zero_add, true_and, and_true, List.getD_nil, not_true, not_false_eq_true, Int.toNat_natCast, false_implies, true_implies, if_true, if_false, Int.toNat_zero, Int.toNat_one, true_or, or_true, Int.reduceEq, Int.reduceLT, Int.reduceLE, Int.reduceNe, Int.reduceNeg, Int.reduceAdd, Int.reduceSub, Int.reduceMul, Int.reduceToNat, Nat.reduceLT, Nat.reduceLeDiff, Nat.reduceAdd, Nat.reduceEqDiff, Nat.reduceSub, not_false_iff, and_self, implies_true, false_and, and_false, or_self, false_or, or_false, Int.cast_ofNat_Int, Int.natCast_nonneg, SW.f0 hS, SW.f1 hS, SW.f2 hS, SW.f3 hS, SW.f4 hS, SW.f5 hS, SW.f6 hS, SW.f7 hS, SW.f8 hS, SW.f9 hS, SW.l9 hS, SW.a9 hS, SW.e9 hS, SW.f10 hS, SW.l10 hS, SW.a10 hS, SW.e10 hS, SW.f11 hS, SW.l11 hS, SW.a11 hS, SW.e11 hS, SW.f12 hS, SW.l12 hS, SW.a12 hS, SW.e12 hS, SW.f13 hS, SW.l13 hS, SW.a13 hS, SW.e13 hS, SW.f14 hS, SW.l14 hS, SW.a14 hS, SW.e14 hS, SW.f15 hS, SW.l15 hS, SW.a15 hS, SW.e15 hS, SW.f0 hS2, SW.f1 hS2, SW.f2 hS2, SW.f3 hS2, SW.f4 hS2, SW.f5 hS2, SW.f6 hS2, SW.f7 hS2, SW.f8 hS2, SW.f9 hS2, SW.l9 hS2, SW.a9 hS2, SW.e9 hS2, SW.f10 hS2, SW.l10 hS2, SW.a10 hS2, SW.e10 hS2, SW.f11 hS2, SW.l11 hS2, SW.a11 hS2, SW.e11 hS2, SW.f12 hS2, SW.l12 hS2, SW.a12 hS2, SW.e12 hS2, SW.f13 hS2, SW.l13 hS2, SW.a13 hS2, SW.e13 hS2, SW.f14 hS2, SW.l14 hS2, SW.a14 hS2, SW.e14 hS2, SW.f15 hS2, SW.l15 hS2, SW.a15 hS2, SW.e15 hS2, upd2_row (show w2 ≠ w by omega)]
  refine hQ _ ((((((((((Sm.rf.put (in' 0 (by omega))).put (in' 0 (by omega))).put (in' 0 (by omega))).put (in' 0 (by omega))).cpy (in' 1 (by omega))).cpy (in' 2 (by omega))).cpy (in' 3 (by omega))).cpy (in' 4 (by omega))).cpy (in' 5 (by omega))).cpy (in' 6 (by omega))) ?_
  obtain ⟨a1, a2, a3, a4, a5, a6⟩ := hV
  refine ⟨?_, ?_, ?_, ?_, fun f hf => ?_, fun c hc => ?_⟩
  · simp (disch := omega) only [cpy2_row, upd2_col, upd2_eq, a1]
  · simp (disch := omega) only [cpy2_row, upd2_col, upd2_eq, a2]
  · simp (disch := omega) only [cpy2_row, upd2_col, upd2_eq, a3]
  · simp (disch := omega) only [cpy2_row, upd2_col, upd2_eq, a4]
  · obtain ⟨b1, b2, b3, b4⟩ := a5 f hf
    have hf6 : f < 6 := by omega
    simp (disch := omega) only [cpy2_row, cpy2_dst hf6, upd2_row, b1, b2, b3, b4]
    exact ⟨trivial, trivial, trivial, trivial⟩
  · obtain ⟨b1, b2⟩ := a6 c hc
    have hc5 : c < 5 := by omega
    simp (disch := omega) only [cpy2_row, cpy2_dst hc5, upd2_row, b1, b2]
    exact ⟨trivial, trivial⟩
/-- the first of k places from i on where v is not g -/
def sFO (g v : Nat → Int) : Nat → Nat → Int
  | _, 0 => -1
  | i, k + 1 => if v i = g i then sFO g v (i + 1) k else i
set_option maxHeartbeats 2000000 in
theorem c_firstOtherwise {f : Nat} {v : Nat → Int} (hW : WOK Γ σ w tx t0 nf nc tc A E) (hf : f < nf) (hZ : SS Γ t) (ht : ¬ RW w t0 t ∧ ¬ RW w t0 (t + 1)) (hn : σ t 1 = n) (hn12 : n ≤ 12) (hv : ∀ j, j < n → σ (t + 1) j = v j)
    (hQ : ∀ σ', Sm (RW w t0) σ σ' → Q (vi (sFO (fun h => sCost E A nc f h) v 0 n)) (Γ, σ')) : xRM M_X4_firstOtherwise (d + 5) (0, 0) [vr w, vi f, vr t] (Γ, σ) Q := by
  refine xRM_of (by decide) (Nat.le_of_ble_eq_true rfl) ?_
  have loop : ∀ (k i : Nat) (σ' : Nat → Nat → Int), i + k = n → Sm (RW w t0) σ σ' → (∀ σ', Sm (RW w t0) σ σ' → Q (vi (sFO (fun h => sCost E A nc f h) v i k)) (Γ, σ')) → xR M_X4_firstOtherwise (d + 5) (0, 0) 2 [vr w, vi f, vr t, vi i] [] (Γ, σ') Q := by
    intro k
    induction k with
    | zero =>
      intro i σ' hi hs hq
      have hi : i = n := by omega
      subst hi
      refine b_X4_firstOtherwise_2 _ _ _ _ ?_
      have e1 : σ' t = σ t := hs t ht.1
      simp only [k_X4_firstOtherwise_2, x_push, x_iload, x_lload, x_aload, x_bin, x_div, x_un, x_lbin, x_ldiv, x_lcmp, x_i2l, x_l2i, x_dup, x_pop, x_dup2, x_c1, x_c2, x_null, x_cat1, x_istore, x_astore, x_lstore, x_iinc, x_nol, x_tsw, xsw, x_lsw, xlsw, x_ret, x_zret, x_lret, x_aret, x_vret, x_getI, x_getL, x_getR, x_putI, x_putZ, x_putL, x_iaload, x_zaload, x_aaload, x_iastore, x_zastore, x_alen, x_mm, x_acopy, xpush, xJ, xK, x_cV0, x_cV1, x_cV2, x_cV3, x_cV4, x_cV5, x_cV6, x_cV7, x_cV8, x_cS1, x_cS2, x_cS3, x_cS4, x_cS5, List.getD_cons_zero, List.getD_cons_succ, List.set_cons_zero, List.set_cons_succ, List.length_cons, List.length_nil, Nat.zero_add, true_and, and_true, List.getD_nil, not_true, not_false_eq_true, Int.toNat_natCast, false_implies, true_implies, if_true, if_false, Int.toNat_zero, Int.toNat_one, true_or, or_true, Int.reduceEq, Int.reduceLT, Int.reduceLE, Int.reduceNe, Int.reduceNeg, Int.reduceAdd, Int.reduceSub, Int.reduceMul, Int.reduceToNat, Nat.reduceLT, Nat.reduceLeDiff, Nat.reduceAdd, Nat.reduceEqDiff, Nat.reduceSub, not_false_iff, and_self, implies_true, false_and, and_false, or_self, false_or, or_false, Int.cast_ofNat_Int, Int.natCast_nonneg, SW.f0 hW.1, SW.f1 hW.1, SW.f2 hW.1, SW.f3 hW.1, SW.f4 hW.1, SW.f5 hW.1, SW.f6 hW.1, SW.f7 hW.1, SW.f8 hW.1, SW.f9 hW.1, SW.l9 hW.1, SW.a9 hW.1, SW.e9 hW.1, SW.f10 hW.1, SW.l10 hW.1, SW.a10 hW.1, SW.e10 hW.1, SW.f11 hW.1, SW.l11 hW.1, SW.a11 hW.1, SW.e11 hW.1, SW.f12 hW.1, SW.l12 hW.1, SW.a12 hW.1, SW.e12 hW.1, SW.f13 hW.1, SW.l13 hW.1, SW.a13 hW.1, SW.e13 hW.1, SW.f14 hW.1, SW.l14 hW.1, SW.a14 hW.1, SW.e14 hW.1, SW.f15 hW.1, SW.l15 hW.1, SW.a15 hW.1, SW.e15 hW.1, SS.f0 hZ, SS.f1 hZ, SS.f2 hZ, SS.l2 hZ, SS.a2 hZ, SS.e2 hZ, e1, hn]
      exact ⟨fun _ => hq σ' hs, fun h => absurd (Int.le_refl _) h⟩
    | succ k ih =>
      intro i σ' hi hs hq
      refine b_X4_firstOtherwise_2 _ _ _ _ ?_
      have e1 : σ' t = σ t := hs t ht.1
      have e2 : σ' (t + 1) i = v i := by rw [hs (t + 1) ht.2]; exact hv i (by omega)
      simp only [k_X4_firstOtherwise_2, x_push, x_iload, x_lload, x_aload, x_bin, x_div, x_un, x_lbin, x_ldiv, x_lcmp, x_i2l, x_l2i, x_dup, x_pop, x_dup2, x_c1, x_c2, x_null, x_cat1, x_istore, x_astore, x_lstore, x_iinc, x_nol, x_tsw, xsw, x_lsw, xlsw, x_ret, x_zret, x_lret, x_aret, x_vret, x_getI, x_getL, x_getR, x_putI, x_putZ, x_putL, x_iaload, x_zaload, x_aaload, x_iastore, x_zastore, x_alen, x_mm, x_acopy, xpush, xJ, xK, x_cV0, x_cV1, x_cV2, x_cV3, x_cV4, x_cV5, x_cV6, x_cV7, x_cV8, x_cS1, x_cS2, x_cS3, x_cS4, x_cS5, List.getD_cons_zero, List.getD_cons_succ, List.set_cons_zero, List.set_cons_succ, List.length_cons, List.length_nil, Nat.zero_add, true_and, and_true, List.getD_nil, not_true, not_false_eq_true, Int.toNat_natCast, false_implies, true_implies, if_true, if_false, Int.toNat_zero, Int.toNat_one, true_or, or_true, Int.reduceEq, Int.reduceLT, Int.reduceLE, Int.reduceNe, Int.reduceNeg, Int.reduceAdd, Int.reduceSub, Int.reduceMul, Int.reduceToNat, Nat.reduceLT, Nat.reduceLeDiff, Nat.reduceAdd, Nat.reduceEqDiff, Nat.reduceSub, not_false_iff, and_self, implies_true, false_and, and_false, or_self, false_or, or_false, Int.cast_ofNat_Int, Int.natCast_nonneg, SW.f0 hW.1, SW.f1 hW.1, SW.f2 hW.1, SW.f3 hW.1, SW.f4 hW.1, SW.f5 hW.1, SW.f6 hW.1, SW.f7 hW.1, SW.f8 hW.1, SW.f9 hW.1, SW.l9 hW.1, SW.a9 hW.1, SW.e9 hW.1, SW.f10 hW.1, SW.l10 hW.1, SW.a10 hW.1, SW.e10 hW.1, SW.f11 hW.1, SW.l11 hW.1, SW.a11 hW.1, SW.e11 hW.1, SW.f12 hW.1, SW.l12 hW.1, SW.a12 hW.1, SW.e12 hW.1, SW.f13 hW.1, SW.l13 hW.1, SW.a13 hW.1, SW.e13 hW.1, SW.f14 hW.1, SW.l14 hW.1, SW.a14 hW.1, SW.e14 hW.1, SW.f15 hW.1, SW.l15 hW.1, SW.a15 hW.1, SW.e15 hW.1, SS.f0 hZ, SS.f1 hZ, SS.f2 hZ, SS.l2 hZ, SS.a2 hZ, SS.e2 hZ, e1, hn, e2, eq_false (show ¬ ((n : Int) ≤ (i : Int)) by omega), eq_false (show ¬ ((12 : Int) ≤ (i : Int)) by omega), eq_true (show (i : Int) < 40 by omega)]
      refine c_costs (hW.same hs) hf (fun σ2 hs2 => ?_)
      have hs3 := hs.tr hs2
      simp only [x_push, x_iload, x_lload, x_aload, x_bin, x_div, x_un, x_lbin, x_ldiv, x_lcmp, x_i2l, x_l2i, x_dup, x_pop, x_dup2, x_c1, x_c2, x_null, x_cat1, x_istore, x_astore, x_lstore, x_iinc, x_nol, x_tsw, xsw, x_lsw, xlsw, x_ret, x_zret, x_lret, x_aret, x_vret, x_getI, x_getL, x_getR, x_putI, x_putZ, x_putL, x_iaload, x_zaload, x_aaload, x_iastore, x_zastore, x_alen, x_mm, x_acopy, xpush, xJ, xK, x_cV0, x_cV1, x_cV2, x_cV3, x_cV4, x_cV5, x_cV6, x_cV7, x_cV8, x_cS1, x_cS2, x_cS3, x_cS4, x_cS5, List.getD_cons_zero, List.getD_cons_succ, List.set_cons_zero, List.set_cons_succ, List.length_cons, List.length_nil, Nat.zero_add, true_and, and_true, List.getD_nil, not_true, not_false_eq_true, Int.toNat_natCast, false_implies, true_implies, if_true, if_false, Int.toNat_zero, Int.toNat_one, true_or, or_true, Int.reduceEq, Int.reduceLT, Int.reduceLE, Int.reduceNe, Int.reduceNeg, Int.reduceAdd, Int.reduceSub, Int.reduceMul, Int.reduceToNat, Nat.reduceLT, Nat.reduceLeDiff, Nat.reduceAdd, Nat.reduceEqDiff, Nat.reduceSub, not_false_iff, and_self, implies_true, false_and, and_false, or_self, false_or, or_false, Int.cast_ofNat_Int, Int.natCast_nonneg]
      refine ⟨fun q => ?_, fun q => ?_⟩
      · rw [oadd_id (by omega) (by omega)]
        refine ih (i + 1) σ2 (by omega) hs3 (fun σ4 h4 => ?_)
        have := hq σ4 h4
        simp only [sFO, if_pos q] at this
        exact this
      · have := hq σ2 hs3
        simp only [sFO, if_neg q] at this
        exact this
  refine b_X4_firstOtherwise_0 _ _ _ _ ?_
  exact ⟨trivial, loop n 0 σ (by omega) Sm.rf hQ⟩
end World
section Sheet
variable {Γ : xSh} {σ : Nat → Nat → Int} {d n t : Nat} {Q : xV → xMem → Prop}
set_option maxHeartbeats 2000000 in
theorem c_sheetBecome {s n : Int} (hZ : SS Γ t) (hQ : ∀ σ', Sm (fun k => k = t ∨ k = t + 1) σ σ' → σ' t 0 = s → σ' t 1 = n → (∀ j, j < 40 → σ' (t + 1) j = 0) → Q vu (Γ, σ')) : xRM M_X1_become (d + 1) (0, 0) [vr t, vi s, vi n] (Γ, σ) Q := by
  refine xRM_of (by decide) (Nat.le_of_ble_eq_true rfl) ?_
  have loop : ∀ (k i : Nat) (σ' : Nat → Nat → Int), i + k = 40 → Sm (fun k => k = t ∨ k = t + 1) σ σ' → σ' t 0 = s → σ' t 1 = n → (∀ j, j < i → σ' (t + 1) j = 0) → xR M_X1_become (d + 1) (0, 0) 12 [vr t, vi s, vi n, vi i] [] (Γ, σ') Q := by
    intro k
    induction k with
    | zero =>
      intro i σ' hi hs h0 h1 hr
      have hi : i = 40 := by omega
      subst hi
      refine b_X1_become_12 _ _ _ _ ?_
      simp only [k_X1_become_12, x_push, x_iload, x_lload, x_aload, x_bin, x_div, x_un, x_lbin, x_ldiv, x_lcmp, x_i2l, x_l2i, x_dup, x_pop, x_dup2, x_c1, x_c2, x_null, x_cat1, x_istore, x_astore, x_lstore, x_iinc, x_nol, x_tsw, xsw, x_lsw, xlsw, x_ret, x_zret, x_lret, x_aret, x_vret, x_getI, x_getL, x_getR, x_putI, x_putZ, x_putL, x_iaload, x_zaload, x_aaload, x_iastore, x_zastore, x_alen, x_mm, x_acopy, xpush, xJ, xK, x_cV0, x_cV1, x_cV2, x_cV3, x_cV4, x_cV5, x_cV6, x_cV7, x_cV8, x_cS1, x_cS2, x_cS3, x_cS4, x_cS5, List.getD_cons_zero, List.getD_cons_succ, List.set_cons_zero, List.set_cons_succ, List.length_cons, List.length_nil, Nat.zero_add, true_and, and_true, List.getD_nil, not_true, not_false_eq_true, Int.toNat_natCast, false_implies, true_implies, if_true, if_false, Int.toNat_zero, Int.toNat_one, true_or, or_true, Int.reduceEq, Int.reduceLT, Int.reduceLE, Int.reduceNe, Int.reduceNeg, Int.reduceAdd, Int.reduceSub, Int.reduceMul, Int.reduceToNat, Nat.reduceLT, Nat.reduceLeDiff, Nat.reduceAdd, Nat.reduceEqDiff, Nat.reduceSub, not_false_iff, and_self, implies_true, false_and, and_false, or_self, false_or, or_false, Int.cast_ofNat_Int, Int.natCast_nonneg, SS.f0 hZ, SS.f1 hZ, SS.f2 hZ, SS.l2 hZ, SS.a2 hZ, SS.e2 hZ]
      exact hQ σ' hs h0 h1 hr
    | succ k ih =>
      intro i σ' hi hs h0 h1 hr
      refine b_X1_become_12 _ _ _ _ ?_
      simp only [k_X1_become_12, x_push, x_iload, x_lload, x_aload, x_bin, x_div, x_un, x_lbin, x_ldiv, x_lcmp, x_i2l, x_l2i, x_dup, x_pop, x_dup2, x_c1, x_c2, x_null, x_cat1, x_istore, x_astore, x_lstore, x_iinc, x_nol, x_tsw, xsw, x_lsw, xlsw, x_ret, x_zret, x_lret, x_aret, x_vret, x_getI, x_getL, x_getR, x_putI, x_putZ, x_putL, x_iaload, x_zaload, x_aaload, x_iastore, x_zastore, x_alen, x_mm, x_acopy, xpush, xJ, xK, x_cV0, x_cV1, x_cV2, x_cV3, x_cV4, x_cV5, x_cV6, x_cV7, x_cV8, x_cS1, x_cS2, x_cS3, x_cS4, x_cS5, List.getD_cons_zero, List.getD_cons_succ, List.set_cons_zero, List.set_cons_succ, List.length_cons, List.length_nil, Nat.zero_add, true_and, and_true, List.getD_nil, not_true, not_false_eq_true, Int.toNat_natCast, false_implies, true_implies, if_true, if_false, Int.toNat_zero, Int.toNat_one, true_or, or_true, Int.reduceEq, Int.reduceLT, Int.reduceLE, Int.reduceNe, Int.reduceNeg, Int.reduceAdd, Int.reduceSub, Int.reduceMul, Int.reduceToNat, Nat.reduceLT, Nat.reduceLeDiff, Nat.reduceAdd, Nat.reduceEqDiff, Nat.reduceSub, not_false_iff, and_self, implies_true, false_and, and_false, or_self, false_or, or_false, Int.cast_ofNat_Int, Int.natCast_nonneg, SS.f0 hZ, SS.f1 hZ, SS.f2 hZ, SS.l2 hZ, SS.a2 hZ, SS.e2 hZ, eq_false (show ¬ ((40 : Int) ≤ (i : Int)) by omega), eq_true (show (i : Int) < 40 by omega)]
      rw [oadd_id (by omega) (by omega)]
      refine ih (i + 1) _ (by omega) (hs.put (Or.inr rfl)) (by rw [upd2_row (by omega)]; exact h0) (by rw [upd2_row (by omega)]; exact h1) (fun j hj => ?_)
      by_cases e : j = i
      · rw [e, upd2_eq]
      · rw [upd2_col e]; exact hr j (by omega)
  refine b_X1_become_0 _ _ _ _ ?_
  show k_X1_become_0 d Q (0, 0) [vr t, vi s, vi n, vu] [] (Γ, σ)
  simp only [k_X1_become_0, x_push, x_iload, x_lload, x_aload, x_bin, x_div, x_un, x_lbin, x_ldiv, x_lcmp, x_i2l, x_l2i, x_dup, x_pop, x_dup2, x_c1, x_c2, x_null, x_cat1, x_istore, x_astore, x_lstore, x_iinc, x_nol, x_tsw, xsw, x_lsw, xlsw, x_ret, x_zret, x_lret, x_aret, x_vret, x_getI, x_getL, x_getR, x_putI, x_putZ, x_putL, x_iaload, x_zaload, x_aaload, x_iastore, x_zastore, x_alen, x_mm, x_acopy, xpush, xJ, xK, x_cV0, x_cV1, x_cV2, x_cV3, x_cV4, x_cV5, x_cV6, x_cV7, x_cV8, x_cS1, x_cS2, x_cS3, x_cS4, x_cS5, List.getD_cons_zero, List.getD_cons_succ, List.set_cons_zero, List.set_cons_succ, List.length_cons, List.length_nil, Nat.zero_add, true_and, and_true, List.getD_nil, not_true, not_false_eq_true, Int.toNat_natCast, false_implies, true_implies, if_true, if_false, Int.toNat_zero, Int.toNat_one, true_or, or_true, Int.reduceEq, Int.reduceLT, Int.reduceLE, Int.reduceNe, Int.reduceNeg, Int.reduceAdd, Int.reduceSub, Int.reduceMul, Int.reduceToNat, Nat.reduceLT, Nat.reduceLeDiff, Nat.reduceAdd, Nat.reduceEqDiff, Nat.reduceSub, not_false_iff, and_self, implies_true, false_and, and_false, or_self, false_or, or_false, Int.cast_ofNat_Int, Int.natCast_nonneg, SS.f0 hZ, SS.f1 hZ, SS.f2 hZ, SS.l2 hZ, SS.a2 hZ, SS.e2 hZ]
  exact loop 40 0 _ (by omega) ((Sm.rf.put (Or.inl rfl)).put (Or.inl rfl)) (by rw [upd2_col (by decide), upd2_eq]) (by rw [upd2_eq]) (fun j hj => by omega)
set_option maxHeartbeats 2000000 in
theorem c_holds {i k : Int} (hZ : SS Γ t) (hn : σ t 1 = n) (hn40 : n ≤ 40) (h1 : 0 ≤ i → 0 ≤ k → i + k ≤ n → Q (vi 1) (Γ, σ)) (h0 : ¬ (0 ≤ i ∧ 0 ≤ k ∧ i + k ≤ n) → Q (vi 0) (Γ, σ)) : xRM M_X1_holds (d + 1) (0, 0) [vr t, vi i, vi k] (Γ, σ) Q := by
  refine xRM_of (by decide) (Nat.le_of_ble_eq_true rfl) ?_
  refine b_X1_holds_0 _ _ _ _ ?_
  show k_X1_holds_0 d Q (0, 0) [vr t, vi i, vi k] [] (Γ, σ)
  simp only [k_X1_holds_0, x_push, x_iload, x_lload, x_aload, x_bin, x_div, x_un, x_lbin, x_ldiv, x_lcmp, x_i2l, x_l2i, x_dup, x_pop, x_dup2, x_c1, x_c2, x_null, x_cat1, x_istore, x_astore, x_lstore, x_iinc, x_nol, x_tsw, xsw, x_lsw, xlsw, x_ret, x_zret, x_lret, x_aret, x_vret, x_getI, x_getL, x_getR, x_putI, x_putZ, x_putL, x_iaload, x_zaload, x_aaload, x_iastore, x_zastore, x_alen, x_mm, x_acopy, xpush, xJ, xK, x_cV0, x_cV1, x_cV2, x_cV3, x_cV4, x_cV5, x_cV6, x_cV7, x_cV8, x_cS1, x_cS2, x_cS3, x_cS4, x_cS5, List.getD_cons_zero, List.getD_cons_succ, List.set_cons_zero, List.set_cons_succ, List.length_cons, List.length_nil, Nat.zero_add, true_and, and_true, List.getD_nil, not_true, not_false_eq_true, Int.toNat_natCast, false_implies, true_implies, if_true, if_false, Int.toNat_zero, Int.toNat_one, true_or, or_true, Int.reduceEq, Int.reduceLT, Int.reduceLE, Int.reduceNe, Int.reduceNeg, Int.reduceAdd, Int.reduceSub, Int.reduceMul, Int.reduceToNat, Nat.reduceLT, Nat.reduceLeDiff, Nat.reduceAdd, Nat.reduceEqDiff, Nat.reduceSub, not_false_iff, and_self, implies_true, false_and, and_false, or_self, false_or, or_false, Int.cast_ofNat_Int, Int.natCast_nonneg, SS.f0 hZ, SS.f1 hZ, SS.f2 hZ, SS.l2 hZ, SS.a2 hZ, SS.e2 hZ, hn]
  refine ⟨fun q => h0 (by omega), fun q => ⟨fun q2 => h0 (by omega), fun q2 => ⟨fun q3 => h0 (by omega), fun q3 => ?_⟩⟩⟩
  rw [osub_id (by omega) (by omega)]
  exact ⟨fun q4 => h0 (by omega), fun q4 => h1 (by omega) (by omega) (by omega)⟩
/-- what a sheet of a sort keeps of a number -/
def sNar (s v : Int) : Int := if s = 0 then oi2b v else if s = 1 then oi2s v else v
set_option maxHeartbeats 2000000 in
theorem c_put {i : Nat} {s v : Int} (hZ : SS Γ t) (hs : σ t 0 = s) (hn : σ t 1 = n) (hn40 : n ≤ 40) (hi : i < n) (hQ : Q vu (Γ, upd2 σ (t + 1) i (sNar s v))) : xRM M_X1_put (d + 2) (0, 0) [vr t, vi i, vi v] (Γ, σ) Q := by
  refine xRM_of (by decide) (Nat.le_of_ble_eq_true rfl) ?_
  refine b_X1_put_0 _ _ _ _ ?_
  show k_X1_put_0 (d + 1) Q (0, 0) [vr t, vi i, vi v] [] (Γ, σ)
  simp only [k_X1_put_0, x_push, x_iload, x_lload, x_aload, x_bin, x_div, x_un, x_lbin, x_ldiv, x_lcmp, x_i2l, x_l2i, x_dup, x_pop, x_dup2, x_c1, x_c2, x_null, x_cat1, x_istore, x_astore, x_lstore, x_iinc, x_nol, x_tsw, xsw, x_lsw, xlsw, x_ret, x_zret, x_lret, x_aret, x_vret, x_getI, x_getL, x_getR, x_putI, x_putZ, x_putL, x_iaload, x_zaload, x_aaload, x_iastore, x_zastore, x_alen, x_mm, x_acopy, xpush, xJ, xK, x_cV0, x_cV1, x_cV2, x_cV3, x_cV4, x_cV5, x_cV6, x_cV7, x_cV8, x_cS1, x_cS2, x_cS3, x_cS4, x_cS5, List.getD_cons_zero, List.getD_cons_succ, List.set_cons_zero, List.set_cons_succ, List.length_cons, List.length_nil, Nat.zero_add, true_and, and_true, List.getD_nil, not_true, not_false_eq_true, Int.toNat_natCast, false_implies, true_implies, if_true, if_false, Int.toNat_zero, Int.toNat_one, true_or, or_true, Int.reduceEq, Int.reduceLT, Int.reduceLE, Int.reduceNe, Int.reduceNeg, Int.reduceAdd, Int.reduceSub, Int.reduceMul, Int.reduceToNat, Nat.reduceLT, Nat.reduceLeDiff, Nat.reduceAdd, Nat.reduceEqDiff, Nat.reduceSub, not_false_iff, and_self, implies_true, false_and, and_false, or_self, false_or, or_false, Int.cast_ofNat_Int, Int.natCast_nonneg, SS.f0 hZ, SS.f1 hZ, SS.f2 hZ, SS.l2 hZ, SS.a2 hZ, SS.e2 hZ]
  refine c_holds hZ hn hn40 (fun _ _ _ => ?_) (fun z => by omega)
  simp only [x_push, x_iload, x_lload, x_aload, x_bin, x_div, x_un, x_lbin, x_ldiv, x_lcmp, x_i2l, x_l2i, x_dup, x_pop, x_dup2, x_c1, x_c2, x_null, x_cat1, x_istore, x_astore, x_lstore, x_iinc, x_nol, x_tsw, xsw, x_lsw, xlsw, x_ret, x_zret, x_lret, x_aret, x_vret, x_getI, x_getL, x_getR, x_putI, x_putZ, x_putL, x_iaload, x_zaload, x_aaload, x_iastore, x_zastore, x_alen, x_mm, x_acopy, xpush, xJ, xK, x_cV0, x_cV1, x_cV2, x_cV3, x_cV4, x_cV5, x_cV6, x_cV7, x_cV8, x_cS1, x_cS2, x_cS3, x_cS4, x_cS5, List.getD_cons_zero, List.getD_cons_succ, List.set_cons_zero, List.set_cons_succ, List.length_cons, List.length_nil, Nat.zero_add, true_and, and_true, List.getD_nil, not_true, not_false_eq_true, Int.toNat_natCast, false_implies, true_implies, if_true, if_false, Int.toNat_zero, Int.toNat_one, true_or, or_true, Int.reduceEq, Int.reduceLT, Int.reduceLE, Int.reduceNe, Int.reduceNeg, Int.reduceAdd, Int.reduceSub, Int.reduceMul, Int.reduceToNat, Nat.reduceLT, Nat.reduceLeDiff, Nat.reduceAdd, Nat.reduceEqDiff, Nat.reduceSub, not_false_iff, and_self, implies_true, false_and, and_false, or_self, false_or, or_false, Int.cast_ofNat_Int, Int.natCast_nonneg, SS.f0 hZ, SS.f1 hZ, SS.f2 hZ, SS.l2 hZ, SS.a2 hZ, SS.e2 hZ, hs, eq_true (show (i : Int) < 40 by omega)]
  unfold sNar at hQ
  refine ⟨fun q => ⟨fun q2 => ?_, fun q2 => ?_⟩, fun q => ?_⟩
  · rw [if_neg q, if_neg q2] at hQ; exact hQ
  · rw [if_neg q, if_pos (Classical.not_not.mp q2)] at hQ; exact hQ
  · rw [if_pos (Classical.not_not.mp q)] at hQ; exact hQ
end Sheet
