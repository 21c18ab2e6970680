/-! ===== the model's calls: tells ===== -/
theorem sBs_down {q : Nat → Int} {x : Nat} : ∀ n, x < n → sBs q x n = sBs q (x + 1) n + (if q x = -1 then 2 ^ x else 0)
  | 0, h => by omega
  | n + 1, h => by
    simp only [sBs]
    by_cases e : x = n
    · subst e
      have h0 := sBs_lo q x
      have h1 : sBs q (x + 1) x = 0 := by
        have := sBs_lo q (x + 1)
        simp only [sBs] at this
        omega
      rw [h0, h1, if_neg (show ¬ (x + 1 ≤ x ∧ q x = -1) by omega)]
      by_cases z : q x = -1
      · rw [if_pos ⟨Nat.le_refl _, z⟩, if_pos z]
      · rw [if_neg (fun y => z y.2), if_neg z]
    · rw [sBs_down n (by omega)]
      by_cases z : q n = -1
      · rw [if_pos (show x ≤ n ∧ q n = -1 from ⟨by omega, z⟩), if_pos (show x + 1 ≤ n ∧ q n = -1 from ⟨by omega, z⟩)]; omega
      · rw [if_neg (show ¬ (x ≤ n ∧ q n = -1) from fun y => z y.2), if_neg (show ¬ (x + 1 ≤ n ∧ q n = -1) from fun y => z y.2)]; omega
theorem sBs_dvd {q : Nat → Int} {x : Nat} : ∀ n, 2 ^ x ∣ sBs q x n
  | 0 => ⟨0, rfl⟩
  | n + 1 => by
    simp only [sBs]
    refine Nat.dvd_add (sBs_dvd n) ?_
    by_cases z : x ≤ n ∧ q n = -1
    · rw [if_pos z]; exact Nat.pow_dvd_pow 2 z.1
    · rw [if_neg z]; exact ⟨0, rfl⟩
theorem sBs_or {q : Nat → Int} {x n : Nat} (hx : x < n) (hn : n ≤ 10) (hq : q x = -1) : oor (sBs q (x + 1) n : Int) (oshl 1 (x : Int)) = (sBs q x n : Int) := by
  have h := sBs_lt q (x + 1) n
  have hp : 2 ^ n ≤ 2 ^ 10 := Nat.pow_le_pow_right (by decide) hn
  have hp : 2 ^ n ≤ 1024 := hp
  obtain ⟨k, hk⟩ := sBs_dvd (q := q) (x := x + 1) n
  rw [sBs_down n hx, if_pos hq, oor_add (by omega) (by omega) (by
    rw [hk, Nat.pow_succ, Nat.mul_assoc, Nat.mul_div_cancel_left _ (Nat.pow_pos (by decide))]
    omega)]
theorem sMany_mono {q : Nat → Int} {x : Nat} : ∀ n, x ≤ n → sMany q x ≤ sMany q n
  | 0, h => by rw [show x = 0 by omega]; exact Nat.le_refl _
  | n + 1, h => by
    by_cases e : x = n + 1
    · rw [e]; exact Nat.le_refl _
    · have := sMany_mono (q := q) (x := x) n (by omega)
      simp only [sMany]
      omega
def lD (q : Nat → Int) : Nat → Nat → Int
  | 0, _ => -1
  | r + 1, x => if q x = -1 then (x : Int) else lD q r (x + 1)
theorem lD_sLst {q : Nat → Int} : ∀ r x, sLst q (x + r) = if sLst q x ≠ -1 then sLst q x else lD q r x
  | 0, x => by
    simp only [lD, Nat.add_zero]
    by_cases z : sLst q x = -1
    · rw [if_neg (fun y => y z)]; exact z
    · rw [if_pos z]
  | r + 1, x => by
    rw [show x + (r + 1) = x + 1 + r by omega, lD_sLst r (x + 1)]
    have e : sLst q (x + 1) = if sLst q x ≠ -1 then sLst q x else if q x = -1 then (x : Int) else -1 := rfl
    have e2 : lD q (r + 1) x = if q x = -1 then (x : Int) else lD q r (x + 1) := rfl
    rw [e2]
    by_cases z : sLst q x = -1
    · rw [if_neg (show ¬ (sLst q x ≠ -1) from fun y => y z)] at e
      rw [if_neg (show ¬ (sLst q x ≠ -1) from fun y => y z)]
      by_cases y : q x = -1
      · rw [if_pos y] at e
        rw [if_pos y, e, if_pos (show (x : Int) ≠ -1 by omega)]
      · rw [if_neg y] at e
        rw [if_neg y, e, if_neg (show ¬ ((-1 : Int) ≠ -1) from fun h => h rfl)]
    · rw [if_pos z] at e
      rw [e, if_pos z, if_pos z]
section Model
variable {Γ : xSh} {σ : Nat → Nat → Int} {m nf nc T d : Nat} {A : Nat → Nat → Int} {X : Nat → Nat × (Nat → Int)} {Q : xV → xMem → Prop} {S : xSt}
set_option maxHeartbeats 4000000 in
theorem m_firstOther {s f N : Nat} {v : Nat → Int} (hK : MK Γ σ m nf nc T A X) (hs4 : s < 4) (hf : f < nf) (hN : σ (m + 18) s = (N : Int)) (hN2 : N ≤ 40) (hv : ∀ j, j < N → σ (m + 19) (40 * s + j) = v j) (hQ : ∀ σ', SmF Ps m σ σ' → Q (vi (sFO (fun h => sCost (tE X) A nc f h) v 0 N)) (Γ, σ')) : xRM M_X6_firstOther (d + 45) (0, 0) [vr m, vi (s : Int), vi (f : Int)] (Γ, σ) Q := by
  refine xRM_of (by decide) (Nat.le_of_ble_eq_true rfl) ?_
  have hM := hK.1
  have loop : ∀ (k h : Nat) (σ1 : Nat → Nat → Int), h + k = N → SmF Ps m σ σ1 → (∀ σ', SmF Ps m σ σ' → Q (vi (sFO (fun h => sCost (tE X) A nc f h) v h k)) (Γ, σ')) → xR M_X6_firstOther (d + 45) (0, 0) 2 [vr m, vi (s : Int), vi (f : Int), vi (h : Int)] [] (Γ, σ1) Q := by
    intro k
    induction k with
    | zero =>
      intro h σ1 hh s1 hq
      have e18 : σ1 (m + 18) s = (N : Int) := by rw [s1.1 _ (by omega)]; exact hN
      refine b_X6_firstOther_2 _ _ _ _ ?_
      dsimp only [k_X6_firstOther_2, x_push, x_iload, x_lload, x_aload, x_bin, x_div, x_un, x_lbin, x_ldiv, x_lcmp, x_i2l, x_l2i, x_dup, x_pop, x_dup2, x_c1, x_c2, x_null, x_cat1, x_istore, x_astore, x_lstore, x_iinc, x_nol, x_tsw, xsw, x_lsw, xlsw, x_ret, x_zret, x_lret, x_aret, x_vret, x_getI, x_getL, x_getR, x_putI, x_putZ, x_putL, x_iaload, x_zaload, x_aaload, x_iastore, x_zastore, x_alen, x_mm, x_acopy, xpush, xJ, xK, x_cV0, x_cV1, x_cV2, x_cV3, x_cV4, x_cV5, x_cV6, x_cV7, x_cV8, x_cS1, x_cS2, x_cS3, x_cS4, x_cS5, List.getD_cons_zero, List.getD_cons_succ, List.set_cons_zero, List.set_cons_succ]
      simp only [x_push, x_iload, x_lload, x_aload, x_bin, x_div, x_un, x_lbin, x_ldiv, x_lcmp, x_i2l, x_l2i, x_dup, x_pop, x_dup2, x_c1, x_c2, x_null, x_cat1, x_istore, x_astore, x_lstore, x_iinc, x_nol, x_tsw, xsw, x_lsw, xlsw, x_ret, x_zret, x_lret, x_aret, x_vret, x_getI, x_getL, x_getR, x_putI, x_putZ, x_putL, x_iaload, x_zaload, x_aaload, x_iastore, x_zastore, x_alen, x_mm, x_acopy, xpush, xJ, xK, x_cV0, x_cV1, x_cV2, x_cV3, x_cV4, x_cV5, x_cV6, x_cV7, x_cV8, x_cS1, x_cS2, x_cS3, x_cS4, x_cS5, List.getD_cons_zero, List.getD_cons_succ, List.set_cons_zero, List.set_cons_succ, List.length_cons, List.length_nil, Nat.zero_add, true_and, and_true, List.getD_nil, not_true, not_false_eq_true, Int.toNat_natCast, false_implies, true_implies, if_true, if_false, Int.toNat_zero, Int.toNat_one, true_or, or_true, Int.reduceEq, Int.reduceLT, Int.reduceLE, Int.reduceNe, Int.reduceNeg, Int.reduceAdd, Int.reduceSub, Int.reduceMul, Int.reduceToNat, Nat.reduceLT, Nat.reduceLeDiff, Nat.reduceAdd, Nat.reduceEqDiff, Nat.reduceSub, not_false_iff, and_self, implies_true, false_and, and_false, or_self, false_or, or_false, Int.cast_ofNat_Int, Int.natCast_nonneg, SM.f0 hM, SM.f1 hM, SM.f2 hM, SM.f3 hM, SM.f4 hM, SM.f5 hM, SM.f6 hM, SM.f7 hM, SM.f8 hM, SM.f9 hM, SM.f10 hM, SM.f11 hM, SM.f12 hM, SM.f13 hM, SM.f14 hM, SM.f15 hM, SM.f16 hM, SM.f17 hM, SM.f18 hM, SM.f19 hM, SM.f20 hM, SM.l20 hM, SM.a20 hM, SM.e20 hM, SM.f21 hM, SM.l21 hM, SM.a21 hM, SM.e21 hM, SM.f22 hM, SM.l22 hM, SM.a22 hM, SM.e22 hM, SM.f23 hM, SM.l23 hM, SM.a23 hM, SM.e23 hM, SM.f24 hM, SM.l24 hM, SM.a24 hM, SM.e24 hM, SM.f25 hM, SM.l25 hM, SM.a25 hM, SM.e25 hM, SM.f26 hM, SM.l26 hM, SM.a26 hM, SM.e26 hM, SM.f27 hM, SM.l27 hM, SM.a27 hM, SM.e27 hM, SM.f28 hM, SM.l28 hM, SM.a28 hM, SM.e28 hM, SM.f29 hM, SM.l29 hM, SM.a29 hM, SM.e29 hM, SM.f30 hM, SM.l30 hM, SM.a30 hM, SM.e30 hM, SM.f31 hM, SM.l31 hM, SM.a31 hM, SM.e31 hM, SM.f32 hM, SM.l32 hM, SM.a32 hM, SM.e32 hM, SM.f33 hM, SM.l33 hM, SM.a33 hM, SM.e33 hM, SM.f34 hM, SM.l34 hM, SM.a34 hM, SM.e34 hM, SM.f35 hM, SM.l35 hM, SM.a35 hM, SM.e35 hM, SM.f36 hM, SM.l36 hM, SM.a36 hM, SM.e36 hM, SM.f37 hM, SM.l37 hM, SM.a37 hM, SM.e37 hM, SM.f38 hM, SM.l38 hM, SM.a38 hM, SM.e38 hM, eq_true (show (s : Int) < 4 by omega), e18, eq_true (show (N : Int) ≤ (h : Int) by omega)]
      exact hq σ1 s1
    | succ k ih =>
      intro h σ1 hh s1 hq
      have e18 : σ1 (m + 18) s = (N : Int) := by rw [s1.1 _ (by omega)]; exact hN
      refine b_X6_firstOther_2 _ _ _ _ ?_
      dsimp only [k_X6_firstOther_2, x_push, x_iload, x_lload, x_aload, x_bin, x_div, x_un, x_lbin, x_ldiv, x_lcmp, x_i2l, x_l2i, x_dup, x_pop, x_dup2, x_c1, x_c2, x_null, x_cat1, x_istore, x_astore, x_lstore, x_iinc, x_nol, x_tsw, xsw, x_lsw, xlsw, x_ret, x_zret, x_lret, x_aret, x_vret, x_getI, x_getL, x_getR, x_putI, x_putZ, x_putL, x_iaload, x_zaload, x_aaload, x_iastore, x_zastore, x_alen, x_mm, x_acopy, xpush, xJ, xK, x_cV0, x_cV1, x_cV2, x_cV3, x_cV4, x_cV5, x_cV6, x_cV7, x_cV8, x_cS1, x_cS2, x_cS3, x_cS4, x_cS5, List.getD_cons_zero, List.getD_cons_succ, List.set_cons_zero, List.set_cons_succ]
      simp only [x_push, x_iload, x_lload, x_aload, x_bin, x_div, x_un, x_lbin, x_ldiv, x_lcmp, x_i2l, x_l2i, x_dup, x_pop, x_dup2, x_c1, x_c2, x_null, x_cat1, x_istore, x_astore, x_lstore, x_iinc, x_nol, x_tsw, xsw, x_lsw, xlsw, x_ret, x_zret, x_lret, x_aret, x_vret, x_getI, x_getL, x_getR, x_putI, x_putZ, x_putL, x_iaload, x_zaload, x_aaload, x_iastore, x_zastore, x_alen, x_mm, x_acopy, xpush, xJ, xK, x_cV0, x_cV1, x_cV2, x_cV3, x_cV4, x_cV5, x_cV6, x_cV7, x_cV8, x_cS1, x_cS2, x_cS3, x_cS4, x_cS5, List.getD_cons_zero, List.getD_cons_succ, List.set_cons_zero, List.set_cons_succ, List.length_cons, List.length_nil, Nat.zero_add, true_and, and_true, List.getD_nil, not_true, not_false_eq_true, Int.toNat_natCast, false_implies, true_implies, if_true, if_false, Int.toNat_zero, Int.toNat_one, true_or, or_true, Int.reduceEq, Int.reduceLT, Int.reduceLE, Int.reduceNe, Int.reduceNeg, Int.reduceAdd, Int.reduceSub, Int.reduceMul, Int.reduceToNat, Nat.reduceLT, Nat.reduceLeDiff, Nat.reduceAdd, Nat.reduceEqDiff, Nat.reduceSub, not_false_iff, and_self, implies_true, false_and, and_false, or_self, false_or, or_false, Int.cast_ofNat_Int, Int.natCast_nonneg, SM.f0 hM, SM.f1 hM, SM.f2 hM, SM.f3 hM, SM.f4 hM, SM.f5 hM, SM.f6 hM, SM.f7 hM, SM.f8 hM, SM.f9 hM, SM.f10 hM, SM.f11 hM, SM.f12 hM, SM.f13 hM, SM.f14 hM, SM.f15 hM, SM.f16 hM, SM.f17 hM, SM.f18 hM, SM.f19 hM, SM.f20 hM, SM.l20 hM, SM.a20 hM, SM.e20 hM, SM.f21 hM, SM.l21 hM, SM.a21 hM, SM.e21 hM, SM.f22 hM, SM.l22 hM, SM.a22 hM, SM.e22 hM, SM.f23 hM, SM.l23 hM, SM.a23 hM, SM.e23 hM, SM.f24 hM, SM.l24 hM, SM.a24 hM, SM.e24 hM, SM.f25 hM, SM.l25 hM, SM.a25 hM, SM.e25 hM, SM.f26 hM, SM.l26 hM, SM.a26 hM, SM.e26 hM, SM.f27 hM, SM.l27 hM, SM.a27 hM, SM.e27 hM, SM.f28 hM, SM.l28 hM, SM.a28 hM, SM.e28 hM, SM.f29 hM, SM.l29 hM, SM.a29 hM, SM.e29 hM, SM.f30 hM, SM.l30 hM, SM.a30 hM, SM.e30 hM, SM.f31 hM, SM.l31 hM, SM.a31 hM, SM.e31 hM, SM.f32 hM, SM.l32 hM, SM.a32 hM, SM.e32 hM, SM.f33 hM, SM.l33 hM, SM.a33 hM, SM.e33 hM, SM.f34 hM, SM.l34 hM, SM.a34 hM, SM.e34 hM, SM.f35 hM, SM.l35 hM, SM.a35 hM, SM.e35 hM, SM.f36 hM, SM.l36 hM, SM.a36 hM, SM.e36 hM, SM.f37 hM, SM.l37 hM, SM.a37 hM, SM.e37 hM, SM.f38 hM, SM.l38 hM, SM.a38 hM, SM.e38 hM, eq_true (show (s : Int) < 4 by omega), e18, eq_false (show ¬ ((N : Int) ≤ (h : Int)) by omega)]
      refine m_costsOf (hK.sp s1) hf (fun σ2 s2 => ?_)
      have e19 : σ2 (m + 19) (40 * s + h) = v h := by rw [s2.1 _ (by omega), s1.1 _ (by omega)]; exact hv h (by omega)
      simp only [x_push, x_iload, x_lload, x_aload, x_bin, x_div, x_un, x_lbin, x_ldiv, x_lcmp, x_i2l, x_l2i, x_dup, x_pop, x_dup2, x_c1, x_c2, x_null, x_cat1, x_istore, x_astore, x_lstore, x_iinc, x_nol, x_tsw, xsw, x_lsw, xlsw, x_ret, x_zret, x_lret, x_aret, x_vret, x_getI, x_getL, x_getR, x_putI, x_putZ, x_putL, x_iaload, x_zaload, x_aaload, x_iastore, x_zastore, x_alen, x_mm, x_acopy, xpush, xJ, xK, x_cV0, x_cV1, x_cV2, x_cV3, x_cV4, x_cV5, x_cV6, x_cV7, x_cV8, x_cS1, x_cS2, x_cS3, x_cS4, x_cS5, List.getD_cons_zero, List.getD_cons_succ, List.set_cons_zero, List.set_cons_succ, List.length_cons, List.length_nil, Nat.zero_add, true_and, and_true, List.getD_nil, not_true, not_false_eq_true, Int.toNat_natCast, false_implies, true_implies, if_true, if_false, Int.toNat_zero, Int.toNat_one, true_or, or_true, Int.reduceEq, Int.reduceLT, Int.reduceLE, Int.reduceNe, Int.reduceNeg, Int.reduceAdd, Int.reduceSub, Int.reduceMul, Int.reduceToNat, Nat.reduceLT, Nat.reduceLeDiff, Nat.reduceAdd, Nat.reduceEqDiff, Nat.reduceSub, not_false_iff, and_self, implies_true, false_and, and_false, or_self, false_or, or_false, Int.cast_ofNat_Int, Int.natCast_nonneg, SM.f0 hM, SM.f1 hM, SM.f2 hM, SM.f3 hM, SM.f4 hM, SM.f5 hM, SM.f6 hM, SM.f7 hM, SM.f8 hM, SM.f9 hM, SM.f10 hM, SM.f11 hM, SM.f12 hM, SM.f13 hM, SM.f14 hM, SM.f15 hM, SM.f16 hM, SM.f17 hM, SM.f18 hM, SM.f19 hM, SM.f20 hM, SM.l20 hM, SM.a20 hM, SM.e20 hM, SM.f21 hM, SM.l21 hM, SM.a21 hM, SM.e21 hM, SM.f22 hM, SM.l22 hM, SM.a22 hM, SM.e22 hM, SM.f23 hM, SM.l23 hM, SM.a23 hM, SM.e23 hM, SM.f24 hM, SM.l24 hM, SM.a24 hM, SM.e24 hM, SM.f25 hM, SM.l25 hM, SM.a25 hM, SM.e25 hM, SM.f26 hM, SM.l26 hM, SM.a26 hM, SM.e26 hM, SM.f27 hM, SM.l27 hM, SM.a27 hM, SM.e27 hM, SM.f28 hM, SM.l28 hM, SM.a28 hM, SM.e28 hM, SM.f29 hM, SM.l29 hM, SM.a29 hM, SM.e29 hM, SM.f30 hM, SM.l30 hM, SM.a30 hM, SM.e30 hM, SM.f31 hM, SM.l31 hM, SM.a31 hM, SM.e31 hM, SM.f32 hM, SM.l32 hM, SM.a32 hM, SM.e32 hM, SM.f33 hM, SM.l33 hM, SM.a33 hM, SM.e33 hM, SM.f34 hM, SM.l34 hM, SM.a34 hM, SM.e34 hM, SM.f35 hM, SM.l35 hM, SM.a35 hM, SM.e35 hM, SM.f36 hM, SM.l36 hM, SM.a36 hM, SM.e36 hM, SM.f37 hM, SM.l37 hM, SM.a37 hM, SM.e37 hM, SM.f38 hM, SM.l38 hM, SM.a38 hM, SM.e38 hM, (show omul 40 (s : Int) = ((40 * s : Nat) : Int) by (first | rw [oadd_id (by omega) (by omega)] | rw [osub_id (by omega) (by omega)] | rw [omul_id (by omega) (by omega)]) <;> omega), (show oadd ((40 * s : Nat) : Int) (h : Int) = ((40 * s + h : Nat) : Int) by (first | rw [oadd_id (by omega) (by omega)] | rw [osub_id (by omega) (by omega)] | rw [omul_id (by omega) (by omega)]) <;> omega), eq_true (show ((40 * s + h : Nat) : Int) < 160 by omega), e19, (show oadd (h : Int) 1 = ((h + 1 : Nat) : Int) by (first | rw [oadd_id (by omega) (by omega)] | rw [osub_id (by omega) (by omega)] | rw [omul_id (by omega) (by omega)]) <;> omega)]
      simp only [sFO] at hq
      refine ⟨fun q => ?_, fun q => ?_⟩
      · rw [if_pos q.symm] at hq
        exact ih (h + 1) σ2 (by omega) (s1.tr s2) hq
      · rw [if_neg (fun z => q z.symm)] at hq
        exact hq σ2 (s1.tr s2)
  refine b_X6_firstOther_0 _ _ _ _ ?_
  exact ⟨trivial, loop N 0 σ (by omega) SmF.rf hQ⟩
set_option maxHeartbeats 4000000 in
theorem m_tellsL {s f i lo n : Nat} {w so was last : Int} (hR : MR Γ σ m S) (hs4 : s < 4) (hf : f < zF S) (hne : ¬ (zH S s).1 = -1) (hi : (sHas (zF S) (zC S) so (f : Int) ∧ i = sIx so (f : Int)) ∨ (so = 7 ∧ i = 0)) (hso : 0 ≤ so) (hlo : lo = if so = 0 then 1 else 0) (hln : lo ≤ n) (hn : n ≤ 1000) (hn10 : ¬ so = 2 → n ≤ 10) (hAI : ∀ k : Nat, lo ≤ k → k < n → AI (zF S) (zC S) (zT S) (upd2 (zA S) so.toNat i (k : Int))) (hwas : was = zA S so.toNat i)
    (hQ : ∀ σ', Sm (RMd m) σ σ' → MR Γ σ' m S → Q (vi (if w = 5 then ((sMany (fun k => sTl S s f (upd2 (zA S) so.toNat i k)) n - sMany (fun k => sTl S s f (upd2 (zA S) so.toNat i k)) lo : Nat) : Int) else if w = 6 then lD (fun k => sTl S s f (upd2 (zA S) so.toNat i k)) (n - lo) lo else if so = 2 then 0 else (sBs (fun k => sTl S s f (upd2 (zA S) so.toNat i k)) lo n : Int))) (Γ, σ')) :
    ∀ (x : Nat) (y : Int) (σ1 : Nat → Nat → Int) (B : Nat → Nat → Int) (st : Int), lo ≤ x → x ≤ n → y = (x : Int) - 1 → FG cWo jWo m σ σ1 → MW σ1 m (zF S) (zC S) B → (∀ b : Int, upd2 B so.toNat i b = upd2 (zA S) so.toNat i b) → (st = if so = 2 then 0 else (sBs (fun k => sTl S s f (upd2 (zA S) so.toNat i k)) x n : Int)) → xR M_X6_tells (d + 46) (0, 0) 178 [vr m, vi (s : Int), vi (f : Int), vi w, vi so, vi was, vi last, vi st, vi ((sMany (fun k => sTl S s f (upd2 (zA S) so.toNat i k)) n - sMany (fun k => sTl S s f (upd2 (zA S) so.toNat i k)) x : Nat) : Int), vi (lD (fun k => sTl S s f (upd2 (zA S) so.toNat i k)) (n - x) x), vi y] [] (Γ, σ1) Q := by
  obtain ⟨hM, hW, hA, hT⟩ := id hR.mk
  have hnf := hA.1
  have hnc := hA.2.1
  obtain ⟨p1, p2, p3, p4⟩ := (hR.2.1.2.2.2.2 s hs4).2 hne
  have h40 := (hR.2.2.2.2.2.2.2.2 s hs4).2
  generalize hqd : (fun k : Nat => sTl S s f (upd2 (zA S) so.toNat i (k : Int))) = q at hQ
  have hqk : ∀ k : Nat, q k = sTl S s f (upd2 (zA S) so.toNat i (k : Int)) := fun k => by rw [← hqd]
  have hmn := sMany_le q n
  have go190 : ∀ (y : Int) (ls : List xV) (σ1 : Nat → Nat → Int), ls.getD 4 vu = vi so → (ls = ls) → xR M_X6_tells (d + 46) (0, 0) 190 ls [vi (lo : Int), vi y] (Γ, σ1) Q → ls.getD 10 vu = vi y → xR M_X6_tells (d + 46) (0, 0) 178 ls [] (Γ, σ1) Q := by
    intro y ls σ1 e4 _ h190 e10
    refine b_X6_tells_178 _ _ _ _ ?_
    simp only [k_X6_tells_178, x_iload, e10, e4, x_c1, x_push, xJ]
    refine ⟨fun z => ?_, fun z => ?_⟩
    · rw [if_neg z] at hlo
      rw [hlo] at h190
      exact h190
    · rw [if_pos (Classical.not_not.mp z)] at hlo
      rw [hlo] at h190
      exact h190
  intro x
  induction x with
  | zero =>
    intro y σ1 B st hx hxn hy h1 h2 h3 hst
    have hl0 : lo = 0 := by omega
    refine go190 y _ σ1 rfl rfl ?_ rfl
    refine b_X6_tells_190 _ _ _ _ ?_
    dsimp only [k_X6_tells_190, x_push, x_iload, x_lload, x_aload, x_bin, x_div, x_un, x_lbin, x_ldiv, x_lcmp, x_i2l, x_l2i, x_dup, x_pop, x_dup2, x_c1, x_c2, x_null, x_cat1, x_istore, x_astore, x_lstore, x_iinc, x_nol, x_tsw, xsw, x_lsw, xlsw, x_ret, x_zret, x_lret, x_aret, x_vret, x_getI, x_getL, x_getR, x_putI, x_putZ, x_putL, x_iaload, x_zaload, x_aaload, x_iastore, x_zastore, x_alen, x_mm, x_acopy, xpush, xJ, xK, x_cV0, x_cV1, x_cV2, x_cV3, x_cV4, x_cV5, x_cV6, x_cV7, x_cV8, x_cS1, x_cS2, x_cS3, x_cS4, x_cS5, List.getD_cons_zero, List.getD_cons_succ, List.set_cons_zero, List.set_cons_succ]
    simp only [x_push, x_iload, x_lload, x_aload, x_bin, x_div, x_un, x_lbin, x_ldiv, x_lcmp, x_i2l, x_l2i, x_dup, x_pop, x_dup2, x_c1, x_c2, x_null, x_cat1, x_istore, x_astore, x_lstore, x_iinc, x_nol, x_tsw, xsw, x_lsw, xlsw, x_ret, x_zret, x_lret, x_aret, x_vret, x_getI, x_getL, x_getR, x_putI, x_putZ, x_putL, x_iaload, x_zaload, x_aaload, x_iastore, x_zastore, x_alen, x_mm, x_acopy, xpush, xJ, xK, x_cV0, x_cV1, x_cV2, x_cV3, x_cV4, x_cV5, x_cV6, x_cV7, x_cV8, x_cS1, x_cS2, x_cS3, x_cS4, x_cS5, List.getD_cons_zero, List.getD_cons_succ, List.set_cons_zero, List.set_cons_succ, List.length_cons, List.length_nil, Nat.zero_add, true_and, and_true, List.getD_nil, not_true, not_false_eq_true, Int.toNat_natCast, false_implies, true_implies, if_true, if_false, Int.toNat_zero, Int.toNat_one, true_or, or_true, Int.reduceEq, Int.reduceLT, Int.reduceLE, Int.reduceNe, Int.reduceNeg, Int.reduceAdd, Int.reduceSub, Int.reduceMul, Int.reduceToNat, Nat.reduceLT, Nat.reduceLeDiff, Nat.reduceAdd, Nat.reduceEqDiff, Nat.reduceSub, not_false_iff, and_self, implies_true, false_and, and_false, or_self, false_or, or_false, Int.cast_ofNat_Int, Int.natCast_nonneg, SM.f0 hM, SM.f1 hM, SM.f2 hM, SM.f3 hM, SM.f4 hM, SM.f5 hM, SM.f6 hM, SM.f7 hM, SM.f8 hM, SM.f9 hM, SM.f10 hM, SM.f11 hM, SM.f12 hM, SM.f13 hM, SM.f14 hM, SM.f15 hM, SM.f16 hM, SM.f17 hM, SM.f18 hM, SM.f19 hM, SM.f20 hM, SM.l20 hM, SM.a20 hM, SM.e20 hM, SM.f21 hM, SM.l21 hM, SM.a21 hM, SM.e21 hM, SM.f22 hM, SM.l22 hM, SM.a22 hM, SM.e22 hM, SM.f23 hM, SM.l23 hM, SM.a23 hM, SM.e23 hM, SM.f24 hM, SM.l24 hM, SM.a24 hM, SM.e24 hM, SM.f25 hM, SM.l25 hM, SM.a25 hM, SM.e25 hM, SM.f26 hM, SM.l26 hM, SM.a26 hM, SM.e26 hM, SM.f27 hM, SM.l27 hM, SM.a27 hM, SM.e27 hM, SM.f28 hM, SM.l28 hM, SM.a28 hM, SM.e28 hM, SM.f29 hM, SM.l29 hM, SM.a29 hM, SM.e29 hM, SM.f30 hM, SM.l30 hM, SM.a30 hM, SM.e30 hM, SM.f31 hM, SM.l31 hM, SM.a31 hM, SM.e31 hM, SM.f32 hM, SM.l32 hM, SM.a32 hM, SM.e32 hM, SM.f33 hM, SM.l33 hM, SM.a33 hM, SM.e33 hM, SM.f34 hM, SM.l34 hM, SM.a34 hM, SM.e34 hM, SM.f35 hM, SM.l35 hM, SM.a35 hM, SM.e35 hM, SM.f36 hM, SM.l36 hM, SM.a36 hM, SM.e36 hM, SM.f37 hM, SM.l37 hM, SM.a37 hM, SM.e37 hM, SM.f38 hM, SM.l38 hM, SM.a38 hM, SM.e38 hM, eq_true (show y < (lo : Int) by omega)]
    refine m_lays hM h2 hnf hnc hi (fun σ2 s2 w2 _ => ?_)
    have e : upd2 B so.toNat i was = zA S := by
      rw [h3, hwas]
      funext a b
      rw [upd2_at]
      by_cases z : a = so.toNat ∧ b = i
      · rw [if_pos z, z.1, z.2]
      · rw [if_neg z]
    rw [e] at w2
    have fr := h1.tr s2
    have key := hQ σ2 fr.sm ⟨hM, hR.2.1.world fr w2, hR.2.2⟩
    rw [hl0] at key
    simp only [x_push, x_iload, x_lload, x_aload, x_bin, x_div, x_un, x_lbin, x_ldiv, x_lcmp, x_i2l, x_l2i, x_dup, x_pop, x_dup2, x_c1, x_c2, x_null, x_cat1, x_istore, x_astore, x_lstore, x_iinc, x_nol, x_tsw, xsw, x_lsw, xlsw, x_ret, x_zret, x_lret, x_aret, x_vret, x_getI, x_getL, x_getR, x_putI, x_putZ, x_putL, x_iaload, x_zaload, x_aaload, x_iastore, x_zastore, x_alen, x_mm, x_acopy, xpush, xJ, xK, x_cV0, x_cV1, x_cV2, x_cV3, x_cV4, x_cV5, x_cV6, x_cV7, x_cV8, x_cS1, x_cS2, x_cS3, x_cS4, x_cS5, List.getD_cons_zero, List.getD_cons_succ, List.set_cons_zero, List.set_cons_succ, List.length_cons, List.length_nil, Nat.zero_add, true_and, and_true, List.getD_nil, not_true, not_false_eq_true, Int.toNat_natCast, false_implies, true_implies, if_true, if_false, Int.toNat_zero, Int.toNat_one, true_or, or_true, Int.reduceEq, Int.reduceLT, Int.reduceLE, Int.reduceNe, Int.reduceNeg, Int.reduceAdd, Int.reduceSub, Int.reduceMul, Int.reduceToNat, Nat.reduceLT, Nat.reduceLeDiff, Nat.reduceAdd, Nat.reduceEqDiff, Nat.reduceSub, not_false_iff, and_self, implies_true, false_and, and_false, or_self, false_or, or_false, Int.cast_ofNat_Int, Int.natCast_nonneg]
    refine ⟨fun z => ⟨fun z2 => ?_, fun z2 => ?_⟩, fun z => ?_⟩
    · rw [if_neg z, if_neg z2] at key
      rw [hst]; exact key
    · rw [if_neg z, if_pos (Classical.not_not.mp z2)] at key
      exact key
    · rw [if_pos (Classical.not_not.mp z)] at key
      exact key
  | succ x ih =>
    intro y σ1 B st hx hxn hy h1 h2 h3 hst
    have hy : y = (x : Int) := by omega
    subst hy
    refine go190 (x : Int) _ σ1 rfl rfl ?_ rfl
    refine b_X6_tells_190 _ _ _ _ ?_
    by_cases hend : x < lo
    · have hl1 : lo = x + 1 := by omega
      dsimp only [k_X6_tells_190, x_push, x_iload, x_lload, x_aload, x_bin, x_div, x_un, x_lbin, x_ldiv, x_lcmp, x_i2l, x_l2i, x_dup, x_pop, x_dup2, x_c1, x_c2, x_null, x_cat1, x_istore, x_astore, x_lstore, x_iinc, x_nol, x_tsw, xsw, x_lsw, xlsw, x_ret, x_zret, x_lret, x_aret, x_vret, x_getI, x_getL, x_getR, x_putI, x_putZ, x_putL, x_iaload, x_zaload, x_aaload, x_iastore, x_zastore, x_alen, x_mm, x_acopy, xpush, xJ, xK, x_cV0, x_cV1, x_cV2, x_cV3, x_cV4, x_cV5, x_cV6, x_cV7, x_cV8, x_cS1, x_cS2, x_cS3, x_cS4, x_cS5, List.getD_cons_zero, List.getD_cons_succ, List.set_cons_zero, List.set_cons_succ]
      simp only [x_push, x_iload, x_lload, x_aload, x_bin, x_div, x_un, x_lbin, x_ldiv, x_lcmp, x_i2l, x_l2i, x_dup, x_pop, x_dup2, x_c1, x_c2, x_null, x_cat1, x_istore, x_astore, x_lstore, x_iinc, x_nol, x_tsw, xsw, x_lsw, xlsw, x_ret, x_zret, x_lret, x_aret, x_vret, x_getI, x_getL, x_getR, x_putI, x_putZ, x_putL, x_iaload, x_zaload, x_aaload, x_iastore, x_zastore, x_alen, x_mm, x_acopy, xpush, xJ, xK, x_cV0, x_cV1, x_cV2, x_cV3, x_cV4, x_cV5, x_cV6, x_cV7, x_cV8, x_cS1, x_cS2, x_cS3, x_cS4, x_cS5, List.getD_cons_zero, List.getD_cons_succ, List.set_cons_zero, List.set_cons_succ, List.length_cons, List.length_nil, Nat.zero_add, true_and, and_true, List.getD_nil, not_true, not_false_eq_true, Int.toNat_natCast, false_implies, true_implies, if_true, if_false, Int.toNat_zero, Int.toNat_one, true_or, or_true, Int.reduceEq, Int.reduceLT, Int.reduceLE, Int.reduceNe, Int.reduceNeg, Int.reduceAdd, Int.reduceSub, Int.reduceMul, Int.reduceToNat, Nat.reduceLT, Nat.reduceLeDiff, Nat.reduceAdd, Nat.reduceEqDiff, Nat.reduceSub, not_false_iff, and_self, implies_true, false_and, and_false, or_self, false_or, or_false, Int.cast_ofNat_Int, Int.natCast_nonneg, SM.f0 hM, SM.f1 hM, SM.f2 hM, SM.f3 hM, SM.f4 hM, SM.f5 hM, SM.f6 hM, SM.f7 hM, SM.f8 hM, SM.f9 hM, SM.f10 hM, SM.f11 hM, SM.f12 hM, SM.f13 hM, SM.f14 hM, SM.f15 hM, SM.f16 hM, SM.f17 hM, SM.f18 hM, SM.f19 hM, SM.f20 hM, SM.l20 hM, SM.a20 hM, SM.e20 hM, SM.f21 hM, SM.l21 hM, SM.a21 hM, SM.e21 hM, SM.f22 hM, SM.l22 hM, SM.a22 hM, SM.e22 hM, SM.f23 hM, SM.l23 hM, SM.a23 hM, SM.e23 hM, SM.f24 hM, SM.l24 hM, SM.a24 hM, SM.e24 hM, SM.f25 hM, SM.l25 hM, SM.a25 hM, SM.e25 hM, SM.f26 hM, SM.l26 hM, SM.a26 hM, SM.e26 hM, SM.f27 hM, SM.l27 hM, SM.a27 hM, SM.e27 hM, SM.f28 hM, SM.l28 hM, SM.a28 hM, SM.e28 hM, SM.f29 hM, SM.l29 hM, SM.a29 hM, SM.e29 hM, SM.f30 hM, SM.l30 hM, SM.a30 hM, SM.e30 hM, SM.f31 hM, SM.l31 hM, SM.a31 hM, SM.e31 hM, SM.f32 hM, SM.l32 hM, SM.a32 hM, SM.e32 hM, SM.f33 hM, SM.l33 hM, SM.a33 hM, SM.e33 hM, SM.f34 hM, SM.l34 hM, SM.a34 hM, SM.e34 hM, SM.f35 hM, SM.l35 hM, SM.a35 hM, SM.e35 hM, SM.f36 hM, SM.l36 hM, SM.a36 hM, SM.e36 hM, SM.f37 hM, SM.l37 hM, SM.a37 hM, SM.e37 hM, SM.f38 hM, SM.l38 hM, SM.a38 hM, SM.e38 hM, eq_true (show (x : Int) < (lo : Int) by omega)]
      refine m_lays hM h2 hnf hnc hi (fun σ2 s2 w2 _ => ?_)
      have e : upd2 B so.toNat i was = zA S := by
        rw [h3, hwas]
        funext a b
        rw [upd2_at]
        by_cases z : a = so.toNat ∧ b = i
        · rw [if_pos z, z.1, z.2]
        · rw [if_neg z]
      rw [e] at w2
      have fr := h1.tr s2
      have key := hQ σ2 fr.sm ⟨hM, hR.2.1.world fr w2, hR.2.2⟩
      rw [hl1] at key
      simp only [x_push, x_iload, x_lload, x_aload, x_bin, x_div, x_un, x_lbin, x_ldiv, x_lcmp, x_i2l, x_l2i, x_dup, x_pop, x_dup2, x_c1, x_c2, x_null, x_cat1, x_istore, x_astore, x_lstore, x_iinc, x_nol, x_tsw, xsw, x_lsw, xlsw, x_ret, x_zret, x_lret, x_aret, x_vret, x_getI, x_getL, x_getR, x_putI, x_putZ, x_putL, x_iaload, x_zaload, x_aaload, x_iastore, x_zastore, x_alen, x_mm, x_acopy, xpush, xJ, xK, x_cV0, x_cV1, x_cV2, x_cV3, x_cV4, x_cV5, x_cV6, x_cV7, x_cV8, x_cS1, x_cS2, x_cS3, x_cS4, x_cS5, List.getD_cons_zero, List.getD_cons_succ, List.set_cons_zero, List.set_cons_succ, List.length_cons, List.length_nil, Nat.zero_add, true_and, and_true, List.getD_nil, not_true, not_false_eq_true, Int.toNat_natCast, false_implies, true_implies, if_true, if_false, Int.toNat_zero, Int.toNat_one, true_or, or_true, Int.reduceEq, Int.reduceLT, Int.reduceLE, Int.reduceNe, Int.reduceNeg, Int.reduceAdd, Int.reduceSub, Int.reduceMul, Int.reduceToNat, Nat.reduceLT, Nat.reduceLeDiff, Nat.reduceAdd, Nat.reduceEqDiff, Nat.reduceSub, not_false_iff, and_self, implies_true, false_and, and_false, or_self, false_or, or_false, Int.cast_ofNat_Int, Int.natCast_nonneg]
      refine ⟨fun z => ⟨fun z2 => ?_, fun z2 => ?_⟩, fun z => ?_⟩
      · rw [if_neg z, if_neg z2] at key
        rw [hst]; exact key
      · rw [if_neg z, if_pos (Classical.not_not.mp z2)] at key
        exact key
      · rw [if_pos (Classical.not_not.mp z)] at key
        exact key
    · dsimp only [k_X6_tells_190, x_push, x_iload, x_lload, x_aload, x_bin, x_div, x_un, x_lbin, x_ldiv, x_lcmp, x_i2l, x_l2i, x_dup, x_pop, x_dup2, x_c1, x_c2, x_null, x_cat1, x_istore, x_astore, x_lstore, x_iinc, x_nol, x_tsw, xsw, x_lsw, xlsw, x_ret, x_zret, x_lret, x_aret, x_vret, x_getI, x_getL, x_getR, x_putI, x_putZ, x_putL, x_iaload, x_zaload, x_aaload, x_iastore, x_zastore, x_alen, x_mm, x_acopy, xpush, xJ, xK, x_cV0, x_cV1, x_cV2, x_cV3, x_cV4, x_cV5, x_cV6, x_cV7, x_cV8, x_cS1, x_cS2, x_cS3, x_cS4, x_cS5, List.getD_cons_zero, List.getD_cons_succ, List.set_cons_zero, List.set_cons_succ]
      simp only [x_push, x_iload, x_lload, x_aload, x_bin, x_div, x_un, x_lbin, x_ldiv, x_lcmp, x_i2l, x_l2i, x_dup, x_pop, x_dup2, x_c1, x_c2, x_null, x_cat1, x_istore, x_astore, x_lstore, x_iinc, x_nol, x_tsw, xsw, x_lsw, xlsw, x_ret, x_zret, x_lret, x_aret, x_vret, x_getI, x_getL, x_getR, x_putI, x_putZ, x_putL, x_iaload, x_zaload, x_aaload, x_iastore, x_zastore, x_alen, x_mm, x_acopy, xpush, xJ, xK, x_cV0, x_cV1, x_cV2, x_cV3, x_cV4, x_cV5, x_cV6, x_cV7, x_cV8, x_cS1, x_cS2, x_cS3, x_cS4, x_cS5, List.getD_cons_zero, List.getD_cons_succ, List.set_cons_zero, List.set_cons_succ, List.length_cons, List.length_nil, Nat.zero_add, true_and, and_true, List.getD_nil, not_true, not_false_eq_true, Int.toNat_natCast, false_implies, true_implies, if_true, if_false, Int.toNat_zero, Int.toNat_one, true_or, or_true, Int.reduceEq, Int.reduceLT, Int.reduceLE, Int.reduceNe, Int.reduceNeg, Int.reduceAdd, Int.reduceSub, Int.reduceMul, Int.reduceToNat, Nat.reduceLT, Nat.reduceLeDiff, Nat.reduceAdd, Nat.reduceEqDiff, Nat.reduceSub, not_false_iff, and_self, implies_true, false_and, and_false, or_self, false_or, or_false, Int.cast_ofNat_Int, Int.natCast_nonneg, SM.f0 hM, SM.f1 hM, SM.f2 hM, SM.f3 hM, SM.f4 hM, SM.f5 hM, SM.f6 hM, SM.f7 hM, SM.f8 hM, SM.f9 hM, SM.f10 hM, SM.f11 hM, SM.f12 hM, SM.f13 hM, SM.f14 hM, SM.f15 hM, SM.f16 hM, SM.f17 hM, SM.f18 hM, SM.f19 hM, SM.f20 hM, SM.l20 hM, SM.a20 hM, SM.e20 hM, SM.f21 hM, SM.l21 hM, SM.a21 hM, SM.e21 hM, SM.f22 hM, SM.l22 hM, SM.a22 hM, SM.e22 hM, SM.f23 hM, SM.l23 hM, SM.a23 hM, SM.e23 hM, SM.f24 hM, SM.l24 hM, SM.a24 hM, SM.e24 hM, SM.f25 hM, SM.l25 hM, SM.a25 hM, SM.e25 hM, SM.f26 hM, SM.l26 hM, SM.a26 hM, SM.e26 hM, SM.f27 hM, SM.l27 hM, SM.a27 hM, SM.e27 hM, SM.f28 hM, SM.l28 hM, SM.a28 hM, SM.e28 hM, SM.f29 hM, SM.l29 hM, SM.a29 hM, SM.e29 hM, SM.f30 hM, SM.l30 hM, SM.a30 hM, SM.e30 hM, SM.f31 hM, SM.l31 hM, SM.a31 hM, SM.e31 hM, SM.f32 hM, SM.l32 hM, SM.a32 hM, SM.e32 hM, SM.f33 hM, SM.l33 hM, SM.a33 hM, SM.e33 hM, SM.f34 hM, SM.l34 hM, SM.a34 hM, SM.e34 hM, SM.f35 hM, SM.l35 hM, SM.a35 hM, SM.e35 hM, SM.f36 hM, SM.l36 hM, SM.a36 hM, SM.e36 hM, SM.f37 hM, SM.l37 hM, SM.a37 hM, SM.e37 hM, SM.f38 hM, SM.l38 hM, SM.a38 hM, SM.e38 hM, eq_false (show ¬ ((x : Int) < (lo : Int)) by omega)]
      refine m_lays hM h2 hnf hnc hi (fun σ2 s2 w2 _ => ?_)
      rw [h3] at w2
      have fr := h1.tr s2
      have hK2 : MK Γ σ2 m (zF S) (zC S) (zT S) (upd2 (zA S) so.toNat i (x : Int)) (zX S) := ⟨hM, w2, hAI x (by omega) (by omega), hT.same (fr.2.2 3 (by unfold jWo jQ; omega)) (fr.2.1 1 (by omega) (by omega) (by unfold cWo; omega)) (fr.2.1 2 (by omega) (by omega) (by unfold cWo; omega))⟩
      simp only [x_push, x_iload, x_lload, x_aload, x_bin, x_div, x_un, x_lbin, x_ldiv, x_lcmp, x_i2l, x_l2i, x_dup, x_pop, x_dup2, x_c1, x_c2, x_null, x_cat1, x_istore, x_astore, x_lstore, x_iinc, x_nol, x_tsw, xsw, x_lsw, xlsw, x_ret, x_zret, x_lret, x_aret, x_vret, x_getI, x_getL, x_getR, x_putI, x_putZ, x_putL, x_iaload, x_zaload, x_aaload, x_iastore, x_zastore, x_alen, x_mm, x_acopy, xpush, xJ, xK, x_cV0, x_cV1, x_cV2, x_cV3, x_cV4, x_cV5, x_cV6, x_cV7, x_cV8, x_cS1, x_cS2, x_cS3, x_cS4, x_cS5, List.getD_cons_zero, List.getD_cons_succ, List.set_cons_zero, List.set_cons_succ, List.length_cons, List.length_nil, Nat.zero_add, true_and, and_true, List.getD_nil, not_true, not_false_eq_true, Int.toNat_natCast, false_implies, true_implies, if_true, if_false, Int.toNat_zero, Int.toNat_one, true_or, or_true, Int.reduceEq, Int.reduceLT, Int.reduceLE, Int.reduceNe, Int.reduceNeg, Int.reduceAdd, Int.reduceSub, Int.reduceMul, Int.reduceToNat, Nat.reduceLT, Nat.reduceLeDiff, Nat.reduceAdd, Nat.reduceEqDiff, Nat.reduceSub, not_false_iff, and_self, implies_true, false_and, and_false, or_self, false_or, or_false, Int.cast_ofNat_Int, Int.natCast_nonneg, SM.f0 hM, SM.f1 hM, SM.f2 hM, SM.f3 hM, SM.f4 hM, SM.f5 hM, SM.f6 hM, SM.f7 hM, SM.f8 hM, SM.f9 hM, SM.f10 hM, SM.f11 hM, SM.f12 hM, SM.f13 hM, SM.f14 hM, SM.f15 hM, SM.f16 hM, SM.f17 hM, SM.f18 hM, SM.f19 hM, SM.f20 hM, SM.l20 hM, SM.a20 hM, SM.e20 hM, SM.f21 hM, SM.l21 hM, SM.a21 hM, SM.e21 hM, SM.f22 hM, SM.l22 hM, SM.a22 hM, SM.e22 hM, SM.f23 hM, SM.l23 hM, SM.a23 hM, SM.e23 hM, SM.f24 hM, SM.l24 hM, SM.a24 hM, SM.e24 hM, SM.f25 hM, SM.l25 hM, SM.a25 hM, SM.e25 hM, SM.f26 hM, SM.l26 hM, SM.a26 hM, SM.e26 hM, SM.f27 hM, SM.l27 hM, SM.a27 hM, SM.e27 hM, SM.f28 hM, SM.l28 hM, SM.a28 hM, SM.e28 hM, SM.f29 hM, SM.l29 hM, SM.a29 hM, SM.e29 hM, SM.f30 hM, SM.l30 hM, SM.a30 hM, SM.e30 hM, SM.f31 hM, SM.l31 hM, SM.a31 hM, SM.e31 hM, SM.f32 hM, SM.l32 hM, SM.a32 hM, SM.e32 hM, SM.f33 hM, SM.l33 hM, SM.a33 hM, SM.e33 hM, SM.f34 hM, SM.l34 hM, SM.a34 hM, SM.e34 hM, SM.f35 hM, SM.l35 hM, SM.a35 hM, SM.e35 hM, SM.f36 hM, SM.l36 hM, SM.a36 hM, SM.e36 hM, SM.f37 hM, SM.l37 hM, SM.a37 hM, SM.e37 hM, SM.f38 hM, SM.l38 hM, SM.a38 hM, SM.e38 hM]
      refine m_firstOther (v := (zH S s).2.2) hK2 hs4 hf (by rw [fr.2.1 18 (by omega) (by omega) (by unfold cWo; omega)]; exact p3) h40 (fun j hj => by rw [fr.2.1 19 (by omega) (by omega) (by unfold cWo; omega)]; exact p4 j hj) (fun σ3 s3 => ?_)
      have eq3 : sFO (fun h => sCost (tE (zX S)) (upd2 (zA S) so.toNat i (x : Int)) (zC S) f h) (zH S s).2.2 0 (zH S s).2.1 = q x := (hqk x).symm
      rw [eq3]
      have fr3 := fr.tr (FG.ofS s3).QW
      have w3 := (hK2.sp s3).2.1
      have h3' : ∀ b : Int, upd2 (upd2 (zA S) so.toNat i (x : Int)) so.toNat i b = upd2 (zA S) so.toNat i b := fun b => upd2_twice
      have hmx : sMany q (x + 1) = sMany q x + (if q x = -1 then 1 else 0) := rfl
      have hmm := sMany_mono (q := q) (x := x + 1) n (by omega)
      have hlD : lD q (n - x) x = if q x = -1 then (x : Int) else lD q (n - (x + 1)) (x + 1) := by
        rw [show n - x = n - (x + 1) + 1 by omega]; rfl
      have hbd := sBs_down (q := q) (x := x) n (by omega)
      have nx := fun (st' : Int) (e : st' = if so = 2 then 0 else (sBs q x n : Int)) => ih ((x : Int) - 1) σ3 _ st' (by omega) (by omega) rfl fr3 w3 h3' e
      simp only [x_push, x_iload, x_lload, x_aload, x_bin, x_div, x_un, x_lbin, x_ldiv, x_lcmp, x_i2l, x_l2i, x_dup, x_pop, x_dup2, x_c1, x_c2, x_null, x_cat1, x_istore, x_astore, x_lstore, x_iinc, x_nol, x_tsw, xsw, x_lsw, xlsw, x_ret, x_zret, x_lret, x_aret, x_vret, x_getI, x_getL, x_getR, x_putI, x_putZ, x_putL, x_iaload, x_zaload, x_aaload, x_iastore, x_zastore, x_alen, x_mm, x_acopy, xpush, xJ, xK, x_cV0, x_cV1, x_cV2, x_cV3, x_cV4, x_cV5, x_cV6, x_cV7, x_cV8, x_cS1, x_cS2, x_cS3, x_cS4, x_cS5, List.getD_cons_zero, List.getD_cons_succ, List.set_cons_zero, List.set_cons_succ, List.length_cons, List.length_nil, Nat.zero_add, true_and, and_true, List.getD_nil, not_true, not_false_eq_true, Int.toNat_natCast, false_implies, true_implies, if_true, if_false, Int.toNat_zero, Int.toNat_one, true_or, or_true, Int.reduceEq, Int.reduceLT, Int.reduceLE, Int.reduceNe, Int.reduceNeg, Int.reduceAdd, Int.reduceSub, Int.reduceMul, Int.reduceToNat, Nat.reduceLT, Nat.reduceLeDiff, Nat.reduceAdd, Nat.reduceEqDiff, Nat.reduceSub, not_false_iff, and_self, implies_true, false_and, and_false, or_self, false_or, or_false, Int.cast_ofNat_Int, Int.natCast_nonneg, (show oadd (x : Int) (-1) = (x : Int) - 1 by (first | rw [oadd_id (by omega) (by omega)] | rw [osub_id (by omega) (by omega)] | rw [omul_id (by omega) (by omega)]) <;> omega)]
      refine ⟨fun z => ?_, fun z => ?_⟩
      · rw [if_neg z] at hmx hlD hbd
        have hbd' : sBs q x n = sBs q (x + 1) n := hbd
        have key := nx st (by rw [hst, hbd'])
        rw [hlD, show sMany q n - sMany q x = sMany q n - sMany q (x + 1) by omega] at key
        exact key
      · have z := Classical.not_not.mp z
        rw [if_pos z] at hmx hlD
        have key := nx
        rw [hlD, show sMany q n - sMany q x = sMany q n - sMany q (x + 1) + 1 by omega] at key
        have ec : oadd ((sMany q n - sMany q (x + 1) : Nat) : Int) 1 = ((sMany q n - sMany q (x + 1) + 1 : Nat) : Int) := by rw [oadd_id (by omega) (by omega)]; omega
        simp only [ec]
        refine ⟨fun y => key _ ?_, fun y => key _ ?_⟩
        · rw [hst, if_neg y, if_neg y]
          exact sBs_or (by omega) (hn10 y) z
        · rw [hst, if_pos (Classical.not_not.mp y), if_pos (Classical.not_not.mp y)]
          exact oor_0 (x := 0) (by decide)
theorem tells_end {q : Nat → Int} {n : Nat} : lD q (n - 0) 0 = sLst q n := by
  have := lD_sLst (q := q) n 0
  rw [Nat.zero_add] at this
  rw [this]
  rfl
set_option maxHeartbeats 4000000 in
theorem m6_tells {sh f w : Int} (hR : MR Γ σ m S) (hQ : ∀ σ', Sm (RMd m) σ σ' → MR Γ σ' m S → Q (vi (a_tells S sh f w)) (Γ, σ')) : xRM M_X6_tells (d + 46) (0, 0) [vr m, vi sh, vi f, vi w] (Γ, σ) Q := by
  refine xRM_of (by decide) (Nat.le_of_ble_eq_true rfl) ?_
  have hK := hR.mk
  obtain ⟨hM, hW, hA, hT⟩ := id hK
  unfold a_tells at hQ
  have bad : ¬ ((0 ≤ sh ∧ sh < 4) ∧ (0 ≤ f ∧ f < zF S) ∧ 0 ≤ w ∧ w ≤ 6) → Q (vi (-2)) (Γ, σ) := fun z => by
    rw [if_neg z] at hQ
    exact hQ σ Sm.rf hR
  refine b_X6_tells_0 _ _ _ _ ?_
  show k_X6_tells_0 (d + 45) Q (0, 0) [vr m, vi sh, vi f, vi w, vu, vu, vu, vu, vu, vu, vu] [] (Γ, σ)
  dsimp only [k_X6_tells_0, x_push, x_iload, x_lload, x_aload, x_bin, x_div, x_un, x_lbin, x_ldiv, x_lcmp, x_i2l, x_l2i, x_dup, x_pop, x_dup2, x_c1, x_c2, x_null, x_cat1, x_istore, x_astore, x_lstore, x_iinc, x_nol, x_tsw, xsw, x_lsw, xlsw, x_ret, x_zret, x_lret, x_aret, x_vret, x_getI, x_getL, x_getR, x_putI, x_putZ, x_putL, x_iaload, x_zaload, x_aaload, x_iastore, x_zastore, x_alen, x_mm, x_acopy, xpush, xJ, xK, x_cV0, x_cV1, x_cV2, x_cV3, x_cV4, x_cV5, x_cV6, x_cV7, x_cV8, x_cS1, x_cS2, x_cS3, x_cS4, x_cS5, List.getD_cons_zero, List.getD_cons_succ, List.set_cons_zero, List.set_cons_succ]
  simp only [x_push, x_iload, x_lload, x_aload, x_bin, x_div, x_un, x_lbin, x_ldiv, x_lcmp, x_i2l, x_l2i, x_dup, x_pop, x_dup2, x_c1, x_c2, x_null, x_cat1, x_istore, x_astore, x_lstore, x_iinc, x_nol, x_tsw, xsw, x_lsw, xlsw, x_ret, x_zret, x_lret, x_aret, x_vret, x_getI, x_getL, x_getR, x_putI, x_putZ, x_putL, x_iaload, x_zaload, x_aaload, x_iastore, x_zastore, x_alen, x_mm, x_acopy, xpush, xJ, xK, x_cV0, x_cV1, x_cV2, x_cV3, x_cV4, x_cV5, x_cV6, x_cV7, x_cV8, x_cS1, x_cS2, x_cS3, x_cS4, x_cS5, List.getD_cons_zero, List.getD_cons_succ, List.set_cons_zero, List.set_cons_succ, List.length_cons, List.length_nil, Nat.zero_add, true_and, and_true, List.getD_nil, not_true, not_false_eq_true, Int.toNat_natCast, false_implies, true_implies, if_true, if_false, Int.toNat_zero, Int.toNat_one, true_or, or_true, Int.reduceEq, Int.reduceLT, Int.reduceLE, Int.reduceNe, Int.reduceNeg, Int.reduceAdd, Int.reduceSub, Int.reduceMul, Int.reduceToNat, Nat.reduceLT, Nat.reduceLeDiff, Nat.reduceAdd, Nat.reduceEqDiff, Nat.reduceSub, not_false_iff, and_self, implies_true, false_and, and_false, or_self, false_or, or_false, Int.cast_ofNat_Int, Int.natCast_nonneg]
  refine m_isSheet (fun a1 a2 => ?_) (fun y => ?_)
  · simp only [x_push, x_iload, x_lload, x_aload, x_bin, x_div, x_un, x_lbin, x_ldiv, x_lcmp, x_i2l, x_l2i, x_dup, x_pop, x_dup2, x_c1, x_c2, x_null, x_cat1, x_istore, x_astore, x_lstore, x_iinc, x_nol, x_tsw, xsw, x_lsw, xlsw, x_ret, x_zret, x_lret, x_aret, x_vret, x_getI, x_getL, x_getR, x_putI, x_putZ, x_putL, x_iaload, x_zaload, x_aaload, x_iastore, x_zastore, x_alen, x_mm, x_acopy, xpush, xJ, xK, x_cV0, x_cV1, x_cV2, x_cV3, x_cV4, x_cV5, x_cV6, x_cV7, x_cV8, x_cS1, x_cS2, x_cS3, x_cS4, x_cS5, List.getD_cons_zero, List.getD_cons_succ, List.set_cons_zero, List.set_cons_succ, List.length_cons, List.length_nil, Nat.zero_add, true_and, and_true, List.getD_nil, not_true, not_false_eq_true, Int.toNat_natCast, false_implies, true_implies, if_true, if_false, Int.toNat_zero, Int.toNat_one, true_or, or_true, Int.reduceEq, Int.reduceLT, Int.reduceLE, Int.reduceNe, Int.reduceNeg, Int.reduceAdd, Int.reduceSub, Int.reduceMul, Int.reduceToNat, Nat.reduceLT, Nat.reduceLeDiff, Nat.reduceAdd, Nat.reduceEqDiff, Nat.reduceSub, not_false_iff, and_self, implies_true, false_and, and_false, or_self, false_or, or_false, Int.cast_ofNat_Int, Int.natCast_nonneg, SM.f0 hM, SM.f1 hM, SM.f2 hM, SM.f3 hM, SM.f4 hM, SM.f5 hM, SM.f6 hM, SM.f7 hM, SM.f8 hM, SM.f9 hM, SM.f10 hM, SM.f11 hM, SM.f12 hM, SM.f13 hM, SM.f14 hM, SM.f15 hM, SM.f16 hM, SM.f17 hM, SM.f18 hM, SM.f19 hM, SM.f20 hM, SM.l20 hM, SM.a20 hM, SM.e20 hM, SM.f21 hM, SM.l21 hM, SM.a21 hM, SM.e21 hM, SM.f22 hM, SM.l22 hM, SM.a22 hM, SM.e22 hM, SM.f23 hM, SM.l23 hM, SM.a23 hM, SM.e23 hM, SM.f24 hM, SM.l24 hM, SM.a24 hM, SM.e24 hM, SM.f25 hM, SM.l25 hM, SM.a25 hM, SM.e25 hM, SM.f26 hM, SM.l26 hM, SM.a26 hM, SM.e26 hM, SM.f27 hM, SM.l27 hM, SM.a27 hM, SM.e27 hM, SM.f28 hM, SM.l28 hM, SM.a28 hM, SM.e28 hM, SM.f29 hM, SM.l29 hM, SM.a29 hM, SM.e29 hM, SM.f30 hM, SM.l30 hM, SM.a30 hM, SM.e30 hM, SM.f31 hM, SM.l31 hM, SM.a31 hM, SM.e31 hM, SM.f32 hM, SM.l32 hM, SM.a32 hM, SM.e32 hM, SM.f33 hM, SM.l33 hM, SM.a33 hM, SM.e33 hM, SM.f34 hM, SM.l34 hM, SM.a34 hM, SM.e34 hM, SM.f35 hM, SM.l35 hM, SM.a35 hM, SM.e35 hM, SM.f36 hM, SM.l36 hM, SM.a36 hM, SM.e36 hM, SM.f37 hM, SM.l37 hM, SM.a37 hM, SM.e37 hM, SM.f38 hM, SM.l38 hM, SM.a38 hM, SM.e38 hM]
    refine m_isFigure hM hW.1 hA.1 (fun b1 b2 => ?_) (fun y => ?_)
    · simp only [x_push, x_iload, x_lload, x_aload, x_bin, x_div, x_un, x_lbin, x_ldiv, x_lcmp, x_i2l, x_l2i, x_dup, x_pop, x_dup2, x_c1, x_c2, x_null, x_cat1, x_istore, x_astore, x_lstore, x_iinc, x_nol, x_tsw, xsw, x_lsw, xlsw, x_ret, x_zret, x_lret, x_aret, x_vret, x_getI, x_getL, x_getR, x_putI, x_putZ, x_putL, x_iaload, x_zaload, x_aaload, x_iastore, x_zastore, x_alen, x_mm, x_acopy, xpush, xJ, xK, x_cV0, x_cV1, x_cV2, x_cV3, x_cV4, x_cV5, x_cV6, x_cV7, x_cV8, x_cS1, x_cS2, x_cS3, x_cS4, x_cS5, List.getD_cons_zero, List.getD_cons_succ, List.set_cons_zero, List.set_cons_succ, List.length_cons, List.length_nil, Nat.zero_add, true_and, and_true, List.getD_nil, not_true, not_false_eq_true, Int.toNat_natCast, false_implies, true_implies, if_true, if_false, Int.toNat_zero, Int.toNat_one, true_or, or_true, Int.reduceEq, Int.reduceLT, Int.reduceLE, Int.reduceNe, Int.reduceNeg, Int.reduceAdd, Int.reduceSub, Int.reduceMul, Int.reduceToNat, Nat.reduceLT, Nat.reduceLeDiff, Nat.reduceAdd, Nat.reduceEqDiff, Nat.reduceSub, not_false_iff, and_self, implies_true, false_and, and_false, or_self, false_or, or_false, Int.cast_ofNat_Int, Int.natCast_nonneg, SM.f0 hM, SM.f1 hM, SM.f2 hM, SM.f3 hM, SM.f4 hM, SM.f5 hM, SM.f6 hM, SM.f7 hM, SM.f8 hM, SM.f9 hM, SM.f10 hM, SM.f11 hM, SM.f12 hM, SM.f13 hM, SM.f14 hM, SM.f15 hM, SM.f16 hM, SM.f17 hM, SM.f18 hM, SM.f19 hM, SM.f20 hM, SM.l20 hM, SM.a20 hM, SM.e20 hM, SM.f21 hM, SM.l21 hM, SM.a21 hM, SM.e21 hM, SM.f22 hM, SM.l22 hM, SM.a22 hM, SM.e22 hM, SM.f23 hM, SM.l23 hM, SM.a23 hM, SM.e23 hM, SM.f24 hM, SM.l24 hM, SM.a24 hM, SM.e24 hM, SM.f25 hM, SM.l25 hM, SM.a25 hM, SM.e25 hM, SM.f26 hM, SM.l26 hM, SM.a26 hM, SM.e26 hM, SM.f27 hM, SM.l27 hM, SM.a27 hM, SM.e27 hM, SM.f28 hM, SM.l28 hM, SM.a28 hM, SM.e28 hM, SM.f29 hM, SM.l29 hM, SM.a29 hM, SM.e29 hM, SM.f30 hM, SM.l30 hM, SM.a30 hM, SM.e30 hM, SM.f31 hM, SM.l31 hM, SM.a31 hM, SM.e31 hM, SM.f32 hM, SM.l32 hM, SM.a32 hM, SM.e32 hM, SM.f33 hM, SM.l33 hM, SM.a33 hM, SM.e33 hM, SM.f34 hM, SM.l34 hM, SM.a34 hM, SM.e34 hM, SM.f35 hM, SM.l35 hM, SM.a35 hM, SM.e35 hM, SM.f36 hM, SM.l36 hM, SM.a36 hM, SM.e36 hM, SM.f37 hM, SM.l37 hM, SM.a37 hM, SM.e37 hM, SM.f38 hM, SM.l38 hM, SM.a38 hM, SM.e38 hM]
      refine m_in (fun c1 c2 => ?_) (fun y => ?_)
      · obtain ⟨s, rfl⟩ : ∃ k : Nat, sh = k := ⟨sh.toNat, by omega⟩
        obtain ⟨F, rfl⟩ : ∃ k : Nat, f = k := ⟨f.toNat, by omega⟩
        have hs4 : s < 4 := by omega
        have hF : F < zF S := by omega
        have ok : (0 ≤ (s : Int) ∧ (s : Int) < 4) ∧ (0 ≤ (F : Int) ∧ (F : Int) < zF S) ∧ 0 ≤ w ∧ w ≤ 6 := by omega
        rw [if_pos ok] at hQ
        simp only [Int.toNat_natCast] at hQ
        by_cases z : (zH S s).1 = -1
        · rw [if_pos z] at hQ
          simp only [x_push, x_iload, x_lload, x_aload, x_bin, x_div, x_un, x_lbin, x_ldiv, x_lcmp, x_i2l, x_l2i, x_dup, x_pop, x_dup2, x_c1, x_c2, x_null, x_cat1, x_istore, x_astore, x_lstore, x_iinc, x_nol, x_tsw, xsw, x_lsw, xlsw, x_ret, x_zret, x_lret, x_aret, x_vret, x_getI, x_getL, x_getR, x_putI, x_putZ, x_putL, x_iaload, x_zaload, x_aaload, x_iastore, x_zastore, x_alen, x_mm, x_acopy, xpush, xJ, xK, x_cV0, x_cV1, x_cV2, x_cV3, x_cV4, x_cV5, x_cV6, x_cV7, x_cV8, x_cS1, x_cS2, x_cS3, x_cS4, x_cS5, List.getD_cons_zero, List.getD_cons_succ, List.set_cons_zero, List.set_cons_succ, List.length_cons, List.length_nil, Nat.zero_add, true_and, and_true, List.getD_nil, not_true, not_false_eq_true, Int.toNat_natCast, false_implies, true_implies, if_true, if_false, Int.toNat_zero, Int.toNat_one, true_or, or_true, Int.reduceEq, Int.reduceLT, Int.reduceLE, Int.reduceNe, Int.reduceNeg, Int.reduceAdd, Int.reduceSub, Int.reduceMul, Int.reduceToNat, Nat.reduceLT, Nat.reduceLeDiff, Nat.reduceAdd, Nat.reduceEqDiff, Nat.reduceSub, not_false_iff, and_self, implies_true, false_and, and_false, or_self, false_or, or_false, Int.cast_ofNat_Int, Int.natCast_nonneg, SM.f0 hM, SM.f1 hM, SM.f2 hM, SM.f3 hM, SM.f4 hM, SM.f5 hM, SM.f6 hM, SM.f7 hM, SM.f8 hM, SM.f9 hM, SM.f10 hM, SM.f11 hM, SM.f12 hM, SM.f13 hM, SM.f14 hM, SM.f15 hM, SM.f16 hM, SM.f17 hM, SM.f18 hM, SM.f19 hM, SM.f20 hM, SM.l20 hM, SM.a20 hM, SM.e20 hM, SM.f21 hM, SM.l21 hM, SM.a21 hM, SM.e21 hM, SM.f22 hM, SM.l22 hM, SM.a22 hM, SM.e22 hM, SM.f23 hM, SM.l23 hM, SM.a23 hM, SM.e23 hM, SM.f24 hM, SM.l24 hM, SM.a24 hM, SM.e24 hM, SM.f25 hM, SM.l25 hM, SM.a25 hM, SM.e25 hM, SM.f26 hM, SM.l26 hM, SM.a26 hM, SM.e26 hM, SM.f27 hM, SM.l27 hM, SM.a27 hM, SM.e27 hM, SM.f28 hM, SM.l28 hM, SM.a28 hM, SM.e28 hM, SM.f29 hM, SM.l29 hM, SM.a29 hM, SM.e29 hM, SM.f30 hM, SM.l30 hM, SM.a30 hM, SM.e30 hM, SM.f31 hM, SM.l31 hM, SM.a31 hM, SM.e31 hM, SM.f32 hM, SM.l32 hM, SM.a32 hM, SM.e32 hM, SM.f33 hM, SM.l33 hM, SM.a33 hM, SM.e33 hM, SM.f34 hM, SM.l34 hM, SM.a34 hM, SM.e34 hM, SM.f35 hM, SM.l35 hM, SM.a35 hM, SM.e35 hM, SM.f36 hM, SM.l36 hM, SM.a36 hM, SM.e36 hM, SM.f37 hM, SM.l37 hM, SM.a37 hM, SM.e37 hM, SM.f38 hM, SM.l38 hM, SM.a38 hM, SM.e38 hM, eq_true (show (s : Int) < 4 by omega), (hR.2.1.2.2.2.2 s hs4).1 z]
          exact hQ σ Sm.rf hR
        · obtain ⟨p1, p2, p3, p4⟩ := (hR.2.1.2.2.2.2 s hs4).2 z
          have h40 := (hR.2.2.2.2.2.2.2.2 s hs4).2
          rw [if_neg z] at hQ
          simp only [x_push, x_iload, x_lload, x_aload, x_bin, x_div, x_un, x_lbin, x_ldiv, x_lcmp, x_i2l, x_l2i, x_dup, x_pop, x_dup2, x_c1, x_c2, x_null, x_cat1, x_istore, x_astore, x_lstore, x_iinc, x_nol, x_tsw, xsw, x_lsw, xlsw, x_ret, x_zret, x_lret, x_aret, x_vret, x_getI, x_getL, x_getR, x_putI, x_putZ, x_putL, x_iaload, x_zaload, x_aaload, x_iastore, x_zastore, x_alen, x_mm, x_acopy, xpush, xJ, xK, x_cV0, x_cV1, x_cV2, x_cV3, x_cV4, x_cV5, x_cV6, x_cV7, x_cV8, x_cS1, x_cS2, x_cS3, x_cS4, x_cS5, List.getD_cons_zero, List.getD_cons_succ, List.set_cons_zero, List.set_cons_succ, List.length_cons, List.length_nil, Nat.zero_add, true_and, and_true, List.getD_nil, not_true, not_false_eq_true, Int.toNat_natCast, false_implies, true_implies, if_true, if_false, Int.toNat_zero, Int.toNat_one, true_or, or_true, Int.reduceEq, Int.reduceLT, Int.reduceLE, Int.reduceNe, Int.reduceNeg, Int.reduceAdd, Int.reduceSub, Int.reduceMul, Int.reduceToNat, Nat.reduceLT, Nat.reduceLeDiff, Nat.reduceAdd, Nat.reduceEqDiff, Nat.reduceSub, not_false_iff, and_self, implies_true, false_and, and_false, or_self, false_or, or_false, Int.cast_ofNat_Int, Int.natCast_nonneg, SM.f0 hM, SM.f1 hM, SM.f2 hM, SM.f3 hM, SM.f4 hM, SM.f5 hM, SM.f6 hM, SM.f7 hM, SM.f8 hM, SM.f9 hM, SM.f10 hM, SM.f11 hM, SM.f12 hM, SM.f13 hM, SM.f14 hM, SM.f15 hM, SM.f16 hM, SM.f17 hM, SM.f18 hM, SM.f19 hM, SM.f20 hM, SM.l20 hM, SM.a20 hM, SM.e20 hM, SM.f21 hM, SM.l21 hM, SM.a21 hM, SM.e21 hM, SM.f22 hM, SM.l22 hM, SM.a22 hM, SM.e22 hM, SM.f23 hM, SM.l23 hM, SM.a23 hM, SM.e23 hM, SM.f24 hM, SM.l24 hM, SM.a24 hM, SM.e24 hM, SM.f25 hM, SM.l25 hM, SM.a25 hM, SM.e25 hM, SM.f26 hM, SM.l26 hM, SM.a26 hM, SM.e26 hM, SM.f27 hM, SM.l27 hM, SM.a27 hM, SM.e27 hM, SM.f28 hM, SM.l28 hM, SM.a28 hM, SM.e28 hM, SM.f29 hM, SM.l29 hM, SM.a29 hM, SM.e29 hM, SM.f30 hM, SM.l30 hM, SM.a30 hM, SM.e30 hM, SM.f31 hM, SM.l31 hM, SM.a31 hM, SM.e31 hM, SM.f32 hM, SM.l32 hM, SM.a32 hM, SM.e32 hM, SM.f33 hM, SM.l33 hM, SM.a33 hM, SM.e33 hM, SM.f34 hM, SM.l34 hM, SM.a34 hM, SM.e34 hM, SM.f35 hM, SM.l35 hM, SM.a35 hM, SM.e35 hM, SM.f36 hM, SM.l36 hM, SM.a36 hM, SM.e36 hM, SM.f37 hM, SM.l37 hM, SM.a37 hM, SM.e37 hM, SM.f38 hM, SM.l38 hM, SM.a38 hM, SM.e38 hM, eq_true (show (s : Int) < 4 by omega), p1, p3]
          refine ⟨fun q => ?_, fun q => ?_⟩
          · rw [if_neg (by omega)] at hQ
            obtain ⟨⟨n0, n9⟩, ⟨e0, e9⟩, -, k0, k5⟩ := hA.2.2.2.2.1 F hF
            have s163 : ∀ (so was last : Int) (i lo n : Nat), ((sHas (zF S) (zC S) so (F : Int) ∧ i = sIx so (F : Int)) ∨ (so = 7 ∧ i = 0)) → 0 ≤ so → (lo = if so = 0 then 1 else 0) → lo ≤ n → n ≤ 1000 → (¬ so = 2 → n ≤ 10) → (∀ k : Nat, lo ≤ k → k < n → AI (zF S) (zC S) (zT S) (upd2 (zA S) so.toNat i (k : Int))) → was = zA S so.toNat i → last = (n : Int) - 1 → g_tells S s F w = (if w = 5 then ((sMany (fun k => sTl S s F (upd2 (zA S) so.toNat i k)) n - sMany (fun k => sTl S s F (upd2 (zA S) so.toNat i k)) lo : Nat) : Int) else if w = 6 then lD (fun k => sTl S s F (upd2 (zA S) so.toNat i k)) (n - lo) lo else if so = 2 then 0 else (sBs (fun k => sTl S s F (upd2 (zA S) so.toNat i k)) lo n : Int)) → ∀ σ1, FG cQ jQ m σ σ1 → xR M_X6_tells (d + 46) (0, 0) 163 [vr m, vi (s : Int), vi (F : Int), vi w, vi so, vi was, vu, vu, vu, vu, vu] [vi last] (Γ, σ1) Q := by
              intro so was last i lo n h1 h2 h3 h4 h5 h6 h7 h8 h9 h10 σ1 s1
              have hR1 := hR.fq s1
              rw [h10] at hQ
              have key := m_tellsL (d := d) (s := s) (f := F) (i := i) (lo := lo) (n := n) (w := w) (so := so) (was := was) (last := last) hR1 hs4 hF z h1 h2 h3 h4 h5 h6 h7 h8 (fun σ' a b => hQ σ' (s1.sm.tr a) b) n last σ1 (zA S) _ h4 (Nat.le_refl _) h9 FG.rf hR1.2.1.1 (fun _ => rfl) rfl
              have e0 : ∀ q : Nat → Int, sBs q n n = 0 := fun q => sBs_lo q n
              rw [e0, Nat.sub_self, Nat.sub_self] at key
              have e1 : (if so = 2 then (0 : Int) else ((0 : Nat) : Int)) = 0 := by split <;> rfl
              rw [e1] at key
              refine b_X6_tells_163 _ _ _ _ ?_
              simp only [k_X6_tells_163, x_push, x_iload, x_lload, x_aload, x_bin, x_div, x_un, x_lbin, x_ldiv, x_lcmp, x_i2l, x_l2i, x_dup, x_pop, x_dup2, x_c1, x_c2, x_null, x_cat1, x_istore, x_astore, x_lstore, x_iinc, x_nol, x_tsw, xsw, x_lsw, xlsw, x_ret, x_zret, x_lret, x_aret, x_vret, x_getI, x_getL, x_getR, x_putI, x_putZ, x_putL, x_iaload, x_zaload, x_aaload, x_iastore, x_zastore, x_alen, x_mm, x_acopy, xpush, xJ, xK, x_cV0, x_cV1, x_cV2, x_cV3, x_cV4, x_cV5, x_cV6, x_cV7, x_cV8, x_cS1, x_cS2, x_cS3, x_cS4, x_cS5, List.getD_cons_zero, List.getD_cons_succ, List.set_cons_zero, List.set_cons_succ, List.length_cons, List.length_nil, Nat.zero_add, true_and, and_true, List.getD_nil, not_true, not_false_eq_true, Int.toNat_natCast, false_implies, true_implies, if_true, if_false, Int.toNat_zero, Int.toNat_one, true_or, or_true, Int.reduceEq, Int.reduceLT, Int.reduceLE, Int.reduceNe, Int.reduceNeg, Int.reduceAdd, Int.reduceSub, Int.reduceMul, Int.reduceToNat, Nat.reduceLT, Nat.reduceLeDiff, Nat.reduceAdd, Nat.reduceEqDiff, Nat.reduceSub, not_false_iff, and_self, implies_true, false_and, and_false, or_self, false_or, or_false, Int.cast_ofNat_Int, Int.natCast_nonneg]
              exact key
            have hT6 := hT.2.1
            have hT1 := hR.2.2.2.1.1
            have s106 : ∀ (so : Int) (i lo n : Nat) (lst : Int), ((sHas (zF S) (zC S) so (F : Int) ∧ i = sIx so (F : Int) ∧ so ≤ 6) ∨ (so = 7 ∧ i = 0)) → 0 ≤ so → (lo = if so = 0 then 1 else 0) → lo ≤ n → n ≤ 1000 → (¬ so = 2 → n ≤ 10) → (∀ k : Nat, lo ≤ k → k < n → AI (zF S) (zC S) (zT S) (upd2 (zA S) so.toNat i (k : Int))) → (so = 7 → n = zT S) → (so = 6 → n = 6) → (¬ so = 7 → ¬ so = 6 → (n : Int) - 1 = sMost so) → g_tells S s F w = (if w = 5 then ((sMany (fun k => sTl S s F (upd2 (zA S) so.toNat i k)) n - sMany (fun k => sTl S s F (upd2 (zA S) so.toNat i k)) lo : Nat) : Int) else if w = 6 then lD (fun k => sTl S s F (upd2 (zA S) so.toNat i k)) (n - lo) lo else if so = 2 then 0 else (sBs (fun k => sTl S s F (upd2 (zA S) so.toNat i k)) lo n : Int)) → xR M_X6_tells (d + 46) (0, 0) 106 [vr m, vi (s : Int), vi (F : Int), vi w, vu, vu, vu, vu, vu, vu, vu] [vi so] (Γ, σ) Q := by
              intro so i lo n lst h1 h2 h3 h4 h5 h6 h7 h8 h9 h9' h10
              have h1' : (sHas (zF S) (zC S) so (F : Int) ∧ i = sIx so (F : Int)) ∨ (so = 7 ∧ i = 0) := h1.elim (fun y => Or.inl ⟨y.1, y.2.1⟩) Or.inr
              have s129 : ∀ (was : Int) (σ1 : Nat → Nat → Int), FG cQ jQ m σ σ1 → was = zA S so.toNat i → xR M_X6_tells (d + 46) (0, 0) 129 [vr m, vi (s : Int), vi (F : Int), vi w, vi so, vu, vu, vu, vu, vu, vu] [vi was] (Γ, σ1) Q := by
                intro was σ1 s1 hw
                have e3 : σ1 m 3 = (zT S : Int) := by rw [s1.2.2 3 (by unfold jQ; omega)]; exact hT.1
                have fin := fun (l : Int) (hl : l = (n : Int) - 1) => s163 so was l i lo n h1' h2 h3 h4 h5 h6 h7 hw hl h10 σ1 s1
                refine b_X6_tells_129 _ _ _ _ ?_
                simp only [k_X6_tells_129, x_push, x_iload, x_lload, x_aload, x_bin, x_div, x_un, x_lbin, x_ldiv, x_lcmp, x_i2l, x_l2i, x_dup, x_pop, x_dup2, x_c1, x_c2, x_null, x_cat1, x_istore, x_astore, x_lstore, x_iinc, x_nol, x_tsw, xsw, x_lsw, xlsw, x_ret, x_zret, x_lret, x_aret, x_vret, x_getI, x_getL, x_getR, x_putI, x_putZ, x_putL, x_iaload, x_zaload, x_aaload, x_iastore, x_zastore, x_alen, x_mm, x_acopy, xpush, xJ, xK, x_cV0, x_cV1, x_cV2, x_cV3, x_cV4, x_cV5, x_cV6, x_cV7, x_cV8, x_cS1, x_cS2, x_cS3, x_cS4, x_cS5, List.getD_cons_zero, List.getD_cons_succ, List.set_cons_zero, List.set_cons_succ, List.length_cons, List.length_nil, Nat.zero_add, true_and, and_true, List.getD_nil, not_true, not_false_eq_true, Int.toNat_natCast, false_implies, true_implies, if_true, if_false, Int.toNat_zero, Int.toNat_one, true_or, or_true, Int.reduceEq, Int.reduceLT, Int.reduceLE, Int.reduceNe, Int.reduceNeg, Int.reduceAdd, Int.reduceSub, Int.reduceMul, Int.reduceToNat, Nat.reduceLT, Nat.reduceLeDiff, Nat.reduceAdd, Nat.reduceEqDiff, Nat.reduceSub, not_false_iff, and_self, implies_true, false_and, and_false, or_self, false_or, or_false, Int.cast_ofNat_Int, Int.natCast_nonneg, SM.f0 hM, SM.f1 hM, SM.f2 hM, SM.f3 hM, SM.f4 hM, SM.f5 hM, SM.f6 hM, SM.f7 hM, SM.f8 hM, SM.f9 hM, SM.f10 hM, SM.f11 hM, SM.f12 hM, SM.f13 hM, SM.f14 hM, SM.f15 hM, SM.f16 hM, SM.f17 hM, SM.f18 hM, SM.f19 hM, SM.f20 hM, SM.l20 hM, SM.a20 hM, SM.e20 hM, SM.f21 hM, SM.l21 hM, SM.a21 hM, SM.e21 hM, SM.f22 hM, SM.l22 hM, SM.a22 hM, SM.e22 hM, SM.f23 hM, SM.l23 hM, SM.a23 hM, SM.e23 hM, SM.f24 hM, SM.l24 hM, SM.a24 hM, SM.e24 hM, SM.f25 hM, SM.l25 hM, SM.a25 hM, SM.e25 hM, SM.f26 hM, SM.l26 hM, SM.a26 hM, SM.e26 hM, SM.f27 hM, SM.l27 hM, SM.a27 hM, SM.e27 hM, SM.f28 hM, SM.l28 hM, SM.a28 hM, SM.e28 hM, SM.f29 hM, SM.l29 hM, SM.a29 hM, SM.e29 hM, SM.f30 hM, SM.l30 hM, SM.a30 hM, SM.e30 hM, SM.f31 hM, SM.l31 hM, SM.a31 hM, SM.e31 hM, SM.f32 hM, SM.l32 hM, SM.a32 hM, SM.e32 hM, SM.f33 hM, SM.l33 hM, SM.a33 hM, SM.e33 hM, SM.f34 hM, SM.l34 hM, SM.a34 hM, SM.e34 hM, SM.f35 hM, SM.l35 hM, SM.a35 hM, SM.e35 hM, SM.f36 hM, SM.l36 hM, SM.a36 hM, SM.e36 hM, SM.f37 hM, SM.l37 hM, SM.a37 hM, SM.e37 hM, SM.f38 hM, SM.l38 hM, SM.a38 hM, SM.e38 hM, e3, (show osub (zT S : Int) 1 = (zT S : Int) - 1 by (first | rw [oadd_id (by omega) (by omega)] | rw [osub_id (by omega) (by omega)] | rw [omul_id (by omega) (by omega)]) <;> omega)]
                refine ⟨fun y => ⟨fun y2 => ?_, fun y2 => ?_⟩, fun y => ?_⟩
                · refine m_mostOf ?_
                  simp only [x_push, x_iload, x_lload, x_aload, x_bin, x_div, x_un, x_lbin, x_ldiv, x_lcmp, x_i2l, x_l2i, x_dup, x_pop, x_dup2, x_c1, x_c2, x_null, x_cat1, x_istore, x_astore, x_lstore, x_iinc, x_nol, x_tsw, xsw, x_lsw, xlsw, x_ret, x_zret, x_lret, x_aret, x_vret, x_getI, x_getL, x_getR, x_putI, x_putZ, x_putL, x_iaload, x_zaload, x_aaload, x_iastore, x_zastore, x_alen, x_mm, x_acopy, xpush, xJ, xK, x_cV0, x_cV1, x_cV2, x_cV3, x_cV4, x_cV5, x_cV6, x_cV7, x_cV8, x_cS1, x_cS2, x_cS3, x_cS4, x_cS5, List.getD_cons_zero, List.getD_cons_succ, List.set_cons_zero, List.set_cons_succ, List.length_cons, List.length_nil, Nat.zero_add, true_and, and_true, List.getD_nil, not_true, not_false_eq_true, Int.toNat_natCast, false_implies, true_implies, if_true, if_false, Int.toNat_zero, Int.toNat_one, true_or, or_true, Int.reduceEq, Int.reduceLT, Int.reduceLE, Int.reduceNe, Int.reduceNeg, Int.reduceAdd, Int.reduceSub, Int.reduceMul, Int.reduceToNat, Nat.reduceLT, Nat.reduceLeDiff, Nat.reduceAdd, Nat.reduceEqDiff, Nat.reduceSub, not_false_iff, and_self, implies_true, false_and, and_false, or_self, false_or, or_false, Int.cast_ofNat_Int, Int.natCast_nonneg]
                  exact fin _ (h9' y y2).symm
                · exact fin _ (by rw [h9 (Classical.not_not.mp y2)]; rfl)
                · exact fin _ (by rw [h8 (Classical.not_not.mp y)])
              refine b_X6_tells_106 _ _ _ _ ?_
              simp only [k_X6_tells_106, x_push, x_iload, x_lload, x_aload, x_bin, x_div, x_un, x_lbin, x_ldiv, x_lcmp, x_i2l, x_l2i, x_dup, x_pop, x_dup2, x_c1, x_c2, x_null, x_cat1, x_istore, x_astore, x_lstore, x_iinc, x_nol, x_tsw, xsw, x_lsw, xlsw, x_ret, x_zret, x_lret, x_aret, x_vret, x_getI, x_getL, x_getR, x_putI, x_putZ, x_putL, x_iaload, x_zaload, x_aaload, x_iastore, x_zastore, x_alen, x_mm, x_acopy, xpush, xJ, xK, x_cV0, x_cV1, x_cV2, x_cV3, x_cV4, x_cV5, x_cV6, x_cV7, x_cV8, x_cS1, x_cS2, x_cS3, x_cS4, x_cS5, List.getD_cons_zero, List.getD_cons_succ, List.set_cons_zero, List.set_cons_succ, List.length_cons, List.length_nil, Nat.zero_add, true_and, and_true, List.getD_nil, not_true, not_false_eq_true, Int.toNat_natCast, false_implies, true_implies, if_true, if_false, Int.toNat_zero, Int.toNat_one, true_or, or_true, Int.reduceEq, Int.reduceLT, Int.reduceLE, Int.reduceNe, Int.reduceNeg, Int.reduceAdd, Int.reduceSub, Int.reduceMul, Int.reduceToNat, Nat.reduceLT, Nat.reduceLeDiff, Nat.reduceAdd, Nat.reduceEqDiff, Nat.reduceSub, not_false_iff, and_self, implies_true, false_and, and_false, or_self, false_or, or_false, Int.cast_ofNat_Int, Int.natCast_nonneg, SM.f0 hM, SM.f1 hM, SM.f2 hM, SM.f3 hM, SM.f4 hM, SM.f5 hM, SM.f6 hM, SM.f7 hM, SM.f8 hM, SM.f9 hM, SM.f10 hM, SM.f11 hM, SM.f12 hM, SM.f13 hM, SM.f14 hM, SM.f15 hM, SM.f16 hM, SM.f17 hM, SM.f18 hM, SM.f19 hM, SM.f20 hM, SM.l20 hM, SM.a20 hM, SM.e20 hM, SM.f21 hM, SM.l21 hM, SM.a21 hM, SM.e21 hM, SM.f22 hM, SM.l22 hM, SM.a22 hM, SM.e22 hM, SM.f23 hM, SM.l23 hM, SM.a23 hM, SM.e23 hM, SM.f24 hM, SM.l24 hM, SM.a24 hM, SM.e24 hM, SM.f25 hM, SM.l25 hM, SM.a25 hM, SM.e25 hM, SM.f26 hM, SM.l26 hM, SM.a26 hM, SM.e26 hM, SM.f27 hM, SM.l27 hM, SM.a27 hM, SM.e27 hM, SM.f28 hM, SM.l28 hM, SM.a28 hM, SM.e28 hM, SM.f29 hM, SM.l29 hM, SM.a29 hM, SM.e29 hM, SM.f30 hM, SM.l30 hM, SM.a30 hM, SM.e30 hM, SM.f31 hM, SM.l31 hM, SM.a31 hM, SM.e31 hM, SM.f32 hM, SM.l32 hM, SM.a32 hM, SM.e32 hM, SM.f33 hM, SM.l33 hM, SM.a33 hM, SM.e33 hM, SM.f34 hM, SM.l34 hM, SM.a34 hM, SM.e34 hM, SM.f35 hM, SM.l35 hM, SM.a35 hM, SM.e35 hM, SM.f36 hM, SM.l36 hM, SM.a36 hM, SM.e36 hM, SM.f37 hM, SM.l37 hM, SM.a37 hM, SM.e37 hM, SM.f38 hM, SM.l38 hM, SM.a38 hM, SM.e38 hM, hW.2.2.1]
              refine ⟨fun y => ?_, fun y => ?_⟩
              · rcases h1 with ⟨y1, y2, y3⟩ | y1
                · refine m6_told hR (fun σ1 s1 => ?_)
                  rw [told_has ⟨h2, y3⟩ y1]
                  simp only [x_push, x_iload, x_lload, x_aload, x_bin, x_div, x_un, x_lbin, x_ldiv, x_lcmp, x_i2l, x_l2i, x_dup, x_pop, x_dup2, x_c1, x_c2, x_null, x_cat1, x_istore, x_astore, x_lstore, x_iinc, x_nol, x_tsw, xsw, x_lsw, xlsw, x_ret, x_zret, x_lret, x_aret, x_vret, x_getI, x_getL, x_getR, x_putI, x_putZ, x_putL, x_iaload, x_zaload, x_aaload, x_iastore, x_zastore, x_alen, x_mm, x_acopy, xpush, xJ, xK, x_cV0, x_cV1, x_cV2, x_cV3, x_cV4, x_cV5, x_cV6, x_cV7, x_cV8, x_cS1, x_cS2, x_cS3, x_cS4, x_cS5, List.getD_cons_zero, List.getD_cons_succ, List.set_cons_zero, List.set_cons_succ, List.length_cons, List.length_nil, Nat.zero_add, true_and, and_true, List.getD_nil, not_true, not_false_eq_true, Int.toNat_natCast, false_implies, true_implies, if_true, if_false, Int.toNat_zero, Int.toNat_one, true_or, or_true, Int.reduceEq, Int.reduceLT, Int.reduceLE, Int.reduceNe, Int.reduceNeg, Int.reduceAdd, Int.reduceSub, Int.reduceMul, Int.reduceToNat, Nat.reduceLT, Nat.reduceLeDiff, Nat.reduceAdd, Nat.reduceEqDiff, Nat.reduceSub, not_false_iff, and_self, implies_true, false_and, and_false, or_self, false_or, or_false, Int.cast_ofNat_Int, Int.natCast_nonneg]
                  exact s129 _ σ1 s1 (by rw [y2])
                · exact absurd y1.1 y
              · have y := Classical.not_not.mp y
                have hi0 : i = 0 := by
                  rcases h1 with ⟨-, -, y3⟩ | y1
                  · omega
                  · exact y1.2
                exact s129 _ σ FG.rf (by rw [y, hi0]; rfl)
            refine ⟨fun q0 => ⟨fun q1 => ⟨fun q2 => ⟨fun q3 => ⟨fun q4 => ?_, fun q4 => ?_⟩, fun q3 => ?_⟩, fun q2 => ?_⟩, fun q1 => ?_⟩, fun q0 => ?_⟩
            · refine s106 2 F 0 1000 0 (Or.inl ⟨Or.inr (Or.inl ⟨by omega, by omega, by omega⟩), by simp [sIx], by omega⟩) (by omega) (by decide) (by omega) (by omega) (fun y => absurd rfl y) (fun k _ hk => hA.mean (by omega) (by omega)) (fun y => by omega) (fun y => by omega) (fun _ _ => by decide) ?_
              unfold g_tells
              rw [if_neg (by omega), if_neg (by omega), if_neg (by omega), if_neg (by omega), if_neg (by omega), tells_end]
              by_cases y : w = 5
              · rw [if_pos y, if_pos y]; rfl
              · rw [if_neg y, if_neg y, if_pos (by omega)]; rfl
            · refine s106 7 0 0 (zT S) 0 (Or.inr ⟨rfl, rfl⟩) (by omega) (by decide) (by omega) (by omega) (fun _ => by omega) (fun k _ hk => hA.rule (by omega) (by omega)) (fun _ => rfl) (fun y => by omega) (fun y => absurd rfl y) ?_
              unfold g_tells
              rw [if_neg (by omega), if_neg (by omega), if_neg (by omega), if_neg (by omega), if_pos (by omega), if_neg (by omega), if_neg (by omega), if_neg (by decide)]
              rfl
            · refine s106 0 0 1 10 0 (Or.inl ⟨Or.inl rfl, rfl, by omega⟩) (by omega) (by decide) (by omega) (by omega) (fun _ => by omega) (fun k hk1 hk => hA.rate (by omega) (by omega)) (fun y => by omega) (fun y => by omega) (fun _ _ => by decide) ?_
              unfold g_tells
              rw [if_neg (by omega), if_neg (by omega), if_neg (by omega), if_pos (by omega), if_neg (by omega), if_neg (by omega), if_neg (by decide)]
              rfl
            · refine s106 1 F 0 10 0 (Or.inl ⟨Or.inr (Or.inl ⟨by omega, by omega, by omega⟩), by simp [sIx], by omega⟩) (by omega) (by decide) (by omega) (by omega) (fun _ => by omega) (fun k _ hk => hA.numb (by omega) (by omega)) (fun y => by omega) (fun y => by omega) (fun _ _ => by decide) ?_
              unfold g_tells
              rw [if_neg (by omega), if_neg (by omega), if_pos (by omega), if_neg (by omega), if_neg (by omega), if_neg (by decide)]
              rfl
            · refine s106 6 F 0 6 0 (Or.inl ⟨Or.inr (Or.inl ⟨by omega, by omega, by omega⟩), by simp [sIx], by omega⟩) (by omega) (by decide) (by omega) (by omega) (fun _ => by omega) (fun k _ hk => hA.kind (by omega) (by omega)) (fun y => by omega) (fun _ => rfl) (fun _ y => absurd rfl y) ?_
              unfold g_tells
              rw [if_neg (by omega), if_pos (by omega), if_neg (by omega), if_neg (by omega), if_neg (by decide)]
              rfl
            · refine m_firstOther (v := (zH S s).2.2) hK hs4 hF p3 h40 p4 (fun σ1 s1 => ?_)
              simp only [x_push, x_iload, x_lload, x_aload, x_bin, x_div, x_un, x_lbin, x_ldiv, x_lcmp, x_i2l, x_l2i, x_dup, x_pop, x_dup2, x_c1, x_c2, x_null, x_cat1, x_istore, x_astore, x_lstore, x_iinc, x_nol, x_tsw, xsw, x_lsw, xlsw, x_ret, x_zret, x_lret, x_aret, x_vret, x_getI, x_getL, x_getR, x_putI, x_putZ, x_putL, x_iaload, x_zaload, x_aaload, x_iastore, x_zastore, x_alen, x_mm, x_acopy, xpush, xJ, xK, x_cV0, x_cV1, x_cV2, x_cV3, x_cV4, x_cV5, x_cV6, x_cV7, x_cV8, x_cS1, x_cS2, x_cS3, x_cS4, x_cS5, List.getD_cons_zero, List.getD_cons_succ, List.set_cons_zero, List.set_cons_succ, List.length_cons, List.length_nil, Nat.zero_add, true_and, and_true, List.getD_nil, not_true, not_false_eq_true, Int.toNat_natCast, false_implies, true_implies, if_true, if_false, Int.toNat_zero, Int.toNat_one, true_or, or_true, Int.reduceEq, Int.reduceLT, Int.reduceLE, Int.reduceNe, Int.reduceNeg, Int.reduceAdd, Int.reduceSub, Int.reduceMul, Int.reduceToNat, Nat.reduceLT, Nat.reduceLeDiff, Nat.reduceAdd, Nat.reduceEqDiff, Nat.reduceSub, not_false_iff, and_self, implies_true, false_and, and_false, or_self, false_or, or_false, Int.cast_ofNat_Int, Int.natCast_nonneg]
              have key := hQ σ1 (FG.ofS s1).sm (hR.fq (FG.ofS s1))
              unfold g_tells at key
              rw [if_pos (by omega)] at key
              exact key
          · rw [if_pos (by omega)] at hQ
            exact hQ σ Sm.rf hR
      · simp only [x_push, x_iload, x_lload, x_aload, x_bin, x_div, x_un, x_lbin, x_ldiv, x_lcmp, x_i2l, x_l2i, x_dup, x_pop, x_dup2, x_c1, x_c2, x_null, x_cat1, x_istore, x_astore, x_lstore, x_iinc, x_nol, x_tsw, xsw, x_lsw, xlsw, x_ret, x_zret, x_lret, x_aret, x_vret, x_getI, x_getL, x_getR, x_putI, x_putZ, x_putL, x_iaload, x_zaload, x_aaload, x_iastore, x_zastore, x_alen, x_mm, x_acopy, xpush, xJ, xK, x_cV0, x_cV1, x_cV2, x_cV3, x_cV4, x_cV5, x_cV6, x_cV7, x_cV8, x_cS1, x_cS2, x_cS3, x_cS4, x_cS5, List.getD_cons_zero, List.getD_cons_succ, List.set_cons_zero, List.set_cons_succ, List.length_cons, List.length_nil, Nat.zero_add, true_and, and_true, List.getD_nil, not_true, not_false_eq_true, Int.toNat_natCast, false_implies, true_implies, if_true, if_false, Int.toNat_zero, Int.toNat_one, true_or, or_true, Int.reduceEq, Int.reduceLT, Int.reduceLE, Int.reduceNe, Int.reduceNeg, Int.reduceAdd, Int.reduceSub, Int.reduceMul, Int.reduceToNat, Nat.reduceLT, Nat.reduceLeDiff, Nat.reduceAdd, Nat.reduceEqDiff, Nat.reduceSub, not_false_iff, and_self, implies_true, false_and, and_false, or_self, false_or, or_false, Int.cast_ofNat_Int, Int.natCast_nonneg]; exact bad (by omega)
    · simp only [x_push, x_iload, x_lload, x_aload, x_bin, x_div, x_un, x_lbin, x_ldiv, x_lcmp, x_i2l, x_l2i, x_dup, x_pop, x_dup2, x_c1, x_c2, x_null, x_cat1, x_istore, x_astore, x_lstore, x_iinc, x_nol, x_tsw, xsw, x_lsw, xlsw, x_ret, x_zret, x_lret, x_aret, x_vret, x_getI, x_getL, x_getR, x_putI, x_putZ, x_putL, x_iaload, x_zaload, x_aaload, x_iastore, x_zastore, x_alen, x_mm, x_acopy, xpush, xJ, xK, x_cV0, x_cV1, x_cV2, x_cV3, x_cV4, x_cV5, x_cV6, x_cV7, x_cV8, x_cS1, x_cS2, x_cS3, x_cS4, x_cS5, List.getD_cons_zero, List.getD_cons_succ, List.set_cons_zero, List.set_cons_succ, List.length_cons, List.length_nil, Nat.zero_add, true_and, and_true, List.getD_nil, not_true, not_false_eq_true, Int.toNat_natCast, false_implies, true_implies, if_true, if_false, Int.toNat_zero, Int.toNat_one, true_or, or_true, Int.reduceEq, Int.reduceLT, Int.reduceLE, Int.reduceNe, Int.reduceNeg, Int.reduceAdd, Int.reduceSub, Int.reduceMul, Int.reduceToNat, Nat.reduceLT, Nat.reduceLeDiff, Nat.reduceAdd, Nat.reduceEqDiff, Nat.reduceSub, not_false_iff, and_self, implies_true, false_and, and_false, or_self, false_or, or_false, Int.cast_ofNat_Int, Int.natCast_nonneg]; exact bad (by omega)
  · simp only [x_push, x_iload, x_lload, x_aload, x_bin, x_div, x_un, x_lbin, x_ldiv, x_lcmp, x_i2l, x_l2i, x_dup, x_pop, x_dup2, x_c1, x_c2, x_null, x_cat1, x_istore, x_astore, x_lstore, x_iinc, x_nol, x_tsw, xsw, x_lsw, xlsw, x_ret, x_zret, x_lret, x_aret, x_vret, x_getI, x_getL, x_getR, x_putI, x_putZ, x_putL, x_iaload, x_zaload, x_aaload, x_iastore, x_zastore, x_alen, x_mm, x_acopy, xpush, xJ, xK, x_cV0, x_cV1, x_cV2, x_cV3, x_cV4, x_cV5, x_cV6, x_cV7, x_cV8, x_cS1, x_cS2, x_cS3, x_cS4, x_cS5, List.getD_cons_zero, List.getD_cons_succ, List.set_cons_zero, List.set_cons_succ, List.length_cons, List.length_nil, Nat.zero_add, true_and, and_true, List.getD_nil, not_true, not_false_eq_true, Int.toNat_natCast, false_implies, true_implies, if_true, if_false, Int.toNat_zero, Int.toNat_one, true_or, or_true, Int.reduceEq, Int.reduceLT, Int.reduceLE, Int.reduceNe, Int.reduceNeg, Int.reduceAdd, Int.reduceSub, Int.reduceMul, Int.reduceToNat, Nat.reduceLT, Nat.reduceLeDiff, Nat.reduceAdd, Nat.reduceEqDiff, Nat.reduceSub, not_false_iff, and_self, implies_true, false_and, and_false, or_self, false_or, or_false, Int.cast_ofNat_Int, Int.natCast_nonneg]; exact bad (by omega)
end Model
