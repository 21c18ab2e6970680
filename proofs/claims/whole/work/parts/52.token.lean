/-! ===== the signs of a tape ===== -/
/-- kinds of bytes: 0 blank, 1 letter, 2 digit -/
def sW (c : Nat) (b : Int) : Bool := if c = 0 then (decide (b = 32) || decide (b = 10)) else if c = 1 then (decide (97 ≤ b) && decide (b ≤ 122)) else (decide (48 ≤ b) && decide (b ≤ 57))
theorem sW0 {b : Int} : sW 0 b = true ↔ (b = 32 ∨ b = 10) := by simp [sW]
theorem sW1 {b : Int} : sW 1 b = true ↔ isLet b := by simp [sW, isLet]
theorem sW2 {b : Int} : sW 2 b = true ↔ isDig b := by simp [sW, isDig]
/-- where a row of bytes of one kind ends, m bytes before the end of all -/
def sRun (c : Nat) (B : Nat → Int) : Nat → Nat → Nat
  | 0, a => a
  | m + 1, a => if sW c (B a) = true then sRun c B m (a + 1) else a
theorem sRun_ge (c : Nat) (B : Nat → Int) : ∀ m a, a ≤ sRun c B m a ∧ sRun c B m a ≤ a + m
  | 0, a => ⟨Nat.le_refl _, Nat.le_refl _⟩
  | m + 1, a => by
    simp only [sRun]
    split
    · have := sRun_ge c B m (a + 1)
      omega
    · omega
/-- what k digits from a on are worth, as an int -/
def sWorth (B : Nat → Int) (a : Nat) : Nat → Int
  | 0 => 0
  | k + 1 => osub (oadd (omul (sWorth B a k) 10) (B (a + k))) 48
section Tape
variable {Γ : xSh} {σ : Nat → Nat → Int} {t d n : Nat} {Q : xV → xMem → Prop}
/-- a tape with its fields: how many bytes, where -/
def TP (σ σ' : Nat → Nat → Int) (t n a s : Nat) : Prop := Sm (fun q => q = t) σ σ' ∧ σ' t 1 = n ∧ σ' t 2 = a ∧ σ' t 4 = s
set_option maxHeartbeats 2000000 in
theorem c_takeNumber {s : Nat} (hS : SP Γ t) (hn : n ≤ 160) (hs : s ≤ n) (hT : TP σ σ t n s s)
    (hQ : ∀ σ', TP σ σ' t n (sRun 2 (σ (t + 1)) (n - s) s) s → σ' t 3 = (if sRun 2 (σ (t + 1)) (n - s) s - s ≤ 4 then 258 else 257) → σ' t 5 = sWorth (σ (t + 1)) s (sRun 2 (σ (t + 1)) (n - s) s - s) → Q vu (Γ, σ')) : xRM M_X2_takeNumber (d + 2) (0, 0) [vr t] (Γ, σ) Q := by
  refine xRM_of (by decide) (Nat.le_of_ble_eq_true rfl) ?_
  have fin : ∀ (e : Nat) (σ' : Nat → Nat → Int), s ≤ e → e ≤ n → e = sRun 2 (σ (t + 1)) (n - s) s → TP σ σ' t n e s → σ' t 5 = sWorth (σ (t + 1)) s (e - s) → xR M_X2_takeNumber (d + 2) (0, 0) 68 [vr t] [] (Γ, σ') Q := by
    intro e σ' h1 h2 he hT' h5
    obtain ⟨a1, a2, a3, a4⟩ := hT'
    refine b_X2_takeNumber_68 _ _ _ _ ?_
    rw [← he] at hQ
    by_cases z : e - s ≤ 4
    · rw [if_pos z] at hQ
      simp only [k_X2_takeNumber_68, x_push, x_iload, x_lload, x_aload, x_bin, x_div, x_un, x_lbin, x_ldiv, x_lcmp, x_i2l, x_l2i, x_dup, x_pop, x_dup2, x_c1, x_c2, x_null, x_cat1, x_istore, x_astore, x_lstore, x_iinc, x_nol, x_tsw, xsw, x_lsw, xlsw, x_ret, x_zret, x_lret, x_aret, x_vret, x_getI, x_getL, x_getR, x_putI, x_putZ, x_putL, x_iaload, x_zaload, x_aaload, x_iastore, x_zastore, x_alen, x_mm, x_acopy, xpush, xJ, xK, x_cV0, x_cV1, x_cV2, x_cV3, x_cV4, x_cV5, x_cV6, x_cV7, x_cV8, x_cS1, x_cS2, x_cS3, x_cS4, x_cS5, List.getD_cons_zero, List.getD_cons_succ, List.set_cons_zero, List.set_cons_succ, List.length_cons, List.length_nil, Nat.zero_add, true_and, and_true, List.getD_nil, not_true, not_false_eq_true, Int.toNat_natCast, false_implies, true_implies, if_true, if_false, Int.toNat_zero, Int.toNat_one, true_or, or_true, Int.reduceEq, Int.reduceLT, Int.reduceLE, Int.reduceNe, Int.reduceNeg, Int.reduceAdd, Int.reduceSub, Int.reduceMul, Int.reduceToNat, Nat.reduceLT, Nat.reduceLeDiff, Nat.reduceAdd, Nat.reduceEqDiff, Nat.reduceSub, not_false_iff, and_self, implies_true, false_and, and_false, or_self, false_or, or_false, Int.cast_ofNat_Int, Int.natCast_nonneg, SP.f0 hS, SP.f1 hS, SP.f2 hS, SP.l2 hS, SP.a2 hS, SP.e2 hS, a3, a4, osub_id (a := (e : Int)) (b := (s : Int)) (by omega) (by omega), eq_true (show (e : Int) - (s : Int) ≤ 4 by omega)]
      exact hQ _ ⟨a1.put rfl, by rw [upd2_col (by decide)]; exact a2, by rw [upd2_col (by decide)]; exact a3, by rw [upd2_col (by decide)]; exact a4⟩ upd2_eq (by rw [upd2_col (by decide)]; exact h5)
    · rw [if_neg z] at hQ
      simp only [k_X2_takeNumber_68, x_push, x_iload, x_lload, x_aload, x_bin, x_div, x_un, x_lbin, x_ldiv, x_lcmp, x_i2l, x_l2i, x_dup, x_pop, x_dup2, x_c1, x_c2, x_null, x_cat1, x_istore, x_astore, x_lstore, x_iinc, x_nol, x_tsw, xsw, x_lsw, xlsw, x_ret, x_zret, x_lret, x_aret, x_vret, x_getI, x_getL, x_getR, x_putI, x_putZ, x_putL, x_iaload, x_zaload, x_aaload, x_iastore, x_zastore, x_alen, x_mm, x_acopy, xpush, xJ, xK, x_cV0, x_cV1, x_cV2, x_cV3, x_cV4, x_cV5, x_cV6, x_cV7, x_cV8, x_cS1, x_cS2, x_cS3, x_cS4, x_cS5, List.getD_cons_zero, List.getD_cons_succ, List.set_cons_zero, List.set_cons_succ, List.length_cons, List.length_nil, Nat.zero_add, true_and, and_true, List.getD_nil, not_true, not_false_eq_true, Int.toNat_natCast, false_implies, true_implies, if_true, if_false, Int.toNat_zero, Int.toNat_one, true_or, or_true, Int.reduceEq, Int.reduceLT, Int.reduceLE, Int.reduceNe, Int.reduceNeg, Int.reduceAdd, Int.reduceSub, Int.reduceMul, Int.reduceToNat, Nat.reduceLT, Nat.reduceLeDiff, Nat.reduceAdd, Nat.reduceEqDiff, Nat.reduceSub, not_false_iff, and_self, implies_true, false_and, and_false, or_self, false_or, or_false, Int.cast_ofNat_Int, Int.natCast_nonneg, SP.f0 hS, SP.f1 hS, SP.f2 hS, SP.l2 hS, SP.a2 hS, SP.e2 hS, a3, a4, osub_id (a := (e : Int)) (b := (s : Int)) (by omega) (by omega), eq_false (show ¬ ((e : Int) - (s : Int) ≤ 4) by omega)]
      exact hQ _ ⟨a1.put rfl, by rw [upd2_col (by decide)]; exact a2, by rw [upd2_col (by decide)]; exact a3, by rw [upd2_col (by decide)]; exact a4⟩ upd2_eq (by rw [upd2_col (by decide)]; exact h5)
  have loop : ∀ (m a : Nat) (σ' : Nat → Nat → Int), a + m = n → s ≤ a → sRun 2 (σ (t + 1)) m a = sRun 2 (σ (t + 1)) (n - s) s → TP σ σ' t n a s → σ' t 5 = sWorth (σ (t + 1)) s (a - s) → xR M_X2_takeNumber (d + 2) (0, 0) 5 [vr t] [] (Γ, σ') Q := by
    intro m
    induction m with
    | zero =>
      intro a σ' ha h1 he hT' h5
      have ha : a = n := by omega
      subst ha
      obtain ⟨a1, a2, a3, a4⟩ := id hT'
      refine b_X2_takeNumber_5 _ _ _ _ ?_
      have e1 : ((a : Int) ≤ (a : Int)) = True := eq_true (Int.le_refl _)
      simp only [k_X2_takeNumber_5, x_push, x_iload, x_lload, x_aload, x_bin, x_div, x_un, x_lbin, x_ldiv, x_lcmp, x_i2l, x_l2i, x_dup, x_pop, x_dup2, x_c1, x_c2, x_null, x_cat1, x_istore, x_astore, x_lstore, x_iinc, x_nol, x_tsw, xsw, x_lsw, xlsw, x_ret, x_zret, x_lret, x_aret, x_vret, x_getI, x_getL, x_getR, x_putI, x_putZ, x_putL, x_iaload, x_zaload, x_aaload, x_iastore, x_zastore, x_alen, x_mm, x_acopy, xpush, xJ, xK, x_cV0, x_cV1, x_cV2, x_cV3, x_cV4, x_cV5, x_cV6, x_cV7, x_cV8, x_cS1, x_cS2, x_cS3, x_cS4, x_cS5, List.getD_cons_zero, List.getD_cons_succ, List.set_cons_zero, List.set_cons_succ, List.length_cons, List.length_nil, Nat.zero_add, true_and, and_true, List.getD_nil, not_true, not_false_eq_true, Int.toNat_natCast, false_implies, true_implies, if_true, if_false, Int.toNat_zero, Int.toNat_one, true_or, or_true, Int.reduceEq, Int.reduceLT, Int.reduceLE, Int.reduceNe, Int.reduceNeg, Int.reduceAdd, Int.reduceSub, Int.reduceMul, Int.reduceToNat, Nat.reduceLT, Nat.reduceLeDiff, Nat.reduceAdd, Nat.reduceEqDiff, Nat.reduceSub, not_false_iff, and_self, implies_true, false_and, and_false, or_self, false_or, or_false, Int.cast_ofNat_Int, Int.natCast_nonneg, SP.f0 hS, SP.f1 hS, SP.f2 hS, SP.l2 hS, SP.a2 hS, SP.e2 hS, a2, a3, e1]
      exact fin a σ' h1 (Nat.le_refl _) he hT' h5
    | succ m ih =>
      intro a σ' ha h1 he hT' h5
      obtain ⟨a1, a2, a3, a4⟩ := id hT'
      have eB : σ' (t + 1) = σ (t + 1) := a1 _ (by omega)
      refine b_X2_takeNumber_5 _ _ _ _ ?_
      simp only [k_X2_takeNumber_5, x_push, x_iload, x_lload, x_aload, x_bin, x_div, x_un, x_lbin, x_ldiv, x_lcmp, x_i2l, x_l2i, x_dup, x_pop, x_dup2, x_c1, x_c2, x_null, x_cat1, x_istore, x_astore, x_lstore, x_iinc, x_nol, x_tsw, xsw, x_lsw, xlsw, x_ret, x_zret, x_lret, x_aret, x_vret, x_getI, x_getL, x_getR, x_putI, x_putZ, x_putL, x_iaload, x_zaload, x_aaload, x_iastore, x_zastore, x_alen, x_mm, x_acopy, xpush, xJ, xK, x_cV0, x_cV1, x_cV2, x_cV3, x_cV4, x_cV5, x_cV6, x_cV7, x_cV8, x_cS1, x_cS2, x_cS3, x_cS4, x_cS5, List.getD_cons_zero, List.getD_cons_succ, List.set_cons_zero, List.set_cons_succ, List.length_cons, List.length_nil, Nat.zero_add, true_and, and_true, List.getD_nil, not_true, not_false_eq_true, Int.toNat_natCast, false_implies, true_implies, if_true, if_false, Int.toNat_zero, Int.toNat_one, true_or, or_true, Int.reduceEq, Int.reduceLT, Int.reduceLE, Int.reduceNe, Int.reduceNeg, Int.reduceAdd, Int.reduceSub, Int.reduceMul, Int.reduceToNat, Nat.reduceLT, Nat.reduceLeDiff, Nat.reduceAdd, Nat.reduceEqDiff, Nat.reduceSub, not_false_iff, and_self, implies_true, false_and, and_false, or_self, false_or, or_false, Int.cast_ofNat_Int, Int.natCast_nonneg, SP.f0 hS, SP.f1 hS, SP.f2 hS, SP.l2 hS, SP.a2 hS, SP.e2 hS, a2, a3, eq_false (show ¬ ((n : Int) ≤ (a : Int)) by omega), eq_true (show (a : Int) < 160 by omega), eB]
      refine c_isDigit (fun q => ?_) (fun q => ?_)
      · simp only [x_push, x_iload, x_lload, x_aload, x_bin, x_div, x_un, x_lbin, x_ldiv, x_lcmp, x_i2l, x_l2i, x_dup, x_pop, x_dup2, x_c1, x_c2, x_null, x_cat1, x_istore, x_astore, x_lstore, x_iinc, x_nol, x_tsw, xsw, x_lsw, xlsw, x_ret, x_zret, x_lret, x_aret, x_vret, x_getI, x_getL, x_getR, x_putI, x_putZ, x_putL, x_iaload, x_zaload, x_aaload, x_iastore, x_zastore, x_alen, x_mm, x_acopy, xpush, xJ, xK, x_cV0, x_cV1, x_cV2, x_cV3, x_cV4, x_cV5, x_cV6, x_cV7, x_cV8, x_cS1, x_cS2, x_cS3, x_cS4, x_cS5, List.getD_cons_zero, List.getD_cons_succ, List.set_cons_zero, List.set_cons_succ, List.length_cons, List.length_nil, Nat.zero_add, true_and, and_true, List.getD_nil, not_true, not_false_eq_true, Int.toNat_natCast, false_implies, true_implies, if_true, if_false, Int.toNat_zero, Int.toNat_one, true_or, or_true, Int.reduceEq, Int.reduceLT, Int.reduceLE, Int.reduceNe, Int.reduceNeg, Int.reduceAdd, Int.reduceSub, Int.reduceMul, Int.reduceToNat, Nat.reduceLT, Nat.reduceLeDiff, Nat.reduceAdd, Nat.reduceEqDiff, Nat.reduceSub, not_false_iff, and_self, implies_true, false_and, and_false, or_self, false_or, or_false, Int.cast_ofNat_Int, Int.natCast_nonneg, SP.f0 hS, SP.f1 hS, SP.f2 hS, SP.l2 hS, SP.a2 hS, SP.e2 hS, a2, a3, h5, eq_true (show (a : Int) < 160 by omega), eB, upd2_col (show 2 ≠ 5 by decide)]
        rw [oadd_id (a := (a : Int)) (b := 1) (by omega) (by omega)]
        refine ih (a + 1) _ (by omega) (by omega) ?_ ⟨(a1.put rfl).put rfl, ?_, upd2_eq, ?_⟩ ?_
        · rw [← he]
          simp only [sRun]
          rw [if_pos (sW2.mpr q)]
        · rw [upd2_col (by decide), upd2_col (by decide)]; exact a2
        · rw [upd2_col (by decide), upd2_col (by decide)]; exact a4
        · rw [upd2_col (by decide), upd2_eq, show a + 1 - s = (a - s) + 1 by omega]
          simp only [sWorth]
          rw [show s + (a - s) = a by omega]
      · simp only [x_push, x_iload, x_lload, x_aload, x_bin, x_div, x_un, x_lbin, x_ldiv, x_lcmp, x_i2l, x_l2i, x_dup, x_pop, x_dup2, x_c1, x_c2, x_null, x_cat1, x_istore, x_astore, x_lstore, x_iinc, x_nol, x_tsw, xsw, x_lsw, xlsw, x_ret, x_zret, x_lret, x_aret, x_vret, x_getI, x_getL, x_getR, x_putI, x_putZ, x_putL, x_iaload, x_zaload, x_aaload, x_iastore, x_zastore, x_alen, x_mm, x_acopy, xpush, xJ, xK, x_cV0, x_cV1, x_cV2, x_cV3, x_cV4, x_cV5, x_cV6, x_cV7, x_cV8, x_cS1, x_cS2, x_cS3, x_cS4, x_cS5, List.getD_cons_zero, List.getD_cons_succ, List.set_cons_zero, List.set_cons_succ, List.length_cons, List.length_nil, Nat.zero_add, true_and, and_true, List.getD_nil, not_true, not_false_eq_true, Int.toNat_natCast, false_implies, true_implies, if_true, if_false, Int.toNat_zero, Int.toNat_one, true_or, or_true, Int.reduceEq, Int.reduceLT, Int.reduceLE, Int.reduceNe, Int.reduceNeg, Int.reduceAdd, Int.reduceSub, Int.reduceMul, Int.reduceToNat, Nat.reduceLT, Nat.reduceLeDiff, Nat.reduceAdd, Nat.reduceEqDiff, Nat.reduceSub, not_false_iff, and_self, implies_true, false_and, and_false, or_self, false_or, or_false, Int.cast_ofNat_Int, Int.natCast_nonneg]
        refine fin a σ' h1 (by omega) ?_ hT' h5
        rw [← he]
        simp only [sRun]
        rw [if_neg (fun z => q (sW2.mp z))]
  obtain ⟨a1, a2, a3, a4⟩ := hT
  refine b_X2_takeNumber_0 _ _ _ _ ?_
  show k_X2_takeNumber_0 (d + 1) Q (0, 0) [vr t] [] (Γ, σ)
  simp only [k_X2_takeNumber_0, x_push, x_iload, x_lload, x_aload, x_bin, x_div, x_un, x_lbin, x_ldiv, x_lcmp, x_i2l, x_l2i, x_dup, x_pop, x_dup2, x_c1, x_c2, x_null, x_cat1, x_istore, x_astore, x_lstore, x_iinc, x_nol, x_tsw, xsw, x_lsw, xlsw, x_ret, x_zret, x_lret, x_aret, x_vret, x_getI, x_getL, x_getR, x_putI, x_putZ, x_putL, x_iaload, x_zaload, x_aaload, x_iastore, x_zastore, x_alen, x_mm, x_acopy, xpush, xJ, xK, x_cV0, x_cV1, x_cV2, x_cV3, x_cV4, x_cV5, x_cV6, x_cV7, x_cV8, x_cS1, x_cS2, x_cS3, x_cS4, x_cS5, List.getD_cons_zero, List.getD_cons_succ, List.set_cons_zero, List.set_cons_succ, List.length_cons, List.length_nil, Nat.zero_add, true_and, and_true, List.getD_nil, not_true, not_false_eq_true, Int.toNat_natCast, false_implies, true_implies, if_true, if_false, Int.toNat_zero, Int.toNat_one, true_or, or_true, Int.reduceEq, Int.reduceLT, Int.reduceLE, Int.reduceNe, Int.reduceNeg, Int.reduceAdd, Int.reduceSub, Int.reduceMul, Int.reduceToNat, Nat.reduceLT, Nat.reduceLeDiff, Nat.reduceAdd, Nat.reduceEqDiff, Nat.reduceSub, not_false_iff, and_self, implies_true, false_and, and_false, or_self, false_or, or_false, Int.cast_ofNat_Int, Int.natCast_nonneg, SP.f0 hS, SP.f1 hS, SP.f2 hS, SP.l2 hS, SP.a2 hS, SP.e2 hS]
  refine loop (n - s) s _ (by omega) (Nat.le_refl _) rfl ⟨Sm.rf.put rfl, ?_, ?_, ?_⟩ ?_
  · rw [upd2_col (by decide)]; exact a2
  · rw [upd2_col (by decide)]; exact a3
  · rw [upd2_col (by decide)]; exact a4
  · rw [upd2_eq, Nat.sub_self]; rfl
end Tape
