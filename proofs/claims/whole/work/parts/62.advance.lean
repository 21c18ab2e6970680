/-! ===== Tape.takeWord, advance ===== -/
theorem sRun_step {c : Nat} {B : Nat → Int} {m a : Nat} (h : sW c (B a) = true) : sRun c B (m + 1) a = sRun c B m (a + 1) := by
  simp only [sRun]
  rw [if_pos h]
theorem sRun_stop {c : Nat} {B : Nat → Int} {m a : Nat} (h : ¬ sW c (B a) = true) : sRun c B m a = a := by
  cases m with
  | zero => rfl
  | succ m =>
    simp only [sRun]
    rw [if_neg h]
theorem sWorth_n {B : Nat → Int} {s : Nat} : ∀ {k : Nat}, k ≤ 4 → (∀ i, i < k → isDig (B (s + i))) → sWorth B s k = (sWn B s k : Int) ∧ sWn B s k < 10 ^ k
  | 0, _, _ => ⟨rfl, by simp [sWn]⟩
  | k + 1, hk, h => by
    obtain ⟨e, hl⟩ := sWorth_n (k := k) (by omega) (fun i hi => h i (by omega))
    have hd : 48 ≤ B (s + k) ∧ B (s + k) ≤ 57 := h k (by omega)
    have hp : 10 ^ k ≤ 1000 := by
      have : k = 0 ∨ k = 1 ∨ k = 2 ∨ k = 3 := by omega
      rcases this with rfl | rfl | rfl | rfl <;> decide
    have hp2 : 10 ^ (k + 1) = 10 * 10 ^ k := by rw [Nat.pow_succ]; omega
    simp only [sWorth, sWn]
    rw [e, omul_id (by omega) (by omega), oadd_id (by omega) (by omega), osub_id (by omega) (by omega), hp2]
    refine ⟨?_, by omega⟩
    push_cast
    omega
theorem sRun_all {c : Nat} {B : Nat → Int} : ∀ (m a i : Nat), a ≤ i → i < sRun c B m a → sW c (B i) = true
  | 0, a, i, h1, h2 => by simp only [sRun] at h2; omega
  | m + 1, a, i, h1, h2 => by
    simp only [sRun] at h2
    split at h2
    · rename_i h
      by_cases e : i = a
      · rw [e]; exact h
      · exact sRun_all m (a + 1) i (by omega) h2
    · omega
/-- the tape's token at hand, and those behind it -/
def TK (σ : Nat → Nat → Int) (t n : Nat) (B : Nat → Int) (L : List Tk) : Prop := σ t 1 = n ∧ σ t 3 = tkC L ∧ σ t 4 = tkS L ∧ (tkC L = 258 → σ t 5 = tkV L) ∧ L ≠ [] ∧ (tkC L ≠ 256 → tkC L ≠ 257 → ∃ a m : Nat, σ t 2 = a ∧ a ≤ n ∧ n < a + m ∧ L.tail = sToks B n m a)
theorem TK.same {σ σ' : Nat → Nat → Int} {t n : Nat} {B : Nat → Int} {L : List Tk} (h : TK σ t n B L) (e : σ' t = σ t) : TK σ' t n B L := by
  unfold TK
  rw [e]
  exact h
section Tape
variable {Γ : xSh} {σ : Nat → Nat → Int} {t d n : Nat} {Q : xV → xMem → Prop}
set_option maxHeartbeats 2000000 in
theorem c_takeWord {s : Nat} (hS : SP Γ t) (hn : n ≤ 160) (hs : s ≤ n) (hT : TP σ σ t n s s)
    (hQ : ∀ σ', TP σ σ' t n (sRun 1 (σ (t + 1)) (n - s) s) s → σ' t 3 = sWk (σ (t + 1)) s (sRun 1 (σ (t + 1)) (n - s) s) 12 → Q vu (Γ, σ')) : xRM M_X2_takeWord (d + 6) (0, 0) [vr t] (Γ, σ) Q := by
  refine xRM_of (by decide) (Nat.le_of_ble_eq_true rfl) ?_
  have hge := sRun_ge 1 (σ (t + 1)) (n - s) s
  have fin : ∀ (m w : Nat) (σ' : Nat → Nat → Int), w + m = 12 → TP σ σ' t n (sRun 1 (σ (t + 1)) (n - s) s) s → σ' t 3 = sWk (σ (t + 1)) s (sRun 1 (σ (t + 1)) (n - s) s) w → xR M_X2_takeWord (d + 6) (0, 0) 48 [vr t, vi w] [] (Γ, σ') Q := by
    intro m
    induction m with
    | zero =>
      intro w σ' hw hT' h3
      have hw : w = 12 := by omega
      subst hw
      refine b_X2_takeWord_48 _ _ _ _ ?_
      simp only [k_X2_takeWord_48, x_push, x_iload, x_lload, x_aload, x_bin, x_div, x_un, x_lbin, x_ldiv, x_lcmp, x_i2l, x_l2i, x_dup, x_pop, x_dup2, x_c1, x_c2, x_null, x_cat1, x_istore, x_astore, x_lstore, x_iinc, x_nol, x_tsw, xsw, x_lsw, xlsw, x_ret, x_zret, x_lret, x_aret, x_vret, x_getI, x_getL, x_getR, x_putI, x_putZ, x_putL, x_iaload, x_zaload, x_aaload, x_iastore, x_zastore, x_alen, x_mm, x_acopy, xpush, xJ, xK, x_cV0, x_cV1, x_cV2, x_cV3, x_cV4, x_cV5, x_cV6, x_cV7, x_cV8, x_cS1, x_cS2, x_cS3, x_cS4, x_cS5, List.getD_cons_zero, List.getD_cons_succ, List.set_cons_zero, List.set_cons_succ, List.length_cons, List.length_nil, Nat.zero_add, true_and, and_true, List.getD_nil, not_true, not_false_eq_true, Int.toNat_natCast, false_implies, true_implies, if_true, if_false, Int.toNat_zero, Int.toNat_one, true_or, or_true, Int.reduceEq, Int.reduceLT, Int.reduceLE, Int.reduceNe, Int.reduceNeg, Int.reduceAdd, Int.reduceSub, Int.reduceMul, Int.reduceToNat, Nat.reduceLT, Nat.reduceLeDiff, Nat.reduceAdd, Nat.reduceEqDiff, Nat.reduceSub, not_false_iff, and_self, implies_true, false_and, and_false, or_self, false_or, or_false, Int.cast_ofNat_Int, Int.natCast_nonneg]
      exact hQ σ' hT' h3
    | succ m ih =>
      intro w σ' hw hT' h3
      obtain ⟨a1, a2, a3, a4⟩ := id hT'
      have eB : σ' (t + 1) = σ (t + 1) := a1 _ (by omega)
      refine b_X2_takeWord_48 _ _ _ _ ?_
      simp only [k_X2_takeWord_48, x_push, x_iload, x_lload, x_aload, x_bin, x_div, x_un, x_lbin, x_ldiv, x_lcmp, x_i2l, x_l2i, x_dup, x_pop, x_dup2, x_c1, x_c2, x_null, x_cat1, x_istore, x_astore, x_lstore, x_iinc, x_nol, x_tsw, xsw, x_lsw, xlsw, x_ret, x_zret, x_lret, x_aret, x_vret, x_getI, x_getL, x_getR, x_putI, x_putZ, x_putL, x_iaload, x_zaload, x_aaload, x_iastore, x_zastore, x_alen, x_mm, x_acopy, xpush, xJ, xK, x_cV0, x_cV1, x_cV2, x_cV3, x_cV4, x_cV5, x_cV6, x_cV7, x_cV8, x_cS1, x_cS2, x_cS3, x_cS4, x_cS5, List.getD_cons_zero, List.getD_cons_succ, List.set_cons_zero, List.set_cons_succ, List.length_cons, List.length_nil, Nat.zero_add, true_and, and_true, List.getD_nil, not_true, not_false_eq_true, Int.toNat_natCast, false_implies, true_implies, if_true, if_false, Int.toNat_zero, Int.toNat_one, true_or, or_true, Int.reduceEq, Int.reduceLT, Int.reduceLE, Int.reduceNe, Int.reduceNeg, Int.reduceAdd, Int.reduceSub, Int.reduceMul, Int.reduceToNat, Nat.reduceLT, Nat.reduceLeDiff, Nat.reduceAdd, Nat.reduceEqDiff, Nat.reduceSub, not_false_iff, and_self, implies_true, false_and, and_false, or_self, false_or, or_false, Int.cast_ofNat_Int, Int.natCast_nonneg, eq_false (show ¬ ((12 : Int) ≤ (w : Int)) by omega)]
      refine c_wordOf (by omega) ?_
      simp only [x_push, x_iload, x_lload, x_aload, x_bin, x_div, x_un, x_lbin, x_ldiv, x_lcmp, x_i2l, x_l2i, x_dup, x_pop, x_dup2, x_c1, x_c2, x_null, x_cat1, x_istore, x_astore, x_lstore, x_iinc, x_nol, x_tsw, xsw, x_lsw, xlsw, x_ret, x_zret, x_lret, x_aret, x_vret, x_getI, x_getL, x_getR, x_putI, x_putZ, x_putL, x_iaload, x_zaload, x_aaload, x_iastore, x_zastore, x_alen, x_mm, x_acopy, xpush, xJ, xK, x_cV0, x_cV1, x_cV2, x_cV3, x_cV4, x_cV5, x_cV6, x_cV7, x_cV8, x_cS1, x_cS2, x_cS3, x_cS4, x_cS5, List.getD_cons_zero, List.getD_cons_succ, List.set_cons_zero, List.set_cons_succ, List.length_cons, List.length_nil, Nat.zero_add, true_and, and_true, List.getD_nil, not_true, not_false_eq_true, Int.toNat_natCast, false_implies, true_implies, if_true, if_false, Int.toNat_zero, Int.toNat_one, true_or, or_true, Int.reduceEq, Int.reduceLT, Int.reduceLE, Int.reduceNe, Int.reduceNeg, Int.reduceAdd, Int.reduceSub, Int.reduceMul, Int.reduceToNat, Nat.reduceLT, Nat.reduceLeDiff, Nat.reduceAdd, Nat.reduceEqDiff, Nat.reduceSub, not_false_iff, and_self, implies_true, false_and, and_false, or_self, false_or, or_false, Int.cast_ofNat_Int, Int.natCast_nonneg, SP.f0 hS, SP.f1 hS, SP.f2 hS, SP.l2 hS, SP.a2 hS, SP.e2 hS]
      refine c_isHere hS hn hge.1 (by omega) (by omega) a2 a3 a4 (fun y => ?_) (fun y => ?_)
      · rw [eB] at y
        simp only [x_push, x_iload, x_lload, x_aload, x_bin, x_div, x_un, x_lbin, x_ldiv, x_lcmp, x_i2l, x_l2i, x_dup, x_pop, x_dup2, x_c1, x_c2, x_null, x_cat1, x_istore, x_astore, x_lstore, x_iinc, x_nol, x_tsw, xsw, x_lsw, xlsw, x_ret, x_zret, x_lret, x_aret, x_vret, x_getI, x_getL, x_getR, x_putI, x_putZ, x_putL, x_iaload, x_zaload, x_aaload, x_iastore, x_zastore, x_alen, x_mm, x_acopy, xpush, xJ, xK, x_cV0, x_cV1, x_cV2, x_cV3, x_cV4, x_cV5, x_cV6, x_cV7, x_cV8, x_cS1, x_cS2, x_cS3, x_cS4, x_cS5, List.getD_cons_zero, List.getD_cons_succ, List.set_cons_zero, List.set_cons_succ, List.length_cons, List.length_nil, Nat.zero_add, true_and, and_true, List.getD_nil, not_true, not_false_eq_true, Int.toNat_natCast, false_implies, true_implies, if_true, if_false, Int.toNat_zero, Int.toNat_one, true_or, or_true, Int.reduceEq, Int.reduceLT, Int.reduceLE, Int.reduceNe, Int.reduceNeg, Int.reduceAdd, Int.reduceSub, Int.reduceMul, Int.reduceToNat, Nat.reduceLT, Nat.reduceLeDiff, Nat.reduceAdd, Nat.reduceEqDiff, Nat.reduceSub, not_false_iff, and_self, implies_true, false_and, and_false, or_self, false_or, or_false, Int.cast_ofNat_Int, Int.natCast_nonneg, SP.f0 hS, SP.f1 hS, SP.f2 hS, SP.l2 hS, SP.a2 hS, SP.e2 hS]
        rw [oadd_id (a := (w : Int)) (by omega) (by omega), oadd_id (a := 260) (by omega) (by omega)]
        refine ih (w + 1) _ (by omega) ⟨a1.put rfl, by rw [upd2_col (by decide)]; exact a2, by rw [upd2_col (by decide)]; exact a3, by rw [upd2_col (by decide)]; exact a4⟩ ?_
        rw [upd2_eq]
        simp only [sWk]
        rw [if_pos y]
      · rw [eB] at y
        simp only [x_push, x_iload, x_lload, x_aload, x_bin, x_div, x_un, x_lbin, x_ldiv, x_lcmp, x_i2l, x_l2i, x_dup, x_pop, x_dup2, x_c1, x_c2, x_null, x_cat1, x_istore, x_astore, x_lstore, x_iinc, x_nol, x_tsw, xsw, x_lsw, xlsw, x_ret, x_zret, x_lret, x_aret, x_vret, x_getI, x_getL, x_getR, x_putI, x_putZ, x_putL, x_iaload, x_zaload, x_aaload, x_iastore, x_zastore, x_alen, x_mm, x_acopy, xpush, xJ, xK, x_cV0, x_cV1, x_cV2, x_cV3, x_cV4, x_cV5, x_cV6, x_cV7, x_cV8, x_cS1, x_cS2, x_cS3, x_cS4, x_cS5, List.getD_cons_zero, List.getD_cons_succ, List.set_cons_zero, List.set_cons_succ, List.length_cons, List.length_nil, Nat.zero_add, true_and, and_true, List.getD_nil, not_true, not_false_eq_true, Int.toNat_natCast, false_implies, true_implies, if_true, if_false, Int.toNat_zero, Int.toNat_one, true_or, or_true, Int.reduceEq, Int.reduceLT, Int.reduceLE, Int.reduceNe, Int.reduceNeg, Int.reduceAdd, Int.reduceSub, Int.reduceMul, Int.reduceToNat, Nat.reduceLT, Nat.reduceLeDiff, Nat.reduceAdd, Nat.reduceEqDiff, Nat.reduceSub, not_false_iff, and_self, implies_true, false_and, and_false, or_self, false_or, or_false, Int.cast_ofNat_Int, Int.natCast_nonneg]
        rw [oadd_id (a := (w : Int)) (by omega) (by omega)]
        refine ih (w + 1) σ' (by omega) hT' ?_
        rw [h3]
        simp only [sWk]
        rw [if_neg y]
  have loop : ∀ (m a : Nat) (σ' : Nat → Nat → Int), a + m = n → s ≤ a → sRun 1 (σ (t + 1)) m a = sRun 1 (σ (t + 1)) (n - s) s → TP σ σ' t n a s → xR M_X2_takeWord (d + 6) (0, 0) 0 [vr t, vu] [] (Γ, σ') Q := by
    intro m
    induction m with
    | zero =>
      intro a σ' ha h1 he hT'
      obtain ⟨a1, a2, a3, a4⟩ := id hT'
      refine b_X2_takeWord_0 _ _ _ _ ?_
      simp only [k_X2_takeWord_0, x_push, x_iload, x_lload, x_aload, x_bin, x_div, x_un, x_lbin, x_ldiv, x_lcmp, x_i2l, x_l2i, x_dup, x_pop, x_dup2, x_c1, x_c2, x_null, x_cat1, x_istore, x_astore, x_lstore, x_iinc, x_nol, x_tsw, xsw, x_lsw, xlsw, x_ret, x_zret, x_lret, x_aret, x_vret, x_getI, x_getL, x_getR, x_putI, x_putZ, x_putL, x_iaload, x_zaload, x_aaload, x_iastore, x_zastore, x_alen, x_mm, x_acopy, xpush, xJ, xK, x_cV0, x_cV1, x_cV2, x_cV3, x_cV4, x_cV5, x_cV6, x_cV7, x_cV8, x_cS1, x_cS2, x_cS3, x_cS4, x_cS5, List.getD_cons_zero, List.getD_cons_succ, List.set_cons_zero, List.set_cons_succ, List.length_cons, List.length_nil, Nat.zero_add, true_and, and_true, List.getD_nil, not_true, not_false_eq_true, Int.toNat_natCast, false_implies, true_implies, if_true, if_false, Int.toNat_zero, Int.toNat_one, true_or, or_true, Int.reduceEq, Int.reduceLT, Int.reduceLE, Int.reduceNe, Int.reduceNeg, Int.reduceAdd, Int.reduceSub, Int.reduceMul, Int.reduceToNat, Nat.reduceLT, Nat.reduceLeDiff, Nat.reduceAdd, Nat.reduceEqDiff, Nat.reduceSub, not_false_iff, and_self, implies_true, false_and, and_false, or_self, false_or, or_false, Int.cast_ofNat_Int, Int.natCast_nonneg, SP.f0 hS, SP.f1 hS, SP.f2 hS, SP.l2 hS, SP.a2 hS, SP.e2 hS, a2, a3, eq_true (show (n : Int) ≤ (a : Int) by omega)]
      simp only [sRun] at he
      rw [← he] at fin
      exact fin 12 0 _ (by omega) ⟨a1.put rfl, by rw [upd2_col (by decide)]; exact a2, by rw [upd2_col (by decide)]; exact a3, by rw [upd2_col (by decide)]; exact a4⟩ (by rw [upd2_eq]; rfl)
    | succ m ih =>
      intro a σ' ha h1 he hT'
      obtain ⟨a1, a2, a3, a4⟩ := id hT'
      have eB : σ' (t + 1) = σ (t + 1) := a1 _ (by omega)
      refine b_X2_takeWord_0 _ _ _ _ ?_
      simp only [k_X2_takeWord_0, x_push, x_iload, x_lload, x_aload, x_bin, x_div, x_un, x_lbin, x_ldiv, x_lcmp, x_i2l, x_l2i, x_dup, x_pop, x_dup2, x_c1, x_c2, x_null, x_cat1, x_istore, x_astore, x_lstore, x_iinc, x_nol, x_tsw, xsw, x_lsw, xlsw, x_ret, x_zret, x_lret, x_aret, x_vret, x_getI, x_getL, x_getR, x_putI, x_putZ, x_putL, x_iaload, x_zaload, x_aaload, x_iastore, x_zastore, x_alen, x_mm, x_acopy, xpush, xJ, xK, x_cV0, x_cV1, x_cV2, x_cV3, x_cV4, x_cV5, x_cV6, x_cV7, x_cV8, x_cS1, x_cS2, x_cS3, x_cS4, x_cS5, List.getD_cons_zero, List.getD_cons_succ, List.set_cons_zero, List.set_cons_succ, List.length_cons, List.length_nil, Nat.zero_add, true_and, and_true, List.getD_nil, not_true, not_false_eq_true, Int.toNat_natCast, false_implies, true_implies, if_true, if_false, Int.toNat_zero, Int.toNat_one, true_or, or_true, Int.reduceEq, Int.reduceLT, Int.reduceLE, Int.reduceNe, Int.reduceNeg, Int.reduceAdd, Int.reduceSub, Int.reduceMul, Int.reduceToNat, Nat.reduceLT, Nat.reduceLeDiff, Nat.reduceAdd, Nat.reduceEqDiff, Nat.reduceSub, not_false_iff, and_self, implies_true, false_and, and_false, or_self, false_or, or_false, Int.cast_ofNat_Int, Int.natCast_nonneg, SP.f0 hS, SP.f1 hS, SP.f2 hS, SP.l2 hS, SP.a2 hS, SP.e2 hS, a2, a3, eq_false (show ¬ ((n : Int) ≤ (a : Int)) by omega), eq_true (show (a : Int) < 160 by omega), eB]
      refine c_isLetter (fun q => ?_) (fun q => ?_)
      · simp only [x_push, x_iload, x_lload, x_aload, x_bin, x_div, x_un, x_lbin, x_ldiv, x_lcmp, x_i2l, x_l2i, x_dup, x_pop, x_dup2, x_c1, x_c2, x_null, x_cat1, x_istore, x_astore, x_lstore, x_iinc, x_nol, x_tsw, xsw, x_lsw, xlsw, x_ret, x_zret, x_lret, x_aret, x_vret, x_getI, x_getL, x_getR, x_putI, x_putZ, x_putL, x_iaload, x_zaload, x_aaload, x_iastore, x_zastore, x_alen, x_mm, x_acopy, xpush, xJ, xK, x_cV0, x_cV1, x_cV2, x_cV3, x_cV4, x_cV5, x_cV6, x_cV7, x_cV8, x_cS1, x_cS2, x_cS3, x_cS4, x_cS5, List.getD_cons_zero, List.getD_cons_succ, List.set_cons_zero, List.set_cons_succ, List.length_cons, List.length_nil, Nat.zero_add, true_and, and_true, List.getD_nil, not_true, not_false_eq_true, Int.toNat_natCast, false_implies, true_implies, if_true, if_false, Int.toNat_zero, Int.toNat_one, true_or, or_true, Int.reduceEq, Int.reduceLT, Int.reduceLE, Int.reduceNe, Int.reduceNeg, Int.reduceAdd, Int.reduceSub, Int.reduceMul, Int.reduceToNat, Nat.reduceLT, Nat.reduceLeDiff, Nat.reduceAdd, Nat.reduceEqDiff, Nat.reduceSub, not_false_iff, and_self, implies_true, false_and, and_false, or_self, false_or, or_false, Int.cast_ofNat_Int, Int.natCast_nonneg, SP.f0 hS, SP.f1 hS, SP.f2 hS, SP.l2 hS, SP.a2 hS, SP.e2 hS, a3]
        rw [oadd_id (a := (a : Int)) (b := 1) (by omega) (by omega)]
        exact ih (a + 1) _ (by omega) (by omega) (by rw [← he, sRun_step (sW1.mpr q)]) ⟨a1.put rfl, by rw [upd2_col (by decide)]; exact a2, upd2_eq, by rw [upd2_col (by decide)]; exact a4⟩
      · simp only [x_push, x_iload, x_lload, x_aload, x_bin, x_div, x_un, x_lbin, x_ldiv, x_lcmp, x_i2l, x_l2i, x_dup, x_pop, x_dup2, x_c1, x_c2, x_null, x_cat1, x_istore, x_astore, x_lstore, x_iinc, x_nol, x_tsw, xsw, x_lsw, xlsw, x_ret, x_zret, x_lret, x_aret, x_vret, x_getI, x_getL, x_getR, x_putI, x_putZ, x_putL, x_iaload, x_zaload, x_aaload, x_iastore, x_zastore, x_alen, x_mm, x_acopy, xpush, xJ, xK, x_cV0, x_cV1, x_cV2, x_cV3, x_cV4, x_cV5, x_cV6, x_cV7, x_cV8, x_cS1, x_cS2, x_cS3, x_cS4, x_cS5, List.getD_cons_zero, List.getD_cons_succ, List.set_cons_zero, List.set_cons_succ, List.length_cons, List.length_nil, Nat.zero_add, true_and, and_true, List.getD_nil, not_true, not_false_eq_true, Int.toNat_natCast, false_implies, true_implies, if_true, if_false, Int.toNat_zero, Int.toNat_one, true_or, or_true, Int.reduceEq, Int.reduceLT, Int.reduceLE, Int.reduceNe, Int.reduceNeg, Int.reduceAdd, Int.reduceSub, Int.reduceMul, Int.reduceToNat, Nat.reduceLT, Nat.reduceLeDiff, Nat.reduceAdd, Nat.reduceEqDiff, Nat.reduceSub, not_false_iff, and_self, implies_true, false_and, and_false, or_self, false_or, or_false, Int.cast_ofNat_Int, Int.natCast_nonneg, SP.f0 hS, SP.f1 hS, SP.f2 hS, SP.l2 hS, SP.a2 hS, SP.e2 hS]
        rw [sRun_stop (fun z => q (sW1.mp z))] at he
        rw [← he] at fin
        exact fin 12 0 _ (by omega) ⟨a1.put rfl, by rw [upd2_col (by decide)]; exact a2, by rw [upd2_col (by decide)]; exact a3, by rw [upd2_col (by decide)]; exact a4⟩ (by rw [upd2_eq]; rfl)
  exact loop (n - s) s σ (by omega) (Nat.le_refl _) rfl hT
/-- what an advance leaves -/
theorem TK_of {σ' : Nat → Nat → Int} {B : Nat → Int} {a m : Nat} (ha : a ≤ n) (hm : n < a + m) (h1 : σ' t 1 = n) (h3 : σ' t 3 = (sTok B n a).1.1) (h4 : σ' t 4 = (sTok B n a).1.2.2) (h5 : (sTok B n a).1.1 = 258 → σ' t 5 = (sTok B n a).1.2.1) (h2 : (sTok B n a).1.1 ≠ 256 → σ' t 2 = (sTok B n a).2) : TK σ' t n B (sToks B n m a) := by
  obtain ⟨m, rfl⟩ : ∃ j, m = j + 1 := ⟨m - 1, by omega⟩
  refine ⟨h1, h3, h4, h5, fun e => by simp [sToks] at e, fun e1 e2 => ?_⟩
  have e1 : (sTok B n a).1.1 ≠ 256 := e1
  have e2 : (sTok B n a).1.1 ≠ 257 := e2
  have he := sTok_end ha e1
  refine ⟨(sTok B n a).2, m, h2 e1, he.2, by omega, ?_⟩
  simp only [sToks, List.tail_cons]
  rw [if_neg (by omega)]
set_option maxHeartbeats 2000000 in
theorem c_advance {a m : Nat} {B : Nat → Int} (hS : SP Γ t) (hn : n ≤ 160) (h1 : σ t 1 = n) (h2 : σ t 2 = a) (ha : a ≤ n) (hm : n < a + m) (hB : σ (t + 1) = B)
    (hQ : ∀ σ', Sm (fun q => q = t) σ σ' → TK σ' t n B (sToks B n m a) → Q vu (Γ, σ')) : xRM M_X2_advance (d + 7) (0, 0) [vr t] (Γ, σ) Q := by
  refine xRM_of (by decide) (Nat.le_of_ble_eq_true rfl) ?_
  have fin : ∀ (s : Nat) (σ' : Nat → Nat → Int), s ≤ n → s = sRun 0 B (n - a) a → Sm (fun q => q = t) σ σ' → σ' t 1 = n → σ' t 2 = s → xR M_X2_advance (d + 7) (0, 0) 52 [vr t] [] (Γ, σ') Q := by
    intro s σ' hs he hm' b1 b2
    have r0 : Sm (fun q => q = t) σ' σ' := Sm.rf
    have eB : σ' (t + 1) = B := by rw [hm' _ (by omega)]; exact hB
    have eT : sTok B n a = sTokAt B n s := by rw [he]; rfl
    have key : ∀ σ'', Sm (fun q => q = t) σ' σ'' → σ'' t 1 = n → σ'' t 3 = (sTokAt B n s).1.1 → σ'' t 4 = (sTokAt B n s).1.2.2 → ((sTokAt B n s).1.1 = 258 → σ'' t 5 = (sTokAt B n s).1.2.1) → ((sTokAt B n s).1.1 ≠ 256 → σ'' t 2 = (sTokAt B n s).2) → Q vu (Γ, σ'') := fun σ'' g0 g1 g3 g4 g5 g2 => hQ σ'' (hm'.tr g0) (TK_of ha hm g1 (by rw [eT]; exact g3) (by rw [eT]; exact g4) (by rw [eT]; exact g5) (by rw [eT]; exact g2))
    refine b_X2_advance_52 _ _ _ _ ?_
    by_cases z : n ≤ s
    · have e : sTokAt B n s = ((256, 0, n), n) := by unfold sTokAt; rw [if_pos z]
      rw [e] at key
      simp only [k_X2_advance_52, x_push, x_iload, x_lload, x_aload, x_bin, x_div, x_un, x_lbin, x_ldiv, x_lcmp, x_i2l, x_l2i, x_dup, x_pop, x_dup2, x_c1, x_c2, x_null, x_cat1, x_istore, x_astore, x_lstore, x_iinc, x_nol, x_tsw, xsw, x_lsw, xlsw, x_ret, x_zret, x_lret, x_aret, x_vret, x_getI, x_getL, x_getR, x_putI, x_putZ, x_putL, x_iaload, x_zaload, x_aaload, x_iastore, x_zastore, x_alen, x_mm, x_acopy, xpush, xJ, xK, x_cV0, x_cV1, x_cV2, x_cV3, x_cV4, x_cV5, x_cV6, x_cV7, x_cV8, x_cS1, x_cS2, x_cS3, x_cS4, x_cS5, List.getD_cons_zero, List.getD_cons_succ, List.set_cons_zero, List.set_cons_succ, List.length_cons, List.length_nil, Nat.zero_add, true_and, and_true, List.getD_nil, not_true, not_false_eq_true, Int.toNat_natCast, false_implies, true_implies, if_true, if_false, Int.toNat_zero, Int.toNat_one, true_or, or_true, Int.reduceEq, Int.reduceLT, Int.reduceLE, Int.reduceNe, Int.reduceNeg, Int.reduceAdd, Int.reduceSub, Int.reduceMul, Int.reduceToNat, Nat.reduceLT, Nat.reduceLeDiff, Nat.reduceAdd, Nat.reduceEqDiff, Nat.reduceSub, not_false_iff, and_self, implies_true, false_and, and_false, or_self, false_or, or_false, Int.cast_ofNat_Int, Int.natCast_nonneg, SP.f0 hS, SP.f1 hS, SP.f2 hS, SP.l2 hS, SP.a2 hS, SP.e2 hS, b1, b2, upd2_col (show 2 ≠ 4 by decide), upd2_col (show 1 ≠ 4 by decide), eq_false (show ¬ ((s : Int) < (n : Int)) by omega)]
      exact key _ ((r0.put rfl).put rfl) (by rw [upd2_col (by decide), upd2_col (by decide)]; exact b1) upd2_eq (by rw [upd2_col (by decide), upd2_eq]; congr 1; show s = n; omega) (fun q => by cases q) (fun q => absurd rfl q)
    · simp only [k_X2_advance_52, x_push, x_iload, x_lload, x_aload, x_bin, x_div, x_un, x_lbin, x_ldiv, x_lcmp, x_i2l, x_l2i, x_dup, x_pop, x_dup2, x_c1, x_c2, x_null, x_cat1, x_istore, x_astore, x_lstore, x_iinc, x_nol, x_tsw, xsw, x_lsw, xlsw, x_ret, x_zret, x_lret, x_aret, x_vret, x_getI, x_getL, x_getR, x_putI, x_putZ, x_putL, x_iaload, x_zaload, x_aaload, x_iastore, x_zastore, x_alen, x_mm, x_acopy, xpush, xJ, xK, x_cV0, x_cV1, x_cV2, x_cV3, x_cV4, x_cV5, x_cV6, x_cV7, x_cV8, x_cS1, x_cS2, x_cS3, x_cS4, x_cS5, List.getD_cons_zero, List.getD_cons_succ, List.set_cons_zero, List.set_cons_succ, List.length_cons, List.length_nil, Nat.zero_add, true_and, and_true, List.getD_nil, not_true, not_false_eq_true, Int.toNat_natCast, false_implies, true_implies, if_true, if_false, Int.toNat_zero, Int.toNat_one, true_or, or_true, Int.reduceEq, Int.reduceLT, Int.reduceLE, Int.reduceNe, Int.reduceNeg, Int.reduceAdd, Int.reduceSub, Int.reduceMul, Int.reduceToNat, Nat.reduceLT, Nat.reduceLeDiff, Nat.reduceAdd, Nat.reduceEqDiff, Nat.reduceSub, not_false_iff, and_self, implies_true, false_and, and_false, or_self, false_or, or_false, Int.cast_ofNat_Int, Int.natCast_nonneg, SP.f0 hS, SP.f1 hS, SP.f2 hS, SP.l2 hS, SP.a2 hS, SP.e2 hS, b1, b2, upd2_col (show 2 ≠ 4 by decide), upd2_col (show 1 ≠ 4 by decide), upd2_row (show t + 1 ≠ t by omega), eB, eq_true (show (s : Int) < (n : Int) by omega), eq_true (show (s : Int) < 160 by omega)]
      have hTP : TP (upd2 σ' t 4 (s : Int)) (upd2 σ' t 4 (s : Int)) t n s s := ⟨Sm.rf, by rw [upd2_col (by decide)]; exact b1, by rw [upd2_col (by decide)]; exact b2, upd2_eq⟩
      have eB' : upd2 σ' t 4 (s : Int) (t + 1) = B := by rw [upd2_row (by omega)]; exact eB
      refine c_isLetter (fun q => ?_) (fun q => ?_)
      · have e : sTokAt B n s = ((sWk B s (sRun 1 B (n - s) s) 12, 0, s), sRun 1 B (n - s) s) := by unfold sTokAt; rw [if_neg z, if_pos (sW1.mpr q)]
        rw [e] at key
        simp only [x_push, x_iload, x_lload, x_aload, x_bin, x_div, x_un, x_lbin, x_ldiv, x_lcmp, x_i2l, x_l2i, x_dup, x_pop, x_dup2, x_c1, x_c2, x_null, x_cat1, x_istore, x_astore, x_lstore, x_iinc, x_nol, x_tsw, xsw, x_lsw, xlsw, x_ret, x_zret, x_lret, x_aret, x_vret, x_getI, x_getL, x_getR, x_putI, x_putZ, x_putL, x_iaload, x_zaload, x_aaload, x_iastore, x_zastore, x_alen, x_mm, x_acopy, xpush, xJ, xK, x_cV0, x_cV1, x_cV2, x_cV3, x_cV4, x_cV5, x_cV6, x_cV7, x_cV8, x_cS1, x_cS2, x_cS3, x_cS4, x_cS5, List.getD_cons_zero, List.getD_cons_succ, List.set_cons_zero, List.set_cons_succ, List.length_cons, List.length_nil, Nat.zero_add, true_and, and_true, List.getD_nil, not_true, not_false_eq_true, Int.toNat_natCast, false_implies, true_implies, if_true, if_false, Int.toNat_zero, Int.toNat_one, true_or, or_true, Int.reduceEq, Int.reduceLT, Int.reduceLE, Int.reduceNe, Int.reduceNeg, Int.reduceAdd, Int.reduceSub, Int.reduceMul, Int.reduceToNat, Nat.reduceLT, Nat.reduceLeDiff, Nat.reduceAdd, Nat.reduceEqDiff, Nat.reduceSub, not_false_iff, and_self, implies_true, false_and, and_false, or_self, false_or, or_false, Int.cast_ofNat_Int, Int.natCast_nonneg, SP.f0 hS, SP.f1 hS, SP.f2 hS, SP.l2 hS, SP.a2 hS, SP.e2 hS]
        refine c_takeWord hS hn hs hTP (fun σ2 c1 c3 => ?_)
        rw [eB'] at c1 c3
        obtain ⟨d1, d2, d3, d4⟩ := c1
        simp only [x_push, x_iload, x_lload, x_aload, x_bin, x_div, x_un, x_lbin, x_ldiv, x_lcmp, x_i2l, x_l2i, x_dup, x_pop, x_dup2, x_c1, x_c2, x_null, x_cat1, x_istore, x_astore, x_lstore, x_iinc, x_nol, x_tsw, xsw, x_lsw, xlsw, x_ret, x_zret, x_lret, x_aret, x_vret, x_getI, x_getL, x_getR, x_putI, x_putZ, x_putL, x_iaload, x_zaload, x_aaload, x_iastore, x_zastore, x_alen, x_mm, x_acopy, xpush, xJ, xK, x_cV0, x_cV1, x_cV2, x_cV3, x_cV4, x_cV5, x_cV6, x_cV7, x_cV8, x_cS1, x_cS2, x_cS3, x_cS4, x_cS5, List.getD_cons_zero, List.getD_cons_succ, List.set_cons_zero, List.set_cons_succ, List.length_cons, List.length_nil, Nat.zero_add, true_and, and_true, List.getD_nil, not_true, not_false_eq_true, Int.toNat_natCast, false_implies, true_implies, if_true, if_false, Int.toNat_zero, Int.toNat_one, true_or, or_true, Int.reduceEq, Int.reduceLT, Int.reduceLE, Int.reduceNe, Int.reduceNeg, Int.reduceAdd, Int.reduceSub, Int.reduceMul, Int.reduceToNat, Nat.reduceLT, Nat.reduceLeDiff, Nat.reduceAdd, Nat.reduceEqDiff, Nat.reduceSub, not_false_iff, and_self, implies_true, false_and, and_false, or_self, false_or, or_false, Int.cast_ofNat_Int, Int.natCast_nonneg]
        refine key σ2 ((r0.put (j := 4) (v := (s : Int)) rfl).tr d1) d2 c3 d4 (fun y => ?_) (fun _ => d3)
        have hk : ∀ w, sWk B s (sRun 1 B (n - s) s) w ≠ 258 := fun w => by
          induction w with
          | zero => simp [sWk]
          | succ w ih =>
            simp only [sWk]
            split
            · omega
            · exact ih
        exact absurd y (hk 12)
      · simp only [x_push, x_iload, x_lload, x_aload, x_bin, x_div, x_un, x_lbin, x_ldiv, x_lcmp, x_i2l, x_l2i, x_dup, x_pop, x_dup2, x_c1, x_c2, x_null, x_cat1, x_istore, x_astore, x_lstore, x_iinc, x_nol, x_tsw, xsw, x_lsw, xlsw, x_ret, x_zret, x_lret, x_aret, x_vret, x_getI, x_getL, x_getR, x_putI, x_putZ, x_putL, x_iaload, x_zaload, x_aaload, x_iastore, x_zastore, x_alen, x_mm, x_acopy, xpush, xJ, xK, x_cV0, x_cV1, x_cV2, x_cV3, x_cV4, x_cV5, x_cV6, x_cV7, x_cV8, x_cS1, x_cS2, x_cS3, x_cS4, x_cS5, List.getD_cons_zero, List.getD_cons_succ, List.set_cons_zero, List.set_cons_succ, List.length_cons, List.length_nil, Nat.zero_add, true_and, and_true, List.getD_nil, not_true, not_false_eq_true, Int.toNat_natCast, false_implies, true_implies, if_true, if_false, Int.toNat_zero, Int.toNat_one, true_or, or_true, Int.reduceEq, Int.reduceLT, Int.reduceLE, Int.reduceNe, Int.reduceNeg, Int.reduceAdd, Int.reduceSub, Int.reduceMul, Int.reduceToNat, Nat.reduceLT, Nat.reduceLeDiff, Nat.reduceAdd, Nat.reduceEqDiff, Nat.reduceSub, not_false_iff, and_self, implies_true, false_and, and_false, or_self, false_or, or_false, Int.cast_ofNat_Int, Int.natCast_nonneg, SP.f0 hS, SP.f1 hS, SP.f2 hS, SP.l2 hS, SP.a2 hS, SP.e2 hS, b1, b2, upd2_col (show 2 ≠ 4 by decide), upd2_col (show 1 ≠ 4 by decide), upd2_row (show t + 1 ≠ t by omega), eB, eq_true (show (s : Int) < 160 by omega)]
        refine c_isDigit (fun q2 => ?_) (fun q2 => ?_)
        · have e : sTokAt B n s = (((if sRun 2 B (n - s) s - s ≤ 4 then 258 else 257), sWn B s (sRun 2 B (n - s) s - s), s), sRun 2 B (n - s) s) := by unfold sTokAt; rw [if_neg z, if_neg (fun y => q (sW1.mp y)), if_pos (sW2.mpr q2)]
          rw [e] at key
          simp only [x_push, x_iload, x_lload, x_aload, x_bin, x_div, x_un, x_lbin, x_ldiv, x_lcmp, x_i2l, x_l2i, x_dup, x_pop, x_dup2, x_c1, x_c2, x_null, x_cat1, x_istore, x_astore, x_lstore, x_iinc, x_nol, x_tsw, xsw, x_lsw, xlsw, x_ret, x_zret, x_lret, x_aret, x_vret, x_getI, x_getL, x_getR, x_putI, x_putZ, x_putL, x_iaload, x_zaload, x_aaload, x_iastore, x_zastore, x_alen, x_mm, x_acopy, xpush, xJ, xK, x_cV0, x_cV1, x_cV2, x_cV3, x_cV4, x_cV5, x_cV6, x_cV7, x_cV8, x_cS1, x_cS2, x_cS3, x_cS4, x_cS5, List.getD_cons_zero, List.getD_cons_succ, List.set_cons_zero, List.set_cons_succ, List.length_cons, List.length_nil, Nat.zero_add, true_and, and_true, List.getD_nil, not_true, not_false_eq_true, Int.toNat_natCast, false_implies, true_implies, if_true, if_false, Int.toNat_zero, Int.toNat_one, true_or, or_true, Int.reduceEq, Int.reduceLT, Int.reduceLE, Int.reduceNe, Int.reduceNeg, Int.reduceAdd, Int.reduceSub, Int.reduceMul, Int.reduceToNat, Nat.reduceLT, Nat.reduceLeDiff, Nat.reduceAdd, Nat.reduceEqDiff, Nat.reduceSub, not_false_iff, and_self, implies_true, false_and, and_false, or_self, false_or, or_false, Int.cast_ofNat_Int, Int.natCast_nonneg, SP.f0 hS, SP.f1 hS, SP.f2 hS, SP.l2 hS, SP.a2 hS, SP.e2 hS]
          refine c_takeNumber hS hn hs hTP (fun σ2 c1 c3 c5 => ?_)
          rw [eB'] at c1 c3 c5
          obtain ⟨d1, d2, d3, d4⟩ := c1
          simp only [x_push, x_iload, x_lload, x_aload, x_bin, x_div, x_un, x_lbin, x_ldiv, x_lcmp, x_i2l, x_l2i, x_dup, x_pop, x_dup2, x_c1, x_c2, x_null, x_cat1, x_istore, x_astore, x_lstore, x_iinc, x_nol, x_tsw, xsw, x_lsw, xlsw, x_ret, x_zret, x_lret, x_aret, x_vret, x_getI, x_getL, x_getR, x_putI, x_putZ, x_putL, x_iaload, x_zaload, x_aaload, x_iastore, x_zastore, x_alen, x_mm, x_acopy, xpush, xJ, xK, x_cV0, x_cV1, x_cV2, x_cV3, x_cV4, x_cV5, x_cV6, x_cV7, x_cV8, x_cS1, x_cS2, x_cS3, x_cS4, x_cS5, List.getD_cons_zero, List.getD_cons_succ, List.set_cons_zero, List.set_cons_succ, List.length_cons, List.length_nil, Nat.zero_add, true_and, and_true, List.getD_nil, not_true, not_false_eq_true, Int.toNat_natCast, false_implies, true_implies, if_true, if_false, Int.toNat_zero, Int.toNat_one, true_or, or_true, Int.reduceEq, Int.reduceLT, Int.reduceLE, Int.reduceNe, Int.reduceNeg, Int.reduceAdd, Int.reduceSub, Int.reduceMul, Int.reduceToNat, Nat.reduceLT, Nat.reduceLeDiff, Nat.reduceAdd, Nat.reduceEqDiff, Nat.reduceSub, not_false_iff, and_self, implies_true, false_and, and_false, or_self, false_or, or_false, Int.cast_ofNat_Int, Int.natCast_nonneg]
          refine key σ2 ((r0.put (j := 4) (v := (s : Int)) rfl).tr d1) d2 c3 d4 (fun y => ?_) (fun _ => d3)
          have h4 : sRun 2 B (n - s) s - s ≤ 4 := by
            by_cases h4 : sRun 2 B (n - s) s - s ≤ 4
            · exact h4
            · rw [if_neg h4] at y
              cases y
          rw [c5]
          exact (sWorth_n h4 (fun i hi => sW2.mp (sRun_all (n - s) s (s + i) (by omega) (by omega)))).1
        · simp only [x_push, x_iload, x_lload, x_aload, x_bin, x_div, x_un, x_lbin, x_ldiv, x_lcmp, x_i2l, x_l2i, x_dup, x_pop, x_dup2, x_c1, x_c2, x_null, x_cat1, x_istore, x_astore, x_lstore, x_iinc, x_nol, x_tsw, xsw, x_lsw, xlsw, x_ret, x_zret, x_lret, x_aret, x_vret, x_getI, x_getL, x_getR, x_putI, x_putZ, x_putL, x_iaload, x_zaload, x_aaload, x_iastore, x_zastore, x_alen, x_mm, x_acopy, xpush, xJ, xK, x_cV0, x_cV1, x_cV2, x_cV3, x_cV4, x_cV5, x_cV6, x_cV7, x_cV8, x_cS1, x_cS2, x_cS3, x_cS4, x_cS5, List.getD_cons_zero, List.getD_cons_succ, List.set_cons_zero, List.set_cons_succ, List.length_cons, List.length_nil, Nat.zero_add, true_and, and_true, List.getD_nil, not_true, not_false_eq_true, Int.toNat_natCast, false_implies, true_implies, if_true, if_false, Int.toNat_zero, Int.toNat_one, true_or, or_true, Int.reduceEq, Int.reduceLT, Int.reduceLE, Int.reduceNe, Int.reduceNeg, Int.reduceAdd, Int.reduceSub, Int.reduceMul, Int.reduceToNat, Nat.reduceLT, Nat.reduceLeDiff, Nat.reduceAdd, Nat.reduceEqDiff, Nat.reduceSub, not_false_iff, and_self, implies_true, false_and, and_false, or_self, false_or, or_false, Int.cast_ofNat_Int, Int.natCast_nonneg, SP.f0 hS, SP.f1 hS, SP.f2 hS, SP.l2 hS, SP.a2 hS, SP.e2 hS, b1, b2, upd2_col (show 2 ≠ 4 by decide), upd2_col (show 1 ≠ 4 by decide), upd2_row (show t + 1 ≠ t by omega), eB, eq_true (show (s : Int) < 160 by omega)]
          have e : sTokAt B n s = (((if (40 ≤ B s ∧ B s ≤ 43) ∨ B s = 45 ∨ (59 ≤ B s ∧ B s ≤ 61) then B s else 257), 0, s), s + 1) := by unfold sTokAt; rw [if_neg z, if_neg (fun y => q (sW1.mp y)), if_neg (fun y => q2 (sW2.mp y))]
          rw [e] at key
          refine c_isSign (fun q3 => ?_) (fun q3 => ?_)
          · unfold isSgn at q3
            rw [if_pos q3] at key
            simp only [x_push, x_iload, x_lload, x_aload, x_bin, x_div, x_un, x_lbin, x_ldiv, x_lcmp, x_i2l, x_l2i, x_dup, x_pop, x_dup2, x_c1, x_c2, x_null, x_cat1, x_istore, x_astore, x_lstore, x_iinc, x_nol, x_tsw, xsw, x_lsw, xlsw, x_ret, x_zret, x_lret, x_aret, x_vret, x_getI, x_getL, x_getR, x_putI, x_putZ, x_putL, x_iaload, x_zaload, x_aaload, x_iastore, x_zastore, x_alen, x_mm, x_acopy, xpush, xJ, xK, x_cV0, x_cV1, x_cV2, x_cV3, x_cV4, x_cV5, x_cV6, x_cV7, x_cV8, x_cS1, x_cS2, x_cS3, x_cS4, x_cS5, List.getD_cons_zero, List.getD_cons_succ, List.set_cons_zero, List.set_cons_succ, List.length_cons, List.length_nil, Nat.zero_add, true_and, and_true, List.getD_nil, not_true, not_false_eq_true, Int.toNat_natCast, false_implies, true_implies, if_true, if_false, Int.toNat_zero, Int.toNat_one, true_or, or_true, Int.reduceEq, Int.reduceLT, Int.reduceLE, Int.reduceNe, Int.reduceNeg, Int.reduceAdd, Int.reduceSub, Int.reduceMul, Int.reduceToNat, Nat.reduceLT, Nat.reduceLeDiff, Nat.reduceAdd, Nat.reduceEqDiff, Nat.reduceSub, not_false_iff, and_self, implies_true, false_and, and_false, or_self, false_or, or_false, Int.cast_ofNat_Int, Int.natCast_nonneg, SP.f0 hS, SP.f1 hS, SP.f2 hS, SP.l2 hS, SP.a2 hS, SP.e2 hS, b1, b2, upd2_col (show 2 ≠ 3 by decide), upd2_col (show 2 ≠ 4 by decide), upd2_col (show 1 ≠ 4 by decide), upd2_row (show t + 1 ≠ t by omega), eB, eq_true (show (s : Int) < 160 by omega)]
            rw [oadd_id (by omega) (by omega)]
            exact key _ (((r0.put rfl).put rfl).put rfl) (by rw [upd2_col (by decide), upd2_col (by decide), upd2_col (by decide)]; exact b1) (by rw [upd2_col (by decide), upd2_eq]) (by rw [upd2_col (by decide), upd2_col (by decide), upd2_eq]) (fun y => by have y : B s = 258 := y; omega) (fun _ => by rw [upd2_eq]; rfl)
          · unfold isSgn at q3
            rw [if_neg q3] at key
            simp only [x_push, x_iload, x_lload, x_aload, x_bin, x_div, x_un, x_lbin, x_ldiv, x_lcmp, x_i2l, x_l2i, x_dup, x_pop, x_dup2, x_c1, x_c2, x_null, x_cat1, x_istore, x_astore, x_lstore, x_iinc, x_nol, x_tsw, xsw, x_lsw, xlsw, x_ret, x_zret, x_lret, x_aret, x_vret, x_getI, x_getL, x_getR, x_putI, x_putZ, x_putL, x_iaload, x_zaload, x_aaload, x_iastore, x_zastore, x_alen, x_mm, x_acopy, xpush, xJ, xK, x_cV0, x_cV1, x_cV2, x_cV3, x_cV4, x_cV5, x_cV6, x_cV7, x_cV8, x_cS1, x_cS2, x_cS3, x_cS4, x_cS5, List.getD_cons_zero, List.getD_cons_succ, List.set_cons_zero, List.set_cons_succ, List.length_cons, List.length_nil, Nat.zero_add, true_and, and_true, List.getD_nil, not_true, not_false_eq_true, Int.toNat_natCast, false_implies, true_implies, if_true, if_false, Int.toNat_zero, Int.toNat_one, true_or, or_true, Int.reduceEq, Int.reduceLT, Int.reduceLE, Int.reduceNe, Int.reduceNeg, Int.reduceAdd, Int.reduceSub, Int.reduceMul, Int.reduceToNat, Nat.reduceLT, Nat.reduceLeDiff, Nat.reduceAdd, Nat.reduceEqDiff, Nat.reduceSub, not_false_iff, and_self, implies_true, false_and, and_false, or_self, false_or, or_false, Int.cast_ofNat_Int, Int.natCast_nonneg, SP.f0 hS, SP.f1 hS, SP.f2 hS, SP.l2 hS, SP.a2 hS, SP.e2 hS, b1, b2, upd2_col (show 2 ≠ 3 by decide), upd2_col (show 2 ≠ 4 by decide), upd2_col (show 1 ≠ 4 by decide)]
            rw [oadd_id (by omega) (by omega)]
            exact key _ (((r0.put rfl).put rfl).put rfl) (by rw [upd2_col (by decide), upd2_col (by decide), upd2_col (by decide)]; exact b1) (by rw [upd2_col (by decide), upd2_eq]) (by rw [upd2_col (by decide), upd2_col (by decide), upd2_eq]) (fun y => by cases y) (fun _ => by rw [upd2_eq]; rfl)
  have loop : ∀ (m' a' : Nat) (σ' : Nat → Nat → Int), a' + m' = n → sRun 0 B m' a' = sRun 0 B (n - a) a → Sm (fun q => q = t) σ σ' → σ' t 1 = n → σ' t 2 = a' → xR M_X2_advance (d + 7) (0, 0) 0 [vr t] [] (Γ, σ') Q := by
    intro m'
    induction m' with
    | zero =>
      intro a' σ' hi he hm' b1 b2
      refine b_X2_advance_0 _ _ _ _ ?_
      simp only [k_X2_advance_0, x_push, x_iload, x_lload, x_aload, x_bin, x_div, x_un, x_lbin, x_ldiv, x_lcmp, x_i2l, x_l2i, x_dup, x_pop, x_dup2, x_c1, x_c2, x_null, x_cat1, x_istore, x_astore, x_lstore, x_iinc, x_nol, x_tsw, xsw, x_lsw, xlsw, x_ret, x_zret, x_lret, x_aret, x_vret, x_getI, x_getL, x_getR, x_putI, x_putZ, x_putL, x_iaload, x_zaload, x_aaload, x_iastore, x_zastore, x_alen, x_mm, x_acopy, xpush, xJ, xK, x_cV0, x_cV1, x_cV2, x_cV3, x_cV4, x_cV5, x_cV6, x_cV7, x_cV8, x_cS1, x_cS2, x_cS3, x_cS4, x_cS5, List.getD_cons_zero, List.getD_cons_succ, List.set_cons_zero, List.set_cons_succ, List.length_cons, List.length_nil, Nat.zero_add, true_and, and_true, List.getD_nil, not_true, not_false_eq_true, Int.toNat_natCast, false_implies, true_implies, if_true, if_false, Int.toNat_zero, Int.toNat_one, true_or, or_true, Int.reduceEq, Int.reduceLT, Int.reduceLE, Int.reduceNe, Int.reduceNeg, Int.reduceAdd, Int.reduceSub, Int.reduceMul, Int.reduceToNat, Nat.reduceLT, Nat.reduceLeDiff, Nat.reduceAdd, Nat.reduceEqDiff, Nat.reduceSub, not_false_iff, and_self, implies_true, false_and, and_false, or_self, false_or, or_false, Int.cast_ofNat_Int, Int.natCast_nonneg, SP.f0 hS, SP.f1 hS, SP.f2 hS, SP.l2 hS, SP.a2 hS, SP.e2 hS, b1, b2, eq_true (show (n : Int) ≤ (a' : Int) by omega)]
      exact fin a' σ' (by omega) he hm' b1 b2
    | succ m' ih =>
      intro a' σ' hi he hm' b1 b2
      have eB : σ' (t + 1) = B := by rw [hm' _ (by omega)]; exact hB
      have go : (B a' = 32 ∨ B a' = 10) → xR M_X2_advance (d + 7) (0, 0) 0 [vr t] [] (Γ, upd2 σ' t 2 (oadd (a' : Int) 1)) Q := fun z => by
        rw [oadd_id (by omega) (by omega)]
        exact ih (a' + 1) _ (by omega) (by rw [← he, sRun_step (sW0.mpr z)]) (hm'.put rfl) (by rw [upd2_col (by decide)]; exact b1) upd2_eq
      refine b_X2_advance_0 _ _ _ _ ?_
      simp only [k_X2_advance_0, x_push, x_iload, x_lload, x_aload, x_bin, x_div, x_un, x_lbin, x_ldiv, x_lcmp, x_i2l, x_l2i, x_dup, x_pop, x_dup2, x_c1, x_c2, x_null, x_cat1, x_istore, x_astore, x_lstore, x_iinc, x_nol, x_tsw, xsw, x_lsw, xlsw, x_ret, x_zret, x_lret, x_aret, x_vret, x_getI, x_getL, x_getR, x_putI, x_putZ, x_putL, x_iaload, x_zaload, x_aaload, x_iastore, x_zastore, x_alen, x_mm, x_acopy, xpush, xJ, xK, x_cV0, x_cV1, x_cV2, x_cV3, x_cV4, x_cV5, x_cV6, x_cV7, x_cV8, x_cS1, x_cS2, x_cS3, x_cS4, x_cS5, List.getD_cons_zero, List.getD_cons_succ, List.set_cons_zero, List.set_cons_succ, List.length_cons, List.length_nil, Nat.zero_add, true_and, and_true, List.getD_nil, not_true, not_false_eq_true, Int.toNat_natCast, false_implies, true_implies, if_true, if_false, Int.toNat_zero, Int.toNat_one, true_or, or_true, Int.reduceEq, Int.reduceLT, Int.reduceLE, Int.reduceNe, Int.reduceNeg, Int.reduceAdd, Int.reduceSub, Int.reduceMul, Int.reduceToNat, Nat.reduceLT, Nat.reduceLeDiff, Nat.reduceAdd, Nat.reduceEqDiff, Nat.reduceSub, not_false_iff, and_self, implies_true, false_and, and_false, or_self, false_or, or_false, Int.cast_ofNat_Int, Int.natCast_nonneg, SP.f0 hS, SP.f1 hS, SP.f2 hS, SP.l2 hS, SP.a2 hS, SP.e2 hS, b1, b2, eB, eq_false (show ¬ ((n : Int) ≤ (a' : Int)) by omega), eq_true (show (a' : Int) < 160 by omega)]
      refine ⟨fun q => go (Or.inl q), fun q => ⟨fun q2 => ?_, fun q2 => go (Or.inr (Classical.not_not.mp q2))⟩⟩
      exact fin a' σ' (by omega) (by rw [← he, sRun_stop (fun z => (sW0.mp z).elim q q2)]) hm' b1 b2
  exact loop (n - a) a σ (by omega) rfl Sm.rf h1 h2
end Tape
