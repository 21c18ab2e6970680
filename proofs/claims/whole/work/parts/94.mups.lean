/-! ===== the model's calls: joy by some figures only, missed ===== -/
/-- only the figures of a set may be shown -/
def uU (A : Nat → Nat → Int) (u : Int) (n : Nat) : Nat → Nat → Int := fun k f => if k = 3 ∧ f < n ∧ ¬ xbit u f = 1 then 0 else A k f
theorem uU_row {A : Nat → Nat → Int} {u : Int} {n k : Nat} (h : k ≠ 3) : uU A u n k = A k := by
  funext f
  unfold uU
  rw [if_neg (fun z => h z.1)]
theorem uU_zero {A : Nat → Nat → Int} {u : Int} : uU A u 0 = A := by
  funext k f
  unfold uU
  rw [if_neg (by omega)]
theorem uU_step {A : Nat → Nat → Int} {u : Int} {f : Nat} : upd2 (uU A u f) 3 f (if xbit u f = 1 then A 3 f else 0) = uU A u (f + 1) := by
  funext k i
  rw [upd2_at]
  unfold uU
  by_cases e : k = 3 ∧ i = f
  · rw [if_pos e, e.1, e.2]
    by_cases z : xbit u f = 1
    · rw [if_pos z, if_neg (fun y => y.2.2 z)]
    · rw [if_neg z, if_pos ⟨rfl, by omega, z⟩]
  · rw [if_neg e]
    by_cases z : k = 3 ∧ i < f ∧ ¬ xbit u i = 1
    · rw [if_pos z, if_pos ⟨z.1, by omega, z.2.2⟩]
    · rw [if_neg z, if_neg (fun y => z ⟨y.1, by omega, y.2.2⟩)]
theorem AI.ups {nf nc tc : Nat} {A : Nat → Nat → Int} {u : Int} (h : AI nf nc tc A) : AI nf nc tc (uU A u nf) := by
  obtain ⟨a1, a2, a3, a4, a5, a6⟩ := h
  refine ⟨a1, a2, by rw [uU_row (by decide)]; exact a3, by rw [uU_row (by decide)]; exact a4, fun f hf => ?_, fun c hc => ?_⟩
  · rw [uU_row (k := 1) (by decide), uU_row (k := 2) (by decide), uU_row (k := 6) (by decide)]
    obtain ⟨h1, h2, h3, h4⟩ := a5 f hf
    refine ⟨h1, h2, ?_, h4⟩
    unfold uU
    split <;> omega
  · rw [uU_row (k := 4) (by decide), uU_row (k := 5) (by decide)]
    exact a6 c hc
theorem sRule_ups {E : Nat → Nat → List Int} {A : Nat → Nat → Int} {u : Int} {n nc p f : Nat} {h wi : Int} : sRule E (uU A u n) nc p f h wi = sRule E A nc p f h wi := by
  unfold sRule sNm
  rw [uU_row (k := 7) (by decide), uU_row (k := 1) (by decide), uU_row (k := 2) (by decide), uU_row (k := 5) (by decide), uU_row (k := 4) (by decide)]
theorem sCost_ups {E : Nat → Nat → List Int} {A : Nat → Nat → Int} {u : Int} {n nc f : Nat} {h : Int} : sCost E (uU A u n) nc f h = sCost E A nc f h := by
  unfold sCost
  rw [sRule_ups, uU_row (k := 6) (by decide), uU_row (k := 1) (by decide), uU_row (k := 0) (by decide)]
theorem sGlad_ups {E : Nat → Nat → List Int} {A : Nat → Nat → Int} {u : Int} {n nc c f : Nat} : sGlad E (uU A u n) nc c f = sGlad E A nc c f := by
  unfold sGlad sWish
  rw [uU_row (k := 6) (by decide), uU_row (k := 5) (by decide), uU_row (k := 4) (by decide), sRule_ups]
theorem tCt_ups {E : Nat → Nat → List Int} {A : Nat → Nat → Int} {u : Nat} {nf nc c f : Nat} (hf : f < nf) : tCt E (uU A (u : Int) nf) nc c f = ctm u (tCt E A nc) c f := by
  have hco : tCo E (uU A (u : Int) nf) nc c f = tCo E A nc c f := by
    unfold tCo
    rw [uU_row (k := 4) (by decide), sCost_ups]
  have z0 : ∀ k, xbit 0 k = 0 := fun k => by unfold xbit; simp
  by_cases z : xbit (u : Int) f = 1
  · have e3 : uU A (u : Int) nf 3 f = A 3 f := by unfold uU; rw [if_neg (fun y => y.2.2 z)]
    have hap : tAp (uU A (u : Int) nf) c f ↔ tAp A c f := by
      unfold tAp sApp
      rw [e3, uU_row (k := 4) (by decide), uU_row (k := 6) (by decide), uU_row (k := 1) (by decide)]
    unfold ctm
    rw [if_pos z]
    by_cases y : tAp A c f
    · rw [tCt_yes y, tCt_yes (hap.mpr y), hco]
    · rw [tCt_no y, tCt_no (fun x => y (hap.mp x))]
  · have e3 : uU A (u : Int) nf 3 f = 0 := by unfold uU; rw [if_pos ⟨rfl, hf, z⟩]
    unfold ctm
    rw [if_neg z]
    exact tCt_no (fun x => by
      have := x.1
      rw [e3, z0] at this
      omega)
theorem jB_ups {E : Nat → Nat → List Int} {A : Nat → Nat → Int} {u : Nat} {nf nc : Nat} : jB E (uU A (u : Int) nf) nf nc = sBest (ctm u (tCt E A nc)) (sGlad E A nc) nf nc (A 2) := by
  unfold jB
  exact sBest_congr (fun c _ f hf => tCt_ups hf) (fun c _ f _ => sGlad_ups) (fun f _ => by rw [uU_row (by decide)])
section Model
variable {Γ : xSh} {σ : Nat → Nat → Int} {m nf nc T d : Nat} {A : Nat → Nat → Int} {X : Nat → Nat × (Nat → Int)} {Q : xV → xMem → Prop} {S : xSt}
set_option maxHeartbeats 4000000 in
theorem m_ups {u : Nat} (hK : MK Γ σ m nf nc T A X) (hu : u < 64) (hQ : ∀ σ', FG cDo jQ m σ σ' → MW σ' m nf nc (uU A (u : Int) nf) → (∀ g, g < nf → σ' (m + 12) g = A 3 g) → (∀ j, (∀ g, g < nf → j ≠ 3 * g + 2) → σ' (m + 5) j = σ (m + 5) j) → Q vu (Γ, σ')) : xRM M_X6_ups (d + 1) (0, 0) [vr m, vi (u : Int)] (Γ, σ) Q := by
  refine xRM_of (by decide) (Nat.le_of_ble_eq_true rfl) ?_
  obtain ⟨hM, hW, hA, hT⟩ := id hK
  have hnf := hA.1
  have loop : ∀ (k f : Nat) (σ1 : Nat → Nat → Int), f + k = nf → FG cDo jQ m σ σ1 → MW σ1 m nf nc (uU A (u : Int) f) → (∀ g, g < f → σ1 (m + 12) g = A 3 g) → (∀ j, (∀ g, g < f → j ≠ 3 * g + 2) → σ1 (m + 5) j = σ (m + 5) j) → xR M_X6_ups (d + 1) (0, 0) 2 [vr m, vi (u : Int), vi (f : Int)] [] (Γ, σ1) Q := by
    intro k
    induction k with
    | zero =>
      intro f σ1 hf h1 h2 h3 h4
      have hf : f = nf := by omega
      subst hf
      refine b_X6_ups_2 _ _ _ _ ?_
      dsimp only [k_X6_ups_2, x_push, x_iload, x_lload, x_aload, x_bin, x_div, x_un, x_lbin, x_ldiv, x_lcmp, x_i2l, x_l2i, x_dup, x_pop, x_dup2, x_c1, x_c2, x_null, x_cat1, x_istore, x_astore, x_lstore, x_iinc, x_nol, x_tsw, xsw, x_lsw, xlsw, x_ret, x_zret, x_lret, x_aret, x_vret, x_getI, x_getL, x_getR, x_putI, x_putZ, x_putL, x_iaload, x_zaload, x_aaload, x_iastore, x_zastore, x_alen, x_mm, x_acopy, xpush, xJ, xK, x_cV0, x_cV1, x_cV2, x_cV3, x_cV4, x_cV5, x_cV6, x_cV7, x_cV8, x_cS1, x_cS2, x_cS3, x_cS4, x_cS5, List.getD_cons_zero, List.getD_cons_succ, List.set_cons_zero, List.set_cons_succ]
      simp only [x_push, x_iload, x_lload, x_aload, x_bin, x_div, x_un, x_lbin, x_ldiv, x_lcmp, x_i2l, x_l2i, x_dup, x_pop, x_dup2, x_c1, x_c2, x_null, x_cat1, x_istore, x_astore, x_lstore, x_iinc, x_nol, x_tsw, xsw, x_lsw, xlsw, x_ret, x_zret, x_lret, x_aret, x_vret, x_getI, x_getL, x_getR, x_putI, x_putZ, x_putL, x_iaload, x_zaload, x_aaload, x_iastore, x_zastore, x_alen, x_mm, x_acopy, xpush, xJ, xK, x_cV0, x_cV1, x_cV2, x_cV3, x_cV4, x_cV5, x_cV6, x_cV7, x_cV8, x_cS1, x_cS2, x_cS3, x_cS4, x_cS5, List.getD_cons_zero, List.getD_cons_succ, List.set_cons_zero, List.set_cons_succ, List.length_cons, List.length_nil, Nat.zero_add, true_and, and_true, List.getD_nil, not_true, not_false_eq_true, Int.toNat_natCast, false_implies, true_implies, if_true, if_false, Int.toNat_zero, Int.toNat_one, true_or, or_true, Int.reduceEq, Int.reduceLT, Int.reduceLE, Int.reduceNe, Int.reduceNeg, Int.reduceAdd, Int.reduceSub, Int.reduceMul, Int.reduceToNat, Nat.reduceLT, Nat.reduceLeDiff, Nat.reduceAdd, Nat.reduceEqDiff, Nat.reduceSub, not_false_iff, and_self, implies_true, false_and, and_false, or_self, false_or, or_false, Int.cast_ofNat_Int, Int.natCast_nonneg, SM.f0 hM, SM.f1 hM, SM.f2 hM, SM.f3 hM, SM.f4 hM, SM.f5 hM, SM.f6 hM, SM.f7 hM, SM.f8 hM, SM.f9 hM, SM.f10 hM, SM.f11 hM, SM.f12 hM, SM.f13 hM, SM.f14 hM, SM.f15 hM, SM.f16 hM, SM.f17 hM, SM.f18 hM, SM.f19 hM, SM.f20 hM, SM.l20 hM, SM.a20 hM, SM.e20 hM, SM.f21 hM, SM.l21 hM, SM.a21 hM, SM.e21 hM, SM.f22 hM, SM.l22 hM, SM.a22 hM, SM.e22 hM, SM.f23 hM, SM.l23 hM, SM.a23 hM, SM.e23 hM, SM.f24 hM, SM.l24 hM, SM.a24 hM, SM.e24 hM, SM.f25 hM, SM.l25 hM, SM.a25 hM, SM.e25 hM, SM.f26 hM, SM.l26 hM, SM.a26 hM, SM.e26 hM, SM.f27 hM, SM.l27 hM, SM.a27 hM, SM.e27 hM, SM.f28 hM, SM.l28 hM, SM.a28 hM, SM.e28 hM, SM.f29 hM, SM.l29 hM, SM.a29 hM, SM.e29 hM, SM.f30 hM, SM.l30 hM, SM.a30 hM, SM.e30 hM, SM.f31 hM, SM.l31 hM, SM.a31 hM, SM.e31 hM, SM.f32 hM, SM.l32 hM, SM.a32 hM, SM.e32 hM, SM.f33 hM, SM.l33 hM, SM.a33 hM, SM.e33 hM, SM.f34 hM, SM.l34 hM, SM.a34 hM, SM.e34 hM, SM.f35 hM, SM.l35 hM, SM.a35 hM, SM.e35 hM, SM.f36 hM, SM.l36 hM, SM.a36 hM, SM.e36 hM, SM.f37 hM, SM.l37 hM, SM.a37 hM, SM.e37 hM, SM.f38 hM, SM.l38 hM, SM.a38 hM, SM.e38 hM, h2.1, eq_true (show (f : Int) ≤ (f : Int) by omega)]
      exact hQ σ1 h1 h2 h3 h4
    | succ k ih =>
      intro f σ1 hf h1 h2 h3 h4
      have hfn : f < nf := by omega
      have e2 : σ1 (m + 5) (3 * f + 2) = A 3 f := by
        rw [h4 _ (fun g hg => by omega)]
        exact (hW.2.2.2.2.1 f hfn).2.2.2
      have w3 := h2.same (σ' := upd2 σ1 (m + 12) f (A 3 f)) (fun j _ => by rw [upd2_row (by omega)]) (fun k a b => by rw [upd2_row (by omega)])
      have w4 := fun v => w3.r (f := f) (k := 2) (v := v) (by omega)
      have go : ∀ v : Int, (v = if xbit (u : Int) f = 1 then A 3 f else 0) → xR M_X6_ups (d + 1) (0, 0) 2 [vr m, vi (u : Int), vi ((f + 1 : Nat) : Int)] [] (Γ, upd2 (upd2 σ1 (m + 12) f (A 3 f)) (m + 5) (3 * f + 2) v) Q := by
        intro v hv
        have w5 := w4 v
        rw [hv, uU_step] at w5
        rw [hv]
        refine ih (f + 1) _ (by omega) ((h1.cell (o := 12) (Or.inr (by unfold cQ; omega)) ⟨by omega, by omega⟩).cell (o := 5) (Or.inl rfl) ⟨by omega, by omega⟩) w5 (fun g hg => ?_) (fun j hj => ?_)
        · rw [upd2_row (by omega)]
          by_cases e : g = f
          · rw [e, upd2_eq]
          · rw [upd2_col e]; exact h3 g (by omega)
        · rw [upd2_col (hj f (by omega)), upd2_row (by omega)]
          exact h4 j (fun g hg => hj g (by omega))
      have hb := xbit_01 (u : Int) f
      refine b_X6_ups_2 _ _ _ _ ?_
      dsimp only [k_X6_ups_2, x_push, x_iload, x_lload, x_aload, x_bin, x_div, x_un, x_lbin, x_ldiv, x_lcmp, x_i2l, x_l2i, x_dup, x_pop, x_dup2, x_c1, x_c2, x_null, x_cat1, x_istore, x_astore, x_lstore, x_iinc, x_nol, x_tsw, xsw, x_lsw, xlsw, x_ret, x_zret, x_lret, x_aret, x_vret, x_getI, x_getL, x_getR, x_putI, x_putZ, x_putL, x_iaload, x_zaload, x_aaload, x_iastore, x_zastore, x_alen, x_mm, x_acopy, xpush, xJ, xK, x_cV0, x_cV1, x_cV2, x_cV3, x_cV4, x_cV5, x_cV6, x_cV7, x_cV8, x_cS1, x_cS2, x_cS3, x_cS4, x_cS5, List.getD_cons_zero, List.getD_cons_succ, List.set_cons_zero, List.set_cons_succ]
      simp only [x_push, x_iload, x_lload, x_aload, x_bin, x_div, x_un, x_lbin, x_ldiv, x_lcmp, x_i2l, x_l2i, x_dup, x_pop, x_dup2, x_c1, x_c2, x_null, x_cat1, x_istore, x_astore, x_lstore, x_iinc, x_nol, x_tsw, xsw, x_lsw, xlsw, x_ret, x_zret, x_lret, x_aret, x_vret, x_getI, x_getL, x_getR, x_putI, x_putZ, x_putL, x_iaload, x_zaload, x_aaload, x_iastore, x_zastore, x_alen, x_mm, x_acopy, xpush, xJ, xK, x_cV0, x_cV1, x_cV2, x_cV3, x_cV4, x_cV5, x_cV6, x_cV7, x_cV8, x_cS1, x_cS2, x_cS3, x_cS4, x_cS5, List.getD_cons_zero, List.getD_cons_succ, List.set_cons_zero, List.set_cons_succ, List.length_cons, List.length_nil, Nat.zero_add, true_and, and_true, List.getD_nil, not_true, not_false_eq_true, Int.toNat_natCast, false_implies, true_implies, if_true, if_false, Int.toNat_zero, Int.toNat_one, true_or, or_true, Int.reduceEq, Int.reduceLT, Int.reduceLE, Int.reduceNe, Int.reduceNeg, Int.reduceAdd, Int.reduceSub, Int.reduceMul, Int.reduceToNat, Nat.reduceLT, Nat.reduceLeDiff, Nat.reduceAdd, Nat.reduceEqDiff, Nat.reduceSub, not_false_iff, and_self, implies_true, false_and, and_false, or_self, false_or, or_false, Int.cast_ofNat_Int, Int.natCast_nonneg, SM.f0 hM, SM.f1 hM, SM.f2 hM, SM.f3 hM, SM.f4 hM, SM.f5 hM, SM.f6 hM, SM.f7 hM, SM.f8 hM, SM.f9 hM, SM.f10 hM, SM.f11 hM, SM.f12 hM, SM.f13 hM, SM.f14 hM, SM.f15 hM, SM.f16 hM, SM.f17 hM, SM.f18 hM, SM.f19 hM, SM.f20 hM, SM.l20 hM, SM.a20 hM, SM.e20 hM, SM.f21 hM, SM.l21 hM, SM.a21 hM, SM.e21 hM, SM.f22 hM, SM.l22 hM, SM.a22 hM, SM.e22 hM, SM.f23 hM, SM.l23 hM, SM.a23 hM, SM.e23 hM, SM.f24 hM, SM.l24 hM, SM.a24 hM, SM.e24 hM, SM.f25 hM, SM.l25 hM, SM.a25 hM, SM.e25 hM, SM.f26 hM, SM.l26 hM, SM.a26 hM, SM.e26 hM, SM.f27 hM, SM.l27 hM, SM.a27 hM, SM.e27 hM, SM.f28 hM, SM.l28 hM, SM.a28 hM, SM.e28 hM, SM.f29 hM, SM.l29 hM, SM.a29 hM, SM.e29 hM, SM.f30 hM, SM.l30 hM, SM.a30 hM, SM.e30 hM, SM.f31 hM, SM.l31 hM, SM.a31 hM, SM.e31 hM, SM.f32 hM, SM.l32 hM, SM.a32 hM, SM.e32 hM, SM.f33 hM, SM.l33 hM, SM.a33 hM, SM.e33 hM, SM.f34 hM, SM.l34 hM, SM.a34 hM, SM.e34 hM, SM.f35 hM, SM.l35 hM, SM.a35 hM, SM.e35 hM, SM.f36 hM, SM.l36 hM, SM.a36 hM, SM.e36 hM, SM.f37 hM, SM.l37 hM, SM.a37 hM, SM.e37 hM, SM.f38 hM, SM.l38 hM, SM.a38 hM, SM.e38 hM, h2.1, eq_false (show ¬ ((nf : Int) ≤ (f : Int)) by omega), (show omul 3 (f : Int) = ((3 * f : Nat) : Int) by (first | rw [oadd_id (by omega) (by omega)] | rw [osub_id (by omega) (by omega)] | rw [omul_id (by omega) (by omega)]) <;> omega), (show oadd ((3 * f : Nat) : Int) 2 = ((3 * f + 2 : Nat) : Int) by (first | rw [oadd_id (by omega) (by omega)] | rw [osub_id (by omega) (by omega)] | rw [omul_id (by omega) (by omega)]) <;> omega), eq_true (show ((3 * f + 2 : Nat) : Int) < 18 by omega), eq_true (show (f : Int) < 6 by omega), e2, obit (x := (u : Int)) ⟨by omega, by omega⟩ (show (0 : Int) ≤ (f : Int) by omega) (show (f : Int) < 32 by omega), upd2_eq, (show oadd (f : Int) 1 = ((f + 1 : Nat) : Int) by (first | rw [oadd_id (by omega) (by omega)] | rw [osub_id (by omega) (by omega)] | rw [omul_id (by omega) (by omega)]) <;> omega)]
      exact ⟨fun q => go 0 (by rw [if_neg q]), fun q => go _ (by rw [if_pos (Classical.not_not.mp q)])⟩
  refine b_X6_ups_0 _ _ _ _ ?_
  exact ⟨trivial, loop nf 0 σ (by omega) FG.rf (by rw [uU_zero]; exact hW) (fun g hg => absurd hg (Nat.not_lt_zero g)) (fun j _ => rfl)⟩
set_option maxHeartbeats 4000000 in
theorem m_joyBy {u : Nat} (hK : MK Γ σ m nf nc T A X) (hu : u < 64) (hQ : ∀ σ', FG cQ jQ m σ σ' → Q (vi (sBest (ctm u (tCt (tE X) A nc)) (sGlad (tE X) A nc) nf nc (A 2)).1) (Γ, σ')) : xRM M_X6_joyBy (d + 48) (0, 0) [vr m, vi (u : Int)] (Γ, σ) Q := by
  refine xRM_of (by decide) (Nat.le_of_ble_eq_true rfl) ?_
  obtain ⟨hM, hW, hA, hT⟩ := id hK
  have hnf := hA.1
  refine b_X6_joyBy_0 _ _ _ _ ?_
  show k_X6_joyBy_0 (d + 47) Q (0, 0) [vr m, vi (u : Int), vu] [] (Γ, σ)
  simp only [k_X6_joyBy_0, x_push, x_iload, x_lload, x_aload, x_bin, x_div, x_un, x_lbin, x_ldiv, x_lcmp, x_i2l, x_l2i, x_dup, x_pop, x_dup2, x_c1, x_c2, x_null, x_cat1, x_istore, x_astore, x_lstore, x_iinc, x_nol, x_tsw, xsw, x_lsw, xlsw, x_ret, x_zret, x_lret, x_aret, x_vret, x_getI, x_getL, x_getR, x_putI, x_putZ, x_putL, x_iaload, x_zaload, x_aaload, x_iastore, x_zastore, x_alen, x_mm, x_acopy, xpush, xJ, xK, x_cV0, x_cV1, x_cV2, x_cV3, x_cV4, x_cV5, x_cV6, x_cV7, x_cV8, x_cS1, x_cS2, x_cS3, x_cS4, x_cS5, List.getD_cons_zero, List.getD_cons_succ, List.set_cons_zero, List.set_cons_succ, List.length_cons, List.length_nil, Nat.zero_add, true_and, and_true, List.getD_nil, not_true, not_false_eq_true, Int.toNat_natCast, false_implies, true_implies, if_true, if_false, Int.toNat_zero, Int.toNat_one, true_or, or_true, Int.reduceEq, Int.reduceLT, Int.reduceLE, Int.reduceNe, Int.reduceNeg, Int.reduceAdd, Int.reduceSub, Int.reduceMul, Int.reduceToNat, Nat.reduceLT, Nat.reduceLeDiff, Nat.reduceAdd, Nat.reduceEqDiff, Nat.reduceSub, not_false_iff, and_self, implies_true, false_and, and_false, or_self, false_or, or_false, Int.cast_ofNat_Int, Int.natCast_nonneg, SM.f0 hM, SM.f1 hM, SM.f2 hM, SM.f3 hM, SM.f4 hM, SM.f5 hM, SM.f6 hM, SM.f7 hM, SM.f8 hM, SM.f9 hM, SM.f10 hM, SM.f11 hM, SM.f12 hM, SM.f13 hM, SM.f14 hM, SM.f15 hM, SM.f16 hM, SM.f17 hM, SM.f18 hM, SM.f19 hM, SM.f20 hM, SM.l20 hM, SM.a20 hM, SM.e20 hM, SM.f21 hM, SM.l21 hM, SM.a21 hM, SM.e21 hM, SM.f22 hM, SM.l22 hM, SM.a22 hM, SM.e22 hM, SM.f23 hM, SM.l23 hM, SM.a23 hM, SM.e23 hM, SM.f24 hM, SM.l24 hM, SM.a24 hM, SM.e24 hM, SM.f25 hM, SM.l25 hM, SM.a25 hM, SM.e25 hM, SM.f26 hM, SM.l26 hM, SM.a26 hM, SM.e26 hM, SM.f27 hM, SM.l27 hM, SM.a27 hM, SM.e27 hM, SM.f28 hM, SM.l28 hM, SM.a28 hM, SM.e28 hM, SM.f29 hM, SM.l29 hM, SM.a29 hM, SM.e29 hM, SM.f30 hM, SM.l30 hM, SM.a30 hM, SM.e30 hM, SM.f31 hM, SM.l31 hM, SM.a31 hM, SM.e31 hM, SM.f32 hM, SM.l32 hM, SM.a32 hM, SM.e32 hM, SM.f33 hM, SM.l33 hM, SM.a33 hM, SM.e33 hM, SM.f34 hM, SM.l34 hM, SM.a34 hM, SM.e34 hM, SM.f35 hM, SM.l35 hM, SM.a35 hM, SM.e35 hM, SM.f36 hM, SM.l36 hM, SM.a36 hM, SM.e36 hM, SM.f37 hM, SM.l37 hM, SM.a37 hM, SM.e37 hM, SM.f38 hM, SM.l38 hM, SM.a38 hM, SM.e38 hM]
  refine m_ups hK hu (fun σ1 h1 h2 h3 h4 => ?_)
  have hK1 : MK Γ σ1 m nf nc T (uU A (u : Int) nf) X := ⟨hM, h2, hA.ups, hT.same (h1.2.2 3 (by unfold jQ; omega)) (h1.2.1 1 (by omega) (by omega) (by unfold cDo cQ; omega)) (h1.2.1 2 (by omega) (by omega) (by unfold cDo cQ; omega))⟩
  simp only [x_push, x_iload, x_lload, x_aload, x_bin, x_div, x_un, x_lbin, x_ldiv, x_lcmp, x_i2l, x_l2i, x_dup, x_pop, x_dup2, x_c1, x_c2, x_null, x_cat1, x_istore, x_astore, x_lstore, x_iinc, x_nol, x_tsw, xsw, x_lsw, xlsw, x_ret, x_zret, x_lret, x_aret, x_vret, x_getI, x_getL, x_getR, x_putI, x_putZ, x_putL, x_iaload, x_zaload, x_aaload, x_iastore, x_zastore, x_alen, x_mm, x_acopy, xpush, xJ, xK, x_cV0, x_cV1, x_cV2, x_cV3, x_cV4, x_cV5, x_cV6, x_cV7, x_cV8, x_cS1, x_cS2, x_cS3, x_cS4, x_cS5, List.getD_cons_zero, List.getD_cons_succ, List.set_cons_zero, List.set_cons_succ, List.length_cons, List.length_nil, Nat.zero_add, true_and, and_true, List.getD_nil, not_true, not_false_eq_true, Int.toNat_natCast, false_implies, true_implies, if_true, if_false, Int.toNat_zero, Int.toNat_one, true_or, or_true, Int.reduceEq, Int.reduceLT, Int.reduceLE, Int.reduceNe, Int.reduceNeg, Int.reduceAdd, Int.reduceSub, Int.reduceMul, Int.reduceToNat, Nat.reduceLT, Nat.reduceLeDiff, Nat.reduceAdd, Nat.reduceEqDiff, Nat.reduceSub, not_false_iff, and_self, implies_true, false_and, and_false, or_self, false_or, or_false, Int.cast_ofNat_Int, Int.natCast_nonneg, SM.f0 hM, SM.f1 hM, SM.f2 hM, SM.f3 hM, SM.f4 hM, SM.f5 hM, SM.f6 hM, SM.f7 hM, SM.f8 hM, SM.f9 hM, SM.f10 hM, SM.f11 hM, SM.f12 hM, SM.f13 hM, SM.f14 hM, SM.f15 hM, SM.f16 hM, SM.f17 hM, SM.f18 hM, SM.f19 hM, SM.f20 hM, SM.l20 hM, SM.a20 hM, SM.e20 hM, SM.f21 hM, SM.l21 hM, SM.a21 hM, SM.e21 hM, SM.f22 hM, SM.l22 hM, SM.a22 hM, SM.e22 hM, SM.f23 hM, SM.l23 hM, SM.a23 hM, SM.e23 hM, SM.f24 hM, SM.l24 hM, SM.a24 hM, SM.e24 hM, SM.f25 hM, SM.l25 hM, SM.a25 hM, SM.e25 hM, SM.f26 hM, SM.l26 hM, SM.a26 hM, SM.e26 hM, SM.f27 hM, SM.l27 hM, SM.a27 hM, SM.e27 hM, SM.f28 hM, SM.l28 hM, SM.a28 hM, SM.e28 hM, SM.f29 hM, SM.l29 hM, SM.a29 hM, SM.e29 hM, SM.f30 hM, SM.l30 hM, SM.a30 hM, SM.e30 hM, SM.f31 hM, SM.l31 hM, SM.a31 hM, SM.e31 hM, SM.f32 hM, SM.l32 hM, SM.a32 hM, SM.e32 hM, SM.f33 hM, SM.l33 hM, SM.a33 hM, SM.e33 hM, SM.f34 hM, SM.l34 hM, SM.a34 hM, SM.e34 hM, SM.f35 hM, SM.l35 hM, SM.a35 hM, SM.e35 hM, SM.f36 hM, SM.l36 hM, SM.a36 hM, SM.e36 hM, SM.f37 hM, SM.l37 hM, SM.a37 hM, SM.e37 hM, SM.f38 hM, SM.l38 hM, SM.a38 hM, SM.e38 hM]
  refine m_joyBest hK1 (fun σ2 s2 => ?_)
  rw [jB_ups]
  simp only [x_push, x_iload, x_lload, x_aload, x_bin, x_div, x_un, x_lbin, x_ldiv, x_lcmp, x_i2l, x_l2i, x_dup, x_pop, x_dup2, x_c1, x_c2, x_null, x_cat1, x_istore, x_astore, x_lstore, x_iinc, x_nol, x_tsw, xsw, x_lsw, xlsw, x_ret, x_zret, x_lret, x_aret, x_vret, x_getI, x_getL, x_getR, x_putI, x_putZ, x_putL, x_iaload, x_zaload, x_aaload, x_iastore, x_zastore, x_alen, x_mm, x_acopy, xpush, xJ, xK, x_cV0, x_cV1, x_cV2, x_cV3, x_cV4, x_cV5, x_cV6, x_cV7, x_cV8, x_cS1, x_cS2, x_cS3, x_cS4, x_cS5, List.getD_cons_zero, List.getD_cons_succ, List.set_cons_zero, List.set_cons_succ, List.length_cons, List.length_nil, Nat.zero_add, true_and, and_true, List.getD_nil, not_true, not_false_eq_true, Int.toNat_natCast, false_implies, true_implies, if_true, if_false, Int.toNat_zero, Int.toNat_one, true_or, or_true, Int.reduceEq, Int.reduceLT, Int.reduceLE, Int.reduceNe, Int.reduceNeg, Int.reduceAdd, Int.reduceSub, Int.reduceMul, Int.reduceToNat, Nat.reduceLT, Nat.reduceLeDiff, Nat.reduceAdd, Nat.reduceEqDiff, Nat.reduceSub, not_false_iff, and_self, implies_true, false_and, and_false, or_self, false_or, or_false, Int.cast_ofNat_Int, Int.natCast_nonneg, SM.f0 hM, SM.f1 hM, SM.f2 hM, SM.f3 hM, SM.f4 hM, SM.f5 hM, SM.f6 hM, SM.f7 hM, SM.f8 hM, SM.f9 hM, SM.f10 hM, SM.f11 hM, SM.f12 hM, SM.f13 hM, SM.f14 hM, SM.f15 hM, SM.f16 hM, SM.f17 hM, SM.f18 hM, SM.f19 hM, SM.f20 hM, SM.l20 hM, SM.a20 hM, SM.e20 hM, SM.f21 hM, SM.l21 hM, SM.a21 hM, SM.e21 hM, SM.f22 hM, SM.l22 hM, SM.a22 hM, SM.e22 hM, SM.f23 hM, SM.l23 hM, SM.a23 hM, SM.e23 hM, SM.f24 hM, SM.l24 hM, SM.a24 hM, SM.e24 hM, SM.f25 hM, SM.l25 hM, SM.a25 hM, SM.e25 hM, SM.f26 hM, SM.l26 hM, SM.a26 hM, SM.e26 hM, SM.f27 hM, SM.l27 hM, SM.a27 hM, SM.e27 hM, SM.f28 hM, SM.l28 hM, SM.a28 hM, SM.e28 hM, SM.f29 hM, SM.l29 hM, SM.a29 hM, SM.e29 hM, SM.f30 hM, SM.l30 hM, SM.a30 hM, SM.e30 hM, SM.f31 hM, SM.l31 hM, SM.a31 hM, SM.e31 hM, SM.f32 hM, SM.l32 hM, SM.a32 hM, SM.e32 hM, SM.f33 hM, SM.l33 hM, SM.a33 hM, SM.e33 hM, SM.f34 hM, SM.l34 hM, SM.a34 hM, SM.e34 hM, SM.f35 hM, SM.l35 hM, SM.a35 hM, SM.e35 hM, SM.f36 hM, SM.l36 hM, SM.a36 hM, SM.e36 hM, SM.f37 hM, SM.l37 hM, SM.a37 hM, SM.e37 hM, SM.f38 hM, SM.l38 hM, SM.a38 hM, SM.e38 hM]
  have f2 := h1.tr ((FG.ofFT s2).mono (fun _ z => Or.inr z) (fun _ z => z))
  refine xRM_of (by decide) (Nat.le_of_ble_eq_true rfl) ?_
  have loop : ∀ (k f : Nat) (σ3 : Nat → Nat → Int), f + k = nf → FG cDo jQ m σ σ3 → (∀ g, g < nf → σ3 (m + 12) g = A 3 g) → (∀ j, (∀ g, f ≤ g → g < nf → j ≠ 3 * g + 2) → σ3 (m + 5) j = σ (m + 5) j) → ∀ Q' : xV → xMem → Prop, (∀ σ', FG cQ jQ m σ σ' → Q' vu (Γ, σ')) → xR M_X6_upsAgain (d + 47) (0, 0) 2 [vr m, vi (f : Int)] [] (Γ, σ3) Q' := by
    intro k
    induction k with
    | zero =>
      intro f σ3 hf g1 g2 g3 Q' hq
      refine b_X6_upsAgain_2 _ _ _ _ ?_
      dsimp only [k_X6_upsAgain_2, x_push, x_iload, x_lload, x_aload, x_bin, x_div, x_un, x_lbin, x_ldiv, x_lcmp, x_i2l, x_l2i, x_dup, x_pop, x_dup2, x_c1, x_c2, x_null, x_cat1, x_istore, x_astore, x_lstore, x_iinc, x_nol, x_tsw, xsw, x_lsw, xlsw, x_ret, x_zret, x_lret, x_aret, x_vret, x_getI, x_getL, x_getR, x_putI, x_putZ, x_putL, x_iaload, x_zaload, x_aaload, x_iastore, x_zastore, x_alen, x_mm, x_acopy, xpush, xJ, xK, x_cV0, x_cV1, x_cV2, x_cV3, x_cV4, x_cV5, x_cV6, x_cV7, x_cV8, x_cS1, x_cS2, x_cS3, x_cS4, x_cS5, List.getD_cons_zero, List.getD_cons_succ, List.set_cons_zero, List.set_cons_succ]
      simp only [x_push, x_iload, x_lload, x_aload, x_bin, x_div, x_un, x_lbin, x_ldiv, x_lcmp, x_i2l, x_l2i, x_dup, x_pop, x_dup2, x_c1, x_c2, x_null, x_cat1, x_istore, x_astore, x_lstore, x_iinc, x_nol, x_tsw, xsw, x_lsw, xlsw, x_ret, x_zret, x_lret, x_aret, x_vret, x_getI, x_getL, x_getR, x_putI, x_putZ, x_putL, x_iaload, x_zaload, x_aaload, x_iastore, x_zastore, x_alen, x_mm, x_acopy, xpush, xJ, xK, x_cV0, x_cV1, x_cV2, x_cV3, x_cV4, x_cV5, x_cV6, x_cV7, x_cV8, x_cS1, x_cS2, x_cS3, x_cS4, x_cS5, List.getD_cons_zero, List.getD_cons_succ, List.set_cons_zero, List.set_cons_succ, List.length_cons, List.length_nil, Nat.zero_add, true_and, and_true, List.getD_nil, not_true, not_false_eq_true, Int.toNat_natCast, false_implies, true_implies, if_true, if_false, Int.toNat_zero, Int.toNat_one, true_or, or_true, Int.reduceEq, Int.reduceLT, Int.reduceLE, Int.reduceNe, Int.reduceNeg, Int.reduceAdd, Int.reduceSub, Int.reduceMul, Int.reduceToNat, Nat.reduceLT, Nat.reduceLeDiff, Nat.reduceAdd, Nat.reduceEqDiff, Nat.reduceSub, not_false_iff, and_self, implies_true, false_and, and_false, or_self, false_or, or_false, Int.cast_ofNat_Int, Int.natCast_nonneg, SM.f0 hM, SM.f1 hM, SM.f2 hM, SM.f3 hM, SM.f4 hM, SM.f5 hM, SM.f6 hM, SM.f7 hM, SM.f8 hM, SM.f9 hM, SM.f10 hM, SM.f11 hM, SM.f12 hM, SM.f13 hM, SM.f14 hM, SM.f15 hM, SM.f16 hM, SM.f17 hM, SM.f18 hM, SM.f19 hM, SM.f20 hM, SM.l20 hM, SM.a20 hM, SM.e20 hM, SM.f21 hM, SM.l21 hM, SM.a21 hM, SM.e21 hM, SM.f22 hM, SM.l22 hM, SM.a22 hM, SM.e22 hM, SM.f23 hM, SM.l23 hM, SM.a23 hM, SM.e23 hM, SM.f24 hM, SM.l24 hM, SM.a24 hM, SM.e24 hM, SM.f25 hM, SM.l25 hM, SM.a25 hM, SM.e25 hM, SM.f26 hM, SM.l26 hM, SM.a26 hM, SM.e26 hM, SM.f27 hM, SM.l27 hM, SM.a27 hM, SM.e27 hM, SM.f28 hM, SM.l28 hM, SM.a28 hM, SM.e28 hM, SM.f29 hM, SM.l29 hM, SM.a29 hM, SM.e29 hM, SM.f30 hM, SM.l30 hM, SM.a30 hM, SM.e30 hM, SM.f31 hM, SM.l31 hM, SM.a31 hM, SM.e31 hM, SM.f32 hM, SM.l32 hM, SM.a32 hM, SM.e32 hM, SM.f33 hM, SM.l33 hM, SM.a33 hM, SM.e33 hM, SM.f34 hM, SM.l34 hM, SM.a34 hM, SM.e34 hM, SM.f35 hM, SM.l35 hM, SM.a35 hM, SM.e35 hM, SM.f36 hM, SM.l36 hM, SM.a36 hM, SM.e36 hM, SM.f37 hM, SM.l37 hM, SM.a37 hM, SM.e37 hM, SM.f38 hM, SM.l38 hM, SM.a38 hM, SM.e38 hM, show σ3 m 10 = (nf : Int) by rw [g1.2.2 10 (by unfold jQ; omega)]; exact hW.1, eq_true (show (nf : Int) ≤ (f : Int) by omega)]
      exact hq σ3 (g1.row5 (fun j => g3 j (fun g a b => by omega)))
    | succ k ih =>
      intro f σ3 hf g1 g2 g3 Q' hq
      have hfn : f < nf := by omega
      refine b_X6_upsAgain_2 _ _ _ _ ?_
      dsimp only [k_X6_upsAgain_2, x_push, x_iload, x_lload, x_aload, x_bin, x_div, x_un, x_lbin, x_ldiv, x_lcmp, x_i2l, x_l2i, x_dup, x_pop, x_dup2, x_c1, x_c2, x_null, x_cat1, x_istore, x_astore, x_lstore, x_iinc, x_nol, x_tsw, xsw, x_lsw, xlsw, x_ret, x_zret, x_lret, x_aret, x_vret, x_getI, x_getL, x_getR, x_putI, x_putZ, x_putL, x_iaload, x_zaload, x_aaload, x_iastore, x_zastore, x_alen, x_mm, x_acopy, xpush, xJ, xK, x_cV0, x_cV1, x_cV2, x_cV3, x_cV4, x_cV5, x_cV6, x_cV7, x_cV8, x_cS1, x_cS2, x_cS3, x_cS4, x_cS5, List.getD_cons_zero, List.getD_cons_succ, List.set_cons_zero, List.set_cons_succ]
      simp only [x_push, x_iload, x_lload, x_aload, x_bin, x_div, x_un, x_lbin, x_ldiv, x_lcmp, x_i2l, x_l2i, x_dup, x_pop, x_dup2, x_c1, x_c2, x_null, x_cat1, x_istore, x_astore, x_lstore, x_iinc, x_nol, x_tsw, xsw, x_lsw, xlsw, x_ret, x_zret, x_lret, x_aret, x_vret, x_getI, x_getL, x_getR, x_putI, x_putZ, x_putL, x_iaload, x_zaload, x_aaload, x_iastore, x_zastore, x_alen, x_mm, x_acopy, xpush, xJ, xK, x_cV0, x_cV1, x_cV2, x_cV3, x_cV4, x_cV5, x_cV6, x_cV7, x_cV8, x_cS1, x_cS2, x_cS3, x_cS4, x_cS5, List.getD_cons_zero, List.getD_cons_succ, List.set_cons_zero, List.set_cons_succ, List.length_cons, List.length_nil, Nat.zero_add, true_and, and_true, List.getD_nil, not_true, not_false_eq_true, Int.toNat_natCast, false_implies, true_implies, if_true, if_false, Int.toNat_zero, Int.toNat_one, true_or, or_true, Int.reduceEq, Int.reduceLT, Int.reduceLE, Int.reduceNe, Int.reduceNeg, Int.reduceAdd, Int.reduceSub, Int.reduceMul, Int.reduceToNat, Nat.reduceLT, Nat.reduceLeDiff, Nat.reduceAdd, Nat.reduceEqDiff, Nat.reduceSub, not_false_iff, and_self, implies_true, false_and, and_false, or_self, false_or, or_false, Int.cast_ofNat_Int, Int.natCast_nonneg, SM.f0 hM, SM.f1 hM, SM.f2 hM, SM.f3 hM, SM.f4 hM, SM.f5 hM, SM.f6 hM, SM.f7 hM, SM.f8 hM, SM.f9 hM, SM.f10 hM, SM.f11 hM, SM.f12 hM, SM.f13 hM, SM.f14 hM, SM.f15 hM, SM.f16 hM, SM.f17 hM, SM.f18 hM, SM.f19 hM, SM.f20 hM, SM.l20 hM, SM.a20 hM, SM.e20 hM, SM.f21 hM, SM.l21 hM, SM.a21 hM, SM.e21 hM, SM.f22 hM, SM.l22 hM, SM.a22 hM, SM.e22 hM, SM.f23 hM, SM.l23 hM, SM.a23 hM, SM.e23 hM, SM.f24 hM, SM.l24 hM, SM.a24 hM, SM.e24 hM, SM.f25 hM, SM.l25 hM, SM.a25 hM, SM.e25 hM, SM.f26 hM, SM.l26 hM, SM.a26 hM, SM.e26 hM, SM.f27 hM, SM.l27 hM, SM.a27 hM, SM.e27 hM, SM.f28 hM, SM.l28 hM, SM.a28 hM, SM.e28 hM, SM.f29 hM, SM.l29 hM, SM.a29 hM, SM.e29 hM, SM.f30 hM, SM.l30 hM, SM.a30 hM, SM.e30 hM, SM.f31 hM, SM.l31 hM, SM.a31 hM, SM.e31 hM, SM.f32 hM, SM.l32 hM, SM.a32 hM, SM.e32 hM, SM.f33 hM, SM.l33 hM, SM.a33 hM, SM.e33 hM, SM.f34 hM, SM.l34 hM, SM.a34 hM, SM.e34 hM, SM.f35 hM, SM.l35 hM, SM.a35 hM, SM.e35 hM, SM.f36 hM, SM.l36 hM, SM.a36 hM, SM.e36 hM, SM.f37 hM, SM.l37 hM, SM.a37 hM, SM.e37 hM, SM.f38 hM, SM.l38 hM, SM.a38 hM, SM.e38 hM, show σ3 m 10 = (nf : Int) by rw [g1.2.2 10 (by unfold jQ; omega)]; exact hW.1, eq_false (show ¬ ((nf : Int) ≤ (f : Int)) by omega), (show omul 3 (f : Int) = ((3 * f : Nat) : Int) by (first | rw [oadd_id (by omega) (by omega)] | rw [osub_id (by omega) (by omega)] | rw [omul_id (by omega) (by omega)]) <;> omega), (show oadd ((3 * f : Nat) : Int) 2 = ((3 * f + 2 : Nat) : Int) by (first | rw [oadd_id (by omega) (by omega)] | rw [osub_id (by omega) (by omega)] | rw [omul_id (by omega) (by omega)]) <;> omega), eq_true (show ((3 * f + 2 : Nat) : Int) < 18 by omega), eq_true (show (f : Int) < 6 by omega), g2 f hfn, (show oadd (f : Int) 1 = ((f + 1 : Nat) : Int) by (first | rw [oadd_id (by omega) (by omega)] | rw [osub_id (by omega) (by omega)] | rw [omul_id (by omega) (by omega)]) <;> omega)]
      refine ih (f + 1) _ (by omega) (g1.cell (o := 5) (Or.inl rfl) ⟨by omega, by omega⟩) (fun g hg => by rw [upd2_row (by omega)]; exact g2 g hg) (fun j hj => ?_) Q' hq
      by_cases e : j = 3 * f + 2
      · rw [e, upd2_eq]; exact (hW.2.2.2.2.1 f hfn).2.2.2.symm
      · rw [upd2_col e]
        exact g3 j (fun g a b => by
          by_cases eg : g = f
          · rw [eg]; exact e
          · exact hj g (by omega) b)
  refine b_X6_upsAgain_0 _ _ _ _ ?_
  refine ⟨trivial, loop nf 0 σ2 (by omega) f2 (fun g hg => ?_) (fun j hj => ?_) _ (fun σ4 s4 => ?_)⟩
  · rw [s2.1 _ (by omega) (by omega)]; exact h3 g hg
  · rw [s2.1 _ (by omega) (by omega)]; exact h4 j (fun g hg => hj g (by omega) hg)
  · simp only [x_push, x_iload, x_lload, x_aload, x_bin, x_div, x_un, x_lbin, x_ldiv, x_lcmp, x_i2l, x_l2i, x_dup, x_pop, x_dup2, x_c1, x_c2, x_null, x_cat1, x_istore, x_astore, x_lstore, x_iinc, x_nol, x_tsw, xsw, x_lsw, xlsw, x_ret, x_zret, x_lret, x_aret, x_vret, x_getI, x_getL, x_getR, x_putI, x_putZ, x_putL, x_iaload, x_zaload, x_aaload, x_iastore, x_zastore, x_alen, x_mm, x_acopy, xpush, xJ, xK, x_cV0, x_cV1, x_cV2, x_cV3, x_cV4, x_cV5, x_cV6, x_cV7, x_cV8, x_cS1, x_cS2, x_cS3, x_cS4, x_cS5, List.getD_cons_zero, List.getD_cons_succ, List.set_cons_zero, List.set_cons_succ, List.length_cons, List.length_nil, Nat.zero_add, true_and, and_true, List.getD_nil, not_true, not_false_eq_true, Int.toNat_natCast, false_implies, true_implies, if_true, if_false, Int.toNat_zero, Int.toNat_one, true_or, or_true, Int.reduceEq, Int.reduceLT, Int.reduceLE, Int.reduceNe, Int.reduceNeg, Int.reduceAdd, Int.reduceSub, Int.reduceMul, Int.reduceToNat, Nat.reduceLT, Nat.reduceLeDiff, Nat.reduceAdd, Nat.reduceEqDiff, Nat.reduceSub, not_false_iff, and_self, implies_true, false_and, and_false, or_self, false_or, or_false, Int.cast_ofNat_Int, Int.natCast_nonneg]
    exact hQ σ4 s4
end Model
