/-! ===== Keeper.play, digits ===== -/
/-- f's entry changed -/
def updf (g : Nat → Int) (f : Nat) (v : Int) : Nat → Int := fun i => if i = f then v else g i
theorem updf_eq {g : Nat → Int} {f : Nat} {v : Int} : updf g f v f = v := by simp [updf]
theorem updf_ne {g : Nat → Int} {f i : Nat} {v : Int} (h : i ≠ f) : updf g f v i = g i := by simp [updf, h]
/-- the keeper's tables: ct costs (-1: does not appear), jo joy, ic income, me means -/
def KT2 (σ : Nat → Nat → Int) (k nf nc : Nat) (ct jo ic : Nat → Nat → Int) (me : Nat → Int) : Prop :=
  σ k 8 = nf ∧ σ k 9 = nc ∧ (∀ f, f < nf → σ (k + 19) f = me f) ∧ ∀ c, c < nc → ∀ f, f < nf → σ (k + 2 + c) f = ct c f ∧ (ct c f ≠ -1 → σ (k + 8 + c) f = jo c f ∧ σ (k + 14 + c) f = ic c f)
/-- their bounds -/
def TB (nf nc : Nat) (ct jo ic : Nat → Nat → Int) (me : Nat → Int) : Prop := nf ≤ 6 ∧ nc ≤ 5 ∧ (∀ f, f < nf → 0 ≤ me f ∧ me f ≤ 999) ∧ ∀ c, c < nc → ∀ f, f < nf → (-1 ≤ ct c f ∧ ct c f ≤ 999) ∧ (-999 ≤ jo c f ∧ jo c f ≤ 999) ∧ (0 ≤ ic c f ∧ ic c f ≤ 1999)
def sCan (ct : Nat → Nat → Int) (left : Nat → Int) (c f : Nat) : Prop := ct c f ≠ -1 ∧ ct c f ≤ left f
/-- a showing s is gone through, m clients from c on: who stops it, joy, income, what is left -/
def pl (ct jo ic : Nat → Nat → Int) (s : Nat → Int) : Nat → Nat → (Nat → Int) → Int → Int → Int × Int × Int × (Nat → Int)
  | 0, _, left, j, i => (-1, j, i, left)
  | m + 1, c, left, j, i => if s c < 0 then pl ct jo ic s m (c + 1) left j i
    else if ct c (s c).toNat ≠ -1 ∧ ct c (s c).toNat ≤ left (s c).toNat then pl ct jo ic s m (c + 1) (updf left (s c).toNat (left (s c).toNat - ct c (s c).toNat)) (j + jo c (s c).toNat) (i + ic c (s c).toNat)
    else (c, j, i, left)
section Keeper
variable {Γ : xSh} {σ : Nat → Nat → Int} {k d n nf nc : Nat} {Q : xV → xMem → Prop} {ct jo ic : Nat → Nat → Int} {me : Nat → Int} {s : Nat → Int}
set_option maxHeartbeats 4000000 in
theorem c_play (hS : SK Γ k) (hR : SKr Γ k) (hK : KT2 σ k nf nc ct jo ic me) (hB : TB nf nc ct jo ic me) (hs : ∀ c, c < nc → σ (k + 21) c = s c) (hs2 : ∀ c, c < nc → s c = -1 ∨ (0 ≤ s c ∧ s c < nf))
    (hQ : ∀ σ', Sm (fun q => q = k ∨ q = k + 20) σ σ' → (∀ j, j < 13 → σ' k j = σ k j) → σ' k 13 = (pl ct jo ic s nc 0 me 0 0).1 → σ' k 14 = (pl ct jo ic s nc 0 me 0 0).2.1 → σ' k 15 = (pl ct jo ic s nc 0 me 0 0).2.2.1 → (∀ f, f < nf → σ' (k + 20) f = (pl ct jo ic s nc 0 me 0 0).2.2.2 f) → Q vu (Γ, σ')) : xRM M_X0_play (d + 2) (0, 0) [vr k] (Γ, σ) Q := by
  refine xRM_of (by decide) (Nat.le_of_ble_eq_true rfl) ?_
  obtain ⟨k8, k9, k19, kt⟩ := hK
  obtain ⟨hnf, hnc, hme, htb⟩ := hB
  have loop : ∀ (m c : Nat) (σ' : Nat → Nat → Int) (left : Nat → Int) (j i : Int) (v2 : xV), c + m = nc → Sm (fun q => q = k ∨ q = k + 20) σ σ' → (∀ j, j < 13 → σ' k j = σ k j) → σ' k 13 = -1 → σ' k 14 = j → σ' k 15 = i → (∀ f, f < nf → σ' (k + 20) f = left f ∧ -1000000 ≤ left f ∧ left f ≤ 999) → (-999 * c ≤ j ∧ j ≤ 999 * c) → (0 ≤ i ∧ i ≤ 1999 * c) → pl ct jo ic s m c left j i = pl ct jo ic s nc 0 me 0 0 → xR M_X0_play (d + 2) (0, 0) 21 [vr k, vi c, v2] [] (Γ, σ') Q := by
    intro m
    induction m with
    | zero =>
      intro c σ' left j i v2 hc hm h13 hst hj hi hlf bj bi hp
      have hc : c = nc := by omega
      subst hc
      refine b_X0_play_21 _ _ _ _ ?_
      have e9 : σ' k 9 = c := by rw [h13 9 (by omega)]; exact k9
      simp only [k_X0_play_21, x_push, x_iload, x_lload, x_aload, x_bin, x_div, x_un, x_lbin, x_ldiv, x_lcmp, x_i2l, x_l2i, x_dup, x_pop, x_dup2, x_c1, x_c2, x_null, x_cat1, x_istore, x_astore, x_lstore, x_iinc, x_nol, x_tsw, xsw, x_lsw, xlsw, x_ret, x_zret, x_lret, x_aret, x_vret, x_getI, x_getL, x_getR, x_putI, x_putZ, x_putL, x_iaload, x_zaload, x_aaload, x_iastore, x_zastore, x_alen, x_mm, x_acopy, xpush, xJ, xK, x_cV0, x_cV1, x_cV2, x_cV3, x_cV4, x_cV5, x_cV6, x_cV7, x_cV8, x_cS1, x_cS2, x_cS3, x_cS4, x_cS5, List.getD_cons_zero, List.getD_cons_succ, List.set_cons_zero, List.set_cons_succ, List.length_cons, List.length_nil, Nat.zero_add, true_and, and_true, List.getD_nil, not_true, not_false_eq_true, Int.toNat_natCast, false_implies, true_implies, if_true, if_false, Int.toNat_zero, Int.toNat_one, true_or, or_true, Int.reduceEq, Int.reduceLT, Int.reduceLE, Int.reduceNe, Int.reduceNeg, Int.reduceAdd, Int.reduceSub, Int.reduceMul, Int.reduceToNat, Nat.reduceLT, Nat.reduceLeDiff, Nat.reduceAdd, Nat.reduceEqDiff, Nat.reduceSub, not_false_iff, and_self, implies_true, false_and, and_false, or_self, false_or, or_false, Int.cast_ofNat_Int, Int.natCast_nonneg, SK.f0 hS, SK.f1 hS, SK.f2 hS, SK.f3 hS, SK.f4 hS, SK.f5 hS, SK.f6 hS, SK.f7 hS, SK.f8 hS, SK.f9 hS, SK.l9 hS, SK.a9 hS, SK.e9 hS, SK.f10 hS, SK.l10 hS, SK.a10 hS, SK.e10 hS, SK.f11 hS, SK.l11 hS, SK.a11 hS, SK.e11 hS, SK.f12 hS, SK.l12 hS, SK.a12 hS, SK.e12 hS, SK.f13 hS, SK.l13 hS, SK.a13 hS, SK.e13 hS, SK.f14 hS, SK.l14 hS, SK.a14 hS, SK.f15 hS, SK.l15 hS, SK.a15 hS, SK.f16 hS, SK.l16 hS, SK.a16 hS, e9]
      simp only [pl] at hp
      refine ⟨fun _ => hQ σ' hm h13 ?_ ?_ ?_ (fun f hf => ?_), fun h => absurd (Int.le_refl _) h⟩
      · rw [← hp]; exact hst
      · rw [← hp]; exact hj
      · rw [← hp]; exact hi
      · rw [← hp]; exact (hlf f hf).1
    | succ m ih =>
      intro c σ' left j i v2 hc hm h13 hst hj hi hlf bj bi hp
      have hcn : c < nc := by omega
      refine b_X0_play_21 _ _ _ _ ?_
      have e9 : σ' k 9 = nc := by rw [h13 9 (by omega)]; exact k9
      have e8 : σ' k 8 = nf := by rw [h13 8 (by omega)]; exact k8
      have es : σ' (k + 21) c = s c := by rw [hm (k + 21) (by omega)]; exact hs c hcn
      simp only [pl] at hp
      obtain ⟨⟨r1, r2⟩, ⟨r3, r4⟩, ⟨r5, r6⟩⟩ := hR c (by omega)
      rcases hs2 c hcn with hfog | ⟨hf0, hf1⟩
      · rw [if_pos (by omega)] at hp
        simp only [k_X0_play_21, x_push, x_iload, x_lload, x_aload, x_bin, x_div, x_un, x_lbin, x_ldiv, x_lcmp, x_i2l, x_l2i, x_dup, x_pop, x_dup2, x_c1, x_c2, x_null, x_cat1, x_istore, x_astore, x_lstore, x_iinc, x_nol, x_tsw, xsw, x_lsw, xlsw, x_ret, x_zret, x_lret, x_aret, x_vret, x_getI, x_getL, x_getR, x_putI, x_putZ, x_putL, x_iaload, x_zaload, x_aaload, x_iastore, x_zastore, x_alen, x_mm, x_acopy, xpush, xJ, xK, x_cV0, x_cV1, x_cV2, x_cV3, x_cV4, x_cV5, x_cV6, x_cV7, x_cV8, x_cS1, x_cS2, x_cS3, x_cS4, x_cS5, List.getD_cons_zero, List.getD_cons_succ, List.set_cons_zero, List.set_cons_succ, List.length_cons, List.length_nil, Nat.zero_add, true_and, and_true, List.getD_nil, not_true, not_false_eq_true, Int.toNat_natCast, false_implies, true_implies, if_true, if_false, Int.toNat_zero, Int.toNat_one, true_or, or_true, Int.reduceEq, Int.reduceLT, Int.reduceLE, Int.reduceNe, Int.reduceNeg, Int.reduceAdd, Int.reduceSub, Int.reduceMul, Int.reduceToNat, Nat.reduceLT, Nat.reduceLeDiff, Nat.reduceAdd, Nat.reduceEqDiff, Nat.reduceSub, not_false_iff, and_self, implies_true, false_and, and_false, or_self, false_or, or_false, Int.cast_ofNat_Int, Int.natCast_nonneg, SK.f0 hS, SK.f1 hS, SK.f2 hS, SK.f3 hS, SK.f4 hS, SK.f5 hS, SK.f6 hS, SK.f7 hS, SK.f8 hS, SK.f9 hS, SK.l9 hS, SK.a9 hS, SK.e9 hS, SK.f10 hS, SK.l10 hS, SK.a10 hS, SK.e10 hS, SK.f11 hS, SK.l11 hS, SK.a11 hS, SK.e11 hS, SK.f12 hS, SK.l12 hS, SK.a12 hS, SK.e12 hS, SK.f13 hS, SK.l13 hS, SK.a13 hS, SK.e13 hS, SK.f14 hS, SK.l14 hS, SK.a14 hS, SK.f15 hS, SK.l15 hS, SK.a15 hS, SK.f16 hS, SK.l16 hS, SK.a16 hS, e9, es, hfog, eq_false (show ¬ ((nc : Int) ≤ (c : Int)) by omega), eq_true (show (c : Int) < 5 by omega)]
        rw [oadd_id (by omega) (by omega)]
        exact ih (c + 1) σ' left j i _ (by omega) hm h13 hst hj hi hlf (by omega) (by omega) hp
      · obtain ⟨f, hf⟩ : ∃ f : Nat, s c = f := ⟨(s c).toNat, by omega⟩
        rw [hf] at hp hf1 es
        have hfn : f < nf := by omega
        rw [if_neg (by omega), Int.toNat_natCast] at hp
        obtain ⟨t1, t2⟩ := kt c hcn f hfn
        obtain ⟨b1, b2, b3⟩ := htb c hcn f hfn
        obtain ⟨l1, l2⟩ := hlf f hfn
        have g1 : σ' (k + 2 + c) f = ct c f := by rw [hm _ (by omega)]; exact t1
        simp only [k_X0_play_21, x_push, x_iload, x_lload, x_aload, x_bin, x_div, x_un, x_lbin, x_ldiv, x_lcmp, x_i2l, x_l2i, x_dup, x_pop, x_dup2, x_c1, x_c2, x_null, x_cat1, x_istore, x_astore, x_lstore, x_iinc, x_nol, x_tsw, xsw, x_lsw, xlsw, x_ret, x_zret, x_lret, x_aret, x_vret, x_getI, x_getL, x_getR, x_putI, x_putZ, x_putL, x_iaload, x_zaload, x_aaload, x_iastore, x_zastore, x_alen, x_mm, x_acopy, xpush, xJ, xK, x_cV0, x_cV1, x_cV2, x_cV3, x_cV4, x_cV5, x_cV6, x_cV7, x_cV8, x_cS1, x_cS2, x_cS3, x_cS4, x_cS5, List.getD_cons_zero, List.getD_cons_succ, List.set_cons_zero, List.set_cons_succ, List.length_cons, List.length_nil, Nat.zero_add, true_and, and_true, List.getD_nil, not_true, not_false_eq_true, Int.toNat_natCast, false_implies, true_implies, if_true, if_false, Int.toNat_zero, Int.toNat_one, true_or, or_true, Int.reduceEq, Int.reduceLT, Int.reduceLE, Int.reduceNe, Int.reduceNeg, Int.reduceAdd, Int.reduceSub, Int.reduceMul, Int.reduceToNat, Nat.reduceLT, Nat.reduceLeDiff, Nat.reduceAdd, Nat.reduceEqDiff, Nat.reduceSub, not_false_iff, and_self, implies_true, false_and, and_false, or_self, false_or, or_false, Int.cast_ofNat_Int, Int.natCast_nonneg, SK.f0 hS, SK.f1 hS, SK.f2 hS, SK.f3 hS, SK.f4 hS, SK.f5 hS, SK.f6 hS, SK.f7 hS, SK.f8 hS, SK.f9 hS, SK.l9 hS, SK.a9 hS, SK.e9 hS, SK.f10 hS, SK.l10 hS, SK.a10 hS, SK.e10 hS, SK.f11 hS, SK.l11 hS, SK.a11 hS, SK.e11 hS, SK.f12 hS, SK.l12 hS, SK.a12 hS, SK.e12 hS, SK.f13 hS, SK.l13 hS, SK.a13 hS, SK.e13 hS, SK.f14 hS, SK.l14 hS, SK.a14 hS, SK.f15 hS, SK.l15 hS, SK.a15 hS, SK.f16 hS, SK.l16 hS, SK.a16 hS, e9, e8, es, eq_false (show ¬ ((nc : Int) ≤ (c : Int)) by omega), eq_true (show (c : Int) < 5 by omega), eq_false (show ¬ ((f : Int) < 0) by omega), eq_true (show (f : Int) < (nf : Int) by omega)]
        refine c_canBe hS hR (by omega) (by omega) (fun q1 q2 => ?_) (fun q => ?_)
        · rw [g1, l1] at q2
          rw [g1] at q1
          rw [if_pos ⟨q1, q2⟩] at hp
          obtain ⟨t3, t4⟩ := t2 q1
          have g2 : σ' (k + 8 + c) f = jo c f := by rw [hm _ (by omega)]; exact t3
          have g3 : σ' (k + 14 + c) f = ic c f := by rw [hm _ (by omega)]; exact t4
          simp only [x_push, x_iload, x_lload, x_aload, x_bin, x_div, x_un, x_lbin, x_ldiv, x_lcmp, x_i2l, x_l2i, x_dup, x_pop, x_dup2, x_c1, x_c2, x_null, x_cat1, x_istore, x_astore, x_lstore, x_iinc, x_nol, x_tsw, xsw, x_lsw, xlsw, x_ret, x_zret, x_lret, x_aret, x_vret, x_getI, x_getL, x_getR, x_putI, x_putZ, x_putL, x_iaload, x_zaload, x_aaload, x_iastore, x_zastore, x_alen, x_mm, x_acopy, xpush, xJ, xK, x_cV0, x_cV1, x_cV2, x_cV3, x_cV4, x_cV5, x_cV6, x_cV7, x_cV8, x_cS1, x_cS2, x_cS3, x_cS4, x_cS5, List.getD_cons_zero, List.getD_cons_succ, List.set_cons_zero, List.set_cons_succ, List.length_cons, List.length_nil, Nat.zero_add, true_and, and_true, List.getD_nil, not_true, not_false_eq_true, Int.toNat_natCast, false_implies, true_implies, if_true, if_false, Int.toNat_zero, Int.toNat_one, true_or, or_true, Int.reduceEq, Int.reduceLT, Int.reduceLE, Int.reduceNe, Int.reduceNeg, Int.reduceAdd, Int.reduceSub, Int.reduceMul, Int.reduceToNat, Nat.reduceLT, Nat.reduceLeDiff, Nat.reduceAdd, Nat.reduceEqDiff, Nat.reduceSub, not_false_iff, and_self, implies_true, false_and, and_false, or_self, false_or, or_false, Int.cast_ofNat_Int, Int.natCast_nonneg, SK.f0 hS, SK.f1 hS, SK.f2 hS, SK.f3 hS, SK.f4 hS, SK.f5 hS, SK.f6 hS, SK.f7 hS, SK.f8 hS, SK.f9 hS, SK.l9 hS, SK.a9 hS, SK.e9 hS, SK.f10 hS, SK.l10 hS, SK.a10 hS, SK.e10 hS, SK.f11 hS, SK.l11 hS, SK.a11 hS, SK.e11 hS, SK.f12 hS, SK.l12 hS, SK.a12 hS, SK.e12 hS, SK.f13 hS, SK.l13 hS, SK.a13 hS, SK.e13 hS, SK.f14 hS, SK.l14 hS, SK.a14 hS, SK.f15 hS, SK.l15 hS, SK.a15 hS, SK.f16 hS, SK.l16 hS, SK.a16 hS, r1, r3, r5, gArr_of r2, gLen_of r2, gArr_of r4, gLen_of r4, gArr_of r6, gLen_of r6, eq_true (show (c : Int) < 5 by omega), eq_true (show (f : Int) < 6 by omega), l1, g1, upd2_row (show k ≠ k + 20 by omega), upd2_row (show k + 8 + c ≠ k + 20 by omega), upd2_row (show k + 14 + c ≠ k + 20 by omega), upd2_row (show k + 8 + c ≠ k by omega), upd2_row (show k + 14 + c ≠ k by omega), g2, g3, hj, upd2_col (show 15 ≠ 14 by decide), hi]
          rw [oadd_id (by omega) (by omega), oadd_id (by omega) (by omega), oadd_id (by omega) (by omega), osub_id (by omega) (by omega)]
          refine ih (c + 1) _ (updf left f (left f - ct c f)) (j + jo c f) (i + ic c f) _ (by omega) (((hm.put (Or.inr rfl)).put (Or.inl rfl)).put (Or.inl rfl)) (fun z hz => ?_) ?_ ?_ ?_ (fun g hg => ?_) (by omega) (by omega) hp
          · rw [upd2_col (by omega), upd2_col (by omega), upd2_row (by omega)]; exact h13 z hz
          · rw [upd2_col (by omega), upd2_col (by omega), upd2_row (by omega)]; exact hst
          · rw [upd2_col (by omega), upd2_eq]
          · rw [upd2_eq]
          · rw [upd2_row (by omega), upd2_row (by omega)]
            by_cases e : g = f
            · rw [e, upd2_eq, updf_eq]; exact ⟨rfl, by omega, by omega⟩
            · rw [upd2_col e, updf_ne e]; exact hlf g hg
        · rw [g1, l1] at q
          rw [if_neg q] at hp
          simp only [x_push, x_iload, x_lload, x_aload, x_bin, x_div, x_un, x_lbin, x_ldiv, x_lcmp, x_i2l, x_l2i, x_dup, x_pop, x_dup2, x_c1, x_c2, x_null, x_cat1, x_istore, x_astore, x_lstore, x_iinc, x_nol, x_tsw, xsw, x_lsw, xlsw, x_ret, x_zret, x_lret, x_aret, x_vret, x_getI, x_getL, x_getR, x_putI, x_putZ, x_putL, x_iaload, x_zaload, x_aaload, x_iastore, x_zastore, x_alen, x_mm, x_acopy, xpush, xJ, xK, x_cV0, x_cV1, x_cV2, x_cV3, x_cV4, x_cV5, x_cV6, x_cV7, x_cV8, x_cS1, x_cS2, x_cS3, x_cS4, x_cS5, List.getD_cons_zero, List.getD_cons_succ, List.set_cons_zero, List.set_cons_succ, List.length_cons, List.length_nil, Nat.zero_add, true_and, and_true, List.getD_nil, not_true, not_false_eq_true, Int.toNat_natCast, false_implies, true_implies, if_true, if_false, Int.toNat_zero, Int.toNat_one, true_or, or_true, Int.reduceEq, Int.reduceLT, Int.reduceLE, Int.reduceNe, Int.reduceNeg, Int.reduceAdd, Int.reduceSub, Int.reduceMul, Int.reduceToNat, Nat.reduceLT, Nat.reduceLeDiff, Nat.reduceAdd, Nat.reduceEqDiff, Nat.reduceSub, not_false_iff, and_self, implies_true, false_and, and_false, or_self, false_or, or_false, Int.cast_ofNat_Int, Int.natCast_nonneg, SK.f0 hS, SK.f1 hS, SK.f2 hS, SK.f3 hS, SK.f4 hS, SK.f5 hS, SK.f6 hS, SK.f7 hS, SK.f8 hS, SK.f9 hS, SK.l9 hS, SK.a9 hS, SK.e9 hS, SK.f10 hS, SK.l10 hS, SK.a10 hS, SK.e10 hS, SK.f11 hS, SK.l11 hS, SK.a11 hS, SK.e11 hS, SK.f12 hS, SK.l12 hS, SK.a12 hS, SK.e12 hS, SK.f13 hS, SK.l13 hS, SK.a13 hS, SK.e13 hS, SK.f14 hS, SK.l14 hS, SK.a14 hS, SK.f15 hS, SK.l15 hS, SK.a15 hS, SK.f16 hS, SK.l16 hS, SK.a16 hS]
          refine hQ _ (hm.put (Or.inl rfl)) (fun z hz => ?_) ?_ ?_ ?_ (fun g hg => ?_)
          · rw [upd2_col (by omega)]; exact h13 z hz
          · rw [← hp, upd2_eq]
          · rw [← hp, upd2_col (by omega)]; exact hj
          · rw [← hp, upd2_col (by omega)]; exact hi
          · rw [← hp, upd2_row (by omega)]; exact (hlf g hg).1
  refine b_X0_play_0 _ _ _ _ ?_
  show k_X0_play_0 (d + 1) Q (0, 0) [vr k, vu, vu] [] (Γ, σ)
  simp only [k_X0_play_0, x_push, x_iload, x_lload, x_aload, x_bin, x_div, x_un, x_lbin, x_ldiv, x_lcmp, x_i2l, x_l2i, x_dup, x_pop, x_dup2, x_c1, x_c2, x_null, x_cat1, x_istore, x_astore, x_lstore, x_iinc, x_nol, x_tsw, xsw, x_lsw, xlsw, x_ret, x_zret, x_lret, x_aret, x_vret, x_getI, x_getL, x_getR, x_putI, x_putZ, x_putL, x_iaload, x_zaload, x_aaload, x_iastore, x_zastore, x_alen, x_mm, x_acopy, xpush, xJ, xK, x_cV0, x_cV1, x_cV2, x_cV3, x_cV4, x_cV5, x_cV6, x_cV7, x_cV8, x_cS1, x_cS2, x_cS3, x_cS4, x_cS5, List.getD_cons_zero, List.getD_cons_succ, List.set_cons_zero, List.set_cons_succ, List.length_cons, List.length_nil, Nat.zero_add, true_and, and_true, List.getD_nil, not_true, not_false_eq_true, Int.toNat_natCast, false_implies, true_implies, if_true, if_false, Int.toNat_zero, Int.toNat_one, true_or, or_true, Int.reduceEq, Int.reduceLT, Int.reduceLE, Int.reduceNe, Int.reduceNeg, Int.reduceAdd, Int.reduceSub, Int.reduceMul, Int.reduceToNat, Nat.reduceLT, Nat.reduceLeDiff, Nat.reduceAdd, Nat.reduceEqDiff, Nat.reduceSub, not_false_iff, and_self, implies_true, false_and, and_false, or_self, false_or, or_false, Int.cast_ofNat_Int, Int.natCast_nonneg, SK.f0 hS, SK.f1 hS, SK.f2 hS, SK.f3 hS, SK.f4 hS, SK.f5 hS, SK.f6 hS, SK.f7 hS, SK.f8 hS, SK.f9 hS, SK.l9 hS, SK.a9 hS, SK.e9 hS, SK.f10 hS, SK.l10 hS, SK.a10 hS, SK.e10 hS, SK.f11 hS, SK.l11 hS, SK.a11 hS, SK.e11 hS, SK.f12 hS, SK.l12 hS, SK.a12 hS, SK.e12 hS, SK.f13 hS, SK.l13 hS, SK.a13 hS, SK.e13 hS, SK.f14 hS, SK.l14 hS, SK.a14 hS, SK.f15 hS, SK.l15 hS, SK.a15 hS, SK.f16 hS, SK.l16 hS, SK.a16 hS]
  refine c_fillPurses hS (fun σ1 h1 h2 => ?_)
  simp only [x_push, x_iload, x_lload, x_aload, x_bin, x_div, x_un, x_lbin, x_ldiv, x_lcmp, x_i2l, x_l2i, x_dup, x_pop, x_dup2, x_c1, x_c2, x_null, x_cat1, x_istore, x_astore, x_lstore, x_iinc, x_nol, x_tsw, xsw, x_lsw, xlsw, x_ret, x_zret, x_lret, x_aret, x_vret, x_getI, x_getL, x_getR, x_putI, x_putZ, x_putL, x_iaload, x_zaload, x_aaload, x_iastore, x_zastore, x_alen, x_mm, x_acopy, xpush, xJ, xK, x_cV0, x_cV1, x_cV2, x_cV3, x_cV4, x_cV5, x_cV6, x_cV7, x_cV8, x_cS1, x_cS2, x_cS3, x_cS4, x_cS5, List.getD_cons_zero, List.getD_cons_succ, List.set_cons_zero, List.set_cons_succ, List.length_cons, List.length_nil, Nat.zero_add, true_and, and_true, List.getD_nil, not_true, not_false_eq_true, Int.toNat_natCast, false_implies, true_implies, if_true, if_false, Int.toNat_zero, Int.toNat_one, true_or, or_true, Int.reduceEq, Int.reduceLT, Int.reduceLE, Int.reduceNe, Int.reduceNeg, Int.reduceAdd, Int.reduceSub, Int.reduceMul, Int.reduceToNat, Nat.reduceLT, Nat.reduceLeDiff, Nat.reduceAdd, Nat.reduceEqDiff, Nat.reduceSub, not_false_iff, and_self, implies_true, false_and, and_false, or_self, false_or, or_false, Int.cast_ofNat_Int, Int.natCast_nonneg, SK.f0 hS, SK.f1 hS, SK.f2 hS, SK.f3 hS, SK.f4 hS, SK.f5 hS, SK.f6 hS, SK.f7 hS, SK.f8 hS, SK.f9 hS, SK.l9 hS, SK.a9 hS, SK.e9 hS, SK.f10 hS, SK.l10 hS, SK.a10 hS, SK.e10 hS, SK.f11 hS, SK.l11 hS, SK.a11 hS, SK.e11 hS, SK.f12 hS, SK.l12 hS, SK.a12 hS, SK.e12 hS, SK.f13 hS, SK.l13 hS, SK.a13 hS, SK.e13 hS, SK.f14 hS, SK.l14 hS, SK.a14 hS, SK.f15 hS, SK.l15 hS, SK.a15 hS, SK.f16 hS, SK.l16 hS, SK.a16 hS]
  refine loop nc 0 _ me 0 0 _ (by omega) ((((h1.mono (P' := fun q => q = k ∨ q = k + 20) (fun _ z => Or.inr z)).put (Or.inl rfl)).put (Or.inl rfl)).put (Or.inl rfl)) (fun z hz => ?_) ?_ ?_ ?_ (fun f hf => ?_) (by omega) (by omega) rfl
  · rw [upd2_col (by omega), upd2_col (by omega), upd2_col (by omega), h1 k (by omega)]
  · rw [upd2_col (by omega), upd2_col (by omega), upd2_eq]
  · rw [upd2_col (by omega), upd2_eq]
  · rw [upd2_eq]
  · rw [upd2_row (by omega), upd2_row (by omega), upd2_row (by omega), h2 f (by omega), k19 f hf]
    have := hme f hf
    exact ⟨rfl, by omega, by omega⟩
/-- a showing as digits -/
def sDig (s : Nat → Int) : Nat → Int
  | 0 => 0
  | c + 1 => sDig s c * 10 + s c + 1
theorem sDig_le {s : Nat → Int} : ∀ {n : Nat}, n ≤ 5 → (∀ c, c < n → -1 ≤ s c ∧ s c ≤ 5) → 0 ≤ sDig s n ∧ sDig s n < 10 ^ n
  | 0, _, _ => ⟨by simp [sDig], by simp [sDig]⟩
  | n + 1, hn, h => by
    have ih := sDig_le (n := n) (by omega) (fun c hc => h c (by omega))
    have h1 := h n (by omega)
    simp only [sDig]
    have hp : (10 : Int) ^ (n + 1) = 10 * 10 ^ n := by rw [Int.pow_succ, Int.mul_comm]
    rw [hp]
    omega
set_option maxHeartbeats 2000000 in
theorem c_digits (hS : SK Γ k) (hn : σ k 9 = nc) (hnc : nc ≤ 5) (hs : ∀ c, c < nc → σ (k + 21) c = s c) (hs2 : ∀ c, c < nc → -1 ≤ s c ∧ s c ≤ 5) (hQ : Q (vi (sDig s nc)) (Γ, σ)) : xRM M_X0_digits (d + 1) (0, 0) [vr k] (Γ, σ) Q := by
  refine xRM_of (by decide) (Nat.le_of_ble_eq_true rfl) ?_
  have loop : ∀ (m c : Nat), c + m = nc → xR M_X0_digits (d + 1) (0, 0) 4 [vr k, vi (sDig s c), vi c] [] (Γ, σ) Q := by
    intro m
    induction m with
    | zero =>
      intro c hc
      have hc : c = nc := by omega
      subst hc
      refine b_X0_digits_4 _ _ _ _ ?_
      simp only [k_X0_digits_4, x_push, x_iload, x_lload, x_aload, x_bin, x_div, x_un, x_lbin, x_ldiv, x_lcmp, x_i2l, x_l2i, x_dup, x_pop, x_dup2, x_c1, x_c2, x_null, x_cat1, x_istore, x_astore, x_lstore, x_iinc, x_nol, x_tsw, xsw, x_lsw, xlsw, x_ret, x_zret, x_lret, x_aret, x_vret, x_getI, x_getL, x_getR, x_putI, x_putZ, x_putL, x_iaload, x_zaload, x_aaload, x_iastore, x_zastore, x_alen, x_mm, x_acopy, xpush, xJ, xK, x_cV0, x_cV1, x_cV2, x_cV3, x_cV4, x_cV5, x_cV6, x_cV7, x_cV8, x_cS1, x_cS2, x_cS3, x_cS4, x_cS5, List.getD_cons_zero, List.getD_cons_succ, List.set_cons_zero, List.set_cons_succ, List.length_cons, List.length_nil, Nat.zero_add, true_and, and_true, List.getD_nil, not_true, not_false_eq_true, Int.toNat_natCast, false_implies, true_implies, if_true, if_false, Int.toNat_zero, Int.toNat_one, true_or, or_true, Int.reduceEq, Int.reduceLT, Int.reduceLE, Int.reduceNe, Int.reduceNeg, Int.reduceAdd, Int.reduceSub, Int.reduceMul, Int.reduceToNat, Nat.reduceLT, Nat.reduceLeDiff, Nat.reduceAdd, Nat.reduceEqDiff, Nat.reduceSub, not_false_iff, and_self, implies_true, false_and, and_false, or_self, false_or, or_false, Int.cast_ofNat_Int, Int.natCast_nonneg, SK.f0 hS, SK.f1 hS, SK.f2 hS, SK.f3 hS, SK.f4 hS, SK.f5 hS, SK.f6 hS, SK.f7 hS, SK.f8 hS, SK.f9 hS, SK.l9 hS, SK.a9 hS, SK.e9 hS, SK.f10 hS, SK.l10 hS, SK.a10 hS, SK.e10 hS, SK.f11 hS, SK.l11 hS, SK.a11 hS, SK.e11 hS, SK.f12 hS, SK.l12 hS, SK.a12 hS, SK.e12 hS, SK.f13 hS, SK.l13 hS, SK.a13 hS, SK.e13 hS, SK.f14 hS, SK.l14 hS, SK.a14 hS, SK.f15 hS, SK.l15 hS, SK.a15 hS, SK.f16 hS, SK.l16 hS, SK.a16 hS, hn]
      exact ⟨fun _ => hQ, fun h => absurd (Int.le_refl _) h⟩
    | succ m ih =>
      intro c hc
      refine b_X0_digits_4 _ _ _ _ ?_
      have b1 := sDig_le (s := s) (n := c) (by omega) (fun z hz => hs2 z (by omega))
      have b2 := hs2 c (by omega)
      have b3 : (10 : Int) ^ c ≤ 10000 := by
        have hc5 : c = 0 ∨ c = 1 ∨ c = 2 ∨ c = 3 ∨ c = 4 := by omega
        rcases hc5 with rfl | rfl | rfl | rfl | rfl <;> decide
      simp only [k_X0_digits_4, x_push, x_iload, x_lload, x_aload, x_bin, x_div, x_un, x_lbin, x_ldiv, x_lcmp, x_i2l, x_l2i, x_dup, x_pop, x_dup2, x_c1, x_c2, x_null, x_cat1, x_istore, x_astore, x_lstore, x_iinc, x_nol, x_tsw, xsw, x_lsw, xlsw, x_ret, x_zret, x_lret, x_aret, x_vret, x_getI, x_getL, x_getR, x_putI, x_putZ, x_putL, x_iaload, x_zaload, x_aaload, x_iastore, x_zastore, x_alen, x_mm, x_acopy, xpush, xJ, xK, x_cV0, x_cV1, x_cV2, x_cV3, x_cV4, x_cV5, x_cV6, x_cV7, x_cV8, x_cS1, x_cS2, x_cS3, x_cS4, x_cS5, List.getD_cons_zero, List.getD_cons_succ, List.set_cons_zero, List.set_cons_succ, List.length_cons, List.length_nil, Nat.zero_add, true_and, and_true, List.getD_nil, not_true, not_false_eq_true, Int.toNat_natCast, false_implies, true_implies, if_true, if_false, Int.toNat_zero, Int.toNat_one, true_or, or_true, Int.reduceEq, Int.reduceLT, Int.reduceLE, Int.reduceNe, Int.reduceNeg, Int.reduceAdd, Int.reduceSub, Int.reduceMul, Int.reduceToNat, Nat.reduceLT, Nat.reduceLeDiff, Nat.reduceAdd, Nat.reduceEqDiff, Nat.reduceSub, not_false_iff, and_self, implies_true, false_and, and_false, or_self, false_or, or_false, Int.cast_ofNat_Int, Int.natCast_nonneg, SK.f0 hS, SK.f1 hS, SK.f2 hS, SK.f3 hS, SK.f4 hS, SK.f5 hS, SK.f6 hS, SK.f7 hS, SK.f8 hS, SK.f9 hS, SK.l9 hS, SK.a9 hS, SK.e9 hS, SK.f10 hS, SK.l10 hS, SK.a10 hS, SK.e10 hS, SK.f11 hS, SK.l11 hS, SK.a11 hS, SK.e11 hS, SK.f12 hS, SK.l12 hS, SK.a12 hS, SK.e12 hS, SK.f13 hS, SK.l13 hS, SK.a13 hS, SK.e13 hS, SK.f14 hS, SK.l14 hS, SK.a14 hS, SK.f15 hS, SK.l15 hS, SK.a15 hS, SK.f16 hS, SK.l16 hS, SK.a16 hS, hn, hs c (by omega), eq_false (show ¬ ((nc : Int) ≤ (c : Int)) by omega), eq_true (show (c : Int) < 5 by omega)]
      rw [omul_id (by omega) (by omega), oadd_id (a := sDig s c * 10) (b := s c) (by omega) (by omega), oadd_id (a := sDig s c * 10 + s c) (b := 1) (by omega) (by omega), oadd_id (by omega) (by omega)]
      exact ih (c + 1) (by omega)
  refine b_X0_digits_0 _ _ _ _ ?_
  exact ⟨trivial, trivial, loop nc 0 (by omega)⟩
/-- the first of m figures from f on that is wished for and can be; -1 -/
def sFirstW (wi : Nat → Int) (ct : Nat → Nat → Int) (left : Nat → Int) (c : Nat) : Nat → Nat → Int
  | 0, _ => -1
  | m + 1, f => if xbit (wi c) f = 1 ∧ ct c f ≠ -1 ∧ ct c f ≤ left f then f else sFirstW wi ct left c m (f + 1)
/-- the keeper's plain way: m clients from c on, who was shown before -/
def sPlain (wi : Nat → Int) (ct : Nat → Nat → Int) (nf : Nat) : Nat → Nat → (Nat → Int) → (Nat → Int) → Nat → Int
  | 0, _, _, s => s
  | m + 1, c, left, s => sPlain wi ct nf m (c + 1) (if sFirstW wi ct left c nf 0 < 0 then left else updf left (sFirstW wi ct left c nf 0).toNat (left (sFirstW wi ct left c nf 0).toNat - ct c (sFirstW wi ct left c nf 0).toNat)) (updf s c (sFirstW wi ct left c nf 0))
theorem sFirstW_le {wi : Nat → Int} {ct : Nat → Nat → Int} {left : Nat → Int} {c : Nat} : ∀ (m f : Nat), sFirstW wi ct left c m f = -1 ∨ ((f : Int) ≤ sFirstW wi ct left c m f ∧ sFirstW wi ct left c m f < (f + m : Nat) ∧ ct c (sFirstW wi ct left c m f).toNat ≠ -1 ∧ ct c (sFirstW wi ct left c m f).toNat ≤ left (sFirstW wi ct left c m f).toNat)
  | 0, f => Or.inl rfl
  | m + 1, f => by
    simp only [sFirstW]
    split
    · rename_i h
      right
      rw [Int.toNat_natCast]
      exact ⟨by omega, by omega, h.2.1, h.2.2⟩
    · rcases sFirstW_le m (f + 1) with h | ⟨h1, h2, h3⟩
      · exact Or.inl h
      · exact Or.inr ⟨by omega, by omega, h3⟩
set_option maxHeartbeats 4000000 in
theorem c_showPlainly {w tx : Nat} {wi : Nat → Int} (hS : SK Γ k) (hR : SKr Γ k) (hW : SW Γ w tx) (hl : k + 24 ≤ w) (hK : KT2 σ k nf nc ct jo ic me) (hB : TB nf nc ct jo ic me) (hwi : ∀ c, c < nc → σ (w + 6) c = wi c)
    (hQ : ∀ σ', Sm (fun q => q = k + 20 ∨ q = k + 21) σ σ' → (∀ c, c < nc → σ' (k + 21) c = sPlain wi ct nf nc 0 me (σ (k + 21)) c) → Q vu (Γ, σ')) : xRM M_X0_showPlainly (d + 2) (0, 0) [vr k, vr w] (Γ, σ) Q := by
  refine xRM_of (by decide) (Nat.le_of_ble_eq_true rfl) ?_
  obtain ⟨k8, k9, k19, kt⟩ := hK
  obtain ⟨hnf, hnc, hme, htb⟩ := hB
  have loop : ∀ (m c : Nat) (σ' : Nat → Nat → Int) (left s : Nat → Int) (v3 : xV), c + m = nc → Sm (fun q => q = k + 20 ∨ q = k + 21) σ σ' → (∀ f, f < nf → σ' (k + 20) f = left f ∧ -1000000 ≤ left f ∧ left f ≤ 999) → (∀ c, c < nc → σ' (k + 21) c = s c) → sPlain wi ct nf m c left s = sPlain wi ct nf nc 0 me (σ (k + 21)) → xR M_X0_showPlainly (d + 2) (0, 0) 6 [vr k, vr w, vi c, v3] [] (Γ, σ') Q := by
    intro m
    induction m with
    | zero =>
      intro c σ' left s v3 hc hm hlf hsh hp
      have hc : c = nc := by omega
      subst hc
      refine b_X0_showPlainly_6 _ _ _ _ ?_
      have e9 : σ' k 9 = c := by rw [hm k (by omega)]; exact k9
      simp only [k_X0_showPlainly_6, x_push, x_iload, x_lload, x_aload, x_bin, x_div, x_un, x_lbin, x_ldiv, x_lcmp, x_i2l, x_l2i, x_dup, x_pop, x_dup2, x_c1, x_c2, x_null, x_cat1, x_istore, x_astore, x_lstore, x_iinc, x_nol, x_tsw, xsw, x_lsw, xlsw, x_ret, x_zret, x_lret, x_aret, x_vret, x_getI, x_getL, x_getR, x_putI, x_putZ, x_putL, x_iaload, x_zaload, x_aaload, x_iastore, x_zastore, x_alen, x_mm, x_acopy, xpush, xJ, xK, x_cV0, x_cV1, x_cV2, x_cV3, x_cV4, x_cV5, x_cV6, x_cV7, x_cV8, x_cS1, x_cS2, x_cS3, x_cS4, x_cS5, List.getD_cons_zero, List.getD_cons_succ, List.set_cons_zero, List.set_cons_succ, List.length_cons, List.length_nil, Nat.zero_add, true_and, and_true, List.getD_nil, not_true, not_false_eq_true, Int.toNat_natCast, false_implies, true_implies, if_true, if_false, Int.toNat_zero, Int.toNat_one, true_or, or_true, Int.reduceEq, Int.reduceLT, Int.reduceLE, Int.reduceNe, Int.reduceNeg, Int.reduceAdd, Int.reduceSub, Int.reduceMul, Int.reduceToNat, Nat.reduceLT, Nat.reduceLeDiff, Nat.reduceAdd, Nat.reduceEqDiff, Nat.reduceSub, not_false_iff, and_self, implies_true, false_and, and_false, or_self, false_or, or_false, Int.cast_ofNat_Int, Int.natCast_nonneg, SK.f0 hS, SK.f1 hS, SK.f2 hS, SK.f3 hS, SK.f4 hS, SK.f5 hS, SK.f6 hS, SK.f7 hS, SK.f8 hS, SK.f9 hS, SK.l9 hS, SK.a9 hS, SK.e9 hS, SK.f10 hS, SK.l10 hS, SK.a10 hS, SK.e10 hS, SK.f11 hS, SK.l11 hS, SK.a11 hS, SK.e11 hS, SK.f12 hS, SK.l12 hS, SK.a12 hS, SK.e12 hS, SK.f13 hS, SK.l13 hS, SK.a13 hS, SK.e13 hS, SK.f14 hS, SK.l14 hS, SK.a14 hS, SK.f15 hS, SK.l15 hS, SK.a15 hS, SK.f16 hS, SK.l16 hS, SK.a16 hS, e9]
      simp only [sPlain] at hp
      exact ⟨fun _ => hQ σ' hm (fun z hz => by rw [← hp]; exact hsh z hz), fun h => absurd (Int.le_refl _) h⟩
    | succ m ih =>
      intro c σ' left s v3 hc hm hlf hsh hp
      have hcn : c < nc := by omega
      obtain ⟨⟨r1, r2⟩, -, -⟩ := hR c (by omega)
      simp only [sPlain] at hp
      -- behind the inner loop
      have out : ∀ (σ2 : Nat → Nat → Int) (g : Int) (v : xV), g = sFirstW wi ct left c nf 0 → Sm (fun q => q = k + 20 ∨ q = k + 21) σ σ2 → (∀ f, f < nf → σ2 (k + 20) f = (if g < 0 then left else updf left g.toNat (left g.toNat - ct c g.toNat)) f) → (∀ z, z < nc → σ2 (k + 21) z = updf s c g z) → xR M_X0_showPlainly (d + 2) (0, 0) 6 [vr k, vr w, vi (oadd (c : Int) 1), v] [] (Γ, σ2) Q := by
        intro σ2 g v hg hm2 hl2 hs2
        rw [oadd_id (by omega) (by omega)]
        refine ih (c + 1) σ2 _ _ v (by omega) hm2 (fun f hf => ⟨hl2 f hf, ?_⟩) hs2 (by rw [hg]; exact hp)
        obtain ⟨-, b1, b2⟩ := hlf f hf
        split
        · exact ⟨b1, b2⟩
        · rename_i hg0
          rcases sFirstW_le (wi := wi) (ct := ct) (left := left) (c := c) nf 0 with q | ⟨q1, q2, q3, q4⟩
          · omega
          · rw [← hg] at q2 q3 q4
            have b := htb c hcn g.toNat (by omega)
            by_cases e : f = g.toNat
            · subst e; rw [updf_eq]; omega
            · rw [updf_ne e]; exact ⟨b1, b2⟩
      refine b_X0_showPlainly_6 _ _ _ _ ?_
      have e9 : σ' k 9 = nc := by rw [hm k (by omega)]; exact k9
      simp only [k_X0_showPlainly_6, x_push, x_iload, x_lload, x_aload, x_bin, x_div, x_un, x_lbin, x_ldiv, x_lcmp, x_i2l, x_l2i, x_dup, x_pop, x_dup2, x_c1, x_c2, x_null, x_cat1, x_istore, x_astore, x_lstore, x_iinc, x_nol, x_tsw, xsw, x_lsw, xlsw, x_ret, x_zret, x_lret, x_aret, x_vret, x_getI, x_getL, x_getR, x_putI, x_putZ, x_putL, x_iaload, x_zaload, x_aaload, x_iastore, x_zastore, x_alen, x_mm, x_acopy, xpush, xJ, xK, x_cV0, x_cV1, x_cV2, x_cV3, x_cV4, x_cV5, x_cV6, x_cV7, x_cV8, x_cS1, x_cS2, x_cS3, x_cS4, x_cS5, List.getD_cons_zero, List.getD_cons_succ, List.set_cons_zero, List.set_cons_succ, List.length_cons, List.length_nil, Nat.zero_add, true_and, and_true, List.getD_nil, not_true, not_false_eq_true, Int.toNat_natCast, false_implies, true_implies, if_true, if_false, Int.toNat_zero, Int.toNat_one, true_or, or_true, Int.reduceEq, Int.reduceLT, Int.reduceLE, Int.reduceNe, Int.reduceNeg, Int.reduceAdd, Int.reduceSub, Int.reduceMul, Int.reduceToNat, Nat.reduceLT, Nat.reduceLeDiff, Nat.reduceAdd, Nat.reduceEqDiff, Nat.reduceSub, not_false_iff, and_self, implies_true, false_and, and_false, or_self, false_or, or_false, Int.cast_ofNat_Int, Int.natCast_nonneg, SK.f0 hS, SK.f1 hS, SK.f2 hS, SK.f3 hS, SK.f4 hS, SK.f5 hS, SK.f6 hS, SK.f7 hS, SK.f8 hS, SK.f9 hS, SK.l9 hS, SK.a9 hS, SK.e9 hS, SK.f10 hS, SK.l10 hS, SK.a10 hS, SK.e10 hS, SK.f11 hS, SK.l11 hS, SK.a11 hS, SK.e11 hS, SK.f12 hS, SK.l12 hS, SK.a12 hS, SK.e12 hS, SK.f13 hS, SK.l13 hS, SK.a13 hS, SK.e13 hS, SK.f14 hS, SK.l14 hS, SK.a14 hS, SK.f15 hS, SK.l15 hS, SK.a15 hS, SK.f16 hS, SK.l16 hS, SK.a16 hS, e9, eq_false (show ¬ ((nc : Int) ≤ (c : Int)) by omega), eq_true (show (c : Int) < 5 by omega)]
      have inner : ∀ (mm f : Nat) (σ2 : Nat → Nat → Int), f + mm = nf → Sm (fun q => q = k + 20 ∨ q = k + 21) σ σ2 → (∀ g, g < nf → σ2 (k + 20) g = left g) → (∀ z, z < nc → σ2 (k + 21) z = updf s c (-1) z) → sFirstW wi ct left c mm f = sFirstW wi ct left c nf 0 → xR M_X0_showPlainly (d + 2) (0, 0) 23 [vr k, vr w, vi c, vi f] [] (Γ, σ2) Q := by
        intro mm
        induction mm with
        | zero =>
          intro f σ2 hf hm2 hl2 hs2 hp2
          have hf : f = nf := by omega
          subst hf
          refine b_X0_showPlainly_23 _ _ _ _ ?_
          have e8 : σ2 k 8 = f := by rw [hm2 k (by omega)]; exact k8
          simp only [sFirstW] at hp2
          simp only [k_X0_showPlainly_23, x_push, x_iload, x_lload, x_aload, x_bin, x_div, x_un, x_lbin, x_ldiv, x_lcmp, x_i2l, x_l2i, x_dup, x_pop, x_dup2, x_c1, x_c2, x_null, x_cat1, x_istore, x_astore, x_lstore, x_iinc, x_nol, x_tsw, xsw, x_lsw, xlsw, x_ret, x_zret, x_lret, x_aret, x_vret, x_getI, x_getL, x_getR, x_putI, x_putZ, x_putL, x_iaload, x_zaload, x_aaload, x_iastore, x_zastore, x_alen, x_mm, x_acopy, xpush, xJ, xK, x_cV0, x_cV1, x_cV2, x_cV3, x_cV4, x_cV5, x_cV6, x_cV7, x_cV8, x_cS1, x_cS2, x_cS3, x_cS4, x_cS5, List.getD_cons_zero, List.getD_cons_succ, List.set_cons_zero, List.set_cons_succ, List.length_cons, List.length_nil, Nat.zero_add, true_and, and_true, List.getD_nil, not_true, not_false_eq_true, Int.toNat_natCast, false_implies, true_implies, if_true, if_false, Int.toNat_zero, Int.toNat_one, true_or, or_true, Int.reduceEq, Int.reduceLT, Int.reduceLE, Int.reduceNe, Int.reduceNeg, Int.reduceAdd, Int.reduceSub, Int.reduceMul, Int.reduceToNat, Nat.reduceLT, Nat.reduceLeDiff, Nat.reduceAdd, Nat.reduceEqDiff, Nat.reduceSub, not_false_iff, and_self, implies_true, false_and, and_false, or_self, false_or, or_false, Int.cast_ofNat_Int, Int.natCast_nonneg, SK.f0 hS, SK.f1 hS, SK.f2 hS, SK.f3 hS, SK.f4 hS, SK.f5 hS, SK.f6 hS, SK.f7 hS, SK.f8 hS, SK.f9 hS, SK.l9 hS, SK.a9 hS, SK.e9 hS, SK.f10 hS, SK.l10 hS, SK.a10 hS, SK.e10 hS, SK.f11 hS, SK.l11 hS, SK.a11 hS, SK.e11 hS, SK.f12 hS, SK.l12 hS, SK.a12 hS, SK.e12 hS, SK.f13 hS, SK.l13 hS, SK.a13 hS, SK.e13 hS, SK.f14 hS, SK.l14 hS, SK.a14 hS, SK.f15 hS, SK.l15 hS, SK.a15 hS, SK.f16 hS, SK.l16 hS, SK.a16 hS, e8]
          refine ⟨fun _ => out σ2 (-1) _ hp2 hm2 (fun g hg => by rw [if_pos (by decide)]; exact hl2 g hg) hs2, fun h => absurd (Int.le_refl _) h⟩
        | succ mm ih2 =>
          intro f σ2 hf hm2 hl2 hs2 hp2
          have hfn : f < nf := by omega
          refine b_X0_showPlainly_23 _ _ _ _ ?_
          have e8 : σ2 k 8 = nf := by rw [hm2 k (by omega)]; exact k8
          have ec : σ2 (k + 21) c = -1 := by rw [hs2 c hcn, updf_eq]
          have ew : σ2 (w + 6) c = wi c := by rw [hm2 (w + 6) (by omega)]; exact hwi c hcn
          have g1 : σ2 (k + 2 + c) f = ct c f := by rw [hm2 _ (by omega)]; exact (kt c hcn f hfn).1
          simp only [sFirstW] at hp2
          simp only [k_X0_showPlainly_23, x_push, x_iload, x_lload, x_aload, x_bin, x_div, x_un, x_lbin, x_ldiv, x_lcmp, x_i2l, x_l2i, x_dup, x_pop, x_dup2, x_c1, x_c2, x_null, x_cat1, x_istore, x_astore, x_lstore, x_iinc, x_nol, x_tsw, xsw, x_lsw, xlsw, x_ret, x_zret, x_lret, x_aret, x_vret, x_getI, x_getL, x_getR, x_putI, x_putZ, x_putL, x_iaload, x_zaload, x_aaload, x_iastore, x_zastore, x_alen, x_mm, x_acopy, xpush, xJ, xK, x_cV0, x_cV1, x_cV2, x_cV3, x_cV4, x_cV5, x_cV6, x_cV7, x_cV8, x_cS1, x_cS2, x_cS3, x_cS4, x_cS5, List.getD_cons_zero, List.getD_cons_succ, List.set_cons_zero, List.set_cons_succ, List.length_cons, List.length_nil, Nat.zero_add, true_and, and_true, List.getD_nil, not_true, not_false_eq_true, Int.toNat_natCast, false_implies, true_implies, if_true, if_false, Int.toNat_zero, Int.toNat_one, true_or, or_true, Int.reduceEq, Int.reduceLT, Int.reduceLE, Int.reduceNe, Int.reduceNeg, Int.reduceAdd, Int.reduceSub, Int.reduceMul, Int.reduceToNat, Nat.reduceLT, Nat.reduceLeDiff, Nat.reduceAdd, Nat.reduceEqDiff, Nat.reduceSub, not_false_iff, and_self, implies_true, false_and, and_false, or_self, false_or, or_false, Int.cast_ofNat_Int, Int.natCast_nonneg, SK.f0 hS, SK.f1 hS, SK.f2 hS, SK.f3 hS, SK.f4 hS, SK.f5 hS, SK.f6 hS, SK.f7 hS, SK.f8 hS, SK.f9 hS, SK.l9 hS, SK.a9 hS, SK.e9 hS, SK.f10 hS, SK.l10 hS, SK.a10 hS, SK.e10 hS, SK.f11 hS, SK.l11 hS, SK.a11 hS, SK.e11 hS, SK.f12 hS, SK.l12 hS, SK.a12 hS, SK.e12 hS, SK.f13 hS, SK.l13 hS, SK.a13 hS, SK.e13 hS, SK.f14 hS, SK.l14 hS, SK.a14 hS, SK.f15 hS, SK.l15 hS, SK.a15 hS, SK.f16 hS, SK.l16 hS, SK.a16 hS, SW.f0 hW, SW.f1 hW, SW.f2 hW, SW.f3 hW, SW.f4 hW, SW.f5 hW, SW.f6 hW, SW.f7 hW, SW.f8 hW, SW.f9 hW, SW.l9 hW, SW.a9 hW, SW.e9 hW, SW.f10 hW, SW.l10 hW, SW.a10 hW, SW.e10 hW, SW.f11 hW, SW.l11 hW, SW.a11 hW, SW.e11 hW, SW.f12 hW, SW.l12 hW, SW.a12 hW, SW.e12 hW, SW.f13 hW, SW.l13 hW, SW.a13 hW, SW.e13 hW, SW.f14 hW, SW.l14 hW, SW.a14 hW, SW.e14 hW, SW.f15 hW, SW.l15 hW, SW.a15 hW, SW.e15 hW, e8, ec, eq_false (show ¬ ((nf : Int) ≤ (f : Int)) by omega), eq_true (show (c : Int) < 5 by omega)]
          refine c_isWished hW (by omega) (by omega) (fun z1 => ?_) (fun z0 => ?_)
          · rw [ew] at z1
            simp only [x_push, x_iload, x_lload, x_aload, x_bin, x_div, x_un, x_lbin, x_ldiv, x_lcmp, x_i2l, x_l2i, x_dup, x_pop, x_dup2, x_c1, x_c2, x_null, x_cat1, x_istore, x_astore, x_lstore, x_iinc, x_nol, x_tsw, xsw, x_lsw, xlsw, x_ret, x_zret, x_lret, x_aret, x_vret, x_getI, x_getL, x_getR, x_putI, x_putZ, x_putL, x_iaload, x_zaload, x_aaload, x_iastore, x_zastore, x_alen, x_mm, x_acopy, xpush, xJ, xK, x_cV0, x_cV1, x_cV2, x_cV3, x_cV4, x_cV5, x_cV6, x_cV7, x_cV8, x_cS1, x_cS2, x_cS3, x_cS4, x_cS5, List.getD_cons_zero, List.getD_cons_succ, List.set_cons_zero, List.set_cons_succ, List.length_cons, List.length_nil, Nat.zero_add, true_and, and_true, List.getD_nil, not_true, not_false_eq_true, Int.toNat_natCast, false_implies, true_implies, if_true, if_false, Int.toNat_zero, Int.toNat_one, true_or, or_true, Int.reduceEq, Int.reduceLT, Int.reduceLE, Int.reduceNe, Int.reduceNeg, Int.reduceAdd, Int.reduceSub, Int.reduceMul, Int.reduceToNat, Nat.reduceLT, Nat.reduceLeDiff, Nat.reduceAdd, Nat.reduceEqDiff, Nat.reduceSub, not_false_iff, and_self, implies_true, false_and, and_false, or_self, false_or, or_false, Int.cast_ofNat_Int, Int.natCast_nonneg, SK.f0 hS, SK.f1 hS, SK.f2 hS, SK.f3 hS, SK.f4 hS, SK.f5 hS, SK.f6 hS, SK.f7 hS, SK.f8 hS, SK.f9 hS, SK.l9 hS, SK.a9 hS, SK.e9 hS, SK.f10 hS, SK.l10 hS, SK.a10 hS, SK.e10 hS, SK.f11 hS, SK.l11 hS, SK.a11 hS, SK.e11 hS, SK.f12 hS, SK.l12 hS, SK.a12 hS, SK.e12 hS, SK.f13 hS, SK.l13 hS, SK.a13 hS, SK.e13 hS, SK.f14 hS, SK.l14 hS, SK.a14 hS, SK.f15 hS, SK.l15 hS, SK.a15 hS, SK.f16 hS, SK.l16 hS, SK.a16 hS]
            refine c_canBe hS hR (by omega) (by omega) (fun q1 q2 => ?_) (fun q => ?_)
            · rw [g1] at q1
              rw [g1, hl2 f hfn] at q2
              rw [if_pos ⟨z1, q1, q2⟩] at hp2
              simp only [x_push, x_iload, x_lload, x_aload, x_bin, x_div, x_un, x_lbin, x_ldiv, x_lcmp, x_i2l, x_l2i, x_dup, x_pop, x_dup2, x_c1, x_c2, x_null, x_cat1, x_istore, x_astore, x_lstore, x_iinc, x_nol, x_tsw, xsw, x_lsw, xlsw, x_ret, x_zret, x_lret, x_aret, x_vret, x_getI, x_getL, x_getR, x_putI, x_putZ, x_putL, x_iaload, x_zaload, x_aaload, x_iastore, x_zastore, x_alen, x_mm, x_acopy, xpush, xJ, xK, x_cV0, x_cV1, x_cV2, x_cV3, x_cV4, x_cV5, x_cV6, x_cV7, x_cV8, x_cS1, x_cS2, x_cS3, x_cS4, x_cS5, List.getD_cons_zero, List.getD_cons_succ, List.set_cons_zero, List.set_cons_succ, List.length_cons, List.length_nil, Nat.zero_add, true_and, and_true, List.getD_nil, not_true, not_false_eq_true, Int.toNat_natCast, false_implies, true_implies, if_true, if_false, Int.toNat_zero, Int.toNat_one, true_or, or_true, Int.reduceEq, Int.reduceLT, Int.reduceLE, Int.reduceNe, Int.reduceNeg, Int.reduceAdd, Int.reduceSub, Int.reduceMul, Int.reduceToNat, Nat.reduceLT, Nat.reduceLeDiff, Nat.reduceAdd, Nat.reduceEqDiff, Nat.reduceSub, not_false_iff, and_self, implies_true, false_and, and_false, or_self, false_or, or_false, Int.cast_ofNat_Int, Int.natCast_nonneg, SK.f0 hS, SK.f1 hS, SK.f2 hS, SK.f3 hS, SK.f4 hS, SK.f5 hS, SK.f6 hS, SK.f7 hS, SK.f8 hS, SK.f9 hS, SK.l9 hS, SK.a9 hS, SK.e9 hS, SK.f10 hS, SK.l10 hS, SK.a10 hS, SK.e10 hS, SK.f11 hS, SK.l11 hS, SK.a11 hS, SK.e11 hS, SK.f12 hS, SK.l12 hS, SK.a12 hS, SK.e12 hS, SK.f13 hS, SK.l13 hS, SK.a13 hS, SK.e13 hS, SK.f14 hS, SK.l14 hS, SK.a14 hS, SK.f15 hS, SK.l15 hS, SK.a15 hS, SK.f16 hS, SK.l16 hS, SK.a16 hS, r1, gArr_of r2, gLen_of r2, eq_true (show (c : Int) < 5 by omega), eq_true (show (f : Int) < 6 by omega), upd2_row (show k + 20 ≠ k + 21 by omega), upd2_row (show k + 2 + c ≠ k + 21 by omega), g1, hl2 f hfn]
              obtain ⟨-, b1, b2⟩ := hlf f hfn
              have b := (htb c hcn f hfn).1
              rw [osub_id (by omega) (by omega), oadd_id (by omega) (by omega)]
              -- the head again: found
              refine b_X0_showPlainly_23 _ _ _ _ ?_
              have hm3 : Sm (fun q => q = k + 20 ∨ q = k + 21) σ (upd2 (upd2 σ2 (k + 21) c f) (k + 20) f (left f - ct c f)) := (hm2.put (Or.inr rfl)).put (Or.inl rfl)
              have e8' : upd2 (upd2 σ2 (k + 21) c f) (k + 20) f (left f - ct c f) k 8 = nf := by rw [hm3 k (by omega)]; exact k8
              have ec' : upd2 (upd2 σ2 (k + 21) c f) (k + 20) f (left f - ct c f) (k + 21) c = f := by rw [upd2_row (by omega), upd2_eq]
              have fin : ∀ v, xR M_X0_showPlainly (d + 2) (0, 0) 6 [vr k, vr w, vi (oadd (c : Int) 1), v] [] (Γ, upd2 (upd2 σ2 (k + 21) c f) (k + 20) f (left f - ct c f)) Q := fun v => by
                refine out _ f v hp2 hm3 (fun g hg => ?_) (fun z hz => ?_)
                · rw [if_neg (by omega), Int.toNat_natCast]
                  by_cases e : g = f
                  · rw [e, upd2_eq, updf_eq]
                  · rw [upd2_col e, upd2_row (by omega), updf_ne e]; exact hl2 g hg
                · rw [upd2_row (by omega)]
                  by_cases e : z = c
                  · rw [e, upd2_eq, updf_eq]
                  · rw [upd2_col e, updf_ne e, hs2 z hz, updf_ne e]
              simp only [k_X0_showPlainly_23, x_push, x_iload, x_lload, x_aload, x_bin, x_div, x_un, x_lbin, x_ldiv, x_lcmp, x_i2l, x_l2i, x_dup, x_pop, x_dup2, x_c1, x_c2, x_null, x_cat1, x_istore, x_astore, x_lstore, x_iinc, x_nol, x_tsw, xsw, x_lsw, xlsw, x_ret, x_zret, x_lret, x_aret, x_vret, x_getI, x_getL, x_getR, x_putI, x_putZ, x_putL, x_iaload, x_zaload, x_aaload, x_iastore, x_zastore, x_alen, x_mm, x_acopy, xpush, xJ, xK, x_cV0, x_cV1, x_cV2, x_cV3, x_cV4, x_cV5, x_cV6, x_cV7, x_cV8, x_cS1, x_cS2, x_cS3, x_cS4, x_cS5, List.getD_cons_zero, List.getD_cons_succ, List.set_cons_zero, List.set_cons_succ, List.length_cons, List.length_nil, Nat.zero_add, true_and, and_true, List.getD_nil, not_true, not_false_eq_true, Int.toNat_natCast, false_implies, true_implies, if_true, if_false, Int.toNat_zero, Int.toNat_one, true_or, or_true, Int.reduceEq, Int.reduceLT, Int.reduceLE, Int.reduceNe, Int.reduceNeg, Int.reduceAdd, Int.reduceSub, Int.reduceMul, Int.reduceToNat, Nat.reduceLT, Nat.reduceLeDiff, Nat.reduceAdd, Nat.reduceEqDiff, Nat.reduceSub, not_false_iff, and_self, implies_true, false_and, and_false, or_self, false_or, or_false, Int.cast_ofNat_Int, Int.natCast_nonneg, SK.f0 hS, SK.f1 hS, SK.f2 hS, SK.f3 hS, SK.f4 hS, SK.f5 hS, SK.f6 hS, SK.f7 hS, SK.f8 hS, SK.f9 hS, SK.l9 hS, SK.a9 hS, SK.e9 hS, SK.f10 hS, SK.l10 hS, SK.a10 hS, SK.e10 hS, SK.f11 hS, SK.l11 hS, SK.a11 hS, SK.e11 hS, SK.f12 hS, SK.l12 hS, SK.a12 hS, SK.e12 hS, SK.f13 hS, SK.l13 hS, SK.a13 hS, SK.e13 hS, SK.f14 hS, SK.l14 hS, SK.a14 hS, SK.f15 hS, SK.l15 hS, SK.a15 hS, SK.f16 hS, SK.l16 hS, SK.a16 hS, SW.f0 hW, SW.f1 hW, SW.f2 hW, SW.f3 hW, SW.f4 hW, SW.f5 hW, SW.f6 hW, SW.f7 hW, SW.f8 hW, SW.f9 hW, SW.l9 hW, SW.a9 hW, SW.e9 hW, SW.f10 hW, SW.l10 hW, SW.a10 hW, SW.e10 hW, SW.f11 hW, SW.l11 hW, SW.a11 hW, SW.e11 hW, SW.f12 hW, SW.l12 hW, SW.a12 hW, SW.e12 hW, SW.f13 hW, SW.l13 hW, SW.a13 hW, SW.e13 hW, SW.f14 hW, SW.l14 hW, SW.a14 hW, SW.e14 hW, SW.f15 hW, SW.l15 hW, SW.a15 hW, SW.e15 hW, e8', ec', eq_true (show (c : Int) < 5 by omega), eq_false (show ¬ ((f : Int) = -1) by omega)]
              exact ⟨fun _ => fin _, fun _ => fin _⟩
            · rw [g1, hl2 f hfn] at q
              rw [if_neg (fun z => q z.2)] at hp2
              simp only [x_push, x_iload, x_lload, x_aload, x_bin, x_div, x_un, x_lbin, x_ldiv, x_lcmp, x_i2l, x_l2i, x_dup, x_pop, x_dup2, x_c1, x_c2, x_null, x_cat1, x_istore, x_astore, x_lstore, x_iinc, x_nol, x_tsw, xsw, x_lsw, xlsw, x_ret, x_zret, x_lret, x_aret, x_vret, x_getI, x_getL, x_getR, x_putI, x_putZ, x_putL, x_iaload, x_zaload, x_aaload, x_iastore, x_zastore, x_alen, x_mm, x_acopy, xpush, xJ, xK, x_cV0, x_cV1, x_cV2, x_cV3, x_cV4, x_cV5, x_cV6, x_cV7, x_cV8, x_cS1, x_cS2, x_cS3, x_cS4, x_cS5, List.getD_cons_zero, List.getD_cons_succ, List.set_cons_zero, List.set_cons_succ, List.length_cons, List.length_nil, Nat.zero_add, true_and, and_true, List.getD_nil, not_true, not_false_eq_true, Int.toNat_natCast, false_implies, true_implies, if_true, if_false, Int.toNat_zero, Int.toNat_one, true_or, or_true, Int.reduceEq, Int.reduceLT, Int.reduceLE, Int.reduceNe, Int.reduceNeg, Int.reduceAdd, Int.reduceSub, Int.reduceMul, Int.reduceToNat, Nat.reduceLT, Nat.reduceLeDiff, Nat.reduceAdd, Nat.reduceEqDiff, Nat.reduceSub, not_false_iff, and_self, implies_true, false_and, and_false, or_self, false_or, or_false, Int.cast_ofNat_Int, Int.natCast_nonneg, SK.f0 hS, SK.f1 hS, SK.f2 hS, SK.f3 hS, SK.f4 hS, SK.f5 hS, SK.f6 hS, SK.f7 hS, SK.f8 hS, SK.f9 hS, SK.l9 hS, SK.a9 hS, SK.e9 hS, SK.f10 hS, SK.l10 hS, SK.a10 hS, SK.e10 hS, SK.f11 hS, SK.l11 hS, SK.a11 hS, SK.e11 hS, SK.f12 hS, SK.l12 hS, SK.a12 hS, SK.e12 hS, SK.f13 hS, SK.l13 hS, SK.a13 hS, SK.e13 hS, SK.f14 hS, SK.l14 hS, SK.a14 hS, SK.f15 hS, SK.l15 hS, SK.a15 hS, SK.f16 hS, SK.l16 hS, SK.a16 hS]
              rw [oadd_id (by omega) (by omega)]
              exact ih2 (f + 1) σ2 (by omega) hm2 hl2 hs2 hp2
          · rw [ew] at z0
            rw [if_neg (fun z => by omega)] at hp2
            simp only [x_push, x_iload, x_lload, x_aload, x_bin, x_div, x_un, x_lbin, x_ldiv, x_lcmp, x_i2l, x_l2i, x_dup, x_pop, x_dup2, x_c1, x_c2, x_null, x_cat1, x_istore, x_astore, x_lstore, x_iinc, x_nol, x_tsw, xsw, x_lsw, xlsw, x_ret, x_zret, x_lret, x_aret, x_vret, x_getI, x_getL, x_getR, x_putI, x_putZ, x_putL, x_iaload, x_zaload, x_aaload, x_iastore, x_zastore, x_alen, x_mm, x_acopy, xpush, xJ, xK, x_cV0, x_cV1, x_cV2, x_cV3, x_cV4, x_cV5, x_cV6, x_cV7, x_cV8, x_cS1, x_cS2, x_cS3, x_cS4, x_cS5, List.getD_cons_zero, List.getD_cons_succ, List.set_cons_zero, List.set_cons_succ, List.length_cons, List.length_nil, Nat.zero_add, true_and, and_true, List.getD_nil, not_true, not_false_eq_true, Int.toNat_natCast, false_implies, true_implies, if_true, if_false, Int.toNat_zero, Int.toNat_one, true_or, or_true, Int.reduceEq, Int.reduceLT, Int.reduceLE, Int.reduceNe, Int.reduceNeg, Int.reduceAdd, Int.reduceSub, Int.reduceMul, Int.reduceToNat, Nat.reduceLT, Nat.reduceLeDiff, Nat.reduceAdd, Nat.reduceEqDiff, Nat.reduceSub, not_false_iff, and_self, implies_true, false_and, and_false, or_self, false_or, or_false, Int.cast_ofNat_Int, Int.natCast_nonneg, SK.f0 hS, SK.f1 hS, SK.f2 hS, SK.f3 hS, SK.f4 hS, SK.f5 hS, SK.f6 hS, SK.f7 hS, SK.f8 hS, SK.f9 hS, SK.l9 hS, SK.a9 hS, SK.e9 hS, SK.f10 hS, SK.l10 hS, SK.a10 hS, SK.e10 hS, SK.f11 hS, SK.l11 hS, SK.a11 hS, SK.e11 hS, SK.f12 hS, SK.l12 hS, SK.a12 hS, SK.e12 hS, SK.f13 hS, SK.l13 hS, SK.a13 hS, SK.e13 hS, SK.f14 hS, SK.l14 hS, SK.a14 hS, SK.f15 hS, SK.l15 hS, SK.a15 hS, SK.f16 hS, SK.l16 hS, SK.a16 hS]
            rw [oadd_id (by omega) (by omega)]
            exact ih2 (f + 1) σ2 (by omega) hm2 hl2 hs2 hp2
      refine inner nf 0 _ (by omega) (hm.put (Or.inr rfl)) (fun g hg => ?_) (fun z hz => ?_) rfl
      · rw [upd2_row (by omega)]; exact (hlf g hg).1
      · by_cases e : z = c
        · rw [e, upd2_eq, updf_eq]
        · rw [upd2_col e, updf_ne e]; exact hsh z hz
  refine b_X0_showPlainly_0 _ _ _ _ ?_
  show k_X0_showPlainly_0 (d + 1) Q (0, 0) [vr k, vr w, vu, vu] [] (Γ, σ)
  simp only [k_X0_showPlainly_0, x_push, x_iload, x_lload, x_aload, x_bin, x_div, x_un, x_lbin, x_ldiv, x_lcmp, x_i2l, x_l2i, x_dup, x_pop, x_dup2, x_c1, x_c2, x_null, x_cat1, x_istore, x_astore, x_lstore, x_iinc, x_nol, x_tsw, xsw, x_lsw, xlsw, x_ret, x_zret, x_lret, x_aret, x_vret, x_getI, x_getL, x_getR, x_putI, x_putZ, x_putL, x_iaload, x_zaload, x_aaload, x_iastore, x_zastore, x_alen, x_mm, x_acopy, xpush, xJ, xK, x_cV0, x_cV1, x_cV2, x_cV3, x_cV4, x_cV5, x_cV6, x_cV7, x_cV8, x_cS1, x_cS2, x_cS3, x_cS4, x_cS5, List.getD_cons_zero, List.getD_cons_succ, List.set_cons_zero, List.set_cons_succ, List.length_cons, List.length_nil, Nat.zero_add, true_and, and_true, List.getD_nil, not_true, not_false_eq_true, Int.toNat_natCast, false_implies, true_implies, if_true, if_false, Int.toNat_zero, Int.toNat_one, true_or, or_true, Int.reduceEq, Int.reduceLT, Int.reduceLE, Int.reduceNe, Int.reduceNeg, Int.reduceAdd, Int.reduceSub, Int.reduceMul, Int.reduceToNat, Nat.reduceLT, Nat.reduceLeDiff, Nat.reduceAdd, Nat.reduceEqDiff, Nat.reduceSub, not_false_iff, and_self, implies_true, false_and, and_false, or_self, false_or, or_false, Int.cast_ofNat_Int, Int.natCast_nonneg, SK.f0 hS, SK.f1 hS, SK.f2 hS, SK.f3 hS, SK.f4 hS, SK.f5 hS, SK.f6 hS, SK.f7 hS, SK.f8 hS, SK.f9 hS, SK.l9 hS, SK.a9 hS, SK.e9 hS, SK.f10 hS, SK.l10 hS, SK.a10 hS, SK.e10 hS, SK.f11 hS, SK.l11 hS, SK.a11 hS, SK.e11 hS, SK.f12 hS, SK.l12 hS, SK.a12 hS, SK.e12 hS, SK.f13 hS, SK.l13 hS, SK.a13 hS, SK.e13 hS, SK.f14 hS, SK.l14 hS, SK.a14 hS, SK.f15 hS, SK.l15 hS, SK.a15 hS, SK.f16 hS, SK.l16 hS, SK.a16 hS]
  refine c_fillPurses hS (fun σ1 h1 h2 => ?_)
  simp only [x_push, x_iload, x_lload, x_aload, x_bin, x_div, x_un, x_lbin, x_ldiv, x_lcmp, x_i2l, x_l2i, x_dup, x_pop, x_dup2, x_c1, x_c2, x_null, x_cat1, x_istore, x_astore, x_lstore, x_iinc, x_nol, x_tsw, xsw, x_lsw, xlsw, x_ret, x_zret, x_lret, x_aret, x_vret, x_getI, x_getL, x_getR, x_putI, x_putZ, x_putL, x_iaload, x_zaload, x_aaload, x_iastore, x_zastore, x_alen, x_mm, x_acopy, xpush, xJ, xK, x_cV0, x_cV1, x_cV2, x_cV3, x_cV4, x_cV5, x_cV6, x_cV7, x_cV8, x_cS1, x_cS2, x_cS3, x_cS4, x_cS5, List.getD_cons_zero, List.getD_cons_succ, List.set_cons_zero, List.set_cons_succ, List.length_cons, List.length_nil, Nat.zero_add, true_and, and_true, List.getD_nil, not_true, not_false_eq_true, Int.toNat_natCast, false_implies, true_implies, if_true, if_false, Int.toNat_zero, Int.toNat_one, true_or, or_true, Int.reduceEq, Int.reduceLT, Int.reduceLE, Int.reduceNe, Int.reduceNeg, Int.reduceAdd, Int.reduceSub, Int.reduceMul, Int.reduceToNat, Nat.reduceLT, Nat.reduceLeDiff, Nat.reduceAdd, Nat.reduceEqDiff, Nat.reduceSub, not_false_iff, and_self, implies_true, false_and, and_false, or_self, false_or, or_false, Int.cast_ofNat_Int, Int.natCast_nonneg, SK.f0 hS, SK.f1 hS, SK.f2 hS, SK.f3 hS, SK.f4 hS, SK.f5 hS, SK.f6 hS, SK.f7 hS, SK.f8 hS, SK.f9 hS, SK.l9 hS, SK.a9 hS, SK.e9 hS, SK.f10 hS, SK.l10 hS, SK.a10 hS, SK.e10 hS, SK.f11 hS, SK.l11 hS, SK.a11 hS, SK.e11 hS, SK.f12 hS, SK.l12 hS, SK.a12 hS, SK.e12 hS, SK.f13 hS, SK.l13 hS, SK.a13 hS, SK.e13 hS, SK.f14 hS, SK.l14 hS, SK.a14 hS, SK.f15 hS, SK.l15 hS, SK.a15 hS, SK.f16 hS, SK.l16 hS, SK.a16 hS]
  refine loop nc 0 σ1 me (σ (k + 21)) _ (by omega) (h1.mono (fun _ z => Or.inl z)) (fun f hf => ?_) (fun z hz => by rw [h1 (k + 21) (by omega)]) rfl
  rw [h2 f (by omega), k19 f hf]
  have := hme f hf
  exact ⟨rfl, by omega, by omega⟩
end Keeper
