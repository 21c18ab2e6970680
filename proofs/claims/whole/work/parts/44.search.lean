/-! ===== Keeper.search ===== -/
/-- the costs of the allowed figures -/
def ctm (mask : Nat) (ct : Nat → Nat → Int) : Nat → Nat → Int := fun c f => if xbit mask f = 1 then ct c f else -1
/-- what a search rests on -/
def SBase (σ : Nat → Nat → Int) (k g mask nf nc : Nat) (ct G : Nat → Nat → Int) (me : Nat → Int) : Prop := (g = k + 7 ∨ g = k + 13) ∧ mask < 64 ∧ nf ≤ 6 ∧ nc ≤ 5 ∧ σ k 8 = nf ∧ σ k 9 = nc ∧ σ k 10 = mask ∧
  (∀ c, c < nc → ∀ f, f < nf → σ (k + 2 + c) f = ct c f ∧ (ct c f ≠ -1 → σ (g + 1 + c) f = G c f) ∧ (-1 ≤ ct c f ∧ ct c f ≤ 999) ∧ -1999 ≤ G c f ∧ G c f ≤ 1999) ∧ (∀ f, f < nf → 0 ≤ me f ∧ me f ≤ 999)
def RS (k : Nat) : Nat → Prop := fun q => q = k ∨ q = k + 20 ∨ q = k + 21 ∨ q = k + 22
/-- a search under way -/
def SI (σ σ' : Nat → Nat → Int) (k nf nc : Nat) (acc : Int × List Int) (left : Nat → Int) (pre : List Int) (c : Nat) : Prop := Sm (RS k) σ σ' ∧ (∀ j, j ≠ 11 → σ' k j = σ k j) ∧ σ' k 11 = acc.1 ∧ (∀ f, f < nf → σ' (k + 20) f = left f) ∧ (∀ i, i < nc → σ' (k + 21) i = acc.2.getD i 0) ∧ (∀ i, i < c → σ' (k + 22) i = pre.getD i 0) ∧ pre.length = c
section Keeper
variable {Γ : xSh} {σ : Nat → Nat → Int} {k g mask d n nf nc : Nat} {Q : xV → xMem → Prop} {ct G : Nat → Nat → Int} {me : Nat → Int}
theorem getD_app_lt {l : List Int} {x : Int} {i : Nat} (h : i < l.length) : (l ++ [x]).getD i 0 = l.getD i 0 := by
  simp [List.getD_eq_getElem?_getD, List.getElem?_append_left h]
theorem getD_app_eq {l : List Int} {x : Int} : (l ++ [x]).getD l.length 0 = x := by
  simp [List.getD_eq_getElem?_getD]
set_option maxHeartbeats 8000000 in
theorem c_search (hS : SK Γ k) (hR : SKr Γ k) (hB : SBase σ k g mask nf nc ct G me) (hH : ∀ m c, c + m = nc → σ (k + 23) c = sHope (ctm mask ct) G nf me m c) :
    ∀ (m c : Nat) (left : Nat → Int) (pre : List Int) (sum : Int) (acc : Int × List Int) (σ' : Nat → Nat → Int) (Q : xV → xMem → Prop), c + m = nc → SI σ σ' k nf nc acc left pre c → (-1999 * c ≤ sum ∧ sum ≤ 1999 * c) → (∀ f, f < nf → 0 ≤ left f ∧ left f ≤ me f) →
      (∀ σ'', SI σ σ'' k nf nc ((sAll (ctm mask ct) nf m c left).foldl (sStep G c pre sum) acc) left pre c → Q vu (Γ, σ'')) → xRM M_X0_search (d + m + 3) (0, 0) [vr k, vr g, vi c, vi sum] (Γ, σ') Q := by
  obtain ⟨hg, hmask, hnf, hnc, k8, k9, k10, kt, hme⟩ := hB
  intro m
  induction m with
  | zero =>
    intro c left pre sum acc σ' Q hc hI bs bl hQ
    have hc : c = nc := by omega
    subst hc
    obtain ⟨hm, hj, h11, hlf, hsh, htr, hpl⟩ := hI
    refine xRM_of (by decide) (Nat.le_of_ble_eq_true rfl) ?_
    refine b_X0_search_0 _ _ _ _ ?_
    show k_X0_search_0 (d + 2) Q (0, 0) [vr k, vr g, vi c, vi sum, vu] [] (Γ, σ')
    have e9 : σ' k 9 = c := by rw [hj 9 (by decide)]; exact k9
    simp only [k_X0_search_0, x_push, x_iload, x_lload, x_aload, x_bin, x_div, x_un, x_lbin, x_ldiv, x_lcmp, x_i2l, x_l2i, x_dup, x_pop, x_dup2, x_c1, x_c2, x_null, x_cat1, x_istore, x_astore, x_lstore, x_iinc, x_nol, x_tsw, xsw, x_lsw, xlsw, x_ret, x_zret, x_lret, x_aret, x_vret, x_getI, x_getL, x_getR, x_putI, x_putZ, x_putL, x_iaload, x_zaload, x_aaload, x_iastore, x_zastore, x_alen, x_mm, x_acopy, xpush, xJ, xK, x_cV0, x_cV1, x_cV2, x_cV3, x_cV4, x_cV5, x_cV6, x_cV7, x_cV8, x_cS1, x_cS2, x_cS3, x_cS4, x_cS5, List.getD_cons_zero, List.getD_cons_succ, List.set_cons_zero, List.set_cons_succ, List.length_cons, List.length_nil, Nat.zero_add, true_and, and_true, List.getD_nil, not_true, not_false_eq_true, Int.toNat_natCast, false_implies, true_implies, if_true, if_false, Int.toNat_zero, Int.toNat_one, true_or, or_true, Int.reduceEq, Int.reduceLT, Int.reduceLE, Int.reduceNe, Int.reduceNeg, Int.reduceAdd, Int.reduceSub, Int.reduceMul, Int.reduceToNat, Nat.reduceLT, Nat.reduceLeDiff, Nat.reduceAdd, Nat.reduceEqDiff, Nat.reduceSub, not_false_iff, and_self, implies_true, false_and, and_false, or_self, false_or, or_false, Int.cast_ofNat_Int, Int.natCast_nonneg, SK.f0 hS, SK.f1 hS, SK.f2 hS, SK.f3 hS, SK.f4 hS, SK.f5 hS, SK.f6 hS, SK.f7 hS, SK.f8 hS, SK.f9 hS, SK.l9 hS, SK.a9 hS, SK.e9 hS, SK.f10 hS, SK.l10 hS, SK.a10 hS, SK.e10 hS, SK.f11 hS, SK.l11 hS, SK.a11 hS, SK.e11 hS, SK.f12 hS, SK.l12 hS, SK.a12 hS, SK.e12 hS, SK.f13 hS, SK.l13 hS, SK.a13 hS, SK.e13 hS, SK.f14 hS, SK.l14 hS, SK.a14 hS, SK.f15 hS, SK.l15 hS, SK.a15 hS, SK.f16 hS, SK.l16 hS, SK.a16 hS, e9, h11, eq_false (show ¬ ((c : Int) < (c : Int)) by omega), upd2_col (show 9 ≠ 11 by decide)]
    simp only [sAll, List.foldl_cons, List.foldl_nil, sStep, sV, Int.add_zero, List.append_nil] at hQ
    refine ⟨fun q => ?_, fun q => ?_⟩
    · rw [if_neg (by omega)] at hQ
      exact hQ σ' ⟨hm, hj, h11, hlf, hsh, htr, hpl⟩
    · rw [if_pos (by omega)] at hQ
      refine ⟨by omega, by omega, hQ _ ⟨(hm.put (Or.inl rfl)).cpy (Or.inr (Or.inr (Or.inl rfl))), fun j hj' => ?_, ?_, fun f hf => ?_, fun i hi => ?_, fun i hi => ?_, hpl⟩⟩
      · rw [cpy2_row (by omega), upd2_col hj']; exact hj j hj'
      · rw [cpy2_row (by omega), upd2_eq]
      · rw [cpy2_row (by omega), upd2_row (by omega)]; exact hlf f hf
      · rw [cpy2_dst hi, upd2_row (by omega)]; exact htr i hi
      · rw [cpy2_row (by omega), upd2_row (by omega)]; exact htr i hi
  | succ m ih =>
    intro c left pre sum acc σ' Q hc hI bs bl hQ
    have hcn : c < nc := by omega
    obtain ⟨⟨r1, r2⟩, ⟨r3, r4⟩, ⟨r5, r6⟩⟩ := hR c (by omega)
    have rg : gF Γ g c = some (g + 1 + c) ∧ gK Γ (g + 1 + c) = some (.inr (.int, 6)) := by
      rcases hg with rfl | rfl
      · exact ⟨by rw [r3], by rw [show k + 7 + 1 + c = k + 8 + c by omega]; exact r4⟩
      · exact ⟨by rw [r5], by rw [show k + 13 + 1 + c = k + 14 + c by omega]; exact r6⟩
    have ga : (∃ ty, gArr Γ g ty ∧ ty.isReference = true) = True := by
      rcases hg with rfl | rfl
      · exact SK.a15 hS
      · exact SK.a16 hS
    have gl : gLen Γ g = 5 := by
      rcases hg with rfl | rfl
      · exact SK.l15 hS
      · exact SK.l16 hS
    have hh := hH (m + 1) c hc
    have hb1 := sHope_nn (ctm mask ct) G nf me (m + 1) c
    have hb2 := sHope_le (ct := ctm mask ct) (G := G) (me := me) (nf := nf) (nc := nc) (fun c hc f hf => (kt c hc f hf).2.2.2.2) (m + 1) c (by omega)
    refine xRM_of (by decide) (Nat.le_of_ble_eq_true rfl) ?_
    -- the loop over figures
    have loop : ∀ (n f : Nat) (σ2 : Nat → Nat → Int) (acc1 : Int × List Int), f + n = nf → SI σ σ2 k nf nc (sPart (ctm mask ct) G nf m c left pre sum acc1 f) left pre c → sPart (ctm mask ct) G nf m c left pre sum acc1 nf = (sAll (ctm mask ct) nf (m + 1) c left).foldl (sStep G c pre sum) acc → xR M_X0_search (d + m + 4) (0, 0) 74 [vr k, vr g, vi c, vi sum, vi f] [] (Γ, σ2) Q := by
      intro n
      induction n with
      | zero =>
        intro f σ2 acc1 hf hI2 hfin
        have hf : f = nf := by omega
        subst hf
        refine b_X0_search_74 _ _ _ _ ?_
        have e8 : σ2 k 8 = f := by rw [hI2.2.1 8 (by decide)]; exact k8
        simp only [k_X0_search_74, x_push, x_iload, x_lload, x_aload, x_bin, x_div, x_un, x_lbin, x_ldiv, x_lcmp, x_i2l, x_l2i, x_dup, x_pop, x_dup2, x_c1, x_c2, x_null, x_cat1, x_istore, x_astore, x_lstore, x_iinc, x_nol, x_tsw, xsw, x_lsw, xlsw, x_ret, x_zret, x_lret, x_aret, x_vret, x_getI, x_getL, x_getR, x_putI, x_putZ, x_putL, x_iaload, x_zaload, x_aaload, x_iastore, x_zastore, x_alen, x_mm, x_acopy, xpush, xJ, xK, x_cV0, x_cV1, x_cV2, x_cV3, x_cV4, x_cV5, x_cV6, x_cV7, x_cV8, x_cS1, x_cS2, x_cS3, x_cS4, x_cS5, List.getD_cons_zero, List.getD_cons_succ, List.set_cons_zero, List.set_cons_succ, List.length_cons, List.length_nil, Nat.zero_add, true_and, and_true, List.getD_nil, not_true, not_false_eq_true, Int.toNat_natCast, false_implies, true_implies, if_true, if_false, Int.toNat_zero, Int.toNat_one, true_or, or_true, Int.reduceEq, Int.reduceLT, Int.reduceLE, Int.reduceNe, Int.reduceNeg, Int.reduceAdd, Int.reduceSub, Int.reduceMul, Int.reduceToNat, Nat.reduceLT, Nat.reduceLeDiff, Nat.reduceAdd, Nat.reduceEqDiff, Nat.reduceSub, not_false_iff, and_self, implies_true, false_and, and_false, or_self, false_or, or_false, Int.cast_ofNat_Int, Int.natCast_nonneg, SK.f0 hS, SK.f1 hS, SK.f2 hS, SK.f3 hS, SK.f4 hS, SK.f5 hS, SK.f6 hS, SK.f7 hS, SK.f8 hS, SK.f9 hS, SK.l9 hS, SK.a9 hS, SK.e9 hS, SK.f10 hS, SK.l10 hS, SK.a10 hS, SK.e10 hS, SK.f11 hS, SK.l11 hS, SK.a11 hS, SK.e11 hS, SK.f12 hS, SK.l12 hS, SK.a12 hS, SK.e12 hS, SK.f13 hS, SK.l13 hS, SK.a13 hS, SK.e13 hS, SK.f14 hS, SK.l14 hS, SK.a14 hS, SK.f15 hS, SK.l15 hS, SK.a15 hS, SK.f16 hS, SK.l16 hS, SK.a16 hS, e8]
        refine ⟨fun _ => hQ σ2 ?_, fun h => absurd (Int.le_refl _) h⟩
        rw [← hfin]
        exact hI2
      | succ n ih2 =>
        intro f σ2 acc1 hf hI2 hfin
        have hfn : f < nf := by omega
        obtain ⟨t1, t2, ⟨t3, t4⟩, t5, t6⟩ := kt c hcn f hfn
        obtain ⟨hm2, hj2, h112, hlf2, hsh2, htr2, hpl2⟩ := id hI2
        have e8 : σ2 k 8 = nf := by rw [hj2 8 (by decide)]; exact k8
        have e10 : σ2 k 10 = mask := by rw [hj2 10 (by decide)]; exact k10
        have g1 : σ2 (k + 2 + c) f = ct c f := by rw [hm2 _ (by unfold RS; omega)]; exact t1
        have l1 := hlf2 f hfn
        obtain ⟨l2, l3⟩ := bl f hfn
        have me1 := hme f hfn
        refine b_X0_search_74 _ _ _ _ ?_
        simp only [k_X0_search_74, x_push, x_iload, x_lload, x_aload, x_bin, x_div, x_un, x_lbin, x_ldiv, x_lcmp, x_i2l, x_l2i, x_dup, x_pop, x_dup2, x_c1, x_c2, x_null, x_cat1, x_istore, x_astore, x_lstore, x_iinc, x_nol, x_tsw, xsw, x_lsw, xlsw, x_ret, x_zret, x_lret, x_aret, x_vret, x_getI, x_getL, x_getR, x_putI, x_putZ, x_putL, x_iaload, x_zaload, x_aaload, x_iastore, x_zastore, x_alen, x_mm, x_acopy, xpush, xJ, xK, x_cV0, x_cV1, x_cV2, x_cV3, x_cV4, x_cV5, x_cV6, x_cV7, x_cV8, x_cS1, x_cS2, x_cS3, x_cS4, x_cS5, List.getD_cons_zero, List.getD_cons_succ, List.set_cons_zero, List.set_cons_succ, List.length_cons, List.length_nil, Nat.zero_add, true_and, and_true, List.getD_nil, not_true, not_false_eq_true, Int.toNat_natCast, false_implies, true_implies, if_true, if_false, Int.toNat_zero, Int.toNat_one, true_or, or_true, Int.reduceEq, Int.reduceLT, Int.reduceLE, Int.reduceNe, Int.reduceNeg, Int.reduceAdd, Int.reduceSub, Int.reduceMul, Int.reduceToNat, Nat.reduceLT, Nat.reduceLeDiff, Nat.reduceAdd, Nat.reduceEqDiff, Nat.reduceSub, not_false_iff, and_self, implies_true, false_and, and_false, or_self, false_or, or_false, Int.cast_ofNat_Int, Int.natCast_nonneg, SK.f0 hS, SK.f1 hS, SK.f2 hS, SK.f3 hS, SK.f4 hS, SK.f5 hS, SK.f6 hS, SK.f7 hS, SK.f8 hS, SK.f9 hS, SK.l9 hS, SK.a9 hS, SK.e9 hS, SK.f10 hS, SK.l10 hS, SK.a10 hS, SK.e10 hS, SK.f11 hS, SK.l11 hS, SK.a11 hS, SK.e11 hS, SK.f12 hS, SK.l12 hS, SK.a12 hS, SK.e12 hS, SK.f13 hS, SK.l13 hS, SK.a13 hS, SK.e13 hS, SK.f14 hS, SK.l14 hS, SK.a14 hS, SK.f15 hS, SK.l15 hS, SK.a15 hS, SK.f16 hS, SK.l16 hS, SK.a16 hS, e8, eq_false (show ¬ ((nf : Int) ≤ (f : Int)) by omega)]
        refine c_isAllowed hS hR (by omega) (by omega) e10 hmask (fun q0 q1 q2 => ?_) (fun q => ?_)
        · rw [g1] at q1
          rw [g1, l1] at q2
          have g2 : σ2 (g + 1 + c) f = G c f := by rw [hm2 _ (by unfold RS; omega)]; exact t2 q1
          have ectm : ctm mask ct c f = ct c f := by unfold ctm; rw [if_pos q0]
          simp only [x_push, x_iload, x_lload, x_aload, x_bin, x_div, x_un, x_lbin, x_ldiv, x_lcmp, x_i2l, x_l2i, x_dup, x_pop, x_dup2, x_c1, x_c2, x_null, x_cat1, x_istore, x_astore, x_lstore, x_iinc, x_nol, x_tsw, xsw, x_lsw, xlsw, x_ret, x_zret, x_lret, x_aret, x_vret, x_getI, x_getL, x_getR, x_putI, x_putZ, x_putL, x_iaload, x_zaload, x_aaload, x_iastore, x_zastore, x_alen, x_mm, x_acopy, xpush, xJ, xK, x_cV0, x_cV1, x_cV2, x_cV3, x_cV4, x_cV5, x_cV6, x_cV7, x_cV8, x_cS1, x_cS2, x_cS3, x_cS4, x_cS5, List.getD_cons_zero, List.getD_cons_succ, List.set_cons_zero, List.set_cons_succ, List.length_cons, List.length_nil, Nat.zero_add, true_and, and_true, List.getD_nil, not_true, not_false_eq_true, Int.toNat_natCast, false_implies, true_implies, if_true, if_false, Int.toNat_zero, Int.toNat_one, true_or, or_true, Int.reduceEq, Int.reduceLT, Int.reduceLE, Int.reduceNe, Int.reduceNeg, Int.reduceAdd, Int.reduceSub, Int.reduceMul, Int.reduceToNat, Nat.reduceLT, Nat.reduceLeDiff, Nat.reduceAdd, Nat.reduceEqDiff, Nat.reduceSub, not_false_iff, and_self, implies_true, false_and, and_false, or_self, false_or, or_false, Int.cast_ofNat_Int, Int.natCast_nonneg, SK.f0 hS, SK.f1 hS, SK.f2 hS, SK.f3 hS, SK.f4 hS, SK.f5 hS, SK.f6 hS, SK.f7 hS, SK.f8 hS, SK.f9 hS, SK.l9 hS, SK.a9 hS, SK.e9 hS, SK.f10 hS, SK.l10 hS, SK.a10 hS, SK.e10 hS, SK.f11 hS, SK.l11 hS, SK.a11 hS, SK.e11 hS, SK.f12 hS, SK.l12 hS, SK.a12 hS, SK.e12 hS, SK.f13 hS, SK.l13 hS, SK.a13 hS, SK.e13 hS, SK.f14 hS, SK.l14 hS, SK.a14 hS, SK.f15 hS, SK.l15 hS, SK.a15 hS, SK.f16 hS, SK.l16 hS, SK.a16 hS, r1, rg.1, ga, gl, gArr_of r2, gLen_of r2, gArr_of rg.2, gLen_of rg.2, eq_true (show (c : Int) < 5 by omega), eq_true (show (f : Int) < 6 by omega), upd2_row (show k + 20 ≠ k + 22 by omega), upd2_row (show k + 2 + c ≠ k + 22 by omega), upd2_row (show g + 1 + c ≠ k + 22 by omega), upd2_row (show g + 1 + c ≠ k + 20 by omega), l1, g1, g2]
          rw [osub_id (by omega) (by omega), oadd_id (a := sum) (b := G c f) (by omega) (by omega), oadd_id (a := (c : Int)) (b := 1) (by omega) (by omega)]
          refine ih (c + 1) (updf left f (left f - ct c f)) (pre ++ [(f : Int)]) (sum + G c f) (sPart (ctm mask ct) G nf m c left pre sum acc1 f) _ _ (by omega) ⟨(hm2.put (Or.inr (Or.inr (Or.inr rfl)))).put (Or.inr (Or.inl rfl)), fun j hj' => ?_, ?_, fun z hz => ?_, fun i hi => ?_, fun i hi => ?_, by simp [hpl2]⟩ (by omega) (fun z hz => ?_) (fun σ3 hI3 => ?_)
          · rw [upd2_row (by omega), upd2_row (by omega)]; exact hj2 j hj'
          · rw [upd2_row (by omega), upd2_row (by omega)]; exact h112
          · by_cases e : z = f
            · rw [e, upd2_eq, updf_eq]
            · rw [upd2_col e, upd2_row (by omega), updf_ne e]; exact hlf2 z hz
          · rw [upd2_row (by omega), upd2_row (by omega)]; exact hsh2 i hi
          · rw [upd2_row (by omega)]
            by_cases e : i = c
            · rw [e, upd2_eq, ← hpl2, getD_app_eq]
            · rw [upd2_col e, getD_app_lt (by omega)]; exact htr2 i (by omega)
          · by_cases e : z = f
            · rw [e, updf_eq]; omega
            · rw [updf_ne e]; exact bl z hz
          · obtain ⟨hm3, hj3, h113, hlf3, hsh3, htr3, hpl3⟩ := hI3
            have g3 : σ3 (k + 2 + c) f = ct c f := by rw [hm3 _ (by unfold RS; omega)]; exact t1
            have l4 : σ3 (k + 20) f = left f - ct c f := by rw [hlf3 f hfn, updf_eq]
            simp only [x_push, x_iload, x_lload, x_aload, x_bin, x_div, x_un, x_lbin, x_ldiv, x_lcmp, x_i2l, x_l2i, x_dup, x_pop, x_dup2, x_c1, x_c2, x_null, x_cat1, x_istore, x_astore, x_lstore, x_iinc, x_nol, x_tsw, xsw, x_lsw, xlsw, x_ret, x_zret, x_lret, x_aret, x_vret, x_getI, x_getL, x_getR, x_putI, x_putZ, x_putL, x_iaload, x_zaload, x_aaload, x_iastore, x_zastore, x_alen, x_mm, x_acopy, xpush, xJ, xK, x_cV0, x_cV1, x_cV2, x_cV3, x_cV4, x_cV5, x_cV6, x_cV7, x_cV8, x_cS1, x_cS2, x_cS3, x_cS4, x_cS5, List.getD_cons_zero, List.getD_cons_succ, List.set_cons_zero, List.set_cons_succ, List.length_cons, List.length_nil, Nat.zero_add, true_and, and_true, List.getD_nil, not_true, not_false_eq_true, Int.toNat_natCast, false_implies, true_implies, if_true, if_false, Int.toNat_zero, Int.toNat_one, true_or, or_true, Int.reduceEq, Int.reduceLT, Int.reduceLE, Int.reduceNe, Int.reduceNeg, Int.reduceAdd, Int.reduceSub, Int.reduceMul, Int.reduceToNat, Nat.reduceLT, Nat.reduceLeDiff, Nat.reduceAdd, Nat.reduceEqDiff, Nat.reduceSub, not_false_iff, and_self, implies_true, false_and, and_false, or_self, false_or, or_false, Int.cast_ofNat_Int, Int.natCast_nonneg, SK.f0 hS, SK.f1 hS, SK.f2 hS, SK.f3 hS, SK.f4 hS, SK.f5 hS, SK.f6 hS, SK.f7 hS, SK.f8 hS, SK.f9 hS, SK.l9 hS, SK.a9 hS, SK.e9 hS, SK.f10 hS, SK.l10 hS, SK.a10 hS, SK.e10 hS, SK.f11 hS, SK.l11 hS, SK.a11 hS, SK.e11 hS, SK.f12 hS, SK.l12 hS, SK.a12 hS, SK.e12 hS, SK.f13 hS, SK.l13 hS, SK.a13 hS, SK.e13 hS, SK.f14 hS, SK.l14 hS, SK.a14 hS, SK.f15 hS, SK.l15 hS, SK.a15 hS, SK.f16 hS, SK.l16 hS, SK.a16 hS, r1, gArr_of r2, gLen_of r2, eq_true (show (c : Int) < 5 by omega), eq_true (show (f : Int) < 6 by omega), l4, g3]
            rw [oadd_id (a := left f - ct c f) (b := ct c f) (by omega) (by omega), oadd_id (a := (f : Int)) (b := 1) (by omega) (by omega)]
            refine ih2 (f + 1) _ acc1 (by omega) ⟨hm3.put (Or.inr (Or.inl rfl)), fun j hj' => ?_, ?_, fun z hz => ?_, fun i hi => ?_, fun i hi => ?_, hpl2⟩ hfin
            · rw [upd2_row (by omega)]; exact hj3 j hj'
            · rw [upd2_row (by omega), h113]
              simp only [sPart, ectm]
              rw [if_pos ⟨q1, q2⟩]
            · by_cases e : z = f
              · rw [e, upd2_eq]; omega
              · rw [upd2_col e, hlf3 z hz, updf_ne e]
            · rw [upd2_row (by omega), hsh3 i hi]
              simp only [sPart, ectm]
              rw [if_pos ⟨q1, q2⟩]
            · rw [upd2_row (by omega), htr3 i (by omega), getD_app_lt (by omega)]
        · rw [g1, l1] at q
          simp only [x_push, x_iload, x_lload, x_aload, x_bin, x_div, x_un, x_lbin, x_ldiv, x_lcmp, x_i2l, x_l2i, x_dup, x_pop, x_dup2, x_c1, x_c2, x_null, x_cat1, x_istore, x_astore, x_lstore, x_iinc, x_nol, x_tsw, xsw, x_lsw, xlsw, x_ret, x_zret, x_lret, x_aret, x_vret, x_getI, x_getL, x_getR, x_putI, x_putZ, x_putL, x_iaload, x_zaload, x_aaload, x_iastore, x_zastore, x_alen, x_mm, x_acopy, xpush, xJ, xK, x_cV0, x_cV1, x_cV2, x_cV3, x_cV4, x_cV5, x_cV6, x_cV7, x_cV8, x_cS1, x_cS2, x_cS3, x_cS4, x_cS5, List.getD_cons_zero, List.getD_cons_succ, List.set_cons_zero, List.set_cons_succ, List.length_cons, List.length_nil, Nat.zero_add, true_and, and_true, List.getD_nil, not_true, not_false_eq_true, Int.toNat_natCast, false_implies, true_implies, if_true, if_false, Int.toNat_zero, Int.toNat_one, true_or, or_true, Int.reduceEq, Int.reduceLT, Int.reduceLE, Int.reduceNe, Int.reduceNeg, Int.reduceAdd, Int.reduceSub, Int.reduceMul, Int.reduceToNat, Nat.reduceLT, Nat.reduceLeDiff, Nat.reduceAdd, Nat.reduceEqDiff, Nat.reduceSub, not_false_iff, and_self, implies_true, false_and, and_false, or_self, false_or, or_false, Int.cast_ofNat_Int, Int.natCast_nonneg]
          rw [oadd_id (a := (f : Int)) (b := 1) (by omega) (by omega)]
          refine ih2 (f + 1) σ2 acc1 (by omega) ?_ hfin
          have ne : ¬ (ctm mask ct c f ≠ -1 ∧ ctm mask ct c f ≤ left f) := by
            unfold ctm
            by_cases z : xbit mask f = 1
            · rw [if_pos z]; exact fun y => q ⟨z, y⟩
            · rw [if_neg z]; exact fun y => y.1 rfl
          have : sPart (ctm mask ct) G nf m c left pre sum acc1 (f + 1) = sPart (ctm mask ct) G nf m c left pre sum acc1 f := by
            simp only [sPart]
            rw [if_neg ne]
          rw [this]
          exact hI2
    obtain ⟨hm, hj, h11, hlf, hsh, htr, hpl⟩ := id hI
    refine b_X0_search_0 _ _ _ _ ?_
    show k_X0_search_0 (d + m + 3) Q (0, 0) [vr k, vr g, vi c, vi sum, vu] [] (Γ, σ')
    have e9 : σ' k 9 = nc := by rw [hj 9 (by decide)]; exact k9
    have e23 : σ' (k + 23) c = sHope (ctm mask ct) G nf me (m + 1) c := by rw [hm _ (by unfold RS; omega)]; exact hh
    simp only [k_X0_search_0, x_push, x_iload, x_lload, x_aload, x_bin, x_div, x_un, x_lbin, x_ldiv, x_lcmp, x_i2l, x_l2i, x_dup, x_pop, x_dup2, x_c1, x_c2, x_null, x_cat1, x_istore, x_astore, x_lstore, x_iinc, x_nol, x_tsw, xsw, x_lsw, xlsw, x_ret, x_zret, x_lret, x_aret, x_vret, x_getI, x_getL, x_getR, x_putI, x_putZ, x_putL, x_iaload, x_zaload, x_aaload, x_iastore, x_zastore, x_alen, x_mm, x_acopy, xpush, xJ, xK, x_cV0, x_cV1, x_cV2, x_cV3, x_cV4, x_cV5, x_cV6, x_cV7, x_cV8, x_cS1, x_cS2, x_cS3, x_cS4, x_cS5, List.getD_cons_zero, List.getD_cons_succ, List.set_cons_zero, List.set_cons_succ, List.length_cons, List.length_nil, Nat.zero_add, true_and, and_true, List.getD_nil, not_true, not_false_eq_true, Int.toNat_natCast, false_implies, true_implies, if_true, if_false, Int.toNat_zero, Int.toNat_one, true_or, or_true, Int.reduceEq, Int.reduceLT, Int.reduceLE, Int.reduceNe, Int.reduceNeg, Int.reduceAdd, Int.reduceSub, Int.reduceMul, Int.reduceToNat, Nat.reduceLT, Nat.reduceLeDiff, Nat.reduceAdd, Nat.reduceEqDiff, Nat.reduceSub, not_false_iff, and_self, implies_true, false_and, and_false, or_self, false_or, or_false, Int.cast_ofNat_Int, Int.natCast_nonneg, SK.f0 hS, SK.f1 hS, SK.f2 hS, SK.f3 hS, SK.f4 hS, SK.f5 hS, SK.f6 hS, SK.f7 hS, SK.f8 hS, SK.f9 hS, SK.l9 hS, SK.a9 hS, SK.e9 hS, SK.f10 hS, SK.l10 hS, SK.a10 hS, SK.e10 hS, SK.f11 hS, SK.l11 hS, SK.a11 hS, SK.e11 hS, SK.f12 hS, SK.l12 hS, SK.a12 hS, SK.e12 hS, SK.f13 hS, SK.l13 hS, SK.a13 hS, SK.e13 hS, SK.f14 hS, SK.l14 hS, SK.a14 hS, SK.f15 hS, SK.l15 hS, SK.a15 hS, SK.f16 hS, SK.l16 hS, SK.a16 hS, e9, h11, e23, eq_true (show (c : Int) < (nc : Int) by omega), eq_true (show (c : Int) < 5 by omega), eq_true (show (c : Int) < 6 by omega)]
    rw [oadd_id (a := sum) (by omega) (by omega), oadd_id (a := (c : Int)) (b := 1) (by omega) (by omega)]
    refine ⟨fun q => ?_, fun q => ?_⟩
    · refine ih (c + 1) left (pre ++ [-1]) sum acc _ _ (by omega) ⟨hm.put (Or.inr (Or.inr (Or.inr rfl))), fun j hj' => ?_, ?_, fun f hf => ?_, fun i hi => ?_, fun i hi => ?_, by simp [hpl]⟩ (by omega) bl (fun σ3 hI3 => ?_)
      · rw [upd2_row (by omega)]; exact hj j hj'
      · rw [upd2_row (by omega)]; exact h11
      · rw [upd2_row (by omega)]; exact hlf f hf
      · rw [upd2_row (by omega)]; exact hsh i hi
      · by_cases e : i = c
        · rw [e, upd2_eq, ← hpl, getD_app_eq]
        · rw [upd2_col e, getD_app_lt (by omega)]; exact htr i (by omega)
      · obtain ⟨hm3, hj3, h113, hlf3, hsh3, htr3, hpl3⟩ := hI3
        simp only [x_push, x_iload, x_lload, x_aload, x_bin, x_div, x_un, x_lbin, x_ldiv, x_lcmp, x_i2l, x_l2i, x_dup, x_pop, x_dup2, x_c1, x_c2, x_null, x_cat1, x_istore, x_astore, x_lstore, x_iinc, x_nol, x_tsw, xsw, x_lsw, xlsw, x_ret, x_zret, x_lret, x_aret, x_vret, x_getI, x_getL, x_getR, x_putI, x_putZ, x_putL, x_iaload, x_zaload, x_aaload, x_iastore, x_zastore, x_alen, x_mm, x_acopy, xpush, xJ, xK, x_cV0, x_cV1, x_cV2, x_cV3, x_cV4, x_cV5, x_cV6, x_cV7, x_cV8, x_cS1, x_cS2, x_cS3, x_cS4, x_cS5, List.getD_cons_zero, List.getD_cons_succ, List.set_cons_zero, List.set_cons_succ, List.length_cons, List.length_nil, Nat.zero_add, true_and, and_true, List.getD_nil, not_true, not_false_eq_true, Int.toNat_natCast, false_implies, true_implies, if_true, if_false, Int.toNat_zero, Int.toNat_one, true_or, or_true, Int.reduceEq, Int.reduceLT, Int.reduceLE, Int.reduceNe, Int.reduceNeg, Int.reduceAdd, Int.reduceSub, Int.reduceMul, Int.reduceToNat, Nat.reduceLT, Nat.reduceLeDiff, Nat.reduceAdd, Nat.reduceEqDiff, Nat.reduceSub, not_false_iff, and_self, implies_true, false_and, and_false, or_self, false_or, or_false, Int.cast_ofNat_Int, Int.natCast_nonneg]
        refine loop nf 0 σ3 _ (by omega) ⟨hm3, hj3, h113, hlf3, hsh3, fun i hi => ?_, hpl⟩ sAll_fold.symm
        rw [htr3 i (by omega), getD_app_lt (by omega)]
    · refine hQ σ' ?_
      rw [foldl_noop (fun s hs => ?_)]
      · exact hI
      · have := sAll_hope (ct := ctm mask ct) (G := G) (nf := nf) (nc := nc) (me := me) (fun c hc f hf => by unfold ctm; split; exact (kt c hc f hf).2.2.1.1; omega) (m + 1) c left hc (fun f hf => (bl f hf).2) s hs
        omega
end Keeper
