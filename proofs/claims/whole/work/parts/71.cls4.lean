/-! ===== the class's calls: film, figures, taken ===== -/
theorem oi2s_all : ∀ n : Fin 1000, (Int32.ofInt (n.val : Int)).toInt16.toInt32.toInt = (n.val : Int) := by decide +kernel
theorem oi2s_id {x : Int} (h0 : 0 ≤ x) (h1 : x ≤ 999) : oi2s x = x := by
  obtain ⟨n, rfl⟩ : ∃ n : Fin 1000, x = (n.val : Int) := ⟨⟨x.toNat, by omega⟩, by simp; omega⟩
  rw [oi2s_def]
  exact oi2s_all n
theorem zH_figure (S : xSt) (a b m : Int) : zH (n_figure S a b m) = zH S := by
  unfold n_figure
  by_cases z : sFigOk a b m ∧ zF S < 6
  · rw [cif_pos z]; rfl
  · rw [cif_neg z]
theorem xKA_ov : ∀ n : Fin 6, (xKA n.val).toInt = sOv (n.val : Int) := by decide +kernel
section Cls
variable {Γ : xSh} {σ : Nat → Nat → Int} {c d : Nat} {S : xSt} {Q : xV → xMem → Prop}
theorem Sm.Cl {σ' : Nat → Nat → Int} (h : Sm (Scr c) σ σ') : Sm (RCl c) σ σ' := h.mono (fun q => Scr_Cl)
set_option maxHeartbeats 4000000 in
theorem c5_film {sh f n : Int} (hR : CR Γ σ c S) (hQ : ∀ σ', Sm (RCl c) σ σ' → CR Γ σ' c (n_film S sh f n) → Q (vi (a_film S sh f n)) (Γ, σ')) : xRM M_X5_film (d + 5) (0, 0) [vr c, vi sh, vi f, vi n] (Γ, σ) Q := by
  refine xRM_of (by decide) (Nat.le_of_ble_eq_true rfl) ?_
  obtain ⟨hS, hX, hl, hV, hA, htc, hT⟩ := hR.wok
  have hC := hR.1.1
  have bad : ¬ ((0 ≤ sh ∧ sh < 4) ∧ (0 ≤ f ∧ f < zF S) ∧ 0 ≤ n ∧ n ≤ 12) → Q (vi (-2)) (Γ, σ) := fun z => by
    rw [show a_film S sh f n = -2 from (by unfold a_film; (try simp only [Int.toNat_natCast]); repeat (first | rw [if_pos (by omega)] | rw [if_neg (by omega)])), show n_film S sh f n = S from (by unfold n_film; (try simp only [Int.toNat_natCast]); repeat (first | rw [if_pos (by omega)] | rw [if_neg (by omega)]))] at hQ
    exact hQ σ Sm.rf hR
  refine b_X5_film_0 _ _ _ _ ?_
  show k_X5_film_0 (d + 4) Q (0, 0) [vr c, vi sh, vi f, vi n, vu, vu] [] (Γ, σ)
  simp only [k_X5_film_0, x_push, x_iload, x_lload, x_aload, x_bin, x_div, x_un, x_lbin, x_ldiv, x_lcmp, x_i2l, x_l2i, x_dup, x_pop, x_dup2, x_c1, x_c2, x_null, x_cat1, x_istore, x_astore, x_lstore, x_iinc, x_nol, x_tsw, xsw, x_lsw, xlsw, x_ret, x_zret, x_lret, x_aret, x_vret, x_getI, x_getL, x_getR, x_putI, x_putZ, x_putL, x_iaload, x_zaload, x_aaload, x_iastore, x_zastore, x_alen, x_mm, x_acopy, xpush, xJ, xK, x_cV0, x_cV1, x_cV2, x_cV3, x_cV4, x_cV5, x_cV6, x_cV7, x_cV8, x_cS1, x_cS2, x_cS3, x_cS4, x_cS5, List.getD_cons_zero, List.getD_cons_succ, List.set_cons_zero, List.set_cons_succ, List.length_cons, List.length_nil, Nat.zero_add, true_and, and_true, List.getD_nil, not_true, not_false_eq_true, Int.toNat_natCast, false_implies, true_implies, if_true, if_false, Int.toNat_zero, Int.toNat_one, true_or, or_true, Int.reduceEq, Int.reduceLT, Int.reduceLE, Int.reduceNe, Int.reduceNeg, Int.reduceAdd, Int.reduceSub, Int.reduceMul, Int.reduceToNat, Nat.reduceLT, Nat.reduceLeDiff, Nat.reduceAdd, Nat.reduceEqDiff, Nat.reduceSub, not_false_iff, and_self, implies_true, false_and, and_false, or_self, false_or, or_false, Int.cast_ofNat_Int, Int.natCast_nonneg, SC.f0 hC, SC.f1 hC, SC.f2 hC, SC.f3 hC, SC.f4 hC, SC.f5 hC, SC.f6 hC, SC.f7 hC]
  refine c_sheetOf hR.1 (fun s0 s1 => ?_) (fun z => ?_)
  · simp only [x_push, x_iload, x_lload, x_aload, x_bin, x_div, x_un, x_lbin, x_ldiv, x_lcmp, x_i2l, x_l2i, x_dup, x_pop, x_dup2, x_c1, x_c2, x_null, x_cat1, x_istore, x_astore, x_lstore, x_iinc, x_nol, x_tsw, xsw, x_lsw, xlsw, x_ret, x_zret, x_lret, x_aret, x_vret, x_getI, x_getL, x_getR, x_putI, x_putZ, x_putL, x_iaload, x_zaload, x_aaload, x_iastore, x_zastore, x_alen, x_mm, x_acopy, xpush, xJ, xK, x_cV0, x_cV1, x_cV2, x_cV3, x_cV4, x_cV5, x_cV6, x_cV7, x_cV8, x_cS1, x_cS2, x_cS3, x_cS4, x_cS5, List.getD_cons_zero, List.getD_cons_succ, List.set_cons_zero, List.set_cons_succ, List.length_cons, List.length_nil, Nat.zero_add, true_and, and_true, List.getD_nil, not_true, not_false_eq_true, Int.toNat_natCast, false_implies, true_implies, if_true, if_false, Int.toNat_zero, Int.toNat_one, true_or, or_true, Int.reduceEq, Int.reduceLT, Int.reduceLE, Int.reduceNe, Int.reduceNeg, Int.reduceAdd, Int.reduceSub, Int.reduceMul, Int.reduceToNat, Nat.reduceLT, Nat.reduceLeDiff, Nat.reduceAdd, Nat.reduceEqDiff, Nat.reduceSub, not_false_iff, and_self, implies_true, false_and, and_false, or_self, false_or, or_false, Int.cast_ofNat_Int, Int.natCast_nonneg, SC.f0 hC, SC.f1 hC, SC.f2 hC, SC.f3 hC, SC.f4 hC, SC.f5 hC, SC.f6 hC, SC.f7 hC, SW.f0 hS, SW.f1 hS, SW.f2 hS, SW.f3 hS, SW.f4 hS, SW.f5 hS, SW.f6 hS, SW.f7 hS, SW.f8 hS, SW.f9 hS, SW.l9 hS, SW.a9 hS, SW.e9 hS, SW.f10 hS, SW.l10 hS, SW.a10 hS, SW.e10 hS, SW.f11 hS, SW.l11 hS, SW.a11 hS, SW.e11 hS, SW.f12 hS, SW.l12 hS, SW.a12 hS, SW.e12 hS, SW.f13 hS, SW.l13 hS, SW.a13 hS, SW.e13 hS, SW.f14 hS, SW.l14 hS, SW.a14 hS, SW.e14 hS, SW.f15 hS, SW.l15 hS, SW.a15 hS, SW.e15 hS]
    refine c_hasFigure hS hV.2.2.1 (fun f0 f1 => ?_) (fun z => ?_)
    · obtain ⟨i, rfl⟩ : ∃ i : Nat, sh = i := ⟨sh.toNat, by omega⟩
      obtain ⟨f, rfl⟩ : ∃ k : Nat, f = k := ⟨f.toNat, by omega⟩
      have hi : i < 4 := by omega
      have hZ := (hR.1.2.2.2.2.2.1.2 i hi).2
      simp only [x_push, x_iload, x_lload, x_aload, x_bin, x_div, x_un, x_lbin, x_ldiv, x_lcmp, x_i2l, x_l2i, x_dup, x_pop, x_dup2, x_c1, x_c2, x_null, x_cat1, x_istore, x_astore, x_lstore, x_iinc, x_nol, x_tsw, xsw, x_lsw, xlsw, x_ret, x_zret, x_lret, x_aret, x_vret, x_getI, x_getL, x_getR, x_putI, x_putZ, x_putL, x_iaload, x_zaload, x_aaload, x_iastore, x_zastore, x_alen, x_mm, x_acopy, xpush, xJ, xK, x_cV0, x_cV1, x_cV2, x_cV3, x_cV4, x_cV5, x_cV6, x_cV7, x_cV8, x_cS1, x_cS2, x_cS3, x_cS4, x_cS5, List.getD_cons_zero, List.getD_cons_succ, List.set_cons_zero, List.set_cons_succ, List.length_cons, List.length_nil, Nat.zero_add, true_and, and_true, List.getD_nil, not_true, not_false_eq_true, Int.toNat_natCast, false_implies, true_implies, if_true, if_false, Int.toNat_zero, Int.toNat_one, true_or, or_true, Int.reduceEq, Int.reduceLT, Int.reduceLE, Int.reduceNe, Int.reduceNeg, Int.reduceAdd, Int.reduceSub, Int.reduceMul, Int.reduceToNat, Nat.reduceLT, Nat.reduceLeDiff, Nat.reduceAdd, Nat.reduceEqDiff, Nat.reduceSub, not_false_iff, and_self, implies_true, false_and, and_false, or_self, false_or, or_false, Int.cast_ofNat_Int, Int.natCast_nonneg, SS.f0 hZ, SS.f1 hZ, SS.f2 hZ, SS.l2 hZ, SS.a2 hZ, SS.e2 hZ]
      refine ⟨fun q => bad (by omega), fun q => ⟨fun q2 => ?_, fun q2 => bad (by omega)⟩⟩
      obtain ⟨n, rfl⟩ : ∃ k : Nat, n = k := ⟨n.toNat, by omega⟩
      rw [show a_film S i f n = n from (by unfold a_film; (try simp only [Int.toNat_natCast]); repeat (first | rw [if_pos (by omega)] | rw [if_neg (by omega)])), show n_film S i f n = uH S i (1, n, fun h => sCost (zE S) (zA S) (zC S) f h) from (by unfold n_film; (try simp only [Int.toNat_natCast]); repeat (first | rw [if_pos (by omega)] | rw [if_neg (by omega)]))] at hQ
      have loop : ∀ (m h : Nat) (σ' : Nat → Nat → Int) (v : Nat → Int), h + m = n → Sm (RCl c) σ σ' → CR Γ σ' c (uH S i (1, n, v)) → (∀ j, j < h → v j = sCost (zE S) (zA S) (zC S) f j) → xR M_X5_film (d + 5) (0, 0) 46 [vr c, vi (i : Int), vi (f : Int), vi (n : Int), vr (c + 53 + 2 * i), vi (h : Int)] [] (Γ, σ') Q := by
        intro m
        induction m with
        | zero =>
          intro h σ' v hh e1 e2 e3
          refine b_X5_film_46 _ _ _ _ ?_
          simp only [k_X5_film_46, x_push, x_iload, x_lload, x_aload, x_bin, x_div, x_un, x_lbin, x_ldiv, x_lcmp, x_i2l, x_l2i, x_dup, x_pop, x_dup2, x_c1, x_c2, x_null, x_cat1, x_istore, x_astore, x_lstore, x_iinc, x_nol, x_tsw, xsw, x_lsw, xlsw, x_ret, x_zret, x_lret, x_aret, x_vret, x_getI, x_getL, x_getR, x_putI, x_putZ, x_putL, x_iaload, x_zaload, x_aaload, x_iastore, x_zastore, x_alen, x_mm, x_acopy, xpush, xJ, xK, x_cV0, x_cV1, x_cV2, x_cV3, x_cV4, x_cV5, x_cV6, x_cV7, x_cV8, x_cS1, x_cS2, x_cS3, x_cS4, x_cS5, List.getD_cons_zero, List.getD_cons_succ, List.set_cons_zero, List.set_cons_succ, List.length_cons, List.length_nil, Nat.zero_add, true_and, and_true, List.getD_nil, not_true, not_false_eq_true, Int.toNat_natCast, false_implies, true_implies, if_true, if_false, Int.toNat_zero, Int.toNat_one, true_or, or_true, Int.reduceEq, Int.reduceLT, Int.reduceLE, Int.reduceNe, Int.reduceNeg, Int.reduceAdd, Int.reduceSub, Int.reduceMul, Int.reduceToNat, Nat.reduceLT, Nat.reduceLeDiff, Nat.reduceAdd, Nat.reduceEqDiff, Nat.reduceSub, not_false_iff, and_self, implies_true, false_and, and_false, or_self, false_or, or_false, Int.cast_ofNat_Int, Int.natCast_nonneg, eq_true (show (n : Int) ≤ (h : Int) by omega)]
          obtain ⟨b1, b2, b3, b4, b5, b6⟩ := e2.2.1
          refine hQ σ' e1 ⟨e2.1, ⟨b1, b2, b3, b4, b5, fun k hk => ?_⟩, ?_⟩
          · have := b6 k hk
            revert this
            show σ' (c + 53 + 2 * k) 0 = (if k = i then ((1 : Int), n, v) else zH S k).1 ∧ σ' (c + 53 + 2 * k) 1 = ((if k = i then ((1 : Int), n, v) else zH S k).2.1 : Int) ∧ (∀ j, j < (if k = i then ((1 : Int), n, v) else zH S k).2.1 → σ' (c + 54 + 2 * k) j = (if k = i then ((1 : Int), n, v) else zH S k).2.2 j) → σ' (c + 53 + 2 * k) 0 = (if k = i then ((1 : Int), n, fun h : Nat => sCost (zE S) (zA S) (zC S) f (h : Int)) else zH S k).1 ∧ σ' (c + 53 + 2 * k) 1 = ((if k = i then ((1 : Int), n, fun h : Nat => sCost (zE S) (zA S) (zC S) f (h : Int)) else zH S k).2.1 : Int) ∧ (∀ j, j < (if k = i then ((1 : Int), n, fun h : Nat => sCost (zE S) (zA S) (zC S) f (h : Int)) else zH S k).2.1 → σ' (c + 54 + 2 * k) j = (if k = i then ((1 : Int), n, fun h : Nat => sCost (zE S) (zA S) (zC S) f (h : Int)) else zH S k).2.2 j)
            by_cases ek : k = i
            · rw [if_pos ek, if_pos ek]
              exact fun t => ⟨t.1, t.2.1, fun j hj => by rw [t.2.2 j hj]; exact e3 j (by have : j < n := hj; omega)⟩
            · rw [if_neg ek, if_neg ek]
              exact fun t => t
          · exact hR.2.2.sheet (by omega) (by omega)
        | succ m ih =>
          intro h σ' v hh e1 e2 e3
          have hW := e2.wok
          have e4 := e2.2.1.2.2.2.2.2 i hi
          have e4 : σ' (c + 53 + 2 * i) 0 = (if i = i then ((1 : Int), n, v) else zH S i).1 ∧ σ' (c + 53 + 2 * i) 1 = ((if i = i then ((1 : Int), n, v) else zH S i).2.1 : Int) ∧ (∀ j, j < (if i = i then ((1 : Int), n, v) else zH S i).2.1 → σ' (c + 54 + 2 * i) j = (if i = i then ((1 : Int), n, v) else zH S i).2.2 j) := e4
          rw [if_pos rfl] at e4
          refine b_X5_film_46 _ _ _ _ ?_
          simp only [k_X5_film_46, x_push, x_iload, x_lload, x_aload, x_bin, x_div, x_un, x_lbin, x_ldiv, x_lcmp, x_i2l, x_l2i, x_dup, x_pop, x_dup2, x_c1, x_c2, x_null, x_cat1, x_istore, x_astore, x_lstore, x_iinc, x_nol, x_tsw, xsw, x_lsw, xlsw, x_ret, x_zret, x_lret, x_aret, x_vret, x_getI, x_getL, x_getR, x_putI, x_putZ, x_putL, x_iaload, x_zaload, x_aaload, x_iastore, x_zastore, x_alen, x_mm, x_acopy, xpush, xJ, xK, x_cV0, x_cV1, x_cV2, x_cV3, x_cV4, x_cV5, x_cV6, x_cV7, x_cV8, x_cS1, x_cS2, x_cS3, x_cS4, x_cS5, List.getD_cons_zero, List.getD_cons_succ, List.set_cons_zero, List.set_cons_succ, List.length_cons, List.length_nil, Nat.zero_add, true_and, and_true, List.getD_nil, not_true, not_false_eq_true, Int.toNat_natCast, false_implies, true_implies, if_true, if_false, Int.toNat_zero, Int.toNat_one, true_or, or_true, Int.reduceEq, Int.reduceLT, Int.reduceLE, Int.reduceNe, Int.reduceNeg, Int.reduceAdd, Int.reduceSub, Int.reduceMul, Int.reduceToNat, Nat.reduceLT, Nat.reduceLeDiff, Nat.reduceAdd, Nat.reduceEqDiff, Nat.reduceSub, not_false_iff, and_self, implies_true, false_and, and_false, or_self, false_or, or_false, Int.cast_ofNat_Int, Int.natCast_nonneg, SC.f0 hC, SC.f1 hC, SC.f2 hC, SC.f3 hC, SC.f4 hC, SC.f5 hC, SC.f6 hC, SC.f7 hC, SW.f0 hS, SW.f1 hS, SW.f2 hS, SW.f3 hS, SW.f4 hS, SW.f5 hS, SW.f6 hS, SW.f7 hS, SW.f8 hS, SW.f9 hS, SW.l9 hS, SW.a9 hS, SW.e9 hS, SW.f10 hS, SW.l10 hS, SW.a10 hS, SW.e10 hS, SW.f11 hS, SW.l11 hS, SW.a11 hS, SW.e11 hS, SW.f12 hS, SW.l12 hS, SW.a12 hS, SW.e12 hS, SW.f13 hS, SW.l13 hS, SW.a13 hS, SW.e13 hS, SW.f14 hS, SW.l14 hS, SW.a14 hS, SW.e14 hS, SW.f15 hS, SW.l15 hS, SW.a15 hS, SW.e15 hS, eq_false (show ¬ ((n : Int) ≤ (h : Int)) by omega)]
          refine c_costs (f := f) hW (by show f < zF S; omega) (fun σ2 k1 => ?_)
          simp only [x_push, x_iload, x_lload, x_aload, x_bin, x_div, x_un, x_lbin, x_ldiv, x_lcmp, x_i2l, x_l2i, x_dup, x_pop, x_dup2, x_c1, x_c2, x_null, x_cat1, x_istore, x_astore, x_lstore, x_iinc, x_nol, x_tsw, xsw, x_lsw, xlsw, x_ret, x_zret, x_lret, x_aret, x_vret, x_getI, x_getL, x_getR, x_putI, x_putZ, x_putL, x_iaload, x_zaload, x_aaload, x_iastore, x_zastore, x_alen, x_mm, x_acopy, xpush, xJ, xK, x_cV0, x_cV1, x_cV2, x_cV3, x_cV4, x_cV5, x_cV6, x_cV7, x_cV8, x_cS1, x_cS2, x_cS3, x_cS4, x_cS5, List.getD_cons_zero, List.getD_cons_succ, List.set_cons_zero, List.set_cons_succ, List.length_cons, List.length_nil, Nat.zero_add, true_and, and_true, List.getD_nil, not_true, not_false_eq_true, Int.toNat_natCast, false_implies, true_implies, if_true, if_false, Int.toNat_zero, Int.toNat_one, true_or, or_true, Int.reduceEq, Int.reduceLT, Int.reduceLE, Int.reduceNe, Int.reduceNeg, Int.reduceAdd, Int.reduceSub, Int.reduceMul, Int.reduceToNat, Nat.reduceLT, Nat.reduceLeDiff, Nat.reduceAdd, Nat.reduceEqDiff, Nat.reduceSub, not_false_iff, and_self, implies_true, false_and, and_false, or_self, false_or, or_false, Int.cast_ofNat_Int, Int.natCast_nonneg, SS.f0 hZ, SS.f1 hZ, SS.f2 hZ, SS.l2 hZ, SS.a2 hZ, SS.e2 hZ]
          have e5 := e2.scr (k1.mono (fun q => RW_Scr))
          have nz : ∀ q, (c + 53 ≤ q ∧ q ≤ c + 60) → σ2 q = σ' q := fun q hq => k1 q (fun z => by rcases z with z | ⟨z, z1, z2⟩ <;> omega)
          refine c_put (s := 1) (n := n) hZ (by rw [nz _ (by omega)]; exact e4.1) (by rw [nz _ (by omega)]; exact e4.2.1) (by omega) (by omega) ?_
          simp only [x_push, x_iload, x_lload, x_aload, x_bin, x_div, x_un, x_lbin, x_ldiv, x_lcmp, x_i2l, x_l2i, x_dup, x_pop, x_dup2, x_c1, x_c2, x_null, x_cat1, x_istore, x_astore, x_lstore, x_iinc, x_nol, x_tsw, xsw, x_lsw, xlsw, x_ret, x_zret, x_lret, x_aret, x_vret, x_getI, x_getL, x_getR, x_putI, x_putZ, x_putL, x_iaload, x_zaload, x_aaload, x_iastore, x_zastore, x_alen, x_mm, x_acopy, xpush, xJ, xK, x_cV0, x_cV1, x_cV2, x_cV3, x_cV4, x_cV5, x_cV6, x_cV7, x_cV8, x_cS1, x_cS2, x_cS3, x_cS4, x_cS5, List.getD_cons_zero, List.getD_cons_succ, List.set_cons_zero, List.set_cons_succ, List.length_cons, List.length_nil, Nat.zero_add, true_and, and_true, List.getD_nil, not_true, not_false_eq_true, Int.toNat_natCast, false_implies, true_implies, if_true, if_false, Int.toNat_zero, Int.toNat_one, true_or, or_true, Int.reduceEq, Int.reduceLT, Int.reduceLE, Int.reduceNe, Int.reduceNeg, Int.reduceAdd, Int.reduceSub, Int.reduceMul, Int.reduceToNat, Nat.reduceLT, Nat.reduceLeDiff, Nat.reduceAdd, Nat.reduceEqDiff, Nat.reduceSub, not_false_iff, and_self, implies_true, false_and, and_false, or_self, false_or, or_false, Int.cast_ofNat_Int, Int.natCast_nonneg]
          rw [oadd_id (by omega) (by omega)]
          have hc := sCost_le (E := zE S) hA (show f < zF S by omega) (h : Int)
          have hc' : sNar 1 (sCost (zE (uH S i (1, n, v))) (zA (uH S i (1, n, v))) (zC (uH S i (1, n, v))) f h) = sCost (zE S) (zA S) (zC S) f h := by
            show sNar 1 (sCost (zE S) (zA S) (zC S) f h) = _
            unfold sNar
            rw [if_neg (by decide), if_pos rfl, oi2s_id hc.1 hc.2]
          rw [hc']
          have hs : Sm (fun q => q = c + 53 + 2 * i ∨ q = c + 53 + 2 * i + 1) σ2 (upd2 σ2 (c + 53 + 2 * i + 1) h (sCost (zE S) (zA S) (zC S) f h)) := Sm.rf.put (Or.inr rfl)
          have e6 : CVa (upd2 σ2 (c + 53 + 2 * i + 1) h (sCost (zE S) (zA S) (zC S) f h)) c (uH (uH S i (1, n, v)) i (1, n, updf v h (sCost (zE S) (zA S) (zC S) f h))) := by
            refine e5.2.1.sheet htc hi hs ?_ ?_ (fun j hj => ?_)
            · rw [upd2_row (by omega), nz _ (by omega)]; exact e4.1
            · rw [upd2_row (by omega), nz _ (by omega)]; exact e4.2.1
            · by_cases ej : j = h
              · rw [ej, upd2_eq, updf_eq]
              · rw [upd2_col ej, updf_ne ej, nz _ (by omega)]
                rw [show c + 53 + 2 * i + 1 = c + 54 + 2 * i by omega]
                exact e4.2.2 j hj
          have e7 : uH (uH S i (1, n, v)) i (1, n, updf v h (sCost (zE S) (zA S) (zC S) f h)) = uH S i (1, n, updf v h (sCost (zE S) (zA S) (zC S) f h)) := by
            unfold uH
            congr 1
            congr 1
            congr 1
            congr 1
            funext k
            show (if k = i then _ else (if k = i then _ else zH S k)) = _
            by_cases ek : k = i
            · rw [if_pos ek, if_pos ek]
            · rw [if_neg ek, if_neg ek, if_neg ek]
          rw [e7] at e6
          refine ih (h + 1) _ _ (by omega) ((e1.tr (k1.mono (fun q z => Scr_Cl (RW_Scr z)))).tr (hs.mono (fun q => sh_Cl hi))) ⟨hR.1, e6, hR.2.2.sheet (by omega) (by omega)⟩ (fun j hj => ?_)
          by_cases ej : j = h
          · rw [ej, updf_eq]
          · rw [updf_ne ej]
            exact e3 j (by omega)
      refine c_sheetBecome hZ (fun σ' e1 e2 e3 e4 => ?_)
      simp only [x_push, x_iload, x_lload, x_aload, x_bin, x_div, x_un, x_lbin, x_ldiv, x_lcmp, x_i2l, x_l2i, x_dup, x_pop, x_dup2, x_c1, x_c2, x_null, x_cat1, x_istore, x_astore, x_lstore, x_iinc, x_nol, x_tsw, xsw, x_lsw, xlsw, x_ret, x_zret, x_lret, x_aret, x_vret, x_getI, x_getL, x_getR, x_putI, x_putZ, x_putL, x_iaload, x_zaload, x_aaload, x_iastore, x_zastore, x_alen, x_mm, x_acopy, xpush, xJ, xK, x_cV0, x_cV1, x_cV2, x_cV3, x_cV4, x_cV5, x_cV6, x_cV7, x_cV8, x_cS1, x_cS2, x_cS3, x_cS4, x_cS5, List.getD_cons_zero, List.getD_cons_succ, List.set_cons_zero, List.set_cons_succ, List.length_cons, List.length_nil, Nat.zero_add, true_and, and_true, List.getD_nil, not_true, not_false_eq_true, Int.toNat_natCast, false_implies, true_implies, if_true, if_false, Int.toNat_zero, Int.toNat_one, true_or, or_true, Int.reduceEq, Int.reduceLT, Int.reduceLE, Int.reduceNe, Int.reduceNeg, Int.reduceAdd, Int.reduceSub, Int.reduceMul, Int.reduceToNat, Nat.reduceLT, Nat.reduceLeDiff, Nat.reduceAdd, Nat.reduceEqDiff, Nat.reduceSub, not_false_iff, and_self, implies_true, false_and, and_false, or_self, false_or, or_false, Int.cast_ofNat_Int, Int.natCast_nonneg]
      exact loop n 0 σ' (fun _ => 0) (by omega) (e1.mono (fun q => sh_Cl hi)) ⟨hR.1, hR.2.1.sheet htc hi e1 e2 e3 (fun j hj => e4 j (by omega)), hR.2.2.sheet (by omega) (by omega)⟩ (fun j hj => by omega)
    · simp only [x_push, x_iload, x_lload, x_aload, x_bin, x_div, x_un, x_lbin, x_ldiv, x_lcmp, x_i2l, x_l2i, x_dup, x_pop, x_dup2, x_c1, x_c2, x_null, x_cat1, x_istore, x_astore, x_lstore, x_iinc, x_nol, x_tsw, xsw, x_lsw, xlsw, x_ret, x_zret, x_lret, x_aret, x_vret, x_getI, x_getL, x_getR, x_putI, x_putZ, x_putL, x_iaload, x_zaload, x_aaload, x_iastore, x_zastore, x_alen, x_mm, x_acopy, xpush, xJ, xK, x_cV0, x_cV1, x_cV2, x_cV3, x_cV4, x_cV5, x_cV6, x_cV7, x_cV8, x_cS1, x_cS2, x_cS3, x_cS4, x_cS5, List.getD_cons_zero, List.getD_cons_succ, List.set_cons_zero, List.set_cons_succ, List.length_cons, List.length_nil, Nat.zero_add, true_and, and_true, List.getD_nil, not_true, not_false_eq_true, Int.toNat_natCast, false_implies, true_implies, if_true, if_false, Int.toNat_zero, Int.toNat_one, true_or, or_true, Int.reduceEq, Int.reduceLT, Int.reduceLE, Int.reduceNe, Int.reduceNeg, Int.reduceAdd, Int.reduceSub, Int.reduceMul, Int.reduceToNat, Nat.reduceLT, Nat.reduceLeDiff, Nat.reduceAdd, Nat.reduceEqDiff, Nat.reduceSub, not_false_iff, and_self, implies_true, false_and, and_false, or_self, false_or, or_false, Int.cast_ofNat_Int, Int.natCast_nonneg]
      exact bad (by omega)
  · simp only [x_push, x_iload, x_lload, x_aload, x_bin, x_div, x_un, x_lbin, x_ldiv, x_lcmp, x_i2l, x_l2i, x_dup, x_pop, x_dup2, x_c1, x_c2, x_null, x_cat1, x_istore, x_astore, x_lstore, x_iinc, x_nol, x_tsw, xsw, x_lsw, xlsw, x_ret, x_zret, x_lret, x_aret, x_vret, x_getI, x_getL, x_getR, x_putI, x_putZ, x_putL, x_iaload, x_zaload, x_aaload, x_iastore, x_zastore, x_alen, x_mm, x_acopy, xpush, xJ, xK, x_cV0, x_cV1, x_cV2, x_cV3, x_cV4, x_cV5, x_cV6, x_cV7, x_cV8, x_cS1, x_cS2, x_cS3, x_cS4, x_cS5, List.getD_cons_zero, List.getD_cons_succ, List.set_cons_zero, List.set_cons_succ, List.length_cons, List.length_nil, Nat.zero_add, true_and, and_true, List.getD_nil, not_true, not_false_eq_true, Int.toNat_natCast, false_implies, true_implies, if_true, if_false, Int.toNat_zero, Int.toNat_one, true_or, or_true, Int.reduceEq, Int.reduceLT, Int.reduceLE, Int.reduceNe, Int.reduceNeg, Int.reduceAdd, Int.reduceSub, Int.reduceMul, Int.reduceToNat, Nat.reduceLT, Nat.reduceLeDiff, Nat.reduceAdd, Nat.reduceEqDiff, Nat.reduceSub, not_false_iff, and_self, implies_true, false_and, and_false, or_self, false_or, or_false, Int.cast_ofNat_Int, Int.natCast_nonneg]
    exact bad (by omega)
set_option maxHeartbeats 2000000 in
theorem c_addF {k n m : Int} (hR : CR Γ σ c S) (hQ : ∀ σ', Sm (RCl c) σ σ' → CR Γ σ' c (n_figure S k n m) → Q (vi (a_figure S k n m)) (Γ, σ')) : xRM M_X4_addFigure (d + 1) (0, 0) [vr (c + 61), vi k, vi n, vi m] (Γ, σ) Q := by
  obtain ⟨hS, hX, hl, hV, hA, htc, hT⟩ := hR.wok
  refine c_addFigure hS hV hA.1 (fun h => ?_) (fun h h6 => ?_) (fun h h6 σ' e1 e2 => ?_)
  · have key := hQ σ Sm.rf
    unfold n_figure a_figure at key
    rw [cif_neg (fun z => h z.1), cif_neg h] at key
    exact key hR
  · have key := hQ σ Sm.rf
    unfold n_figure a_figure at key
    rw [cif_neg (fun z => by omega), cif_pos h, if_pos h6] at key
    exact key hR
  · have key := hQ σ' (e1.mono (fun q => RV_Cl))
    unfold n_figure a_figure at key
    rw [cif_pos ⟨h, h6⟩, cif_pos h, if_neg (by omega)] at key
    refine key ⟨hR.1, hR.2.1.world e1 htc e2, hR.2.2.world (hA.add h h6) (fun z => ⟨by have := (hR.kw z).1; omega, fun g hg => ?_⟩)⟩
    have h1 := (hR.kw z).1
    rw [(hR.kw z).2 g hg]
    simp [sAdd, upd2, show g ≠ zF S by omega]
set_option maxHeartbeats 4000000 in
theorem c5_figures {sh so fr n : Int} (hf : i32 fr) (hR : CR Γ σ c S) (hQ : ∀ σ', Sm (RCl c) σ σ' → CR Γ σ' c (g_figures S sh so fr n).2 → Q (vi (g_figures S sh so fr n).1) (Γ, σ')) : xRM M_X5_figures (d + 2) (0, 0) [vr c, vi sh, vi so, vi fr, vi n] (Γ, σ) Q := by
  refine xRM_of (by decide) (Nat.le_of_ble_eq_true rfl) ?_
  have hC := hR.1.1
  have hS := hR.wok.1
  have bad : ¬ ((0 ≤ sh ∧ sh < 4) ∧ (0 ≤ so ∧ so ≤ 2) ∧ 0 ≤ n ∧ n ≤ 6) → Q (vi (-2)) (Γ, σ) := fun z => by
    rw [show g_figures S sh so fr n = (-2, S) from (by unfold g_figures; (try simp only [Int.toNat_natCast]); repeat (first | rw [if_pos (by omega)] | rw [if_neg (by omega)]))] at hQ
    exact hQ σ Sm.rf hR
  refine b_X5_figures_0 _ _ _ _ ?_
  show k_X5_figures_0 (d + 1) Q (0, 0) [vr c, vi sh, vi so, vi fr, vi n, vu, vu, vu, vu] [] (Γ, σ)
  simp only [k_X5_figures_0, x_push, x_iload, x_lload, x_aload, x_bin, x_div, x_un, x_lbin, x_ldiv, x_lcmp, x_i2l, x_l2i, x_dup, x_pop, x_dup2, x_c1, x_c2, x_null, x_cat1, x_istore, x_astore, x_lstore, x_iinc, x_nol, x_tsw, xsw, x_lsw, xlsw, x_ret, x_zret, x_lret, x_aret, x_vret, x_getI, x_getL, x_getR, x_putI, x_putZ, x_putL, x_iaload, x_zaload, x_aaload, x_iastore, x_zastore, x_alen, x_mm, x_acopy, xpush, xJ, xK, x_cV0, x_cV1, x_cV2, x_cV3, x_cV4, x_cV5, x_cV6, x_cV7, x_cV8, x_cS1, x_cS2, x_cS3, x_cS4, x_cS5, List.getD_cons_zero, List.getD_cons_succ, List.set_cons_zero, List.set_cons_succ, List.length_cons, List.length_nil, Nat.zero_add, true_and, and_true, List.getD_nil, not_true, not_false_eq_true, Int.toNat_natCast, false_implies, true_implies, if_true, if_false, Int.toNat_zero, Int.toNat_one, true_or, or_true, Int.reduceEq, Int.reduceLT, Int.reduceLE, Int.reduceNe, Int.reduceNeg, Int.reduceAdd, Int.reduceSub, Int.reduceMul, Int.reduceToNat, Nat.reduceLT, Nat.reduceLeDiff, Nat.reduceAdd, Nat.reduceEqDiff, Nat.reduceSub, not_false_iff, and_self, implies_true, false_and, and_false, or_self, false_or, or_false, Int.cast_ofNat_Int, Int.natCast_nonneg, SC.f0 hC, SC.f1 hC, SC.f2 hC, SC.f3 hC, SC.f4 hC, SC.f5 hC, SC.f6 hC, SC.f7 hC]
  refine c_sheetOf hR.1 (fun s0 s1 => ?_) (fun z => ?_)
  · obtain ⟨i, rfl⟩ : ∃ i : Nat, sh = i := ⟨sh.toNat, by omega⟩
    have hi : i < 4 := by omega
    have hZ := (hR.1.2.2.2.2.2.1.2 i hi).2
    obtain ⟨b0, b1, b2⟩ := hR.2.1.2.2.2.2.2 i hi
    obtain ⟨g1, g2⟩ := hR.2.2.2.2.2.2.2.2 i hi
    simp only [x_push, x_iload, x_lload, x_aload, x_bin, x_div, x_un, x_lbin, x_ldiv, x_lcmp, x_i2l, x_l2i, x_dup, x_pop, x_dup2, x_c1, x_c2, x_null, x_cat1, x_istore, x_astore, x_lstore, x_iinc, x_nol, x_tsw, xsw, x_lsw, xlsw, x_ret, x_zret, x_lret, x_aret, x_vret, x_getI, x_getL, x_getR, x_putI, x_putZ, x_putL, x_iaload, x_zaload, x_aaload, x_iastore, x_zastore, x_alen, x_mm, x_acopy, xpush, xJ, xK, x_cV0, x_cV1, x_cV2, x_cV3, x_cV4, x_cV5, x_cV6, x_cV7, x_cV8, x_cS1, x_cS2, x_cS3, x_cS4, x_cS5, List.getD_cons_zero, List.getD_cons_succ, List.set_cons_zero, List.set_cons_succ, List.length_cons, List.length_nil, Nat.zero_add, true_and, and_true, List.getD_nil, not_true, not_false_eq_true, Int.toNat_natCast, false_implies, true_implies, if_true, if_false, Int.toNat_zero, Int.toNat_one, true_or, or_true, Int.reduceEq, Int.reduceLT, Int.reduceLE, Int.reduceNe, Int.reduceNeg, Int.reduceAdd, Int.reduceSub, Int.reduceMul, Int.reduceToNat, Nat.reduceLT, Nat.reduceLeDiff, Nat.reduceAdd, Nat.reduceEqDiff, Nat.reduceSub, not_false_iff, and_self, implies_true, false_and, and_false, or_self, false_or, or_false, Int.cast_ofNat_Int, Int.natCast_nonneg, SS.f0 hZ, SS.f1 hZ, SS.f2 hZ, SS.l2 hZ, SS.a2 hZ, SS.e2 hZ, b0]
    refine ⟨fun q => bad (by omega), fun q => ⟨fun q2 => bad (by omega), fun q2 => ⟨fun q3 => bad (by omega), fun q3 => ⟨fun q4 => ?_, fun q4 => bad (by omega)⟩⟩⟩⟩
    obtain ⟨n, rfl⟩ : ∃ k : Nat, n = k := ⟨n.toNat, by omega⟩
    refine ⟨fun q5 => ?_, fun q5 => ⟨fun q6 => ?_, fun q6 => ?_⟩⟩
    · rw [show g_figures S i so fr n = (-11, S) from (by unfold g_figures; (try simp only [Int.toNat_natCast]); repeat (first | rw [if_pos (by omega)] | rw [if_neg (by omega)]))] at hQ
      refine b_X5_figures_57 _ _ _ _ ?_
      simp only [k_X5_figures_57, x_push, x_iload, x_lload, x_aload, x_bin, x_div, x_un, x_lbin, x_ldiv, x_lcmp, x_i2l, x_l2i, x_dup, x_pop, x_dup2, x_c1, x_c2, x_null, x_cat1, x_istore, x_astore, x_lstore, x_iinc, x_nol, x_tsw, xsw, x_lsw, xlsw, x_ret, x_zret, x_lret, x_aret, x_vret, x_getI, x_getL, x_getR, x_putI, x_putZ, x_putL, x_iaload, x_zaload, x_aaload, x_iastore, x_zastore, x_alen, x_mm, x_acopy, xpush, xJ, xK, x_cV0, x_cV1, x_cV2, x_cV3, x_cV4, x_cV5, x_cV6, x_cV7, x_cV8, x_cS1, x_cS2, x_cS3, x_cS4, x_cS5, List.getD_cons_zero, List.getD_cons_succ, List.set_cons_zero, List.set_cons_succ, List.length_cons, List.length_nil, Nat.zero_add, true_and, and_true, List.getD_nil, not_true, not_false_eq_true, Int.toNat_natCast, false_implies, true_implies, if_true, if_false, Int.toNat_zero, Int.toNat_one, true_or, or_true, Int.reduceEq, Int.reduceLT, Int.reduceLE, Int.reduceNe, Int.reduceNeg, Int.reduceAdd, Int.reduceSub, Int.reduceMul, Int.reduceToNat, Nat.reduceLT, Nat.reduceLeDiff, Nat.reduceAdd, Nat.reduceEqDiff, Nat.reduceSub, not_false_iff, and_self, implies_true, false_and, and_false, or_self, false_or, or_false, Int.cast_ofNat_Int, Int.natCast_nonneg, SS.f0 hZ, SS.f1 hZ, SS.f2 hZ, SS.l2 hZ, SS.a2 hZ, SS.e2 hZ, b0, q5]
      exact hQ σ Sm.rf hR
    · rw [show g_figures S i so fr n = g_figs (zH S i).2.2 (zH S i).2.1 fr n 0 0 S from (by unfold g_figures; (try simp only [Int.toNat_natCast]); repeat (first | rw [if_pos (by omega)] | rw [if_neg (by omega)]))] at hQ
      have loop : ∀ (m t came : Nat) (σ' : Nat → Nat → Int) (S' : xSt) (v8 : xV), t + m = n → came ≤ t → Sm (RCl c) σ σ' → CR Γ σ' c S' → zH S' = zH S → x_cat1 v8 ∨ v8 = vu → g_figs (zH S i).2.2 (zH S i).2.1 fr m t came S' = g_figs (zH S i).2.2 (zH S i).2.1 fr n 0 0 S → xR M_X5_figures (d + 2) (0, 0) 75 [vr c, vi (i : Int), vi so, vi fr, vi (n : Int), vr (c + 53 + 2 * i), vi (came : Int), vi (t : Int), v8] [] (Γ, σ') Q := by
        intro m
        induction m with
        | zero =>
          intro t came σ' S' v8 ht hc e1 e2 e3 h8 e4
          refine b_X5_figures_75 _ _ _ _ ?_
          simp only [k_X5_figures_75, x_push, x_iload, x_lload, x_aload, x_bin, x_div, x_un, x_lbin, x_ldiv, x_lcmp, x_i2l, x_l2i, x_dup, x_pop, x_dup2, x_c1, x_c2, x_null, x_cat1, x_istore, x_astore, x_lstore, x_iinc, x_nol, x_tsw, xsw, x_lsw, xlsw, x_ret, x_zret, x_lret, x_aret, x_vret, x_getI, x_getL, x_getR, x_putI, x_putZ, x_putL, x_iaload, x_zaload, x_aaload, x_iastore, x_zastore, x_alen, x_mm, x_acopy, xpush, xJ, xK, x_cV0, x_cV1, x_cV2, x_cV3, x_cV4, x_cV5, x_cV6, x_cV7, x_cV8, x_cS1, x_cS2, x_cS3, x_cS4, x_cS5, List.getD_cons_zero, List.getD_cons_succ, List.set_cons_zero, List.set_cons_succ, List.length_cons, List.length_nil, Nat.zero_add, true_and, and_true, List.getD_nil, not_true, not_false_eq_true, Int.toNat_natCast, false_implies, true_implies, if_true, if_false, Int.toNat_zero, Int.toNat_one, true_or, or_true, Int.reduceEq, Int.reduceLT, Int.reduceLE, Int.reduceNe, Int.reduceNeg, Int.reduceAdd, Int.reduceSub, Int.reduceMul, Int.reduceToNat, Nat.reduceLT, Nat.reduceLeDiff, Nat.reduceAdd, Nat.reduceEqDiff, Nat.reduceSub, not_false_iff, and_self, implies_true, false_and, and_false, or_self, false_or, or_false, Int.cast_ofNat_Int, Int.natCast_nonneg, eq_true (show (n : Int) ≤ (t : Int) by omega)]
          rw [← e4] at hQ
          exact hQ σ' e1 e2
        | succ m ih =>
          intro t came σ' S' v8 ht hc e1 e2 e3 h8 e4
          obtain ⟨d0, d1, d2⟩ := e2.2.1.2.2.2.2.2 i hi
          rw [e3] at d0 d1 d2
          refine b_X5_figures_75 _ _ _ _ ?_
          simp only [k_X5_figures_75, x_push, x_iload, x_lload, x_aload, x_bin, x_div, x_un, x_lbin, x_ldiv, x_lcmp, x_i2l, x_l2i, x_dup, x_pop, x_dup2, x_c1, x_c2, x_null, x_cat1, x_istore, x_astore, x_lstore, x_iinc, x_nol, x_tsw, xsw, x_lsw, xlsw, x_ret, x_zret, x_lret, x_aret, x_vret, x_getI, x_getL, x_getR, x_putI, x_putZ, x_putL, x_iaload, x_zaload, x_aaload, x_iastore, x_zastore, x_alen, x_mm, x_acopy, xpush, xJ, xK, x_cV0, x_cV1, x_cV2, x_cV3, x_cV4, x_cV5, x_cV6, x_cV7, x_cV8, x_cS1, x_cS2, x_cS3, x_cS4, x_cS5, List.getD_cons_zero, List.getD_cons_succ, List.set_cons_zero, List.set_cons_succ, List.length_cons, List.length_nil, Nat.zero_add, true_and, and_true, List.getD_nil, not_true, not_false_eq_true, Int.toNat_natCast, false_implies, true_implies, if_true, if_false, Int.toNat_zero, Int.toNat_one, true_or, or_true, Int.reduceEq, Int.reduceLT, Int.reduceLE, Int.reduceNe, Int.reduceNeg, Int.reduceAdd, Int.reduceSub, Int.reduceMul, Int.reduceToNat, Nat.reduceLT, Nat.reduceLeDiff, Nat.reduceAdd, Nat.reduceEqDiff, Nat.reduceSub, not_false_iff, and_self, implies_true, false_and, and_false, or_self, false_or, or_false, Int.cast_ofNat_Int, Int.natCast_nonneg, SS.f0 hZ, SS.f1 hZ, SS.f2 hZ, SS.l2 hZ, SS.a2 hZ, SS.e2 hZ, eq_false (show ¬ ((n : Int) ≤ (t : Int)) by omega), (show omul 3 (t : Int) = 3 * (t : Int) by (first | rw [oadd_id (by omega) (by omega)] | rw [osub_id (by omega) (by omega)] | rw [omul_id (by omega) (by omega)]) <;> omega)]
          by_cases z : 0 ≤ fr + 3 * t ∧ fr + 3 * t + 3 ≤ (zH S i).2.1
          · rw [oadd_id (by omega) (by omega)]
            obtain ⟨a, ha⟩ : ∃ a : Nat, fr + 3 * (t : Int) = a := ⟨(fr + 3 * t).toNat, by omega⟩
            rw [ha] at z ⊢
            refine c_holds hZ d1 g2 (fun _ _ _ => ?_) (fun y => by omega)
            simp only [x_push, x_iload, x_lload, x_aload, x_bin, x_div, x_un, x_lbin, x_ldiv, x_lcmp, x_i2l, x_l2i, x_dup, x_pop, x_dup2, x_c1, x_c2, x_null, x_cat1, x_istore, x_astore, x_lstore, x_iinc, x_nol, x_tsw, xsw, x_lsw, xlsw, x_ret, x_zret, x_lret, x_aret, x_vret, x_getI, x_getL, x_getR, x_putI, x_putZ, x_putL, x_iaload, x_zaload, x_aaload, x_iastore, x_zastore, x_alen, x_mm, x_acopy, xpush, xJ, xK, x_cV0, x_cV1, x_cV2, x_cV3, x_cV4, x_cV5, x_cV6, x_cV7, x_cV8, x_cS1, x_cS2, x_cS3, x_cS4, x_cS5, List.getD_cons_zero, List.getD_cons_succ, List.set_cons_zero, List.set_cons_succ, List.length_cons, List.length_nil, Nat.zero_add, true_and, and_true, List.getD_nil, not_true, not_false_eq_true, Int.toNat_natCast, false_implies, true_implies, if_true, if_false, Int.toNat_zero, Int.toNat_one, true_or, or_true, Int.reduceEq, Int.reduceLT, Int.reduceLE, Int.reduceNe, Int.reduceNeg, Int.reduceAdd, Int.reduceSub, Int.reduceMul, Int.reduceToNat, Nat.reduceLT, Nat.reduceLeDiff, Nat.reduceAdd, Nat.reduceEqDiff, Nat.reduceSub, not_false_iff, and_self, implies_true, false_and, and_false, or_self, false_or, or_false, Int.cast_ofNat_Int, Int.natCast_nonneg, SC.f0 hC, SC.f1 hC, SC.f2 hC, SC.f3 hC, SC.f4 hC, SC.f5 hC, SC.f6 hC, SC.f7 hC, SS.f0 hZ, SS.f1 hZ, SS.f2 hZ, SS.l2 hZ, SS.a2 hZ, SS.e2 hZ, SW.f0 hS, SW.f1 hS, SW.f2 hS, SW.f3 hS, SW.f4 hS, SW.f5 hS, SW.f6 hS, SW.f7 hS, SW.f8 hS, SW.f9 hS, SW.l9 hS, SW.a9 hS, SW.e9 hS, SW.f10 hS, SW.l10 hS, SW.a10 hS, SW.e10 hS, SW.f11 hS, SW.l11 hS, SW.a11 hS, SW.e11 hS, SW.f12 hS, SW.l12 hS, SW.a12 hS, SW.e12 hS, SW.f13 hS, SW.l13 hS, SW.a13 hS, SW.e13 hS, SW.f14 hS, SW.l14 hS, SW.a14 hS, SW.e14 hS, SW.f15 hS, SW.l15 hS, SW.a15 hS, SW.e15 hS, (show oadd (a : Int) 1 = ((a + 1 : Nat) : Int) by (first | rw [oadd_id (by omega) (by omega)] | rw [osub_id (by omega) (by omega)] | rw [omul_id (by omega) (by omega)]) <;> omega), (show oadd (a : Int) 2 = ((a + 2 : Nat) : Int) by (first | rw [oadd_id (by omega) (by omega)] | rw [osub_id (by omega) (by omega)] | rw [omul_id (by omega) (by omega)]) <;> omega), eq_true (show (a : Int) < 40 by omega), eq_true (show ((a + 1 : Nat) : Int) < 40 by omega), eq_true (show ((a + 2 : Nat) : Int) < 40 by omega)]
            rw [show c + 53 + 2 * i + 1 = c + 54 + 2 * i by omega, d2 a (by omega), d2 (a + 1) (by omega), d2 (a + 2) (by omega)]
            have e5 : g_figs (zH S i).2.2 (zH S i).2.1 fr m (t + 1) (came + (if 0 ≤ a_figure S' ((zH S i).2.2 a) ((zH S i).2.2 (a + 1)) ((zH S i).2.2 (a + 2)) then 1 else 0)) (n_figure S' ((zH S i).2.2 a) ((zH S i).2.2 (a + 1)) ((zH S i).2.2 (a + 2))) = g_figs (zH S i).2.2 (zH S i).2.1 fr n 0 0 S := by
              rw [← e4]
              simp only [g_figs]
              rw [ha, if_pos z, Int.toNat_natCast]
            refine c_addF e2 (fun σ2 k1 k2 => ?_)
            simp only [x_push, x_iload, x_lload, x_aload, x_bin, x_div, x_un, x_lbin, x_ldiv, x_lcmp, x_i2l, x_l2i, x_dup, x_pop, x_dup2, x_c1, x_c2, x_null, x_cat1, x_istore, x_astore, x_lstore, x_iinc, x_nol, x_tsw, xsw, x_lsw, xlsw, x_ret, x_zret, x_lret, x_aret, x_vret, x_getI, x_getL, x_getR, x_putI, x_putZ, x_putL, x_iaload, x_zaload, x_aaload, x_iastore, x_zastore, x_alen, x_mm, x_acopy, xpush, xJ, xK, x_cV0, x_cV1, x_cV2, x_cV3, x_cV4, x_cV5, x_cV6, x_cV7, x_cV8, x_cS1, x_cS2, x_cS3, x_cS4, x_cS5, List.getD_cons_zero, List.getD_cons_succ, List.set_cons_zero, List.set_cons_succ, List.length_cons, List.length_nil, Nat.zero_add, true_and, and_true, List.getD_nil, not_true, not_false_eq_true, Int.toNat_natCast, false_implies, true_implies, if_true, if_false, Int.toNat_zero, Int.toNat_one, true_or, or_true, Int.reduceEq, Int.reduceLT, Int.reduceLE, Int.reduceNe, Int.reduceNeg, Int.reduceAdd, Int.reduceSub, Int.reduceMul, Int.reduceToNat, Nat.reduceLT, Nat.reduceLeDiff, Nat.reduceAdd, Nat.reduceEqDiff, Nat.reduceSub, not_false_iff, and_self, implies_true, false_and, and_false, or_self, false_or, or_false, Int.cast_ofNat_Int, Int.natCast_nonneg]
            have k3 : zH (n_figure S' ((zH S i).2.2 a) ((zH S i).2.2 (a + 1)) ((zH S i).2.2 (a + 2))) = zH S := by rw [zH_figure]; exact e3
            refine ⟨fun y => ?_, fun y => ?_⟩
            · rw [if_neg (by omega), Int.add_zero] at e5
              rw [oadd_id (by omega) (by omega)]
              exact ih (t + 1) came σ2 _ (vi (a : Int)) (by omega) (by omega) (e1.tr k1) k2 k3 (Or.inl trivial) e5
            · rw [if_pos (by omega)] at e5
              rw [oadd_id (by omega) (by omega), oadd_id (by omega) (by omega)]
              exact ih (t + 1) (came + 1) σ2 _ (vi (a : Int)) (by omega) (by omega) (e1.tr k1) k2 k3 (Or.inl trivial) e5
          · have e5 : g_figs (zH S i).2.2 (zH S i).2.1 fr (m + 1) t came S' = (-12, S') := by
              simp only [g_figs]
              rw [if_neg z]
            rw [e4] at e5
            rw [e5] at hQ
            refine c_holds hZ d1 g2 (fun y0 y1 y2 => ?_) (fun y => ?_)
            · have hw : oadd fr (3 * (t : Int)) = w32 (fr + 3 * t) := oadd_w _ _
              unfold i32 at hf
              rw [hw] at y0 y2
              unfold w32 at y0 y2
              omega
            · simp only [x_push, x_iload, x_lload, x_aload, x_bin, x_div, x_un, x_lbin, x_ldiv, x_lcmp, x_i2l, x_l2i, x_dup, x_pop, x_dup2, x_c1, x_c2, x_null, x_cat1, x_istore, x_astore, x_lstore, x_iinc, x_nol, x_tsw, xsw, x_lsw, xlsw, x_ret, x_zret, x_lret, x_aret, x_vret, x_getI, x_getL, x_getR, x_putI, x_putZ, x_putL, x_iaload, x_zaload, x_aaload, x_iastore, x_zastore, x_alen, x_mm, x_acopy, xpush, xJ, xK, x_cV0, x_cV1, x_cV2, x_cV3, x_cV4, x_cV5, x_cV6, x_cV7, x_cV8, x_cS1, x_cS2, x_cS3, x_cS4, x_cS5, List.getD_cons_zero, List.getD_cons_succ, List.set_cons_zero, List.set_cons_succ, List.length_cons, List.length_nil, Nat.zero_add, true_and, and_true, List.getD_nil, not_true, not_false_eq_true, Int.toNat_natCast, false_implies, true_implies, if_true, if_false, Int.toNat_zero, Int.toNat_one, true_or, or_true, Int.reduceEq, Int.reduceLT, Int.reduceLE, Int.reduceNe, Int.reduceNeg, Int.reduceAdd, Int.reduceSub, Int.reduceMul, Int.reduceToNat, Nat.reduceLT, Nat.reduceLeDiff, Nat.reduceAdd, Nat.reduceEqDiff, Nat.reduceSub, not_false_iff, and_self, implies_true, false_and, and_false, or_self, false_or, or_false, Int.cast_ofNat_Int, Int.natCast_nonneg]
              exact hQ σ' e1 e2
      refine b_X5_figures_57 _ _ _ _ ?_
      simp only [k_X5_figures_57, x_push, x_iload, x_lload, x_aload, x_bin, x_div, x_un, x_lbin, x_ldiv, x_lcmp, x_i2l, x_l2i, x_dup, x_pop, x_dup2, x_c1, x_c2, x_null, x_cat1, x_istore, x_astore, x_lstore, x_iinc, x_nol, x_tsw, xsw, x_lsw, xlsw, x_ret, x_zret, x_lret, x_aret, x_vret, x_getI, x_getL, x_getR, x_putI, x_putZ, x_putL, x_iaload, x_zaload, x_aaload, x_iastore, x_zastore, x_alen, x_mm, x_acopy, xpush, xJ, xK, x_cV0, x_cV1, x_cV2, x_cV3, x_cV4, x_cV5, x_cV6, x_cV7, x_cV8, x_cS1, x_cS2, x_cS3, x_cS4, x_cS5, List.getD_cons_zero, List.getD_cons_succ, List.set_cons_zero, List.set_cons_succ, List.length_cons, List.length_nil, Nat.zero_add, true_and, and_true, List.getD_nil, not_true, not_false_eq_true, Int.toNat_natCast, false_implies, true_implies, if_true, if_false, Int.toNat_zero, Int.toNat_one, true_or, or_true, Int.reduceEq, Int.reduceLT, Int.reduceLE, Int.reduceNe, Int.reduceNeg, Int.reduceAdd, Int.reduceSub, Int.reduceMul, Int.reduceToNat, Nat.reduceLT, Nat.reduceLeDiff, Nat.reduceAdd, Nat.reduceEqDiff, Nat.reduceSub, not_false_iff, and_self, implies_true, false_and, and_false, or_self, false_or, or_false, Int.cast_ofNat_Int, Int.natCast_nonneg, SS.f0 hZ, SS.f1 hZ, SS.f2 hZ, SS.l2 hZ, SS.a2 hZ, SS.e2 hZ, b0, q5]
      exact loop n 0 0 σ S vu (by omega) (by omega) Sm.rf hR rfl (Or.inr rfl) rfl
    · rw [show g_figures S i so fr n = (-13, S) from (by unfold g_figures; (try simp only [Int.toNat_natCast]); repeat (first | rw [if_pos (by omega)] | rw [if_neg (by omega)]))] at hQ
      exact hQ σ Sm.rf hR
  · simp only [x_push, x_iload, x_lload, x_aload, x_bin, x_div, x_un, x_lbin, x_ldiv, x_lcmp, x_i2l, x_l2i, x_dup, x_pop, x_dup2, x_c1, x_c2, x_null, x_cat1, x_istore, x_astore, x_lstore, x_iinc, x_nol, x_tsw, xsw, x_lsw, xlsw, x_ret, x_zret, x_lret, x_aret, x_vret, x_getI, x_getL, x_getR, x_putI, x_putZ, x_putL, x_iaload, x_zaload, x_aaload, x_iastore, x_zastore, x_alen, x_mm, x_acopy, xpush, xJ, xK, x_cV0, x_cV1, x_cV2, x_cV3, x_cV4, x_cV5, x_cV6, x_cV7, x_cV8, x_cS1, x_cS2, x_cS3, x_cS4, x_cS5, List.getD_cons_zero, List.getD_cons_succ, List.set_cons_zero, List.set_cons_succ, List.length_cons, List.length_nil, Nat.zero_add, true_and, and_true, List.getD_nil, not_true, not_false_eq_true, Int.toNat_natCast, false_implies, true_implies, if_true, if_false, Int.toNat_zero, Int.toNat_one, true_or, or_true, Int.reduceEq, Int.reduceLT, Int.reduceLE, Int.reduceNe, Int.reduceNeg, Int.reduceAdd, Int.reduceSub, Int.reduceMul, Int.reduceToNat, Nat.reduceLT, Nat.reduceLeDiff, Nat.reduceAdd, Nat.reduceEqDiff, Nat.reduceSub, not_false_iff, and_self, implies_true, false_and, and_false, or_self, false_or, or_false, Int.cast_ofNat_Int, Int.natCast_nonneg]
    exact bad (by omega)
end Cls
