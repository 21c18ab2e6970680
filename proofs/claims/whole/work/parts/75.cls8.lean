/-! ===== the class's calls: change, raise, dear ===== -/
/-- the most of v over m places from b on, if more than p's; cd says which -/
def sMx2 (v cd : Nat → Int) : Nat → Nat → Int × Int → Int × Int
  | 0, _, p => p
  | m + 1, b, p => sMx2 v cd m (b + 1) (if p.1 < v b then (v b, cd b) else p)
/-- two change hours -/
def sSw (A : Nat → Nat → Int) (a b : Nat) : Nat → Nat → Int := upd2 (upd2 A 4 a (A 4 b)) 4 b (A 4 a)
def sCh (v : Nat → Nat → Int) (nc : Nat) : Nat → Nat → Int × Int → Int × Int
  | 0, _, p => p
  | m + 1, a, p => sCh v nc m (a + 1) (sMx2 (v a) (fun b => 10 * (a : Int) + b) (nc - (a + 1)) (a + 1) p)
noncomputable def jSw (S : xSt) (a b : Nat) : Int := (jB (zE S) (sSw (zA S) a b) (zF S) (zC S)).1
noncomputable def jRa (S : xSt) (k : Int) (f : Nat) : Int := (jB (zE S) (upd2 (zA S) 2 f (min (zA S 2 f + k) 999)) (zF S) (zC S)).1
noncomputable def iRt (S : xSt) (r : Nat) : Int := (iB (zE S) (upd2 (zA S) 0 0 r) (zF S) (zC S)).1
noncomputable def g_change (S : xSt) : Int × Int := sCh (jSw S) (zC S) (zC S) 0 ((jB (zE S) (zA S) (zF S) (zC S)).1, -1)
noncomputable def a_change (S : xSt) (w : Int) : Int := if w = 0 ∨ w = 1 then (if w = 0 then (g_change S).2 else (g_change S).1) else -100000
noncomputable def g_raise (S : xSt) (k : Int) : Int × Int := sMx2 (jRa S k) (fun f => (f : Int)) (zF S) 0 ((jB (zE S) (zA S) (zF S) (zC S)).1, -1)
noncomputable def a_raise (S : xSt) (k w : Int) : Int := if (0 ≤ k ∧ k < 1000) ∧ (w = 0 ∨ w = 1) then (if w = 0 then (g_raise S k).2 else (g_raise S k).1) else -100000
noncomputable def g_dear (S : xSt) : Int × Int := sMx2 (iRt S) (fun f => (f : Int)) 9 1 (-1, 1)
noncomputable def a_dear (S : xSt) (w : Int) : Int := if w = 0 ∨ w = 1 then (if w = 0 then (g_dear S).2 else (g_dear S).1) else -100000
theorem AI.sw {nf nc tc a b : Nat} {A : Nat → Nat → Int} (h : AI nf nc tc A) (ha : a < nc) (hb : b < nc) : AI nf nc tc (sSw A a b) := by
  obtain ⟨a1, a2, a3, a4, a5, a6⟩ := h
  unfold sSw
  refine ⟨a1, a2, by rw [upd2_row (by decide), upd2_row (by decide)]; exact a3, by rw [upd2_row (by decide), upd2_row (by decide)]; exact a4, fun f hf => ?_, fun c hc => ?_⟩
  · simp (disch := decide) only [upd2_row]
    exact a5 f hf
  · rw [upd2_row (show 5 ≠ 4 by decide), upd2_row (show 5 ≠ 4 by decide)]
    refine ⟨?_, (a6 c hc).2⟩
    by_cases e : c = b
    · rw [e, upd2_eq]; exact (a6 a ha).1
    · rw [upd2_col e]
      by_cases e2 : c = a
      · rw [e2, upd2_eq]; exact (a6 b hb).1
      · rw [upd2_col e2]; exact (a6 c hc).1
theorem AI.mean {nf nc tc f : Nat} {A : Nat → Nat → Int} {v : Int} (h : AI nf nc tc A) (h0 : 0 ≤ v) (h1 : v ≤ 999) : AI nf nc tc (upd2 A 2 f v) := by
  obtain ⟨a1, a2, a3, a4, a5, a6⟩ := h
  refine ⟨a1, a2, by rw [upd2_row (by decide)]; exact a3, by rw [upd2_row (by decide)]; exact a4, fun g hg => ?_, fun c hc => ?_⟩
  · rw [upd2_row (show 1 ≠ 2 by decide), upd2_row (show 3 ≠ 2 by decide), upd2_row (show 6 ≠ 2 by decide)]
    have := a5 g hg
    refine ⟨this.1, ?_, this.2.2⟩
    by_cases e : g = f
    · rw [e, upd2_eq]; omega
    · rw [upd2_col e]; exact this.2.1
  · rw [upd2_row (show 4 ≠ 2 by decide), upd2_row (show 5 ≠ 2 by decide)]
    exact a6 c hc
theorem AI.rate {nf nc tc : Nat} {A : Nat → Nat → Int} {v : Int} (h : AI nf nc tc A) (h0 : 1 ≤ v) (h1 : v ≤ 9) : AI nf nc tc (upd2 A 0 0 v) := by
  obtain ⟨a1, a2, a3, a4, a5, a6⟩ := h
  refine ⟨a1, a2, by rw [upd2_eq]; omega, by rw [upd2_row (by decide)]; exact a4, fun g hg => ?_, fun c hc => ?_⟩
  · simp (disch := decide) only [upd2_row]
    exact a5 g hg
  · simp (disch := decide) only [upd2_row]
    exact a6 c hc
section Cls
variable {Γ : xSh} {σ : Nat → Nat → Int} {c d : Nat} {S : xSt} {Q : xV → xMem → Prop}
theorem CR.wokW {σ' : Nat → Nat → Int} {nf nc : Nat} {A : Nat → Nat → Int} (hR : CR Γ σ c S) (hs : Sm (Scr c) σ σ') (hV : WV σ' (c + 69) nf nc A) (hA : AI nf nc (zT S) A) : WOK Γ σ' (c + 69) (c + 1) (c + 29) nf nc (zT S) A (zE S) := by
  have h := (hR.scr hs).wok
  exact ⟨hR.1.2.2.2.2.2.2.2.1, h.2.1, by omega, hV, hA, h.2.2.2.2.2.1, h.2.2.2.2.2.2⟩
theorem in_69 {j : Nat} (hj : j ≤ 6) : Scr c (c + 69 + j) := Or.inr (Or.inl (by omega))
set_option maxHeartbeats 4000000 in
theorem c5_change {w : Int} (hR : CR Γ σ c S) (hQ : ∀ σ', Sm (Scr c) σ σ' → Q (vi (a_change S w)) (Γ, σ')) : xRM M_X5_change (d + 11) (0, 0) [vr c, vi w] (Γ, σ) Q := by
  refine xRM_of (by decide) (Nat.le_of_ble_eq_true rfl) ?_
  have hW := hR.wok
  obtain ⟨hS, hX, hl, hV, hA, htc, hT⟩ := id hW
  obtain ⟨hC, -, hP, hK, hKr, -⟩ := id hR.1
  have hS2 := hR.1.2.2.2.2.2.2.2.1
  have hnf := hA.1
  have hnc := hA.2.1
  unfold a_change at hQ
  have s12 : (w = 0 ∨ w = 1) → xR M_X5_change (d + 11) (0, 0) 12 [vr c, vi w, vu, vu, vu, vu, vu] [] (Γ, σ) Q := by
    intro hw
    rw [if_pos hw] at hQ
    have outer : ∀ (m a : Nat) (σ1 : Nat → Nat → Int) (p : Int × Int) (v5 v6 : xV), a + m = zC S → Sm (Scr c) σ σ1 → sCh (jSw S) (zC S) m a p = g_change S → xR M_X5_change (d + 11) (0, 0) 26 [vr c, vi w, vi p.1, vi p.2, vi (a : Int), v5, v6] [] (Γ, σ1) Q := by
      intro m
      induction m with
      | zero =>
        intro a σ1 p v5 v6 ha e1 e2
        have hV1 := (hR.scr e1).wok.2.2.2.1
        refine b_X5_change_26 _ _ _ _ ?_
        simp only [k_X5_change_26, x_push, x_iload, x_lload, x_aload, x_bin, x_div, x_un, x_lbin, x_ldiv, x_lcmp, x_i2l, x_l2i, x_dup, x_pop, x_dup2, x_c1, x_c2, x_null, x_cat1, x_istore, x_astore, x_lstore, x_iinc, x_nol, x_tsw, xsw, x_lsw, xlsw, x_ret, x_zret, x_lret, x_aret, x_vret, x_getI, x_getL, x_getR, x_putI, x_putZ, x_putL, x_iaload, x_zaload, x_aaload, x_iastore, x_zastore, x_alen, x_mm, x_acopy, xpush, xJ, xK, x_cV0, x_cV1, x_cV2, x_cV3, x_cV4, x_cV5, x_cV6, x_cV7, x_cV8, x_cS1, x_cS2, x_cS3, x_cS4, x_cS5, List.getD_cons_zero, List.getD_cons_succ, List.set_cons_zero, List.set_cons_succ, List.length_cons, List.length_nil, Nat.zero_add, true_and, and_true, List.getD_nil, not_true, not_false_eq_true, Int.toNat_natCast, false_implies, true_implies, if_true, if_false, Int.toNat_zero, Int.toNat_one, true_or, or_true, Int.reduceEq, Int.reduceLT, Int.reduceLE, Int.reduceNe, Int.reduceNeg, Int.reduceAdd, Int.reduceSub, Int.reduceMul, Int.reduceToNat, Nat.reduceLT, Nat.reduceLeDiff, Nat.reduceAdd, Nat.reduceEqDiff, Nat.reduceSub, not_false_iff, and_self, implies_true, false_and, and_false, or_self, false_or, or_false, Int.cast_ofNat_Int, Int.natCast_nonneg, SC.f0 hC, SC.f1 hC, SC.f2 hC, SC.f3 hC, SC.f4 hC, SC.f5 hC, SC.f6 hC, SC.f7 hC, SW.f0 hS, SW.f1 hS, SW.f2 hS, SW.f3 hS, SW.f4 hS, SW.f5 hS, SW.f6 hS, SW.f7 hS, SW.f8 hS, SW.f9 hS, SW.l9 hS, SW.a9 hS, SW.e9 hS, SW.f10 hS, SW.l10 hS, SW.a10 hS, SW.e10 hS, SW.f11 hS, SW.l11 hS, SW.a11 hS, SW.e11 hS, SW.f12 hS, SW.l12 hS, SW.a12 hS, SW.e12 hS, SW.f13 hS, SW.l13 hS, SW.a13 hS, SW.e13 hS, SW.f14 hS, SW.l14 hS, SW.a14 hS, SW.e14 hS, SW.f15 hS, SW.l15 hS, SW.a15 hS, SW.e15 hS, hV1.2.2.2.1, eq_true (show (zC S : Int) ≤ (a : Int) by omega)]
        simp only [sCh] at e2
        rw [← e2] at hQ
        have key := hQ σ1 e1
        refine ⟨fun q => ?_, fun q => ?_⟩
        · rw [if_neg q] at key; exact key
        · rw [if_pos (Classical.not_not.mp q)] at key; exact key
      | succ m ih =>
        intro a σ1 p v5 v6 ha e1 e2
        have hV1 := (hR.scr e1).wok.2.2.2.1
        have inner : ∀ (k b : Nat) (σ2 : Nat → Nat → Int) (p : Int × Int) (v6 : xV), b + k = zC S → a < b → Sm (Scr c) σ σ2 → sCh (jSw S) (zC S) m (a + 1) (sMx2 (jSw S a) (fun b => 10 * (a : Int) + b) k b p) = g_change S → xR M_X5_change (d + 11) (0, 0) 44 [vr c, vi w, vi p.1, vi p.2, vi (a : Int), vi (b : Int), v6] [] (Γ, σ2) Q := by
          intro k
          induction k with
          | zero =>
            intro b σ2 p v6 hb hab f1 f2
            have hV2 := (hR.scr f1).wok.2.2.2.1
            refine b_X5_change_44 _ _ _ _ ?_
            simp only [k_X5_change_44, x_push, x_iload, x_lload, x_aload, x_bin, x_div, x_un, x_lbin, x_ldiv, x_lcmp, x_i2l, x_l2i, x_dup, x_pop, x_dup2, x_c1, x_c2, x_null, x_cat1, x_istore, x_astore, x_lstore, x_iinc, x_nol, x_tsw, xsw, x_lsw, xlsw, x_ret, x_zret, x_lret, x_aret, x_vret, x_getI, x_getL, x_getR, x_putI, x_putZ, x_putL, x_iaload, x_zaload, x_aaload, x_iastore, x_zastore, x_alen, x_mm, x_acopy, xpush, xJ, xK, x_cV0, x_cV1, x_cV2, x_cV3, x_cV4, x_cV5, x_cV6, x_cV7, x_cV8, x_cS1, x_cS2, x_cS3, x_cS4, x_cS5, List.getD_cons_zero, List.getD_cons_succ, List.set_cons_zero, List.set_cons_succ, List.length_cons, List.length_nil, Nat.zero_add, true_and, and_true, List.getD_nil, not_true, not_false_eq_true, Int.toNat_natCast, false_implies, true_implies, if_true, if_false, Int.toNat_zero, Int.toNat_one, true_or, or_true, Int.reduceEq, Int.reduceLT, Int.reduceLE, Int.reduceNe, Int.reduceNeg, Int.reduceAdd, Int.reduceSub, Int.reduceMul, Int.reduceToNat, Nat.reduceLT, Nat.reduceLeDiff, Nat.reduceAdd, Nat.reduceEqDiff, Nat.reduceSub, not_false_iff, and_self, implies_true, false_and, and_false, or_self, false_or, or_false, Int.cast_ofNat_Int, Int.natCast_nonneg, SC.f0 hC, SC.f1 hC, SC.f2 hC, SC.f3 hC, SC.f4 hC, SC.f5 hC, SC.f6 hC, SC.f7 hC, SW.f0 hS, SW.f1 hS, SW.f2 hS, SW.f3 hS, SW.f4 hS, SW.f5 hS, SW.f6 hS, SW.f7 hS, SW.f8 hS, SW.f9 hS, SW.l9 hS, SW.a9 hS, SW.e9 hS, SW.f10 hS, SW.l10 hS, SW.a10 hS, SW.e10 hS, SW.f11 hS, SW.l11 hS, SW.a11 hS, SW.e11 hS, SW.f12 hS, SW.l12 hS, SW.a12 hS, SW.e12 hS, SW.f13 hS, SW.l13 hS, SW.a13 hS, SW.e13 hS, SW.f14 hS, SW.l14 hS, SW.a14 hS, SW.e14 hS, SW.f15 hS, SW.l15 hS, SW.a15 hS, SW.e15 hS, hV2.2.2.2.1, eq_true (show (zC S : Int) ≤ (b : Int) by omega)]
            rw [oadd_id (by omega) (by omega)]
            exact ih (a + 1) σ2 p _ v6 (by omega) f1 f2
          | succ k ih2 =>
            intro b σ2 p v6 hb hab f1 f2
            have hV2 := (hR.scr f1).wok.2.2.2.1
            refine b_X5_change_44 _ _ _ _ ?_
            simp only [k_X5_change_44, x_push, x_iload, x_lload, x_aload, x_bin, x_div, x_un, x_lbin, x_ldiv, x_lcmp, x_i2l, x_l2i, x_dup, x_pop, x_dup2, x_c1, x_c2, x_null, x_cat1, x_istore, x_astore, x_lstore, x_iinc, x_nol, x_tsw, xsw, x_lsw, xlsw, x_ret, x_zret, x_lret, x_aret, x_vret, x_getI, x_getL, x_getR, x_putI, x_putZ, x_putL, x_iaload, x_zaload, x_aaload, x_iastore, x_zastore, x_alen, x_mm, x_acopy, xpush, xJ, xK, x_cV0, x_cV1, x_cV2, x_cV3, x_cV4, x_cV5, x_cV6, x_cV7, x_cV8, x_cS1, x_cS2, x_cS3, x_cS4, x_cS5, List.getD_cons_zero, List.getD_cons_succ, List.set_cons_zero, List.set_cons_succ, List.length_cons, List.length_nil, Nat.zero_add, true_and, and_true, List.getD_nil, not_true, not_false_eq_true, Int.toNat_natCast, false_implies, true_implies, if_true, if_false, Int.toNat_zero, Int.toNat_one, true_or, or_true, Int.reduceEq, Int.reduceLT, Int.reduceLE, Int.reduceNe, Int.reduceNeg, Int.reduceAdd, Int.reduceSub, Int.reduceMul, Int.reduceToNat, Nat.reduceLT, Nat.reduceLeDiff, Nat.reduceAdd, Nat.reduceEqDiff, Nat.reduceSub, not_false_iff, and_self, implies_true, false_and, and_false, or_self, false_or, or_false, Int.cast_ofNat_Int, Int.natCast_nonneg, SC.f0 hC, SC.f1 hC, SC.f2 hC, SC.f3 hC, SC.f4 hC, SC.f5 hC, SC.f6 hC, SC.f7 hC, SW.f0 hS, SW.f1 hS, SW.f2 hS, SW.f3 hS, SW.f4 hS, SW.f5 hS, SW.f6 hS, SW.f7 hS, SW.f8 hS, SW.f9 hS, SW.l9 hS, SW.a9 hS, SW.e9 hS, SW.f10 hS, SW.l10 hS, SW.a10 hS, SW.e10 hS, SW.f11 hS, SW.l11 hS, SW.a11 hS, SW.e11 hS, SW.f12 hS, SW.l12 hS, SW.a12 hS, SW.e12 hS, SW.f13 hS, SW.l13 hS, SW.a13 hS, SW.e13 hS, SW.f14 hS, SW.l14 hS, SW.a14 hS, SW.e14 hS, SW.f15 hS, SW.l15 hS, SW.a15 hS, SW.e15 hS, SW.f0 hS2, SW.f1 hS2, SW.f2 hS2, SW.f3 hS2, SW.f4 hS2, SW.f5 hS2, SW.f6 hS2, SW.f7 hS2, SW.f8 hS2, SW.f9 hS2, SW.l9 hS2, SW.a9 hS2, SW.e9 hS2, SW.f10 hS2, SW.l10 hS2, SW.a10 hS2, SW.e10 hS2, SW.f11 hS2, SW.l11 hS2, SW.a11 hS2, SW.e11 hS2, SW.f12 hS2, SW.l12 hS2, SW.a12 hS2, SW.e12 hS2, SW.f13 hS2, SW.l13 hS2, SW.a13 hS2, SW.e13 hS2, SW.f14 hS2, SW.l14 hS2, SW.a14 hS2, SW.e14 hS2, SW.f15 hS2, SW.l15 hS2, SW.a15 hS2, SW.e15 hS2, hV2.2.2.2.1, eq_false (show ¬ ((zC S : Int) ≤ (b : Int)) by omega)]
            refine c_become hS2 hS (by omega) hV2 hnf hnc (fun σ3 g1 g2 => ?_)
            have f3 := f1.tr (g1.mono (fun q => RV_Scr2))
            have hV3 := (hR.scr f3).wok.2.2.2.1
            have ea : σ3 (c + 61 + 5) a = zA S 4 a := (hV3.2.2.2.2.2 a (by omega)).1
            have eb : σ3 (c + 61 + 5) b = zA S 4 b := (hV3.2.2.2.2.2 b (by omega)).1
            simp only [x_push, x_iload, x_lload, x_aload, x_bin, x_div, x_un, x_lbin, x_ldiv, x_lcmp, x_i2l, x_l2i, x_dup, x_pop, x_dup2, x_c1, x_c2, x_null, x_cat1, x_istore, x_astore, x_lstore, x_iinc, x_nol, x_tsw, xsw, x_lsw, xlsw, x_ret, x_zret, x_lret, x_aret, x_vret, x_getI, x_getL, x_getR, x_putI, x_putZ, x_putL, x_iaload, x_zaload, x_aaload, x_iastore, x_zastore, x_alen, x_mm, x_acopy, xpush, xJ, xK, x_cV0, x_cV1, x_cV2, x_cV3, x_cV4, x_cV5, x_cV6, x_cV7, x_cV8, x_cS1, x_cS2, x_cS3, x_cS4, x_cS5, List.getD_cons_zero, List.getD_cons_succ, List.set_cons_zero, List.set_cons_succ, List.length_cons, List.length_nil, Nat.zero_add, true_and, and_true, List.getD_nil, not_true, not_false_eq_true, Int.toNat_natCast, false_implies, true_implies, if_true, if_false, Int.toNat_zero, Int.toNat_one, true_or, or_true, Int.reduceEq, Int.reduceLT, Int.reduceLE, Int.reduceNe, Int.reduceNeg, Int.reduceAdd, Int.reduceSub, Int.reduceMul, Int.reduceToNat, Nat.reduceLT, Nat.reduceLeDiff, Nat.reduceAdd, Nat.reduceEqDiff, Nat.reduceSub, not_false_iff, and_self, implies_true, false_and, and_false, or_self, false_or, or_false, Int.cast_ofNat_Int, Int.natCast_nonneg, SC.f0 hC, SC.f1 hC, SC.f2 hC, SC.f3 hC, SC.f4 hC, SC.f5 hC, SC.f6 hC, SC.f7 hC, SW.f0 hS, SW.f1 hS, SW.f2 hS, SW.f3 hS, SW.f4 hS, SW.f5 hS, SW.f6 hS, SW.f7 hS, SW.f8 hS, SW.f9 hS, SW.l9 hS, SW.a9 hS, SW.e9 hS, SW.f10 hS, SW.l10 hS, SW.a10 hS, SW.e10 hS, SW.f11 hS, SW.l11 hS, SW.a11 hS, SW.e11 hS, SW.f12 hS, SW.l12 hS, SW.a12 hS, SW.e12 hS, SW.f13 hS, SW.l13 hS, SW.a13 hS, SW.e13 hS, SW.f14 hS, SW.l14 hS, SW.a14 hS, SW.e14 hS, SW.f15 hS, SW.l15 hS, SW.a15 hS, SW.e15 hS, SW.f0 hS2, SW.f1 hS2, SW.f2 hS2, SW.f3 hS2, SW.f4 hS2, SW.f5 hS2, SW.f6 hS2, SW.f7 hS2, SW.f8 hS2, SW.f9 hS2, SW.l9 hS2, SW.a9 hS2, SW.e9 hS2, SW.f10 hS2, SW.l10 hS2, SW.a10 hS2, SW.e10 hS2, SW.f11 hS2, SW.l11 hS2, SW.a11 hS2, SW.e11 hS2, SW.f12 hS2, SW.l12 hS2, SW.a12 hS2, SW.e12 hS2, SW.f13 hS2, SW.l13 hS2, SW.a13 hS2, SW.e13 hS2, SW.f14 hS2, SW.l14 hS2, SW.a14 hS2, SW.e14 hS2, SW.f15 hS2, SW.l15 hS2, SW.a15 hS2, SW.e15 hS2, upd2_row (show c + 61 + 5 ≠ c + 69 + 5 by omega), ea, eb, eq_true (show (a : Int) < 5 by omega), eq_true (show (b : Int) < 5 by omega)]
            have f4 : Sm (Scr c) σ (upd2 (upd2 σ3 (c + 69 + 5) a (zA S 4 b)) (c + 69 + 5) b (zA S 4 a)) := (f3.put (in_69 (by omega))).put (in_69 (by omega))
            have hV4 : WV (upd2 (upd2 σ3 (c + 69 + 5) a (zA S 4 b)) (c + 69 + 5) b (zA S 4 a)) (c + 69) (zF S) (zC S) (sSw (zA S) a b) := (g2.p4).p4
            refine c_gladdest hR.1 (Or.inr rfl) (hR.wokW f4 hV4 (hA.sw (by omega) (by omega))) (fun σ5 k1 k2 k3 k4 k5 => ?_)
            simp only [x_push, x_iload, x_lload, x_aload, x_bin, x_div, x_un, x_lbin, x_ldiv, x_lcmp, x_i2l, x_l2i, x_dup, x_pop, x_dup2, x_c1, x_c2, x_null, x_cat1, x_istore, x_astore, x_lstore, x_iinc, x_nol, x_tsw, xsw, x_lsw, xlsw, x_ret, x_zret, x_lret, x_aret, x_vret, x_getI, x_getL, x_getR, x_putI, x_putZ, x_putL, x_iaload, x_zaload, x_aaload, x_iastore, x_zastore, x_alen, x_mm, x_acopy, xpush, xJ, xK, x_cV0, x_cV1, x_cV2, x_cV3, x_cV4, x_cV5, x_cV6, x_cV7, x_cV8, x_cS1, x_cS2, x_cS3, x_cS4, x_cS5, List.getD_cons_zero, List.getD_cons_succ, List.set_cons_zero, List.set_cons_succ, List.length_cons, List.length_nil, Nat.zero_add, true_and, and_true, List.getD_nil, not_true, not_false_eq_true, Int.toNat_natCast, false_implies, true_implies, if_true, if_false, Int.toNat_zero, Int.toNat_one, true_or, or_true, Int.reduceEq, Int.reduceLT, Int.reduceLE, Int.reduceNe, Int.reduceNeg, Int.reduceAdd, Int.reduceSub, Int.reduceMul, Int.reduceToNat, Nat.reduceLT, Nat.reduceLeDiff, Nat.reduceAdd, Nat.reduceEqDiff, Nat.reduceSub, not_false_iff, and_self, implies_true, false_and, and_false, or_self, false_or, or_false, Int.cast_ofNat_Int, Int.natCast_nonneg]
            have eJ : (jB (zE S) (sSw (zA S) a b) (zF S) (zC S)).1 = jSw S a b := rfl
            rw [eJ]
            simp only [sMx2] at f2
            refine ⟨fun q => ?_, fun q => ?_⟩
            · rw [if_neg (by omega)] at f2
              rw [oadd_id (by omega) (by omega)]
              exact ih2 (b + 1) σ5 p _ (by omega) (by omega) (f4.tr k1) f2
            · rw [if_pos (by omega)] at f2
              rw [omul_id (by omega) (by omega), oadd_id (by omega) (by omega), oadd_id (by omega) (by omega)]
              exact ih2 (b + 1) σ5 (jSw S a b, 10 * (a : Int) + b) _ (by omega) (by omega) (f4.tr k1) f2
        refine b_X5_change_26 _ _ _ _ ?_
        simp only [k_X5_change_26, x_push, x_iload, x_lload, x_aload, x_bin, x_div, x_un, x_lbin, x_ldiv, x_lcmp, x_i2l, x_l2i, x_dup, x_pop, x_dup2, x_c1, x_c2, x_null, x_cat1, x_istore, x_astore, x_lstore, x_iinc, x_nol, x_tsw, xsw, x_lsw, xlsw, x_ret, x_zret, x_lret, x_aret, x_vret, x_getI, x_getL, x_getR, x_putI, x_putZ, x_putL, x_iaload, x_zaload, x_aaload, x_iastore, x_zastore, x_alen, x_mm, x_acopy, xpush, xJ, xK, x_cV0, x_cV1, x_cV2, x_cV3, x_cV4, x_cV5, x_cV6, x_cV7, x_cV8, x_cS1, x_cS2, x_cS3, x_cS4, x_cS5, List.getD_cons_zero, List.getD_cons_succ, List.set_cons_zero, List.set_cons_succ, List.length_cons, List.length_nil, Nat.zero_add, true_and, and_true, List.getD_nil, not_true, not_false_eq_true, Int.toNat_natCast, false_implies, true_implies, if_true, if_false, Int.toNat_zero, Int.toNat_one, true_or, or_true, Int.reduceEq, Int.reduceLT, Int.reduceLE, Int.reduceNe, Int.reduceNeg, Int.reduceAdd, Int.reduceSub, Int.reduceMul, Int.reduceToNat, Nat.reduceLT, Nat.reduceLeDiff, Nat.reduceAdd, Nat.reduceEqDiff, Nat.reduceSub, not_false_iff, and_self, implies_true, false_and, and_false, or_self, false_or, or_false, Int.cast_ofNat_Int, Int.natCast_nonneg, SC.f0 hC, SC.f1 hC, SC.f2 hC, SC.f3 hC, SC.f4 hC, SC.f5 hC, SC.f6 hC, SC.f7 hC, SW.f0 hS, SW.f1 hS, SW.f2 hS, SW.f3 hS, SW.f4 hS, SW.f5 hS, SW.f6 hS, SW.f7 hS, SW.f8 hS, SW.f9 hS, SW.l9 hS, SW.a9 hS, SW.e9 hS, SW.f10 hS, SW.l10 hS, SW.a10 hS, SW.e10 hS, SW.f11 hS, SW.l11 hS, SW.a11 hS, SW.e11 hS, SW.f12 hS, SW.l12 hS, SW.a12 hS, SW.e12 hS, SW.f13 hS, SW.l13 hS, SW.a13 hS, SW.e13 hS, SW.f14 hS, SW.l14 hS, SW.a14 hS, SW.e14 hS, SW.f15 hS, SW.l15 hS, SW.a15 hS, SW.e15 hS, hV1.2.2.2.1, eq_false (show ¬ ((zC S : Int) ≤ (a : Int)) by omega)]
        rw [oadd_id (by omega) (by omega)]
        simp only [sCh] at e2
        exact inner (zC S - (a + 1)) (a + 1) σ1 p v6 (by omega) (by omega) e1 e2
    refine b_X5_change_12 _ _ _ _ ?_
    simp only [k_X5_change_12, x_push, x_iload, x_lload, x_aload, x_bin, x_div, x_un, x_lbin, x_ldiv, x_lcmp, x_i2l, x_l2i, x_dup, x_pop, x_dup2, x_c1, x_c2, x_null, x_cat1, x_istore, x_astore, x_lstore, x_iinc, x_nol, x_tsw, xsw, x_lsw, xlsw, x_ret, x_zret, x_lret, x_aret, x_vret, x_getI, x_getL, x_getR, x_putI, x_putZ, x_putL, x_iaload, x_zaload, x_aaload, x_iastore, x_zastore, x_alen, x_mm, x_acopy, xpush, xJ, xK, x_cV0, x_cV1, x_cV2, x_cV3, x_cV4, x_cV5, x_cV6, x_cV7, x_cV8, x_cS1, x_cS2, x_cS3, x_cS4, x_cS5, List.getD_cons_zero, List.getD_cons_succ, List.set_cons_zero, List.set_cons_succ, List.length_cons, List.length_nil, Nat.zero_add, true_and, and_true, List.getD_nil, not_true, not_false_eq_true, Int.toNat_natCast, false_implies, true_implies, if_true, if_false, Int.toNat_zero, Int.toNat_one, true_or, or_true, Int.reduceEq, Int.reduceLT, Int.reduceLE, Int.reduceNe, Int.reduceNeg, Int.reduceAdd, Int.reduceSub, Int.reduceMul, Int.reduceToNat, Nat.reduceLT, Nat.reduceLeDiff, Nat.reduceAdd, Nat.reduceEqDiff, Nat.reduceSub, not_false_iff, and_self, implies_true, false_and, and_false, or_self, false_or, or_false, Int.cast_ofNat_Int, Int.natCast_nonneg, SC.f0 hC, SC.f1 hC, SC.f2 hC, SC.f3 hC, SC.f4 hC, SC.f5 hC, SC.f6 hC, SC.f7 hC]
    refine c_gladdest hR.1 (Or.inl rfl) hW (fun σ1 e1 e2 e3 e4 e5 => ?_)
    simp only [x_push, x_iload, x_lload, x_aload, x_bin, x_div, x_un, x_lbin, x_ldiv, x_lcmp, x_i2l, x_l2i, x_dup, x_pop, x_dup2, x_c1, x_c2, x_null, x_cat1, x_istore, x_astore, x_lstore, x_iinc, x_nol, x_tsw, xsw, x_lsw, xlsw, x_ret, x_zret, x_lret, x_aret, x_vret, x_getI, x_getL, x_getR, x_putI, x_putZ, x_putL, x_iaload, x_zaload, x_aaload, x_iastore, x_zastore, x_alen, x_mm, x_acopy, xpush, xJ, xK, x_cV0, x_cV1, x_cV2, x_cV3, x_cV4, x_cV5, x_cV6, x_cV7, x_cV8, x_cS1, x_cS2, x_cS3, x_cS4, x_cS5, List.getD_cons_zero, List.getD_cons_succ, List.set_cons_zero, List.set_cons_succ, List.length_cons, List.length_nil, Nat.zero_add, true_and, and_true, List.getD_nil, not_true, not_false_eq_true, Int.toNat_natCast, false_implies, true_implies, if_true, if_false, Int.toNat_zero, Int.toNat_one, true_or, or_true, Int.reduceEq, Int.reduceLT, Int.reduceLE, Int.reduceNe, Int.reduceNeg, Int.reduceAdd, Int.reduceSub, Int.reduceMul, Int.reduceToNat, Nat.reduceLT, Nat.reduceLeDiff, Nat.reduceAdd, Nat.reduceEqDiff, Nat.reduceSub, not_false_iff, and_self, implies_true, false_and, and_false, or_self, false_or, or_false, Int.cast_ofNat_Int, Int.natCast_nonneg]
    exact outer (zC S) 0 σ1 ((jB (zE S) (zA S) (zF S) (zC S)).1, -1) vu vu (by omega) e1 rfl
  refine b_X5_change_0 _ _ _ _ ?_
  show k_X5_change_0 (d + 10) Q (0, 0) [vr c, vi w, vu, vu, vu, vu, vu] [] (Γ, σ)
  simp only [k_X5_change_0, x_push, x_iload, x_lload, x_aload, x_bin, x_div, x_un, x_lbin, x_ldiv, x_lcmp, x_i2l, x_l2i, x_dup, x_pop, x_dup2, x_c1, x_c2, x_null, x_cat1, x_istore, x_astore, x_lstore, x_iinc, x_nol, x_tsw, xsw, x_lsw, xlsw, x_ret, x_zret, x_lret, x_aret, x_vret, x_getI, x_getL, x_getR, x_putI, x_putZ, x_putL, x_iaload, x_zaload, x_aaload, x_iastore, x_zastore, x_alen, x_mm, x_acopy, xpush, xJ, xK, x_cV0, x_cV1, x_cV2, x_cV3, x_cV4, x_cV5, x_cV6, x_cV7, x_cV8, x_cS1, x_cS2, x_cS3, x_cS4, x_cS5, List.getD_cons_zero, List.getD_cons_succ, List.set_cons_zero, List.set_cons_succ, List.length_cons, List.length_nil, Nat.zero_add, true_and, and_true, List.getD_nil, not_true, not_false_eq_true, Int.toNat_natCast, false_implies, true_implies, if_true, if_false, Int.toNat_zero, Int.toNat_one, true_or, or_true, Int.reduceEq, Int.reduceLT, Int.reduceLE, Int.reduceNe, Int.reduceNeg, Int.reduceAdd, Int.reduceSub, Int.reduceMul, Int.reduceToNat, Nat.reduceLT, Nat.reduceLeDiff, Nat.reduceAdd, Nat.reduceEqDiff, Nat.reduceSub, not_false_iff, and_self, implies_true, false_and, and_false, or_self, false_or, or_false, Int.cast_ofNat_Int, Int.natCast_nonneg]
  refine ⟨fun q => s12 (by omega), fun q => ⟨fun q2 => s12 (by omega), fun q2 => ?_⟩⟩
  rw [if_neg (by omega)] at hQ
  exact hQ σ Sm.rf
set_option maxHeartbeats 4000000 in
theorem c5_raise {k w : Int} (hR : CR Γ σ c S) (hQ : ∀ σ', Sm (Scr c) σ σ' → Q (vi (a_raise S k w)) (Γ, σ')) : xRM M_X5_raise (d + 11) (0, 0) [vr c, vi k, vi w] (Γ, σ) Q := by
  refine xRM_of (by decide) (Nat.le_of_ble_eq_true rfl) ?_
  have hW := hR.wok
  obtain ⟨hS, hX, hl, hV, hA, htc, hT⟩ := id hW
  obtain ⟨hC, -, hP, hK, hKr, -⟩ := id hR.1
  have hS2 := hR.1.2.2.2.2.2.2.2.1
  have hnf := hA.1
  have hnc := hA.2.1
  unfold a_raise at hQ
  have s23 : ((0 ≤ k ∧ k < 1000) ∧ (w = 0 ∨ w = 1)) → xR M_X5_raise (d + 11) (0, 0) 23 [vr c, vi k, vi w, vu, vu, vu, vu] [] (Γ, σ) Q := by
    intro hw
    rw [if_pos hw] at hQ
    have loop : ∀ (m f : Nat) (σ1 : Nat → Nat → Int) (p : Int × Int) (v6 : xV), f + m = zF S → Sm (Scr c) σ σ1 → sMx2 (jRa S k) (fun f => (f : Int)) m f p = g_raise S k → xR M_X5_raise (d + 11) (0, 0) 38 [vr c, vi k, vi w, vi p.1, vi p.2, vi (f : Int), v6] [] (Γ, σ1) Q := by
      intro m
      induction m with
      | zero =>
        intro f σ1 p v6 hf e1 e2
        have hV1 := (hR.scr e1).wok.2.2.2.1
        refine b_X5_raise_38 _ _ _ _ ?_
        simp only [k_X5_raise_38, x_push, x_iload, x_lload, x_aload, x_bin, x_div, x_un, x_lbin, x_ldiv, x_lcmp, x_i2l, x_l2i, x_dup, x_pop, x_dup2, x_c1, x_c2, x_null, x_cat1, x_istore, x_astore, x_lstore, x_iinc, x_nol, x_tsw, xsw, x_lsw, xlsw, x_ret, x_zret, x_lret, x_aret, x_vret, x_getI, x_getL, x_getR, x_putI, x_putZ, x_putL, x_iaload, x_zaload, x_aaload, x_iastore, x_zastore, x_alen, x_mm, x_acopy, xpush, xJ, xK, x_cV0, x_cV1, x_cV2, x_cV3, x_cV4, x_cV5, x_cV6, x_cV7, x_cV8, x_cS1, x_cS2, x_cS3, x_cS4, x_cS5, List.getD_cons_zero, List.getD_cons_succ, List.set_cons_zero, List.set_cons_succ, List.length_cons, List.length_nil, Nat.zero_add, true_and, and_true, List.getD_nil, not_true, not_false_eq_true, Int.toNat_natCast, false_implies, true_implies, if_true, if_false, Int.toNat_zero, Int.toNat_one, true_or, or_true, Int.reduceEq, Int.reduceLT, Int.reduceLE, Int.reduceNe, Int.reduceNeg, Int.reduceAdd, Int.reduceSub, Int.reduceMul, Int.reduceToNat, Nat.reduceLT, Nat.reduceLeDiff, Nat.reduceAdd, Nat.reduceEqDiff, Nat.reduceSub, not_false_iff, and_self, implies_true, false_and, and_false, or_self, false_or, or_false, Int.cast_ofNat_Int, Int.natCast_nonneg, SC.f0 hC, SC.f1 hC, SC.f2 hC, SC.f3 hC, SC.f4 hC, SC.f5 hC, SC.f6 hC, SC.f7 hC, SW.f0 hS, SW.f1 hS, SW.f2 hS, SW.f3 hS, SW.f4 hS, SW.f5 hS, SW.f6 hS, SW.f7 hS, SW.f8 hS, SW.f9 hS, SW.l9 hS, SW.a9 hS, SW.e9 hS, SW.f10 hS, SW.l10 hS, SW.a10 hS, SW.e10 hS, SW.f11 hS, SW.l11 hS, SW.a11 hS, SW.e11 hS, SW.f12 hS, SW.l12 hS, SW.a12 hS, SW.e12 hS, SW.f13 hS, SW.l13 hS, SW.a13 hS, SW.e13 hS, SW.f14 hS, SW.l14 hS, SW.a14 hS, SW.e14 hS, SW.f15 hS, SW.l15 hS, SW.a15 hS, SW.e15 hS, hV1.2.2.1, eq_true (show (zF S : Int) ≤ (f : Int) by omega)]
        simp only [sMx2] at e2
        rw [← e2] at hQ
        have key := hQ σ1 e1
        refine ⟨fun q => ?_, fun q => ?_⟩
        · rw [if_neg q] at key; exact key
        · rw [if_pos (Classical.not_not.mp q)] at key; exact key
      | succ m ih =>
        intro f σ1 p v6 hf e1 e2
        have hV1 := (hR.scr e1).wok.2.2.2.1
        refine b_X5_raise_38 _ _ _ _ ?_
        simp only [k_X5_raise_38, x_push, x_iload, x_lload, x_aload, x_bin, x_div, x_un, x_lbin, x_ldiv, x_lcmp, x_i2l, x_l2i, x_dup, x_pop, x_dup2, x_c1, x_c2, x_null, x_cat1, x_istore, x_astore, x_lstore, x_iinc, x_nol, x_tsw, xsw, x_lsw, xlsw, x_ret, x_zret, x_lret, x_aret, x_vret, x_getI, x_getL, x_getR, x_putI, x_putZ, x_putL, x_iaload, x_zaload, x_aaload, x_iastore, x_zastore, x_alen, x_mm, x_acopy, xpush, xJ, xK, x_cV0, x_cV1, x_cV2, x_cV3, x_cV4, x_cV5, x_cV6, x_cV7, x_cV8, x_cS1, x_cS2, x_cS3, x_cS4, x_cS5, List.getD_cons_zero, List.getD_cons_succ, List.set_cons_zero, List.set_cons_succ, List.length_cons, List.length_nil, Nat.zero_add, true_and, and_true, List.getD_nil, not_true, not_false_eq_true, Int.toNat_natCast, false_implies, true_implies, if_true, if_false, Int.toNat_zero, Int.toNat_one, true_or, or_true, Int.reduceEq, Int.reduceLT, Int.reduceLE, Int.reduceNe, Int.reduceNeg, Int.reduceAdd, Int.reduceSub, Int.reduceMul, Int.reduceToNat, Nat.reduceLT, Nat.reduceLeDiff, Nat.reduceAdd, Nat.reduceEqDiff, Nat.reduceSub, not_false_iff, and_self, implies_true, false_and, and_false, or_self, false_or, or_false, Int.cast_ofNat_Int, Int.natCast_nonneg, SC.f0 hC, SC.f1 hC, SC.f2 hC, SC.f3 hC, SC.f4 hC, SC.f5 hC, SC.f6 hC, SC.f7 hC, SW.f0 hS, SW.f1 hS, SW.f2 hS, SW.f3 hS, SW.f4 hS, SW.f5 hS, SW.f6 hS, SW.f7 hS, SW.f8 hS, SW.f9 hS, SW.l9 hS, SW.a9 hS, SW.e9 hS, SW.f10 hS, SW.l10 hS, SW.a10 hS, SW.e10 hS, SW.f11 hS, SW.l11 hS, SW.a11 hS, SW.e11 hS, SW.f12 hS, SW.l12 hS, SW.a12 hS, SW.e12 hS, SW.f13 hS, SW.l13 hS, SW.a13 hS, SW.e13 hS, SW.f14 hS, SW.l14 hS, SW.a14 hS, SW.e14 hS, SW.f15 hS, SW.l15 hS, SW.a15 hS, SW.e15 hS, SW.f0 hS2, SW.f1 hS2, SW.f2 hS2, SW.f3 hS2, SW.f4 hS2, SW.f5 hS2, SW.f6 hS2, SW.f7 hS2, SW.f8 hS2, SW.f9 hS2, SW.l9 hS2, SW.a9 hS2, SW.e9 hS2, SW.f10 hS2, SW.l10 hS2, SW.a10 hS2, SW.e10 hS2, SW.f11 hS2, SW.l11 hS2, SW.a11 hS2, SW.e11 hS2, SW.f12 hS2, SW.l12 hS2, SW.a12 hS2, SW.e12 hS2, SW.f13 hS2, SW.l13 hS2, SW.a13 hS2, SW.e13 hS2, SW.f14 hS2, SW.l14 hS2, SW.a14 hS2, SW.e14 hS2, SW.f15 hS2, SW.l15 hS2, SW.a15 hS2, SW.e15 hS2, hV1.2.2.1, eq_false (show ¬ ((zF S : Int) ≤ (f : Int)) by omega)]
        refine c_become hS2 hS (by omega) hV1 hnf hnc (fun σ3 g1 g2 => ?_)
        have f3 := e1.tr (g1.mono (fun q => RV_Scr2))
        have hV3 := (hR.scr f3).wok.2.2.2.1
        have ea : σ3 (c + 61 + 3) f = zA S 2 f := (hV3.2.2.2.2.1 f (by omega)).2.2.1
        have ba := (hA.2.2.2.2.1 f (by omega)).2.1
        simp only [x_push, x_iload, x_lload, x_aload, x_bin, x_div, x_un, x_lbin, x_ldiv, x_lcmp, x_i2l, x_l2i, x_dup, x_pop, x_dup2, x_c1, x_c2, x_null, x_cat1, x_istore, x_astore, x_lstore, x_iinc, x_nol, x_tsw, xsw, x_lsw, xlsw, x_ret, x_zret, x_lret, x_aret, x_vret, x_getI, x_getL, x_getR, x_putI, x_putZ, x_putL, x_iaload, x_zaload, x_aaload, x_iastore, x_zastore, x_alen, x_mm, x_acopy, xpush, xJ, xK, x_cV0, x_cV1, x_cV2, x_cV3, x_cV4, x_cV5, x_cV6, x_cV7, x_cV8, x_cS1, x_cS2, x_cS3, x_cS4, x_cS5, List.getD_cons_zero, List.getD_cons_succ, List.set_cons_zero, List.set_cons_succ, List.length_cons, List.length_nil, Nat.zero_add, true_and, and_true, List.getD_nil, not_true, not_false_eq_true, Int.toNat_natCast, false_implies, true_implies, if_true, if_false, Int.toNat_zero, Int.toNat_one, true_or, or_true, Int.reduceEq, Int.reduceLT, Int.reduceLE, Int.reduceNe, Int.reduceNeg, Int.reduceAdd, Int.reduceSub, Int.reduceMul, Int.reduceToNat, Nat.reduceLT, Nat.reduceLeDiff, Nat.reduceAdd, Nat.reduceEqDiff, Nat.reduceSub, not_false_iff, and_self, implies_true, false_and, and_false, or_self, false_or, or_false, Int.cast_ofNat_Int, Int.natCast_nonneg, SC.f0 hC, SC.f1 hC, SC.f2 hC, SC.f3 hC, SC.f4 hC, SC.f5 hC, SC.f6 hC, SC.f7 hC, SW.f0 hS, SW.f1 hS, SW.f2 hS, SW.f3 hS, SW.f4 hS, SW.f5 hS, SW.f6 hS, SW.f7 hS, SW.f8 hS, SW.f9 hS, SW.l9 hS, SW.a9 hS, SW.e9 hS, SW.f10 hS, SW.l10 hS, SW.a10 hS, SW.e10 hS, SW.f11 hS, SW.l11 hS, SW.a11 hS, SW.e11 hS, SW.f12 hS, SW.l12 hS, SW.a12 hS, SW.e12 hS, SW.f13 hS, SW.l13 hS, SW.a13 hS, SW.e13 hS, SW.f14 hS, SW.l14 hS, SW.a14 hS, SW.e14 hS, SW.f15 hS, SW.l15 hS, SW.a15 hS, SW.e15 hS, SW.f0 hS2, SW.f1 hS2, SW.f2 hS2, SW.f3 hS2, SW.f4 hS2, SW.f5 hS2, SW.f6 hS2, SW.f7 hS2, SW.f8 hS2, SW.f9 hS2, SW.l9 hS2, SW.a9 hS2, SW.e9 hS2, SW.f10 hS2, SW.l10 hS2, SW.a10 hS2, SW.e10 hS2, SW.f11 hS2, SW.l11 hS2, SW.a11 hS2, SW.e11 hS2, SW.f12 hS2, SW.l12 hS2, SW.a12 hS2, SW.e12 hS2, SW.f13 hS2, SW.l13 hS2, SW.a13 hS2, SW.e13 hS2, SW.f14 hS2, SW.l14 hS2, SW.a14 hS2, SW.e14 hS2, SW.f15 hS2, SW.l15 hS2, SW.a15 hS2, SW.e15 hS2, ea, eq_true (show (f : Int) < 6 by omega), (show oadd (zA S 2 f) k = zA S 2 f + k by (first | rw [oadd_id (by omega) (by omega)] | rw [osub_id (by omega) (by omega)] | rw [omul_id (by omega) (by omega)]) <;> omega)]
        have f4 : Sm (Scr c) σ (upd2 σ3 (c + 69 + 3) f (min (zA S 2 f + k) 999)) := f3.put (in_69 (by omega))
        have hV4 : WV (upd2 σ3 (c + 69 + 3) f (min (zA S 2 f + k) 999)) (c + 69) (zF S) (zC S) (upd2 (zA S) 2 f (min (zA S 2 f + k) 999)) := g2.p2
        refine c_gladdest hR.1 (Or.inr rfl) (hR.wokW f4 hV4 (hA.mean (by omega) (by omega))) (fun σ5 k1 k2 k3 k4 k5 => ?_)
        simp only [x_push, x_iload, x_lload, x_aload, x_bin, x_div, x_un, x_lbin, x_ldiv, x_lcmp, x_i2l, x_l2i, x_dup, x_pop, x_dup2, x_c1, x_c2, x_null, x_cat1, x_istore, x_astore, x_lstore, x_iinc, x_nol, x_tsw, xsw, x_lsw, xlsw, x_ret, x_zret, x_lret, x_aret, x_vret, x_getI, x_getL, x_getR, x_putI, x_putZ, x_putL, x_iaload, x_zaload, x_aaload, x_iastore, x_zastore, x_alen, x_mm, x_acopy, xpush, xJ, xK, x_cV0, x_cV1, x_cV2, x_cV3, x_cV4, x_cV5, x_cV6, x_cV7, x_cV8, x_cS1, x_cS2, x_cS3, x_cS4, x_cS5, List.getD_cons_zero, List.getD_cons_succ, List.set_cons_zero, List.set_cons_succ, List.length_cons, List.length_nil, Nat.zero_add, true_and, and_true, List.getD_nil, not_true, not_false_eq_true, Int.toNat_natCast, false_implies, true_implies, if_true, if_false, Int.toNat_zero, Int.toNat_one, true_or, or_true, Int.reduceEq, Int.reduceLT, Int.reduceLE, Int.reduceNe, Int.reduceNeg, Int.reduceAdd, Int.reduceSub, Int.reduceMul, Int.reduceToNat, Nat.reduceLT, Nat.reduceLeDiff, Nat.reduceAdd, Nat.reduceEqDiff, Nat.reduceSub, not_false_iff, and_self, implies_true, false_and, and_false, or_self, false_or, or_false, Int.cast_ofNat_Int, Int.natCast_nonneg]
        have eJ : (jB (zE S) (upd2 (zA S) 2 f (min (zA S 2 f + k) 999)) (zF S) (zC S)).1 = jRa S k f := rfl
        rw [eJ]
        simp only [sMx2] at e2
        refine ⟨fun q => ?_, fun q => ?_⟩
        · rw [if_neg (by omega)] at e2
          rw [oadd_id (by omega) (by omega)]
          exact ih (f + 1) σ5 p _ (by omega) (f4.tr k1) e2
        · rw [if_pos (by omega)] at e2
          rw [oadd_id (by omega) (by omega)]
          exact ih (f + 1) σ5 (jRa S k f, (f : Int)) _ (by omega) (f4.tr k1) e2
    refine b_X5_raise_23 _ _ _ _ ?_
    simp only [k_X5_raise_23, x_push, x_iload, x_lload, x_aload, x_bin, x_div, x_un, x_lbin, x_ldiv, x_lcmp, x_i2l, x_l2i, x_dup, x_pop, x_dup2, x_c1, x_c2, x_null, x_cat1, x_istore, x_astore, x_lstore, x_iinc, x_nol, x_tsw, xsw, x_lsw, xlsw, x_ret, x_zret, x_lret, x_aret, x_vret, x_getI, x_getL, x_getR, x_putI, x_putZ, x_putL, x_iaload, x_zaload, x_aaload, x_iastore, x_zastore, x_alen, x_mm, x_acopy, xpush, xJ, xK, x_cV0, x_cV1, x_cV2, x_cV3, x_cV4, x_cV5, x_cV6, x_cV7, x_cV8, x_cS1, x_cS2, x_cS3, x_cS4, x_cS5, List.getD_cons_zero, List.getD_cons_succ, List.set_cons_zero, List.set_cons_succ, List.length_cons, List.length_nil, Nat.zero_add, true_and, and_true, List.getD_nil, not_true, not_false_eq_true, Int.toNat_natCast, false_implies, true_implies, if_true, if_false, Int.toNat_zero, Int.toNat_one, true_or, or_true, Int.reduceEq, Int.reduceLT, Int.reduceLE, Int.reduceNe, Int.reduceNeg, Int.reduceAdd, Int.reduceSub, Int.reduceMul, Int.reduceToNat, Nat.reduceLT, Nat.reduceLeDiff, Nat.reduceAdd, Nat.reduceEqDiff, Nat.reduceSub, not_false_iff, and_self, implies_true, false_and, and_false, or_self, false_or, or_false, Int.cast_ofNat_Int, Int.natCast_nonneg, SC.f0 hC, SC.f1 hC, SC.f2 hC, SC.f3 hC, SC.f4 hC, SC.f5 hC, SC.f6 hC, SC.f7 hC]
    refine c_gladdest hR.1 (Or.inl rfl) hW (fun σ1 e1 e2 e3 e4 e5 => ?_)
    simp only [x_push, x_iload, x_lload, x_aload, x_bin, x_div, x_un, x_lbin, x_ldiv, x_lcmp, x_i2l, x_l2i, x_dup, x_pop, x_dup2, x_c1, x_c2, x_null, x_cat1, x_istore, x_astore, x_lstore, x_iinc, x_nol, x_tsw, xsw, x_lsw, xlsw, x_ret, x_zret, x_lret, x_aret, x_vret, x_getI, x_getL, x_getR, x_putI, x_putZ, x_putL, x_iaload, x_zaload, x_aaload, x_iastore, x_zastore, x_alen, x_mm, x_acopy, xpush, xJ, xK, x_cV0, x_cV1, x_cV2, x_cV3, x_cV4, x_cV5, x_cV6, x_cV7, x_cV8, x_cS1, x_cS2, x_cS3, x_cS4, x_cS5, List.getD_cons_zero, List.getD_cons_succ, List.set_cons_zero, List.set_cons_succ, List.length_cons, List.length_nil, Nat.zero_add, true_and, and_true, List.getD_nil, not_true, not_false_eq_true, Int.toNat_natCast, false_implies, true_implies, if_true, if_false, Int.toNat_zero, Int.toNat_one, true_or, or_true, Int.reduceEq, Int.reduceLT, Int.reduceLE, Int.reduceNe, Int.reduceNeg, Int.reduceAdd, Int.reduceSub, Int.reduceMul, Int.reduceToNat, Nat.reduceLT, Nat.reduceLeDiff, Nat.reduceAdd, Nat.reduceEqDiff, Nat.reduceSub, not_false_iff, and_self, implies_true, false_and, and_false, or_self, false_or, or_false, Int.cast_ofNat_Int, Int.natCast_nonneg]
    exact loop (zF S) 0 σ1 ((jB (zE S) (zA S) (zF S) (zC S)).1, -1) vu (by omega) e1 rfl
  have bad : ¬ ((0 ≤ k ∧ k < 1000) ∧ (w = 0 ∨ w = 1)) → Q (vi (-100000)) (Γ, σ) := fun z => by
    rw [if_neg z] at hQ
    exact hQ σ Sm.rf
  refine b_X5_raise_0 _ _ _ _ ?_
  show k_X5_raise_0 (d + 10) Q (0, 0) [vr c, vi k, vi w, vu, vu, vu, vu] [] (Γ, σ)
  simp only [k_X5_raise_0, x_push, x_iload, x_lload, x_aload, x_bin, x_div, x_un, x_lbin, x_ldiv, x_lcmp, x_i2l, x_l2i, x_dup, x_pop, x_dup2, x_c1, x_c2, x_null, x_cat1, x_istore, x_astore, x_lstore, x_iinc, x_nol, x_tsw, xsw, x_lsw, xlsw, x_ret, x_zret, x_lret, x_aret, x_vret, x_getI, x_getL, x_getR, x_putI, x_putZ, x_putL, x_iaload, x_zaload, x_aaload, x_iastore, x_zastore, x_alen, x_mm, x_acopy, xpush, xJ, xK, x_cV0, x_cV1, x_cV2, x_cV3, x_cV4, x_cV5, x_cV6, x_cV7, x_cV8, x_cS1, x_cS2, x_cS3, x_cS4, x_cS5, List.getD_cons_zero, List.getD_cons_succ, List.set_cons_zero, List.set_cons_succ, List.length_cons, List.length_nil, Nat.zero_add, true_and, and_true, List.getD_nil, not_true, not_false_eq_true, Int.toNat_natCast, false_implies, true_implies, if_true, if_false, Int.toNat_zero, Int.toNat_one, true_or, or_true, Int.reduceEq, Int.reduceLT, Int.reduceLE, Int.reduceNe, Int.reduceNeg, Int.reduceAdd, Int.reduceSub, Int.reduceMul, Int.reduceToNat, Nat.reduceLT, Nat.reduceLeDiff, Nat.reduceAdd, Nat.reduceEqDiff, Nat.reduceSub, not_false_iff, and_self, implies_true, false_and, and_false, or_self, false_or, or_false, Int.cast_ofNat_Int, Int.natCast_nonneg]
  exact ⟨fun q => bad (by omega), fun q => ⟨fun q2 => bad (by omega), fun q2 => ⟨fun q3 => s23 (by omega), fun q3 => ⟨fun q4 => s23 (by omega), fun q4 => bad (by omega)⟩⟩⟩⟩
set_option maxHeartbeats 4000000 in
theorem c5_dear {w : Int} (hR : CR Γ σ c S) (hQ : ∀ σ', Sm (Scr c) σ σ' → Q (vi (a_dear S w)) (Γ, σ')) : xRM M_X5_dear (d + 11) (0, 0) [vr c, vi w] (Γ, σ) Q := by
  refine xRM_of (by decide) (Nat.le_of_ble_eq_true rfl) ?_
  have hW := hR.wok
  obtain ⟨hS, hX, hl, hV, hA, htc, hT⟩ := id hW
  obtain ⟨hC, -, hP, hK, hKr, -⟩ := id hR.1
  have hS2 := hR.1.2.2.2.2.2.2.2.1
  have hnf := hA.1
  have hnc := hA.2.1
  unfold a_dear at hQ
  have loop : (w = 0 ∨ w = 1) → ∀ (m r : Nat) (σ1 : Nat → Nat → Int) (p : Int × Int) (v5 : xV), r + m = 10 → 1 ≤ r → Sm (Scr c) σ σ1 → sMx2 (iRt S) (fun f => (f : Int)) m r p = g_dear S → xR M_X5_dear (d + 11) (0, 0) 19 [vr c, vi w, vi p.1, vi p.2, vi (r : Int), v5] [] (Γ, σ1) Q := by
    intro hw m
    rw [if_pos hw] at hQ
    induction m with
    | zero =>
      intro r σ1 p v5 hr hr1 e1 e2
      refine b_X5_dear_19 _ _ _ _ ?_
      simp only [k_X5_dear_19, x_push, x_iload, x_lload, x_aload, x_bin, x_div, x_un, x_lbin, x_ldiv, x_lcmp, x_i2l, x_l2i, x_dup, x_pop, x_dup2, x_c1, x_c2, x_null, x_cat1, x_istore, x_astore, x_lstore, x_iinc, x_nol, x_tsw, xsw, x_lsw, xlsw, x_ret, x_zret, x_lret, x_aret, x_vret, x_getI, x_getL, x_getR, x_putI, x_putZ, x_putL, x_iaload, x_zaload, x_aaload, x_iastore, x_zastore, x_alen, x_mm, x_acopy, xpush, xJ, xK, x_cV0, x_cV1, x_cV2, x_cV3, x_cV4, x_cV5, x_cV6, x_cV7, x_cV8, x_cS1, x_cS2, x_cS3, x_cS4, x_cS5, List.getD_cons_zero, List.getD_cons_succ, List.set_cons_zero, List.set_cons_succ, List.length_cons, List.length_nil, Nat.zero_add, true_and, and_true, List.getD_nil, not_true, not_false_eq_true, Int.toNat_natCast, false_implies, true_implies, if_true, if_false, Int.toNat_zero, Int.toNat_one, true_or, or_true, Int.reduceEq, Int.reduceLT, Int.reduceLE, Int.reduceNe, Int.reduceNeg, Int.reduceAdd, Int.reduceSub, Int.reduceMul, Int.reduceToNat, Nat.reduceLT, Nat.reduceLeDiff, Nat.reduceAdd, Nat.reduceEqDiff, Nat.reduceSub, not_false_iff, and_self, implies_true, false_and, and_false, or_self, false_or, or_false, Int.cast_ofNat_Int, Int.natCast_nonneg, eq_true (show (10 : Int) ≤ (r : Int) by omega)]
      simp only [sMx2] at e2
      rw [← e2] at hQ
      have key := hQ σ1 e1
      refine ⟨fun q => ?_, fun q => ?_⟩
      · rw [if_neg q] at key; exact key
      · rw [if_pos (Classical.not_not.mp q)] at key; exact key
    | succ m ih =>
      intro r σ1 p v5 hr hr1 e1 e2
      have hV1 := (hR.scr e1).wok.2.2.2.1
      refine b_X5_dear_19 _ _ _ _ ?_
      simp only [k_X5_dear_19, x_push, x_iload, x_lload, x_aload, x_bin, x_div, x_un, x_lbin, x_ldiv, x_lcmp, x_i2l, x_l2i, x_dup, x_pop, x_dup2, x_c1, x_c2, x_null, x_cat1, x_istore, x_astore, x_lstore, x_iinc, x_nol, x_tsw, xsw, x_lsw, xlsw, x_ret, x_zret, x_lret, x_aret, x_vret, x_getI, x_getL, x_getR, x_putI, x_putZ, x_putL, x_iaload, x_zaload, x_aaload, x_iastore, x_zastore, x_alen, x_mm, x_acopy, xpush, xJ, xK, x_cV0, x_cV1, x_cV2, x_cV3, x_cV4, x_cV5, x_cV6, x_cV7, x_cV8, x_cS1, x_cS2, x_cS3, x_cS4, x_cS5, List.getD_cons_zero, List.getD_cons_succ, List.set_cons_zero, List.set_cons_succ, List.length_cons, List.length_nil, Nat.zero_add, true_and, and_true, List.getD_nil, not_true, not_false_eq_true, Int.toNat_natCast, false_implies, true_implies, if_true, if_false, Int.toNat_zero, Int.toNat_one, true_or, or_true, Int.reduceEq, Int.reduceLT, Int.reduceLE, Int.reduceNe, Int.reduceNeg, Int.reduceAdd, Int.reduceSub, Int.reduceMul, Int.reduceToNat, Nat.reduceLT, Nat.reduceLeDiff, Nat.reduceAdd, Nat.reduceEqDiff, Nat.reduceSub, not_false_iff, and_self, implies_true, false_and, and_false, or_self, false_or, or_false, Int.cast_ofNat_Int, Int.natCast_nonneg, SC.f0 hC, SC.f1 hC, SC.f2 hC, SC.f3 hC, SC.f4 hC, SC.f5 hC, SC.f6 hC, SC.f7 hC, SW.f0 hS2, SW.f1 hS2, SW.f2 hS2, SW.f3 hS2, SW.f4 hS2, SW.f5 hS2, SW.f6 hS2, SW.f7 hS2, SW.f8 hS2, SW.f9 hS2, SW.l9 hS2, SW.a9 hS2, SW.e9 hS2, SW.f10 hS2, SW.l10 hS2, SW.a10 hS2, SW.e10 hS2, SW.f11 hS2, SW.l11 hS2, SW.a11 hS2, SW.e11 hS2, SW.f12 hS2, SW.l12 hS2, SW.a12 hS2, SW.e12 hS2, SW.f13 hS2, SW.l13 hS2, SW.a13 hS2, SW.e13 hS2, SW.f14 hS2, SW.l14 hS2, SW.a14 hS2, SW.e14 hS2, SW.f15 hS2, SW.l15 hS2, SW.a15 hS2, SW.e15 hS2, eq_false (show ¬ ((10 : Int) ≤ (r : Int)) by omega)]
      refine c_become hS2 hS (by omega) hV1 hnf hnc (fun σ3 g1 g2 => ?_)
      have f3 := e1.tr (g1.mono (fun q => RV_Scr2))
      simp only [x_push, x_iload, x_lload, x_aload, x_bin, x_div, x_un, x_lbin, x_ldiv, x_lcmp, x_i2l, x_l2i, x_dup, x_pop, x_dup2, x_c1, x_c2, x_null, x_cat1, x_istore, x_astore, x_lstore, x_iinc, x_nol, x_tsw, xsw, x_lsw, xlsw, x_ret, x_zret, x_lret, x_aret, x_vret, x_getI, x_getL, x_getR, x_putI, x_putZ, x_putL, x_iaload, x_zaload, x_aaload, x_iastore, x_zastore, x_alen, x_mm, x_acopy, xpush, xJ, xK, x_cV0, x_cV1, x_cV2, x_cV3, x_cV4, x_cV5, x_cV6, x_cV7, x_cV8, x_cS1, x_cS2, x_cS3, x_cS4, x_cS5, List.getD_cons_zero, List.getD_cons_succ, List.set_cons_zero, List.set_cons_succ, List.length_cons, List.length_nil, Nat.zero_add, true_and, and_true, List.getD_nil, not_true, not_false_eq_true, Int.toNat_natCast, false_implies, true_implies, if_true, if_false, Int.toNat_zero, Int.toNat_one, true_or, or_true, Int.reduceEq, Int.reduceLT, Int.reduceLE, Int.reduceNe, Int.reduceNeg, Int.reduceAdd, Int.reduceSub, Int.reduceMul, Int.reduceToNat, Nat.reduceLT, Nat.reduceLeDiff, Nat.reduceAdd, Nat.reduceEqDiff, Nat.reduceSub, not_false_iff, and_self, implies_true, false_and, and_false, or_self, false_or, or_false, Int.cast_ofNat_Int, Int.natCast_nonneg, SC.f0 hC, SC.f1 hC, SC.f2 hC, SC.f3 hC, SC.f4 hC, SC.f5 hC, SC.f6 hC, SC.f7 hC, SW.f0 hS2, SW.f1 hS2, SW.f2 hS2, SW.f3 hS2, SW.f4 hS2, SW.f5 hS2, SW.f6 hS2, SW.f7 hS2, SW.f8 hS2, SW.f9 hS2, SW.l9 hS2, SW.a9 hS2, SW.e9 hS2, SW.f10 hS2, SW.l10 hS2, SW.a10 hS2, SW.e10 hS2, SW.f11 hS2, SW.l11 hS2, SW.a11 hS2, SW.e11 hS2, SW.f12 hS2, SW.l12 hS2, SW.a12 hS2, SW.e12 hS2, SW.f13 hS2, SW.l13 hS2, SW.a13 hS2, SW.e13 hS2, SW.f14 hS2, SW.l14 hS2, SW.a14 hS2, SW.e14 hS2, SW.f15 hS2, SW.l15 hS2, SW.a15 hS2, SW.e15 hS2, SK.f0 hK, SK.f1 hK, SK.f2 hK, SK.f3 hK, SK.f4 hK, SK.f5 hK, SK.f6 hK, SK.f7 hK, SK.f8 hK, SK.f9 hK, SK.l9 hK, SK.a9 hK, SK.e9 hK, SK.f10 hK, SK.l10 hK, SK.a10 hK, SK.e10 hK, SK.f11 hK, SK.l11 hK, SK.a11 hK, SK.e11 hK, SK.f12 hK, SK.l12 hK, SK.a12 hK, SK.e12 hK, SK.f13 hK, SK.l13 hK, SK.a13 hK, SK.e13 hK, SK.f14 hK, SK.l14 hK, SK.a14 hK, SK.f15 hK, SK.l15 hK, SK.a15 hK, SK.f16 hK, SK.l16 hK, SK.a16 hK]
      have f4 : Sm (Scr c) σ (upd2 σ3 (c + 69) 1 (r : Int)) := f3.put (in_69 (j := 0) (by omega))
      have hV4 : WV (upd2 σ3 (c + 69) 1 (r : Int)) (c + 69) (zF S) (zC S) (upd2 (zA S) 0 0 (r : Int)) := g2.rate
      have hA4 : AI (zF S) (zC S) (zT S) (upd2 (zA S) 0 0 (r : Int)) := hA.rate (by omega) (by omega)
      refine c_look hK hKr (by omega) (hR.wokW f4 hV4 hA4) (fun σ4 h1 h2 => ?_)
      simp only [x_push, x_iload, x_lload, x_aload, x_bin, x_div, x_un, x_lbin, x_ldiv, x_lcmp, x_i2l, x_l2i, x_dup, x_pop, x_dup2, x_c1, x_c2, x_null, x_cat1, x_istore, x_astore, x_lstore, x_iinc, x_nol, x_tsw, xsw, x_lsw, xlsw, x_ret, x_zret, x_lret, x_aret, x_vret, x_getI, x_getL, x_getR, x_putI, x_putZ, x_putL, x_iaload, x_zaload, x_aaload, x_iastore, x_zastore, x_alen, x_mm, x_acopy, xpush, xJ, xK, x_cV0, x_cV1, x_cV2, x_cV3, x_cV4, x_cV5, x_cV6, x_cV7, x_cV8, x_cS1, x_cS2, x_cS3, x_cS4, x_cS5, List.getD_cons_zero, List.getD_cons_succ, List.set_cons_zero, List.set_cons_succ, List.length_cons, List.length_nil, Nat.zero_add, true_and, and_true, List.getD_nil, not_true, not_false_eq_true, Int.toNat_natCast, false_implies, true_implies, if_true, if_false, Int.toNat_zero, Int.toNat_one, true_or, or_true, Int.reduceEq, Int.reduceLT, Int.reduceLE, Int.reduceNe, Int.reduceNeg, Int.reduceAdd, Int.reduceSub, Int.reduceMul, Int.reduceToNat, Nat.reduceLT, Nat.reduceLeDiff, Nat.reduceAdd, Nat.reduceEqDiff, Nat.reduceSub, not_false_iff, and_self, implies_true, false_and, and_false, or_self, false_or, or_false, Int.cast_ofNat_Int, Int.natCast_nonneg, SC.f0 hC, SC.f1 hC, SC.f2 hC, SC.f3 hC, SC.f4 hC, SC.f5 hC, SC.f6 hC, SC.f7 hC, SK.f0 hK, SK.f1 hK, SK.f2 hK, SK.f3 hK, SK.f4 hK, SK.f5 hK, SK.f6 hK, SK.f7 hK, SK.f8 hK, SK.f9 hK, SK.l9 hK, SK.a9 hK, SK.e9 hK, SK.f10 hK, SK.l10 hK, SK.a10 hK, SK.e10 hK, SK.f11 hK, SK.l11 hK, SK.a11 hK, SK.e11 hK, SK.f12 hK, SK.l12 hK, SK.a12 hK, SK.e12 hK, SK.f13 hK, SK.l13 hK, SK.a13 hK, SK.e13 hK, SK.f14 hK, SK.l14 hK, SK.a14 hK, SK.f15 hK, SK.l15 hK, SK.a15 hK, SK.f16 hK, SK.l16 hK, SK.a16 hK]
      refine c_bestOf (d := d + 1) (mask := 63) (ct' := tCt (zE S) (upd2 (zA S) 0 0 (r : Int)) (zC S)) hK hKr hA4 (KT2_of h2) (by decide) (fun k hk f hf => ctm_63 (by omega)) (Or.inr ⟨rfl, rfl⟩) (fun σ5 k1 k2 k3 k4 k5 k6 k7 => ?_)
      simp only [x_push, x_iload, x_lload, x_aload, x_bin, x_div, x_un, x_lbin, x_ldiv, x_lcmp, x_i2l, x_l2i, x_dup, x_pop, x_dup2, x_c1, x_c2, x_null, x_cat1, x_istore, x_astore, x_lstore, x_iinc, x_nol, x_tsw, xsw, x_lsw, xlsw, x_ret, x_zret, x_lret, x_aret, x_vret, x_getI, x_getL, x_getR, x_putI, x_putZ, x_putL, x_iaload, x_zaload, x_aaload, x_iastore, x_zastore, x_alen, x_mm, x_acopy, xpush, xJ, xK, x_cV0, x_cV1, x_cV2, x_cV3, x_cV4, x_cV5, x_cV6, x_cV7, x_cV8, x_cS1, x_cS2, x_cS3, x_cS4, x_cS5, List.getD_cons_zero, List.getD_cons_succ, List.set_cons_zero, List.set_cons_succ, List.length_cons, List.length_nil, Nat.zero_add, true_and, and_true, List.getD_nil, not_true, not_false_eq_true, Int.toNat_natCast, false_implies, true_implies, if_true, if_false, Int.toNat_zero, Int.toNat_one, true_or, or_true, Int.reduceEq, Int.reduceLT, Int.reduceLE, Int.reduceNe, Int.reduceNeg, Int.reduceAdd, Int.reduceSub, Int.reduceMul, Int.reduceToNat, Nat.reduceLT, Nat.reduceLeDiff, Nat.reduceAdd, Nat.reduceEqDiff, Nat.reduceSub, not_false_iff, and_self, implies_true, false_and, and_false, or_self, false_or, or_false, Int.cast_ofNat_Int, Int.natCast_nonneg]
      have eJ : (sBest (tCt (zE S) (upd2 (zA S) 0 0 (r : Int)) (zC S)) (tIc (zE S) (upd2 (zA S) 0 0 (r : Int)) (zC S)) (zF S) (zC S) (upd2 (zA S) 0 0 (r : Int) 2)).1 = iRt S r := rfl
      rw [eJ]
      have f5 := (f4.tr (h1.mono (fun q => RLk_Scr2))).tr k1
      simp only [sMx2] at e2
      refine ⟨fun q => ?_, fun q => ?_⟩
      · rw [if_neg (by omega)] at e2
        rw [oadd_id (by omega) (by omega)]
        exact ih (r + 1) σ5 p _ (by omega) (by omega) f5 e2
      · rw [if_pos (by omega)] at e2
        rw [oadd_id (by omega) (by omega)]
        exact ih (r + 1) σ5 (iRt S r, (r : Int)) _ (by omega) (by omega) f5 e2
  refine b_X5_dear_0 _ _ _ _ ?_
  show k_X5_dear_0 (d + 10) Q (0, 0) [vr c, vi w, vu, vu, vu, vu] [] (Γ, σ)
  simp only [k_X5_dear_0, x_push, x_iload, x_lload, x_aload, x_bin, x_div, x_un, x_lbin, x_ldiv, x_lcmp, x_i2l, x_l2i, x_dup, x_pop, x_dup2, x_c1, x_c2, x_null, x_cat1, x_istore, x_astore, x_lstore, x_iinc, x_nol, x_tsw, xsw, x_lsw, xlsw, x_ret, x_zret, x_lret, x_aret, x_vret, x_getI, x_getL, x_getR, x_putI, x_putZ, x_putL, x_iaload, x_zaload, x_aaload, x_iastore, x_zastore, x_alen, x_mm, x_acopy, xpush, xJ, xK, x_cV0, x_cV1, x_cV2, x_cV3, x_cV4, x_cV5, x_cV6, x_cV7, x_cV8, x_cS1, x_cS2, x_cS3, x_cS4, x_cS5, List.getD_cons_zero, List.getD_cons_succ, List.set_cons_zero, List.set_cons_succ, List.length_cons, List.length_nil, Nat.zero_add, true_and, and_true, List.getD_nil, not_true, not_false_eq_true, Int.toNat_natCast, false_implies, true_implies, if_true, if_false, Int.toNat_zero, Int.toNat_one, true_or, or_true, Int.reduceEq, Int.reduceLT, Int.reduceLE, Int.reduceNe, Int.reduceNeg, Int.reduceAdd, Int.reduceSub, Int.reduceMul, Int.reduceToNat, Nat.reduceLT, Nat.reduceLeDiff, Nat.reduceAdd, Nat.reduceEqDiff, Nat.reduceSub, not_false_iff, and_self, implies_true, false_and, and_false, or_self, false_or, or_false, Int.cast_ofNat_Int, Int.natCast_nonneg]
  refine ⟨fun q => loop (by omega) 9 1 σ (-1, 1) vu (by omega) (by omega) Sm.rf rfl, fun q => ⟨fun q2 => loop (by omega) 9 1 σ (-1, 1) vu (by omega) (by omega) Sm.rf rfl, fun q2 => ?_⟩⟩
  rw [if_neg (by omega)] at hQ
  exact hQ σ Sm.rf
end Cls
