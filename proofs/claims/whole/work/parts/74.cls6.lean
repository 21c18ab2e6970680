/-! ===== the class's calls: showing, few, missed ===== -/
/-- the gladdest, the richest showing -/
noncomputable def jB (E : Nat → Nat → List Int) (A : Nat → Nat → Int) (nf nc : Nat) : Int × List Int := sBest (tCt E A nc) (sGlad E A nc) nf nc (A 2)
noncomputable def iB (E : Nat → Nat → List Int) (A : Nat → Nat → Int) (nf nc : Nat) : Int × List Int := sBest (tCt E A nc) (tIc E A nc) nf nc (A 2)
/-- the keeper's plain way -/
noncomputable def pW (E : Nat → Nat → List Int) (A : Nat → Nat → Int) (nf nc : Nat) : Nat → Int := sPlain (A 5) (tCt E A nc) nf nc 0 (A 2) (fun _ => 0)
noncomputable def zSh (S : xSt) (how : Int) : Nat → Int := if how = 2 then pW (zE S) (zA S) (zF S) (zC S) else fun k => (if how = 0 then jB (zE S) (zA S) (zF S) (zC S) else iB (zE S) (zA S) (zF S) (zC S)).2.getD k 0
noncomputable def a_showing (S : xSt) (how w : Int) : Int := if (0 ≤ how ∧ how ≤ 2) ∧ 0 ≤ w ∧ w ≤ 2 then (if w = 0 then sDig (zSh S how) (zC S) else if w = 1 then (zPl S (zSh S how)).2.1 else (zPl S (zSh S how)).2.2.1) else -100000
noncomputable def zFew (S : xSt) : Nat := sFew (tCt (zE S) (zA S) (zC S)) (sGlad (zE S) (zA S) (zC S)) (jB (zE S) (zA S) (zF S) (zC S)).1 (zF S) (zC S) (zA S 2)
noncomputable def a_few (S : xSt) (w : Int) : Int := if w = 0 ∨ w = 1 then (if w = 0 then (zFew S : Int) else sBits (zFew S)) else -2
/-- without figure f -/
def ctx (f : Nat) (ct : Nat → Nat → Int) : Nat → Nat → Int := fun c g => if g = f then -1 else ct c g
noncomputable def jW (E : Nat → Nat → List Int) (A : Nat → Nat → Int) (nf nc f : Nat) : Int := (sBest (ctx f (tCt E A nc)) (sGlad E A nc) nf nc (A 2)).1
/-- the least of v 0 .., the first such (-1: none yet) -/
def sMin (v : Nat → Int) (p : Int × Int) : Nat → Int × Int
  | 0 => p
  | n + 1 => if (sMin v p n).2 = -1 ∨ v n < (sMin v p n).1 then (v n, (n : Int)) else sMin v p n
noncomputable def a_missed (S : xSt) (w : Int) : Int := if w = 0 ∨ w = 1 then (if w = 0 then (sMin (jW (zE S) (zA S) (zF S) (zC S)) ((jB (zE S) (zA S) (zF S) (zC S)).1, -1) (zF S)).2 else (sMin (jW (zE S) (zA S) (zF S) (zC S)) ((jB (zE S) (zA S) (zF S) (zC S)).1, -1) (zF S)).1) else -100000
theorem mask_all : ∀ f : Fin 6, (Int32.ofInt 63 &&& Int32.ofInt ((Int32.ofInt ((Int32.ofInt 1 <<< (Int32.ofInt (f.val : Int) &&& 31)).toInt) ^^^ Int32.ofInt (-1)).toInt)).toInt = ((63 - 2 ^ f.val : Nat) : Int) ∧ 63 - 2 ^ f.val < 64 ∧ ∀ g : Fin 6, xbit ((63 - 2 ^ f.val : Nat) : Int) g.val = (if g.val = f.val then 0 else 1) := by decide +kernel
theorem mask_o {f : Nat} (h : f < 6) : oand 63 (oxor (oshl 1 (f : Int)) (-1)) = ((63 - 2 ^ f : Nat) : Int) := by
  rw [oand_def, oxor_def, oshl_def]
  exact (mask_all ⟨f, h⟩).1
theorem ctm_ctx {f c g : Nat} {ct : Nat → Nat → Int} (h : f < 6) (hg : g < 6) : ctm (63 - 2 ^ f) ct c g = ctx f ct c g := by
  have := (mask_all ⟨f, h⟩).2.2 ⟨g, hg⟩
  unfold ctm ctx
  rw [show xbit ((63 - 2 ^ f : Nat) : Int) g = if g = f then 0 else 1 from this]
  by_cases e : g = f
  · rw [if_pos e, if_pos e]; rfl
  · rw [if_neg e, if_neg e]; rfl
section Cls
variable {Γ : xSh} {σ : Nat → Nat → Int} {c d : Nat} {S : xSt} {Q : xV → xMem → Prop}
/-- what looking and searching may write -/
theorem RB_Scr {q : Nat} (h : RB (c + 4) q) : Scr c q := by
  unfold RB RS at h
  exact Or.inl (by omega)
theorem KT2.best {σ' : Nat → Nat → Int} {k nf nc : Nat} {ct jo ic : Nat → Nat → Int} {me : Nat → Int} (h : KT2 σ k nf nc ct jo ic me) (hs : Sm (RB k) σ σ') (h8 : ∀ j, j ≠ 10 → j ≠ 11 → σ' k j = σ k j) (hnc : nc ≤ 5) : KT2 σ' k nf nc ct jo ic me := by
  obtain ⟨h1, h2, h3, h4⟩ := h
  have ne : ∀ q, k < q → q < k + 20 → σ' q = σ q := fun q a b => hs q (fun z => by unfold RB RS at z; omega)
  refine ⟨by rw [h8 8 (by decide) (by decide)]; exact h1, by rw [h8 9 (by decide) (by decide)]; exact h2, fun f hf => by rw [ne (k + 19) (by omega) (by omega)]; exact h3 f hf, fun c hc f hf => ?_⟩
  rw [ne (k + 2 + c) (by omega) (by omega), ne (k + 8 + c) (by omega) (by omega), ne (k + 14 + c) (by omega) (by omega)]
  exact h4 c hc f hf
set_option maxHeartbeats 2000000 in
/-- showBest of joy or income, mask in words of the tables -/
theorem c_bestOf {nf nc tc g mask : Nat} {A : Nat → Nat → Int} {E : Nat → Nat → List Int} {ct' G : Nat → Nat → Int} (hK : SK Γ (c + 4)) (hKr : SKr Γ (c + 4)) (hA : AI nf nc tc A) (hT : KT2 σ (c + 4) nf nc (tCt E A nc) (sGlad E A nc) (tIc E A nc) (A 2)) (hmask : mask < 64) (hct : ∀ k, k < nc → ∀ f, f < nf → ctm mask (tCt E A nc) k f = ct' k f) (hG : (g = c + 4 + 7 ∧ G = sGlad E A nc) ∨ (g = c + 4 + 13 ∧ G = tIc E A nc))
    (hQ : ∀ σ', Sm (Scr c) σ σ' → KT2 σ' (c + 4) nf nc (tCt E A nc) (sGlad E A nc) (tIc E A nc) (A 2) → (∀ j, j ≠ 10 → j ≠ 11 → σ' (c + 4) j = σ (c + 4) j) → σ' (c + 4) 10 = (mask : Int) → σ' (c + 4) 11 = (sBest ct' G nf nc (A 2)).1 → (∀ i, i < nc → σ' (c + 25) i = (sBest ct' G nf nc (A 2)).2.getD i 0) → (∀ m k, k + m = nc → σ' (c + 27) k = sHope (ctm mask (tCt E A nc)) G nf (A 2) m k) → Q (vi (sBest ct' G nf nc (A 2)).1) (Γ, σ')) : xRM M_X0_showBest (d + 9) (0, 0) [vr (c + 4), vr g, vi (mask : Int)] (Γ, σ) Q := by
  have hnc := hA.2.1
  obtain ⟨d', hd⟩ : ∃ d', d + 9 = d' + nc + 4 := ⟨d + 5 - nc, by omega⟩
  rw [hd]
  have e : sBest (ctm mask (tCt E A nc)) G nf nc (A 2) = sBest ct' G nf nc (A 2) := sBest_congr hct (fun _ _ _ _ => rfl) (fun _ _ => rfl)
  refine c_showBest hK hKr (by omega) hmask hT (TB_of hA) hG (fun σ' k1 k2 k3 k4 k5 k6 => ?_)
  rw [e] at k4 k5 ⊢
  exact hQ σ' (k1.mono (fun q => RB_Scr)) (hT.best k1 k2 hnc) k2 k3 k4 k5 k6
set_option maxHeartbeats 2000000 in
theorem c_gladdest {nf nc tc w : Nat} {A : Nat → Nat → Int} {E : Nat → Nat → List Int} (hR : CS Γ c) (hw : w = c + 61 ∨ w = c + 69) (hW : WOK Γ σ w (c + 1) (c + 29) nf nc tc A E)
    (hQ : ∀ σ', Sm (Scr c) σ σ' → KT2 σ' (c + 4) nf nc (tCt E A nc) (sGlad E A nc) (tIc E A nc) (A 2) → σ' (c + 4) 10 = 63 → σ' (c + 4) 11 = (jB E A nf nc).1 → (∀ m k, k + m = nc → σ' (c + 27) k = sHope (ctm 63 (tCt E A nc)) (sGlad E A nc) nf (A 2) m k) → Q (vi (jB E A nf nc).1) (Γ, σ')) : xRM M_X5_gladdestOf (d + 10) (0, 0) [vr c, vr w] (Γ, σ) Q := by
  refine xRM_of (by decide) (Nat.le_of_ble_eq_true rfl) ?_
  obtain ⟨hC, -, hP, hK, hKr, -⟩ := hR
  have hA := hW.2.2.2.2.1
  have hnf := hA.1
  refine b_X5_gladdestOf_0 _ _ _ _ ?_
  show k_X5_gladdestOf_0 (d + 9) Q (0, 0) [vr c, vr w] [] (Γ, σ)
  simp only [k_X5_gladdestOf_0, x_push, x_iload, x_lload, x_aload, x_bin, x_div, x_un, x_lbin, x_ldiv, x_lcmp, x_i2l, x_l2i, x_dup, x_pop, x_dup2, x_c1, x_c2, x_null, x_cat1, x_istore, x_astore, x_lstore, x_iinc, x_nol, x_tsw, xsw, x_lsw, xlsw, x_ret, x_zret, x_lret, x_aret, x_vret, x_getI, x_getL, x_getR, x_putI, x_putZ, x_putL, x_iaload, x_zaload, x_aaload, x_iastore, x_zastore, x_alen, x_mm, x_acopy, xpush, xJ, xK, x_cV0, x_cV1, x_cV2, x_cV3, x_cV4, x_cV5, x_cV6, x_cV7, x_cV8, x_cS1, x_cS2, x_cS3, x_cS4, x_cS5, List.getD_cons_zero, List.getD_cons_succ, List.set_cons_zero, List.set_cons_succ, List.length_cons, List.length_nil, Nat.zero_add, true_and, and_true, List.getD_nil, not_true, not_false_eq_true, Int.toNat_natCast, false_implies, true_implies, if_true, if_false, Int.toNat_zero, Int.toNat_one, true_or, or_true, Int.reduceEq, Int.reduceLT, Int.reduceLE, Int.reduceNe, Int.reduceNeg, Int.reduceAdd, Int.reduceSub, Int.reduceMul, Int.reduceToNat, Nat.reduceLT, Nat.reduceLeDiff, Nat.reduceAdd, Nat.reduceEqDiff, Nat.reduceSub, not_false_iff, and_self, implies_true, false_and, and_false, or_self, false_or, or_false, Int.cast_ofNat_Int, Int.natCast_nonneg, SC.f0 hC, SC.f1 hC, SC.f2 hC, SC.f3 hC, SC.f4 hC, SC.f5 hC, SC.f6 hC, SC.f7 hC, SK.f0 hK, SK.f1 hK, SK.f2 hK, SK.f3 hK, SK.f4 hK, SK.f5 hK, SK.f6 hK, SK.f7 hK, SK.f8 hK, SK.f9 hK, SK.l9 hK, SK.a9 hK, SK.e9 hK, SK.f10 hK, SK.l10 hK, SK.a10 hK, SK.e10 hK, SK.f11 hK, SK.l11 hK, SK.a11 hK, SK.e11 hK, SK.f12 hK, SK.l12 hK, SK.a12 hK, SK.e12 hK, SK.f13 hK, SK.l13 hK, SK.a13 hK, SK.e13 hK, SK.f14 hK, SK.l14 hK, SK.a14 hK, SK.f15 hK, SK.l15 hK, SK.a15 hK, SK.f16 hK, SK.l16 hK, SK.a16 hK]
  refine c_look hK hKr (by omega) hW (fun σ1 e1 e2 => ?_)
  simp only [x_push, x_iload, x_lload, x_aload, x_bin, x_div, x_un, x_lbin, x_ldiv, x_lcmp, x_i2l, x_l2i, x_dup, x_pop, x_dup2, x_c1, x_c2, x_null, x_cat1, x_istore, x_astore, x_lstore, x_iinc, x_nol, x_tsw, xsw, x_lsw, xlsw, x_ret, x_zret, x_lret, x_aret, x_vret, x_getI, x_getL, x_getR, x_putI, x_putZ, x_putL, x_iaload, x_zaload, x_aaload, x_iastore, x_zastore, x_alen, x_mm, x_acopy, xpush, xJ, xK, x_cV0, x_cV1, x_cV2, x_cV3, x_cV4, x_cV5, x_cV6, x_cV7, x_cV8, x_cS1, x_cS2, x_cS3, x_cS4, x_cS5, List.getD_cons_zero, List.getD_cons_succ, List.set_cons_zero, List.set_cons_succ, List.length_cons, List.length_nil, Nat.zero_add, true_and, and_true, List.getD_nil, not_true, not_false_eq_true, Int.toNat_natCast, false_implies, true_implies, if_true, if_false, Int.toNat_zero, Int.toNat_one, true_or, or_true, Int.reduceEq, Int.reduceLT, Int.reduceLE, Int.reduceNe, Int.reduceNeg, Int.reduceAdd, Int.reduceSub, Int.reduceMul, Int.reduceToNat, Nat.reduceLT, Nat.reduceLeDiff, Nat.reduceAdd, Nat.reduceEqDiff, Nat.reduceSub, not_false_iff, and_self, implies_true, false_and, and_false, or_self, false_or, or_false, Int.cast_ofNat_Int, Int.natCast_nonneg, SC.f0 hC, SC.f1 hC, SC.f2 hC, SC.f3 hC, SC.f4 hC, SC.f5 hC, SC.f6 hC, SC.f7 hC, SK.f0 hK, SK.f1 hK, SK.f2 hK, SK.f3 hK, SK.f4 hK, SK.f5 hK, SK.f6 hK, SK.f7 hK, SK.f8 hK, SK.f9 hK, SK.l9 hK, SK.a9 hK, SK.e9 hK, SK.f10 hK, SK.l10 hK, SK.a10 hK, SK.e10 hK, SK.f11 hK, SK.l11 hK, SK.a11 hK, SK.e11 hK, SK.f12 hK, SK.l12 hK, SK.a12 hK, SK.e12 hK, SK.f13 hK, SK.l13 hK, SK.a13 hK, SK.e13 hK, SK.f14 hK, SK.l14 hK, SK.a14 hK, SK.f15 hK, SK.l15 hK, SK.a15 hK, SK.f16 hK, SK.l16 hK, SK.a16 hK]
  refine c_bestOf (mask := 63) hK hKr hA (KT2_of e2) (by decide) (fun k hk f hf => ctm_63 (by omega)) (Or.inl ⟨rfl, rfl⟩) (fun σ2 k1 k2 k3 k4 k5 k6 k7 => ?_)
  simp only [x_push, x_iload, x_lload, x_aload, x_bin, x_div, x_un, x_lbin, x_ldiv, x_lcmp, x_i2l, x_l2i, x_dup, x_pop, x_dup2, x_c1, x_c2, x_null, x_cat1, x_istore, x_astore, x_lstore, x_iinc, x_nol, x_tsw, xsw, x_lsw, xlsw, x_ret, x_zret, x_lret, x_aret, x_vret, x_getI, x_getL, x_getR, x_putI, x_putZ, x_putL, x_iaload, x_zaload, x_aaload, x_iastore, x_zastore, x_alen, x_mm, x_acopy, xpush, xJ, xK, x_cV0, x_cV1, x_cV2, x_cV3, x_cV4, x_cV5, x_cV6, x_cV7, x_cV8, x_cS1, x_cS2, x_cS3, x_cS4, x_cS5, List.getD_cons_zero, List.getD_cons_succ, List.set_cons_zero, List.set_cons_succ, List.length_cons, List.length_nil, Nat.zero_add, true_and, and_true, List.getD_nil, not_true, not_false_eq_true, Int.toNat_natCast, false_implies, true_implies, if_true, if_false, Int.toNat_zero, Int.toNat_one, true_or, or_true, Int.reduceEq, Int.reduceLT, Int.reduceLE, Int.reduceNe, Int.reduceNeg, Int.reduceAdd, Int.reduceSub, Int.reduceMul, Int.reduceToNat, Nat.reduceLT, Nat.reduceLeDiff, Nat.reduceAdd, Nat.reduceEqDiff, Nat.reduceSub, not_false_iff, and_self, implies_true, false_and, and_false, or_self, false_or, or_false, Int.cast_ofNat_Int, Int.natCast_nonneg]
  refine hQ σ2 (Sm.tr (e1.mono (fun q z => ?_)) k1) k2 k4 k5 k7
  rcases hw with rfl | rfl
  · exact RLk_Scr z
  · exact RLk_Scr2 z
set_option maxHeartbeats 4000000 in
theorem c5_showing {how w : Int} (hR : CR Γ σ c S) (hQ : ∀ σ', Sm (Scr c) σ σ' → Q (vi (a_showing S how w)) (Γ, σ')) : xRM M_X5_showing (d + 10) (0, 0) [vr c, vi how, vi w] (Γ, σ) Q := by
  refine xRM_of (by decide) (Nat.le_of_ble_eq_true rfl) ?_
  have hW := hR.wok
  obtain ⟨hS, hX, hl, hV, hA, htc, hT⟩ := id hW
  obtain ⟨hC, -, hP, hK, hKr, -⟩ := id hR.1
  have hnf := hA.1
  have hnc := hA.2.1
  have bad : ¬ ((0 ≤ how ∧ how ≤ 2) ∧ 0 ≤ w ∧ w ≤ 2) → Q (vi (-100000)) (Γ, σ) := fun z => by
    rw [show a_showing S how w = -100000 from (by unfold a_showing; (try simp only [Int.toNat_natCast]); repeat (first | rw [if_pos (by omega)] | rw [if_neg (by omega)]))] at hQ
    exact hQ σ Sm.rf
  have s82 : ((0 ≤ how ∧ how ≤ 2) ∧ 0 ≤ w ∧ w ≤ 2) → ∀ (σ1 : Nat → Nat → Int) (s : Nat → Int), Sm (Scr c) σ σ1 → KT2 σ1 (c + 4) (zF S) (zC S) (tCt (zE S) (zA S) (zC S)) (sGlad (zE S) (zA S) (zC S)) (tIc (zE S) (zA S) (zC S)) (zA S 2) → (∀ k, k < zC S → σ1 (c + 4 + 21) k = s k) → (∀ k, k < zC S → s k = -1 ∨ (0 ≤ s k ∧ s k < zF S)) → (∀ k, k < zC S → s k = zSh S how k) → xR M_X5_showing (d + 10) (0, 0) 82 [vr c, vi how, vi w] [] (Γ, σ1) Q := by
    intro ok σ1 s e1 e2 e3 e4 e5
    have p1 : zPl S (zSh S how) = pl (tCt (zE S) (zA S) (zC S)) (sGlad (zE S) (zA S) (zC S)) (tIc (zE S) (zA S) (zC S)) s (zC S) 0 (zA S 2) 0 0 := pl_congr _ _ _ _ _ (fun k _ hk => (e5 k (by omega)).symm)
    have p2 : sDig (zSh S how) (zC S) = sDig s (zC S) := sDig_congr _ (fun k hk => (e5 k hk).symm)
    unfold a_showing at hQ
    rw [if_pos ok, p1, p2] at hQ
    refine b_X5_showing_82 _ _ _ _ ?_
    simp only [k_X5_showing_82, x_push, x_iload, x_lload, x_aload, x_bin, x_div, x_un, x_lbin, x_ldiv, x_lcmp, x_i2l, x_l2i, x_dup, x_pop, x_dup2, x_c1, x_c2, x_null, x_cat1, x_istore, x_astore, x_lstore, x_iinc, x_nol, x_tsw, xsw, x_lsw, xlsw, x_ret, x_zret, x_lret, x_aret, x_vret, x_getI, x_getL, x_getR, x_putI, x_putZ, x_putL, x_iaload, x_zaload, x_aaload, x_iastore, x_zastore, x_alen, x_mm, x_acopy, xpush, xJ, xK, x_cV0, x_cV1, x_cV2, x_cV3, x_cV4, x_cV5, x_cV6, x_cV7, x_cV8, x_cS1, x_cS2, x_cS3, x_cS4, x_cS5, List.getD_cons_zero, List.getD_cons_succ, List.set_cons_zero, List.set_cons_succ, List.length_cons, List.length_nil, Nat.zero_add, true_and, and_true, List.getD_nil, not_true, not_false_eq_true, Int.toNat_natCast, false_implies, true_implies, if_true, if_false, Int.toNat_zero, Int.toNat_one, true_or, or_true, Int.reduceEq, Int.reduceLT, Int.reduceLE, Int.reduceNe, Int.reduceNeg, Int.reduceAdd, Int.reduceSub, Int.reduceMul, Int.reduceToNat, Nat.reduceLT, Nat.reduceLeDiff, Nat.reduceAdd, Nat.reduceEqDiff, Nat.reduceSub, not_false_iff, and_self, implies_true, false_and, and_false, or_self, false_or, or_false, Int.cast_ofNat_Int, Int.natCast_nonneg, SC.f0 hC, SC.f1 hC, SC.f2 hC, SC.f3 hC, SC.f4 hC, SC.f5 hC, SC.f6 hC, SC.f7 hC, SK.f0 hK, SK.f1 hK, SK.f2 hK, SK.f3 hK, SK.f4 hK, SK.f5 hK, SK.f6 hK, SK.f7 hK, SK.f8 hK, SK.f9 hK, SK.l9 hK, SK.a9 hK, SK.e9 hK, SK.f10 hK, SK.l10 hK, SK.a10 hK, SK.e10 hK, SK.f11 hK, SK.l11 hK, SK.a11 hK, SK.e11 hK, SK.f12 hK, SK.l12 hK, SK.a12 hK, SK.e12 hK, SK.f13 hK, SK.l13 hK, SK.a13 hK, SK.e13 hK, SK.f14 hK, SK.l14 hK, SK.a14 hK, SK.f15 hK, SK.l15 hK, SK.a15 hK, SK.f16 hK, SK.l16 hK, SK.a16 hK]
    refine ⟨fun q => ?_, fun q => ?_⟩
    · rw [if_neg q] at hQ
      refine c_play hK hKr e2 (TB_of hA) e3 e4 (fun σ2 f1 f2 f3 f4 f5 f6 => ?_)
      simp only [x_push, x_iload, x_lload, x_aload, x_bin, x_div, x_un, x_lbin, x_ldiv, x_lcmp, x_i2l, x_l2i, x_dup, x_pop, x_dup2, x_c1, x_c2, x_null, x_cat1, x_istore, x_astore, x_lstore, x_iinc, x_nol, x_tsw, xsw, x_lsw, xlsw, x_ret, x_zret, x_lret, x_aret, x_vret, x_getI, x_getL, x_getR, x_putI, x_putZ, x_putL, x_iaload, x_zaload, x_aaload, x_iastore, x_zastore, x_alen, x_mm, x_acopy, xpush, xJ, xK, x_cV0, x_cV1, x_cV2, x_cV3, x_cV4, x_cV5, x_cV6, x_cV7, x_cV8, x_cS1, x_cS2, x_cS3, x_cS4, x_cS5, List.getD_cons_zero, List.getD_cons_succ, List.set_cons_zero, List.set_cons_succ, List.length_cons, List.length_nil, Nat.zero_add, true_and, and_true, List.getD_nil, not_true, not_false_eq_true, Int.toNat_natCast, false_implies, true_implies, if_true, if_false, Int.toNat_zero, Int.toNat_one, true_or, or_true, Int.reduceEq, Int.reduceLT, Int.reduceLE, Int.reduceNe, Int.reduceNeg, Int.reduceAdd, Int.reduceSub, Int.reduceMul, Int.reduceToNat, Nat.reduceLT, Nat.reduceLeDiff, Nat.reduceAdd, Nat.reduceEqDiff, Nat.reduceSub, not_false_iff, and_self, implies_true, false_and, and_false, or_self, false_or, or_false, Int.cast_ofNat_Int, Int.natCast_nonneg, SC.f0 hC, SC.f1 hC, SC.f2 hC, SC.f3 hC, SC.f4 hC, SC.f5 hC, SC.f6 hC, SC.f7 hC, SK.f0 hK, SK.f1 hK, SK.f2 hK, SK.f3 hK, SK.f4 hK, SK.f5 hK, SK.f6 hK, SK.f7 hK, SK.f8 hK, SK.f9 hK, SK.l9 hK, SK.a9 hK, SK.e9 hK, SK.f10 hK, SK.l10 hK, SK.a10 hK, SK.e10 hK, SK.f11 hK, SK.l11 hK, SK.a11 hK, SK.e11 hK, SK.f12 hK, SK.l12 hK, SK.a12 hK, SK.e12 hK, SK.f13 hK, SK.l13 hK, SK.a13 hK, SK.e13 hK, SK.f14 hK, SK.l14 hK, SK.a14 hK, SK.f15 hK, SK.l15 hK, SK.a15 hK, SK.f16 hK, SK.l16 hK, SK.a16 hK, f4, f5]
      have key := hQ σ2 (e1.tr (f1.mono (fun q z => Or.inl (by omega))))
      refine ⟨fun q2 => ?_, fun q2 => ?_⟩
      · rw [if_neg q2] at key; exact key
      · rw [if_pos (Classical.not_not.mp q2)] at key; exact key
    · rw [if_pos (Classical.not_not.mp q)] at hQ
      refine c_digits hK e2.2.1 hnc e3 (fun k hk => ?_) ?_
      · have := e4 k hk
        omega
      · simp only [x_push, x_iload, x_lload, x_aload, x_bin, x_div, x_un, x_lbin, x_ldiv, x_lcmp, x_i2l, x_l2i, x_dup, x_pop, x_dup2, x_c1, x_c2, x_null, x_cat1, x_istore, x_astore, x_lstore, x_iinc, x_nol, x_tsw, xsw, x_lsw, xlsw, x_ret, x_zret, x_lret, x_aret, x_vret, x_getI, x_getL, x_getR, x_putI, x_putZ, x_putL, x_iaload, x_zaload, x_aaload, x_iastore, x_zastore, x_alen, x_mm, x_acopy, xpush, xJ, xK, x_cV0, x_cV1, x_cV2, x_cV3, x_cV4, x_cV5, x_cV6, x_cV7, x_cV8, x_cS1, x_cS2, x_cS3, x_cS4, x_cS5, List.getD_cons_zero, List.getD_cons_succ, List.set_cons_zero, List.set_cons_succ, List.length_cons, List.length_nil, Nat.zero_add, true_and, and_true, List.getD_nil, not_true, not_false_eq_true, Int.toNat_natCast, false_implies, true_implies, if_true, if_false, Int.toNat_zero, Int.toNat_one, true_or, or_true, Int.reduceEq, Int.reduceLT, Int.reduceLE, Int.reduceNe, Int.reduceNeg, Int.reduceAdd, Int.reduceSub, Int.reduceMul, Int.reduceToNat, Nat.reduceLT, Nat.reduceLeDiff, Nat.reduceAdd, Nat.reduceEqDiff, Nat.reduceSub, not_false_iff, and_self, implies_true, false_and, and_false, or_self, false_or, or_false, Int.cast_ofNat_Int, Int.natCast_nonneg]
        exact hQ σ1 e1
  have s76 : ((0 ≤ how ∧ how ≤ 2) ∧ 0 ≤ w ∧ w ≤ 2) → how ≠ 2 → ∀ (σ1 : Nat → Nat → Int) (g : Nat), Sm (Scr c) σ σ1 → KT2 σ1 (c + 4) (zF S) (zC S) (tCt (zE S) (zA S) (zC S)) (sGlad (zE S) (zA S) (zC S)) (tIc (zE S) (zA S) (zC S)) (zA S 2) → (g = if how = 0 then c + 4 + 7 else c + 4 + 13) → xR M_X5_showing (d + 10) (0, 0) 76 [vr c, vi how, vi w] [vr g, vr (c + 4)] (Γ, σ1) Q := by
    intro ok h2 σ1 g e1 e2 eg
    refine b_X5_showing_76 _ _ _ _ ?_
    simp only [k_X5_showing_76, x_push, x_iload, x_lload, x_aload, x_bin, x_div, x_un, x_lbin, x_ldiv, x_lcmp, x_i2l, x_l2i, x_dup, x_pop, x_dup2, x_c1, x_c2, x_null, x_cat1, x_istore, x_astore, x_lstore, x_iinc, x_nol, x_tsw, xsw, x_lsw, xlsw, x_ret, x_zret, x_lret, x_aret, x_vret, x_getI, x_getL, x_getR, x_putI, x_putZ, x_putL, x_iaload, x_zaload, x_aaload, x_iastore, x_zastore, x_alen, x_mm, x_acopy, xpush, xJ, xK, x_cV0, x_cV1, x_cV2, x_cV3, x_cV4, x_cV5, x_cV6, x_cV7, x_cV8, x_cS1, x_cS2, x_cS3, x_cS4, x_cS5, List.getD_cons_zero, List.getD_cons_succ, List.set_cons_zero, List.set_cons_succ, List.length_cons, List.length_nil, Nat.zero_add, true_and, and_true, List.getD_nil, not_true, not_false_eq_true, Int.toNat_natCast, false_implies, true_implies, if_true, if_false, Int.toNat_zero, Int.toNat_one, true_or, or_true, Int.reduceEq, Int.reduceLT, Int.reduceLE, Int.reduceNe, Int.reduceNeg, Int.reduceAdd, Int.reduceSub, Int.reduceMul, Int.reduceToNat, Nat.reduceLT, Nat.reduceLeDiff, Nat.reduceAdd, Nat.reduceEqDiff, Nat.reduceSub, not_false_iff, and_self, implies_true, false_and, and_false, or_self, false_or, or_false, Int.cast_ofNat_Int, Int.natCast_nonneg, SK.f0 hK, SK.f1 hK, SK.f2 hK, SK.f3 hK, SK.f4 hK, SK.f5 hK, SK.f6 hK, SK.f7 hK, SK.f8 hK, SK.f9 hK, SK.l9 hK, SK.a9 hK, SK.e9 hK, SK.f10 hK, SK.l10 hK, SK.a10 hK, SK.e10 hK, SK.f11 hK, SK.l11 hK, SK.a11 hK, SK.e11 hK, SK.f12 hK, SK.l12 hK, SK.a12 hK, SK.e12 hK, SK.f13 hK, SK.l13 hK, SK.a13 hK, SK.e13 hK, SK.f14 hK, SK.l14 hK, SK.a14 hK, SK.f15 hK, SK.l15 hK, SK.a15 hK, SK.f16 hK, SK.l16 hK, SK.a16 hK]
    have hG : (g = c + 4 + 7 ∧ (if how = 0 then sGlad (zE S) (zA S) (zC S) else tIc (zE S) (zA S) (zC S)) = sGlad (zE S) (zA S) (zC S)) ∨ (g = c + 4 + 13 ∧ (if how = 0 then sGlad (zE S) (zA S) (zC S) else tIc (zE S) (zA S) (zC S)) = tIc (zE S) (zA S) (zC S)) := by
      by_cases z : how = 0
      · rw [if_pos z] at eg ⊢; exact Or.inl ⟨eg, rfl⟩
      · rw [if_neg z] at eg ⊢; exact Or.inr ⟨eg, rfl⟩
    refine c_bestOf (mask := 63) (ct' := tCt (zE S) (zA S) (zC S)) (G := if how = 0 then sGlad (zE S) (zA S) (zC S) else tIc (zE S) (zA S) (zC S)) hK hKr hA e2 (by decide) (fun k hk f hf => ctm_63 (by omega)) hG (fun σ2 k1 k2 k3 k4 k5 k6 k7 => ?_)
    simp only [x_push, x_iload, x_lload, x_aload, x_bin, x_div, x_un, x_lbin, x_ldiv, x_lcmp, x_i2l, x_l2i, x_dup, x_pop, x_dup2, x_c1, x_c2, x_null, x_cat1, x_istore, x_astore, x_lstore, x_iinc, x_nol, x_tsw, xsw, x_lsw, xlsw, x_ret, x_zret, x_lret, x_aret, x_vret, x_getI, x_getL, x_getR, x_putI, x_putZ, x_putL, x_iaload, x_zaload, x_aaload, x_iastore, x_zastore, x_alen, x_mm, x_acopy, xpush, xJ, xK, x_cV0, x_cV1, x_cV2, x_cV3, x_cV4, x_cV5, x_cV6, x_cV7, x_cV8, x_cS1, x_cS2, x_cS3, x_cS4, x_cS5, List.getD_cons_zero, List.getD_cons_succ, List.set_cons_zero, List.set_cons_succ, List.length_cons, List.length_nil, Nat.zero_add, true_and, and_true, List.getD_nil, not_true, not_false_eq_true, Int.toNat_natCast, false_implies, true_implies, if_true, if_false, Int.toNat_zero, Int.toNat_one, true_or, or_true, Int.reduceEq, Int.reduceLT, Int.reduceLE, Int.reduceNe, Int.reduceNeg, Int.reduceAdd, Int.reduceSub, Int.reduceMul, Int.reduceToNat, Nat.reduceLT, Nat.reduceLeDiff, Nat.reduceAdd, Nat.reduceEqDiff, Nat.reduceSub, not_false_iff, and_self, implies_true, false_and, and_false, or_self, false_or, or_false, Int.cast_ofNat_Int, Int.natCast_nonneg]
    have hin := (sBest_in (ct := tCt (zE S) (zA S) (zC S)) (G := if how = 0 then sGlad (zE S) (zA S) (zC S) else tIc (zE S) (zA S) (zC S)) (nf := zF S) (nc := zC S) (me := zA S 2)).1
    refine s82 ok σ2 _ (e1.tr k1) k2 k6 (fun k hk => (sAll_ok _ _ _ _ hin).2 k hk) (fun k hk => ?_)
    unfold zSh
    rw [if_neg h2]
    by_cases z : how = 0
    · rw [if_pos z, if_pos z]; rfl
    · rw [if_neg z, if_neg z]; rfl
  refine b_X5_showing_0 _ _ _ _ ?_
  show k_X5_showing_0 (d + 9) Q (0, 0) [vr c, vi how, vi w] [] (Γ, σ)
  simp only [k_X5_showing_0, x_push, x_iload, x_lload, x_aload, x_bin, x_div, x_un, x_lbin, x_ldiv, x_lcmp, x_i2l, x_l2i, x_dup, x_pop, x_dup2, x_c1, x_c2, x_null, x_cat1, x_istore, x_astore, x_lstore, x_iinc, x_nol, x_tsw, xsw, x_lsw, xlsw, x_ret, x_zret, x_lret, x_aret, x_vret, x_getI, x_getL, x_getR, x_putI, x_putZ, x_putL, x_iaload, x_zaload, x_aaload, x_iastore, x_zastore, x_alen, x_mm, x_acopy, xpush, xJ, xK, x_cV0, x_cV1, x_cV2, x_cV3, x_cV4, x_cV5, x_cV6, x_cV7, x_cV8, x_cS1, x_cS2, x_cS3, x_cS4, x_cS5, List.getD_cons_zero, List.getD_cons_succ, List.set_cons_zero, List.set_cons_succ, List.length_cons, List.length_nil, Nat.zero_add, true_and, and_true, List.getD_nil, not_true, not_false_eq_true, Int.toNat_natCast, false_implies, true_implies, if_true, if_false, Int.toNat_zero, Int.toNat_one, true_or, or_true, Int.reduceEq, Int.reduceLT, Int.reduceLE, Int.reduceNe, Int.reduceNeg, Int.reduceAdd, Int.reduceSub, Int.reduceMul, Int.reduceToNat, Nat.reduceLT, Nat.reduceLeDiff, Nat.reduceAdd, Nat.reduceEqDiff, Nat.reduceSub, not_false_iff, and_self, implies_true, false_and, and_false, or_self, false_or, or_false, Int.cast_ofNat_Int, Int.natCast_nonneg, SC.f0 hC, SC.f1 hC, SC.f2 hC, SC.f3 hC, SC.f4 hC, SC.f5 hC, SC.f6 hC, SC.f7 hC, SK.f0 hK, SK.f1 hK, SK.f2 hK, SK.f3 hK, SK.f4 hK, SK.f5 hK, SK.f6 hK, SK.f7 hK, SK.f8 hK, SK.f9 hK, SK.l9 hK, SK.a9 hK, SK.e9 hK, SK.f10 hK, SK.l10 hK, SK.a10 hK, SK.e10 hK, SK.f11 hK, SK.l11 hK, SK.a11 hK, SK.e11 hK, SK.f12 hK, SK.l12 hK, SK.a12 hK, SK.e12 hK, SK.f13 hK, SK.l13 hK, SK.a13 hK, SK.e13 hK, SK.f14 hK, SK.l14 hK, SK.a14 hK, SK.f15 hK, SK.l15 hK, SK.a15 hK, SK.f16 hK, SK.l16 hK, SK.a16 hK]
  refine ⟨fun q => bad (by omega), fun q => ⟨fun q2 => bad (by omega), fun q2 => ⟨fun q3 => bad (by omega), fun q3 => ⟨fun q4 => ?_, fun q4 => bad (by omega)⟩⟩⟩⟩
  have ok : (0 ≤ how ∧ how ≤ 2) ∧ 0 ≤ w ∧ w ≤ 2 := by omega
  refine c_look hK hKr (by omega) hW (fun σ1 e1 e2 => ?_)
  have s1 := e1.mono (fun q => RLk_Scr)
  have hV1 := (hR.scr s1).wok.2.2.2.1
  simp only [x_push, x_iload, x_lload, x_aload, x_bin, x_div, x_un, x_lbin, x_ldiv, x_lcmp, x_i2l, x_l2i, x_dup, x_pop, x_dup2, x_c1, x_c2, x_null, x_cat1, x_istore, x_astore, x_lstore, x_iinc, x_nol, x_tsw, xsw, x_lsw, xlsw, x_ret, x_zret, x_lret, x_aret, x_vret, x_getI, x_getL, x_getR, x_putI, x_putZ, x_putL, x_iaload, x_zaload, x_aaload, x_iastore, x_zastore, x_alen, x_mm, x_acopy, xpush, xJ, xK, x_cV0, x_cV1, x_cV2, x_cV3, x_cV4, x_cV5, x_cV6, x_cV7, x_cV8, x_cS1, x_cS2, x_cS3, x_cS4, x_cS5, List.getD_cons_zero, List.getD_cons_succ, List.set_cons_zero, List.set_cons_succ, List.length_cons, List.length_nil, Nat.zero_add, true_and, and_true, List.getD_nil, not_true, not_false_eq_true, Int.toNat_natCast, false_implies, true_implies, if_true, if_false, Int.toNat_zero, Int.toNat_one, true_or, or_true, Int.reduceEq, Int.reduceLT, Int.reduceLE, Int.reduceNe, Int.reduceNeg, Int.reduceAdd, Int.reduceSub, Int.reduceMul, Int.reduceToNat, Nat.reduceLT, Nat.reduceLeDiff, Nat.reduceAdd, Nat.reduceEqDiff, Nat.reduceSub, not_false_iff, and_self, implies_true, false_and, and_false, or_self, false_or, or_false, Int.cast_ofNat_Int, Int.natCast_nonneg, SC.f0 hC, SC.f1 hC, SC.f2 hC, SC.f3 hC, SC.f4 hC, SC.f5 hC, SC.f6 hC, SC.f7 hC, SK.f0 hK, SK.f1 hK, SK.f2 hK, SK.f3 hK, SK.f4 hK, SK.f5 hK, SK.f6 hK, SK.f7 hK, SK.f8 hK, SK.f9 hK, SK.l9 hK, SK.a9 hK, SK.e9 hK, SK.f10 hK, SK.l10 hK, SK.a10 hK, SK.e10 hK, SK.f11 hK, SK.l11 hK, SK.a11 hK, SK.e11 hK, SK.f12 hK, SK.l12 hK, SK.a12 hK, SK.e12 hK, SK.f13 hK, SK.l13 hK, SK.a13 hK, SK.e13 hK, SK.f14 hK, SK.l14 hK, SK.a14 hK, SK.f15 hK, SK.l15 hK, SK.a15 hK, SK.f16 hK, SK.l16 hK, SK.a16 hK]
  refine ⟨fun q5 => ⟨fun q6 => ?_, fun q6 => ?_⟩, fun q5 => ?_⟩
  · exact s76 ok q5 σ1 _ s1 (KT2_of e2) (by rw [if_neg q6])
  · exact s76 ok q5 σ1 _ s1 (KT2_of e2) (by rw [if_pos (Classical.not_not.mp q6)])
  · refine c_showPlainly (wi := zA S 5) hK hKr hS (by omega) (KT2_of e2) (TB_of hA) (fun k hk => (hV1.2.2.2.2.2 k hk).2) (fun σ2 f1 f2 => ?_)
    simp only [x_push, x_iload, x_lload, x_aload, x_bin, x_div, x_un, x_lbin, x_ldiv, x_lcmp, x_i2l, x_l2i, x_dup, x_pop, x_dup2, x_c1, x_c2, x_null, x_cat1, x_istore, x_astore, x_lstore, x_iinc, x_nol, x_tsw, xsw, x_lsw, xlsw, x_ret, x_zret, x_lret, x_aret, x_vret, x_getI, x_getL, x_getR, x_putI, x_putZ, x_putL, x_iaload, x_zaload, x_aaload, x_iastore, x_zastore, x_alen, x_mm, x_acopy, xpush, xJ, xK, x_cV0, x_cV1, x_cV2, x_cV3, x_cV4, x_cV5, x_cV6, x_cV7, x_cV8, x_cS1, x_cS2, x_cS3, x_cS4, x_cS5, List.getD_cons_zero, List.getD_cons_succ, List.set_cons_zero, List.set_cons_succ, List.length_cons, List.length_nil, Nat.zero_add, true_and, and_true, List.getD_nil, not_true, not_false_eq_true, Int.toNat_natCast, false_implies, true_implies, if_true, if_false, Int.toNat_zero, Int.toNat_one, true_or, or_true, Int.reduceEq, Int.reduceLT, Int.reduceLE, Int.reduceNe, Int.reduceNeg, Int.reduceAdd, Int.reduceSub, Int.reduceMul, Int.reduceToNat, Nat.reduceLT, Nat.reduceLeDiff, Nat.reduceAdd, Nat.reduceEqDiff, Nat.reduceSub, not_false_iff, and_self, implies_true, false_and, and_false, or_self, false_or, or_false, Int.cast_ofNat_Int, Int.natCast_nonneg]
    have f3 : ∀ k, k < zC S → sPlain (zA S 5) (tCt (zE S) (zA S) (zC S)) (zF S) (zC S) 0 (zA S 2) (σ1 (c + 4 + 21)) k = pW (zE S) (zA S) (zF S) (zC S) k := fun k hk => sPlain_congr _ _ _ _ _ (fun j hj => by omega) k (by omega)
    refine s82 ok σ2 _ (s1.tr (f1.mono (fun q z => Or.inl (by omega)))) ((KT2_of e2).sm (f1.mono (fun q z => by omega)) hnc) f2 (fun k hk => ?_) (fun k hk => ?_)
    · exact sPlain_ok _ _ _ _ (fun j hj => by omega) k (by omega)
    · rw [f3 k hk]
      unfold zSh
      rw [if_pos (by omega)]
set_option maxHeartbeats 4000000 in
theorem c5_few {w : Int} (hR : CR Γ σ c S) (hQ : ∀ σ', Sm (Scr c) σ σ' → Q (vi (a_few S w)) (Γ, σ')) : xRM M_X5_few (d + 11) (0, 0) [vr c, vi w] (Γ, σ) Q := by
  refine xRM_of (by decide) (Nat.le_of_ble_eq_true rfl) ?_
  have hW := hR.wok
  obtain ⟨hS, hX, hl, hV, hA, htc, hT⟩ := id hW
  obtain ⟨hC, -, hP, hK, hKr, -⟩ := id hR.1
  have hnf := hA.1
  have hnc := hA.2.1
  unfold a_few at hQ
  have s12 : (w = 0 ∨ w = 1) → xR M_X5_few (d + 11) (0, 0) 12 [vr c, vi w, vu] [] (Γ, σ) Q := by
    intro hw
    rw [if_pos hw] at hQ
    refine b_X5_few_12 _ _ _ _ ?_
    simp only [k_X5_few_12, x_push, x_iload, x_lload, x_aload, x_bin, x_div, x_un, x_lbin, x_ldiv, x_lcmp, x_i2l, x_l2i, x_dup, x_pop, x_dup2, x_c1, x_c2, x_null, x_cat1, x_istore, x_astore, x_lstore, x_iinc, x_nol, x_tsw, xsw, x_lsw, xlsw, x_ret, x_zret, x_lret, x_aret, x_vret, x_getI, x_getL, x_getR, x_putI, x_putZ, x_putL, x_iaload, x_zaload, x_aaload, x_iastore, x_zastore, x_alen, x_mm, x_acopy, xpush, xJ, xK, x_cV0, x_cV1, x_cV2, x_cV3, x_cV4, x_cV5, x_cV6, x_cV7, x_cV8, x_cS1, x_cS2, x_cS3, x_cS4, x_cS5, List.getD_cons_zero, List.getD_cons_succ, List.set_cons_zero, List.set_cons_succ, List.length_cons, List.length_nil, Nat.zero_add, true_and, and_true, List.getD_nil, not_true, not_false_eq_true, Int.toNat_natCast, false_implies, true_implies, if_true, if_false, Int.toNat_zero, Int.toNat_one, true_or, or_true, Int.reduceEq, Int.reduceLT, Int.reduceLE, Int.reduceNe, Int.reduceNeg, Int.reduceAdd, Int.reduceSub, Int.reduceMul, Int.reduceToNat, Nat.reduceLT, Nat.reduceLeDiff, Nat.reduceAdd, Nat.reduceEqDiff, Nat.reduceSub, not_false_iff, and_self, implies_true, false_and, and_false, or_self, false_or, or_false, Int.cast_ofNat_Int, Int.natCast_nonneg, SC.f0 hC, SC.f1 hC, SC.f2 hC, SC.f3 hC, SC.f4 hC, SC.f5 hC, SC.f6 hC, SC.f7 hC]
    refine c_gladdest hR.1 (Or.inl rfl) hW (fun σ1 e1 e2 e3 e4 e5 => ?_)
    simp only [x_push, x_iload, x_lload, x_aload, x_bin, x_div, x_un, x_lbin, x_ldiv, x_lcmp, x_i2l, x_l2i, x_dup, x_pop, x_dup2, x_c1, x_c2, x_null, x_cat1, x_istore, x_astore, x_lstore, x_iinc, x_nol, x_tsw, xsw, x_lsw, xlsw, x_ret, x_zret, x_lret, x_aret, x_vret, x_getI, x_getL, x_getR, x_putI, x_putZ, x_putL, x_iaload, x_zaload, x_aaload, x_iastore, x_zastore, x_alen, x_mm, x_acopy, xpush, xJ, xK, x_cV0, x_cV1, x_cV2, x_cV3, x_cV4, x_cV5, x_cV6, x_cV7, x_cV8, x_cS1, x_cS2, x_cS3, x_cS4, x_cS5, List.getD_cons_zero, List.getD_cons_succ, List.set_cons_zero, List.set_cons_succ, List.length_cons, List.length_nil, Nat.zero_add, true_and, and_true, List.getD_nil, not_true, not_false_eq_true, Int.toNat_natCast, false_implies, true_implies, if_true, if_false, Int.toNat_zero, Int.toNat_one, true_or, or_true, Int.reduceEq, Int.reduceLT, Int.reduceLE, Int.reduceNe, Int.reduceNeg, Int.reduceAdd, Int.reduceSub, Int.reduceMul, Int.reduceToNat, Nat.reduceLT, Nat.reduceLeDiff, Nat.reduceAdd, Nat.reduceEqDiff, Nat.reduceSub, not_false_iff, and_self, implies_true, false_and, and_false, or_self, false_or, or_false, Int.cast_ofNat_Int, Int.natCast_nonneg, SC.f0 hC, SC.f1 hC, SC.f2 hC, SC.f3 hC, SC.f4 hC, SC.f5 hC, SC.f6 hC, SC.f7 hC, SK.f0 hK, SK.f1 hK, SK.f2 hK, SK.f3 hK, SK.f4 hK, SK.f5 hK, SK.f6 hK, SK.f7 hK, SK.f8 hK, SK.f9 hK, SK.l9 hK, SK.a9 hK, SK.e9 hK, SK.f10 hK, SK.l10 hK, SK.a10 hK, SK.e10 hK, SK.f11 hK, SK.l11 hK, SK.a11 hK, SK.e11 hK, SK.f12 hK, SK.l12 hK, SK.a12 hK, SK.e12 hK, SK.f13 hK, SK.l13 hK, SK.a13 hK, SK.e13 hK, SK.f14 hK, SK.l14 hK, SK.a14 hK, SK.f15 hK, SK.l15 hK, SK.a15 hK, SK.f16 hK, SK.l16 hK, SK.a16 hK]
    obtain ⟨d', hd⟩ : ∃ d', d + 10 = d' + zC S + 4 := ⟨d + 6 - zC S, by omega⟩
    rw [hd]
    have hB := SBase_of (g := c + 4 + 7) (mask := 63) e2 (TB_of hA) (Or.inl ⟨rfl, rfl⟩) (by decide) e3
    have eF : sFew (ctm 63 (tCt (zE S) (zA S) (zC S))) (sGlad (zE S) (zA S) (zC S)) (σ1 (c + 4) 11) (zF S) (zC S) (zA S 2) = zFew S := by
      rw [e4]
      exact sFew_congr (fun k hk f hf => ctm_63 (by omega)) (fun _ _ _ _ => rfl) (fun _ _ => rfl)
    refine c_fewestFigures hK hKr hB e5 e2.2.2.1 (fun σ2 f1 f2 f3 => ?_)
    rw [eF] at f3 ⊢
    simp only [x_push, x_iload, x_lload, x_aload, x_bin, x_div, x_un, x_lbin, x_ldiv, x_lcmp, x_i2l, x_l2i, x_dup, x_pop, x_dup2, x_c1, x_c2, x_null, x_cat1, x_istore, x_astore, x_lstore, x_iinc, x_nol, x_tsw, xsw, x_lsw, xlsw, x_ret, x_zret, x_lret, x_aret, x_vret, x_getI, x_getL, x_getR, x_putI, x_putZ, x_putL, x_iaload, x_zaload, x_aaload, x_iastore, x_zastore, x_alen, x_mm, x_acopy, xpush, xJ, xK, x_cV0, x_cV1, x_cV2, x_cV3, x_cV4, x_cV5, x_cV6, x_cV7, x_cV8, x_cS1, x_cS2, x_cS3, x_cS4, x_cS5, List.getD_cons_zero, List.getD_cons_succ, List.set_cons_zero, List.set_cons_succ, List.length_cons, List.length_nil, Nat.zero_add, true_and, and_true, List.getD_nil, not_true, not_false_eq_true, Int.toNat_natCast, false_implies, true_implies, if_true, if_false, Int.toNat_zero, Int.toNat_one, true_or, or_true, Int.reduceEq, Int.reduceLT, Int.reduceLE, Int.reduceNe, Int.reduceNeg, Int.reduceAdd, Int.reduceSub, Int.reduceMul, Int.reduceToNat, Nat.reduceLT, Nat.reduceLeDiff, Nat.reduceAdd, Nat.reduceEqDiff, Nat.reduceSub, not_false_iff, and_self, implies_true, false_and, and_false, or_self, false_or, or_false, Int.cast_ofNat_Int, Int.natCast_nonneg]
    have key := hQ σ2 (e1.tr (f1.mono (fun q z => Or.inl (by omega))))
    refine ⟨fun q => ?_, fun q => ?_⟩
    · rw [if_neg q] at key
      rw [← hd]
      refine c_bitCount f3 ?_
      simp only [x_push, x_iload, x_lload, x_aload, x_bin, x_div, x_un, x_lbin, x_ldiv, x_lcmp, x_i2l, x_l2i, x_dup, x_pop, x_dup2, x_c1, x_c2, x_null, x_cat1, x_istore, x_astore, x_lstore, x_iinc, x_nol, x_tsw, xsw, x_lsw, xlsw, x_ret, x_zret, x_lret, x_aret, x_vret, x_getI, x_getL, x_getR, x_putI, x_putZ, x_putL, x_iaload, x_zaload, x_aaload, x_iastore, x_zastore, x_alen, x_mm, x_acopy, xpush, xJ, xK, x_cV0, x_cV1, x_cV2, x_cV3, x_cV4, x_cV5, x_cV6, x_cV7, x_cV8, x_cS1, x_cS2, x_cS3, x_cS4, x_cS5, List.getD_cons_zero, List.getD_cons_succ, List.set_cons_zero, List.set_cons_succ, List.length_cons, List.length_nil, Nat.zero_add, true_and, and_true, List.getD_nil, not_true, not_false_eq_true, Int.toNat_natCast, false_implies, true_implies, if_true, if_false, Int.toNat_zero, Int.toNat_one, true_or, or_true, Int.reduceEq, Int.reduceLT, Int.reduceLE, Int.reduceNe, Int.reduceNeg, Int.reduceAdd, Int.reduceSub, Int.reduceMul, Int.reduceToNat, Nat.reduceLT, Nat.reduceLeDiff, Nat.reduceAdd, Nat.reduceEqDiff, Nat.reduceSub, not_false_iff, and_self, implies_true, false_and, and_false, or_self, false_or, or_false, Int.cast_ofNat_Int, Int.natCast_nonneg]
      exact key
    · rw [if_pos (Classical.not_not.mp q)] at key
      exact key
  refine b_X5_few_0 _ _ _ _ ?_
  show k_X5_few_0 (d + 10) Q (0, 0) [vr c, vi w, vu] [] (Γ, σ)
  simp only [k_X5_few_0, x_push, x_iload, x_lload, x_aload, x_bin, x_div, x_un, x_lbin, x_ldiv, x_lcmp, x_i2l, x_l2i, x_dup, x_pop, x_dup2, x_c1, x_c2, x_null, x_cat1, x_istore, x_astore, x_lstore, x_iinc, x_nol, x_tsw, xsw, x_lsw, xlsw, x_ret, x_zret, x_lret, x_aret, x_vret, x_getI, x_getL, x_getR, x_putI, x_putZ, x_putL, x_iaload, x_zaload, x_aaload, x_iastore, x_zastore, x_alen, x_mm, x_acopy, xpush, xJ, xK, x_cV0, x_cV1, x_cV2, x_cV3, x_cV4, x_cV5, x_cV6, x_cV7, x_cV8, x_cS1, x_cS2, x_cS3, x_cS4, x_cS5, List.getD_cons_zero, List.getD_cons_succ, List.set_cons_zero, List.set_cons_succ, List.length_cons, List.length_nil, Nat.zero_add, true_and, and_true, List.getD_nil, not_true, not_false_eq_true, Int.toNat_natCast, false_implies, true_implies, if_true, if_false, Int.toNat_zero, Int.toNat_one, true_or, or_true, Int.reduceEq, Int.reduceLT, Int.reduceLE, Int.reduceNe, Int.reduceNeg, Int.reduceAdd, Int.reduceSub, Int.reduceMul, Int.reduceToNat, Nat.reduceLT, Nat.reduceLeDiff, Nat.reduceAdd, Nat.reduceEqDiff, Nat.reduceSub, not_false_iff, and_self, implies_true, false_and, and_false, or_self, false_or, or_false, Int.cast_ofNat_Int, Int.natCast_nonneg]
  refine ⟨fun q => s12 (by omega), fun q => ⟨fun q2 => s12 (by omega), fun q2 => ?_⟩⟩
  rw [if_neg (by omega)] at hQ
  exact hQ σ Sm.rf
theorem sMin_i {v : Nat → Int} {p : Int × Int} (hp : -1 ≤ p.2) : ∀ n, -1 ≤ (sMin v p n).2
  | 0 => hp
  | n + 1 => by
    simp only [sMin]
    split
    · show -1 ≤ (n : Int); omega
    · exact sMin_i hp n
set_option maxHeartbeats 4000000 in
theorem c5_missed {w : Int} (hR : CR Γ σ c S) (hQ : ∀ σ', Sm (Scr c) σ σ' → Q (vi (a_missed S w)) (Γ, σ')) : xRM M_X5_missed (d + 11) (0, 0) [vr c, vi w] (Γ, σ) Q := by
  refine xRM_of (by decide) (Nat.le_of_ble_eq_true rfl) ?_
  have hW := hR.wok
  obtain ⟨hS, hX, hl, hV, hA, htc, hT⟩ := id hW
  obtain ⟨hC, -, hP, hK, hKr, -⟩ := id hR.1
  have hnf := hA.1
  have hnc := hA.2.1
  unfold a_missed at hQ
  have s12 : (w = 0 ∨ w = 1) → xR M_X5_missed (d + 11) (0, 0) 12 [vr c, vi w, vu, vu, vu, vu] [] (Γ, σ) Q := by
    intro hw
    rw [if_pos hw] at hQ
    have loop : ∀ (m f : Nat) (σ1 : Nat → Nat → Int) (v5 : xV), f + m = zF S → Sm (Scr c) σ σ1 → KT2 σ1 (c + 4) (zF S) (zC S) (tCt (zE S) (zA S) (zC S)) (sGlad (zE S) (zA S) (zC S)) (tIc (zE S) (zA S) (zC S)) (zA S 2) → xR M_X5_missed (d + 11) (0, 0) 26 [vr c, vi w, vi (sMin (jW (zE S) (zA S) (zF S) (zC S)) ((jB (zE S) (zA S) (zF S) (zC S)).1, -1) f).1, vi (sMin (jW (zE S) (zA S) (zF S) (zC S)) ((jB (zE S) (zA S) (zF S) (zC S)).1, -1) f).2, vi (f : Int), v5] [] (Γ, σ1) Q := by
      intro m
      induction m with
      | zero =>
        intro f σ1 v5 hf e1 e2
        have hV1 := (hR.scr e1).wok.2.2.2.1
        have ef : f = zF S := by omega
        refine b_X5_missed_26 _ _ _ _ ?_
        simp only [k_X5_missed_26, x_push, x_iload, x_lload, x_aload, x_bin, x_div, x_un, x_lbin, x_ldiv, x_lcmp, x_i2l, x_l2i, x_dup, x_pop, x_dup2, x_c1, x_c2, x_null, x_cat1, x_istore, x_astore, x_lstore, x_iinc, x_nol, x_tsw, xsw, x_lsw, xlsw, x_ret, x_zret, x_lret, x_aret, x_vret, x_getI, x_getL, x_getR, x_putI, x_putZ, x_putL, x_iaload, x_zaload, x_aaload, x_iastore, x_zastore, x_alen, x_mm, x_acopy, xpush, xJ, xK, x_cV0, x_cV1, x_cV2, x_cV3, x_cV4, x_cV5, x_cV6, x_cV7, x_cV8, x_cS1, x_cS2, x_cS3, x_cS4, x_cS5, List.getD_cons_zero, List.getD_cons_succ, List.set_cons_zero, List.set_cons_succ, List.length_cons, List.length_nil, Nat.zero_add, true_and, and_true, List.getD_nil, not_true, not_false_eq_true, Int.toNat_natCast, false_implies, true_implies, if_true, if_false, Int.toNat_zero, Int.toNat_one, true_or, or_true, Int.reduceEq, Int.reduceLT, Int.reduceLE, Int.reduceNe, Int.reduceNeg, Int.reduceAdd, Int.reduceSub, Int.reduceMul, Int.reduceToNat, Nat.reduceLT, Nat.reduceLeDiff, Nat.reduceAdd, Nat.reduceEqDiff, Nat.reduceSub, not_false_iff, and_self, implies_true, false_and, and_false, or_self, false_or, or_false, Int.cast_ofNat_Int, Int.natCast_nonneg, SC.f0 hC, SC.f1 hC, SC.f2 hC, SC.f3 hC, SC.f4 hC, SC.f5 hC, SC.f6 hC, SC.f7 hC, SW.f0 hS, SW.f1 hS, SW.f2 hS, SW.f3 hS, SW.f4 hS, SW.f5 hS, SW.f6 hS, SW.f7 hS, SW.f8 hS, SW.f9 hS, SW.l9 hS, SW.a9 hS, SW.e9 hS, SW.f10 hS, SW.l10 hS, SW.a10 hS, SW.e10 hS, SW.f11 hS, SW.l11 hS, SW.a11 hS, SW.e11 hS, SW.f12 hS, SW.l12 hS, SW.a12 hS, SW.e12 hS, SW.f13 hS, SW.l13 hS, SW.a13 hS, SW.e13 hS, SW.f14 hS, SW.l14 hS, SW.a14 hS, SW.e14 hS, SW.f15 hS, SW.l15 hS, SW.a15 hS, SW.e15 hS, hV1.2.2.1, eq_true (show (zF S : Int) ≤ (f : Int) by omega)]
        have key := hQ σ1 e1
        rw [ef]
        refine ⟨fun q => ?_, fun q => ?_⟩
        · rw [if_neg q] at key; exact key
        · rw [if_pos (Classical.not_not.mp q)] at key; exact key
      | succ m ih =>
        intro f σ1 v5 hf e1 e2
        have hV1 := (hR.scr e1).wok.2.2.2.1
        have h6 : f < 6 := by omega
        refine b_X5_missed_26 _ _ _ _ ?_
        simp only [k_X5_missed_26, x_push, x_iload, x_lload, x_aload, x_bin, x_div, x_un, x_lbin, x_ldiv, x_lcmp, x_i2l, x_l2i, x_dup, x_pop, x_dup2, x_c1, x_c2, x_null, x_cat1, x_istore, x_astore, x_lstore, x_iinc, x_nol, x_tsw, xsw, x_lsw, xlsw, x_ret, x_zret, x_lret, x_aret, x_vret, x_getI, x_getL, x_getR, x_putI, x_putZ, x_putL, x_iaload, x_zaload, x_aaload, x_iastore, x_zastore, x_alen, x_mm, x_acopy, xpush, xJ, xK, x_cV0, x_cV1, x_cV2, x_cV3, x_cV4, x_cV5, x_cV6, x_cV7, x_cV8, x_cS1, x_cS2, x_cS3, x_cS4, x_cS5, List.getD_cons_zero, List.getD_cons_succ, List.set_cons_zero, List.set_cons_succ, List.length_cons, List.length_nil, Nat.zero_add, true_and, and_true, List.getD_nil, not_true, not_false_eq_true, Int.toNat_natCast, false_implies, true_implies, if_true, if_false, Int.toNat_zero, Int.toNat_one, true_or, or_true, Int.reduceEq, Int.reduceLT, Int.reduceLE, Int.reduceNe, Int.reduceNeg, Int.reduceAdd, Int.reduceSub, Int.reduceMul, Int.reduceToNat, Nat.reduceLT, Nat.reduceLeDiff, Nat.reduceAdd, Nat.reduceEqDiff, Nat.reduceSub, not_false_iff, and_self, implies_true, false_and, and_false, or_self, false_or, or_false, Int.cast_ofNat_Int, Int.natCast_nonneg, SC.f0 hC, SC.f1 hC, SC.f2 hC, SC.f3 hC, SC.f4 hC, SC.f5 hC, SC.f6 hC, SC.f7 hC, SW.f0 hS, SW.f1 hS, SW.f2 hS, SW.f3 hS, SW.f4 hS, SW.f5 hS, SW.f6 hS, SW.f7 hS, SW.f8 hS, SW.f9 hS, SW.l9 hS, SW.a9 hS, SW.e9 hS, SW.f10 hS, SW.l10 hS, SW.a10 hS, SW.e10 hS, SW.f11 hS, SW.l11 hS, SW.a11 hS, SW.e11 hS, SW.f12 hS, SW.l12 hS, SW.a12 hS, SW.e12 hS, SW.f13 hS, SW.l13 hS, SW.a13 hS, SW.e13 hS, SW.f14 hS, SW.l14 hS, SW.a14 hS, SW.e14 hS, SW.f15 hS, SW.l15 hS, SW.a15 hS, SW.e15 hS, SK.f0 hK, SK.f1 hK, SK.f2 hK, SK.f3 hK, SK.f4 hK, SK.f5 hK, SK.f6 hK, SK.f7 hK, SK.f8 hK, SK.f9 hK, SK.l9 hK, SK.a9 hK, SK.e9 hK, SK.f10 hK, SK.l10 hK, SK.a10 hK, SK.e10 hK, SK.f11 hK, SK.l11 hK, SK.a11 hK, SK.e11 hK, SK.f12 hK, SK.l12 hK, SK.a12 hK, SK.e12 hK, SK.f13 hK, SK.l13 hK, SK.a13 hK, SK.e13 hK, SK.f14 hK, SK.l14 hK, SK.a14 hK, SK.f15 hK, SK.l15 hK, SK.a15 hK, SK.f16 hK, SK.l16 hK, SK.a16 hK, hV1.2.2.1, eq_false (show ¬ ((zF S : Int) ≤ (f : Int)) by omega), mask_o h6]
        refine c_bestOf (mask := 63 - 2 ^ f) (ct' := ctx f (tCt (zE S) (zA S) (zC S))) hK hKr hA e2 (mask_all ⟨f, h6⟩).2.1 (fun k hk g hg => ctm_ctx h6 (by omega)) (Or.inl ⟨rfl, rfl⟩) (fun σ2 k1 k2 k3 k4 k5 k6 k7 => ?_)
        simp only [x_push, x_iload, x_lload, x_aload, x_bin, x_div, x_un, x_lbin, x_ldiv, x_lcmp, x_i2l, x_l2i, x_dup, x_pop, x_dup2, x_c1, x_c2, x_null, x_cat1, x_istore, x_astore, x_lstore, x_iinc, x_nol, x_tsw, xsw, x_lsw, xlsw, x_ret, x_zret, x_lret, x_aret, x_vret, x_getI, x_getL, x_getR, x_putI, x_putZ, x_putL, x_iaload, x_zaload, x_aaload, x_iastore, x_zastore, x_alen, x_mm, x_acopy, xpush, xJ, xK, x_cV0, x_cV1, x_cV2, x_cV3, x_cV4, x_cV5, x_cV6, x_cV7, x_cV8, x_cS1, x_cS2, x_cS3, x_cS4, x_cS5, List.getD_cons_zero, List.getD_cons_succ, List.set_cons_zero, List.set_cons_succ, List.length_cons, List.length_nil, Nat.zero_add, true_and, and_true, List.getD_nil, not_true, not_false_eq_true, Int.toNat_natCast, false_implies, true_implies, if_true, if_false, Int.toNat_zero, Int.toNat_one, true_or, or_true, Int.reduceEq, Int.reduceLT, Int.reduceLE, Int.reduceNe, Int.reduceNeg, Int.reduceAdd, Int.reduceSub, Int.reduceMul, Int.reduceToNat, Nat.reduceLT, Nat.reduceLeDiff, Nat.reduceAdd, Nat.reduceEqDiff, Nat.reduceSub, not_false_iff, and_self, implies_true, false_and, and_false, or_self, false_or, or_false, Int.cast_ofNat_Int, Int.natCast_nonneg]
        have go := fun v5 => ih (f + 1) σ2 v5 (by omega) (e1.tr k1) k2
        have eJ : (sBest (ctx f (tCt (zE S) (zA S) (zC S))) (sGlad (zE S) (zA S) (zC S)) (zF S) (zC S) (zA S 2)).1 = jW (zE S) (zA S) (zF S) (zC S) f := rfl
        rw [eJ, oadd_id (by omega) (by omega)]
        refine ⟨fun q => ?_, fun q => ⟨fun q2 => ?_, fun q2 => ?_⟩⟩
        · have g := go (vi (jW (zE S) (zA S) (zF S) (zC S) f))
          simp only [sMin] at g
          rw [if_pos (Or.inl q)] at g
          exact g
        · have g := go (vi (jW (zE S) (zA S) (zF S) (zC S) f))
          simp only [sMin] at g
          rw [if_neg (by omega)] at g
          exact g
        · have g := go (vi (jW (zE S) (zA S) (zF S) (zC S) f))
          simp only [sMin] at g
          rw [if_pos (by omega)] at g
          exact g
    refine b_X5_missed_12 _ _ _ _ ?_
    simp only [k_X5_missed_12, x_push, x_iload, x_lload, x_aload, x_bin, x_div, x_un, x_lbin, x_ldiv, x_lcmp, x_i2l, x_l2i, x_dup, x_pop, x_dup2, x_c1, x_c2, x_null, x_cat1, x_istore, x_astore, x_lstore, x_iinc, x_nol, x_tsw, xsw, x_lsw, xlsw, x_ret, x_zret, x_lret, x_aret, x_vret, x_getI, x_getL, x_getR, x_putI, x_putZ, x_putL, x_iaload, x_zaload, x_aaload, x_iastore, x_zastore, x_alen, x_mm, x_acopy, xpush, xJ, xK, x_cV0, x_cV1, x_cV2, x_cV3, x_cV4, x_cV5, x_cV6, x_cV7, x_cV8, x_cS1, x_cS2, x_cS3, x_cS4, x_cS5, List.getD_cons_zero, List.getD_cons_succ, List.set_cons_zero, List.set_cons_succ, List.length_cons, List.length_nil, Nat.zero_add, true_and, and_true, List.getD_nil, not_true, not_false_eq_true, Int.toNat_natCast, false_implies, true_implies, if_true, if_false, Int.toNat_zero, Int.toNat_one, true_or, or_true, Int.reduceEq, Int.reduceLT, Int.reduceLE, Int.reduceNe, Int.reduceNeg, Int.reduceAdd, Int.reduceSub, Int.reduceMul, Int.reduceToNat, Nat.reduceLT, Nat.reduceLeDiff, Nat.reduceAdd, Nat.reduceEqDiff, Nat.reduceSub, not_false_iff, and_self, implies_true, false_and, and_false, or_self, false_or, or_false, Int.cast_ofNat_Int, Int.natCast_nonneg, SC.f0 hC, SC.f1 hC, SC.f2 hC, SC.f3 hC, SC.f4 hC, SC.f5 hC, SC.f6 hC, SC.f7 hC]
    refine c_gladdest hR.1 (Or.inl rfl) hW (fun σ1 e1 e2 e3 e4 e5 => ?_)
    simp only [x_push, x_iload, x_lload, x_aload, x_bin, x_div, x_un, x_lbin, x_ldiv, x_lcmp, x_i2l, x_l2i, x_dup, x_pop, x_dup2, x_c1, x_c2, x_null, x_cat1, x_istore, x_astore, x_lstore, x_iinc, x_nol, x_tsw, xsw, x_lsw, xlsw, x_ret, x_zret, x_lret, x_aret, x_vret, x_getI, x_getL, x_getR, x_putI, x_putZ, x_putL, x_iaload, x_zaload, x_aaload, x_iastore, x_zastore, x_alen, x_mm, x_acopy, xpush, xJ, xK, x_cV0, x_cV1, x_cV2, x_cV3, x_cV4, x_cV5, x_cV6, x_cV7, x_cV8, x_cS1, x_cS2, x_cS3, x_cS4, x_cS5, List.getD_cons_zero, List.getD_cons_succ, List.set_cons_zero, List.set_cons_succ, List.length_cons, List.length_nil, Nat.zero_add, true_and, and_true, List.getD_nil, not_true, not_false_eq_true, Int.toNat_natCast, false_implies, true_implies, if_true, if_false, Int.toNat_zero, Int.toNat_one, true_or, or_true, Int.reduceEq, Int.reduceLT, Int.reduceLE, Int.reduceNe, Int.reduceNeg, Int.reduceAdd, Int.reduceSub, Int.reduceMul, Int.reduceToNat, Nat.reduceLT, Nat.reduceLeDiff, Nat.reduceAdd, Nat.reduceEqDiff, Nat.reduceSub, not_false_iff, and_self, implies_true, false_and, and_false, or_self, false_or, or_false, Int.cast_ofNat_Int, Int.natCast_nonneg]
    exact loop (zF S) 0 σ1 vu (by omega) e1 e2
  refine b_X5_missed_0 _ _ _ _ ?_
  show k_X5_missed_0 (d + 10) Q (0, 0) [vr c, vi w, vu, vu, vu, vu] [] (Γ, σ)
  simp only [k_X5_missed_0, x_push, x_iload, x_lload, x_aload, x_bin, x_div, x_un, x_lbin, x_ldiv, x_lcmp, x_i2l, x_l2i, x_dup, x_pop, x_dup2, x_c1, x_c2, x_null, x_cat1, x_istore, x_astore, x_lstore, x_iinc, x_nol, x_tsw, xsw, x_lsw, xlsw, x_ret, x_zret, x_lret, x_aret, x_vret, x_getI, x_getL, x_getR, x_putI, x_putZ, x_putL, x_iaload, x_zaload, x_aaload, x_iastore, x_zastore, x_alen, x_mm, x_acopy, xpush, xJ, xK, x_cV0, x_cV1, x_cV2, x_cV3, x_cV4, x_cV5, x_cV6, x_cV7, x_cV8, x_cS1, x_cS2, x_cS3, x_cS4, x_cS5, List.getD_cons_zero, List.getD_cons_succ, List.set_cons_zero, List.set_cons_succ, List.length_cons, List.length_nil, Nat.zero_add, true_and, and_true, List.getD_nil, not_true, not_false_eq_true, Int.toNat_natCast, false_implies, true_implies, if_true, if_false, Int.toNat_zero, Int.toNat_one, true_or, or_true, Int.reduceEq, Int.reduceLT, Int.reduceLE, Int.reduceNe, Int.reduceNeg, Int.reduceAdd, Int.reduceSub, Int.reduceMul, Int.reduceToNat, Nat.reduceLT, Nat.reduceLeDiff, Nat.reduceAdd, Nat.reduceEqDiff, Nat.reduceSub, not_false_iff, and_self, implies_true, false_and, and_false, or_self, false_or, or_false, Int.cast_ofNat_Int, Int.natCast_nonneg]
  refine ⟨fun q => s12 (by omega), fun q => ⟨fun q2 => s12 (by omega), fun q2 => ?_⟩⟩
  rw [if_neg (by omega)] at hQ
  exact hQ σ Sm.rf
end Cls
