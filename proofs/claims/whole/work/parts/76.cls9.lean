/-! ===== the class's calls: drawn, chance ===== -/
theorem oushr9 (x : Int) : 0 ≤ oushr x 9 ∧ oushr x 9 < 8388608 := by
  rw [oushr_def]
  have e : (Int32.ofInt 9).toUInt32 &&& Int32.toUInt32 31 = (9 : UInt32) := by decide
  rw [e]
  generalize (Int32.ofInt x).toUInt32 = u
  have h1 : (u >>> (9 : UInt32)).toNat = u.toNat / 512 := by
    rw [UInt32.toNat_shiftRight]
    simp [Nat.shiftRight_eq_div_pow]
  have h2 : u.toNat < 4294967296 := u.toNat_lt
  have h3 : (u >>> (9 : UInt32)).toInt32.toInt = ((u >>> (9 : UInt32)).toNat : Int) := BitVec.toInt_eq_toNat_of_lt (by show 2 * (u >>> (9 : UInt32)).toNat < 2 ^ 32; omega)
  rw [h3]
  omega
def sZ (seed : Int) : Nat → Int
  | 0 => seed
  | n + 1 => oadd (omul (sZ seed n) 1103515245) 12345
def sDr (seed : Int) (f : Nat) : Int := orem (oushr (sZ seed (f + 1)) 9) 100
theorem sDr_le (seed : Int) (f : Nat) : 0 ≤ sDr seed f ∧ sDr seed f ≤ 999 := by
  have h := oushr9 (sZ seed (f + 1))
  unfold sDr
  rw [orem_nn (by omega) (by omega) (by omega) (by omega)]
  omega
/-- joy of the plain way in a world -/
noncomputable def jPl (E : Nat → Nat → List Int) (A : Nat → Nat → Int) (nf nc : Nat) : Int := (pl (tCt E A nc) (sGlad E A nc) (tIc E A nc) (pW E A nf nc) nc 0 (A 2) 0 0).2.1
noncomputable def a_drawn (S : xSt) (seed : Int) : Int := jPl (zE S) (uM (zA S) (zF S) (sDr seed)) (zF S) (zC S)
/-- of n seeds those by which it is k or more -/
noncomputable def sTimes (S : xSt) (seed k : Int) : Nat → Nat
  | 0 => 0
  | n + 1 => sTimes S seed k n + (if k ≤ a_drawn S (oadd seed (n : Int)) then 1 else 0)
noncomputable def a_chance (S : xSt) (seed n k p : Int) : Int := if (1 ≤ n ∧ n ≤ 20) ∧ (0 ≤ k ∧ k < 1000) ∧ (p = 0 ∨ p = 1) then (if p = 0 then ((sTimes S seed k n.toNat / Nat.gcd (sTimes S seed k n.toNat) n.toNat : Nat) : Int) else ((n.toNat / Nat.gcd (sTimes S seed k n.toNat) n.toNat : Nat) : Int)) else -4611686018427387904
theorem sTimes_le (S : xSt) (seed k : Int) : ∀ n, sTimes S seed k n ≤ n
  | 0 => Nat.le_refl _
  | n + 1 => by
    have := sTimes_le S seed k n
    simp only [sTimes]
    split <;> omega
theorem uM_self {A : Nat → Nat → Int} {nf : Nat} : uM A nf (A 2) = A := by
  funext k f
  unfold uM
  by_cases z : k = 2 ∧ f < nf
  · rw [if_pos z, z.1]
  · rw [if_neg z]
theorem uM_upd {A : Nat → Nat → Int} {nf j : Nat} {g : Nat → Int} {v : Int} (h : j < nf) : upd2 (uM A nf g) 2 j v = uM A nf (updf g j v) := by
  funext k f
  unfold upd2 uM updf
  by_cases z : k = 2 ∧ f = j
  · rw [if_pos z, if_pos ⟨z.1, by omega⟩, if_pos z.2]
  · rw [if_neg z]
    by_cases y : k = 2 ∧ f < nf
    · rw [if_pos y, if_pos y, if_neg (fun e => z ⟨y.1, e⟩)]
    · rw [if_neg y, if_neg y]
theorem uM_congr {A : Nat → Nat → Int} {nf : Nat} {g g' : Nat → Int} (h : ∀ f, f < nf → g f = g' f) : uM A nf g = uM A nf g' := by
  funext k f
  unfold uM
  by_cases y : k = 2 ∧ f < nf
  · rw [if_pos y, if_pos y, h f y.2]
  · rw [if_neg y, if_neg y]
section Cls
variable {Γ : xSh} {σ : Nat → Nat → Int} {c d : Nat} {S : xSt} {Q : xV → xMem → Prop}
set_option maxHeartbeats 4000000 in
theorem c_plainJoy {seed : Int} {σ0 : Nat → Nat → Int} {g : Nat → Int} (hR : CR Γ σ0 c S) (h0 : Sm (Scr c) σ0 σ) (hV : WV σ (c + 69) (zF S) (zC S) (uM (zA S) (zF S) g)) (hQ : ∀ σ', Sm (Scr c) σ0 σ' → WV σ' (c + 69) (zF S) (zC S) (uM (zA S) (zF S) (sDr seed)) → Q (vi (a_drawn S seed)) (Γ, σ')) : xRM M_X5_plainJoyDrawn (d + 6) (0, 0) [vr c, vi seed] (Γ, σ) Q := by
  refine xRM_of (by decide) (Nat.le_of_ble_eq_true rfl) ?_
  obtain ⟨hS, hX, hl, hV0, hA, htc, hT⟩ := hR.wok
  obtain ⟨hC, -, hP, hK, hKr, -⟩ := id hR.1
  have hS2 := hR.1.2.2.2.2.2.2.2.1
  have hnf := hA.1
  have hnc := hA.2.1
  have loop : ∀ (m f : Nat) (σ1 : Nat → Nat → Int) (g : Nat → Int), f + m = zF S → Sm (Scr c) σ0 σ1 → WV σ1 (c + 69) (zF S) (zC S) (uM (zA S) (zF S) g) → (∀ i, i < f → g i = sDr seed i) → xR M_X5_plainJoyDrawn (d + 6) (0, 0) 4 [vr c, vi seed, vi (sZ seed f), vi (f : Int)] [] (Γ, σ1) Q := by
    intro m
    induction m with
    | zero =>
      intro f σ1 g hf e1 e2 e3
      rw [uM_congr (g' := sDr seed) (fun i hi => e3 i (by omega))] at e2
      have hA1 : AI (zF S) (zC S) (zT S) (uM (zA S) (zF S) (sDr seed)) := hA.means (fun f _ => sDr_le seed f)
      refine b_X5_plainJoyDrawn_4 _ _ _ _ ?_
      simp only [k_X5_plainJoyDrawn_4, x_push, x_iload, x_lload, x_aload, x_bin, x_div, x_un, x_lbin, x_ldiv, x_lcmp, x_i2l, x_l2i, x_dup, x_pop, x_dup2, x_c1, x_c2, x_null, x_cat1, x_istore, x_astore, x_lstore, x_iinc, x_nol, x_tsw, xsw, x_lsw, xlsw, x_ret, x_zret, x_lret, x_aret, x_vret, x_getI, x_getL, x_getR, x_putI, x_putZ, x_putL, x_iaload, x_zaload, x_aaload, x_iastore, x_zastore, x_alen, x_mm, x_acopy, xpush, xJ, xK, x_cV0, x_cV1, x_cV2, x_cV3, x_cV4, x_cV5, x_cV6, x_cV7, x_cV8, x_cS1, x_cS2, x_cS3, x_cS4, x_cS5, List.getD_cons_zero, List.getD_cons_succ, List.set_cons_zero, List.set_cons_succ, List.length_cons, List.length_nil, Nat.zero_add, true_and, and_true, List.getD_nil, not_true, not_false_eq_true, Int.toNat_natCast, false_implies, true_implies, if_true, if_false, Int.toNat_zero, Int.toNat_one, true_or, or_true, Int.reduceEq, Int.reduceLT, Int.reduceLE, Int.reduceNe, Int.reduceNeg, Int.reduceAdd, Int.reduceSub, Int.reduceMul, Int.reduceToNat, Nat.reduceLT, Nat.reduceLeDiff, Nat.reduceAdd, Nat.reduceEqDiff, Nat.reduceSub, not_false_iff, and_self, implies_true, false_and, and_false, or_self, false_or, or_false, Int.cast_ofNat_Int, Int.natCast_nonneg, SC.f0 hC, SC.f1 hC, SC.f2 hC, SC.f3 hC, SC.f4 hC, SC.f5 hC, SC.f6 hC, SC.f7 hC, SW.f0 hS2, SW.f1 hS2, SW.f2 hS2, SW.f3 hS2, SW.f4 hS2, SW.f5 hS2, SW.f6 hS2, SW.f7 hS2, SW.f8 hS2, SW.f9 hS2, SW.l9 hS2, SW.a9 hS2, SW.e9 hS2, SW.f10 hS2, SW.l10 hS2, SW.a10 hS2, SW.e10 hS2, SW.f11 hS2, SW.l11 hS2, SW.a11 hS2, SW.e11 hS2, SW.f12 hS2, SW.l12 hS2, SW.a12 hS2, SW.e12 hS2, SW.f13 hS2, SW.l13 hS2, SW.a13 hS2, SW.e13 hS2, SW.f14 hS2, SW.l14 hS2, SW.a14 hS2, SW.e14 hS2, SW.f15 hS2, SW.l15 hS2, SW.a15 hS2, SW.e15 hS2, SK.f0 hK, SK.f1 hK, SK.f2 hK, SK.f3 hK, SK.f4 hK, SK.f5 hK, SK.f6 hK, SK.f7 hK, SK.f8 hK, SK.f9 hK, SK.l9 hK, SK.a9 hK, SK.e9 hK, SK.f10 hK, SK.l10 hK, SK.a10 hK, SK.e10 hK, SK.f11 hK, SK.l11 hK, SK.a11 hK, SK.e11 hK, SK.f12 hK, SK.l12 hK, SK.a12 hK, SK.e12 hK, SK.f13 hK, SK.l13 hK, SK.a13 hK, SK.e13 hK, SK.f14 hK, SK.l14 hK, SK.a14 hK, SK.f15 hK, SK.l15 hK, SK.a15 hK, SK.f16 hK, SK.l16 hK, SK.a16 hK, e2.2.2.1, eq_true (show (zF S : Int) ≤ (f : Int) by omega)]
      refine c_look hK hKr (by omega) (hR.wokW e1 e2 hA1) (fun σ2 h1 h2 => ?_)
      have s2 := e1.tr (h1.mono (fun q => RLk_Scr2))
      have hV2 : WV σ2 (c + 69) (zF S) (zC S) (uM (zA S) (zF S) (sDr seed)) := e2.same (fun k a b => h1 k (fun z => by
        rcases z with z | z | ⟨i, z1, z2⟩
        · have := z.2; omega
        · omega
        · omega))
      simp only [x_push, x_iload, x_lload, x_aload, x_bin, x_div, x_un, x_lbin, x_ldiv, x_lcmp, x_i2l, x_l2i, x_dup, x_pop, x_dup2, x_c1, x_c2, x_null, x_cat1, x_istore, x_astore, x_lstore, x_iinc, x_nol, x_tsw, xsw, x_lsw, xlsw, x_ret, x_zret, x_lret, x_aret, x_vret, x_getI, x_getL, x_getR, x_putI, x_putZ, x_putL, x_iaload, x_zaload, x_aaload, x_iastore, x_zastore, x_alen, x_mm, x_acopy, xpush, xJ, xK, x_cV0, x_cV1, x_cV2, x_cV3, x_cV4, x_cV5, x_cV6, x_cV7, x_cV8, x_cS1, x_cS2, x_cS3, x_cS4, x_cS5, List.getD_cons_zero, List.getD_cons_succ, List.set_cons_zero, List.set_cons_succ, List.length_cons, List.length_nil, Nat.zero_add, true_and, and_true, List.getD_nil, not_true, not_false_eq_true, Int.toNat_natCast, false_implies, true_implies, if_true, if_false, Int.toNat_zero, Int.toNat_one, true_or, or_true, Int.reduceEq, Int.reduceLT, Int.reduceLE, Int.reduceNe, Int.reduceNeg, Int.reduceAdd, Int.reduceSub, Int.reduceMul, Int.reduceToNat, Nat.reduceLT, Nat.reduceLeDiff, Nat.reduceAdd, Nat.reduceEqDiff, Nat.reduceSub, not_false_iff, and_self, implies_true, false_and, and_false, or_self, false_or, or_false, Int.cast_ofNat_Int, Int.natCast_nonneg, SC.f0 hC, SC.f1 hC, SC.f2 hC, SC.f3 hC, SC.f4 hC, SC.f5 hC, SC.f6 hC, SC.f7 hC, SK.f0 hK, SK.f1 hK, SK.f2 hK, SK.f3 hK, SK.f4 hK, SK.f5 hK, SK.f6 hK, SK.f7 hK, SK.f8 hK, SK.f9 hK, SK.l9 hK, SK.a9 hK, SK.e9 hK, SK.f10 hK, SK.l10 hK, SK.a10 hK, SK.e10 hK, SK.f11 hK, SK.l11 hK, SK.a11 hK, SK.e11 hK, SK.f12 hK, SK.l12 hK, SK.a12 hK, SK.e12 hK, SK.f13 hK, SK.l13 hK, SK.a13 hK, SK.e13 hK, SK.f14 hK, SK.l14 hK, SK.a14 hK, SK.f15 hK, SK.l15 hK, SK.a15 hK, SK.f16 hK, SK.l16 hK, SK.a16 hK]
      refine c_showPlainly (wi := uM (zA S) (zF S) (sDr seed) 5) hK hKr hS2 (by omega) (KT2_of h2) (TB_of hA1) (fun k hk => (hV2.2.2.2.2.2 k hk).2) (fun σ3 f1 f2 => ?_)
      simp only [x_push, x_iload, x_lload, x_aload, x_bin, x_div, x_un, x_lbin, x_ldiv, x_lcmp, x_i2l, x_l2i, x_dup, x_pop, x_dup2, x_c1, x_c2, x_null, x_cat1, x_istore, x_astore, x_lstore, x_iinc, x_nol, x_tsw, xsw, x_lsw, xlsw, x_ret, x_zret, x_lret, x_aret, x_vret, x_getI, x_getL, x_getR, x_putI, x_putZ, x_putL, x_iaload, x_zaload, x_aaload, x_iastore, x_zastore, x_alen, x_mm, x_acopy, xpush, xJ, xK, x_cV0, x_cV1, x_cV2, x_cV3, x_cV4, x_cV5, x_cV6, x_cV7, x_cV8, x_cS1, x_cS2, x_cS3, x_cS4, x_cS5, List.getD_cons_zero, List.getD_cons_succ, List.set_cons_zero, List.set_cons_succ, List.length_cons, List.length_nil, Nat.zero_add, true_and, and_true, List.getD_nil, not_true, not_false_eq_true, Int.toNat_natCast, false_implies, true_implies, if_true, if_false, Int.toNat_zero, Int.toNat_one, true_or, or_true, Int.reduceEq, Int.reduceLT, Int.reduceLE, Int.reduceNe, Int.reduceNeg, Int.reduceAdd, Int.reduceSub, Int.reduceMul, Int.reduceToNat, Nat.reduceLT, Nat.reduceLeDiff, Nat.reduceAdd, Nat.reduceEqDiff, Nat.reduceSub, not_false_iff, and_self, implies_true, false_and, and_false, or_self, false_or, or_false, Int.cast_ofNat_Int, Int.natCast_nonneg, SC.f0 hC, SC.f1 hC, SC.f2 hC, SC.f3 hC, SC.f4 hC, SC.f5 hC, SC.f6 hC, SC.f7 hC, SK.f0 hK, SK.f1 hK, SK.f2 hK, SK.f3 hK, SK.f4 hK, SK.f5 hK, SK.f6 hK, SK.f7 hK, SK.f8 hK, SK.f9 hK, SK.l9 hK, SK.a9 hK, SK.e9 hK, SK.f10 hK, SK.l10 hK, SK.a10 hK, SK.e10 hK, SK.f11 hK, SK.l11 hK, SK.a11 hK, SK.e11 hK, SK.f12 hK, SK.l12 hK, SK.a12 hK, SK.e12 hK, SK.f13 hK, SK.l13 hK, SK.a13 hK, SK.e13 hK, SK.f14 hK, SK.l14 hK, SK.a14 hK, SK.f15 hK, SK.l15 hK, SK.a15 hK, SK.f16 hK, SK.l16 hK, SK.a16 hK]
      have f3 : ∀ k, k < zC S → σ3 (c + 4 + 21) k = pW (zE S) (uM (zA S) (zF S) (sDr seed)) (zF S) (zC S) k := fun k hk => (f2 k hk).trans (sPlain_congr _ _ _ _ _ (fun j hj => by omega) k (by omega))
      refine c_play (s := pW (zE S) (uM (zA S) (zF S) (sDr seed)) (zF S) (zC S)) hK hKr ((KT2_of h2).sm (f1.mono (fun q z => by omega)) hnc) (TB_of hA1) f3 (fun k hk => sPlain_ok _ _ _ _ (fun j hj => by omega) k (by omega)) (fun σ4 g1 g2 g3 g4 g5 g6 => ?_)
      simp only [x_push, x_iload, x_lload, x_aload, x_bin, x_div, x_un, x_lbin, x_ldiv, x_lcmp, x_i2l, x_l2i, x_dup, x_pop, x_dup2, x_c1, x_c2, x_null, x_cat1, x_istore, x_astore, x_lstore, x_iinc, x_nol, x_tsw, xsw, x_lsw, xlsw, x_ret, x_zret, x_lret, x_aret, x_vret, x_getI, x_getL, x_getR, x_putI, x_putZ, x_putL, x_iaload, x_zaload, x_aaload, x_iastore, x_zastore, x_alen, x_mm, x_acopy, xpush, xJ, xK, x_cV0, x_cV1, x_cV2, x_cV3, x_cV4, x_cV5, x_cV6, x_cV7, x_cV8, x_cS1, x_cS2, x_cS3, x_cS4, x_cS5, List.getD_cons_zero, List.getD_cons_succ, List.set_cons_zero, List.set_cons_succ, List.length_cons, List.length_nil, Nat.zero_add, true_and, and_true, List.getD_nil, not_true, not_false_eq_true, Int.toNat_natCast, false_implies, true_implies, if_true, if_false, Int.toNat_zero, Int.toNat_one, true_or, or_true, Int.reduceEq, Int.reduceLT, Int.reduceLE, Int.reduceNe, Int.reduceNeg, Int.reduceAdd, Int.reduceSub, Int.reduceMul, Int.reduceToNat, Nat.reduceLT, Nat.reduceLeDiff, Nat.reduceAdd, Nat.reduceEqDiff, Nat.reduceSub, not_false_iff, and_self, implies_true, false_and, and_false, or_self, false_or, or_false, Int.cast_ofNat_Int, Int.natCast_nonneg, SC.f0 hC, SC.f1 hC, SC.f2 hC, SC.f3 hC, SC.f4 hC, SC.f5 hC, SC.f6 hC, SC.f7 hC, SK.f0 hK, SK.f1 hK, SK.f2 hK, SK.f3 hK, SK.f4 hK, SK.f5 hK, SK.f6 hK, SK.f7 hK, SK.f8 hK, SK.f9 hK, SK.l9 hK, SK.a9 hK, SK.e9 hK, SK.f10 hK, SK.l10 hK, SK.a10 hK, SK.e10 hK, SK.f11 hK, SK.l11 hK, SK.a11 hK, SK.e11 hK, SK.f12 hK, SK.l12 hK, SK.a12 hK, SK.e12 hK, SK.f13 hK, SK.l13 hK, SK.a13 hK, SK.e13 hK, SK.f14 hK, SK.l14 hK, SK.a14 hK, SK.f15 hK, SK.l15 hK, SK.a15 hK, SK.f16 hK, SK.l16 hK, SK.a16 hK, g4]
      refine hQ σ4 ((s2.tr (f1.mono (fun q z => Or.inl (by omega)))).tr (g1.mono (fun q z => Or.inl (by omega)))) (hV2.same (fun k a b => ?_))
      rw [g1 k (by omega), f1 k (by omega)]
    | succ m ih =>
      intro f σ1 g hf e1 e2 e3
      refine b_X5_plainJoyDrawn_4 _ _ _ _ ?_
      simp only [k_X5_plainJoyDrawn_4, x_push, x_iload, x_lload, x_aload, x_bin, x_div, x_un, x_lbin, x_ldiv, x_lcmp, x_i2l, x_l2i, x_dup, x_pop, x_dup2, x_c1, x_c2, x_null, x_cat1, x_istore, x_astore, x_lstore, x_iinc, x_nol, x_tsw, xsw, x_lsw, xlsw, x_ret, x_zret, x_lret, x_aret, x_vret, x_getI, x_getL, x_getR, x_putI, x_putZ, x_putL, x_iaload, x_zaload, x_aaload, x_iastore, x_zastore, x_alen, x_mm, x_acopy, xpush, xJ, xK, x_cV0, x_cV1, x_cV2, x_cV3, x_cV4, x_cV5, x_cV6, x_cV7, x_cV8, x_cS1, x_cS2, x_cS3, x_cS4, x_cS5, List.getD_cons_zero, List.getD_cons_succ, List.set_cons_zero, List.set_cons_succ, List.length_cons, List.length_nil, Nat.zero_add, true_and, and_true, List.getD_nil, not_true, not_false_eq_true, Int.toNat_natCast, false_implies, true_implies, if_true, if_false, Int.toNat_zero, Int.toNat_one, true_or, or_true, Int.reduceEq, Int.reduceLT, Int.reduceLE, Int.reduceNe, Int.reduceNeg, Int.reduceAdd, Int.reduceSub, Int.reduceMul, Int.reduceToNat, Nat.reduceLT, Nat.reduceLeDiff, Nat.reduceAdd, Nat.reduceEqDiff, Nat.reduceSub, not_false_iff, and_self, implies_true, false_and, and_false, or_self, false_or, or_false, Int.cast_ofNat_Int, Int.natCast_nonneg, SC.f0 hC, SC.f1 hC, SC.f2 hC, SC.f3 hC, SC.f4 hC, SC.f5 hC, SC.f6 hC, SC.f7 hC, SW.f0 hS2, SW.f1 hS2, SW.f2 hS2, SW.f3 hS2, SW.f4 hS2, SW.f5 hS2, SW.f6 hS2, SW.f7 hS2, SW.f8 hS2, SW.f9 hS2, SW.l9 hS2, SW.a9 hS2, SW.e9 hS2, SW.f10 hS2, SW.l10 hS2, SW.a10 hS2, SW.e10 hS2, SW.f11 hS2, SW.l11 hS2, SW.a11 hS2, SW.e11 hS2, SW.f12 hS2, SW.l12 hS2, SW.a12 hS2, SW.e12 hS2, SW.f13 hS2, SW.l13 hS2, SW.a13 hS2, SW.e13 hS2, SW.f14 hS2, SW.l14 hS2, SW.a14 hS2, SW.e14 hS2, SW.f15 hS2, SW.l15 hS2, SW.a15 hS2, SW.e15 hS2, e2.2.2.1, eq_false (show ¬ ((zF S : Int) ≤ (f : Int)) by omega), eq_true (show (f : Int) < 6 by omega)]
      have key := ih (f + 1) (upd2 σ1 (c + 69 + 3) f (sDr seed f)) (updf g f (sDr seed f)) (by omega) (e1.put (in_69 (by omega))) (by rw [← uM_upd (by omega)]; exact e2.p2) (fun i hi => ?_)
      · rw [oadd_id (a := (f : Int)) (by omega) (by omega)]
        exact key
      · by_cases e : i = f
        · rw [e, updf_eq]
        · rw [updf_ne e]; exact e3 i (by omega)
  refine b_X5_plainJoyDrawn_0 _ _ _ _ ?_
  show k_X5_plainJoyDrawn_0 (d + 5) Q (0, 0) [vr c, vi seed, vu, vu] [] (Γ, σ)
  simp only [k_X5_plainJoyDrawn_0, x_push, x_iload, x_lload, x_aload, x_bin, x_div, x_un, x_lbin, x_ldiv, x_lcmp, x_i2l, x_l2i, x_dup, x_pop, x_dup2, x_c1, x_c2, x_null, x_cat1, x_istore, x_astore, x_lstore, x_iinc, x_nol, x_tsw, xsw, x_lsw, xlsw, x_ret, x_zret, x_lret, x_aret, x_vret, x_getI, x_getL, x_getR, x_putI, x_putZ, x_putL, x_iaload, x_zaload, x_aaload, x_iastore, x_zastore, x_alen, x_mm, x_acopy, xpush, xJ, xK, x_cV0, x_cV1, x_cV2, x_cV3, x_cV4, x_cV5, x_cV6, x_cV7, x_cV8, x_cS1, x_cS2, x_cS3, x_cS4, x_cS5, List.getD_cons_zero, List.getD_cons_succ, List.set_cons_zero, List.set_cons_succ, List.length_cons, List.length_nil, Nat.zero_add, true_and, and_true, List.getD_nil, not_true, not_false_eq_true, Int.toNat_natCast, false_implies, true_implies, if_true, if_false, Int.toNat_zero, Int.toNat_one, true_or, or_true, Int.reduceEq, Int.reduceLT, Int.reduceLE, Int.reduceNe, Int.reduceNeg, Int.reduceAdd, Int.reduceSub, Int.reduceMul, Int.reduceToNat, Nat.reduceLT, Nat.reduceLeDiff, Nat.reduceAdd, Nat.reduceEqDiff, Nat.reduceSub, not_false_iff, and_self, implies_true, false_and, and_false, or_self, false_or, or_false, Int.cast_ofNat_Int, Int.natCast_nonneg]
  exact loop (zF S) 0 σ g (by omega) h0 hV (fun i hi => by omega)
set_option maxHeartbeats 2000000 in
theorem c5_drawn {seed : Int} (hR : CR Γ σ c S) (hQ : ∀ σ', Sm (Scr c) σ σ' → Q (vi (a_drawn S seed)) (Γ, σ')) : xRM M_X5_drawn (d + 7) (0, 0) [vr c, vi seed] (Γ, σ) Q := by
  refine xRM_of (by decide) (Nat.le_of_ble_eq_true rfl) ?_
  obtain ⟨hS, hX, hl, hV, hA, htc, hT⟩ := hR.wok
  obtain ⟨hC, -, hP, hK, hKr, -⟩ := id hR.1
  have hS2 := hR.1.2.2.2.2.2.2.2.1
  refine b_X5_drawn_0 _ _ _ _ ?_
  show k_X5_drawn_0 (d + 6) Q (0, 0) [vr c, vi seed] [] (Γ, σ)
  simp only [k_X5_drawn_0, x_push, x_iload, x_lload, x_aload, x_bin, x_div, x_un, x_lbin, x_ldiv, x_lcmp, x_i2l, x_l2i, x_dup, x_pop, x_dup2, x_c1, x_c2, x_null, x_cat1, x_istore, x_astore, x_lstore, x_iinc, x_nol, x_tsw, xsw, x_lsw, xlsw, x_ret, x_zret, x_lret, x_aret, x_vret, x_getI, x_getL, x_getR, x_putI, x_putZ, x_putL, x_iaload, x_zaload, x_aaload, x_iastore, x_zastore, x_alen, x_mm, x_acopy, xpush, xJ, xK, x_cV0, x_cV1, x_cV2, x_cV3, x_cV4, x_cV5, x_cV6, x_cV7, x_cV8, x_cS1, x_cS2, x_cS3, x_cS4, x_cS5, List.getD_cons_zero, List.getD_cons_succ, List.set_cons_zero, List.set_cons_succ, List.length_cons, List.length_nil, Nat.zero_add, true_and, and_true, List.getD_nil, not_true, not_false_eq_true, Int.toNat_natCast, false_implies, true_implies, if_true, if_false, Int.toNat_zero, Int.toNat_one, true_or, or_true, Int.reduceEq, Int.reduceLT, Int.reduceLE, Int.reduceNe, Int.reduceNeg, Int.reduceAdd, Int.reduceSub, Int.reduceMul, Int.reduceToNat, Nat.reduceLT, Nat.reduceLeDiff, Nat.reduceAdd, Nat.reduceEqDiff, Nat.reduceSub, not_false_iff, and_self, implies_true, false_and, and_false, or_self, false_or, or_false, Int.cast_ofNat_Int, Int.natCast_nonneg, SC.f0 hC, SC.f1 hC, SC.f2 hC, SC.f3 hC, SC.f4 hC, SC.f5 hC, SC.f6 hC, SC.f7 hC, SW.f0 hS2, SW.f1 hS2, SW.f2 hS2, SW.f3 hS2, SW.f4 hS2, SW.f5 hS2, SW.f6 hS2, SW.f7 hS2, SW.f8 hS2, SW.f9 hS2, SW.l9 hS2, SW.a9 hS2, SW.e9 hS2, SW.f10 hS2, SW.l10 hS2, SW.a10 hS2, SW.e10 hS2, SW.f11 hS2, SW.l11 hS2, SW.a11 hS2, SW.e11 hS2, SW.f12 hS2, SW.l12 hS2, SW.a12 hS2, SW.e12 hS2, SW.f13 hS2, SW.l13 hS2, SW.a13 hS2, SW.e13 hS2, SW.f14 hS2, SW.l14 hS2, SW.a14 hS2, SW.e14 hS2, SW.f15 hS2, SW.l15 hS2, SW.a15 hS2, SW.e15 hS2]
  refine c_become hS2 hS (by omega) hV hA.1 hA.2.1 (fun σ3 g1 g2 => ?_)
  simp only [x_push, x_iload, x_lload, x_aload, x_bin, x_div, x_un, x_lbin, x_ldiv, x_lcmp, x_i2l, x_l2i, x_dup, x_pop, x_dup2, x_c1, x_c2, x_null, x_cat1, x_istore, x_astore, x_lstore, x_iinc, x_nol, x_tsw, xsw, x_lsw, xlsw, x_ret, x_zret, x_lret, x_aret, x_vret, x_getI, x_getL, x_getR, x_putI, x_putZ, x_putL, x_iaload, x_zaload, x_aaload, x_iastore, x_zastore, x_alen, x_mm, x_acopy, xpush, xJ, xK, x_cV0, x_cV1, x_cV2, x_cV3, x_cV4, x_cV5, x_cV6, x_cV7, x_cV8, x_cS1, x_cS2, x_cS3, x_cS4, x_cS5, List.getD_cons_zero, List.getD_cons_succ, List.set_cons_zero, List.set_cons_succ, List.length_cons, List.length_nil, Nat.zero_add, true_and, and_true, List.getD_nil, not_true, not_false_eq_true, Int.toNat_natCast, false_implies, true_implies, if_true, if_false, Int.toNat_zero, Int.toNat_one, true_or, or_true, Int.reduceEq, Int.reduceLT, Int.reduceLE, Int.reduceNe, Int.reduceNeg, Int.reduceAdd, Int.reduceSub, Int.reduceMul, Int.reduceToNat, Nat.reduceLT, Nat.reduceLeDiff, Nat.reduceAdd, Nat.reduceEqDiff, Nat.reduceSub, not_false_iff, and_self, implies_true, false_and, and_false, or_self, false_or, or_false, Int.cast_ofNat_Int, Int.natCast_nonneg, SC.f0 hC, SC.f1 hC, SC.f2 hC, SC.f3 hC, SC.f4 hC, SC.f5 hC, SC.f6 hC, SC.f7 hC]
  rw [← uM_self (A := zA S) (nf := zF S)] at g2
  refine c_plainJoy hR (g1.mono (fun q => RV_Scr2)) g2 (fun σ' e1 e2 => ?_)
  simp only [x_push, x_iload, x_lload, x_aload, x_bin, x_div, x_un, x_lbin, x_ldiv, x_lcmp, x_i2l, x_l2i, x_dup, x_pop, x_dup2, x_c1, x_c2, x_null, x_cat1, x_istore, x_astore, x_lstore, x_iinc, x_nol, x_tsw, xsw, x_lsw, xlsw, x_ret, x_zret, x_lret, x_aret, x_vret, x_getI, x_getL, x_getR, x_putI, x_putZ, x_putL, x_iaload, x_zaload, x_aaload, x_iastore, x_zastore, x_alen, x_mm, x_acopy, xpush, xJ, xK, x_cV0, x_cV1, x_cV2, x_cV3, x_cV4, x_cV5, x_cV6, x_cV7, x_cV8, x_cS1, x_cS2, x_cS3, x_cS4, x_cS5, List.getD_cons_zero, List.getD_cons_succ, List.set_cons_zero, List.set_cons_succ, List.length_cons, List.length_nil, Nat.zero_add, true_and, and_true, List.getD_nil, not_true, not_false_eq_true, Int.toNat_natCast, false_implies, true_implies, if_true, if_false, Int.toNat_zero, Int.toNat_one, true_or, or_true, Int.reduceEq, Int.reduceLT, Int.reduceLE, Int.reduceNe, Int.reduceNeg, Int.reduceAdd, Int.reduceSub, Int.reduceMul, Int.reduceToNat, Nat.reduceLT, Nat.reduceLeDiff, Nat.reduceAdd, Nat.reduceEqDiff, Nat.reduceSub, not_false_iff, and_self, implies_true, false_and, and_false, or_self, false_or, or_false, Int.cast_ofNat_Int, Int.natCast_nonneg]
  exact hQ σ' e1
set_option maxHeartbeats 2000000 in
theorem c_commonDivisor {t n : Nat} {μ : xMem} (hn : 1 ≤ n) (hn2 : n ≤ 20) (ht : t ≤ 20) (hQ : Q (vi ((Nat.gcd t n : Nat) : Int)) μ) : xRM M_X5_commonDivisor (d + 1) (0, 0) [vi (t : Int), vi (n : Int)] μ Q := by
  refine xRM_of (by decide) (Nat.le_of_ble_eq_true rfl) ?_
  have hg1 : Nat.gcd t n ∣ n := Nat.gcd_dvd_right t n
  have hg2 : Nat.gcd t n ∣ t := Nat.gcd_dvd_left t n
  have hg0 : 0 < Nat.gcd t n := Nat.gcd_pos_of_pos_right t (by omega)
  have hgn : Nat.gcd t n ≤ n := Nat.le_of_dvd (by omega) hg1
  have loop : ∀ (k : Nat), 1 ≤ k → k ≤ n → Nat.gcd t n ≤ k → xR M_X5_commonDivisor (d + 1) (0, 0) 2 [vi (t : Int), vi (n : Int), vi (k : Int)] [] μ Q := by
    intro k
    induction k with
    | zero => intro h; omega
    | succ k ih =>
      intro h1 h2 h3
      refine b_X5_commonDivisor_2 _ _ _ _ ?_
      by_cases z : k = 0
      · subst z
        have e : Nat.gcd t n = 1 := by omega
        rw [e] at hQ
        simp only [k_X5_commonDivisor_2, x_push, x_iload, x_lload, x_aload, x_bin, x_div, x_un, x_lbin, x_ldiv, x_lcmp, x_i2l, x_l2i, x_dup, x_pop, x_dup2, x_c1, x_c2, x_null, x_cat1, x_istore, x_astore, x_lstore, x_iinc, x_nol, x_tsw, xsw, x_lsw, xlsw, x_ret, x_zret, x_lret, x_aret, x_vret, x_getI, x_getL, x_getR, x_putI, x_putZ, x_putL, x_iaload, x_zaload, x_aaload, x_iastore, x_zastore, x_alen, x_mm, x_acopy, xpush, xJ, xK, x_cV0, x_cV1, x_cV2, x_cV3, x_cV4, x_cV5, x_cV6, x_cV7, x_cV8, x_cS1, x_cS2, x_cS3, x_cS4, x_cS5, List.getD_cons_zero, List.getD_cons_succ, List.set_cons_zero, List.set_cons_succ, List.length_cons, List.length_nil, Nat.zero_add, true_and, and_true, List.getD_nil, not_true, not_false_eq_true, Int.toNat_natCast, false_implies, true_implies, if_true, if_false, Int.toNat_zero, Int.toNat_one, true_or, or_true, Int.reduceEq, Int.reduceLT, Int.reduceLE, Int.reduceNe, Int.reduceNeg, Int.reduceAdd, Int.reduceSub, Int.reduceMul, Int.reduceToNat, Nat.reduceLT, Nat.reduceLeDiff, Nat.reduceAdd, Nat.reduceEqDiff, Nat.reduceSub, not_false_iff, and_self, implies_true, false_and, and_false, or_self, false_or, or_false, Int.cast_ofNat_Int, Int.natCast_nonneg]
        exact hQ
      · have e1 : orem (n : Int) ((k + 1 : Nat) : Int) = ((n % (k + 1) : Nat) : Int) := by
          rw [orem_nn (by omega) (by omega) (by omega) (by omega)]
          exact (Int.natCast_emod n (k + 1)).symm
        have e2 : orem (t : Int) ((k + 1 : Nat) : Int) = ((t % (k + 1) : Nat) : Int) := by
          rw [orem_nn (by omega) (by omega) (by omega) (by omega)]
          exact (Int.natCast_emod t (k + 1)).symm
        have go : ¬ (n % (k + 1) = 0 ∧ t % (k + 1) = 0) → xR M_X5_commonDivisor (d + 1) (0, 0) 2 [vi (t : Int), vi (n : Int), vi (oadd ((k + 1 : Nat) : Int) (-1))] [] μ Q := fun y => by
          rw [show oadd ((k + 1 : Nat) : Int) (-1) = (k : Int) by rw [oadd_id (by omega) (by omega)]; omega]
          refine ih (by omega) (by omega) ?_
          by_cases e : Nat.gcd t n = k + 1
          · rw [e] at hg1 hg2
            exact absurd ⟨Nat.mod_eq_zero_of_dvd hg1, Nat.mod_eq_zero_of_dvd hg2⟩ y
          · omega
        simp only [k_X5_commonDivisor_2, x_push, x_iload, x_lload, x_aload, x_bin, x_div, x_un, x_lbin, x_ldiv, x_lcmp, x_i2l, x_l2i, x_dup, x_pop, x_dup2, x_c1, x_c2, x_null, x_cat1, x_istore, x_astore, x_lstore, x_iinc, x_nol, x_tsw, xsw, x_lsw, xlsw, x_ret, x_zret, x_lret, x_aret, x_vret, x_getI, x_getL, x_getR, x_putI, x_putZ, x_putL, x_iaload, x_zaload, x_aaload, x_iastore, x_zastore, x_alen, x_mm, x_acopy, xpush, xJ, xK, x_cV0, x_cV1, x_cV2, x_cV3, x_cV4, x_cV5, x_cV6, x_cV7, x_cV8, x_cS1, x_cS2, x_cS3, x_cS4, x_cS5, List.getD_cons_zero, List.getD_cons_succ, List.set_cons_zero, List.set_cons_succ, List.length_cons, List.length_nil, Nat.zero_add, true_and, and_true, List.getD_nil, not_true, not_false_eq_true, Int.toNat_natCast, false_implies, true_implies, if_true, if_false, Int.toNat_zero, Int.toNat_one, true_or, or_true, Int.reduceEq, Int.reduceLT, Int.reduceLE, Int.reduceNe, Int.reduceNeg, Int.reduceAdd, Int.reduceSub, Int.reduceMul, Int.reduceToNat, Nat.reduceLT, Nat.reduceLeDiff, Nat.reduceAdd, Nat.reduceEqDiff, Nat.reduceSub, not_false_iff, and_self, implies_true, false_and, and_false, or_self, false_or, or_false, Int.cast_ofNat_Int, Int.natCast_nonneg, e1, e2, eq_false (show ¬ (((k + 1 : Nat) : Int) ≤ 1) by omega)]
        refine ⟨by omega, fun q => go (by omega), fun q => ⟨by omega, fun q2 => go (by omega), fun q2 => ?_⟩⟩
        have d1 : k + 1 ∣ n := Nat.dvd_of_mod_eq_zero (by omega)
        have d2 : k + 1 ∣ t := Nat.dvd_of_mod_eq_zero (by omega)
        have d3 := Nat.le_of_dvd hg0 (Nat.dvd_gcd d2 d1)
        rw [show Nat.gcd t n = k + 1 by omega] at hQ
        exact hQ
  refine b_X5_commonDivisor_0 _ _ _ _ ?_
  show k_X5_commonDivisor_0 d Q (0, 0) [vi (t : Int), vi (n : Int), vu] [] μ
  simp only [k_X5_commonDivisor_0, x_push, x_iload, x_lload, x_aload, x_bin, x_div, x_un, x_lbin, x_ldiv, x_lcmp, x_i2l, x_l2i, x_dup, x_pop, x_dup2, x_c1, x_c2, x_null, x_cat1, x_istore, x_astore, x_lstore, x_iinc, x_nol, x_tsw, xsw, x_lsw, xlsw, x_ret, x_zret, x_lret, x_aret, x_vret, x_getI, x_getL, x_getR, x_putI, x_putZ, x_putL, x_iaload, x_zaload, x_aaload, x_iastore, x_zastore, x_alen, x_mm, x_acopy, xpush, xJ, xK, x_cV0, x_cV1, x_cV2, x_cV3, x_cV4, x_cV5, x_cV6, x_cV7, x_cV8, x_cS1, x_cS2, x_cS3, x_cS4, x_cS5, List.getD_cons_zero, List.getD_cons_succ, List.set_cons_zero, List.set_cons_succ, List.length_cons, List.length_nil, Nat.zero_add, true_and, and_true, List.getD_nil, not_true, not_false_eq_true, Int.toNat_natCast, false_implies, true_implies, if_true, if_false, Int.toNat_zero, Int.toNat_one, true_or, or_true, Int.reduceEq, Int.reduceLT, Int.reduceLE, Int.reduceNe, Int.reduceNeg, Int.reduceAdd, Int.reduceSub, Int.reduceMul, Int.reduceToNat, Nat.reduceLT, Nat.reduceLeDiff, Nat.reduceAdd, Nat.reduceEqDiff, Nat.reduceSub, not_false_iff, and_self, implies_true, false_and, and_false, or_self, false_or, or_false, Int.cast_ofNat_Int, Int.natCast_nonneg]
  exact loop n hn (Nat.le_refl _) hgn
set_option maxHeartbeats 4000000 in
theorem c5_chance {seed n k p : Int} (hR : CR Γ σ c S) (hQ : ∀ σ', Sm (Scr c) σ σ' → Q (vl (a_chance S seed n k p)) (Γ, σ')) : xRM M_X5_chance (d + 7) (0, 0) [vr c, vi seed, vi n, vi k, vi p] (Γ, σ) Q := by
  refine xRM_of (by decide) (Nat.le_of_ble_eq_true rfl) ?_
  obtain ⟨hS, hX, hl, hV, hA, htc, hT⟩ := hR.wok
  obtain ⟨hC, -, hP, hK, hKr, -⟩ := id hR.1
  have hS2 := hR.1.2.2.2.2.2.2.2.1
  unfold a_chance at hQ
  have bad : ¬ ((1 ≤ n ∧ n ≤ 20) ∧ (0 ≤ k ∧ k < 1000) ∧ (p = 0 ∨ p = 1)) → Q (vl (-4611686018427387904)) (Γ, σ) := fun z => by
    rw [if_neg z] at hQ
    exact hQ σ Sm.rf
  have s37 : ((1 ≤ n ∧ n ≤ 20) ∧ (0 ≤ k ∧ k < 1000) ∧ (p = 0 ∨ p = 1)) → xR M_X5_chance (d + 7) (0, 0) 37 [vr c, vi seed, vi n, vi k, vi p, vu, vu] [] (Γ, σ) Q := by
    intro ok
    rw [if_pos ok] at hQ
    obtain ⟨n, rfl⟩ : ∃ x : Nat, n = x := ⟨n.toNat, by omega⟩
    rw [Int.toNat_natCast] at hQ
    have ht := sTimes_le S seed k n
    have loop : ∀ (m i : Nat) (σ1 : Nat → Nat → Int) (g : Nat → Int), i + m = n → Sm (Scr c) σ σ1 → WV σ1 (c + 69) (zF S) (zC S) (uM (zA S) (zF S) g) → xR M_X5_chance (d + 7) (0, 0) 54 [vr c, vi seed, vi (n : Int), vi k, vi p, vi (sTimes S seed k i : Int), vi (i : Int)] [] (Γ, σ1) Q := by
      intro m
      induction m with
      | zero =>
        intro i σ1 g hi e1 e2
        have ei : i = n := by omega
        subst ei
        refine b_X5_chance_54 _ _ _ _ ?_
        have e3 : ((i : Int) ≤ (i : Int)) = True := eq_true (Int.le_refl _)
        simp only [k_X5_chance_54, x_push, x_iload, x_lload, x_aload, x_bin, x_div, x_un, x_lbin, x_ldiv, x_lcmp, x_i2l, x_l2i, x_dup, x_pop, x_dup2, x_c1, x_c2, x_null, x_cat1, x_istore, x_astore, x_lstore, x_iinc, x_nol, x_tsw, xsw, x_lsw, xlsw, x_ret, x_zret, x_lret, x_aret, x_vret, x_getI, x_getL, x_getR, x_putI, x_putZ, x_putL, x_iaload, x_zaload, x_aaload, x_iastore, x_zastore, x_alen, x_mm, x_acopy, xpush, xJ, xK, x_cV0, x_cV1, x_cV2, x_cV3, x_cV4, x_cV5, x_cV6, x_cV7, x_cV8, x_cS1, x_cS2, x_cS3, x_cS4, x_cS5, List.getD_cons_zero, List.getD_cons_succ, List.set_cons_zero, List.set_cons_succ, List.length_cons, List.length_nil, Nat.zero_add, true_and, and_true, List.getD_nil, not_true, not_false_eq_true, Int.toNat_natCast, false_implies, true_implies, if_true, if_false, Int.toNat_zero, Int.toNat_one, true_or, or_true, Int.reduceEq, Int.reduceLT, Int.reduceLE, Int.reduceNe, Int.reduceNeg, Int.reduceAdd, Int.reduceSub, Int.reduceMul, Int.reduceToNat, Nat.reduceLT, Nat.reduceLeDiff, Nat.reduceAdd, Nat.reduceEqDiff, Nat.reduceSub, not_false_iff, and_self, implies_true, false_and, and_false, or_self, false_or, or_false, Int.cast_ofNat_Int, Int.natCast_nonneg, e3]
        refine c_commonDivisor (by omega) (by omega) (by omega) ?_
        have hg0 : 0 < Nat.gcd (sTimes S seed k i) i := Nat.gcd_pos_of_pos_right _ (by omega)
        have hgn : Nat.gcd (sTimes S seed k i) i ≤ i := Nat.le_of_dvd (by omega) (Nat.gcd_dvd_right _ _)
        have key := hQ σ1 e1
        simp only [x_push, x_iload, x_lload, x_aload, x_bin, x_div, x_un, x_lbin, x_ldiv, x_lcmp, x_i2l, x_l2i, x_dup, x_pop, x_dup2, x_c1, x_c2, x_null, x_cat1, x_istore, x_astore, x_lstore, x_iinc, x_nol, x_tsw, xsw, x_lsw, xlsw, x_ret, x_zret, x_lret, x_aret, x_vret, x_getI, x_getL, x_getR, x_putI, x_putZ, x_putL, x_iaload, x_zaload, x_aaload, x_iastore, x_zastore, x_alen, x_mm, x_acopy, xpush, xJ, xK, x_cV0, x_cV1, x_cV2, x_cV3, x_cV4, x_cV5, x_cV6, x_cV7, x_cV8, x_cS1, x_cS2, x_cS3, x_cS4, x_cS5, List.getD_cons_zero, List.getD_cons_succ, List.set_cons_zero, List.set_cons_succ, List.length_cons, List.length_nil, Nat.zero_add, true_and, and_true, List.getD_nil, not_true, not_false_eq_true, Int.toNat_natCast, false_implies, true_implies, if_true, if_false, Int.toNat_zero, Int.toNat_one, true_or, or_true, Int.reduceEq, Int.reduceLT, Int.reduceLE, Int.reduceNe, Int.reduceNeg, Int.reduceAdd, Int.reduceSub, Int.reduceMul, Int.reduceToNat, Nat.reduceLT, Nat.reduceLeDiff, Nat.reduceAdd, Nat.reduceEqDiff, Nat.reduceSub, not_false_iff, and_self, implies_true, false_and, and_false, or_self, false_or, or_false, Int.cast_ofNat_Int, Int.natCast_nonneg]
        have d1 : odiv (i : Int) (Nat.gcd (sTimes S seed k i) i : Int) = ((i / Nat.gcd (sTimes S seed k i) i : Nat) : Int) := by
          rw [odiv_nn (by omega) (by omega) (by omega) (by omega)]
          exact (Int.natCast_ediv _ _).symm
        have d2 : odiv (sTimes S seed k i : Int) (Nat.gcd (sTimes S seed k i) i : Int) = ((sTimes S seed k i / Nat.gcd (sTimes S seed k i) i : Nat) : Int) := by
          rw [odiv_nn (by omega) (by omega) (by omega) (by omega)]
          exact (Int.natCast_ediv _ _).symm
        rw [d1, d2]
        refine ⟨fun q => ⟨by omega, ?_⟩, fun q => ⟨by omega, ?_⟩⟩
        · rw [if_neg q] at key; exact key
        · rw [if_pos (Classical.not_not.mp q)] at key; exact key
      | succ m ih =>
        intro i σ1 g hi e1 e2
        have hti := sTimes_le S seed k i
        refine b_X5_chance_54 _ _ _ _ ?_
        simp only [k_X5_chance_54, x_push, x_iload, x_lload, x_aload, x_bin, x_div, x_un, x_lbin, x_ldiv, x_lcmp, x_i2l, x_l2i, x_dup, x_pop, x_dup2, x_c1, x_c2, x_null, x_cat1, x_istore, x_astore, x_lstore, x_iinc, x_nol, x_tsw, xsw, x_lsw, xlsw, x_ret, x_zret, x_lret, x_aret, x_vret, x_getI, x_getL, x_getR, x_putI, x_putZ, x_putL, x_iaload, x_zaload, x_aaload, x_iastore, x_zastore, x_alen, x_mm, x_acopy, xpush, xJ, xK, x_cV0, x_cV1, x_cV2, x_cV3, x_cV4, x_cV5, x_cV6, x_cV7, x_cV8, x_cS1, x_cS2, x_cS3, x_cS4, x_cS5, List.getD_cons_zero, List.getD_cons_succ, List.set_cons_zero, List.set_cons_succ, List.length_cons, List.length_nil, Nat.zero_add, true_and, and_true, List.getD_nil, not_true, not_false_eq_true, Int.toNat_natCast, false_implies, true_implies, if_true, if_false, Int.toNat_zero, Int.toNat_one, true_or, or_true, Int.reduceEq, Int.reduceLT, Int.reduceLE, Int.reduceNe, Int.reduceNeg, Int.reduceAdd, Int.reduceSub, Int.reduceMul, Int.reduceToNat, Nat.reduceLT, Nat.reduceLeDiff, Nat.reduceAdd, Nat.reduceEqDiff, Nat.reduceSub, not_false_iff, and_self, implies_true, false_and, and_false, or_self, false_or, or_false, Int.cast_ofNat_Int, Int.natCast_nonneg, SC.f0 hC, SC.f1 hC, SC.f2 hC, SC.f3 hC, SC.f4 hC, SC.f5 hC, SC.f6 hC, SC.f7 hC, eq_false (show ¬ ((n : Int) ≤ (i : Int)) by omega)]
        refine c_plainJoy hR e1 e2 (fun σ2 f1 f2 => ?_)
        simp only [x_push, x_iload, x_lload, x_aload, x_bin, x_div, x_un, x_lbin, x_ldiv, x_lcmp, x_i2l, x_l2i, x_dup, x_pop, x_dup2, x_c1, x_c2, x_null, x_cat1, x_istore, x_astore, x_lstore, x_iinc, x_nol, x_tsw, xsw, x_lsw, xlsw, x_ret, x_zret, x_lret, x_aret, x_vret, x_getI, x_getL, x_getR, x_putI, x_putZ, x_putL, x_iaload, x_zaload, x_aaload, x_iastore, x_zastore, x_alen, x_mm, x_acopy, xpush, xJ, xK, x_cV0, x_cV1, x_cV2, x_cV3, x_cV4, x_cV5, x_cV6, x_cV7, x_cV8, x_cS1, x_cS2, x_cS3, x_cS4, x_cS5, List.getD_cons_zero, List.getD_cons_succ, List.set_cons_zero, List.set_cons_succ, List.length_cons, List.length_nil, Nat.zero_add, true_and, and_true, List.getD_nil, not_true, not_false_eq_true, Int.toNat_natCast, false_implies, true_implies, if_true, if_false, Int.toNat_zero, Int.toNat_one, true_or, or_true, Int.reduceEq, Int.reduceLT, Int.reduceLE, Int.reduceNe, Int.reduceNeg, Int.reduceAdd, Int.reduceSub, Int.reduceMul, Int.reduceToNat, Nat.reduceLT, Nat.reduceLeDiff, Nat.reduceAdd, Nat.reduceEqDiff, Nat.reduceSub, not_false_iff, and_self, implies_true, false_and, and_false, or_self, false_or, or_false, Int.cast_ofNat_Int, Int.natCast_nonneg]
        have go := ih (i + 1) σ2 _ (by omega) f1 f2
        simp only [sTimes] at go
        refine ⟨fun q => ?_, fun q => ?_⟩
        · rw [if_neg (by omega), Nat.add_zero] at go
          rw [oadd_id (a := (i : Int)) (by omega) (by omega)]
          exact go
        · rw [if_pos (by omega)] at go
          rw [oadd_id (a := (i : Int)) (by omega) (by omega), oadd_id (a := (sTimes S seed k i : Int)) (by omega) (by omega)]
          exact go
    refine b_X5_chance_37 _ _ _ _ ?_
    simp only [k_X5_chance_37, x_push, x_iload, x_lload, x_aload, x_bin, x_div, x_un, x_lbin, x_ldiv, x_lcmp, x_i2l, x_l2i, x_dup, x_pop, x_dup2, x_c1, x_c2, x_null, x_cat1, x_istore, x_astore, x_lstore, x_iinc, x_nol, x_tsw, xsw, x_lsw, xlsw, x_ret, x_zret, x_lret, x_aret, x_vret, x_getI, x_getL, x_getR, x_putI, x_putZ, x_putL, x_iaload, x_zaload, x_aaload, x_iastore, x_zastore, x_alen, x_mm, x_acopy, xpush, xJ, xK, x_cV0, x_cV1, x_cV2, x_cV3, x_cV4, x_cV5, x_cV6, x_cV7, x_cV8, x_cS1, x_cS2, x_cS3, x_cS4, x_cS5, List.getD_cons_zero, List.getD_cons_succ, List.set_cons_zero, List.set_cons_succ, List.length_cons, List.length_nil, Nat.zero_add, true_and, and_true, List.getD_nil, not_true, not_false_eq_true, Int.toNat_natCast, false_implies, true_implies, if_true, if_false, Int.toNat_zero, Int.toNat_one, true_or, or_true, Int.reduceEq, Int.reduceLT, Int.reduceLE, Int.reduceNe, Int.reduceNeg, Int.reduceAdd, Int.reduceSub, Int.reduceMul, Int.reduceToNat, Nat.reduceLT, Nat.reduceLeDiff, Nat.reduceAdd, Nat.reduceEqDiff, Nat.reduceSub, not_false_iff, and_self, implies_true, false_and, and_false, or_self, false_or, or_false, Int.cast_ofNat_Int, Int.natCast_nonneg, SC.f0 hC, SC.f1 hC, SC.f2 hC, SC.f3 hC, SC.f4 hC, SC.f5 hC, SC.f6 hC, SC.f7 hC, SW.f0 hS2, SW.f1 hS2, SW.f2 hS2, SW.f3 hS2, SW.f4 hS2, SW.f5 hS2, SW.f6 hS2, SW.f7 hS2, SW.f8 hS2, SW.f9 hS2, SW.l9 hS2, SW.a9 hS2, SW.e9 hS2, SW.f10 hS2, SW.l10 hS2, SW.a10 hS2, SW.e10 hS2, SW.f11 hS2, SW.l11 hS2, SW.a11 hS2, SW.e11 hS2, SW.f12 hS2, SW.l12 hS2, SW.a12 hS2, SW.e12 hS2, SW.f13 hS2, SW.l13 hS2, SW.a13 hS2, SW.e13 hS2, SW.f14 hS2, SW.l14 hS2, SW.a14 hS2, SW.e14 hS2, SW.f15 hS2, SW.l15 hS2, SW.a15 hS2, SW.e15 hS2]
    refine c_become hS2 hS (by omega) hV hA.1 hA.2.1 (fun σ3 g1 g2 => ?_)
    simp only [x_push, x_iload, x_lload, x_aload, x_bin, x_div, x_un, x_lbin, x_ldiv, x_lcmp, x_i2l, x_l2i, x_dup, x_pop, x_dup2, x_c1, x_c2, x_null, x_cat1, x_istore, x_astore, x_lstore, x_iinc, x_nol, x_tsw, xsw, x_lsw, xlsw, x_ret, x_zret, x_lret, x_aret, x_vret, x_getI, x_getL, x_getR, x_putI, x_putZ, x_putL, x_iaload, x_zaload, x_aaload, x_iastore, x_zastore, x_alen, x_mm, x_acopy, xpush, xJ, xK, x_cV0, x_cV1, x_cV2, x_cV3, x_cV4, x_cV5, x_cV6, x_cV7, x_cV8, x_cS1, x_cS2, x_cS3, x_cS4, x_cS5, List.getD_cons_zero, List.getD_cons_succ, List.set_cons_zero, List.set_cons_succ, List.length_cons, List.length_nil, Nat.zero_add, true_and, and_true, List.getD_nil, not_true, not_false_eq_true, Int.toNat_natCast, false_implies, true_implies, if_true, if_false, Int.toNat_zero, Int.toNat_one, true_or, or_true, Int.reduceEq, Int.reduceLT, Int.reduceLE, Int.reduceNe, Int.reduceNeg, Int.reduceAdd, Int.reduceSub, Int.reduceMul, Int.reduceToNat, Nat.reduceLT, Nat.reduceLeDiff, Nat.reduceAdd, Nat.reduceEqDiff, Nat.reduceSub, not_false_iff, and_self, implies_true, false_and, and_false, or_self, false_or, or_false, Int.cast_ofNat_Int, Int.natCast_nonneg]
    rw [← uM_self (A := zA S) (nf := zF S)] at g2
    exact loop n 0 σ3 _ (by omega) (g1.mono (fun q => RV_Scr2)) g2
  refine b_X5_chance_0 _ _ _ _ ?_
  show k_X5_chance_0 (d + 6) Q (0, 0) [vr c, vi seed, vi n, vi k, vi p, vu, vu] [] (Γ, σ)
  simp only [k_X5_chance_0, x_push, x_iload, x_lload, x_aload, x_bin, x_div, x_un, x_lbin, x_ldiv, x_lcmp, x_i2l, x_l2i, x_dup, x_pop, x_dup2, x_c1, x_c2, x_null, x_cat1, x_istore, x_astore, x_lstore, x_iinc, x_nol, x_tsw, xsw, x_lsw, xlsw, x_ret, x_zret, x_lret, x_aret, x_vret, x_getI, x_getL, x_getR, x_putI, x_putZ, x_putL, x_iaload, x_zaload, x_aaload, x_iastore, x_zastore, x_alen, x_mm, x_acopy, xpush, xJ, xK, x_cV0, x_cV1, x_cV2, x_cV3, x_cV4, x_cV5, x_cV6, x_cV7, x_cV8, x_cS1, x_cS2, x_cS3, x_cS4, x_cS5, List.getD_cons_zero, List.getD_cons_succ, List.set_cons_zero, List.set_cons_succ, List.length_cons, List.length_nil, Nat.zero_add, true_and, and_true, List.getD_nil, not_true, not_false_eq_true, Int.toNat_natCast, false_implies, true_implies, if_true, if_false, Int.toNat_zero, Int.toNat_one, true_or, or_true, Int.reduceEq, Int.reduceLT, Int.reduceLE, Int.reduceNe, Int.reduceNeg, Int.reduceAdd, Int.reduceSub, Int.reduceMul, Int.reduceToNat, Nat.reduceLT, Nat.reduceLeDiff, Nat.reduceAdd, Nat.reduceEqDiff, Nat.reduceSub, not_false_iff, and_self, implies_true, false_and, and_false, or_self, false_or, or_false, Int.cast_ofNat_Int, Int.natCast_nonneg]
  exact ⟨fun q => bad (by omega), fun q => ⟨fun q => bad (by omega), fun q => ⟨fun q => bad (by omega), fun q => ⟨fun q => bad (by omega), fun q => ⟨fun q => s37 (by omega), fun q => ⟨fun q => s37 (by omega), fun q => bad (by omega)⟩⟩⟩⟩⟩⟩
end Cls
