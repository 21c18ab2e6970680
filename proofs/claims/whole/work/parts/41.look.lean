/-! ===== Keeper.look ===== -/
section Keeper
variable {Γ : xSh} {σ : Nat → Nat → Int} {k w tx t0 d n nf nc tc : Nat} {A : Nat → Nat → Int} {E : Nat → Nat → List Int} {Q : xV → xMem → Prop}
theorem WOK.same2 {σ' : Nat → Nat → Int} {P : Nat → Prop} (h : WOK Γ σ w tx t0 nf nc tc A E) (hs : Sm P σ σ') (hp : ∀ q, t0 ≤ q → P q → RW w t0 q) : WOK Γ σ' w tx t0 nf nc tc A E := by
  obtain ⟨h1, h2, h3, h4, h5, h6, h7⟩ := h
  refine ⟨h1, h2, h3, h4.same (fun k a b => hs k (fun z => ?_)), h5, h6, fun i hi => (h7 i hi).same (hs _ (fun z => ?_)) (hs _ (fun z => ?_))⟩
  · rcases hp _ (by omega) z with e | ⟨i, hi, e⟩ <;> omega
  · rcases hp _ (by omega) z with e | ⟨j, hj, e⟩ <;> omega
  · rcases hp _ (by omega) z with e | ⟨j, hj, e⟩ <;> omega
/-- what looking may write -/
def RLk (k w t0 : Nat) : Nat → Prop := fun q => RK k q ∨ RW w t0 q
/-- the tables of a world -/
def tAp (A : Nat → Nat → Int) (c f : Nat) : Prop := sApp A f (A 4 c)
def tCo (E : Nat → Nat → List Int) (A : Nat → Nat → Int) (nc c f : Nat) : Int := sCost E A nc f (A 4 c)
def tIc (E : Nat → Nat → List Int) (A : Nat → Nat → Int) (nc c f : Nat) : Int := sCost E A nc f (A 4 c) + sPay E A nc c f
def CF (σ : Nat → Nat → Int) (k : Nat) (ap : Nat → Nat → Prop) (co jo ic : Nat → Nat → Int) (c f : Nat) : Prop := (ap c f → σ (k + 2 + c) f = co c f ∧ σ (k + 8 + c) f = jo c f ∧ σ (k + 14 + c) f = ic c f) ∧ (¬ ap c f → σ (k + 2 + c) f = -1)
theorem CF.congr {σ σ' : Nat → Nat → Int} {k : Nat} {ap : Nat → Nat → Prop} {co jo ic : Nat → Nat → Int} {c f : Nat} (h : CF σ k ap co jo ic c f) (h1 : σ' (k + 2 + c) f = σ (k + 2 + c) f) (h2 : σ' (k + 8 + c) f = σ (k + 8 + c) f) (h3 : σ' (k + 14 + c) f = σ (k + 14 + c) f) : CF σ' k ap co jo ic c f := by
  unfold CF
  rw [h1, h2, h3]
  exact h
/-- looking, before client c and figure f -/
def LI (σ σ' : Nat → Nat → Int) (k w t0 nf nc : Nat) (A : Nat → Nat → Int) (E : Nat → Nat → List Int) (c f : Nat) : Prop := Sm (RLk k w t0) σ σ' ∧ σ' k 8 = nf ∧ σ' k 9 = nc ∧ (∀ f, f < nf → σ' (k + 19) f = A 2 f) ∧
  ∀ c', c' < nc → ∀ f', f' < nf → (c' < c ∨ (c' = c ∧ f' < f)) → CF σ' k (tAp A) (tCo E A nc) (sGlad E A nc) (tIc E A nc) c' f'
theorem LI.step {σ' σ'' : Nat → Nat → Int} {c f : Nat} (h : LI σ σ' k w t0 nf nc A E c f) (hnc : nc ≤ 5) (hc : c < nc) (hl : k + 24 ≤ t0) (hw : t0 + 24 ≤ w) (hs : Sm (RLk k w t0) σ σ'')
    (h1 : ∀ q, k ≤ q → q ≤ k + 23 → q ≠ k + 2 + c → q ≠ k + 8 + c → q ≠ k + 14 + c → σ'' q = σ' q) (h2 : ∀ q i, (q = k + 2 + c ∨ q = k + 8 + c ∨ q = k + 14 + c) → i ≠ f → σ'' q i = σ' q i) (hf : CF σ'' k (tAp A) (tCo E A nc) (sGlad E A nc) (tIc E A nc) c f) : LI σ σ'' k w t0 nf nc A E c (f + 1) := by
  obtain ⟨-, b1, b2, b3, b4⟩ := h
  refine ⟨hs, ?_, ?_, fun g hg => ?_, fun c' hc' f' hf' hlt => ?_⟩
  · rw [h1 k (by omega) (by omega) (by omega) (by omega) (by omega)]; exact b1
  · rw [h1 k (by omega) (by omega) (by omega) (by omega) (by omega)]; exact b2
  · rw [h1 (k + 19) (by omega) (by omega) (by omega) (by omega) (by omega)]; exact b3 g hg
  · by_cases e : c' = c
    · subst e
      by_cases e2 : f' = f
      · subst e2; exact hf
      · exact (b4 c' hc' f' hf' (by omega)).congr (h2 _ _ (Or.inl rfl) e2) (h2 _ _ (Or.inr (Or.inl rfl)) e2) (h2 _ _ (Or.inr (Or.inr rfl)) e2)
    · exact (b4 c' hc' f' hf' (by omega)).congr (by rw [h1 _ (by omega) (by omega) (by omega) (by omega) (by omega)]) (by rw [h1 _ (by omega) (by omega) (by omega) (by omega) (by omega)]) (by rw [h1 _ (by omega) (by omega) (by omega) (by omega) (by omega)])
set_option maxHeartbeats 4000000 in
theorem c_look_in {c : Nat} (hS : SK Γ k) (hR : SKr Γ k) (hl : k + 24 ≤ t0) (hW : WOK Γ σ w tx t0 nf nc tc A E) (hc : c < nc)
    (hk : ∀ (σ'' : Nat → Nat → Int) (v : xV), LI σ σ'' k w t0 nf nc A E c nf → xR M_X0_look (d + 5) (0, 0) 33 [vr k, vr w, vi (c + 1 : Nat), v] [] (Γ, σ'') Q) :
    ∀ (m f : Nat) (σ' : Nat → Nat → Int), f + m = nf → LI σ σ' k w t0 nf nc A E c f → xR M_X0_look (d + 5) (0, 0) 43 [vr k, vr w, vi c, vi f] [] (Γ, σ') Q := by
  have hA := hW.2.2.2.2.1
  have hnf := hA.1
  have hnc := hA.2.1
  have hlw := hW.2.2.1
  obtain ⟨⟨r1, r2⟩, ⟨r3, r4⟩, ⟨r5, r6⟩⟩ := hR c (by omega)
  have hrl : ∀ q, t0 ≤ q → RLk k w t0 q → RW w t0 q := by
    rintro q hq (⟨a, b⟩ | h)
    · omega
    · exact h
  have nw : ∀ q, k ≤ q → q ≤ k + 23 → ¬ RW w t0 q := by
    rintro q a b (e | ⟨i, hi, e⟩) <;> omega
  intro m
  induction m with
  | zero =>
    intro f σ' hf hI
    have hf : f = nf := by omega
    subst hf
    refine b_X0_look_43 _ _ _ _ ?_
    simp only [k_X0_look_43, x_push, x_iload, x_lload, x_aload, x_bin, x_div, x_un, x_lbin, x_ldiv, x_lcmp, x_i2l, x_l2i, x_dup, x_pop, x_dup2, x_c1, x_c2, x_null, x_cat1, x_istore, x_astore, x_lstore, x_iinc, x_nol, x_tsw, xsw, x_lsw, xlsw, x_ret, x_zret, x_lret, x_aret, x_vret, x_getI, x_getL, x_getR, x_putI, x_putZ, x_putL, x_iaload, x_zaload, x_aaload, x_iastore, x_zastore, x_alen, x_mm, x_acopy, xpush, xJ, xK, x_cV0, x_cV1, x_cV2, x_cV3, x_cV4, x_cV5, x_cV6, x_cV7, x_cV8, x_cS1, x_cS2, x_cS3, x_cS4, x_cS5, List.getD_cons_zero, List.getD_cons_succ, List.set_cons_zero, List.set_cons_succ, List.length_cons, List.length_nil, Nat.zero_add, true_and, and_true, List.getD_nil, not_true, not_false_eq_true, Int.toNat_natCast, false_implies, true_implies, if_true, if_false, Int.toNat_zero, Int.toNat_one, true_or, or_true, Int.reduceEq, Int.reduceLT, Int.reduceLE, Int.reduceNe, Int.reduceNeg, Int.reduceAdd, Int.reduceSub, Int.reduceMul, Int.reduceToNat, Nat.reduceLT, Nat.reduceLeDiff, Nat.reduceAdd, Nat.reduceEqDiff, Nat.reduceSub, not_false_iff, and_self, implies_true, false_and, and_false, or_self, false_or, or_false, Int.cast_ofNat_Int, Int.natCast_nonneg, SK.f0 hS, SK.f1 hS, SK.f2 hS, SK.f3 hS, SK.f4 hS, SK.f5 hS, SK.f6 hS, SK.f7 hS, SK.f8 hS, SK.f9 hS, SK.l9 hS, SK.a9 hS, SK.e9 hS, SK.f10 hS, SK.l10 hS, SK.a10 hS, SK.e10 hS, SK.f11 hS, SK.l11 hS, SK.a11 hS, SK.e11 hS, SK.f12 hS, SK.l12 hS, SK.a12 hS, SK.e12 hS, SK.f13 hS, SK.l13 hS, SK.a13 hS, SK.e13 hS, SK.f14 hS, SK.l14 hS, SK.a14 hS, SK.f15 hS, SK.l15 hS, SK.a15 hS, SK.f16 hS, SK.l16 hS, SK.a16 hS, hI.2.1]
    refine ⟨fun _ => ?_, fun h => absurd (Int.le_refl _) h⟩
    rw [oadd_id (by omega) (by omega)]
    exact hk σ' _ hI
  | succ m ih =>
    intro f σ' hf hI
    have hfn : f < nf := by omega
    refine b_X0_look_43 _ _ _ _ ?_
    have hW1 : WOK Γ σ' w tx t0 nf nc tc A E := hW.same2 hI.1 hrl
    have h4 := (hW1.2.2.2.1.2.2.2.2.2 c hc).1
    simp only [k_X0_look_43, x_push, x_iload, x_lload, x_aload, x_bin, x_div, x_un, x_lbin, x_ldiv, x_lcmp, x_i2l, x_l2i, x_dup, x_pop, x_dup2, x_c1, x_c2, x_null, x_cat1, x_istore, x_astore, x_lstore, x_iinc, x_nol, x_tsw, xsw, x_lsw, xlsw, x_ret, x_zret, x_lret, x_aret, x_vret, x_getI, x_getL, x_getR, x_putI, x_putZ, x_putL, x_iaload, x_zaload, x_aaload, x_iastore, x_zastore, x_alen, x_mm, x_acopy, xpush, xJ, xK, x_cV0, x_cV1, x_cV2, x_cV3, x_cV4, x_cV5, x_cV6, x_cV7, x_cV8, x_cS1, x_cS2, x_cS3, x_cS4, x_cS5, List.getD_cons_zero, List.getD_cons_succ, List.set_cons_zero, List.set_cons_succ, List.length_cons, List.length_nil, Nat.zero_add, true_and, and_true, List.getD_nil, not_true, not_false_eq_true, Int.toNat_natCast, false_implies, true_implies, if_true, if_false, Int.toNat_zero, Int.toNat_one, true_or, or_true, Int.reduceEq, Int.reduceLT, Int.reduceLE, Int.reduceNe, Int.reduceNeg, Int.reduceAdd, Int.reduceSub, Int.reduceMul, Int.reduceToNat, Nat.reduceLT, Nat.reduceLeDiff, Nat.reduceAdd, Nat.reduceEqDiff, Nat.reduceSub, not_false_iff, and_self, implies_true, false_and, and_false, or_self, false_or, or_false, Int.cast_ofNat_Int, Int.natCast_nonneg, SK.f0 hS, SK.f1 hS, SK.f2 hS, SK.f3 hS, SK.f4 hS, SK.f5 hS, SK.f6 hS, SK.f7 hS, SK.f8 hS, SK.f9 hS, SK.l9 hS, SK.a9 hS, SK.e9 hS, SK.f10 hS, SK.l10 hS, SK.a10 hS, SK.e10 hS, SK.f11 hS, SK.l11 hS, SK.a11 hS, SK.e11 hS, SK.f12 hS, SK.l12 hS, SK.a12 hS, SK.e12 hS, SK.f13 hS, SK.l13 hS, SK.a13 hS, SK.e13 hS, SK.f14 hS, SK.l14 hS, SK.a14 hS, SK.f15 hS, SK.l15 hS, SK.a15 hS, SK.f16 hS, SK.l16 hS, SK.a16 hS, SW.f0 hW.1, SW.f1 hW.1, SW.f2 hW.1, SW.f3 hW.1, SW.f4 hW.1, SW.f5 hW.1, SW.f6 hW.1, SW.f7 hW.1, SW.f8 hW.1, SW.f9 hW.1, SW.l9 hW.1, SW.a9 hW.1, SW.e9 hW.1, SW.f10 hW.1, SW.l10 hW.1, SW.a10 hW.1, SW.e10 hW.1, SW.f11 hW.1, SW.l11 hW.1, SW.a11 hW.1, SW.e11 hW.1, SW.f12 hW.1, SW.l12 hW.1, SW.a12 hW.1, SW.e12 hW.1, SW.f13 hW.1, SW.l13 hW.1, SW.a13 hW.1, SW.e13 hW.1, SW.f14 hW.1, SW.l14 hW.1, SW.a14 hW.1, SW.e14 hW.1, SW.f15 hW.1, SW.l15 hW.1, SW.a15 hW.1, SW.e15 hW.1, hI.2.1, eq_false (show ¬ ((nf : Int) ≤ (f : Int)) by omega), r1, gArr_of r2, gLen_of r2, eq_true (show (c : Int) < 5 by omega), eq_true (show (f : Int) < 6 by omega), upd2_row (show w + 5 ≠ k + 2 + c by omega), h4]
    have ok1 : RLk k w t0 (k + 2 + c) := Or.inl ⟨by omega, by omega⟩
    have ok2 : RLk k w t0 (k + 8 + c) := Or.inl ⟨by omega, by omega⟩
    have ok3 : RLk k w t0 (k + 14 + c) := Or.inl ⟨by omega, by omega⟩
    generalize hg1 : upd2 σ' (k + 2 + c) f (-1) = σ1
    have hs1 : Sm (RLk k w t0) σ σ1 := by rw [← hg1]; exact hI.1.put ok1
    have hW2 : WOK Γ σ1 w tx t0 nf nc tc A E := hW.same2 hs1 hrl
    have hb := hA.2.2.2.2.2 c hc
    refine c_appears (A := A) hW.1 hW2.2.2.2.1 hA hfn hb.1.1 hb.1.2 (fun ha => ?_) (fun ha => ?_)
    · have h4' := (hW2.2.2.2.1.2.2.2.2.2 c hc).1
      simp only [x_push, x_iload, x_lload, x_aload, x_bin, x_div, x_un, x_lbin, x_ldiv, x_lcmp, x_i2l, x_l2i, x_dup, x_pop, x_dup2, x_c1, x_c2, x_null, x_cat1, x_istore, x_astore, x_lstore, x_iinc, x_nol, x_tsw, xsw, x_lsw, xlsw, x_ret, x_zret, x_lret, x_aret, x_vret, x_getI, x_getL, x_getR, x_putI, x_putZ, x_putL, x_iaload, x_zaload, x_aaload, x_iastore, x_zastore, x_alen, x_mm, x_acopy, xpush, xJ, xK, x_cV0, x_cV1, x_cV2, x_cV3, x_cV4, x_cV5, x_cV6, x_cV7, x_cV8, x_cS1, x_cS2, x_cS3, x_cS4, x_cS5, List.getD_cons_zero, List.getD_cons_succ, List.set_cons_zero, List.set_cons_succ, List.length_cons, List.length_nil, Nat.zero_add, true_and, and_true, List.getD_nil, not_true, not_false_eq_true, Int.toNat_natCast, false_implies, true_implies, if_true, if_false, Int.toNat_zero, Int.toNat_one, true_or, or_true, Int.reduceEq, Int.reduceLT, Int.reduceLE, Int.reduceNe, Int.reduceNeg, Int.reduceAdd, Int.reduceSub, Int.reduceMul, Int.reduceToNat, Nat.reduceLT, Nat.reduceLeDiff, Nat.reduceAdd, Nat.reduceEqDiff, Nat.reduceSub, not_false_iff, and_self, implies_true, false_and, and_false, or_self, false_or, or_false, Int.cast_ofNat_Int, Int.natCast_nonneg, SK.f0 hS, SK.f1 hS, SK.f2 hS, SK.f3 hS, SK.f4 hS, SK.f5 hS, SK.f6 hS, SK.f7 hS, SK.f8 hS, SK.f9 hS, SK.l9 hS, SK.a9 hS, SK.e9 hS, SK.f10 hS, SK.l10 hS, SK.a10 hS, SK.e10 hS, SK.f11 hS, SK.l11 hS, SK.a11 hS, SK.e11 hS, SK.f12 hS, SK.l12 hS, SK.a12 hS, SK.e12 hS, SK.f13 hS, SK.l13 hS, SK.a13 hS, SK.e13 hS, SK.f14 hS, SK.l14 hS, SK.a14 hS, SK.f15 hS, SK.l15 hS, SK.a15 hS, SK.f16 hS, SK.l16 hS, SK.a16 hS, SW.f0 hW.1, SW.f1 hW.1, SW.f2 hW.1, SW.f3 hW.1, SW.f4 hW.1, SW.f5 hW.1, SW.f6 hW.1, SW.f7 hW.1, SW.f8 hW.1, SW.f9 hW.1, SW.l9 hW.1, SW.a9 hW.1, SW.e9 hW.1, SW.f10 hW.1, SW.l10 hW.1, SW.a10 hW.1, SW.e10 hW.1, SW.f11 hW.1, SW.l11 hW.1, SW.a11 hW.1, SW.e11 hW.1, SW.f12 hW.1, SW.l12 hW.1, SW.a12 hW.1, SW.e12 hW.1, SW.f13 hW.1, SW.l13 hW.1, SW.a13 hW.1, SW.e13 hW.1, SW.f14 hW.1, SW.l14 hW.1, SW.a14 hW.1, SW.e14 hW.1, SW.f15 hW.1, SW.l15 hW.1, SW.a15 hW.1, SW.e15 hW.1, r1, gArr_of r2, gLen_of r2, eq_true (show (c : Int) < 5 by omega), eq_true (show (f : Int) < 6 by omega), h4']
      refine c_costs hW2 hfn (fun σ2 hs2 => ?_)
      have hs2' : Sm (RLk k w t0) σ σ2 := hs1.tr (hs2.mono (fun _ z => Or.inr z))
      simp only [x_push, x_iload, x_lload, x_aload, x_bin, x_div, x_un, x_lbin, x_ldiv, x_lcmp, x_i2l, x_l2i, x_dup, x_pop, x_dup2, x_c1, x_c2, x_null, x_cat1, x_istore, x_astore, x_lstore, x_iinc, x_nol, x_tsw, xsw, x_lsw, xlsw, x_ret, x_zret, x_lret, x_aret, x_vret, x_getI, x_getL, x_getR, x_putI, x_putZ, x_putL, x_iaload, x_zaload, x_aaload, x_iastore, x_zastore, x_alen, x_mm, x_acopy, xpush, xJ, xK, x_cV0, x_cV1, x_cV2, x_cV3, x_cV4, x_cV5, x_cV6, x_cV7, x_cV8, x_cS1, x_cS2, x_cS3, x_cS4, x_cS5, List.getD_cons_zero, List.getD_cons_succ, List.set_cons_zero, List.set_cons_succ, List.length_cons, List.length_nil, Nat.zero_add, true_and, and_true, List.getD_nil, not_true, not_false_eq_true, Int.toNat_natCast, false_implies, true_implies, if_true, if_false, Int.toNat_zero, Int.toNat_one, true_or, or_true, Int.reduceEq, Int.reduceLT, Int.reduceLE, Int.reduceNe, Int.reduceNeg, Int.reduceAdd, Int.reduceSub, Int.reduceMul, Int.reduceToNat, Nat.reduceLT, Nat.reduceLeDiff, Nat.reduceAdd, Nat.reduceEqDiff, Nat.reduceSub, not_false_iff, and_self, implies_true, false_and, and_false, or_self, false_or, or_false, Int.cast_ofNat_Int, Int.natCast_nonneg, SK.f0 hS, SK.f1 hS, SK.f2 hS, SK.f3 hS, SK.f4 hS, SK.f5 hS, SK.f6 hS, SK.f7 hS, SK.f8 hS, SK.f9 hS, SK.l9 hS, SK.a9 hS, SK.e9 hS, SK.f10 hS, SK.l10 hS, SK.a10 hS, SK.e10 hS, SK.f11 hS, SK.l11 hS, SK.a11 hS, SK.e11 hS, SK.f12 hS, SK.l12 hS, SK.a12 hS, SK.e12 hS, SK.f13 hS, SK.l13 hS, SK.a13 hS, SK.e13 hS, SK.f14 hS, SK.l14 hS, SK.a14 hS, SK.f15 hS, SK.l15 hS, SK.a15 hS, SK.f16 hS, SK.l16 hS, SK.a16 hS, SW.f0 hW.1, SW.f1 hW.1, SW.f2 hW.1, SW.f3 hW.1, SW.f4 hW.1, SW.f5 hW.1, SW.f6 hW.1, SW.f7 hW.1, SW.f8 hW.1, SW.f9 hW.1, SW.l9 hW.1, SW.a9 hW.1, SW.e9 hW.1, SW.f10 hW.1, SW.l10 hW.1, SW.a10 hW.1, SW.e10 hW.1, SW.f11 hW.1, SW.l11 hW.1, SW.a11 hW.1, SW.e11 hW.1, SW.f12 hW.1, SW.l12 hW.1, SW.a12 hW.1, SW.e12 hW.1, SW.f13 hW.1, SW.l13 hW.1, SW.a13 hW.1, SW.e13 hW.1, SW.f14 hW.1, SW.l14 hW.1, SW.a14 hW.1, SW.e14 hW.1, SW.f15 hW.1, SW.l15 hW.1, SW.a15 hW.1, SW.e15 hW.1, r1, r3, gArr_of r2, gLen_of r2, gArr_of r4, gLen_of r4, eq_true (show (c : Int) < 5 by omega), eq_true (show (f : Int) < 6 by omega)]
      generalize hg3 : upd2 σ2 (k + 2 + c) f (sCost E A nc f (A 4 c)) = σ3
      have hs3 : Sm (RLk k w t0) σ σ3 := by rw [← hg3]; exact hs2'.put ok1
      refine c_gladness (hW.same2 hs3 hrl) hc hfn (fun σ4 hs4 => ?_)
      have hs4' : Sm (RLk k w t0) σ σ4 := hs3.tr (hs4.mono (fun _ z => Or.inr z))
      have ec : upd2 σ4 (k + 8 + c) f (sGlad E A nc c f) (k + 2 + c) f = sCost E A nc f (A 4 c) := by
        rw [upd2_row (by omega), hs4 _ (nw _ (by omega) (by omega)), ← hg3, upd2_eq]
      simp only [x_push, x_iload, x_lload, x_aload, x_bin, x_div, x_un, x_lbin, x_ldiv, x_lcmp, x_i2l, x_l2i, x_dup, x_pop, x_dup2, x_c1, x_c2, x_null, x_cat1, x_istore, x_astore, x_lstore, x_iinc, x_nol, x_tsw, xsw, x_lsw, xlsw, x_ret, x_zret, x_lret, x_aret, x_vret, x_getI, x_getL, x_getR, x_putI, x_putZ, x_putL, x_iaload, x_zaload, x_aaload, x_iastore, x_zastore, x_alen, x_mm, x_acopy, xpush, xJ, xK, x_cV0, x_cV1, x_cV2, x_cV3, x_cV4, x_cV5, x_cV6, x_cV7, x_cV8, x_cS1, x_cS2, x_cS3, x_cS4, x_cS5, List.getD_cons_zero, List.getD_cons_succ, List.set_cons_zero, List.set_cons_succ, List.length_cons, List.length_nil, Nat.zero_add, true_and, and_true, List.getD_nil, not_true, not_false_eq_true, Int.toNat_natCast, false_implies, true_implies, if_true, if_false, Int.toNat_zero, Int.toNat_one, true_or, or_true, Int.reduceEq, Int.reduceLT, Int.reduceLE, Int.reduceNe, Int.reduceNeg, Int.reduceAdd, Int.reduceSub, Int.reduceMul, Int.reduceToNat, Nat.reduceLT, Nat.reduceLeDiff, Nat.reduceAdd, Nat.reduceEqDiff, Nat.reduceSub, not_false_iff, and_self, implies_true, false_and, and_false, or_self, false_or, or_false, Int.cast_ofNat_Int, Int.natCast_nonneg, SK.f0 hS, SK.f1 hS, SK.f2 hS, SK.f3 hS, SK.f4 hS, SK.f5 hS, SK.f6 hS, SK.f7 hS, SK.f8 hS, SK.f9 hS, SK.l9 hS, SK.a9 hS, SK.e9 hS, SK.f10 hS, SK.l10 hS, SK.a10 hS, SK.e10 hS, SK.f11 hS, SK.l11 hS, SK.a11 hS, SK.e11 hS, SK.f12 hS, SK.l12 hS, SK.a12 hS, SK.e12 hS, SK.f13 hS, SK.l13 hS, SK.a13 hS, SK.e13 hS, SK.f14 hS, SK.l14 hS, SK.a14 hS, SK.f15 hS, SK.l15 hS, SK.a15 hS, SK.f16 hS, SK.l16 hS, SK.a16 hS, SW.f0 hW.1, SW.f1 hW.1, SW.f2 hW.1, SW.f3 hW.1, SW.f4 hW.1, SW.f5 hW.1, SW.f6 hW.1, SW.f7 hW.1, SW.f8 hW.1, SW.f9 hW.1, SW.l9 hW.1, SW.a9 hW.1, SW.e9 hW.1, SW.f10 hW.1, SW.l10 hW.1, SW.a10 hW.1, SW.e10 hW.1, SW.f11 hW.1, SW.l11 hW.1, SW.a11 hW.1, SW.e11 hW.1, SW.f12 hW.1, SW.l12 hW.1, SW.a12 hW.1, SW.e12 hW.1, SW.f13 hW.1, SW.l13 hW.1, SW.a13 hW.1, SW.e13 hW.1, SW.f14 hW.1, SW.l14 hW.1, SW.a14 hW.1, SW.e14 hW.1, SW.f15 hW.1, SW.l15 hW.1, SW.a15 hW.1, SW.e15 hW.1, r1, r3, r5, gArr_of r2, gLen_of r2, gArr_of r4, gLen_of r4, gArr_of r6, gLen_of r6, eq_true (show (c : Int) < 5 by omega), eq_true (show (f : Int) < 6 by omega), ec]
      generalize hg5 : upd2 σ4 (k + 8 + c) f (sGlad E A nc c f) = σ5
      have hs5 : Sm (RLk k w t0) σ σ5 := by rw [← hg5]; exact hs4'.put ok2
      refine c_payment (hW.same2 hs5 hrl) hc hfn (fun σ6 hs6 => ?_)
      have hs6' : Sm (RLk k w t0) σ σ6 := hs5.tr (hs6.mono (fun _ z => Or.inr z))
      have b1 := sCost_le (E := E) hA hfn (A 4 c)
      have b2 : 0 ≤ sPay E A nc c f ∧ sPay E A nc c f ≤ 99 := sRule2 _ _ _ _ _ _
      simp only [x_push, x_iload, x_lload, x_aload, x_bin, x_div, x_un, x_lbin, x_ldiv, x_lcmp, x_i2l, x_l2i, x_dup, x_pop, x_dup2, x_c1, x_c2, x_null, x_cat1, x_istore, x_astore, x_lstore, x_iinc, x_nol, x_tsw, xsw, x_lsw, xlsw, x_ret, x_zret, x_lret, x_aret, x_vret, x_getI, x_getL, x_getR, x_putI, x_putZ, x_putL, x_iaload, x_zaload, x_aaload, x_iastore, x_zastore, x_alen, x_mm, x_acopy, xpush, xJ, xK, x_cV0, x_cV1, x_cV2, x_cV3, x_cV4, x_cV5, x_cV6, x_cV7, x_cV8, x_cS1, x_cS2, x_cS3, x_cS4, x_cS5, List.getD_cons_zero, List.getD_cons_succ, List.set_cons_zero, List.set_cons_succ, List.length_cons, List.length_nil, Nat.zero_add, true_and, and_true, List.getD_nil, not_true, not_false_eq_true, Int.toNat_natCast, false_implies, true_implies, if_true, if_false, Int.toNat_zero, Int.toNat_one, true_or, or_true, Int.reduceEq, Int.reduceLT, Int.reduceLE, Int.reduceNe, Int.reduceNeg, Int.reduceAdd, Int.reduceSub, Int.reduceMul, Int.reduceToNat, Nat.reduceLT, Nat.reduceLeDiff, Nat.reduceAdd, Nat.reduceEqDiff, Nat.reduceSub, not_false_iff, and_self, implies_true, false_and, and_false, or_self, false_or, or_false, Int.cast_ofNat_Int, Int.natCast_nonneg, SK.f0 hS, SK.f1 hS, SK.f2 hS, SK.f3 hS, SK.f4 hS, SK.f5 hS, SK.f6 hS, SK.f7 hS, SK.f8 hS, SK.f9 hS, SK.l9 hS, SK.a9 hS, SK.e9 hS, SK.f10 hS, SK.l10 hS, SK.a10 hS, SK.e10 hS, SK.f11 hS, SK.l11 hS, SK.a11 hS, SK.e11 hS, SK.f12 hS, SK.l12 hS, SK.a12 hS, SK.e12 hS, SK.f13 hS, SK.l13 hS, SK.a13 hS, SK.e13 hS, SK.f14 hS, SK.l14 hS, SK.a14 hS, SK.f15 hS, SK.l15 hS, SK.a15 hS, SK.f16 hS, SK.l16 hS, SK.a16 hS, SW.f0 hW.1, SW.f1 hW.1, SW.f2 hW.1, SW.f3 hW.1, SW.f4 hW.1, SW.f5 hW.1, SW.f6 hW.1, SW.f7 hW.1, SW.f8 hW.1, SW.f9 hW.1, SW.l9 hW.1, SW.a9 hW.1, SW.e9 hW.1, SW.f10 hW.1, SW.l10 hW.1, SW.a10 hW.1, SW.e10 hW.1, SW.f11 hW.1, SW.l11 hW.1, SW.a11 hW.1, SW.e11 hW.1, SW.f12 hW.1, SW.l12 hW.1, SW.a12 hW.1, SW.e12 hW.1, SW.f13 hW.1, SW.l13 hW.1, SW.a13 hW.1, SW.e13 hW.1, SW.f14 hW.1, SW.l14 hW.1, SW.a14 hW.1, SW.e14 hW.1, SW.f15 hW.1, SW.l15 hW.1, SW.a15 hW.1, SW.e15 hW.1, r5, gArr_of r6, gLen_of r6, eq_true (show (c : Int) < 5 by omega), eq_true (show (f : Int) < 6 by omega)]
      rw [oadd_id (by omega) (by omega), oadd_id (by omega) (by omega)]
      generalize hg7 : upd2 σ6 (k + 14 + c) f (sCost E A nc f (A 4 c) + sPay E A nc c f) = σ7
      have hs7 : Sm (RLk k w t0) σ σ7 := by rw [← hg7]; exact hs6'.put ok3
      refine ih (f + 1) σ7 (by omega) (hI.step hnc hc hl hlw hs7 (fun q qa qb q1 q2 q3 => ?_) (fun q i hq hi => ?_) ⟨fun _ => ⟨?_, ?_, ?_⟩, fun z => absurd ha z⟩)
      · rw [← hg7, upd2_row q3, hs6 _ (nw _ qa qb), ← hg5, upd2_row q2, hs4 _ (nw _ qa qb), ← hg3, upd2_row q1, hs2 _ (nw _ qa qb), ← hg1, upd2_row q1]
      · have qa : k ≤ q := by omega
        have qb : q ≤ k + 23 := by omega
        have u : ∀ (τ : Nat → Nat → Int) (a : Nat) (v : Int), upd2 τ a f v q i = τ q i := fun τ a v => by simp [upd2, hi]
        rw [← hg7, u, hs6 _ (nw _ qa qb), ← hg5, u, hs4 _ (nw _ qa qb), ← hg3, u, hs2 _ (nw _ qa qb), ← hg1, u]
      · rw [← hg7, upd2_row (by omega), hs6 _ (nw _ (by omega) (by omega)), ← hg5]; exact ec
      · rw [← hg7, upd2_row (by omega), hs6 _ (nw _ (by omega) (by omega)), ← hg5, upd2_eq]
      · rw [← hg7, upd2_eq]; rfl
    · simp only [x_push, x_iload, x_lload, x_aload, x_bin, x_div, x_un, x_lbin, x_ldiv, x_lcmp, x_i2l, x_l2i, x_dup, x_pop, x_dup2, x_c1, x_c2, x_null, x_cat1, x_istore, x_astore, x_lstore, x_iinc, x_nol, x_tsw, xsw, x_lsw, xlsw, x_ret, x_zret, x_lret, x_aret, x_vret, x_getI, x_getL, x_getR, x_putI, x_putZ, x_putL, x_iaload, x_zaload, x_aaload, x_iastore, x_zastore, x_alen, x_mm, x_acopy, xpush, xJ, xK, x_cV0, x_cV1, x_cV2, x_cV3, x_cV4, x_cV5, x_cV6, x_cV7, x_cV8, x_cS1, x_cS2, x_cS3, x_cS4, x_cS5, List.getD_cons_zero, List.getD_cons_succ, List.set_cons_zero, List.set_cons_succ, List.length_cons, List.length_nil, Nat.zero_add, true_and, and_true, List.getD_nil, not_true, not_false_eq_true, Int.toNat_natCast, false_implies, true_implies, if_true, if_false, Int.toNat_zero, Int.toNat_one, true_or, or_true, Int.reduceEq, Int.reduceLT, Int.reduceLE, Int.reduceNe, Int.reduceNeg, Int.reduceAdd, Int.reduceSub, Int.reduceMul, Int.reduceToNat, Nat.reduceLT, Nat.reduceLeDiff, Nat.reduceAdd, Nat.reduceEqDiff, Nat.reduceSub, not_false_iff, and_self, implies_true, false_and, and_false, or_self, false_or, or_false, Int.cast_ofNat_Int, Int.natCast_nonneg]
      rw [oadd_id (by omega) (by omega)]
      refine ih (f + 1) σ1 (by omega) (hI.step hnc hc hl hlw hs1 (fun q _ _ q1 _ _ => by rw [← hg1, upd2_row q1]) (fun q i hq hi => by rw [← hg1]; simp [upd2, hi]) ⟨fun z => absurd z ha, fun _ => by rw [← hg1, upd2_eq]⟩)
set_option maxHeartbeats 2000000 in
theorem c_look (hS : SK Γ k) (hR : SKr Γ k) (hl : k + 24 ≤ t0) (hW : WOK Γ σ w tx t0 nf nc tc A E) (hQ : ∀ σ', Sm (RLk k w t0) σ σ' → KT σ' k nf nc (tAp A) (tCo E A nc) (sGlad E A nc) (tIc E A nc) (A 2) → Q vu (Γ, σ')) : xRM M_X0_look (d + 5) (0, 0) [vr k, vr w] (Γ, σ) Q := by
  refine xRM_of (by decide) (Nat.le_of_ble_eq_true rfl) ?_
  have hA := hW.2.2.2.2.1
  have hV := hW.2.2.2.1
  have hnf := hA.1
  have hnc := hA.2.1
  have hlw := hW.2.2.1
  have loop : ∀ (m c : Nat) (σ' : Nat → Nat → Int) (v : xV), c + m = nc → LI σ σ' k w t0 nf nc A E c 0 → xR M_X0_look (d + 5) (0, 0) 33 [vr k, vr w, vi c, v] [] (Γ, σ') Q := by
    intro m
    induction m with
    | zero =>
      intro c σ' v hc hI
      have hc : c = nc := by omega
      subst hc
      refine b_X0_look_33 _ _ _ _ ?_
      simp only [k_X0_look_33, x_push, x_iload, x_lload, x_aload, x_bin, x_div, x_un, x_lbin, x_ldiv, x_lcmp, x_i2l, x_l2i, x_dup, x_pop, x_dup2, x_c1, x_c2, x_null, x_cat1, x_istore, x_astore, x_lstore, x_iinc, x_nol, x_tsw, xsw, x_lsw, xlsw, x_ret, x_zret, x_lret, x_aret, x_vret, x_getI, x_getL, x_getR, x_putI, x_putZ, x_putL, x_iaload, x_zaload, x_aaload, x_iastore, x_zastore, x_alen, x_mm, x_acopy, xpush, xJ, xK, x_cV0, x_cV1, x_cV2, x_cV3, x_cV4, x_cV5, x_cV6, x_cV7, x_cV8, x_cS1, x_cS2, x_cS3, x_cS4, x_cS5, List.getD_cons_zero, List.getD_cons_succ, List.set_cons_zero, List.set_cons_succ, List.length_cons, List.length_nil, Nat.zero_add, true_and, and_true, List.getD_nil, not_true, not_false_eq_true, Int.toNat_natCast, false_implies, true_implies, if_true, if_false, Int.toNat_zero, Int.toNat_one, true_or, or_true, Int.reduceEq, Int.reduceLT, Int.reduceLE, Int.reduceNe, Int.reduceNeg, Int.reduceAdd, Int.reduceSub, Int.reduceMul, Int.reduceToNat, Nat.reduceLT, Nat.reduceLeDiff, Nat.reduceAdd, Nat.reduceEqDiff, Nat.reduceSub, not_false_iff, and_self, implies_true, false_and, and_false, or_self, false_or, or_false, Int.cast_ofNat_Int, Int.natCast_nonneg, SK.f0 hS, SK.f1 hS, SK.f2 hS, SK.f3 hS, SK.f4 hS, SK.f5 hS, SK.f6 hS, SK.f7 hS, SK.f8 hS, SK.f9 hS, SK.l9 hS, SK.a9 hS, SK.e9 hS, SK.f10 hS, SK.l10 hS, SK.a10 hS, SK.e10 hS, SK.f11 hS, SK.l11 hS, SK.a11 hS, SK.e11 hS, SK.f12 hS, SK.l12 hS, SK.a12 hS, SK.e12 hS, SK.f13 hS, SK.l13 hS, SK.a13 hS, SK.e13 hS, SK.f14 hS, SK.l14 hS, SK.a14 hS, SK.f15 hS, SK.l15 hS, SK.a15 hS, SK.f16 hS, SK.l16 hS, SK.a16 hS, hI.2.2.1]
      refine ⟨fun _ => hQ σ' hI.1 ⟨hI.2.1, hI.2.2.1, hI.2.2.2.1, fun c' hc' f' hf' => hI.2.2.2.2 c' hc' f' hf' (Or.inl hc')⟩, fun h => absurd (Int.le_refl _) h⟩
    | succ m ih =>
      intro c σ' v hc hI
      refine b_X0_look_33 _ _ _ _ ?_
      simp only [k_X0_look_33, x_push, x_iload, x_lload, x_aload, x_bin, x_div, x_un, x_lbin, x_ldiv, x_lcmp, x_i2l, x_l2i, x_dup, x_pop, x_dup2, x_c1, x_c2, x_null, x_cat1, x_istore, x_astore, x_lstore, x_iinc, x_nol, x_tsw, xsw, x_lsw, xlsw, x_ret, x_zret, x_lret, x_aret, x_vret, x_getI, x_getL, x_getR, x_putI, x_putZ, x_putL, x_iaload, x_zaload, x_aaload, x_iastore, x_zastore, x_alen, x_mm, x_acopy, xpush, xJ, xK, x_cV0, x_cV1, x_cV2, x_cV3, x_cV4, x_cV5, x_cV6, x_cV7, x_cV8, x_cS1, x_cS2, x_cS3, x_cS4, x_cS5, List.getD_cons_zero, List.getD_cons_succ, List.set_cons_zero, List.set_cons_succ, List.length_cons, List.length_nil, Nat.zero_add, true_and, and_true, List.getD_nil, not_true, not_false_eq_true, Int.toNat_natCast, false_implies, true_implies, if_true, if_false, Int.toNat_zero, Int.toNat_one, true_or, or_true, Int.reduceEq, Int.reduceLT, Int.reduceLE, Int.reduceNe, Int.reduceNeg, Int.reduceAdd, Int.reduceSub, Int.reduceMul, Int.reduceToNat, Nat.reduceLT, Nat.reduceLeDiff, Nat.reduceAdd, Nat.reduceEqDiff, Nat.reduceSub, not_false_iff, and_self, implies_true, false_and, and_false, or_self, false_or, or_false, Int.cast_ofNat_Int, Int.natCast_nonneg, SK.f0 hS, SK.f1 hS, SK.f2 hS, SK.f3 hS, SK.f4 hS, SK.f5 hS, SK.f6 hS, SK.f7 hS, SK.f8 hS, SK.f9 hS, SK.l9 hS, SK.a9 hS, SK.e9 hS, SK.f10 hS, SK.l10 hS, SK.a10 hS, SK.e10 hS, SK.f11 hS, SK.l11 hS, SK.a11 hS, SK.e11 hS, SK.f12 hS, SK.l12 hS, SK.a12 hS, SK.e12 hS, SK.f13 hS, SK.l13 hS, SK.a13 hS, SK.e13 hS, SK.f14 hS, SK.l14 hS, SK.a14 hS, SK.f15 hS, SK.l15 hS, SK.a15 hS, SK.f16 hS, SK.l16 hS, SK.a16 hS, hI.2.2.1, eq_false (show ¬ ((nc : Int) ≤ (c : Int)) by omega)]
      exact c_look_in hS hR hl hW (by omega) (fun σ'' v hI' => ih (c + 1) σ'' v (by omega) ⟨hI'.1, hI'.2.1, hI'.2.2.1, hI'.2.2.2.1, fun c' hc' f' hf' hlt => hI'.2.2.2.2 c' hc' f' hf' (by omega)⟩) nf 0 σ' (by omega) hI
  refine b_X0_look_0 _ _ _ _ ?_
  show k_X0_look_0 (d + 4) Q (0, 0) [vr k, vr w, vu, vu] [] (Γ, σ)
  simp only [k_X0_look_0, x_push, x_iload, x_lload, x_aload, x_bin, x_div, x_un, x_lbin, x_ldiv, x_lcmp, x_i2l, x_l2i, x_dup, x_pop, x_dup2, x_c1, x_c2, x_null, x_cat1, x_istore, x_astore, x_lstore, x_iinc, x_nol, x_tsw, xsw, x_lsw, xlsw, x_ret, x_zret, x_lret, x_aret, x_vret, x_getI, x_getL, x_getR, x_putI, x_putZ, x_putL, x_iaload, x_zaload, x_aaload, x_iastore, x_zastore, x_alen, x_mm, x_acopy, xpush, xJ, xK, x_cV0, x_cV1, x_cV2, x_cV3, x_cV4, x_cV5, x_cV6, x_cV7, x_cV8, x_cS1, x_cS2, x_cS3, x_cS4, x_cS5, List.getD_cons_zero, List.getD_cons_succ, List.set_cons_zero, List.set_cons_succ, List.length_cons, List.length_nil, Nat.zero_add, true_and, and_true, List.getD_nil, not_true, not_false_eq_true, Int.toNat_natCast, false_implies, true_implies, if_true, if_false, Int.toNat_zero, Int.toNat_one, true_or, or_true, Int.reduceEq, Int.reduceLT, Int.reduceLE, Int.reduceNe, Int.reduceNeg, Int.reduceAdd, Int.reduceSub, Int.reduceMul, Int.reduceToNat, Nat.reduceLT, Nat.reduceLeDiff, Nat.reduceAdd, Nat.reduceEqDiff, Nat.reduceSub, not_false_iff, and_self, implies_true, false_and, and_false, or_self, false_or, or_false, Int.cast_ofNat_Int, Int.natCast_nonneg, SK.f0 hS, SK.f1 hS, SK.f2 hS, SK.f3 hS, SK.f4 hS, SK.f5 hS, SK.f6 hS, SK.f7 hS, SK.f8 hS, SK.f9 hS, SK.l9 hS, SK.a9 hS, SK.e9 hS, SK.f10 hS, SK.l10 hS, SK.a10 hS, SK.e10 hS, SK.f11 hS, SK.l11 hS, SK.a11 hS, SK.e11 hS, SK.f12 hS, SK.l12 hS, SK.a12 hS, SK.e12 hS, SK.f13 hS, SK.l13 hS, SK.a13 hS, SK.e13 hS, SK.f14 hS, SK.l14 hS, SK.a14 hS, SK.f15 hS, SK.l15 hS, SK.a15 hS, SK.f16 hS, SK.l16 hS, SK.a16 hS, SW.f0 hW.1, SW.f1 hW.1, SW.f2 hW.1, SW.f3 hW.1, SW.f4 hW.1, SW.f5 hW.1, SW.f6 hW.1, SW.f7 hW.1, SW.f8 hW.1, SW.f9 hW.1, SW.l9 hW.1, SW.a9 hW.1, SW.e9 hW.1, SW.f10 hW.1, SW.l10 hW.1, SW.a10 hW.1, SW.e10 hW.1, SW.f11 hW.1, SW.l11 hW.1, SW.a11 hW.1, SW.e11 hW.1, SW.f12 hW.1, SW.l12 hW.1, SW.a12 hW.1, SW.e12 hW.1, SW.f13 hW.1, SW.l13 hW.1, SW.a13 hW.1, SW.e13 hW.1, SW.f14 hW.1, SW.l14 hW.1, SW.a14 hW.1, SW.e14 hW.1, SW.f15 hW.1, SW.l15 hW.1, SW.a15 hW.1, SW.e15 hW.1, upd2_row (show w ≠ k by omega), hV.2.2.1, hV.2.2.2.1]
  have in' : ∀ j, j ≤ 23 → RLk k w t0 (k + j) := fun j hj => Or.inl ⟨by omega, by omega⟩
  refine loop nc 0 _ _ (by omega) ⟨((Sm.rf.put (in' 0 (by omega))).put (in' 0 (by omega))).cpy (in' 19 (by omega)), ?_, ?_, fun f hf => ?_, fun c' _ f' _ hlt => by omega⟩
  · simp (disch := omega) only [cpy2_row, upd2_col, upd2_eq]
  · simp (disch := omega) only [cpy2_row, upd2_col, upd2_eq]
  · rw [cpy2_dst (show f < 6 by omega), upd2_row (by omega), upd2_row (by omega)]
    exact (hV.2.2.2.2.1 f hf).2.2.1
end Keeper
