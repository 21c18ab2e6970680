/-! ===== tokens look at the bytes of the text alone ===== -/
theorem sRun_congr {c : Nat} {B B' : Nat → Int} : ∀ (m a : Nat), (∀ i, a ≤ i → i < a + m → B i = B' i) → sRun c B m a = sRun c B' m a
  | 0, _, _ => rfl
  | m + 1, a, h => by
    simp only [sRun]
    rw [h a (by omega) (by omega), sRun_congr m (a + 1) (fun i h1 h2 => h i (by omega) (by omega))]
theorem sIs_congr {B B' : Nat → Int} : ∀ (l : List Int) (s : Nat), (∀ i, i < l.length → B (s + i) = B' (s + i)) → sIs B s l = sIs B' s l
  | [], _, _ => rfl
  | x :: l, s, h => by
    simp only [sIs]
    have h0 := h 0 (by simp)
    rw [Nat.add_zero] at h0
    have ih := sIs_congr (B := B) (B' := B') l (s + 1) (fun i hi => by
      rw [show s + 1 + i = s + (i + 1) by omega]
      exact h (i + 1) (by simp only [List.length_cons]; omega))
    rw [h0, ih]
theorem sWa_congr {B B' : Nat → Int} {s e w : Nat} (h : ∀ i, s ≤ i → i < e → B i = B' i) : sWa B s e w = sWa B' s e w := by
  unfold sWa
  by_cases z : (sWd w).length = e - s
  · rw [sIs_congr (sWd w) s (fun i hi => h (s + i) (by omega) (by omega))]
  · simp [z]
theorem sWk_congr {B B' : Nat → Int} {s e : Nat} (h : ∀ i, s ≤ i → i < e → B i = B' i) : ∀ w, sWk B s e w = sWk B' s e w
  | 0 => rfl
  | w + 1 => by
    simp only [sWk]
    rw [sWa_congr h, sWk_congr h w]
theorem sWn_congr {B B' : Nat → Int} {s : Nat} : ∀ (k : Nat), (∀ i, i < k → B (s + i) = B' (s + i)) → sWn B s k = sWn B' s k
  | 0, _ => rfl
  | k + 1, h => by
    simp only [sWn]
    rw [sWn_congr k (fun i hi => h i (by omega)), h k (by omega)]
theorem sTokAt_congr {B B' : Nat → Int} {n s : Nat} (h : ∀ i, i < n → B i = B' i) : sTokAt B n s = sTokAt B' n s := by
  unfold sTokAt
  by_cases z : n ≤ s
  · rw [if_pos z, if_pos z]
  · have r1 := sRun_congr (c := 1) (B := B) (B' := B') (n - s) s (fun i h1 h2 => h i (by omega))
    have r2 := sRun_congr (c := 2) (B := B) (B' := B') (n - s) s (fun i h1 h2 => h i (by omega))
    have g1 := sRun_ge 1 B' (n - s) s
    have g2 := sRun_ge 2 B' (n - s) s
    rw [if_neg z, if_neg z, h s (by omega), r1, r2, sWk_congr (fun i h1 h2 => h i (by omega)), sWn_congr _ (fun i hi => h (s + i) (by omega))]
theorem sToks_congr {B B' : Nat → Int} {n : Nat} (h : ∀ i, i < n → B i = B' i) : ∀ (m a : Nat), a ≤ n → sToks B n m a = sToks B' n m a
  | 0, _, _ => rfl
  | m + 1, a, ha => by
    have e : sTok B n a = sTok B' n a := by
      unfold sTok
      rw [sRun_congr (c := 0) (B := B) (B' := B') (n - a) a (fun i h1 h2 => h i (by omega)), sTokAt_congr h]
    simp only [sToks]
    rw [e]
    by_cases z : (sTok B' n a).1.1 = 256 ∨ (sTok B' n a).1.1 = 257
    · rw [if_pos z, if_pos z]
    · rw [if_neg z, if_neg z, sToks_congr h m _ (sTok_end ha (fun y => z (Or.inl y))).2]
theorem sTx_congr {B B' : Nat → Int} {n : Nat} (h : ∀ i, i < n → B i = B' i) : sTx B n = sTx B' n := sToks_congr h _ _ (by omega)
/-! ===== the class's calls: feed, text, force, image, back, count ===== -/
def uT (S : xSt) (n : Nat) (B : Nat → Int) : xSt := (S.1, S.2.1, (n, B), S.2.2.2)
def uX (S : xSt) (tc : Nat) (X : Nat → Nat × (Nat → Int)) : xSt := (S.1, (tc, X), S.2.2)
def uK (S : xSt) (k : Bool × Nat × Nat × (Nat → Nat → Int)) : xSt := (S.1, S.2.1, S.2.2.1, k, S.2.2.2.2)
def a_feed (S : xSt) (b : Int) : Int := if 0 ≤ b ∧ b ≤ 255 then (if zN S < 160 then ((zN S + 1 : Nat) : Int) else -4) else -2
def n_feed (S : xSt) (b : Int) : xSt := if (0 ≤ b ∧ b ≤ 255) ∧ zN S < 160 then uT S (zN S + 1) (updf (zB S) (zN S) b) else S
def a_text (S : xSt) : Int := if zT S < 6 then (match pText (sTx (zB S) (zN S)) with
  | .inl f => osub (-100) (f : Int)
  | .inr _ => (zT S : Int)) else -4
def n_text (S : xSt) : xSt := if zT S < 6 then (match pText (sTx (zB S) (zN S)) with
  | .inl _ => uT S 0 (zB S)
  | .inr _ => uX (uT S 0 (zB S)) (zT S + 1) (fun i => if i = zT S then (zN S, zB S) else zX S i)) else S
def a_force (S : xSt) (t : Int) : Int := if 0 ≤ t ∧ t < zT S then zA S 7 0 else -2
def n_force (S : xSt) (t : Int) : xSt := if 0 ≤ t ∧ t < zT S then uW S (zF S) (zC S) (upd2 (zA S) 7 0 t) else S
def n_image (S : xSt) : xSt := uK S (true, zF S, zC S, zA S)
def a_back (S : xSt) : Int := if (zK S).1 = true then ((zK S).2.1 : Int) else -3
def n_back (S : xSt) : xSt := if (zK S).1 = true then uW S (zK S).2.1 (zK S).2.2.1 (zK S).2.2.2 else S
def a_count (S : xSt) (w : Int) : Int := if w = 0 then (zF S : Int) else if w = 1 then (zC S : Int) else if w = 2 then sSum (zA S 2) (zF S) else if w = 3 then (zT S : Int) else if w = 4 then (zN S : Int) else if w = 5 then zA S 7 0 else -2
section Cls
variable {Γ : xSh} {σ : Nat → Nat → Int} {c d : Nat} {S : xSt} {Q : xV → xMem → Prop}
set_option maxHeartbeats 2000000 in
theorem c5_feed {b : Int} (hR : CR Γ σ c S) (hQ : ∀ σ', Sm (RCl c) σ σ' → CR Γ σ' c (n_feed S b) → Q (vi (a_feed S b)) (Γ, σ')) : xRM M_X5_feed (d + 2) (0, 0) [vr c, vi b] (Γ, σ) Q := by
  refine xRM_of (by decide) (Nat.le_of_ble_eq_true rfl) ?_
  have hC := hR.1.1
  have hP := hR.1.2.2.1
  obtain ⟨h1, ⟨h2, h3⟩, h4, h5, ⟨h6, h7⟩, h8⟩ := hR.2.1
  obtain ⟨g1, g2, g3, g4, g5, g6, g7⟩ := hR.2.2
  unfold a_feed n_feed at hQ
  refine b_X5_feed_0 _ _ _ _ ?_
  show k_X5_feed_0 (d + 1) Q (0, 0) [vr c, vi b] [] (Γ, σ)
  simp only [k_X5_feed_0, x_push, x_iload, x_lload, x_aload, x_bin, x_div, x_un, x_lbin, x_ldiv, x_lcmp, x_i2l, x_l2i, x_dup, x_pop, x_dup2, x_c1, x_c2, x_null, x_cat1, x_istore, x_astore, x_lstore, x_iinc, x_nol, x_tsw, xsw, x_lsw, xlsw, x_ret, x_zret, x_lret, x_aret, x_vret, x_getI, x_getL, x_getR, x_putI, x_putZ, x_putL, x_iaload, x_zaload, x_aaload, x_iastore, x_zastore, x_alen, x_mm, x_acopy, xpush, xJ, xK, x_cV0, x_cV1, x_cV2, x_cV3, x_cV4, x_cV5, x_cV6, x_cV7, x_cV8, x_cS1, x_cS2, x_cS3, x_cS4, x_cS5, List.getD_cons_zero, List.getD_cons_succ, List.set_cons_zero, List.set_cons_succ, List.length_cons, List.length_nil, Nat.zero_add, true_and, and_true, List.getD_nil, not_true, not_false_eq_true, Int.toNat_natCast, false_implies, true_implies, if_true, if_false, Int.toNat_zero, Int.toNat_one, true_or, or_true, Int.reduceEq, Int.reduceLT, Int.reduceLE, Int.reduceNe, Int.reduceNeg, Int.reduceAdd, Int.reduceSub, Int.reduceMul, Int.reduceToNat, Nat.reduceLT, Nat.reduceLeDiff, Nat.reduceAdd, Nat.reduceEqDiff, Nat.reduceSub, not_false_iff, and_self, implies_true, false_and, and_false, or_self, false_or, or_false, Int.cast_ofNat_Int, Int.natCast_nonneg, SC.f0 hC, SC.f1 hC, SC.f2 hC, SC.f3 hC, SC.f4 hC, SC.f5 hC, SC.f6 hC, SC.f7 hC, SP.f0 hP, SP.f1 hP, SP.f2 hP, SP.l2 hP, SP.a2 hP, SP.e2 hP]
  refine ⟨fun q => ?_, fun q => ⟨fun q2 => ?_, fun q2 => ?_⟩⟩
  · rw [if_neg (by omega), if_neg (by omega)] at hQ
    exact hQ σ Sm.rf hR
  · refine c_tapeAdd hP h2 (fun z => ?_) (fun z => ?_)
    · simp only [x_push, x_iload, x_lload, x_aload, x_bin, x_div, x_un, x_lbin, x_ldiv, x_lcmp, x_i2l, x_l2i, x_dup, x_pop, x_dup2, x_c1, x_c2, x_null, x_cat1, x_istore, x_astore, x_lstore, x_iinc, x_nol, x_tsw, xsw, x_lsw, xlsw, x_ret, x_zret, x_lret, x_aret, x_vret, x_getI, x_getL, x_getR, x_putI, x_putZ, x_putL, x_iaload, x_zaload, x_aaload, x_iastore, x_zastore, x_alen, x_mm, x_acopy, xpush, xJ, xK, x_cV0, x_cV1, x_cV2, x_cV3, x_cV4, x_cV5, x_cV6, x_cV7, x_cV8, x_cS1, x_cS2, x_cS3, x_cS4, x_cS5, List.getD_cons_zero, List.getD_cons_succ, List.set_cons_zero, List.set_cons_succ, List.length_cons, List.length_nil, Nat.zero_add, true_and, and_true, List.getD_nil, not_true, not_false_eq_true, Int.toNat_natCast, false_implies, true_implies, if_true, if_false, Int.toNat_zero, Int.toNat_one, true_or, or_true, Int.reduceEq, Int.reduceLT, Int.reduceLE, Int.reduceNe, Int.reduceNeg, Int.reduceAdd, Int.reduceSub, Int.reduceMul, Int.reduceToNat, Nat.reduceLT, Nat.reduceLeDiff, Nat.reduceAdd, Nat.reduceEqDiff, Nat.reduceSub, not_false_iff, and_self, implies_true, false_and, and_false, or_self, false_or, or_false, Int.cast_ofNat_Int, Int.natCast_nonneg, SC.f0 hC, SC.f1 hC, SC.f2 hC, SC.f3 hC, SC.f4 hC, SC.f5 hC, SC.f6 hC, SC.f7 hC, SP.f0 hP, SP.f1 hP, SP.f2 hP, SP.l2 hP, SP.a2 hP, SP.e2 hP, upd2_eq]
      rw [if_pos (by omega), if_pos (by omega), if_pos z] at hQ
      have in' : ∀ j, j < 85 → RCl c (c + j) := fun j hj => ⟨by omega, by omega⟩
      refine hQ _ ((Sm.rf.put (in' 3 (by omega))).put (in' 2 (by omega))) ⟨hR.1, ⟨?_, ⟨upd2_eq, fun i hi => ?_⟩, h4.same (fun k a b => ?_), fun i hi => (h5 i hi).same ?_ ?_, ⟨?_, fun hk => (h7 hk).same (fun k a b => ?_)⟩, fun i hi => ?_⟩, ⟨g1, g2, ?_, fun i hi => ?_, g5, g6, g7⟩⟩
      · rw [upd2_row (by omega), upd2_row (by omega)]; exact h1
      · have hi : i < zN S + 1 := hi
        rw [upd2_row (by omega)]
        show upd2 σ (c + 3) (zN S) b (c + 3) i = updf (zB S) (zN S) b i
        by_cases e : i = zN S
        · rw [e, upd2_eq, updf_eq]
        · rw [upd2_col e, updf_ne e]
          exact h3 i (by omega)
      · rw [upd2_row (by omega), upd2_row (by omega)]
      · have : i < zT S := hi
        rw [upd2_row (by omega), upd2_row (by omega)]
      · have : i < zT S := hi
        rw [upd2_row (by omega), upd2_row (by omega)]
      · rw [upd2_row (by omega), upd2_row (by omega)]; exact h6
      · rw [upd2_row (by omega), upd2_row (by omega)]
      · rw [upd2_row (by omega), upd2_row (by omega), upd2_row (by omega), upd2_row (by omega)]
        exact h8 i hi
      · show zN S + 1 ≤ 160
        omega
      · have hi : i < zN S + 1 := hi
        show 0 ≤ updf (zB S) (zN S) b i ∧ updf (zB S) (zN S) b i ≤ 255
        by_cases e : i = zN S
        · rw [e, updf_eq]; omega
        · rw [updf_ne e]
          exact g4 i (by omega)
    · simp only [x_push, x_iload, x_lload, x_aload, x_bin, x_div, x_un, x_lbin, x_ldiv, x_lcmp, x_i2l, x_l2i, x_dup, x_pop, x_dup2, x_c1, x_c2, x_null, x_cat1, x_istore, x_astore, x_lstore, x_iinc, x_nol, x_tsw, xsw, x_lsw, xlsw, x_ret, x_zret, x_lret, x_aret, x_vret, x_getI, x_getL, x_getR, x_putI, x_putZ, x_putL, x_iaload, x_zaload, x_aaload, x_iastore, x_zastore, x_alen, x_mm, x_acopy, xpush, xJ, xK, x_cV0, x_cV1, x_cV2, x_cV3, x_cV4, x_cV5, x_cV6, x_cV7, x_cV8, x_cS1, x_cS2, x_cS3, x_cS4, x_cS5, List.getD_cons_zero, List.getD_cons_succ, List.set_cons_zero, List.set_cons_succ, List.length_cons, List.length_nil, Nat.zero_add, true_and, and_true, List.getD_nil, not_true, not_false_eq_true, Int.toNat_natCast, false_implies, true_implies, if_true, if_false, Int.toNat_zero, Int.toNat_one, true_or, or_true, Int.reduceEq, Int.reduceLT, Int.reduceLE, Int.reduceNe, Int.reduceNeg, Int.reduceAdd, Int.reduceSub, Int.reduceMul, Int.reduceToNat, Nat.reduceLT, Nat.reduceLeDiff, Nat.reduceAdd, Nat.reduceEqDiff, Nat.reduceSub, not_false_iff, and_self, implies_true, false_and, and_false, or_self, false_or, or_false, Int.cast_ofNat_Int, Int.natCast_nonneg]
      rw [if_neg (by omega), if_pos (by omega), if_neg z] at hQ
      exact hQ σ Sm.rf hR
  · rw [if_neg (by omega), if_neg (by omega)] at hQ
    exact hQ σ Sm.rf hR
set_option maxHeartbeats 2000000 in
theorem c5_force {t : Int} (hR : CR Γ σ c S) (hQ : ∀ σ', Sm (RCl c) σ σ' → CR Γ σ' c (n_force S t) → Q (vi (a_force S t)) (Γ, σ')) : xRM M_X5_force (d + 1) (0, 0) [vr c, vi t] (Γ, σ) Q := by
  refine xRM_of (by decide) (Nat.le_of_ble_eq_true rfl) ?_
  obtain ⟨hS, hX, hl, hV, hA, htc, hT⟩ := hR.wok
  have hC := hR.1.1
  have h1 := hR.2.1.1
  unfold a_force n_force at hQ
  refine b_X5_force_0 _ _ _ _ ?_
  show k_X5_force_0 d Q (0, 0) [vr c, vi t, vu] [] (Γ, σ)
  simp only [k_X5_force_0, x_push, x_iload, x_lload, x_aload, x_bin, x_div, x_un, x_lbin, x_ldiv, x_lcmp, x_i2l, x_l2i, x_dup, x_pop, x_dup2, x_c1, x_c2, x_null, x_cat1, x_istore, x_astore, x_lstore, x_iinc, x_nol, x_tsw, xsw, x_lsw, xlsw, x_ret, x_zret, x_lret, x_aret, x_vret, x_getI, x_getL, x_getR, x_putI, x_putZ, x_putL, x_iaload, x_zaload, x_aaload, x_iastore, x_zastore, x_alen, x_mm, x_acopy, xpush, xJ, xK, x_cV0, x_cV1, x_cV2, x_cV3, x_cV4, x_cV5, x_cV6, x_cV7, x_cV8, x_cS1, x_cS2, x_cS3, x_cS4, x_cS5, List.getD_cons_zero, List.getD_cons_succ, List.set_cons_zero, List.set_cons_succ, List.length_cons, List.length_nil, Nat.zero_add, true_and, and_true, List.getD_nil, not_true, not_false_eq_true, Int.toNat_natCast, false_implies, true_implies, if_true, if_false, Int.toNat_zero, Int.toNat_one, true_or, or_true, Int.reduceEq, Int.reduceLT, Int.reduceLE, Int.reduceNe, Int.reduceNeg, Int.reduceAdd, Int.reduceSub, Int.reduceMul, Int.reduceToNat, Nat.reduceLT, Nat.reduceLeDiff, Nat.reduceAdd, Nat.reduceEqDiff, Nat.reduceSub, not_false_iff, and_self, implies_true, false_and, and_false, or_self, false_or, or_false, Int.cast_ofNat_Int, Int.natCast_nonneg, SC.f0 hC, SC.f1 hC, SC.f2 hC, SC.f3 hC, SC.f4 hC, SC.f5 hC, SC.f6 hC, SC.f7 hC, SW.f0 hS, SW.f1 hS, SW.f2 hS, SW.f3 hS, SW.f4 hS, SW.f5 hS, SW.f6 hS, SW.f7 hS, SW.f8 hS, SW.f9 hS, SW.l9 hS, SW.a9 hS, SW.e9 hS, SW.f10 hS, SW.l10 hS, SW.a10 hS, SW.e10 hS, SW.f11 hS, SW.l11 hS, SW.a11 hS, SW.e11 hS, SW.f12 hS, SW.l12 hS, SW.a12 hS, SW.e12 hS, SW.f13 hS, SW.l13 hS, SW.a13 hS, SW.e13 hS, SW.f14 hS, SW.l14 hS, SW.a14 hS, SW.e14 hS, SW.f15 hS, SW.l15 hS, SW.a15 hS, SW.e15 hS, h1, hV.2.1]
  refine ⟨fun q => ?_, fun q => ⟨fun q2 => ?_, fun q2 => ?_⟩⟩
  · rw [if_neg (by omega), if_neg (by omega)] at hQ
    exact hQ σ Sm.rf hR
  · rw [if_pos (by omega), if_pos (by omega)] at hQ
    obtain ⟨b1, b2, b3, b4, b5, b6⟩ := id hV
    have hs : Sm (RV (c + 61)) σ (upd2 σ (c + 61) 2 t) := Sm.rf.put ⟨by omega, by omega⟩
    refine hQ _ (hs.mono (fun q => RV_Cl)) ⟨hR.1, hR.2.1.world hs htc ⟨?_, ?_, ?_, ?_, fun f hf => ?_, fun k hk => ?_⟩, hR.2.2.world ?_ (fun z => ⟨(hR.kw z).1, fun g hg => ?_⟩)⟩
    · rw [upd2_col (by decide), upd2_row (by decide)]; exact b1
    · rw [upd2_eq, upd2_eq]
    · rw [upd2_col (by decide)]; exact b3
    · rw [upd2_col (by decide)]; exact b4
    · rw [upd2_row (by omega), upd2_row (by omega), upd2_row (by omega), upd2_row (by omega), upd2_row (by omega), upd2_row (by omega), upd2_row (by omega), upd2_row (by omega)]
      exact b5 f hf
    · rw [upd2_row (by omega), upd2_row (by omega), upd2_row (by omega), upd2_row (by omega)]
      exact b6 k hk
    · obtain ⟨a1, a2, a3, a4, a5, a6⟩ := hA
      refine ⟨a1, a2, by rw [upd2_row (by decide)]; exact a3, by rw [upd2_eq]; omega, fun f hf => ?_, fun k hk => ?_⟩
      · rw [upd2_row (by decide), upd2_row (by decide), upd2_row (by decide), upd2_row (by decide)]
        exact a5 f hf
      · rw [upd2_row (by decide), upd2_row (by decide)]
        exact a6 k hk
    · rw [(hR.kw z).2 g hg, upd2_row (by decide)]
  · rw [if_neg (by omega), if_neg (by omega)] at hQ
    exact hQ σ Sm.rf hR
set_option maxHeartbeats 2000000 in
theorem c5_image (hR : CR Γ σ c S) (hQ : ∀ σ', Sm (RCl c) σ σ' → CR Γ σ' c (n_image S) → Q (vi (zF S)) (Γ, σ')) : xRM M_X5_image (d + 2) (0, 0) [vr c] (Γ, σ) Q := by
  refine xRM_of (by decide) (Nat.le_of_ble_eq_true rfl) ?_
  obtain ⟨hS, hX, hl, hV, hA, htc, hT⟩ := hR.wok
  have hC := hR.1.1
  have hS3 := hR.1.2.2.2.2.2.2.2.2
  obtain ⟨h1, ⟨h2, h3⟩, h4, h5, ⟨h6, h7⟩, h8⟩ := hR.2.1
  obtain ⟨g1, g2, g3, g4, g5, g6, g7⟩ := hR.2.2
  refine b_X5_image_0 _ _ _ _ ?_
  show k_X5_image_0 (d + 1) Q (0, 0) [vr c] [] (Γ, σ)
  simp only [k_X5_image_0, x_push, x_iload, x_lload, x_aload, x_bin, x_div, x_un, x_lbin, x_ldiv, x_lcmp, x_i2l, x_l2i, x_dup, x_pop, x_dup2, x_c1, x_c2, x_null, x_cat1, x_istore, x_astore, x_lstore, x_iinc, x_nol, x_tsw, xsw, x_lsw, xlsw, x_ret, x_zret, x_lret, x_aret, x_vret, x_getI, x_getL, x_getR, x_putI, x_putZ, x_putL, x_iaload, x_zaload, x_aaload, x_iastore, x_zastore, x_alen, x_mm, x_acopy, xpush, xJ, xK, x_cV0, x_cV1, x_cV2, x_cV3, x_cV4, x_cV5, x_cV6, x_cV7, x_cV8, x_cS1, x_cS2, x_cS3, x_cS4, x_cS5, List.getD_cons_zero, List.getD_cons_succ, List.set_cons_zero, List.set_cons_succ, List.length_cons, List.length_nil, Nat.zero_add, true_and, and_true, List.getD_nil, not_true, not_false_eq_true, Int.toNat_natCast, false_implies, true_implies, if_true, if_false, Int.toNat_zero, Int.toNat_one, true_or, or_true, Int.reduceEq, Int.reduceLT, Int.reduceLE, Int.reduceNe, Int.reduceNeg, Int.reduceAdd, Int.reduceSub, Int.reduceMul, Int.reduceToNat, Nat.reduceLT, Nat.reduceLeDiff, Nat.reduceAdd, Nat.reduceEqDiff, Nat.reduceSub, not_false_iff, and_self, implies_true, false_and, and_false, or_self, false_or, or_false, Int.cast_ofNat_Int, Int.natCast_nonneg, SC.f0 hC, SC.f1 hC, SC.f2 hC, SC.f3 hC, SC.f4 hC, SC.f5 hC, SC.f6 hC, SC.f7 hC, SW.f0 hS3, SW.f1 hS3, SW.f2 hS3, SW.f3 hS3, SW.f4 hS3, SW.f5 hS3, SW.f6 hS3, SW.f7 hS3, SW.f8 hS3, SW.f9 hS3, SW.l9 hS3, SW.a9 hS3, SW.e9 hS3, SW.f10 hS3, SW.l10 hS3, SW.a10 hS3, SW.e10 hS3, SW.f11 hS3, SW.l11 hS3, SW.a11 hS3, SW.e11 hS3, SW.f12 hS3, SW.l12 hS3, SW.a12 hS3, SW.e12 hS3, SW.f13 hS3, SW.l13 hS3, SW.a13 hS3, SW.e13 hS3, SW.f14 hS3, SW.l14 hS3, SW.a14 hS3, SW.e14 hS3, SW.f15 hS3, SW.l15 hS3, SW.a15 hS3, SW.e15 hS3]
  refine c_become hS3 hS (by omega) hV hA.1 hA.2.1 (fun σ' e1 e2 => ?_)
  have ne : ∀ q, (q < c + 77 ∨ c + 83 < q) → σ' q = σ q := fun q hq => e1 q (fun z => by have := z.1; have := z.2; omega)
  simp only [x_push, x_iload, x_lload, x_aload, x_bin, x_div, x_un, x_lbin, x_ldiv, x_lcmp, x_i2l, x_l2i, x_dup, x_pop, x_dup2, x_c1, x_c2, x_null, x_cat1, x_istore, x_astore, x_lstore, x_iinc, x_nol, x_tsw, xsw, x_lsw, xlsw, x_ret, x_zret, x_lret, x_aret, x_vret, x_getI, x_getL, x_getR, x_putI, x_putZ, x_putL, x_iaload, x_zaload, x_aaload, x_iastore, x_zastore, x_alen, x_mm, x_acopy, xpush, xJ, xK, x_cV0, x_cV1, x_cV2, x_cV3, x_cV4, x_cV5, x_cV6, x_cV7, x_cV8, x_cS1, x_cS2, x_cS3, x_cS4, x_cS5, List.getD_cons_zero, List.getD_cons_succ, List.set_cons_zero, List.set_cons_succ, List.length_cons, List.length_nil, Nat.zero_add, true_and, and_true, List.getD_nil, not_true, not_false_eq_true, Int.toNat_natCast, false_implies, true_implies, if_true, if_false, Int.toNat_zero, Int.toNat_one, true_or, or_true, Int.reduceEq, Int.reduceLT, Int.reduceLE, Int.reduceNe, Int.reduceNeg, Int.reduceAdd, Int.reduceSub, Int.reduceMul, Int.reduceToNat, Nat.reduceLT, Nat.reduceLeDiff, Nat.reduceAdd, Nat.reduceEqDiff, Nat.reduceSub, not_false_iff, and_self, implies_true, false_and, and_false, or_self, false_or, or_false, Int.cast_ofNat_Int, Int.natCast_nonneg, SC.f0 hC, SC.f1 hC, SC.f2 hC, SC.f3 hC, SC.f4 hC, SC.f5 hC, SC.f6 hC, SC.f7 hC, SW.f0 hS, SW.f1 hS, SW.f2 hS, SW.f3 hS, SW.f4 hS, SW.f5 hS, SW.f6 hS, SW.f7 hS, SW.f8 hS, SW.f9 hS, SW.l9 hS, SW.a9 hS, SW.e9 hS, SW.f10 hS, SW.l10 hS, SW.a10 hS, SW.e10 hS, SW.f11 hS, SW.l11 hS, SW.a11 hS, SW.e11 hS, SW.f12 hS, SW.l12 hS, SW.a12 hS, SW.e12 hS, SW.f13 hS, SW.l13 hS, SW.a13 hS, SW.e13 hS, SW.f14 hS, SW.l14 hS, SW.a14 hS, SW.e14 hS, SW.f15 hS, SW.l15 hS, SW.a15 hS, SW.e15 hS, upd2_row (show c + 61 ≠ c by omega), ne (c + 61) (by omega), hV.2.2.1]
  refine hQ _ ((e1.mono (fun q z => ⟨by have := z.1; omega, by have := z.2; omega⟩)).put ⟨by omega, by omega⟩) ⟨hR.1, ⟨?_, ⟨?_, fun i hi => ?_⟩, h4.same (fun k a b => ?_), fun i hi => (h5 i hi).same ?_ ?_, ⟨?_, fun hk => ?_⟩, fun i hi => ?_⟩, ⟨g1, g2, g3, g4, g5, fun _ => ⟨g1, Nat.le_refl _, fun f _ => rfl⟩, g7⟩⟩
  · rw [upd2_col (by decide), ne c (by omega)]; exact h1
  · rw [upd2_row (by omega), ne _ (by omega)]; exact h2
  · rw [upd2_row (by omega), ne _ (by omega)]; exact h3 i hi
  · rw [upd2_row (by omega), ne _ (by omega)]
  · have : i < zT S := hi
    rw [upd2_row (by omega), ne _ (by omega)]
  · have : i < zT S := hi
    rw [upd2_row (by omega), ne _ (by omega)]
  · rw [upd2_eq]; rfl
  · exact WV.same e2 (fun k a b => upd2_row (by omega))
  · rw [upd2_row (by omega), upd2_row (by omega), ne _ (by omega), ne _ (by omega)]
    exact h8 i hi
set_option maxHeartbeats 2000000 in
theorem c5_back (hR : CR Γ σ c S) (hQ : ∀ σ', Sm (RCl c) σ σ' → CR Γ σ' c (n_back S) → Q (vi (a_back S)) (Γ, σ')) : xRM M_X5_back (d + 2) (0, 0) [vr c] (Γ, σ) Q := by
  refine xRM_of (by decide) (Nat.le_of_ble_eq_true rfl) ?_
  obtain ⟨hS, hX, hl, hV, hA, htc, hT⟩ := hR.wok
  have hC := hR.1.1
  have hS3 := hR.1.2.2.2.2.2.2.2.2
  obtain ⟨h6, h7⟩ := hR.2.1.2.2.2.2.1
  unfold a_back n_back at hQ
  refine b_X5_back_0 _ _ _ _ ?_
  show k_X5_back_0 (d + 1) Q (0, 0) [vr c] [] (Γ, σ)
  by_cases z : (zK S).1 = true
  · rw [if_pos z] at h6
    rw [if_pos z, if_pos z] at hQ
    obtain ⟨hA3, hk⟩ := hR.2.2.2.2.2.2.2.1 z
    simp only [k_X5_back_0, x_push, x_iload, x_lload, x_aload, x_bin, x_div, x_un, x_lbin, x_ldiv, x_lcmp, x_i2l, x_l2i, x_dup, x_pop, x_dup2, x_c1, x_c2, x_null, x_cat1, x_istore, x_astore, x_lstore, x_iinc, x_nol, x_tsw, xsw, x_lsw, xlsw, x_ret, x_zret, x_lret, x_aret, x_vret, x_getI, x_getL, x_getR, x_putI, x_putZ, x_putL, x_iaload, x_zaload, x_aaload, x_iastore, x_zastore, x_alen, x_mm, x_acopy, xpush, xJ, xK, x_cV0, x_cV1, x_cV2, x_cV3, x_cV4, x_cV5, x_cV6, x_cV7, x_cV8, x_cS1, x_cS2, x_cS3, x_cS4, x_cS5, List.getD_cons_zero, List.getD_cons_succ, List.set_cons_zero, List.set_cons_succ, List.length_cons, List.length_nil, Nat.zero_add, true_and, and_true, List.getD_nil, not_true, not_false_eq_true, Int.toNat_natCast, false_implies, true_implies, if_true, if_false, Int.toNat_zero, Int.toNat_one, true_or, or_true, Int.reduceEq, Int.reduceLT, Int.reduceLE, Int.reduceNe, Int.reduceNeg, Int.reduceAdd, Int.reduceSub, Int.reduceMul, Int.reduceToNat, Nat.reduceLT, Nat.reduceLeDiff, Nat.reduceAdd, Nat.reduceEqDiff, Nat.reduceSub, not_false_iff, and_self, implies_true, false_and, and_false, or_self, false_or, or_false, Int.cast_ofNat_Int, Int.natCast_nonneg, SC.f0 hC, SC.f1 hC, SC.f2 hC, SC.f3 hC, SC.f4 hC, SC.f5 hC, SC.f6 hC, SC.f7 hC, SW.f0 hS, SW.f1 hS, SW.f2 hS, SW.f3 hS, SW.f4 hS, SW.f5 hS, SW.f6 hS, SW.f7 hS, SW.f8 hS, SW.f9 hS, SW.l9 hS, SW.a9 hS, SW.e9 hS, SW.f10 hS, SW.l10 hS, SW.a10 hS, SW.e10 hS, SW.f11 hS, SW.l11 hS, SW.a11 hS, SW.e11 hS, SW.f12 hS, SW.l12 hS, SW.a12 hS, SW.e12 hS, SW.f13 hS, SW.l13 hS, SW.a13 hS, SW.e13 hS, SW.f14 hS, SW.l14 hS, SW.a14 hS, SW.e14 hS, SW.f15 hS, SW.l15 hS, SW.a15 hS, SW.e15 hS, h6]
    refine c_become hS hS3 (by omega) (h7 z) hA3.1 hA3.2.1 (fun σ' e1 e2 => ?_)
    simp only [x_push, x_iload, x_lload, x_aload, x_bin, x_div, x_un, x_lbin, x_ldiv, x_lcmp, x_i2l, x_l2i, x_dup, x_pop, x_dup2, x_c1, x_c2, x_null, x_cat1, x_istore, x_astore, x_lstore, x_iinc, x_nol, x_tsw, xsw, x_lsw, xlsw, x_ret, x_zret, x_lret, x_aret, x_vret, x_getI, x_getL, x_getR, x_putI, x_putZ, x_putL, x_iaload, x_zaload, x_aaload, x_iastore, x_zastore, x_alen, x_mm, x_acopy, xpush, xJ, xK, x_cV0, x_cV1, x_cV2, x_cV3, x_cV4, x_cV5, x_cV6, x_cV7, x_cV8, x_cS1, x_cS2, x_cS3, x_cS4, x_cS5, List.getD_cons_zero, List.getD_cons_succ, List.set_cons_zero, List.set_cons_succ, List.length_cons, List.length_nil, Nat.zero_add, true_and, and_true, List.getD_nil, not_true, not_false_eq_true, Int.toNat_natCast, false_implies, true_implies, if_true, if_false, Int.toNat_zero, Int.toNat_one, true_or, or_true, Int.reduceEq, Int.reduceLT, Int.reduceLE, Int.reduceNe, Int.reduceNeg, Int.reduceAdd, Int.reduceSub, Int.reduceMul, Int.reduceToNat, Nat.reduceLT, Nat.reduceLeDiff, Nat.reduceAdd, Nat.reduceEqDiff, Nat.reduceSub, not_false_iff, and_self, implies_true, false_and, and_false, or_self, false_or, or_false, Int.cast_ofNat_Int, Int.natCast_nonneg, SC.f0 hC, SC.f1 hC, SC.f2 hC, SC.f3 hC, SC.f4 hC, SC.f5 hC, SC.f6 hC, SC.f7 hC, SW.f0 hS, SW.f1 hS, SW.f2 hS, SW.f3 hS, SW.f4 hS, SW.f5 hS, SW.f6 hS, SW.f7 hS, SW.f8 hS, SW.f9 hS, SW.l9 hS, SW.a9 hS, SW.e9 hS, SW.f10 hS, SW.l10 hS, SW.a10 hS, SW.e10 hS, SW.f11 hS, SW.l11 hS, SW.a11 hS, SW.e11 hS, SW.f12 hS, SW.l12 hS, SW.a12 hS, SW.e12 hS, SW.f13 hS, SW.l13 hS, SW.a13 hS, SW.e13 hS, SW.f14 hS, SW.l14 hS, SW.a14 hS, SW.e14 hS, SW.f15 hS, SW.l15 hS, SW.a15 hS, SW.e15 hS, e2.2.2.1]
    exact hQ σ' (e1.mono (fun q => RV_Cl)) ⟨hR.1, hR.2.1.world e1 htc e2, hR.2.2.world hA3 (fun _ => ⟨Nat.le_refl _, fun _ _ => rfl⟩)⟩
  · rw [if_neg z] at h6
    rw [if_neg z, if_neg z] at hQ
    simp only [k_X5_back_0, x_push, x_iload, x_lload, x_aload, x_bin, x_div, x_un, x_lbin, x_ldiv, x_lcmp, x_i2l, x_l2i, x_dup, x_pop, x_dup2, x_c1, x_c2, x_null, x_cat1, x_istore, x_astore, x_lstore, x_iinc, x_nol, x_tsw, xsw, x_lsw, xlsw, x_ret, x_zret, x_lret, x_aret, x_vret, x_getI, x_getL, x_getR, x_putI, x_putZ, x_putL, x_iaload, x_zaload, x_aaload, x_iastore, x_zastore, x_alen, x_mm, x_acopy, xpush, xJ, xK, x_cV0, x_cV1, x_cV2, x_cV3, x_cV4, x_cV5, x_cV6, x_cV7, x_cV8, x_cS1, x_cS2, x_cS3, x_cS4, x_cS5, List.getD_cons_zero, List.getD_cons_succ, List.set_cons_zero, List.set_cons_succ, List.length_cons, List.length_nil, Nat.zero_add, true_and, and_true, List.getD_nil, not_true, not_false_eq_true, Int.toNat_natCast, false_implies, true_implies, if_true, if_false, Int.toNat_zero, Int.toNat_one, true_or, or_true, Int.reduceEq, Int.reduceLT, Int.reduceLE, Int.reduceNe, Int.reduceNeg, Int.reduceAdd, Int.reduceSub, Int.reduceMul, Int.reduceToNat, Nat.reduceLT, Nat.reduceLeDiff, Nat.reduceAdd, Nat.reduceEqDiff, Nat.reduceSub, not_false_iff, and_self, implies_true, false_and, and_false, or_self, false_or, or_false, Int.cast_ofNat_Int, Int.natCast_nonneg, SC.f0 hC, SC.f1 hC, SC.f2 hC, SC.f3 hC, SC.f4 hC, SC.f5 hC, SC.f6 hC, SC.f7 hC, h6]
    exact hQ σ Sm.rf hR
set_option maxHeartbeats 2000000 in
theorem c5_count {w : Int} (hR : CR Γ σ c S) (hQ : Q (vi (a_count S w)) (Γ, σ)) : xRM M_X5_count (d + 2) (0, 0) [vr c, vi w] (Γ, σ) Q := by
  refine xRM_of (by decide) (Nat.le_of_ble_eq_true rfl) ?_
  obtain ⟨hS, hX, hl, hV, hA, htc, hT⟩ := hR.wok
  have hC := hR.1.1
  have hP := hR.1.2.2.1
  obtain ⟨h1, ⟨h2, h3⟩, -⟩ := hR.2.1
  unfold a_count at hQ
  refine b_X5_count_0 _ _ _ _ ?_
  show k_X5_count_0 (d + 1) Q (0, 0) [vr c, vi w] [] (Γ, σ)
  simp only [k_X5_count_0, x_push, x_iload, x_lload, x_aload, x_bin, x_div, x_un, x_lbin, x_ldiv, x_lcmp, x_i2l, x_l2i, x_dup, x_pop, x_dup2, x_c1, x_c2, x_null, x_cat1, x_istore, x_astore, x_lstore, x_iinc, x_nol, x_tsw, xsw, x_lsw, xlsw, x_ret, x_zret, x_lret, x_aret, x_vret, x_getI, x_getL, x_getR, x_putI, x_putZ, x_putL, x_iaload, x_zaload, x_aaload, x_iastore, x_zastore, x_alen, x_mm, x_acopy, xpush, xJ, xK, x_cV0, x_cV1, x_cV2, x_cV3, x_cV4, x_cV5, x_cV6, x_cV7, x_cV8, x_cS1, x_cS2, x_cS3, x_cS4, x_cS5, List.getD_cons_zero, List.getD_cons_succ, List.set_cons_zero, List.set_cons_succ, List.length_cons, List.length_nil, Nat.zero_add, true_and, and_true, List.getD_nil, not_true, not_false_eq_true, Int.toNat_natCast, false_implies, true_implies, if_true, if_false, Int.toNat_zero, Int.toNat_one, true_or, or_true, Int.reduceEq, Int.reduceLT, Int.reduceLE, Int.reduceNe, Int.reduceNeg, Int.reduceAdd, Int.reduceSub, Int.reduceMul, Int.reduceToNat, Nat.reduceLT, Nat.reduceLeDiff, Nat.reduceAdd, Nat.reduceEqDiff, Nat.reduceSub, not_false_iff, and_self, implies_true, false_and, and_false, or_self, false_or, or_false, Int.cast_ofNat_Int, Int.natCast_nonneg, SC.f0 hC, SC.f1 hC, SC.f2 hC, SC.f3 hC, SC.f4 hC, SC.f5 hC, SC.f6 hC, SC.f7 hC, SW.f0 hS, SW.f1 hS, SW.f2 hS, SW.f3 hS, SW.f4 hS, SW.f5 hS, SW.f6 hS, SW.f7 hS, SW.f8 hS, SW.f9 hS, SW.l9 hS, SW.a9 hS, SW.e9 hS, SW.f10 hS, SW.l10 hS, SW.a10 hS, SW.e10 hS, SW.f11 hS, SW.l11 hS, SW.a11 hS, SW.e11 hS, SW.f12 hS, SW.l12 hS, SW.a12 hS, SW.e12 hS, SW.f13 hS, SW.l13 hS, SW.a13 hS, SW.e13 hS, SW.f14 hS, SW.l14 hS, SW.a14 hS, SW.e14 hS, SW.f15 hS, SW.l15 hS, SW.a15 hS, SW.e15 hS, SP.f0 hP, SP.f1 hP, SP.f2 hP, SP.l2 hP, SP.a2 hP, SP.e2 hP, h1, h2, hV.2.1, hV.2.2.1, hV.2.2.2.1]
  refine ⟨fun e => ?_, fun e => ?_, fun e => ?_, fun e => ?_, fun e => ?_, fun e => ?_, fun e => ?_⟩
  · rw [if_pos (by omega)] at hQ; exact hQ
  · rw [if_neg (by omega), if_pos (by omega)] at hQ; exact hQ
  · rw [if_neg (by omega), if_neg (by omega), if_pos (by omega)] at hQ
    refine c_meansOfAll hS hV hA ?_
    simp only [x_push, x_iload, x_lload, x_aload, x_bin, x_div, x_un, x_lbin, x_ldiv, x_lcmp, x_i2l, x_l2i, x_dup, x_pop, x_dup2, x_c1, x_c2, x_null, x_cat1, x_istore, x_astore, x_lstore, x_iinc, x_nol, x_tsw, xsw, x_lsw, xlsw, x_ret, x_zret, x_lret, x_aret, x_vret, x_getI, x_getL, x_getR, x_putI, x_putZ, x_putL, x_iaload, x_zaload, x_aaload, x_iastore, x_zastore, x_alen, x_mm, x_acopy, xpush, xJ, xK, x_cV0, x_cV1, x_cV2, x_cV3, x_cV4, x_cV5, x_cV6, x_cV7, x_cV8, x_cS1, x_cS2, x_cS3, x_cS4, x_cS5, List.getD_cons_zero, List.getD_cons_succ, List.set_cons_zero, List.set_cons_succ, List.length_cons, List.length_nil, Nat.zero_add, true_and, and_true, List.getD_nil, not_true, not_false_eq_true, Int.toNat_natCast, false_implies, true_implies, if_true, if_false, Int.toNat_zero, Int.toNat_one, true_or, or_true, Int.reduceEq, Int.reduceLT, Int.reduceLE, Int.reduceNe, Int.reduceNeg, Int.reduceAdd, Int.reduceSub, Int.reduceMul, Int.reduceToNat, Nat.reduceLT, Nat.reduceLeDiff, Nat.reduceAdd, Nat.reduceEqDiff, Nat.reduceSub, not_false_iff, and_self, implies_true, false_and, and_false, or_self, false_or, or_false, Int.cast_ofNat_Int, Int.natCast_nonneg]
    exact hQ
  · rw [if_neg (by omega), if_neg (by omega), if_neg (by omega), if_pos (by omega)] at hQ; exact hQ
  · rw [if_neg (by omega), if_neg (by omega), if_neg (by omega), if_neg (by omega), if_pos (by omega)] at hQ; exact hQ
  · rw [if_neg (by omega), if_neg (by omega), if_neg (by omega), if_neg (by omega), if_neg (by omega), if_pos (by omega)] at hQ; exact hQ
  · rw [if_neg (by omega), if_neg (by omega), if_neg (by omega), if_neg (by omega), if_neg (by omega), if_neg (by omega)] at hQ; exact hQ
set_option maxHeartbeats 4000000 in
theorem c5_text (hR : CR Γ σ c S) (hQ : ∀ σ', Sm (RCl c) σ σ' → CR Γ σ' c (n_text S) → Q (vi (a_text S)) (Γ, σ')) : xRM M_X5_text (d + 58) (0, 0) [vr c] (Γ, σ) Q := by
  refine xRM_of (by decide) (Nat.le_of_ble_eq_true rfl) ?_
  have hC := hR.1.1
  have hP := hR.1.2.2.1
  have hX := hR.1.2.1
  obtain ⟨h1, ⟨h2, h3⟩, h4, h5, ⟨h6, h7⟩, h8⟩ := id hR.2.1
  obtain ⟨g1, g2, g3, g4, g5, g6, g7⟩ := id hR.2.2
  unfold a_text n_text at hQ
  have r0 : Sm (RCl c) σ σ := Sm.rf
  refine b_X5_text_0 _ _ _ _ ?_
  show k_X5_text_0 (d + 57) Q (0, 0) [vr c, vu] [] (Γ, σ)
  by_cases z : zT S < 6
  · rw [if_pos z, if_pos z] at hQ
    obtain ⟨x1, x2⟩ := hX.2 (zT S) z
    have eTx : sTx (σ (c + 3)) (zN S) = sTx (zB S) (zN S) := sTx_congr h3
    simp only [k_X5_text_0, x_push, x_iload, x_lload, x_aload, x_bin, x_div, x_un, x_lbin, x_ldiv, x_lcmp, x_i2l, x_l2i, x_dup, x_pop, x_dup2, x_c1, x_c2, x_null, x_cat1, x_istore, x_astore, x_lstore, x_iinc, x_nol, x_tsw, xsw, x_lsw, xlsw, x_ret, x_zret, x_lret, x_aret, x_vret, x_getI, x_getL, x_getR, x_putI, x_putZ, x_putL, x_iaload, x_zaload, x_aaload, x_iastore, x_zastore, x_alen, x_mm, x_acopy, xpush, xJ, xK, x_cV0, x_cV1, x_cV2, x_cV3, x_cV4, x_cV5, x_cV6, x_cV7, x_cV8, x_cS1, x_cS2, x_cS3, x_cS4, x_cS5, List.getD_cons_zero, List.getD_cons_succ, List.set_cons_zero, List.set_cons_succ, List.length_cons, List.length_nil, Nat.zero_add, true_and, and_true, List.getD_nil, not_true, not_false_eq_true, Int.toNat_natCast, false_implies, true_implies, if_true, if_false, Int.toNat_zero, Int.toNat_one, true_or, or_true, Int.reduceEq, Int.reduceLT, Int.reduceLE, Int.reduceNe, Int.reduceNeg, Int.reduceAdd, Int.reduceSub, Int.reduceMul, Int.reduceToNat, Nat.reduceLT, Nat.reduceLeDiff, Nat.reduceAdd, Nat.reduceEqDiff, Nat.reduceSub, not_false_iff, and_self, implies_true, false_and, and_false, or_self, false_or, or_false, Int.cast_ofNat_Int, Int.natCast_nonneg, SC.f0 hC, SC.f1 hC, SC.f2 hC, SC.f3 hC, SC.f4 hC, SC.f5 hC, SC.f6 hC, SC.f7 hC, SP.f0 hP, SP.f1 hP, SP.f2 hP, SP.l2 hP, SP.a2 hP, SP.e2 hP, h1, eq_true (show (zT S : Int) < 6 by omega), x1, gLen_of hX.1, eq_true (show ∃ ty, gArr Γ (c + 1) ty ∧ ty.isReference = true from ⟨_, ⟨_, hX.1⟩, rfl⟩)]
    have ne : ∀ {σ' : Nat → Nat → Int}, Sm (RT3 (c + 2) (c + 29 + 4 * zT S)) σ σ' → ∀ q, (q < c + 2 ∨ q = c + 3 ∨ c + 29 + 4 * zT S + 2 < q ∨ (c + 3 < q ∧ q < c + 29 + 4 * zT S)) → σ' q = σ q := fun hs q hq => hs q (fun y => by unfold RT3 at y; omega)
    have cv : ∀ {σ' : Nat → Nat → Int}, Sm (RT3 (c + 2) (c + 29 + 4 * zT S)) σ σ' → CVa (upd2 σ' (c + 2) 1 0) c (uT S 0 (zB S)) := fun {σ'} hs => by
      refine ⟨?_, ⟨upd2_eq, fun i hi => ?_⟩, h4.same (fun k a b => ?_), fun i hi => (h5 i hi).same ?_ ?_, ⟨?_, fun hk => (h7 hk).same (fun k a b => ?_)⟩, fun i hi => ?_⟩
      · rw [upd2_row (by omega), ne hs c (by omega)]; exact h1
      · exact absurd hi (Nat.not_lt_zero i)
      · rw [upd2_row (by omega), ne hs k (by omega)]
      · have : i < zT S := hi
        rw [upd2_row (by omega), ne hs _ (by omega)]
      · have : i < zT S := hi
        rw [upd2_row (by omega), ne hs _ (by omega)]
      · rw [upd2_row (by omega), ne hs c (by omega)]; exact h6
      · rw [upd2_row (by omega), ne hs k (by omega)]
      · rw [upd2_row (by omega), upd2_row (by omega), ne hs _ (by omega), ne hs _ (by omega)]
        exact h8 i hi
    have sm : ∀ {σ' : Nat → Nat → Int}, Sm (RT3 (c + 2) (c + 29 + 4 * zT S)) σ σ' → Sm (RCl c) σ (upd2 σ' (c + 2) 1 0) := fun hs => (hs.mono (fun q y => by unfold RT3 at y; exact ⟨by omega, by omega⟩)).put ⟨by omega, by omega⟩
    refine c_read hP x2 g3 (by omega) h2 rfl (fun f σ' e k1 k2 => ?_) (fun q σ' e k1 k2 k3 => ?_)
    · rw [eTx] at e
      rw [e] at hQ
      simp only [x_push, x_iload, x_lload, x_aload, x_bin, x_div, x_un, x_lbin, x_ldiv, x_lcmp, x_i2l, x_l2i, x_dup, x_pop, x_dup2, x_c1, x_c2, x_null, x_cat1, x_istore, x_astore, x_lstore, x_iinc, x_nol, x_tsw, xsw, x_lsw, xlsw, x_ret, x_zret, x_lret, x_aret, x_vret, x_getI, x_getL, x_getR, x_putI, x_putZ, x_putL, x_iaload, x_zaload, x_aaload, x_iastore, x_zastore, x_alen, x_mm, x_acopy, xpush, xJ, xK, x_cV0, x_cV1, x_cV2, x_cV3, x_cV4, x_cV5, x_cV6, x_cV7, x_cV8, x_cS1, x_cS2, x_cS3, x_cS4, x_cS5, List.getD_cons_zero, List.getD_cons_succ, List.set_cons_zero, List.set_cons_succ, List.length_cons, List.length_nil, Nat.zero_add, true_and, and_true, List.getD_nil, not_true, not_false_eq_true, Int.toNat_natCast, false_implies, true_implies, if_true, if_false, Int.toNat_zero, Int.toNat_one, true_or, or_true, Int.reduceEq, Int.reduceLT, Int.reduceLE, Int.reduceNe, Int.reduceNeg, Int.reduceAdd, Int.reduceSub, Int.reduceMul, Int.reduceToNat, Nat.reduceLT, Nat.reduceLeDiff, Nat.reduceAdd, Nat.reduceEqDiff, Nat.reduceSub, not_false_iff, and_self, implies_true, false_and, and_false, or_self, false_or, or_false, Int.cast_ofNat_Int, Int.natCast_nonneg, SC.f0 hC, SC.f1 hC, SC.f2 hC, SC.f3 hC, SC.f4 hC, SC.f5 hC, SC.f6 hC, SC.f7 hC, SP.f0 hP, SP.f1 hP, SP.f2 hP, SP.l2 hP, SP.a2 hP, SP.e2 hP]
      refine c_tapeClear hP ?_
      simp only [x_push, x_iload, x_lload, x_aload, x_bin, x_div, x_un, x_lbin, x_ldiv, x_lcmp, x_i2l, x_l2i, x_dup, x_pop, x_dup2, x_c1, x_c2, x_null, x_cat1, x_istore, x_astore, x_lstore, x_iinc, x_nol, x_tsw, xsw, x_lsw, xlsw, x_ret, x_zret, x_lret, x_aret, x_vret, x_getI, x_getL, x_getR, x_putI, x_putZ, x_putL, x_iaload, x_zaload, x_aaload, x_iastore, x_zastore, x_alen, x_mm, x_acopy, xpush, xJ, xK, x_cV0, x_cV1, x_cV2, x_cV3, x_cV4, x_cV5, x_cV6, x_cV7, x_cV8, x_cS1, x_cS2, x_cS3, x_cS4, x_cS5, List.getD_cons_zero, List.getD_cons_succ, List.set_cons_zero, List.set_cons_succ, List.length_cons, List.length_nil, Nat.zero_add, true_and, and_true, List.getD_nil, not_true, not_false_eq_true, Int.toNat_natCast, false_implies, true_implies, if_true, if_false, Int.toNat_zero, Int.toNat_one, true_or, or_true, Int.reduceEq, Int.reduceLT, Int.reduceLE, Int.reduceNe, Int.reduceNeg, Int.reduceAdd, Int.reduceSub, Int.reduceMul, Int.reduceToNat, Nat.reduceLT, Nat.reduceLeDiff, Nat.reduceAdd, Nat.reduceEqDiff, Nat.reduceSub, not_false_iff, and_self, implies_true, false_and, and_false, or_self, false_or, or_false, Int.cast_ofNat_Int, Int.natCast_nonneg, SC.f0 hC, SC.f1 hC, SC.f2 hC, SC.f3 hC, SC.f4 hC, SC.f5 hC, SC.f6 hC, SC.f7 hC, SP.f0 hP, SP.f1 hP, SP.f2 hP, SP.l2 hP, SP.a2 hP, SP.e2 hP, eq_false (show ¬ ((f : Int) = -1) by omega)]
      exact hQ _ (sm k1) ⟨hR.1, cv k1, ⟨g1, g2, Nat.zero_le _, fun i hi => absurd hi (Nat.not_lt_zero i), g5, g6, g7⟩⟩
    · rw [eTx] at e
      rw [e] at hQ
      simp only [x_push, x_iload, x_lload, x_aload, x_bin, x_div, x_un, x_lbin, x_ldiv, x_lcmp, x_i2l, x_l2i, x_dup, x_pop, x_dup2, x_c1, x_c2, x_null, x_cat1, x_istore, x_astore, x_lstore, x_iinc, x_nol, x_tsw, xsw, x_lsw, xlsw, x_ret, x_zret, x_lret, x_aret, x_vret, x_getI, x_getL, x_getR, x_putI, x_putZ, x_putL, x_iaload, x_zaload, x_aaload, x_iastore, x_zastore, x_alen, x_mm, x_acopy, xpush, xJ, xK, x_cV0, x_cV1, x_cV2, x_cV3, x_cV4, x_cV5, x_cV6, x_cV7, x_cV8, x_cS1, x_cS2, x_cS3, x_cS4, x_cS5, List.getD_cons_zero, List.getD_cons_succ, List.set_cons_zero, List.set_cons_succ, List.length_cons, List.length_nil, Nat.zero_add, true_and, and_true, List.getD_nil, not_true, not_false_eq_true, Int.toNat_natCast, false_implies, true_implies, if_true, if_false, Int.toNat_zero, Int.toNat_one, true_or, or_true, Int.reduceEq, Int.reduceLT, Int.reduceLE, Int.reduceNe, Int.reduceNeg, Int.reduceAdd, Int.reduceSub, Int.reduceMul, Int.reduceToNat, Nat.reduceLT, Nat.reduceLeDiff, Nat.reduceAdd, Nat.reduceEqDiff, Nat.reduceSub, not_false_iff, and_self, implies_true, false_and, and_false, or_self, false_or, or_false, Int.cast_ofNat_Int, Int.natCast_nonneg, SC.f0 hC, SC.f1 hC, SC.f2 hC, SC.f3 hC, SC.f4 hC, SC.f5 hC, SC.f6 hC, SC.f7 hC, SP.f0 hP, SP.f1 hP, SP.f2 hP, SP.l2 hP, SP.a2 hP, SP.e2 hP]
      refine c_tapeClear hP ?_
      have e1 : upd2 σ' (c + 2) 1 0 c 1 = (zT S : Int) := by rw [upd2_row (by omega), ne k1 c (by omega)]; exact h1
      simp only [x_push, x_iload, x_lload, x_aload, x_bin, x_div, x_un, x_lbin, x_ldiv, x_lcmp, x_i2l, x_l2i, x_dup, x_pop, x_dup2, x_c1, x_c2, x_null, x_cat1, x_istore, x_astore, x_lstore, x_iinc, x_nol, x_tsw, xsw, x_lsw, xlsw, x_ret, x_zret, x_lret, x_aret, x_vret, x_getI, x_getL, x_getR, x_putI, x_putZ, x_putL, x_iaload, x_zaload, x_aaload, x_iastore, x_zastore, x_alen, x_mm, x_acopy, xpush, xJ, xK, x_cV0, x_cV1, x_cV2, x_cV3, x_cV4, x_cV5, x_cV6, x_cV7, x_cV8, x_cS1, x_cS2, x_cS3, x_cS4, x_cS5, List.getD_cons_zero, List.getD_cons_succ, List.set_cons_zero, List.set_cons_succ, List.length_cons, List.length_nil, Nat.zero_add, true_and, and_true, List.getD_nil, not_true, not_false_eq_true, Int.toNat_natCast, false_implies, true_implies, if_true, if_false, Int.toNat_zero, Int.toNat_one, true_or, or_true, Int.reduceEq, Int.reduceLT, Int.reduceLE, Int.reduceNe, Int.reduceNeg, Int.reduceAdd, Int.reduceSub, Int.reduceMul, Int.reduceToNat, Nat.reduceLT, Nat.reduceLeDiff, Nat.reduceAdd, Nat.reduceEqDiff, Nat.reduceSub, not_false_iff, and_self, implies_true, false_and, and_false, or_self, false_or, or_false, Int.cast_ofNat_Int, Int.natCast_nonneg, SC.f0 hC, SC.f1 hC, SC.f2 hC, SC.f3 hC, SC.f4 hC, SC.f5 hC, SC.f6 hC, SC.f7 hC, SP.f0 hP, SP.f1 hP, SP.f2 hP, SP.l2 hP, SP.a2 hP, SP.e2 hP, e1, upd2_eq, (show oadd (zT S : Int) 1 = ((zT S + 1 : Nat) : Int) by (first | rw [oadd_id (by omega) (by omega)] | rw [osub_id (by omega) (by omega)] | rw [omul_id (by omega) (by omega)]) <;> omega), (show osub ((zT S + 1 : Nat) : Int) 1 = (zT S : Int) by (first | rw [oadd_id (by omega) (by omega)] | rw [osub_id (by omega) (by omega)] | rw [omul_id (by omega) (by omega)]) <;> omega)]
      have cv0 := cv k1
      obtain ⟨b1, ⟨b2, b3⟩, b4, b5, ⟨b6, b7⟩, b8⟩ := cv0
      have in' : ∀ j, j < 85 → RCl c (c + j) := fun j hj => ⟨by omega, by omega⟩
      refine hQ _ ((sm k1).put (in' 0 (by omega))) ⟨hR.1, ⟨upd2_eq, ⟨?_, fun i hi => ?_⟩, b4.same (fun k a b => upd2_row (by omega)), fun i hi => ?_, ⟨?_, fun hk => (b7 hk).same (fun k a b => upd2_row (by omega))⟩, fun i hi => ?_⟩, ⟨?_, ?_, Nat.zero_le _, fun i hi => absurd hi (Nat.not_lt_zero i), fun i hi => ?_, fun hk => ?_, g7⟩⟩
      · rw [upd2_row (by omega)]; exact b2
      · exact absurd hi (Nat.not_lt_zero i)
      · have hi : i < zT S + 1 := hi
        by_cases ei : i = zT S
        · subst ei
          have hE : zE (uX (uT S 0 (zB S)) (zT S + 1) (fun i => if i = zT S then (zN S, zB S) else zX S i)) (zT S) = sPt q := by
            funext p
            show tE (fun i => if i = zT S then (zN S, zB S) else zX S i) (zT S) p = sPt q p
            unfold tE
            dsimp only
            rw [if_pos rfl, e]
          rw [hE]
          refine k3.same ?_ ?_
          · rw [upd2_row (by omega), upd2_row (by omega)]
          · rw [upd2_row (by omega), upd2_row (by omega)]
        · have hE : zE (uX (uT S 0 (zB S)) (zT S + 1) (fun i => if i = zT S then (zN S, zB S) else zX S i)) i = zE S i := by
            funext p
            show tE (fun i => if i = zT S then (zN S, zB S) else zX S i) i p = tE (zX S) i p
            unfold tE
            dsimp only
            rw [if_neg ei]
          rw [hE]
          have bi : TE _ _ (zE S i) := b5 i (show i < zT S by omega)
          exact bi.same (upd2_row (by omega)) (upd2_row (by omega))
      · rw [upd2_col (by decide)]; exact b6
      · rw [upd2_row (show c + 53 + 2 * i ≠ c by omega), upd2_row (show c + 54 + 2 * i ≠ c by omega)]
        exact b8 i hi
      · obtain ⟨a1, a2, a3, a4, a5, a6⟩ := g1
        exact ⟨a1, a2, a3, ⟨a4.1, by have := a4.2; show zA S 7 0 < ((zT S + 1 : Nat) : Int); omega⟩, a5, a6⟩
      · show 1 ≤ zT S + 1 ∧ zT S + 1 ≤ 6
        omega
      · have hi : i < zT S + 1 := hi
        show (if i = zT S then (zN S, zB S) else zX S i).1 ≤ 160 ∧ (∀ j, j < (if i = zT S then (zN S, zB S) else zX S i).1 → 0 ≤ (if i = zT S then (zN S, zB S) else zX S i).2 j ∧ (if i = zT S then (zN S, zB S) else zX S i).2 j ≤ 255) ∧ ∃ q, pText (sTx (if i = zT S then (zN S, zB S) else zX S i).2 (if i = zT S then (zN S, zB S) else zX S i).1) = .inr q
        by_cases ei : i = zT S
        · rw [if_pos ei]
          exact ⟨g3, g4, q, e⟩
        · rw [if_neg ei]
          exact g5 i (by omega)
      · obtain ⟨⟨a1, a2, a3, a4, a5, a6⟩, gk⟩ := g6 hk
        exact ⟨⟨a1, a2, a3, ⟨a4.1, by have := a4.2; show (zK S).2.2.2 7 0 < ((zT S + 1 : Nat) : Int); omega⟩, a5, a6⟩, gk⟩
  · rw [if_neg z, if_neg z] at hQ
    simp only [k_X5_text_0, x_push, x_iload, x_lload, x_aload, x_bin, x_div, x_un, x_lbin, x_ldiv, x_lcmp, x_i2l, x_l2i, x_dup, x_pop, x_dup2, x_c1, x_c2, x_null, x_cat1, x_istore, x_astore, x_lstore, x_iinc, x_nol, x_tsw, xsw, x_lsw, xlsw, x_ret, x_zret, x_lret, x_aret, x_vret, x_getI, x_getL, x_getR, x_putI, x_putZ, x_putL, x_iaload, x_zaload, x_aaload, x_iastore, x_zastore, x_alen, x_mm, x_acopy, xpush, xJ, xK, x_cV0, x_cV1, x_cV2, x_cV3, x_cV4, x_cV5, x_cV6, x_cV7, x_cV8, x_cS1, x_cS2, x_cS3, x_cS4, x_cS5, List.getD_cons_zero, List.getD_cons_succ, List.set_cons_zero, List.set_cons_succ, List.length_cons, List.length_nil, Nat.zero_add, true_and, and_true, List.getD_nil, not_true, not_false_eq_true, Int.toNat_natCast, false_implies, true_implies, if_true, if_false, Int.toNat_zero, Int.toNat_one, true_or, or_true, Int.reduceEq, Int.reduceLT, Int.reduceLE, Int.reduceNe, Int.reduceNeg, Int.reduceAdd, Int.reduceSub, Int.reduceMul, Int.reduceToNat, Nat.reduceLT, Nat.reduceLeDiff, Nat.reduceAdd, Nat.reduceEqDiff, Nat.reduceSub, not_false_iff, and_self, implies_true, false_and, and_false, or_self, false_or, or_false, Int.cast_ofNat_Int, Int.natCast_nonneg, SC.f0 hC, SC.f1 hC, SC.f2 hC, SC.f3 hC, SC.f4 hC, SC.f5 hC, SC.f6 hC, SC.f7 hC, h1, eq_false (show ¬ ((zT S : Int) < 6) by omega)]
    exact hQ σ Sm.rf hR
end Cls
