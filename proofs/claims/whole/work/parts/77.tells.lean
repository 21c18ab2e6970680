/-! ===== the class's calls: tells (printed by wip/whole/gen/tells.py) ===== -/
/-- bits of those k from lo on, below n, of which q says -1 -/
def sBs (q : Nat → Int) (lo : Nat) : Nat → Nat
  | 0 => 0
  | n + 1 => sBs q lo n + (if lo ≤ n ∧ q n = -1 then 2 ^ n else 0)
theorem sBs_lt (q : Nat → Int) (lo : Nat) : ∀ n, sBs q lo n < 2 ^ n
  | 0 => by simp [sBs]
  | n + 1 => by
    have := sBs_lt q lo n
    simp only [sBs]
    rw [Nat.pow_succ]
    split <;> omega
theorem sBs_lo (q : Nat → Int) (lo : Nat) : sBs q lo lo = 0 := by
  have : ∀ n, n ≤ lo → sBs q lo n = 0 := by
    intro n
    induction n with
    | zero => intro _; rfl
    | succ n ih =>
      intro h
      simp only [sBs]
      rw [ih (by omega), if_neg (by omega)]
  exact this lo (Nat.le_refl _)
theorem oor_all2 : ∀ k : Fin 10, ∀ x : Fin 1024, x.val / 2 ^ k.val % 2 = 0 → (Int32.ofInt (x.val : Int) ||| Int32.ofInt ((Int32.ofInt 1 <<< (Int32.ofInt (k.val : Int) &&& 31)).toInt)).toInt = ((x.val + 2 ^ k.val : Nat) : Int) := by decide +kernel
theorem oor_add {x k : Nat} (hk : k < 10) (hx : x < 1024) (hb : x / 2 ^ k % 2 = 0) : oor (x : Int) (oshl 1 (k : Int)) = ((x + 2 ^ k : Nat) : Int) := by
  rw [oor_def, oshl_def]
  exact oor_all2 ⟨k, hk⟩ ⟨x, hx⟩ hb
theorem oor_0_all : ∀ x : Fin 1024, (Int32.ofInt (x.val : Int) ||| Int32.ofInt 0).toInt = (x.val : Int) := by decide +kernel
theorem oor_0 {x : Nat} (hx : x < 1024) : oor (x : Int) 0 = (x : Int) := by
  rw [oor_def]
  exact oor_0_all ⟨x, hx⟩
theorem sBs_step {q : Nat → Int} {lo n : Nat} (hn : n < 10) (hl : lo ≤ n) : (q n = -1 → oor (sBs q lo n : Int) (oshl 1 (n : Int)) = (sBs q lo (n + 1) : Int)) ∧ (q n ≠ -1 → oor (sBs q lo n : Int) 0 = (sBs q lo (n + 1) : Int)) := by
  have h := sBs_lt q lo n
  have hp : 2 ^ n ≤ 2 ^ 9 := Nat.pow_le_pow_right (by decide) (by omega)
  have hp : 2 ^ n ≤ 512 := hp
  simp only [sBs]
  refine ⟨fun e => ?_, fun e => ?_⟩
  · rw [if_pos ⟨hl, e⟩, oor_add hn (by omega) (by rw [Nat.div_eq_of_lt h])]
  · rw [if_neg (fun z => e z.2), oor_0 (by omega), Nat.add_zero]
def sMany (q : Nat → Int) : Nat → Nat
  | 0 => 0
  | n + 1 => sMany q n + (if q n = -1 then 1 else 0)
def sLst (q : Nat → Int) : Nat → Int
  | 0 => -1
  | n + 1 => if sLst q n ≠ -1 then sLst q n else if q n = -1 then (n : Int) else -1
theorem sMany_le (q : Nat → Int) : ∀ n, sMany q n ≤ n
  | 0 => Nat.le_refl _
  | n + 1 => by
    have := sMany_le q n
    simp only [sMany]
    split <;> omega
theorem sMany_const {q : Nat → Int} {x : Int} (h : ∀ k, q k = x) : ∀ n, sMany q n = (if x = -1 then n else 0)
  | 0 => by simp [sMany]
  | n + 1 => by
    simp only [sMany]
    rw [sMany_const h n, h n]
    split <;> rfl
theorem sLst_const {q : Nat → Int} {x : Int} (h : ∀ k, q k = x) : ∀ n, sLst q (n + 1) = (if x = -1 then 0 else -1)
  | 0 => by
    simp only [sLst]
    rw [h 0]
    simp
  | n + 1 => by
    have ih := sLst_const h n
    rw [show sLst q (n + 1 + 1) = if sLst q (n + 1) ≠ -1 then sLst q (n + 1) else if q (n + 1) = -1 then ((n + 1 : Nat) : Int) else -1 from rfl, ih, h (n + 1)]
    by_cases z : x = -1
    · rw [if_pos z, if_pos (by decide)]
    · rw [if_neg z, if_neg (by decide), if_neg z]
/-- the first hour that is otherwise, were the world A -/
def sTl (S : xSt) (i f : Nat) (A : Nat → Nat → Int) : Int := sFO (fun h => sCost (zE S) A (zC S) f h) (zH S i).2.2 0 (zH S i).2.1
def g_tells (S : xSt) (i f : Nat) (w : Int) : Int :=
  if w = 0 then sTl S i f (zA S)
  else if w = 1 then (sBs (fun k => sTl S i f (upd2 (zA S) 6 f k)) 0 6 : Int)
  else if w = 2 then (sBs (fun k => sTl S i f (upd2 (zA S) 1 f k)) 0 10 : Int)
  else if w = 3 then (sBs (fun k => sTl S i f (upd2 (zA S) 0 0 k)) 1 10 : Int)
  else if w = 4 then (sBs (fun k => sTl S i f (upd2 (zA S) 7 0 k)) 0 (zT S) : Int)
  else if w = 5 then (sMany (fun k => sTl S i f (upd2 (zA S) 2 f k)) 1000 : Int)
  else sLst (fun k => sTl S i f (upd2 (zA S) 2 f k)) 1000
def a_tells (S : xSt) (sh f w : Int) : Int := if (0 ≤ sh ∧ sh < 4) ∧ (0 ≤ f ∧ f < zF S) ∧ 0 ≤ w ∧ w ≤ 6 then (if (zH S sh.toNat).1 = -1 then -11 else if 12 < (zH S sh.toNat).2.1 then -2 else g_tells S sh.toNat f.toNat w) else -2
theorem upd2_twice {A : Nat → Nat → Int} {a j : Nat} {x y : Int} : upd2 (upd2 A a j x) a j y = upd2 A a j y := by
  funext k i
  unfold upd2
  split <;> rfl
theorem upd2_same {A : Nat → Nat → Int} {a j : Nat} : upd2 A a j (A a j) = A := by
  funext k i
  unfold upd2
  split
  · rename_i h; rw [h.1, h.2]
  · rfl
theorem AI.kind {nf nc tc f : Nat} {A : Nat → Nat → Int} {v : Int} (h : AI nf nc tc A) (h0 : 0 ≤ v) (h1 : v ≤ 5) : AI nf nc tc (upd2 A 6 f v) := by
  obtain ⟨a1, a2, a3, a4, a5, a6⟩ := h
  refine ⟨a1, a2, by rw [upd2_row (by decide)]; exact a3, by rw [upd2_row (by decide)]; exact a4, fun g hg => ?_, fun c hc => ?_⟩
  · rw [upd2_row (show 1 ≠ 6 by decide), upd2_row (show 2 ≠ 6 by decide), upd2_row (show 3 ≠ 6 by decide)]
    have := a5 g hg
    refine ⟨this.1, this.2.1, this.2.2.1, ?_⟩
    by_cases e : g = f
    · rw [e, upd2_eq]; omega
    · rw [upd2_col e]; exact this.2.2.2
  · rw [upd2_row (show 4 ≠ 6 by decide), upd2_row (show 5 ≠ 6 by decide)]
    exact a6 c hc
theorem AI.numb {nf nc tc f : Nat} {A : Nat → Nat → Int} {v : Int} (h : AI nf nc tc A) (h0 : 0 ≤ v) (h1 : v ≤ 9) : AI nf nc tc (upd2 A 1 f v) := by
  obtain ⟨a1, a2, a3, a4, a5, a6⟩ := h
  refine ⟨a1, a2, by rw [upd2_row (by decide)]; exact a3, by rw [upd2_row (by decide)]; exact a4, fun g hg => ?_, fun c hc => ?_⟩
  · rw [upd2_row (show 6 ≠ 1 by decide), upd2_row (show 2 ≠ 1 by decide), upd2_row (show 3 ≠ 1 by decide)]
    have := a5 g hg
    refine ⟨?_, this.2⟩
    by_cases e : g = f
    · rw [e, upd2_eq]; omega
    · rw [upd2_col e]; exact this.1
  · rw [upd2_row (show 4 ≠ 1 by decide), upd2_row (show 5 ≠ 1 by decide)]
    exact a6 c hc
theorem AI.rule {nf nc tc : Nat} {A : Nat → Nat → Int} {v : Int} (h : AI nf nc tc A) (h0 : 0 ≤ v) (h1 : v < tc) : AI nf nc tc (upd2 A 7 0 v) := by
  obtain ⟨a1, a2, a3, a4, a5, a6⟩ := h
  refine ⟨a1, a2, by rw [upd2_row (by decide)]; exact a3, by rw [upd2_eq]; exact ⟨h0, h1⟩, fun g hg => ?_, fun c hc => ?_⟩
  · simp (disch := decide) only [upd2_row]
    exact a5 g hg
  · simp (disch := decide) only [upd2_row]
    exact a6 c hc
theorem WV.rule {σ : Nat → Nat → Int} {w nf nc : Nat} {A : Nat → Nat → Int} {v : Int} (hV : WV σ w nf nc A) : WV (upd2 σ w 2 v) w nf nc (upd2 A 7 0 v) := by
  obtain ⟨h1, h2, h3, h4, h5, h6⟩ := hV
  refine ⟨by rw [upd2_col (by decide), upd2_row (by decide)]; exact h1, by rw [upd2_eq, upd2_eq], by rw [upd2_col (by decide)]; exact h3, by rw [upd2_col (by decide)]; exact h4, fun f hf => ?_, fun c hc => ?_⟩
  · rw [upd2_row (by omega), upd2_row (by omega), upd2_row (by omega), upd2_row (by omega), upd2_row (by omega), upd2_row (by omega), upd2_row (by omega), upd2_row (by omega)]
    exact h5 f hf
  · rw [upd2_row (by omega), upd2_row (by omega), upd2_row (by omega), upd2_row (by omega)]
    exact h6 c hc
/-- steps that don't look at means -/
theorem ev_means {N N' : Nat → Int} (h : ∀ k, k ≠ 2 → N k = N' k) : ∀ (C : List Int) (st : List Int), (∀ s ∈ C, s ≠ -3) → evR N C st = evR N' C st
  | [], _, _ => rfl
  | s :: C, st, hC => by
    have hs := hC s List.mem_cons_self
    simp only [evR]
    have e : ev1 N s st = ev1 N' s st := by
      unfold ev1
      by_cases h6 : -6 ≤ s
      · rw [if_pos h6, if_pos h6]
        by_cases h0 : 0 ≤ s
        · rw [if_pos h0, if_pos h0]
        · rw [if_neg h0, if_neg h0, h _ (by omega)]
      · rw [if_neg h6, if_neg h6]
    rw [e]
    exact ev_means h C _ (fun x hx => hC x (List.mem_cons_of_mem _ hx))
theorem sCost_means {E : Nat → Nat → List Int} {A : Nat → Nat → Int} {nc f : Nat} {v h : Int} (hC : ∀ s ∈ E (A 7 0).toNat 0, s ≠ -3) : sCost E (upd2 A 2 f v) nc f h = sCost E A nc f h := by
  have e : sRule E (upd2 A 2 f v) nc 0 f h 0 = sRule E A nc 0 f h 0 := by
    unfold sRule
    rw [upd2_row (show 7 ≠ 2 by decide)]
    congr 1
    unfold ev
    rw [ev_means (N' := sNm A nc f h 0) (fun k hk => ?_) _ _ hC]
    unfold sNm
    rw [upd2_row (show 1 ≠ 2 by decide), upd2_row (show 4 ≠ 2 by decide), upd2_row (show 5 ≠ 2 by decide), if_neg hk, if_neg hk]
  unfold sCost
  rw [e, upd2_row (show 6 ≠ 2 by decide), upd2_row (show 0 ≠ 2 by decide), upd2_row (show 1 ≠ 2 by decide)]
section Cls
variable {Γ : xSh} {σ : Nat → Nat → Int} {c d : Nat} {S : xSt} {Q : xV → xMem → Prop}
set_option maxHeartbeats 2000000 in
theorem c_looksAt {t : Nat} {C : Nat → List Int} (hT : ST Γ t) (hE : TE σ t C) (hY : ¬ (∀ s ∈ C 0, s ≠ -3) → Q (vi 1) (Γ, σ)) (hN : (∀ s ∈ C 0, s ≠ -3) → Q (vi 0) (Γ, σ)) : xRM M_X3_pricesLookAtMeans (d + 1) (0, 0) [vr t] (Γ, σ) Q := by
  refine xRM_of (by decide) (Nat.le_of_ble_eq_true rfl) ?_
  obtain ⟨e0, e1, e2, g0, g1, g2, h160, hg⟩ := hE
  have loop : ∀ (m i : Nat), i + m = (C 0).length → (∀ j, j < i → (C 0).getD j 0 ≠ -3) → xR M_X3_pricesLookAtMeans (d + 1) (0, 0) 2 [vr t, vi (i : Int)] [] (Γ, σ) Q := by
    intro m
    induction m with
    | zero =>
      intro i hi h
      refine b_X3_pricesLookAtMeans_2 _ _ _ _ ?_
      simp only [k_X3_pricesLookAtMeans_2, x_push, x_iload, x_lload, x_aload, x_bin, x_div, x_un, x_lbin, x_ldiv, x_lcmp, x_i2l, x_l2i, x_dup, x_pop, x_dup2, x_c1, x_c2, x_null, x_cat1, x_istore, x_astore, x_lstore, x_iinc, x_nol, x_tsw, xsw, x_lsw, xlsw, x_ret, x_zret, x_lret, x_aret, x_vret, x_getI, x_getL, x_getR, x_putI, x_putZ, x_putL, x_iaload, x_zaload, x_aaload, x_iastore, x_zastore, x_alen, x_mm, x_acopy, xpush, xJ, xK, x_cV0, x_cV1, x_cV2, x_cV3, x_cV4, x_cV5, x_cV6, x_cV7, x_cV8, x_cS1, x_cS2, x_cS3, x_cS4, x_cS5, List.getD_cons_zero, List.getD_cons_succ, List.set_cons_zero, List.set_cons_succ, List.length_cons, List.length_nil, Nat.zero_add, true_and, and_true, List.getD_nil, not_true, not_false_eq_true, Int.toNat_natCast, false_implies, true_implies, if_true, if_false, Int.toNat_zero, Int.toNat_one, true_or, or_true, Int.reduceEq, Int.reduceLT, Int.reduceLE, Int.reduceNe, Int.reduceNeg, Int.reduceAdd, Int.reduceSub, Int.reduceMul, Int.reduceToNat, Nat.reduceLT, Nat.reduceLeDiff, Nat.reduceAdd, Nat.reduceEqDiff, Nat.reduceSub, not_false_iff, and_self, implies_true, false_and, and_false, or_self, false_or, or_false, Int.cast_ofNat_Int, Int.natCast_nonneg, ST.f0 hT, ST.f1 hT, ST.f2 hT, ST.f3 hT, ST.f4 hT, ST.l4 hT, ST.a4 hT, ST.e4 hT, ST.f5 hT, ST.l5 hT, ST.a5 hT, ST.e5 hT, ST.f6 hT, ST.l6 hT, ST.a6 hT, ST.e6 hT, e0, eq_true (show ((C 0).length : Int) ≤ (i : Int) by omega)]
      refine hN (fun s hs => ?_)
      obtain ⟨j, hj, rfl⟩ := List.mem_iff_getElem.mp hs
      have := h j (by omega)
      rw [List.getD_eq_getElem?_getD, List.getElem?_eq_getElem hj] at this
      exact this
    | succ m ih =>
      intro i hi h
      have hlt : i < (C 0).length := by omega
      have ei : σ (t + 1) i = (C 0).getD i 0 := by
        rw [List.getD_eq_getElem?_getD, List.getElem?_eq_getElem hlt]
        exact g0 i _ (List.getElem?_eq_getElem hlt)
      refine b_X3_pricesLookAtMeans_2 _ _ _ _ ?_
      simp only [k_X3_pricesLookAtMeans_2, x_push, x_iload, x_lload, x_aload, x_bin, x_div, x_un, x_lbin, x_ldiv, x_lcmp, x_i2l, x_l2i, x_dup, x_pop, x_dup2, x_c1, x_c2, x_null, x_cat1, x_istore, x_astore, x_lstore, x_iinc, x_nol, x_tsw, xsw, x_lsw, xlsw, x_ret, x_zret, x_lret, x_aret, x_vret, x_getI, x_getL, x_getR, x_putI, x_putZ, x_putL, x_iaload, x_zaload, x_aaload, x_iastore, x_zastore, x_alen, x_mm, x_acopy, xpush, xJ, xK, x_cV0, x_cV1, x_cV2, x_cV3, x_cV4, x_cV5, x_cV6, x_cV7, x_cV8, x_cS1, x_cS2, x_cS3, x_cS4, x_cS5, List.getD_cons_zero, List.getD_cons_succ, List.set_cons_zero, List.set_cons_succ, List.length_cons, List.length_nil, Nat.zero_add, true_and, and_true, List.getD_nil, not_true, not_false_eq_true, Int.toNat_natCast, false_implies, true_implies, if_true, if_false, Int.toNat_zero, Int.toNat_one, true_or, or_true, Int.reduceEq, Int.reduceLT, Int.reduceLE, Int.reduceNe, Int.reduceNeg, Int.reduceAdd, Int.reduceSub, Int.reduceMul, Int.reduceToNat, Nat.reduceLT, Nat.reduceLeDiff, Nat.reduceAdd, Nat.reduceEqDiff, Nat.reduceSub, not_false_iff, and_self, implies_true, false_and, and_false, or_self, false_or, or_false, Int.cast_ofNat_Int, Int.natCast_nonneg, ST.f0 hT, ST.f1 hT, ST.f2 hT, ST.f3 hT, ST.f4 hT, ST.l4 hT, ST.a4 hT, ST.e4 hT, ST.f5 hT, ST.l5 hT, ST.a5 hT, ST.e5 hT, ST.f6 hT, ST.l6 hT, ST.a6 hT, ST.e6 hT, e0, eq_false (show ¬ (((C 0).length : Int) ≤ (i : Int)) by omega), eq_true (show (i : Int) < 160 by omega), ei]
      refine ⟨fun q => ?_, fun q => hY (fun z => ?_)⟩
      · rw [oadd_id (by omega) (by omega)]
        refine ih (i + 1) (by omega) (fun j hj => ?_)
        by_cases e : j = i
        · rw [e]; exact q
        · exact h j (by omega)
      · refine q ?_
        rw [List.getD_eq_getElem?_getD, List.getElem?_eq_getElem hlt]
        exact z _ (List.getElem_mem hlt)
  refine b_X3_pricesLookAtMeans_0 _ _ _ _ ?_
  show k_X3_pricesLookAtMeans_0 d Q (0, 0) [vr t, vu] [] (Γ, σ)
  simp only [k_X3_pricesLookAtMeans_0, x_push, x_iload, x_lload, x_aload, x_bin, x_div, x_un, x_lbin, x_ldiv, x_lcmp, x_i2l, x_l2i, x_dup, x_pop, x_dup2, x_c1, x_c2, x_null, x_cat1, x_istore, x_astore, x_lstore, x_iinc, x_nol, x_tsw, xsw, x_lsw, xlsw, x_ret, x_zret, x_lret, x_aret, x_vret, x_getI, x_getL, x_getR, x_putI, x_putZ, x_putL, x_iaload, x_zaload, x_aaload, x_iastore, x_zastore, x_alen, x_mm, x_acopy, xpush, xJ, xK, x_cV0, x_cV1, x_cV2, x_cV3, x_cV4, x_cV5, x_cV6, x_cV7, x_cV8, x_cS1, x_cS2, x_cS3, x_cS4, x_cS5, List.getD_cons_zero, List.getD_cons_succ, List.set_cons_zero, List.set_cons_succ, List.length_cons, List.length_nil, Nat.zero_add, true_and, and_true, List.getD_nil, not_true, not_false_eq_true, Int.toNat_natCast, false_implies, true_implies, if_true, if_false, Int.toNat_zero, Int.toNat_one, true_or, or_true, Int.reduceEq, Int.reduceLT, Int.reduceLE, Int.reduceNe, Int.reduceNeg, Int.reduceAdd, Int.reduceSub, Int.reduceMul, Int.reduceToNat, Nat.reduceLT, Nat.reduceLeDiff, Nat.reduceAdd, Nat.reduceEqDiff, Nat.reduceSub, not_false_iff, and_self, implies_true, false_and, and_false, or_self, false_or, or_false, Int.cast_ofNat_Int, Int.natCast_nonneg]
  exact loop (C 0).length 0 (by omega) (fun j hj => by omega)
set_option maxHeartbeats 2000000 in
/-- firstOtherwise of the world that would be -/
theorem c_foW {i f : Nat} {σ1 : Nat → Nat → Int} {A : Nat → Nat → Int} (hR : CR Γ σ c S) (hi : i < 4) (hf : f < zF S) (hn : (zH S i).2.1 ≤ 12) (hs : Sm (Scr c) σ σ1) (hV : WV σ1 (c + 69) (zF S) (zC S) A) (hA : AI (zF S) (zC S) (zT S) A) (hQ : ∀ σ2, Sm (Scr c) σ σ2 → WV σ2 (c + 69) (zF S) (zC S) A → Q (vi (sTl S i f A)) (Γ, σ2)) : xRM M_X4_firstOtherwise (d + 5) (0, 0) [vr (c + 69), vi (f : Int), vr (c + 53 + 2 * i)] (Γ, σ1) Q := by
  have hR1 := hR.scr hs
  obtain ⟨b0, b1, b2⟩ := hR1.2.1.2.2.2.2.2 i hi
  have nR : ∀ q, q < c + 69 + 7 → c + 53 ≤ q → ¬ RW (c + 69) (c + 29) q := fun q h1 h2 z => by
    rcases z with z | ⟨j, z1, z2⟩ <;> omega
  refine c_firstOtherwise (v := (zH S i).2.2) (hR.wokW hs hV hA) hf (hR.1.2.2.2.2.2.1.2 i hi).2 ⟨nR _ (by omega) (by omega), nR _ (by omega) (by omega)⟩ b1 hn (fun j hj => ?_) (fun σ2 e => ?_)
  · rw [show c + 53 + 2 * i + 1 = c + 54 + 2 * i by omega]
    exact b2 j hj
  · exact hQ σ2 (hs.tr (e.mono (fun q => RW_Scr2))) (hV.same (fun k a b => e k (nR k (by omega) (by omega))))

set_option maxHeartbeats 4000000 in
theorem c_kindsTold {i f : Nat} (hR : CR Γ σ c S) (hi : i < 4) (hf : f < zF S) (hn : (zH S i).2.1 ≤ 12) (hQ : ∀ σ', Sm (Scr c) σ σ' → Q (vi (sBs (fun k => sTl S i f (upd2 (zA S) 6 f k)) 0 6 : Int)) (Γ, σ')) : xRM M_X5_kindsTold (d + 6) (0, 0) [vr c, vr (c + 53 + 2 * i), vi (f : Int)] (Γ, σ) Q := by
  refine xRM_of (by decide) (Nat.le_of_ble_eq_true rfl) ?_
  obtain ⟨hS, hX, hl, hV, hA, htc, hT⟩ := hR.wok
  obtain ⟨hC, -, hP, hK, hKr, -⟩ := id hR.1
  have hS2 := hR.1.2.2.2.2.2.2.2.1
  have hnf := hA.1
  have h1 := hR.2.1.1
  have loop : ∀ (m k : Nat) (σ1 : Nat → Nat → Int) (x : Int), k + m = 6 → 0 ≤ k → Sm (Scr c) σ σ1 → WV σ1 (c + 69) (zF S) (zC S) (upd2 (zA S) 6 f x) → xR M_X5_kindsTold (d + 6) (0, 0) 16 [vr c, vr (c + 53 + 2 * i), vi (f : Int), vi (sBs (fun k => sTl S i f (upd2 (zA S) 6 f k)) 0 k : Int), vi (k : Int)] [] (Γ, σ1) Q := by
    intro m
    induction m with
    | zero =>
      intro k σ1 x hk hlo e1 e2
      have ek : k = 6 := by omega
      have h1' := (hR.scr e1).2.1.1
      refine b_X5_kindsTold_16 _ _ _ _ ?_
      simp only [k_X5_kindsTold_16, x_push, x_iload, x_lload, x_aload, x_bin, x_div, x_un, x_lbin, x_ldiv, x_lcmp, x_i2l, x_l2i, x_dup, x_pop, x_dup2, x_c1, x_c2, x_null, x_cat1, x_istore, x_astore, x_lstore, x_iinc, x_nol, x_tsw, xsw, x_lsw, xlsw, x_ret, x_zret, x_lret, x_aret, x_vret, x_getI, x_getL, x_getR, x_putI, x_putZ, x_putL, x_iaload, x_zaload, x_aaload, x_iastore, x_zastore, x_alen, x_mm, x_acopy, xpush, xJ, xK, x_cV0, x_cV1, x_cV2, x_cV3, x_cV4, x_cV5, x_cV6, x_cV7, x_cV8, x_cS1, x_cS2, x_cS3, x_cS4, x_cS5, List.getD_cons_zero, List.getD_cons_succ, List.set_cons_zero, List.set_cons_succ, List.length_cons, List.length_nil, Nat.zero_add, true_and, and_true, List.getD_nil, not_true, not_false_eq_true, Int.toNat_natCast, false_implies, true_implies, if_true, if_false, Int.toNat_zero, Int.toNat_one, true_or, or_true, Int.reduceEq, Int.reduceLT, Int.reduceLE, Int.reduceNe, Int.reduceNeg, Int.reduceAdd, Int.reduceSub, Int.reduceMul, Int.reduceToNat, Nat.reduceLT, Nat.reduceLeDiff, Nat.reduceAdd, Nat.reduceEqDiff, Nat.reduceSub, not_false_iff, and_self, implies_true, false_and, and_false, or_self, false_or, or_false, Int.cast_ofNat_Int, Int.natCast_nonneg, SC.f0 hC, SC.f1 hC, SC.f2 hC, SC.f3 hC, SC.f4 hC, SC.f5 hC, SC.f6 hC, SC.f7 hC, h1', eq_true (show (6 : Int) ≤ (k : Int) by omega)]
      rw [ek]
      exact hQ σ1 e1
    | succ m ih =>
      intro k σ1 x hk hlo e1 e2
      have h1' := (hR.scr e1).2.1.1
      refine b_X5_kindsTold_16 _ _ _ _ ?_
      simp only [k_X5_kindsTold_16, x_push, x_iload, x_lload, x_aload, x_bin, x_div, x_un, x_lbin, x_ldiv, x_lcmp, x_i2l, x_l2i, x_dup, x_pop, x_dup2, x_c1, x_c2, x_null, x_cat1, x_istore, x_astore, x_lstore, x_iinc, x_nol, x_tsw, xsw, x_lsw, xlsw, x_ret, x_zret, x_lret, x_aret, x_vret, x_getI, x_getL, x_getR, x_putI, x_putZ, x_putL, x_iaload, x_zaload, x_aaload, x_iastore, x_zastore, x_alen, x_mm, x_acopy, xpush, xJ, xK, x_cV0, x_cV1, x_cV2, x_cV3, x_cV4, x_cV5, x_cV6, x_cV7, x_cV8, x_cS1, x_cS2, x_cS3, x_cS4, x_cS5, List.getD_cons_zero, List.getD_cons_succ, List.set_cons_zero, List.set_cons_succ, List.length_cons, List.length_nil, Nat.zero_add, true_and, and_true, List.getD_nil, not_true, not_false_eq_true, Int.toNat_natCast, false_implies, true_implies, if_true, if_false, Int.toNat_zero, Int.toNat_one, true_or, or_true, Int.reduceEq, Int.reduceLT, Int.reduceLE, Int.reduceNe, Int.reduceNeg, Int.reduceAdd, Int.reduceSub, Int.reduceMul, Int.reduceToNat, Nat.reduceLT, Nat.reduceLeDiff, Nat.reduceAdd, Nat.reduceEqDiff, Nat.reduceSub, not_false_iff, and_self, implies_true, false_and, and_false, or_self, false_or, or_false, Int.cast_ofNat_Int, Int.natCast_nonneg, SC.f0 hC, SC.f1 hC, SC.f2 hC, SC.f3 hC, SC.f4 hC, SC.f5 hC, SC.f6 hC, SC.f7 hC, SW.f0 hS2, SW.f1 hS2, SW.f2 hS2, SW.f3 hS2, SW.f4 hS2, SW.f5 hS2, SW.f6 hS2, SW.f7 hS2, SW.f8 hS2, SW.f9 hS2, SW.l9 hS2, SW.a9 hS2, SW.e9 hS2, SW.f10 hS2, SW.l10 hS2, SW.a10 hS2, SW.e10 hS2, SW.f11 hS2, SW.l11 hS2, SW.a11 hS2, SW.e11 hS2, SW.f12 hS2, SW.l12 hS2, SW.a12 hS2, SW.e12 hS2, SW.f13 hS2, SW.l13 hS2, SW.a13 hS2, SW.e13 hS2, SW.f14 hS2, SW.l14 hS2, SW.a14 hS2, SW.e14 hS2, SW.f15 hS2, SW.l15 hS2, SW.a15 hS2, SW.e15 hS2, h1', eq_false (show ¬ ((6 : Int) ≤ (k : Int)) by omega), eq_true (show (f : Int) < 6 by omega)]
      have hV2 : WV (upd2 σ1 (c + 69 + 1) f (k : Int)) (c + 69) (zF S) (zC S) (upd2 (zA S) 6 f (k : Int)) := by
        have := e2.p6 (v := (k : Int)) (j := f)
        rw [upd2_twice] at this
        exact this
      refine c_foW hR hi hf hn (e1.put (in_69 (by omega))) hV2 (hA.kind (by omega) (by omega)) (fun σ2 f1 f2 => ?_)
      simp only [x_push, x_iload, x_lload, x_aload, x_bin, x_div, x_un, x_lbin, x_ldiv, x_lcmp, x_i2l, x_l2i, x_dup, x_pop, x_dup2, x_c1, x_c2, x_null, x_cat1, x_istore, x_astore, x_lstore, x_iinc, x_nol, x_tsw, xsw, x_lsw, xlsw, x_ret, x_zret, x_lret, x_aret, x_vret, x_getI, x_getL, x_getR, x_putI, x_putZ, x_putL, x_iaload, x_zaload, x_aaload, x_iastore, x_zastore, x_alen, x_mm, x_acopy, xpush, xJ, xK, x_cV0, x_cV1, x_cV2, x_cV3, x_cV4, x_cV5, x_cV6, x_cV7, x_cV8, x_cS1, x_cS2, x_cS3, x_cS4, x_cS5, List.getD_cons_zero, List.getD_cons_succ, List.set_cons_zero, List.set_cons_succ, List.length_cons, List.length_nil, Nat.zero_add, true_and, and_true, List.getD_nil, not_true, not_false_eq_true, Int.toNat_natCast, false_implies, true_implies, if_true, if_false, Int.toNat_zero, Int.toNat_one, true_or, or_true, Int.reduceEq, Int.reduceLT, Int.reduceLE, Int.reduceNe, Int.reduceNeg, Int.reduceAdd, Int.reduceSub, Int.reduceMul, Int.reduceToNat, Nat.reduceLT, Nat.reduceLeDiff, Nat.reduceAdd, Nat.reduceEqDiff, Nat.reduceSub, not_false_iff, and_self, implies_true, false_and, and_false, or_self, false_or, or_false, Int.cast_ofNat_Int, Int.natCast_nonneg]
      have st := sBs_step (q := fun k => sTl S i f (upd2 (zA S) 6 f k)) (lo := 0) (n := k) (by omega) hlo
      rw [oadd_id (by omega) (by omega)]
      refine ⟨fun q => ?_, fun q => ?_⟩
      · rw [st.2 q]
        exact ih (k + 1) σ2 _ (by omega) (by omega) f1 f2
      · rw [st.1 (Classical.not_not.mp q)]
        exact ih (k + 1) σ2 _ (by omega) (by omega) f1 f2
  refine b_X5_kindsTold_0 _ _ _ _ ?_
  show k_X5_kindsTold_0 (d + 5) Q (0, 0) [vr c, vr (c + 53 + 2 * i), vi (f : Int), vu, vu] [] (Γ, σ)
  simp only [k_X5_kindsTold_0, x_push, x_iload, x_lload, x_aload, x_bin, x_div, x_un, x_lbin, x_ldiv, x_lcmp, x_i2l, x_l2i, x_dup, x_pop, x_dup2, x_c1, x_c2, x_null, x_cat1, x_istore, x_astore, x_lstore, x_iinc, x_nol, x_tsw, xsw, x_lsw, xlsw, x_ret, x_zret, x_lret, x_aret, x_vret, x_getI, x_getL, x_getR, x_putI, x_putZ, x_putL, x_iaload, x_zaload, x_aaload, x_iastore, x_zastore, x_alen, x_mm, x_acopy, xpush, xJ, xK, x_cV0, x_cV1, x_cV2, x_cV3, x_cV4, x_cV5, x_cV6, x_cV7, x_cV8, x_cS1, x_cS2, x_cS3, x_cS4, x_cS5, List.getD_cons_zero, List.getD_cons_succ, List.set_cons_zero, List.set_cons_succ, List.length_cons, List.length_nil, Nat.zero_add, true_and, and_true, List.getD_nil, not_true, not_false_eq_true, Int.toNat_natCast, false_implies, true_implies, if_true, if_false, Int.toNat_zero, Int.toNat_one, true_or, or_true, Int.reduceEq, Int.reduceLT, Int.reduceLE, Int.reduceNe, Int.reduceNeg, Int.reduceAdd, Int.reduceSub, Int.reduceMul, Int.reduceToNat, Nat.reduceLT, Nat.reduceLeDiff, Nat.reduceAdd, Nat.reduceEqDiff, Nat.reduceSub, not_false_iff, and_self, implies_true, false_and, and_false, or_self, false_or, or_false, Int.cast_ofNat_Int, Int.natCast_nonneg, SC.f0 hC, SC.f1 hC, SC.f2 hC, SC.f3 hC, SC.f4 hC, SC.f5 hC, SC.f6 hC, SC.f7 hC, SW.f0 hS2, SW.f1 hS2, SW.f2 hS2, SW.f3 hS2, SW.f4 hS2, SW.f5 hS2, SW.f6 hS2, SW.f7 hS2, SW.f8 hS2, SW.f9 hS2, SW.l9 hS2, SW.a9 hS2, SW.e9 hS2, SW.f10 hS2, SW.l10 hS2, SW.a10 hS2, SW.e10 hS2, SW.f11 hS2, SW.l11 hS2, SW.a11 hS2, SW.e11 hS2, SW.f12 hS2, SW.l12 hS2, SW.a12 hS2, SW.e12 hS2, SW.f13 hS2, SW.l13 hS2, SW.a13 hS2, SW.e13 hS2, SW.f14 hS2, SW.l14 hS2, SW.a14 hS2, SW.e14 hS2, SW.f15 hS2, SW.l15 hS2, SW.a15 hS2, SW.e15 hS2]
  refine c_become hS2 hS (by omega) hV hA.1 hA.2.1 (fun σ3 g1 g2 => ?_)
  simp only [x_push, x_iload, x_lload, x_aload, x_bin, x_div, x_un, x_lbin, x_ldiv, x_lcmp, x_i2l, x_l2i, x_dup, x_pop, x_dup2, x_c1, x_c2, x_null, x_cat1, x_istore, x_astore, x_lstore, x_iinc, x_nol, x_tsw, xsw, x_lsw, xlsw, x_ret, x_zret, x_lret, x_aret, x_vret, x_getI, x_getL, x_getR, x_putI, x_putZ, x_putL, x_iaload, x_zaload, x_aaload, x_iastore, x_zastore, x_alen, x_mm, x_acopy, xpush, xJ, xK, x_cV0, x_cV1, x_cV2, x_cV3, x_cV4, x_cV5, x_cV6, x_cV7, x_cV8, x_cS1, x_cS2, x_cS3, x_cS4, x_cS5, List.getD_cons_zero, List.getD_cons_succ, List.set_cons_zero, List.set_cons_succ, List.length_cons, List.length_nil, Nat.zero_add, true_and, and_true, List.getD_nil, not_true, not_false_eq_true, Int.toNat_natCast, false_implies, true_implies, if_true, if_false, Int.toNat_zero, Int.toNat_one, true_or, or_true, Int.reduceEq, Int.reduceLT, Int.reduceLE, Int.reduceNe, Int.reduceNeg, Int.reduceAdd, Int.reduceSub, Int.reduceMul, Int.reduceToNat, Nat.reduceLT, Nat.reduceLeDiff, Nat.reduceAdd, Nat.reduceEqDiff, Nat.reduceSub, not_false_iff, and_self, implies_true, false_and, and_false, or_self, false_or, or_false, Int.cast_ofNat_Int, Int.natCast_nonneg]
  have key := loop (6 - 0) 0 σ3 (zA S 6 f) (by have := hR.2.2.2.1; omega) (by omega) (g1.mono (fun q => RV_Scr2)) (by rw [upd2_same]; exact g2)
  rw [sBs_lo] at key
  exact key

set_option maxHeartbeats 4000000 in
theorem c_numbersTold {i f : Nat} (hR : CR Γ σ c S) (hi : i < 4) (hf : f < zF S) (hn : (zH S i).2.1 ≤ 12) (hQ : ∀ σ', Sm (Scr c) σ σ' → Q (vi (sBs (fun k => sTl S i f (upd2 (zA S) 1 f k)) 0 10 : Int)) (Γ, σ')) : xRM M_X5_numbersTold (d + 6) (0, 0) [vr c, vr (c + 53 + 2 * i), vi (f : Int)] (Γ, σ) Q := by
  refine xRM_of (by decide) (Nat.le_of_ble_eq_true rfl) ?_
  obtain ⟨hS, hX, hl, hV, hA, htc, hT⟩ := hR.wok
  obtain ⟨hC, -, hP, hK, hKr, -⟩ := id hR.1
  have hS2 := hR.1.2.2.2.2.2.2.2.1
  have hnf := hA.1
  have h1 := hR.2.1.1
  have loop : ∀ (m k : Nat) (σ1 : Nat → Nat → Int) (x : Int), k + m = 10 → 0 ≤ k → Sm (Scr c) σ σ1 → WV σ1 (c + 69) (zF S) (zC S) (upd2 (zA S) 1 f x) → xR M_X5_numbersTold (d + 6) (0, 0) 16 [vr c, vr (c + 53 + 2 * i), vi (f : Int), vi (sBs (fun k => sTl S i f (upd2 (zA S) 1 f k)) 0 k : Int), vi (k : Int)] [] (Γ, σ1) Q := by
    intro m
    induction m with
    | zero =>
      intro k σ1 x hk hlo e1 e2
      have ek : k = 10 := by omega
      have h1' := (hR.scr e1).2.1.1
      refine b_X5_numbersTold_16 _ _ _ _ ?_
      simp only [k_X5_numbersTold_16, x_push, x_iload, x_lload, x_aload, x_bin, x_div, x_un, x_lbin, x_ldiv, x_lcmp, x_i2l, x_l2i, x_dup, x_pop, x_dup2, x_c1, x_c2, x_null, x_cat1, x_istore, x_astore, x_lstore, x_iinc, x_nol, x_tsw, xsw, x_lsw, xlsw, x_ret, x_zret, x_lret, x_aret, x_vret, x_getI, x_getL, x_getR, x_putI, x_putZ, x_putL, x_iaload, x_zaload, x_aaload, x_iastore, x_zastore, x_alen, x_mm, x_acopy, xpush, xJ, xK, x_cV0, x_cV1, x_cV2, x_cV3, x_cV4, x_cV5, x_cV6, x_cV7, x_cV8, x_cS1, x_cS2, x_cS3, x_cS4, x_cS5, List.getD_cons_zero, List.getD_cons_succ, List.set_cons_zero, List.set_cons_succ, List.length_cons, List.length_nil, Nat.zero_add, true_and, and_true, List.getD_nil, not_true, not_false_eq_true, Int.toNat_natCast, false_implies, true_implies, if_true, if_false, Int.toNat_zero, Int.toNat_one, true_or, or_true, Int.reduceEq, Int.reduceLT, Int.reduceLE, Int.reduceNe, Int.reduceNeg, Int.reduceAdd, Int.reduceSub, Int.reduceMul, Int.reduceToNat, Nat.reduceLT, Nat.reduceLeDiff, Nat.reduceAdd, Nat.reduceEqDiff, Nat.reduceSub, not_false_iff, and_self, implies_true, false_and, and_false, or_self, false_or, or_false, Int.cast_ofNat_Int, Int.natCast_nonneg, SC.f0 hC, SC.f1 hC, SC.f2 hC, SC.f3 hC, SC.f4 hC, SC.f5 hC, SC.f6 hC, SC.f7 hC, h1', eq_true (show (10 : Int) ≤ (k : Int) by omega)]
      rw [ek]
      exact hQ σ1 e1
    | succ m ih =>
      intro k σ1 x hk hlo e1 e2
      have h1' := (hR.scr e1).2.1.1
      refine b_X5_numbersTold_16 _ _ _ _ ?_
      simp only [k_X5_numbersTold_16, x_push, x_iload, x_lload, x_aload, x_bin, x_div, x_un, x_lbin, x_ldiv, x_lcmp, x_i2l, x_l2i, x_dup, x_pop, x_dup2, x_c1, x_c2, x_null, x_cat1, x_istore, x_astore, x_lstore, x_iinc, x_nol, x_tsw, xsw, x_lsw, xlsw, x_ret, x_zret, x_lret, x_aret, x_vret, x_getI, x_getL, x_getR, x_putI, x_putZ, x_putL, x_iaload, x_zaload, x_aaload, x_iastore, x_zastore, x_alen, x_mm, x_acopy, xpush, xJ, xK, x_cV0, x_cV1, x_cV2, x_cV3, x_cV4, x_cV5, x_cV6, x_cV7, x_cV8, x_cS1, x_cS2, x_cS3, x_cS4, x_cS5, List.getD_cons_zero, List.getD_cons_succ, List.set_cons_zero, List.set_cons_succ, List.length_cons, List.length_nil, Nat.zero_add, true_and, and_true, List.getD_nil, not_true, not_false_eq_true, Int.toNat_natCast, false_implies, true_implies, if_true, if_false, Int.toNat_zero, Int.toNat_one, true_or, or_true, Int.reduceEq, Int.reduceLT, Int.reduceLE, Int.reduceNe, Int.reduceNeg, Int.reduceAdd, Int.reduceSub, Int.reduceMul, Int.reduceToNat, Nat.reduceLT, Nat.reduceLeDiff, Nat.reduceAdd, Nat.reduceEqDiff, Nat.reduceSub, not_false_iff, and_self, implies_true, false_and, and_false, or_self, false_or, or_false, Int.cast_ofNat_Int, Int.natCast_nonneg, SC.f0 hC, SC.f1 hC, SC.f2 hC, SC.f3 hC, SC.f4 hC, SC.f5 hC, SC.f6 hC, SC.f7 hC, SW.f0 hS2, SW.f1 hS2, SW.f2 hS2, SW.f3 hS2, SW.f4 hS2, SW.f5 hS2, SW.f6 hS2, SW.f7 hS2, SW.f8 hS2, SW.f9 hS2, SW.l9 hS2, SW.a9 hS2, SW.e9 hS2, SW.f10 hS2, SW.l10 hS2, SW.a10 hS2, SW.e10 hS2, SW.f11 hS2, SW.l11 hS2, SW.a11 hS2, SW.e11 hS2, SW.f12 hS2, SW.l12 hS2, SW.a12 hS2, SW.e12 hS2, SW.f13 hS2, SW.l13 hS2, SW.a13 hS2, SW.e13 hS2, SW.f14 hS2, SW.l14 hS2, SW.a14 hS2, SW.e14 hS2, SW.f15 hS2, SW.l15 hS2, SW.a15 hS2, SW.e15 hS2, h1', eq_false (show ¬ ((10 : Int) ≤ (k : Int)) by omega), eq_true (show (f : Int) < 6 by omega)]
      have hV2 : WV (upd2 σ1 (c + 69 + 2) f (k : Int)) (c + 69) (zF S) (zC S) (upd2 (zA S) 1 f (k : Int)) := by
        have := e2.p1 (v := (k : Int)) (j := f)
        rw [upd2_twice] at this
        exact this
      refine c_foW hR hi hf hn (e1.put (in_69 (by omega))) hV2 (hA.numb (by omega) (by omega)) (fun σ2 f1 f2 => ?_)
      simp only [x_push, x_iload, x_lload, x_aload, x_bin, x_div, x_un, x_lbin, x_ldiv, x_lcmp, x_i2l, x_l2i, x_dup, x_pop, x_dup2, x_c1, x_c2, x_null, x_cat1, x_istore, x_astore, x_lstore, x_iinc, x_nol, x_tsw, xsw, x_lsw, xlsw, x_ret, x_zret, x_lret, x_aret, x_vret, x_getI, x_getL, x_getR, x_putI, x_putZ, x_putL, x_iaload, x_zaload, x_aaload, x_iastore, x_zastore, x_alen, x_mm, x_acopy, xpush, xJ, xK, x_cV0, x_cV1, x_cV2, x_cV3, x_cV4, x_cV5, x_cV6, x_cV7, x_cV8, x_cS1, x_cS2, x_cS3, x_cS4, x_cS5, List.getD_cons_zero, List.getD_cons_succ, List.set_cons_zero, List.set_cons_succ, List.length_cons, List.length_nil, Nat.zero_add, true_and, and_true, List.getD_nil, not_true, not_false_eq_true, Int.toNat_natCast, false_implies, true_implies, if_true, if_false, Int.toNat_zero, Int.toNat_one, true_or, or_true, Int.reduceEq, Int.reduceLT, Int.reduceLE, Int.reduceNe, Int.reduceNeg, Int.reduceAdd, Int.reduceSub, Int.reduceMul, Int.reduceToNat, Nat.reduceLT, Nat.reduceLeDiff, Nat.reduceAdd, Nat.reduceEqDiff, Nat.reduceSub, not_false_iff, and_self, implies_true, false_and, and_false, or_self, false_or, or_false, Int.cast_ofNat_Int, Int.natCast_nonneg]
      have st := sBs_step (q := fun k => sTl S i f (upd2 (zA S) 1 f k)) (lo := 0) (n := k) (by omega) hlo
      rw [oadd_id (by omega) (by omega)]
      refine ⟨fun q => ?_, fun q => ?_⟩
      · rw [st.2 q]
        exact ih (k + 1) σ2 _ (by omega) (by omega) f1 f2
      · rw [st.1 (Classical.not_not.mp q)]
        exact ih (k + 1) σ2 _ (by omega) (by omega) f1 f2
  refine b_X5_numbersTold_0 _ _ _ _ ?_
  show k_X5_numbersTold_0 (d + 5) Q (0, 0) [vr c, vr (c + 53 + 2 * i), vi (f : Int), vu, vu] [] (Γ, σ)
  simp only [k_X5_numbersTold_0, x_push, x_iload, x_lload, x_aload, x_bin, x_div, x_un, x_lbin, x_ldiv, x_lcmp, x_i2l, x_l2i, x_dup, x_pop, x_dup2, x_c1, x_c2, x_null, x_cat1, x_istore, x_astore, x_lstore, x_iinc, x_nol, x_tsw, xsw, x_lsw, xlsw, x_ret, x_zret, x_lret, x_aret, x_vret, x_getI, x_getL, x_getR, x_putI, x_putZ, x_putL, x_iaload, x_zaload, x_aaload, x_iastore, x_zastore, x_alen, x_mm, x_acopy, xpush, xJ, xK, x_cV0, x_cV1, x_cV2, x_cV3, x_cV4, x_cV5, x_cV6, x_cV7, x_cV8, x_cS1, x_cS2, x_cS3, x_cS4, x_cS5, List.getD_cons_zero, List.getD_cons_succ, List.set_cons_zero, List.set_cons_succ, List.length_cons, List.length_nil, Nat.zero_add, true_and, and_true, List.getD_nil, not_true, not_false_eq_true, Int.toNat_natCast, false_implies, true_implies, if_true, if_false, Int.toNat_zero, Int.toNat_one, true_or, or_true, Int.reduceEq, Int.reduceLT, Int.reduceLE, Int.reduceNe, Int.reduceNeg, Int.reduceAdd, Int.reduceSub, Int.reduceMul, Int.reduceToNat, Nat.reduceLT, Nat.reduceLeDiff, Nat.reduceAdd, Nat.reduceEqDiff, Nat.reduceSub, not_false_iff, and_self, implies_true, false_and, and_false, or_self, false_or, or_false, Int.cast_ofNat_Int, Int.natCast_nonneg, SC.f0 hC, SC.f1 hC, SC.f2 hC, SC.f3 hC, SC.f4 hC, SC.f5 hC, SC.f6 hC, SC.f7 hC, SW.f0 hS2, SW.f1 hS2, SW.f2 hS2, SW.f3 hS2, SW.f4 hS2, SW.f5 hS2, SW.f6 hS2, SW.f7 hS2, SW.f8 hS2, SW.f9 hS2, SW.l9 hS2, SW.a9 hS2, SW.e9 hS2, SW.f10 hS2, SW.l10 hS2, SW.a10 hS2, SW.e10 hS2, SW.f11 hS2, SW.l11 hS2, SW.a11 hS2, SW.e11 hS2, SW.f12 hS2, SW.l12 hS2, SW.a12 hS2, SW.e12 hS2, SW.f13 hS2, SW.l13 hS2, SW.a13 hS2, SW.e13 hS2, SW.f14 hS2, SW.l14 hS2, SW.a14 hS2, SW.e14 hS2, SW.f15 hS2, SW.l15 hS2, SW.a15 hS2, SW.e15 hS2]
  refine c_become hS2 hS (by omega) hV hA.1 hA.2.1 (fun σ3 g1 g2 => ?_)
  simp only [x_push, x_iload, x_lload, x_aload, x_bin, x_div, x_un, x_lbin, x_ldiv, x_lcmp, x_i2l, x_l2i, x_dup, x_pop, x_dup2, x_c1, x_c2, x_null, x_cat1, x_istore, x_astore, x_lstore, x_iinc, x_nol, x_tsw, xsw, x_lsw, xlsw, x_ret, x_zret, x_lret, x_aret, x_vret, x_getI, x_getL, x_getR, x_putI, x_putZ, x_putL, x_iaload, x_zaload, x_aaload, x_iastore, x_zastore, x_alen, x_mm, x_acopy, xpush, xJ, xK, x_cV0, x_cV1, x_cV2, x_cV3, x_cV4, x_cV5, x_cV6, x_cV7, x_cV8, x_cS1, x_cS2, x_cS3, x_cS4, x_cS5, List.getD_cons_zero, List.getD_cons_succ, List.set_cons_zero, List.set_cons_succ, List.length_cons, List.length_nil, Nat.zero_add, true_and, and_true, List.getD_nil, not_true, not_false_eq_true, Int.toNat_natCast, false_implies, true_implies, if_true, if_false, Int.toNat_zero, Int.toNat_one, true_or, or_true, Int.reduceEq, Int.reduceLT, Int.reduceLE, Int.reduceNe, Int.reduceNeg, Int.reduceAdd, Int.reduceSub, Int.reduceMul, Int.reduceToNat, Nat.reduceLT, Nat.reduceLeDiff, Nat.reduceAdd, Nat.reduceEqDiff, Nat.reduceSub, not_false_iff, and_self, implies_true, false_and, and_false, or_self, false_or, or_false, Int.cast_ofNat_Int, Int.natCast_nonneg]
  have key := loop (10 - 0) 0 σ3 (zA S 1 f) (by have := hR.2.2.2.1; omega) (by omega) (g1.mono (fun q => RV_Scr2)) (by rw [upd2_same]; exact g2)
  rw [sBs_lo] at key
  exact key

set_option maxHeartbeats 4000000 in
theorem c_ratesTold {i f : Nat} (hR : CR Γ σ c S) (hi : i < 4) (hf : f < zF S) (hn : (zH S i).2.1 ≤ 12) (hQ : ∀ σ', Sm (Scr c) σ σ' → Q (vi (sBs (fun k => sTl S i f (upd2 (zA S) 0 0 k)) 1 10 : Int)) (Γ, σ')) : xRM M_X5_ratesTold (d + 6) (0, 0) [vr c, vr (c + 53 + 2 * i), vi (f : Int)] (Γ, σ) Q := by
  refine xRM_of (by decide) (Nat.le_of_ble_eq_true rfl) ?_
  obtain ⟨hS, hX, hl, hV, hA, htc, hT⟩ := hR.wok
  obtain ⟨hC, -, hP, hK, hKr, -⟩ := id hR.1
  have hS2 := hR.1.2.2.2.2.2.2.2.1
  have hnf := hA.1
  have h1 := hR.2.1.1
  have loop : ∀ (m k : Nat) (σ1 : Nat → Nat → Int) (x : Int), k + m = 10 → 1 ≤ k → Sm (Scr c) σ σ1 → WV σ1 (c + 69) (zF S) (zC S) (upd2 (zA S) 0 0 x) → xR M_X5_ratesTold (d + 6) (0, 0) 16 [vr c, vr (c + 53 + 2 * i), vi (f : Int), vi (sBs (fun k => sTl S i f (upd2 (zA S) 0 0 k)) 1 k : Int), vi (k : Int)] [] (Γ, σ1) Q := by
    intro m
    induction m with
    | zero =>
      intro k σ1 x hk hlo e1 e2
      have ek : k = 10 := by omega
      have h1' := (hR.scr e1).2.1.1
      refine b_X5_ratesTold_16 _ _ _ _ ?_
      simp only [k_X5_ratesTold_16, x_push, x_iload, x_lload, x_aload, x_bin, x_div, x_un, x_lbin, x_ldiv, x_lcmp, x_i2l, x_l2i, x_dup, x_pop, x_dup2, x_c1, x_c2, x_null, x_cat1, x_istore, x_astore, x_lstore, x_iinc, x_nol, x_tsw, xsw, x_lsw, xlsw, x_ret, x_zret, x_lret, x_aret, x_vret, x_getI, x_getL, x_getR, x_putI, x_putZ, x_putL, x_iaload, x_zaload, x_aaload, x_iastore, x_zastore, x_alen, x_mm, x_acopy, xpush, xJ, xK, x_cV0, x_cV1, x_cV2, x_cV3, x_cV4, x_cV5, x_cV6, x_cV7, x_cV8, x_cS1, x_cS2, x_cS3, x_cS4, x_cS5, List.getD_cons_zero, List.getD_cons_succ, List.set_cons_zero, List.set_cons_succ, List.length_cons, List.length_nil, Nat.zero_add, true_and, and_true, List.getD_nil, not_true, not_false_eq_true, Int.toNat_natCast, false_implies, true_implies, if_true, if_false, Int.toNat_zero, Int.toNat_one, true_or, or_true, Int.reduceEq, Int.reduceLT, Int.reduceLE, Int.reduceNe, Int.reduceNeg, Int.reduceAdd, Int.reduceSub, Int.reduceMul, Int.reduceToNat, Nat.reduceLT, Nat.reduceLeDiff, Nat.reduceAdd, Nat.reduceEqDiff, Nat.reduceSub, not_false_iff, and_self, implies_true, false_and, and_false, or_self, false_or, or_false, Int.cast_ofNat_Int, Int.natCast_nonneg, SC.f0 hC, SC.f1 hC, SC.f2 hC, SC.f3 hC, SC.f4 hC, SC.f5 hC, SC.f6 hC, SC.f7 hC, h1', eq_true (show (10 : Int) ≤ (k : Int) by omega)]
      rw [ek]
      exact hQ σ1 e1
    | succ m ih =>
      intro k σ1 x hk hlo e1 e2
      have h1' := (hR.scr e1).2.1.1
      refine b_X5_ratesTold_16 _ _ _ _ ?_
      simp only [k_X5_ratesTold_16, x_push, x_iload, x_lload, x_aload, x_bin, x_div, x_un, x_lbin, x_ldiv, x_lcmp, x_i2l, x_l2i, x_dup, x_pop, x_dup2, x_c1, x_c2, x_null, x_cat1, x_istore, x_astore, x_lstore, x_iinc, x_nol, x_tsw, xsw, x_lsw, xlsw, x_ret, x_zret, x_lret, x_aret, x_vret, x_getI, x_getL, x_getR, x_putI, x_putZ, x_putL, x_iaload, x_zaload, x_aaload, x_iastore, x_zastore, x_alen, x_mm, x_acopy, xpush, xJ, xK, x_cV0, x_cV1, x_cV2, x_cV3, x_cV4, x_cV5, x_cV6, x_cV7, x_cV8, x_cS1, x_cS2, x_cS3, x_cS4, x_cS5, List.getD_cons_zero, List.getD_cons_succ, List.set_cons_zero, List.set_cons_succ, List.length_cons, List.length_nil, Nat.zero_add, true_and, and_true, List.getD_nil, not_true, not_false_eq_true, Int.toNat_natCast, false_implies, true_implies, if_true, if_false, Int.toNat_zero, Int.toNat_one, true_or, or_true, Int.reduceEq, Int.reduceLT, Int.reduceLE, Int.reduceNe, Int.reduceNeg, Int.reduceAdd, Int.reduceSub, Int.reduceMul, Int.reduceToNat, Nat.reduceLT, Nat.reduceLeDiff, Nat.reduceAdd, Nat.reduceEqDiff, Nat.reduceSub, not_false_iff, and_self, implies_true, false_and, and_false, or_self, false_or, or_false, Int.cast_ofNat_Int, Int.natCast_nonneg, SC.f0 hC, SC.f1 hC, SC.f2 hC, SC.f3 hC, SC.f4 hC, SC.f5 hC, SC.f6 hC, SC.f7 hC, SW.f0 hS2, SW.f1 hS2, SW.f2 hS2, SW.f3 hS2, SW.f4 hS2, SW.f5 hS2, SW.f6 hS2, SW.f7 hS2, SW.f8 hS2, SW.f9 hS2, SW.l9 hS2, SW.a9 hS2, SW.e9 hS2, SW.f10 hS2, SW.l10 hS2, SW.a10 hS2, SW.e10 hS2, SW.f11 hS2, SW.l11 hS2, SW.a11 hS2, SW.e11 hS2, SW.f12 hS2, SW.l12 hS2, SW.a12 hS2, SW.e12 hS2, SW.f13 hS2, SW.l13 hS2, SW.a13 hS2, SW.e13 hS2, SW.f14 hS2, SW.l14 hS2, SW.a14 hS2, SW.e14 hS2, SW.f15 hS2, SW.l15 hS2, SW.a15 hS2, SW.e15 hS2, h1', eq_false (show ¬ ((10 : Int) ≤ (k : Int)) by omega), eq_true (show (f : Int) < 6 by omega)]
      have hV2 : WV (upd2 σ1 (c + 69) 1 (k : Int)) (c + 69) (zF S) (zC S) (upd2 (zA S) 0 0 (k : Int)) := by
        have := e2.rate (v := (k : Int))
        rw [upd2_twice] at this
        exact this
      refine c_foW hR hi hf hn (e1.put (in_69 (j := 0) (by omega))) hV2 (hA.rate (by omega) (by omega)) (fun σ2 f1 f2 => ?_)
      simp only [x_push, x_iload, x_lload, x_aload, x_bin, x_div, x_un, x_lbin, x_ldiv, x_lcmp, x_i2l, x_l2i, x_dup, x_pop, x_dup2, x_c1, x_c2, x_null, x_cat1, x_istore, x_astore, x_lstore, x_iinc, x_nol, x_tsw, xsw, x_lsw, xlsw, x_ret, x_zret, x_lret, x_aret, x_vret, x_getI, x_getL, x_getR, x_putI, x_putZ, x_putL, x_iaload, x_zaload, x_aaload, x_iastore, x_zastore, x_alen, x_mm, x_acopy, xpush, xJ, xK, x_cV0, x_cV1, x_cV2, x_cV3, x_cV4, x_cV5, x_cV6, x_cV7, x_cV8, x_cS1, x_cS2, x_cS3, x_cS4, x_cS5, List.getD_cons_zero, List.getD_cons_succ, List.set_cons_zero, List.set_cons_succ, List.length_cons, List.length_nil, Nat.zero_add, true_and, and_true, List.getD_nil, not_true, not_false_eq_true, Int.toNat_natCast, false_implies, true_implies, if_true, if_false, Int.toNat_zero, Int.toNat_one, true_or, or_true, Int.reduceEq, Int.reduceLT, Int.reduceLE, Int.reduceNe, Int.reduceNeg, Int.reduceAdd, Int.reduceSub, Int.reduceMul, Int.reduceToNat, Nat.reduceLT, Nat.reduceLeDiff, Nat.reduceAdd, Nat.reduceEqDiff, Nat.reduceSub, not_false_iff, and_self, implies_true, false_and, and_false, or_self, false_or, or_false, Int.cast_ofNat_Int, Int.natCast_nonneg]
      have st := sBs_step (q := fun k => sTl S i f (upd2 (zA S) 0 0 k)) (lo := 1) (n := k) (by omega) hlo
      rw [oadd_id (by omega) (by omega)]
      refine ⟨fun q => ?_, fun q => ?_⟩
      · rw [st.2 q]
        exact ih (k + 1) σ2 _ (by omega) (by omega) f1 f2
      · rw [st.1 (Classical.not_not.mp q)]
        exact ih (k + 1) σ2 _ (by omega) (by omega) f1 f2
  refine b_X5_ratesTold_0 _ _ _ _ ?_
  show k_X5_ratesTold_0 (d + 5) Q (0, 0) [vr c, vr (c + 53 + 2 * i), vi (f : Int), vu, vu] [] (Γ, σ)
  simp only [k_X5_ratesTold_0, x_push, x_iload, x_lload, x_aload, x_bin, x_div, x_un, x_lbin, x_ldiv, x_lcmp, x_i2l, x_l2i, x_dup, x_pop, x_dup2, x_c1, x_c2, x_null, x_cat1, x_istore, x_astore, x_lstore, x_iinc, x_nol, x_tsw, xsw, x_lsw, xlsw, x_ret, x_zret, x_lret, x_aret, x_vret, x_getI, x_getL, x_getR, x_putI, x_putZ, x_putL, x_iaload, x_zaload, x_aaload, x_iastore, x_zastore, x_alen, x_mm, x_acopy, xpush, xJ, xK, x_cV0, x_cV1, x_cV2, x_cV3, x_cV4, x_cV5, x_cV6, x_cV7, x_cV8, x_cS1, x_cS2, x_cS3, x_cS4, x_cS5, List.getD_cons_zero, List.getD_cons_succ, List.set_cons_zero, List.set_cons_succ, List.length_cons, List.length_nil, Nat.zero_add, true_and, and_true, List.getD_nil, not_true, not_false_eq_true, Int.toNat_natCast, false_implies, true_implies, if_true, if_false, Int.toNat_zero, Int.toNat_one, true_or, or_true, Int.reduceEq, Int.reduceLT, Int.reduceLE, Int.reduceNe, Int.reduceNeg, Int.reduceAdd, Int.reduceSub, Int.reduceMul, Int.reduceToNat, Nat.reduceLT, Nat.reduceLeDiff, Nat.reduceAdd, Nat.reduceEqDiff, Nat.reduceSub, not_false_iff, and_self, implies_true, false_and, and_false, or_self, false_or, or_false, Int.cast_ofNat_Int, Int.natCast_nonneg, SC.f0 hC, SC.f1 hC, SC.f2 hC, SC.f3 hC, SC.f4 hC, SC.f5 hC, SC.f6 hC, SC.f7 hC, SW.f0 hS2, SW.f1 hS2, SW.f2 hS2, SW.f3 hS2, SW.f4 hS2, SW.f5 hS2, SW.f6 hS2, SW.f7 hS2, SW.f8 hS2, SW.f9 hS2, SW.l9 hS2, SW.a9 hS2, SW.e9 hS2, SW.f10 hS2, SW.l10 hS2, SW.a10 hS2, SW.e10 hS2, SW.f11 hS2, SW.l11 hS2, SW.a11 hS2, SW.e11 hS2, SW.f12 hS2, SW.l12 hS2, SW.a12 hS2, SW.e12 hS2, SW.f13 hS2, SW.l13 hS2, SW.a13 hS2, SW.e13 hS2, SW.f14 hS2, SW.l14 hS2, SW.a14 hS2, SW.e14 hS2, SW.f15 hS2, SW.l15 hS2, SW.a15 hS2, SW.e15 hS2]
  refine c_become hS2 hS (by omega) hV hA.1 hA.2.1 (fun σ3 g1 g2 => ?_)
  simp only [x_push, x_iload, x_lload, x_aload, x_bin, x_div, x_un, x_lbin, x_ldiv, x_lcmp, x_i2l, x_l2i, x_dup, x_pop, x_dup2, x_c1, x_c2, x_null, x_cat1, x_istore, x_astore, x_lstore, x_iinc, x_nol, x_tsw, xsw, x_lsw, xlsw, x_ret, x_zret, x_lret, x_aret, x_vret, x_getI, x_getL, x_getR, x_putI, x_putZ, x_putL, x_iaload, x_zaload, x_aaload, x_iastore, x_zastore, x_alen, x_mm, x_acopy, xpush, xJ, xK, x_cV0, x_cV1, x_cV2, x_cV3, x_cV4, x_cV5, x_cV6, x_cV7, x_cV8, x_cS1, x_cS2, x_cS3, x_cS4, x_cS5, List.getD_cons_zero, List.getD_cons_succ, List.set_cons_zero, List.set_cons_succ, List.length_cons, List.length_nil, Nat.zero_add, true_and, and_true, List.getD_nil, not_true, not_false_eq_true, Int.toNat_natCast, false_implies, true_implies, if_true, if_false, Int.toNat_zero, Int.toNat_one, true_or, or_true, Int.reduceEq, Int.reduceLT, Int.reduceLE, Int.reduceNe, Int.reduceNeg, Int.reduceAdd, Int.reduceSub, Int.reduceMul, Int.reduceToNat, Nat.reduceLT, Nat.reduceLeDiff, Nat.reduceAdd, Nat.reduceEqDiff, Nat.reduceSub, not_false_iff, and_self, implies_true, false_and, and_false, or_self, false_or, or_false, Int.cast_ofNat_Int, Int.natCast_nonneg]
  have key := loop (10 - 1) 1 σ3 (zA S 0 0) (by have := hR.2.2.2.1; omega) (by omega) (g1.mono (fun q => RV_Scr2)) (by rw [upd2_same]; exact g2)
  rw [sBs_lo] at key
  exact key

set_option maxHeartbeats 4000000 in
theorem c_textsTold {i f : Nat} (hR : CR Γ σ c S) (hi : i < 4) (hf : f < zF S) (hn : (zH S i).2.1 ≤ 12) (hQ : ∀ σ', Sm (Scr c) σ σ' → Q (vi (sBs (fun k => sTl S i f (upd2 (zA S) 7 0 k)) 0 (zT S) : Int)) (Γ, σ')) : xRM M_X5_textsTold (d + 6) (0, 0) [vr c, vr (c + 53 + 2 * i), vi (f : Int)] (Γ, σ) Q := by
  refine xRM_of (by decide) (Nat.le_of_ble_eq_true rfl) ?_
  obtain ⟨hS, hX, hl, hV, hA, htc, hT⟩ := hR.wok
  obtain ⟨hC, -, hP, hK, hKr, -⟩ := id hR.1
  have hS2 := hR.1.2.2.2.2.2.2.2.1
  have hnf := hA.1
  have h1 := hR.2.1.1
  have loop : ∀ (m k : Nat) (σ1 : Nat → Nat → Int) (x : Int), k + m = (zT S) → 0 ≤ k → Sm (Scr c) σ σ1 → WV σ1 (c + 69) (zF S) (zC S) (upd2 (zA S) 7 0 x) → xR M_X5_textsTold (d + 6) (0, 0) 16 [vr c, vr (c + 53 + 2 * i), vi (f : Int), vi (sBs (fun k => sTl S i f (upd2 (zA S) 7 0 k)) 0 k : Int), vi (k : Int)] [] (Γ, σ1) Q := by
    intro m
    induction m with
    | zero =>
      intro k σ1 x hk hlo e1 e2
      have ek : k = (zT S) := by omega
      have h1' := (hR.scr e1).2.1.1
      refine b_X5_textsTold_16 _ _ _ _ ?_
      simp only [k_X5_textsTold_16, x_push, x_iload, x_lload, x_aload, x_bin, x_div, x_un, x_lbin, x_ldiv, x_lcmp, x_i2l, x_l2i, x_dup, x_pop, x_dup2, x_c1, x_c2, x_null, x_cat1, x_istore, x_astore, x_lstore, x_iinc, x_nol, x_tsw, xsw, x_lsw, xlsw, x_ret, x_zret, x_lret, x_aret, x_vret, x_getI, x_getL, x_getR, x_putI, x_putZ, x_putL, x_iaload, x_zaload, x_aaload, x_iastore, x_zastore, x_alen, x_mm, x_acopy, xpush, xJ, xK, x_cV0, x_cV1, x_cV2, x_cV3, x_cV4, x_cV5, x_cV6, x_cV7, x_cV8, x_cS1, x_cS2, x_cS3, x_cS4, x_cS5, List.getD_cons_zero, List.getD_cons_succ, List.set_cons_zero, List.set_cons_succ, List.length_cons, List.length_nil, Nat.zero_add, true_and, and_true, List.getD_nil, not_true, not_false_eq_true, Int.toNat_natCast, false_implies, true_implies, if_true, if_false, Int.toNat_zero, Int.toNat_one, true_or, or_true, Int.reduceEq, Int.reduceLT, Int.reduceLE, Int.reduceNe, Int.reduceNeg, Int.reduceAdd, Int.reduceSub, Int.reduceMul, Int.reduceToNat, Nat.reduceLT, Nat.reduceLeDiff, Nat.reduceAdd, Nat.reduceEqDiff, Nat.reduceSub, not_false_iff, and_self, implies_true, false_and, and_false, or_self, false_or, or_false, Int.cast_ofNat_Int, Int.natCast_nonneg, SC.f0 hC, SC.f1 hC, SC.f2 hC, SC.f3 hC, SC.f4 hC, SC.f5 hC, SC.f6 hC, SC.f7 hC, h1', eq_true (show ((zT S) : Int) ≤ (k : Int) by omega)]
      rw [ek]
      exact hQ σ1 e1
    | succ m ih =>
      intro k σ1 x hk hlo e1 e2
      have h1' := (hR.scr e1).2.1.1
      refine b_X5_textsTold_16 _ _ _ _ ?_
      simp only [k_X5_textsTold_16, x_push, x_iload, x_lload, x_aload, x_bin, x_div, x_un, x_lbin, x_ldiv, x_lcmp, x_i2l, x_l2i, x_dup, x_pop, x_dup2, x_c1, x_c2, x_null, x_cat1, x_istore, x_astore, x_lstore, x_iinc, x_nol, x_tsw, xsw, x_lsw, xlsw, x_ret, x_zret, x_lret, x_aret, x_vret, x_getI, x_getL, x_getR, x_putI, x_putZ, x_putL, x_iaload, x_zaload, x_aaload, x_iastore, x_zastore, x_alen, x_mm, x_acopy, xpush, xJ, xK, x_cV0, x_cV1, x_cV2, x_cV3, x_cV4, x_cV5, x_cV6, x_cV7, x_cV8, x_cS1, x_cS2, x_cS3, x_cS4, x_cS5, List.getD_cons_zero, List.getD_cons_succ, List.set_cons_zero, List.set_cons_succ, List.length_cons, List.length_nil, Nat.zero_add, true_and, and_true, List.getD_nil, not_true, not_false_eq_true, Int.toNat_natCast, false_implies, true_implies, if_true, if_false, Int.toNat_zero, Int.toNat_one, true_or, or_true, Int.reduceEq, Int.reduceLT, Int.reduceLE, Int.reduceNe, Int.reduceNeg, Int.reduceAdd, Int.reduceSub, Int.reduceMul, Int.reduceToNat, Nat.reduceLT, Nat.reduceLeDiff, Nat.reduceAdd, Nat.reduceEqDiff, Nat.reduceSub, not_false_iff, and_self, implies_true, false_and, and_false, or_self, false_or, or_false, Int.cast_ofNat_Int, Int.natCast_nonneg, SC.f0 hC, SC.f1 hC, SC.f2 hC, SC.f3 hC, SC.f4 hC, SC.f5 hC, SC.f6 hC, SC.f7 hC, SW.f0 hS2, SW.f1 hS2, SW.f2 hS2, SW.f3 hS2, SW.f4 hS2, SW.f5 hS2, SW.f6 hS2, SW.f7 hS2, SW.f8 hS2, SW.f9 hS2, SW.l9 hS2, SW.a9 hS2, SW.e9 hS2, SW.f10 hS2, SW.l10 hS2, SW.a10 hS2, SW.e10 hS2, SW.f11 hS2, SW.l11 hS2, SW.a11 hS2, SW.e11 hS2, SW.f12 hS2, SW.l12 hS2, SW.a12 hS2, SW.e12 hS2, SW.f13 hS2, SW.l13 hS2, SW.a13 hS2, SW.e13 hS2, SW.f14 hS2, SW.l14 hS2, SW.a14 hS2, SW.e14 hS2, SW.f15 hS2, SW.l15 hS2, SW.a15 hS2, SW.e15 hS2, h1', eq_false (show ¬ (((zT S) : Int) ≤ (k : Int)) by omega), eq_true (show (f : Int) < 6 by omega)]
      have hV2 : WV (upd2 σ1 (c + 69) 2 (k : Int)) (c + 69) (zF S) (zC S) (upd2 (zA S) 7 0 (k : Int)) := by
        have := e2.rule (v := (k : Int))
        rw [upd2_twice] at this
        exact this
      refine c_foW hR hi hf hn (e1.put (in_69 (j := 0) (by omega))) hV2 (hA.rule (by omega) (by omega)) (fun σ2 f1 f2 => ?_)
      simp only [x_push, x_iload, x_lload, x_aload, x_bin, x_div, x_un, x_lbin, x_ldiv, x_lcmp, x_i2l, x_l2i, x_dup, x_pop, x_dup2, x_c1, x_c2, x_null, x_cat1, x_istore, x_astore, x_lstore, x_iinc, x_nol, x_tsw, xsw, x_lsw, xlsw, x_ret, x_zret, x_lret, x_aret, x_vret, x_getI, x_getL, x_getR, x_putI, x_putZ, x_putL, x_iaload, x_zaload, x_aaload, x_iastore, x_zastore, x_alen, x_mm, x_acopy, xpush, xJ, xK, x_cV0, x_cV1, x_cV2, x_cV3, x_cV4, x_cV5, x_cV6, x_cV7, x_cV8, x_cS1, x_cS2, x_cS3, x_cS4, x_cS5, List.getD_cons_zero, List.getD_cons_succ, List.set_cons_zero, List.set_cons_succ, List.length_cons, List.length_nil, Nat.zero_add, true_and, and_true, List.getD_nil, not_true, not_false_eq_true, Int.toNat_natCast, false_implies, true_implies, if_true, if_false, Int.toNat_zero, Int.toNat_one, true_or, or_true, Int.reduceEq, Int.reduceLT, Int.reduceLE, Int.reduceNe, Int.reduceNeg, Int.reduceAdd, Int.reduceSub, Int.reduceMul, Int.reduceToNat, Nat.reduceLT, Nat.reduceLeDiff, Nat.reduceAdd, Nat.reduceEqDiff, Nat.reduceSub, not_false_iff, and_self, implies_true, false_and, and_false, or_self, false_or, or_false, Int.cast_ofNat_Int, Int.natCast_nonneg]
      have st := sBs_step (q := fun k => sTl S i f (upd2 (zA S) 7 0 k)) (lo := 0) (n := k) (by omega) hlo
      rw [oadd_id (by omega) (by omega)]
      refine ⟨fun q => ?_, fun q => ?_⟩
      · rw [st.2 q]
        exact ih (k + 1) σ2 _ (by omega) (by omega) f1 f2
      · rw [st.1 (Classical.not_not.mp q)]
        exact ih (k + 1) σ2 _ (by omega) (by omega) f1 f2
  refine b_X5_textsTold_0 _ _ _ _ ?_
  show k_X5_textsTold_0 (d + 5) Q (0, 0) [vr c, vr (c + 53 + 2 * i), vi (f : Int), vu, vu] [] (Γ, σ)
  simp only [k_X5_textsTold_0, x_push, x_iload, x_lload, x_aload, x_bin, x_div, x_un, x_lbin, x_ldiv, x_lcmp, x_i2l, x_l2i, x_dup, x_pop, x_dup2, x_c1, x_c2, x_null, x_cat1, x_istore, x_astore, x_lstore, x_iinc, x_nol, x_tsw, xsw, x_lsw, xlsw, x_ret, x_zret, x_lret, x_aret, x_vret, x_getI, x_getL, x_getR, x_putI, x_putZ, x_putL, x_iaload, x_zaload, x_aaload, x_iastore, x_zastore, x_alen, x_mm, x_acopy, xpush, xJ, xK, x_cV0, x_cV1, x_cV2, x_cV3, x_cV4, x_cV5, x_cV6, x_cV7, x_cV8, x_cS1, x_cS2, x_cS3, x_cS4, x_cS5, List.getD_cons_zero, List.getD_cons_succ, List.set_cons_zero, List.set_cons_succ, List.length_cons, List.length_nil, Nat.zero_add, true_and, and_true, List.getD_nil, not_true, not_false_eq_true, Int.toNat_natCast, false_implies, true_implies, if_true, if_false, Int.toNat_zero, Int.toNat_one, true_or, or_true, Int.reduceEq, Int.reduceLT, Int.reduceLE, Int.reduceNe, Int.reduceNeg, Int.reduceAdd, Int.reduceSub, Int.reduceMul, Int.reduceToNat, Nat.reduceLT, Nat.reduceLeDiff, Nat.reduceAdd, Nat.reduceEqDiff, Nat.reduceSub, not_false_iff, and_self, implies_true, false_and, and_false, or_self, false_or, or_false, Int.cast_ofNat_Int, Int.natCast_nonneg, SC.f0 hC, SC.f1 hC, SC.f2 hC, SC.f3 hC, SC.f4 hC, SC.f5 hC, SC.f6 hC, SC.f7 hC, SW.f0 hS2, SW.f1 hS2, SW.f2 hS2, SW.f3 hS2, SW.f4 hS2, SW.f5 hS2, SW.f6 hS2, SW.f7 hS2, SW.f8 hS2, SW.f9 hS2, SW.l9 hS2, SW.a9 hS2, SW.e9 hS2, SW.f10 hS2, SW.l10 hS2, SW.a10 hS2, SW.e10 hS2, SW.f11 hS2, SW.l11 hS2, SW.a11 hS2, SW.e11 hS2, SW.f12 hS2, SW.l12 hS2, SW.a12 hS2, SW.e12 hS2, SW.f13 hS2, SW.l13 hS2, SW.a13 hS2, SW.e13 hS2, SW.f14 hS2, SW.l14 hS2, SW.a14 hS2, SW.e14 hS2, SW.f15 hS2, SW.l15 hS2, SW.a15 hS2, SW.e15 hS2]
  refine c_become hS2 hS (by omega) hV hA.1 hA.2.1 (fun σ3 g1 g2 => ?_)
  simp only [x_push, x_iload, x_lload, x_aload, x_bin, x_div, x_un, x_lbin, x_ldiv, x_lcmp, x_i2l, x_l2i, x_dup, x_pop, x_dup2, x_c1, x_c2, x_null, x_cat1, x_istore, x_astore, x_lstore, x_iinc, x_nol, x_tsw, xsw, x_lsw, xlsw, x_ret, x_zret, x_lret, x_aret, x_vret, x_getI, x_getL, x_getR, x_putI, x_putZ, x_putL, x_iaload, x_zaload, x_aaload, x_iastore, x_zastore, x_alen, x_mm, x_acopy, xpush, xJ, xK, x_cV0, x_cV1, x_cV2, x_cV3, x_cV4, x_cV5, x_cV6, x_cV7, x_cV8, x_cS1, x_cS2, x_cS3, x_cS4, x_cS5, List.getD_cons_zero, List.getD_cons_succ, List.set_cons_zero, List.set_cons_succ, List.length_cons, List.length_nil, Nat.zero_add, true_and, and_true, List.getD_nil, not_true, not_false_eq_true, Int.toNat_natCast, false_implies, true_implies, if_true, if_false, Int.toNat_zero, Int.toNat_one, true_or, or_true, Int.reduceEq, Int.reduceLT, Int.reduceLE, Int.reduceNe, Int.reduceNeg, Int.reduceAdd, Int.reduceSub, Int.reduceMul, Int.reduceToNat, Nat.reduceLT, Nat.reduceLeDiff, Nat.reduceAdd, Nat.reduceEqDiff, Nat.reduceSub, not_false_iff, and_self, implies_true, false_and, and_false, or_self, false_or, or_false, Int.cast_ofNat_Int, Int.natCast_nonneg]
  have key := loop ((zT S) - 0) 0 σ3 (zA S 7 0) (by have := hR.2.2.2.1; omega) (by omega) (g1.mono (fun q => RV_Scr2)) (by rw [upd2_same]; exact g2)
  rw [sBs_lo] at key
  exact key

set_option maxHeartbeats 4000000 in
theorem c_meansTold {i f : Nat} {b : Int} (hb : b = 0 ∨ b = 1) (hR : CR Γ σ c S) (hi : i < 4) (hf : f < zF S) (hn : (zH S i).2.1 ≤ 12) (hQ : ∀ σ', Sm (Scr c) σ σ' → Q (vi (if b = 0 then (sMany (fun k => sTl S i f (upd2 (zA S) 2 f k)) 1000 : Int) else sLst (fun k => sTl S i f (upd2 (zA S) 2 f k)) 1000)) (Γ, σ')) : xRM M_X5_meansTold (d + 6) (0, 0) [vr c, vr (c + 53 + 2 * i), vi (f : Int), vi b] (Γ, σ) Q := by
  refine xRM_of (by decide) (Nat.le_of_ble_eq_true rfl) ?_
  have hW := hR.wok
  obtain ⟨hS, hX, hl, hV, hA, htc, hT⟩ := id hW
  obtain ⟨hC, -, hP, hK, hKr, -⟩ := id hR.1
  have hS2 := hR.1.2.2.2.2.2.2.2.1
  have hZ := (hR.1.2.2.2.2.2.1.2 i hi).2
  obtain ⟨b0, b1, b2⟩ := hR.2.1.2.2.2.2.2 i hi
  have hnf := hA.1
  obtain ⟨r0, r1⟩ := hA.2.2.2.1
  obtain ⟨r, hr⟩ : ∃ r : Nat, zA S 7 0 = r := ⟨(zA S 7 0).toNat, by omega⟩
  obtain ⟨x1, x2⟩ := hX.2 r (by omega)
  have loop : ∀ (m k : Nat) (σ1 : Nat → Nat → Int) (x : Int), k + m = 1000 → Sm (Scr c) σ σ1 → WV σ1 (c + 69) (zF S) (zC S) (upd2 (zA S) 2 f x) → xR M_X5_meansTold (d + 6) (0, 0) 88 [vr c, vr (c + 53 + 2 * i), vi (f : Int), vi b, vi (sMany (fun k => sTl S i f (upd2 (zA S) 2 f k)) k : Int), vi (sLst (fun k => sTl S i f (upd2 (zA S) 2 f k)) k), vi (k : Int)] [] (Γ, σ1) Q := by
    intro m
    induction m with
    | zero =>
      intro k σ1 x hk e1 e2
      have ek : k = 1000 := by omega
      refine b_X5_meansTold_88 _ _ _ _ ?_
      simp only [k_X5_meansTold_88, x_push, x_iload, x_lload, x_aload, x_bin, x_div, x_un, x_lbin, x_ldiv, x_lcmp, x_i2l, x_l2i, x_dup, x_pop, x_dup2, x_c1, x_c2, x_null, x_cat1, x_istore, x_astore, x_lstore, x_iinc, x_nol, x_tsw, xsw, x_lsw, xlsw, x_ret, x_zret, x_lret, x_aret, x_vret, x_getI, x_getL, x_getR, x_putI, x_putZ, x_putL, x_iaload, x_zaload, x_aaload, x_iastore, x_zastore, x_alen, x_mm, x_acopy, xpush, xJ, xK, x_cV0, x_cV1, x_cV2, x_cV3, x_cV4, x_cV5, x_cV6, x_cV7, x_cV8, x_cS1, x_cS2, x_cS3, x_cS4, x_cS5, List.getD_cons_zero, List.getD_cons_succ, List.set_cons_zero, List.set_cons_succ, List.length_cons, List.length_nil, Nat.zero_add, true_and, and_true, List.getD_nil, not_true, not_false_eq_true, Int.toNat_natCast, false_implies, true_implies, if_true, if_false, Int.toNat_zero, Int.toNat_one, true_or, or_true, Int.reduceEq, Int.reduceLT, Int.reduceLE, Int.reduceNe, Int.reduceNeg, Int.reduceAdd, Int.reduceSub, Int.reduceMul, Int.reduceToNat, Nat.reduceLT, Nat.reduceLeDiff, Nat.reduceAdd, Nat.reduceEqDiff, Nat.reduceSub, not_false_iff, and_self, implies_true, false_and, and_false, or_self, false_or, or_false, Int.cast_ofNat_Int, Int.natCast_nonneg, eq_true (show (1000 : Int) ≤ (k : Int) by omega)]
      rw [ek]
      have key := hQ σ1 e1
      refine ⟨fun q => ?_, fun q => ?_⟩
      · rw [if_pos q] at key; exact key
      · rw [if_neg q] at key; exact key
    | succ m ih =>
      intro k σ1 x hk e1 e2
      have hm := sMany_le (fun k => sTl S i f (upd2 (zA S) 2 f k)) k
      refine b_X5_meansTold_88 _ _ _ _ ?_
      simp only [k_X5_meansTold_88, x_push, x_iload, x_lload, x_aload, x_bin, x_div, x_un, x_lbin, x_ldiv, x_lcmp, x_i2l, x_l2i, x_dup, x_pop, x_dup2, x_c1, x_c2, x_null, x_cat1, x_istore, x_astore, x_lstore, x_iinc, x_nol, x_tsw, xsw, x_lsw, xlsw, x_ret, x_zret, x_lret, x_aret, x_vret, x_getI, x_getL, x_getR, x_putI, x_putZ, x_putL, x_iaload, x_zaload, x_aaload, x_iastore, x_zastore, x_alen, x_mm, x_acopy, xpush, xJ, xK, x_cV0, x_cV1, x_cV2, x_cV3, x_cV4, x_cV5, x_cV6, x_cV7, x_cV8, x_cS1, x_cS2, x_cS3, x_cS4, x_cS5, List.getD_cons_zero, List.getD_cons_succ, List.set_cons_zero, List.set_cons_succ, List.length_cons, List.length_nil, Nat.zero_add, true_and, and_true, List.getD_nil, not_true, not_false_eq_true, Int.toNat_natCast, false_implies, true_implies, if_true, if_false, Int.toNat_zero, Int.toNat_one, true_or, or_true, Int.reduceEq, Int.reduceLT, Int.reduceLE, Int.reduceNe, Int.reduceNeg, Int.reduceAdd, Int.reduceSub, Int.reduceMul, Int.reduceToNat, Nat.reduceLT, Nat.reduceLeDiff, Nat.reduceAdd, Nat.reduceEqDiff, Nat.reduceSub, not_false_iff, and_self, implies_true, false_and, and_false, or_self, false_or, or_false, Int.cast_ofNat_Int, Int.natCast_nonneg, SC.f0 hC, SC.f1 hC, SC.f2 hC, SC.f3 hC, SC.f4 hC, SC.f5 hC, SC.f6 hC, SC.f7 hC, SW.f0 hS2, SW.f1 hS2, SW.f2 hS2, SW.f3 hS2, SW.f4 hS2, SW.f5 hS2, SW.f6 hS2, SW.f7 hS2, SW.f8 hS2, SW.f9 hS2, SW.l9 hS2, SW.a9 hS2, SW.e9 hS2, SW.f10 hS2, SW.l10 hS2, SW.a10 hS2, SW.e10 hS2, SW.f11 hS2, SW.l11 hS2, SW.a11 hS2, SW.e11 hS2, SW.f12 hS2, SW.l12 hS2, SW.a12 hS2, SW.e12 hS2, SW.f13 hS2, SW.l13 hS2, SW.a13 hS2, SW.e13 hS2, SW.f14 hS2, SW.l14 hS2, SW.a14 hS2, SW.e14 hS2, SW.f15 hS2, SW.l15 hS2, SW.a15 hS2, SW.e15 hS2, eq_false (show ¬ ((1000 : Int) ≤ (k : Int)) by omega), eq_true (show (f : Int) < 6 by omega)]
      have hV2 : WV (upd2 σ1 (c + 69 + 3) f (k : Int)) (c + 69) (zF S) (zC S) (upd2 (zA S) 2 f (k : Int)) := by
        have := e2.p2 (v := (k : Int)) (j := f)
        rw [upd2_twice] at this
        exact this
      refine c_foW hR hi hf hn (e1.put (in_69 (by omega))) hV2 (hA.mean (by omega) (by omega)) (fun σ2 f1 f2 => ?_)
      simp only [x_push, x_iload, x_lload, x_aload, x_bin, x_div, x_un, x_lbin, x_ldiv, x_lcmp, x_i2l, x_l2i, x_dup, x_pop, x_dup2, x_c1, x_c2, x_null, x_cat1, x_istore, x_astore, x_lstore, x_iinc, x_nol, x_tsw, xsw, x_lsw, xlsw, x_ret, x_zret, x_lret, x_aret, x_vret, x_getI, x_getL, x_getR, x_putI, x_putZ, x_putL, x_iaload, x_zaload, x_aaload, x_iastore, x_zastore, x_alen, x_mm, x_acopy, xpush, xJ, xK, x_cV0, x_cV1, x_cV2, x_cV3, x_cV4, x_cV5, x_cV6, x_cV7, x_cV8, x_cS1, x_cS2, x_cS3, x_cS4, x_cS5, List.getD_cons_zero, List.getD_cons_succ, List.set_cons_zero, List.set_cons_succ, List.length_cons, List.length_nil, Nat.zero_add, true_and, and_true, List.getD_nil, not_true, not_false_eq_true, Int.toNat_natCast, false_implies, true_implies, if_true, if_false, Int.toNat_zero, Int.toNat_one, true_or, or_true, Int.reduceEq, Int.reduceLT, Int.reduceLE, Int.reduceNe, Int.reduceNeg, Int.reduceAdd, Int.reduceSub, Int.reduceMul, Int.reduceToNat, Nat.reduceLT, Nat.reduceLeDiff, Nat.reduceAdd, Nat.reduceEqDiff, Nat.reduceSub, not_false_iff, and_self, implies_true, false_and, and_false, or_self, false_or, or_false, Int.cast_ofNat_Int, Int.natCast_nonneg]
      have go := ih (k + 1) σ2 _ (by omega) f1 f2
      simp only [sMany, sLst] at go
      rw [oadd_id (a := (k : Int)) (by omega) (by omega)]
      refine ⟨fun q => ?_, fun q => ⟨fun q2 => ?_, fun q2 => ?_⟩⟩
      · rw [if_neg q, if_neg q, Nat.add_zero] at go
        by_cases z : sLst (fun k => sTl S i f (upd2 (zA S) 2 f k)) k = -1
        · rw [if_neg (fun y => y z)] at go
          rw [z]
          exact go
        · rw [if_pos z] at go
          exact go
      · rw [if_pos (Classical.not_not.mp q), if_pos q2] at go
        rw [oadd_id (by omega) (by omega)]
        exact go
      · rw [if_pos (Classical.not_not.mp q), if_neg q2, if_pos (Classical.not_not.mp q)] at go
        rw [oadd_id (by omega) (by omega)]
        exact go
  refine b_X5_meansTold_0 _ _ _ _ ?_
  show k_X5_meansTold_0 (d + 5) Q (0, 0) [vr c, vr (c + 53 + 2 * i), vi (f : Int), vi b, vu, vu, vu] [] (Γ, σ)
  simp only [k_X5_meansTold_0, x_push, x_iload, x_lload, x_aload, x_bin, x_div, x_un, x_lbin, x_ldiv, x_lcmp, x_i2l, x_l2i, x_dup, x_pop, x_dup2, x_c1, x_c2, x_null, x_cat1, x_istore, x_astore, x_lstore, x_iinc, x_nol, x_tsw, xsw, x_lsw, xlsw, x_ret, x_zret, x_lret, x_aret, x_vret, x_getI, x_getL, x_getR, x_putI, x_putZ, x_putL, x_iaload, x_zaload, x_aaload, x_iastore, x_zastore, x_alen, x_mm, x_acopy, xpush, xJ, xK, x_cV0, x_cV1, x_cV2, x_cV3, x_cV4, x_cV5, x_cV6, x_cV7, x_cV8, x_cS1, x_cS2, x_cS3, x_cS4, x_cS5, List.getD_cons_zero, List.getD_cons_succ, List.set_cons_zero, List.set_cons_succ, List.length_cons, List.length_nil, Nat.zero_add, true_and, and_true, List.getD_nil, not_true, not_false_eq_true, Int.toNat_natCast, false_implies, true_implies, if_true, if_false, Int.toNat_zero, Int.toNat_one, true_or, or_true, Int.reduceEq, Int.reduceLT, Int.reduceLE, Int.reduceNe, Int.reduceNeg, Int.reduceAdd, Int.reduceSub, Int.reduceMul, Int.reduceToNat, Nat.reduceLT, Nat.reduceLeDiff, Nat.reduceAdd, Nat.reduceEqDiff, Nat.reduceSub, not_false_iff, and_self, implies_true, false_and, and_false, or_self, false_or, or_false, Int.cast_ofNat_Int, Int.natCast_nonneg, SC.f0 hC, SC.f1 hC, SC.f2 hC, SC.f3 hC, SC.f4 hC, SC.f5 hC, SC.f6 hC, SC.f7 hC, SW.f0 hS, SW.f1 hS, SW.f2 hS, SW.f3 hS, SW.f4 hS, SW.f5 hS, SW.f6 hS, SW.f7 hS, SW.f8 hS, SW.f9 hS, SW.l9 hS, SW.a9 hS, SW.e9 hS, SW.f10 hS, SW.l10 hS, SW.a10 hS, SW.e10 hS, SW.f11 hS, SW.l11 hS, SW.a11 hS, SW.e11 hS, SW.f12 hS, SW.l12 hS, SW.a12 hS, SW.e12 hS, SW.f13 hS, SW.l13 hS, SW.a13 hS, SW.e13 hS, SW.f14 hS, SW.l14 hS, SW.a14 hS, SW.e14 hS, SW.f15 hS, SW.l15 hS, SW.a15 hS, SW.e15 hS, SW.f0 hS2, SW.f1 hS2, SW.f2 hS2, SW.f3 hS2, SW.f4 hS2, SW.f5 hS2, SW.f6 hS2, SW.f7 hS2, SW.f8 hS2, SW.f9 hS2, SW.l9 hS2, SW.a9 hS2, SW.e9 hS2, SW.f10 hS2, SW.l10 hS2, SW.a10 hS2, SW.e10 hS2, SW.f11 hS2, SW.l11 hS2, SW.a11 hS2, SW.e11 hS2, SW.f12 hS2, SW.l12 hS2, SW.a12 hS2, SW.e12 hS2, SW.f13 hS2, SW.l13 hS2, SW.a13 hS2, SW.e13 hS2, SW.f14 hS2, SW.l14 hS2, SW.a14 hS2, SW.e14 hS2, SW.f15 hS2, SW.l15 hS2, SW.a15 hS2, SW.e15 hS2, hV.2.1, hr, gLen_of hX.1, eq_true (show ∃ ty, gArr Γ (c + 1) ty ∧ ty.isReference = true from ⟨_, ⟨_, hX.1⟩, rfl⟩), x1, x2.1, eq_true (show (r : Int) < 6 by omega)]
  refine c_looksAt x2 (hT r (by omega)) (fun z => ?_) (fun z => ?_)
  · simp only [x_push, x_iload, x_lload, x_aload, x_bin, x_div, x_un, x_lbin, x_ldiv, x_lcmp, x_i2l, x_l2i, x_dup, x_pop, x_dup2, x_c1, x_c2, x_null, x_cat1, x_istore, x_astore, x_lstore, x_iinc, x_nol, x_tsw, xsw, x_lsw, xlsw, x_ret, x_zret, x_lret, x_aret, x_vret, x_getI, x_getL, x_getR, x_putI, x_putZ, x_putL, x_iaload, x_zaload, x_aaload, x_iastore, x_zastore, x_alen, x_mm, x_acopy, xpush, xJ, xK, x_cV0, x_cV1, x_cV2, x_cV3, x_cV4, x_cV5, x_cV6, x_cV7, x_cV8, x_cS1, x_cS2, x_cS3, x_cS4, x_cS5, List.getD_cons_zero, List.getD_cons_succ, List.set_cons_zero, List.set_cons_succ, List.length_cons, List.length_nil, Nat.zero_add, true_and, and_true, List.getD_nil, not_true, not_false_eq_true, Int.toNat_natCast, false_implies, true_implies, if_true, if_false, Int.toNat_zero, Int.toNat_one, true_or, or_true, Int.reduceEq, Int.reduceLT, Int.reduceLE, Int.reduceNe, Int.reduceNeg, Int.reduceAdd, Int.reduceSub, Int.reduceMul, Int.reduceToNat, Nat.reduceLT, Nat.reduceLeDiff, Nat.reduceAdd, Nat.reduceEqDiff, Nat.reduceSub, not_false_iff, and_self, implies_true, false_and, and_false, or_self, false_or, or_false, Int.cast_ofNat_Int, Int.natCast_nonneg, SC.f0 hC, SC.f1 hC, SC.f2 hC, SC.f3 hC, SC.f4 hC, SC.f5 hC, SC.f6 hC, SC.f7 hC, SW.f0 hS2, SW.f1 hS2, SW.f2 hS2, SW.f3 hS2, SW.f4 hS2, SW.f5 hS2, SW.f6 hS2, SW.f7 hS2, SW.f8 hS2, SW.f9 hS2, SW.l9 hS2, SW.a9 hS2, SW.e9 hS2, SW.f10 hS2, SW.l10 hS2, SW.a10 hS2, SW.e10 hS2, SW.f11 hS2, SW.l11 hS2, SW.a11 hS2, SW.e11 hS2, SW.f12 hS2, SW.l12 hS2, SW.a12 hS2, SW.e12 hS2, SW.f13 hS2, SW.l13 hS2, SW.a13 hS2, SW.e13 hS2, SW.f14 hS2, SW.l14 hS2, SW.a14 hS2, SW.e14 hS2, SW.f15 hS2, SW.l15 hS2, SW.a15 hS2, SW.e15 hS2]
    refine c_become hS2 hS (by omega) hV hA.1 hA.2.1 (fun σ3 g1 g2 => ?_)
    simp only [x_push, x_iload, x_lload, x_aload, x_bin, x_div, x_un, x_lbin, x_ldiv, x_lcmp, x_i2l, x_l2i, x_dup, x_pop, x_dup2, x_c1, x_c2, x_null, x_cat1, x_istore, x_astore, x_lstore, x_iinc, x_nol, x_tsw, xsw, x_lsw, xlsw, x_ret, x_zret, x_lret, x_aret, x_vret, x_getI, x_getL, x_getR, x_putI, x_putZ, x_putL, x_iaload, x_zaload, x_aaload, x_iastore, x_zastore, x_alen, x_mm, x_acopy, xpush, xJ, xK, x_cV0, x_cV1, x_cV2, x_cV3, x_cV4, x_cV5, x_cV6, x_cV7, x_cV8, x_cS1, x_cS2, x_cS3, x_cS4, x_cS5, List.getD_cons_zero, List.getD_cons_succ, List.set_cons_zero, List.set_cons_succ, List.length_cons, List.length_nil, Nat.zero_add, true_and, and_true, List.getD_nil, not_true, not_false_eq_true, Int.toNat_natCast, false_implies, true_implies, if_true, if_false, Int.toNat_zero, Int.toNat_one, true_or, or_true, Int.reduceEq, Int.reduceLT, Int.reduceLE, Int.reduceNe, Int.reduceNeg, Int.reduceAdd, Int.reduceSub, Int.reduceMul, Int.reduceToNat, Nat.reduceLT, Nat.reduceLeDiff, Nat.reduceAdd, Nat.reduceEqDiff, Nat.reduceSub, not_false_iff, and_self, implies_true, false_and, and_false, or_self, false_or, or_false, Int.cast_ofNat_Int, Int.natCast_nonneg]
    exact loop 1000 0 σ3 (zA S 2 f) (by omega) (g1.mono (fun q => RV_Scr2)) (by rw [upd2_same]; exact g2)
  · have cst : ∀ k : Nat, sTl S i f (upd2 (zA S) 2 f k) = sTl S i f (zA S) := fun k => by
      unfold sTl
      congr 1
      funext h
      exact sCost_means (by rw [hr]; exact z)
    have e1 := sMany_const cst 1000
    have e2 := sLst_const cst 999
    rw [e1, e2] at hQ
    simp only [x_push, x_iload, x_lload, x_aload, x_bin, x_div, x_un, x_lbin, x_ldiv, x_lcmp, x_i2l, x_l2i, x_dup, x_pop, x_dup2, x_c1, x_c2, x_null, x_cat1, x_istore, x_astore, x_lstore, x_iinc, x_nol, x_tsw, xsw, x_lsw, xlsw, x_ret, x_zret, x_lret, x_aret, x_vret, x_getI, x_getL, x_getR, x_putI, x_putZ, x_putL, x_iaload, x_zaload, x_aaload, x_iastore, x_zastore, x_alen, x_mm, x_acopy, xpush, xJ, xK, x_cV0, x_cV1, x_cV2, x_cV3, x_cV4, x_cV5, x_cV6, x_cV7, x_cV8, x_cS1, x_cS2, x_cS3, x_cS4, x_cS5, List.getD_cons_zero, List.getD_cons_succ, List.set_cons_zero, List.set_cons_succ, List.length_cons, List.length_nil, Nat.zero_add, true_and, and_true, List.getD_nil, not_true, not_false_eq_true, Int.toNat_natCast, false_implies, true_implies, if_true, if_false, Int.toNat_zero, Int.toNat_one, true_or, or_true, Int.reduceEq, Int.reduceLT, Int.reduceLE, Int.reduceNe, Int.reduceNeg, Int.reduceAdd, Int.reduceSub, Int.reduceMul, Int.reduceToNat, Nat.reduceLT, Nat.reduceLeDiff, Nat.reduceAdd, Nat.reduceEqDiff, Nat.reduceSub, not_false_iff, and_self, implies_true, false_and, and_false, or_self, false_or, or_false, Int.cast_ofNat_Int, Int.natCast_nonneg, SC.f0 hC, SC.f1 hC, SC.f2 hC, SC.f3 hC, SC.f4 hC, SC.f5 hC, SC.f6 hC, SC.f7 hC, SW.f0 hS, SW.f1 hS, SW.f2 hS, SW.f3 hS, SW.f4 hS, SW.f5 hS, SW.f6 hS, SW.f7 hS, SW.f8 hS, SW.f9 hS, SW.l9 hS, SW.a9 hS, SW.e9 hS, SW.f10 hS, SW.l10 hS, SW.a10 hS, SW.e10 hS, SW.f11 hS, SW.l11 hS, SW.a11 hS, SW.e11 hS, SW.f12 hS, SW.l12 hS, SW.a12 hS, SW.e12 hS, SW.f13 hS, SW.l13 hS, SW.a13 hS, SW.e13 hS, SW.f14 hS, SW.l14 hS, SW.a14 hS, SW.e14 hS, SW.f15 hS, SW.l15 hS, SW.a15 hS, SW.e15 hS]
    have nR : ∀ q, q < c + 61 + 7 → c + 53 ≤ q → ¬ RW (c + 61) (c + 29) q := fun q h1 h2 z => by
      rcases z with z | ⟨j, z1, z2⟩ <;> omega
    refine c_firstOtherwise (v := (zH S i).2.2) hW hf hZ ⟨nR _ (by omega) (by omega), nR _ (by omega) (by omega)⟩ b1 hn (fun j hj => ?_) (fun σ2 e => ?_)
    · rw [show c + 53 + 2 * i + 1 = c + 54 + 2 * i by omega]
      exact b2 j hj
    · have key := hQ σ2 (e.mono (fun q => RW_Scr))
      simp only [x_push, x_iload, x_lload, x_aload, x_bin, x_div, x_un, x_lbin, x_ldiv, x_lcmp, x_i2l, x_l2i, x_dup, x_pop, x_dup2, x_c1, x_c2, x_null, x_cat1, x_istore, x_astore, x_lstore, x_iinc, x_nol, x_tsw, xsw, x_lsw, xlsw, x_ret, x_zret, x_lret, x_aret, x_vret, x_getI, x_getL, x_getR, x_putI, x_putZ, x_putL, x_iaload, x_zaload, x_aaload, x_iastore, x_zastore, x_alen, x_mm, x_acopy, xpush, xJ, xK, x_cV0, x_cV1, x_cV2, x_cV3, x_cV4, x_cV5, x_cV6, x_cV7, x_cV8, x_cS1, x_cS2, x_cS3, x_cS4, x_cS5, List.getD_cons_zero, List.getD_cons_succ, List.set_cons_zero, List.set_cons_succ, List.length_cons, List.length_nil, Nat.zero_add, true_and, and_true, List.getD_nil, not_true, not_false_eq_true, Int.toNat_natCast, false_implies, true_implies, if_true, if_false, Int.toNat_zero, Int.toNat_one, true_or, or_true, Int.reduceEq, Int.reduceLT, Int.reduceLE, Int.reduceNe, Int.reduceNeg, Int.reduceAdd, Int.reduceSub, Int.reduceMul, Int.reduceToNat, Nat.reduceLT, Nat.reduceLeDiff, Nat.reduceAdd, Nat.reduceEqDiff, Nat.reduceSub, not_false_iff, and_self, implies_true, false_and, and_false, or_self, false_or, or_false, Int.cast_ofNat_Int, Int.natCast_nonneg]
      have s36 : ∀ x : Int, (x = if sTl S i f (zA S) = -1 then 1 else 0) → xR M_X5_meansTold (d + 6) (0, 0) 36 [vr c, vr (c + 53 + 2 * i), vi (f : Int), vi b, vu, vu, vu] [vi x] (Γ, σ2) Q := by
        intro x hx
        refine b_X5_meansTold_36 _ _ _ _ ?_
        simp only [k_X5_meansTold_36, x_push, x_iload, x_lload, x_aload, x_bin, x_div, x_un, x_lbin, x_ldiv, x_lcmp, x_i2l, x_l2i, x_dup, x_pop, x_dup2, x_c1, x_c2, x_null, x_cat1, x_istore, x_astore, x_lstore, x_iinc, x_nol, x_tsw, xsw, x_lsw, xlsw, x_ret, x_zret, x_lret, x_aret, x_vret, x_getI, x_getL, x_getR, x_putI, x_putZ, x_putL, x_iaload, x_zaload, x_aaload, x_iastore, x_zastore, x_alen, x_mm, x_acopy, xpush, xJ, xK, x_cV0, x_cV1, x_cV2, x_cV3, x_cV4, x_cV5, x_cV6, x_cV7, x_cV8, x_cS1, x_cS2, x_cS3, x_cS4, x_cS5, List.getD_cons_zero, List.getD_cons_succ, List.set_cons_zero, List.set_cons_succ, List.length_cons, List.length_nil, Nat.zero_add, true_and, and_true, List.getD_nil, not_true, not_false_eq_true, Int.toNat_natCast, false_implies, true_implies, if_true, if_false, Int.toNat_zero, Int.toNat_one, true_or, or_true, Int.reduceEq, Int.reduceLT, Int.reduceLE, Int.reduceNe, Int.reduceNeg, Int.reduceAdd, Int.reduceSub, Int.reduceMul, Int.reduceToNat, Nat.reduceLT, Nat.reduceLeDiff, Nat.reduceAdd, Nat.reduceEqDiff, Nat.reduceSub, not_false_iff, and_self, implies_true, false_and, and_false, or_self, false_or, or_false, Int.cast_ofNat_Int, Int.natCast_nonneg]
        refine ⟨fun q => ⟨fun q2 => ?_, fun q2 => ?_⟩, fun q => ⟨fun q2 => ?_, fun q2 => ?_⟩⟩
        · rw [if_pos q] at key
          by_cases y : sTl S i f (zA S) = -1
          · rw [if_pos y] at hx; omega
          · rw [if_neg y] at key; exact key
        · rw [if_pos q] at key
          by_cases y : sTl S i f (zA S) = -1
          · rw [if_pos y] at key; exact key
          · rw [if_neg y] at hx; omega
        · rw [if_neg q] at key
          by_cases y : sTl S i f (zA S) = -1
          · rw [if_pos y] at hx; omega
          · rw [if_neg y] at key; exact key
        · rw [if_neg q] at key
          by_cases y : sTl S i f (zA S) = -1
          · rw [if_pos y] at key; exact key
          · rw [if_neg y] at hx; omega
      refine ⟨fun q => s36 0 ?_, fun q => s36 1 ?_⟩
      · exact (if_neg q).symm
      · exact (if_pos (Classical.not_not.mp q)).symm
set_option maxHeartbeats 4000000 in
theorem c5_tells {sh f w : Int} (hR : CR Γ σ c S) (hQ : ∀ σ', Sm (Scr c) σ σ' → Q (vi (a_tells S sh f w)) (Γ, σ')) : xRM M_X5_tells (d + 7) (0, 0) [vr c, vi sh, vi f, vi w] (Γ, σ) Q := by
  refine xRM_of (by decide) (Nat.le_of_ble_eq_true rfl) ?_
  have hW := hR.wok
  obtain ⟨hS, hX, hl, hV, hA, htc, hT⟩ := id hW
  have hC := hR.1.1
  have bad : ¬ ((0 ≤ sh ∧ sh < 4) ∧ (0 ≤ f ∧ f < zF S) ∧ 0 ≤ w ∧ w ≤ 6) → Q (vi (-2)) (Γ, σ) := fun z => by
    rw [show a_tells S sh f w = -2 from (by unfold a_tells; (try simp only [Int.toNat_natCast]); repeat (first | rw [if_pos (by omega)] | rw [if_neg (by omega)]))] at hQ
    exact hQ σ Sm.rf
  refine b_X5_tells_0 _ _ _ _ ?_
  show k_X5_tells_0 (d + 6) Q (0, 0) [vr c, vi sh, vi f, vi w, vu] [] (Γ, σ)
  simp only [k_X5_tells_0, x_push, x_iload, x_lload, x_aload, x_bin, x_div, x_un, x_lbin, x_ldiv, x_lcmp, x_i2l, x_l2i, x_dup, x_pop, x_dup2, x_c1, x_c2, x_null, x_cat1, x_istore, x_astore, x_lstore, x_iinc, x_nol, x_tsw, xsw, x_lsw, xlsw, x_ret, x_zret, x_lret, x_aret, x_vret, x_getI, x_getL, x_getR, x_putI, x_putZ, x_putL, x_iaload, x_zaload, x_aaload, x_iastore, x_zastore, x_alen, x_mm, x_acopy, xpush, xJ, xK, x_cV0, x_cV1, x_cV2, x_cV3, x_cV4, x_cV5, x_cV6, x_cV7, x_cV8, x_cS1, x_cS2, x_cS3, x_cS4, x_cS5, List.getD_cons_zero, List.getD_cons_succ, List.set_cons_zero, List.set_cons_succ, List.length_cons, List.length_nil, Nat.zero_add, true_and, and_true, List.getD_nil, not_true, not_false_eq_true, Int.toNat_natCast, false_implies, true_implies, if_true, if_false, Int.toNat_zero, Int.toNat_one, true_or, or_true, Int.reduceEq, Int.reduceLT, Int.reduceLE, Int.reduceNe, Int.reduceNeg, Int.reduceAdd, Int.reduceSub, Int.reduceMul, Int.reduceToNat, Nat.reduceLT, Nat.reduceLeDiff, Nat.reduceAdd, Nat.reduceEqDiff, Nat.reduceSub, not_false_iff, and_self, implies_true, false_and, and_false, or_self, false_or, or_false, Int.cast_ofNat_Int, Int.natCast_nonneg, SC.f0 hC, SC.f1 hC, SC.f2 hC, SC.f3 hC, SC.f4 hC, SC.f5 hC, SC.f6 hC, SC.f7 hC]
  refine c_sheetOf hR.1 (fun s0 s1 => ?_) (fun z => ?_)
  · simp only [x_push, x_iload, x_lload, x_aload, x_bin, x_div, x_un, x_lbin, x_ldiv, x_lcmp, x_i2l, x_l2i, x_dup, x_pop, x_dup2, x_c1, x_c2, x_null, x_cat1, x_istore, x_astore, x_lstore, x_iinc, x_nol, x_tsw, xsw, x_lsw, xlsw, x_ret, x_zret, x_lret, x_aret, x_vret, x_getI, x_getL, x_getR, x_putI, x_putZ, x_putL, x_iaload, x_zaload, x_aaload, x_iastore, x_zastore, x_alen, x_mm, x_acopy, xpush, xJ, xK, x_cV0, x_cV1, x_cV2, x_cV3, x_cV4, x_cV5, x_cV6, x_cV7, x_cV8, x_cS1, x_cS2, x_cS3, x_cS4, x_cS5, List.getD_cons_zero, List.getD_cons_succ, List.set_cons_zero, List.set_cons_succ, List.length_cons, List.length_nil, Nat.zero_add, true_and, and_true, List.getD_nil, not_true, not_false_eq_true, Int.toNat_natCast, false_implies, true_implies, if_true, if_false, Int.toNat_zero, Int.toNat_one, true_or, or_true, Int.reduceEq, Int.reduceLT, Int.reduceLE, Int.reduceNe, Int.reduceNeg, Int.reduceAdd, Int.reduceSub, Int.reduceMul, Int.reduceToNat, Nat.reduceLT, Nat.reduceLeDiff, Nat.reduceAdd, Nat.reduceEqDiff, Nat.reduceSub, not_false_iff, and_self, implies_true, false_and, and_false, or_self, false_or, or_false, Int.cast_ofNat_Int, Int.natCast_nonneg, SC.f0 hC, SC.f1 hC, SC.f2 hC, SC.f3 hC, SC.f4 hC, SC.f5 hC, SC.f6 hC, SC.f7 hC, SW.f0 hS, SW.f1 hS, SW.f2 hS, SW.f3 hS, SW.f4 hS, SW.f5 hS, SW.f6 hS, SW.f7 hS, SW.f8 hS, SW.f9 hS, SW.l9 hS, SW.a9 hS, SW.e9 hS, SW.f10 hS, SW.l10 hS, SW.a10 hS, SW.e10 hS, SW.f11 hS, SW.l11 hS, SW.a11 hS, SW.e11 hS, SW.f12 hS, SW.l12 hS, SW.a12 hS, SW.e12 hS, SW.f13 hS, SW.l13 hS, SW.a13 hS, SW.e13 hS, SW.f14 hS, SW.l14 hS, SW.a14 hS, SW.e14 hS, SW.f15 hS, SW.l15 hS, SW.a15 hS, SW.e15 hS]
    refine c_hasFigure hS hV.2.2.1 (fun f0 f1 => ?_) (fun z => ?_)
    · obtain ⟨i, rfl⟩ : ∃ i : Nat, sh = i := ⟨sh.toNat, by omega⟩
      obtain ⟨f, rfl⟩ : ∃ k : Nat, f = k := ⟨f.toNat, by omega⟩
      have hi : i < 4 := by omega
      have hf : f < zF S := by omega
      have hZ := (hR.1.2.2.2.2.2.1.2 i hi).2
      obtain ⟨b0, b1, b2⟩ := hR.2.1.2.2.2.2.2 i hi
      simp only [x_push, x_iload, x_lload, x_aload, x_bin, x_div, x_un, x_lbin, x_ldiv, x_lcmp, x_i2l, x_l2i, x_dup, x_pop, x_dup2, x_c1, x_c2, x_null, x_cat1, x_istore, x_astore, x_lstore, x_iinc, x_nol, x_tsw, xsw, x_lsw, xlsw, x_ret, x_zret, x_lret, x_aret, x_vret, x_getI, x_getL, x_getR, x_putI, x_putZ, x_putL, x_iaload, x_zaload, x_aaload, x_iastore, x_zastore, x_alen, x_mm, x_acopy, xpush, xJ, xK, x_cV0, x_cV1, x_cV2, x_cV3, x_cV4, x_cV5, x_cV6, x_cV7, x_cV8, x_cS1, x_cS2, x_cS3, x_cS4, x_cS5, List.getD_cons_zero, List.getD_cons_succ, List.set_cons_zero, List.set_cons_succ, List.length_cons, List.length_nil, Nat.zero_add, true_and, and_true, List.getD_nil, not_true, not_false_eq_true, Int.toNat_natCast, false_implies, true_implies, if_true, if_false, Int.toNat_zero, Int.toNat_one, true_or, or_true, Int.reduceEq, Int.reduceLT, Int.reduceLE, Int.reduceNe, Int.reduceNeg, Int.reduceAdd, Int.reduceSub, Int.reduceMul, Int.reduceToNat, Nat.reduceLT, Nat.reduceLeDiff, Nat.reduceAdd, Nat.reduceEqDiff, Nat.reduceSub, not_false_iff, and_self, implies_true, false_and, and_false, or_self, false_or, or_false, Int.cast_ofNat_Int, Int.natCast_nonneg, SC.f0 hC, SC.f1 hC, SC.f2 hC, SC.f3 hC, SC.f4 hC, SC.f5 hC, SC.f6 hC, SC.f7 hC, SS.f0 hZ, SS.f1 hZ, SS.f2 hZ, SS.l2 hZ, SS.a2 hZ, SS.e2 hZ, SW.f0 hS, SW.f1 hS, SW.f2 hS, SW.f3 hS, SW.f4 hS, SW.f5 hS, SW.f6 hS, SW.f7 hS, SW.f8 hS, SW.f9 hS, SW.l9 hS, SW.a9 hS, SW.e9 hS, SW.f10 hS, SW.l10 hS, SW.a10 hS, SW.e10 hS, SW.f11 hS, SW.l11 hS, SW.a11 hS, SW.e11 hS, SW.f12 hS, SW.l12 hS, SW.a12 hS, SW.e12 hS, SW.f13 hS, SW.l13 hS, SW.a13 hS, SW.e13 hS, SW.f14 hS, SW.l14 hS, SW.a14 hS, SW.e14 hS, SW.f15 hS, SW.l15 hS, SW.a15 hS, SW.e15 hS, b0, b1]
      refine ⟨fun q => bad (by omega), fun q => ⟨fun q2 => ⟨fun q3 => ⟨fun q4 => ?_, fun q4 => ?_⟩, fun q3 => ?_⟩, fun q2 => bad (by omega)⟩⟩
      · have hn : (zH S i).2.1 ≤ 12 := by omega
        rw [show a_tells S i f w = g_tells S i f w from (by unfold a_tells; (try simp only [Int.toNat_natCast]); repeat (first | rw [if_pos (by omega)] | rw [if_neg (by omega)]))] at hQ
        refine ⟨fun e => ?_, fun e => ?_, fun e => ?_, fun e => ?_, fun e => ?_, fun e => ?_⟩
        · rw [show g_tells S i f w = sTl S i f (zA S) from (by unfold g_tells; (try simp only [Int.toNat_natCast]); repeat (first | rw [if_pos (by omega)] | rw [if_neg (by omega)]))] at hQ
          have nR : ∀ q, q < c + 61 + 7 → c + 53 ≤ q → ¬ RW (c + 61) (c + 29) q := fun q h1 h2 z => by
            rcases z with z | ⟨j, z1, z2⟩ <;> omega
          refine c_firstOtherwise (v := (zH S i).2.2) hW hf hZ ⟨nR _ (by omega) (by omega), nR _ (by omega) (by omega)⟩ b1 hn (fun j hj => ?_) (fun σ2 e => ?_)
          · rw [show c + 53 + 2 * i + 1 = c + 54 + 2 * i by omega]
            exact b2 j hj
          · simp only [x_push, x_iload, x_lload, x_aload, x_bin, x_div, x_un, x_lbin, x_ldiv, x_lcmp, x_i2l, x_l2i, x_dup, x_pop, x_dup2, x_c1, x_c2, x_null, x_cat1, x_istore, x_astore, x_lstore, x_iinc, x_nol, x_tsw, xsw, x_lsw, xlsw, x_ret, x_zret, x_lret, x_aret, x_vret, x_getI, x_getL, x_getR, x_putI, x_putZ, x_putL, x_iaload, x_zaload, x_aaload, x_iastore, x_zastore, x_alen, x_mm, x_acopy, xpush, xJ, xK, x_cV0, x_cV1, x_cV2, x_cV3, x_cV4, x_cV5, x_cV6, x_cV7, x_cV8, x_cS1, x_cS2, x_cS3, x_cS4, x_cS5, List.getD_cons_zero, List.getD_cons_succ, List.set_cons_zero, List.set_cons_succ, List.length_cons, List.length_nil, Nat.zero_add, true_and, and_true, List.getD_nil, not_true, not_false_eq_true, Int.toNat_natCast, false_implies, true_implies, if_true, if_false, Int.toNat_zero, Int.toNat_one, true_or, or_true, Int.reduceEq, Int.reduceLT, Int.reduceLE, Int.reduceNe, Int.reduceNeg, Int.reduceAdd, Int.reduceSub, Int.reduceMul, Int.reduceToNat, Nat.reduceLT, Nat.reduceLeDiff, Nat.reduceAdd, Nat.reduceEqDiff, Nat.reduceSub, not_false_iff, and_self, implies_true, false_and, and_false, or_self, false_or, or_false, Int.cast_ofNat_Int, Int.natCast_nonneg]
            exact hQ σ2 (e.mono (fun q => RW_Scr))
        · rw [show g_tells S i f w = (sBs (fun k => sTl S i f (upd2 (zA S) 6 f k)) 0 6 : Int) from (by unfold g_tells; (try simp only [Int.toNat_natCast]); repeat (first | rw [if_pos (by omega)] | rw [if_neg (by omega)]))] at hQ
          refine c_kindsTold hR hi hf hn (fun σ2 e => ?_)
          simp only [x_push, x_iload, x_lload, x_aload, x_bin, x_div, x_un, x_lbin, x_ldiv, x_lcmp, x_i2l, x_l2i, x_dup, x_pop, x_dup2, x_c1, x_c2, x_null, x_cat1, x_istore, x_astore, x_lstore, x_iinc, x_nol, x_tsw, xsw, x_lsw, xlsw, x_ret, x_zret, x_lret, x_aret, x_vret, x_getI, x_getL, x_getR, x_putI, x_putZ, x_putL, x_iaload, x_zaload, x_aaload, x_iastore, x_zastore, x_alen, x_mm, x_acopy, xpush, xJ, xK, x_cV0, x_cV1, x_cV2, x_cV3, x_cV4, x_cV5, x_cV6, x_cV7, x_cV8, x_cS1, x_cS2, x_cS3, x_cS4, x_cS5, List.getD_cons_zero, List.getD_cons_succ, List.set_cons_zero, List.set_cons_succ, List.length_cons, List.length_nil, Nat.zero_add, true_and, and_true, List.getD_nil, not_true, not_false_eq_true, Int.toNat_natCast, false_implies, true_implies, if_true, if_false, Int.toNat_zero, Int.toNat_one, true_or, or_true, Int.reduceEq, Int.reduceLT, Int.reduceLE, Int.reduceNe, Int.reduceNeg, Int.reduceAdd, Int.reduceSub, Int.reduceMul, Int.reduceToNat, Nat.reduceLT, Nat.reduceLeDiff, Nat.reduceAdd, Nat.reduceEqDiff, Nat.reduceSub, not_false_iff, and_self, implies_true, false_and, and_false, or_self, false_or, or_false, Int.cast_ofNat_Int, Int.natCast_nonneg]
          exact hQ σ2 e
        · rw [show g_tells S i f w = (sBs (fun k => sTl S i f (upd2 (zA S) 1 f k)) 0 10 : Int) from (by unfold g_tells; (try simp only [Int.toNat_natCast]); repeat (first | rw [if_pos (by omega)] | rw [if_neg (by omega)]))] at hQ
          refine c_numbersTold hR hi hf hn (fun σ2 e => ?_)
          simp only [x_push, x_iload, x_lload, x_aload, x_bin, x_div, x_un, x_lbin, x_ldiv, x_lcmp, x_i2l, x_l2i, x_dup, x_pop, x_dup2, x_c1, x_c2, x_null, x_cat1, x_istore, x_astore, x_lstore, x_iinc, x_nol, x_tsw, xsw, x_lsw, xlsw, x_ret, x_zret, x_lret, x_aret, x_vret, x_getI, x_getL, x_getR, x_putI, x_putZ, x_putL, x_iaload, x_zaload, x_aaload, x_iastore, x_zastore, x_alen, x_mm, x_acopy, xpush, xJ, xK, x_cV0, x_cV1, x_cV2, x_cV3, x_cV4, x_cV5, x_cV6, x_cV7, x_cV8, x_cS1, x_cS2, x_cS3, x_cS4, x_cS5, List.getD_cons_zero, List.getD_cons_succ, List.set_cons_zero, List.set_cons_succ, List.length_cons, List.length_nil, Nat.zero_add, true_and, and_true, List.getD_nil, not_true, not_false_eq_true, Int.toNat_natCast, false_implies, true_implies, if_true, if_false, Int.toNat_zero, Int.toNat_one, true_or, or_true, Int.reduceEq, Int.reduceLT, Int.reduceLE, Int.reduceNe, Int.reduceNeg, Int.reduceAdd, Int.reduceSub, Int.reduceMul, Int.reduceToNat, Nat.reduceLT, Nat.reduceLeDiff, Nat.reduceAdd, Nat.reduceEqDiff, Nat.reduceSub, not_false_iff, and_self, implies_true, false_and, and_false, or_self, false_or, or_false, Int.cast_ofNat_Int, Int.natCast_nonneg]
          exact hQ σ2 e
        · rw [show g_tells S i f w = (sBs (fun k => sTl S i f (upd2 (zA S) 0 0 k)) 1 10 : Int) from (by unfold g_tells; (try simp only [Int.toNat_natCast]); repeat (first | rw [if_pos (by omega)] | rw [if_neg (by omega)]))] at hQ
          refine c_ratesTold hR hi hf hn (fun σ2 e => ?_)
          simp only [x_push, x_iload, x_lload, x_aload, x_bin, x_div, x_un, x_lbin, x_ldiv, x_lcmp, x_i2l, x_l2i, x_dup, x_pop, x_dup2, x_c1, x_c2, x_null, x_cat1, x_istore, x_astore, x_lstore, x_iinc, x_nol, x_tsw, xsw, x_lsw, xlsw, x_ret, x_zret, x_lret, x_aret, x_vret, x_getI, x_getL, x_getR, x_putI, x_putZ, x_putL, x_iaload, x_zaload, x_aaload, x_iastore, x_zastore, x_alen, x_mm, x_acopy, xpush, xJ, xK, x_cV0, x_cV1, x_cV2, x_cV3, x_cV4, x_cV5, x_cV6, x_cV7, x_cV8, x_cS1, x_cS2, x_cS3, x_cS4, x_cS5, List.getD_cons_zero, List.getD_cons_succ, List.set_cons_zero, List.set_cons_succ, List.length_cons, List.length_nil, Nat.zero_add, true_and, and_true, List.getD_nil, not_true, not_false_eq_true, Int.toNat_natCast, false_implies, true_implies, if_true, if_false, Int.toNat_zero, Int.toNat_one, true_or, or_true, Int.reduceEq, Int.reduceLT, Int.reduceLE, Int.reduceNe, Int.reduceNeg, Int.reduceAdd, Int.reduceSub, Int.reduceMul, Int.reduceToNat, Nat.reduceLT, Nat.reduceLeDiff, Nat.reduceAdd, Nat.reduceEqDiff, Nat.reduceSub, not_false_iff, and_self, implies_true, false_and, and_false, or_self, false_or, or_false, Int.cast_ofNat_Int, Int.natCast_nonneg]
          exact hQ σ2 e
        · rw [show g_tells S i f w = (sBs (fun k => sTl S i f (upd2 (zA S) 7 0 k)) 0 (zT S) : Int) from (by unfold g_tells; (try simp only [Int.toNat_natCast]); repeat (first | rw [if_pos (by omega)] | rw [if_neg (by omega)]))] at hQ
          refine c_textsTold hR hi hf hn (fun σ2 e => ?_)
          simp only [x_push, x_iload, x_lload, x_aload, x_bin, x_div, x_un, x_lbin, x_ldiv, x_lcmp, x_i2l, x_l2i, x_dup, x_pop, x_dup2, x_c1, x_c2, x_null, x_cat1, x_istore, x_astore, x_lstore, x_iinc, x_nol, x_tsw, xsw, x_lsw, xlsw, x_ret, x_zret, x_lret, x_aret, x_vret, x_getI, x_getL, x_getR, x_putI, x_putZ, x_putL, x_iaload, x_zaload, x_aaload, x_iastore, x_zastore, x_alen, x_mm, x_acopy, xpush, xJ, xK, x_cV0, x_cV1, x_cV2, x_cV3, x_cV4, x_cV5, x_cV6, x_cV7, x_cV8, x_cS1, x_cS2, x_cS3, x_cS4, x_cS5, List.getD_cons_zero, List.getD_cons_succ, List.set_cons_zero, List.set_cons_succ, List.length_cons, List.length_nil, Nat.zero_add, true_and, and_true, List.getD_nil, not_true, not_false_eq_true, Int.toNat_natCast, false_implies, true_implies, if_true, if_false, Int.toNat_zero, Int.toNat_one, true_or, or_true, Int.reduceEq, Int.reduceLT, Int.reduceLE, Int.reduceNe, Int.reduceNeg, Int.reduceAdd, Int.reduceSub, Int.reduceMul, Int.reduceToNat, Nat.reduceLT, Nat.reduceLeDiff, Nat.reduceAdd, Nat.reduceEqDiff, Nat.reduceSub, not_false_iff, and_self, implies_true, false_and, and_false, or_self, false_or, or_false, Int.cast_ofNat_Int, Int.natCast_nonneg]
          exact hQ σ2 e
        · refine ⟨fun q5 => ?_, fun q5 => ?_⟩
          · rw [show g_tells S i f w = (sMany (fun k => sTl S i f (upd2 (zA S) 2 f k)) 1000 : Int) from (by unfold g_tells; (try simp only [Int.toNat_natCast]); repeat (first | rw [if_pos (by omega)] | rw [if_neg (by omega)]))] at hQ
            refine c_meansTold (b := 0) (Or.inl rfl) hR hi hf hn (fun σ2 e => ?_)
            simp only [x_push, x_iload, x_lload, x_aload, x_bin, x_div, x_un, x_lbin, x_ldiv, x_lcmp, x_i2l, x_l2i, x_dup, x_pop, x_dup2, x_c1, x_c2, x_null, x_cat1, x_istore, x_astore, x_lstore, x_iinc, x_nol, x_tsw, xsw, x_lsw, xlsw, x_ret, x_zret, x_lret, x_aret, x_vret, x_getI, x_getL, x_getR, x_putI, x_putZ, x_putL, x_iaload, x_zaload, x_aaload, x_iastore, x_zastore, x_alen, x_mm, x_acopy, xpush, xJ, xK, x_cV0, x_cV1, x_cV2, x_cV3, x_cV4, x_cV5, x_cV6, x_cV7, x_cV8, x_cS1, x_cS2, x_cS3, x_cS4, x_cS5, List.getD_cons_zero, List.getD_cons_succ, List.set_cons_zero, List.set_cons_succ, List.length_cons, List.length_nil, Nat.zero_add, true_and, and_true, List.getD_nil, not_true, not_false_eq_true, Int.toNat_natCast, false_implies, true_implies, if_true, if_false, Int.toNat_zero, Int.toNat_one, true_or, or_true, Int.reduceEq, Int.reduceLT, Int.reduceLE, Int.reduceNe, Int.reduceNeg, Int.reduceAdd, Int.reduceSub, Int.reduceMul, Int.reduceToNat, Nat.reduceLT, Nat.reduceLeDiff, Nat.reduceAdd, Nat.reduceEqDiff, Nat.reduceSub, not_false_iff, and_self, implies_true, false_and, and_false, or_self, false_or, or_false, Int.cast_ofNat_Int, Int.natCast_nonneg]
            exact hQ σ2 e
          · rw [show g_tells S i f w = sLst (fun k => sTl S i f (upd2 (zA S) 2 f k)) 1000 from (by unfold g_tells; (try simp only [Int.toNat_natCast]); repeat (first | rw [if_pos (by omega)] | rw [if_neg (by omega)]))] at hQ
            refine c_meansTold (b := 1) (Or.inr rfl) hR hi hf hn (fun σ2 e => ?_)
            simp only [x_push, x_iload, x_lload, x_aload, x_bin, x_div, x_un, x_lbin, x_ldiv, x_lcmp, x_i2l, x_l2i, x_dup, x_pop, x_dup2, x_c1, x_c2, x_null, x_cat1, x_istore, x_astore, x_lstore, x_iinc, x_nol, x_tsw, xsw, x_lsw, xlsw, x_ret, x_zret, x_lret, x_aret, x_vret, x_getI, x_getL, x_getR, x_putI, x_putZ, x_putL, x_iaload, x_zaload, x_aaload, x_iastore, x_zastore, x_alen, x_mm, x_acopy, xpush, xJ, xK, x_cV0, x_cV1, x_cV2, x_cV3, x_cV4, x_cV5, x_cV6, x_cV7, x_cV8, x_cS1, x_cS2, x_cS3, x_cS4, x_cS5, List.getD_cons_zero, List.getD_cons_succ, List.set_cons_zero, List.set_cons_succ, List.length_cons, List.length_nil, Nat.zero_add, true_and, and_true, List.getD_nil, not_true, not_false_eq_true, Int.toNat_natCast, false_implies, true_implies, if_true, if_false, Int.toNat_zero, Int.toNat_one, true_or, or_true, Int.reduceEq, Int.reduceLT, Int.reduceLE, Int.reduceNe, Int.reduceNeg, Int.reduceAdd, Int.reduceSub, Int.reduceMul, Int.reduceToNat, Nat.reduceLT, Nat.reduceLeDiff, Nat.reduceAdd, Nat.reduceEqDiff, Nat.reduceSub, not_false_iff, and_self, implies_true, false_and, and_false, or_self, false_or, or_false, Int.cast_ofNat_Int, Int.natCast_nonneg]
            exact hQ σ2 e
      · rw [show a_tells S i f w = -2 from (by unfold a_tells; (try simp only [Int.toNat_natCast]); repeat (first | rw [if_pos (by omega)] | rw [if_neg (by omega)]))] at hQ
        exact hQ σ Sm.rf
      · rw [show a_tells S i f w = -11 from (by unfold a_tells; (try simp only [Int.toNat_natCast]); repeat (first | rw [if_pos (by omega)] | rw [if_neg (by omega)]))] at hQ
        exact hQ σ Sm.rf
    · simp only [x_push, x_iload, x_lload, x_aload, x_bin, x_div, x_un, x_lbin, x_ldiv, x_lcmp, x_i2l, x_l2i, x_dup, x_pop, x_dup2, x_c1, x_c2, x_null, x_cat1, x_istore, x_astore, x_lstore, x_iinc, x_nol, x_tsw, xsw, x_lsw, xlsw, x_ret, x_zret, x_lret, x_aret, x_vret, x_getI, x_getL, x_getR, x_putI, x_putZ, x_putL, x_iaload, x_zaload, x_aaload, x_iastore, x_zastore, x_alen, x_mm, x_acopy, xpush, xJ, xK, x_cV0, x_cV1, x_cV2, x_cV3, x_cV4, x_cV5, x_cV6, x_cV7, x_cV8, x_cS1, x_cS2, x_cS3, x_cS4, x_cS5, List.getD_cons_zero, List.getD_cons_succ, List.set_cons_zero, List.set_cons_succ, List.length_cons, List.length_nil, Nat.zero_add, true_and, and_true, List.getD_nil, not_true, not_false_eq_true, Int.toNat_natCast, false_implies, true_implies, if_true, if_false, Int.toNat_zero, Int.toNat_one, true_or, or_true, Int.reduceEq, Int.reduceLT, Int.reduceLE, Int.reduceNe, Int.reduceNeg, Int.reduceAdd, Int.reduceSub, Int.reduceMul, Int.reduceToNat, Nat.reduceLT, Nat.reduceLeDiff, Nat.reduceAdd, Nat.reduceEqDiff, Nat.reduceSub, not_false_iff, and_self, implies_true, false_and, and_false, or_self, false_or, or_false, Int.cast_ofNat_Int, Int.natCast_nonneg]
      exact bad (by omega)
  · simp only [x_push, x_iload, x_lload, x_aload, x_bin, x_div, x_un, x_lbin, x_ldiv, x_lcmp, x_i2l, x_l2i, x_dup, x_pop, x_dup2, x_c1, x_c2, x_null, x_cat1, x_istore, x_astore, x_lstore, x_iinc, x_nol, x_tsw, xsw, x_lsw, xlsw, x_ret, x_zret, x_lret, x_aret, x_vret, x_getI, x_getL, x_getR, x_putI, x_putZ, x_putL, x_iaload, x_zaload, x_aaload, x_iastore, x_zastore, x_alen, x_mm, x_acopy, xpush, xJ, xK, x_cV0, x_cV1, x_cV2, x_cV3, x_cV4, x_cV5, x_cV6, x_cV7, x_cV8, x_cS1, x_cS2, x_cS3, x_cS4, x_cS5, List.getD_cons_zero, List.getD_cons_succ, List.set_cons_zero, List.set_cons_succ, List.length_cons, List.length_nil, Nat.zero_add, true_and, and_true, List.getD_nil, not_true, not_false_eq_true, Int.toNat_natCast, false_implies, true_implies, if_true, if_false, Int.toNat_zero, Int.toNat_one, true_or, or_true, Int.reduceEq, Int.reduceLT, Int.reduceLE, Int.reduceNe, Int.reduceNeg, Int.reduceAdd, Int.reduceSub, Int.reduceMul, Int.reduceToNat, Nat.reduceLT, Nat.reduceLeDiff, Nat.reduceAdd, Nat.reduceEqDiff, Nat.reduceSub, not_false_iff, and_self, implies_true, false_and, and_false, or_self, false_or, or_false, Int.cast_ofNat_Int, Int.natCast_nonneg]
    exact bad (by omega)
end Cls
