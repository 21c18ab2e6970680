/-! ===== texts as steps for a machine with a stack; what they say ===== -/
def eOp (s a b : Int) : Int :=
  if s = -10 then (if a = 0 ∧ b = 0 then 0 else 1)
  else if s = -11 then (if a = 0 ∨ b = 0 then 0 else 1)
  else if s = -13 then (if a < b then 1 else 0)
  else if s = -14 then (if a = b then 1 else 0)
  else if s = -15 then oadd a b
  else if s = -16 then osub a b
  else omul a b
def eUn (s a : Int) : Int := if s = -18 then oneg a else if a = 0 then 1 else 0
def ev1 (N : Nat → Int) (s : Int) (st : List Int) : List Int :=
  if -6 ≤ s then (if 0 ≤ s then s else N (-1 - s).toNat) :: st
  else if s = -12 ∨ s = -18 then (match st with
    | a :: st => eUn s a :: st
    | [] => [])
  else (match st with
    | b :: a :: st => eOp s a b :: st
    | st => st)
def evR (N : Nat → Int) : List Int → List Int → List Int
  | [], st => st
  | s :: c, st => evR N c (ev1 N s st)
def ev (N : Nat → Int) (c : List Int) : Int := (evR N c []).headD 0
/-- the stack's height behind the steps, if it never is too high or too low -/
def hgt : List Int → Nat → Option Nat
  | [], k => some k
  | s :: c, k => if -6 ≤ s then (if k < 32 then hgt c (k + 1) else none) else if s = -12 ∨ s = -18 then (if 1 ≤ k then hgt c k else none) else (if 2 ≤ k then hgt c (k - 1) else none)
/-- an array that holds a stack -/
def SR (a : Nat → Int) : List Int → Prop
  | [] => True
  | s :: st => a st.length = s ∧ SR a st
theorem SR_upd {a : Nat → Int} {j : Nat} {v : Int} : ∀ {st : List Int}, SR a st → st.length ≤ j → SR (fun i => if i = j then v else a i) st
  | [], _, _ => trivial
  | s :: st, h, hj => by
    have hj' : st.length + 1 ≤ j := hj
    refine ⟨?_, SR_upd h.2 (by omega)⟩
    show (if st.length = j then v else a st.length) = s
    rw [if_neg (by omega)]
    exact h.1
theorem upd2_self {σ : Nat → Nat → Int} {a j : Nat} {v : Int} : upd2 σ a j v a = fun i => if i = j then v else σ a i := by
  funext i
  simp [upd2]
section Text
variable {Γ : xSh} {σ : Nat → Nat → Int} {t d : Nat} {Q : xV → xMem → Prop}
set_option maxHeartbeats 4000000 in
theorem c_joined {s a b : Int} {μ : xMem} (hs : s < -6) (h1 : s ≠ -12) (h2 : s ≠ -18) (hQ : Q (vi (eOp s a b)) μ) : xRM M_X3_joined (d + 1) (0, 0) [vi s, vi a, vi b] μ Q := by
  refine xRM_of (by decide) (Nat.le_of_ble_eq_true rfl) ?_
  refine b_X3_joined_0 _ _ _ _ ?_
  show k_X3_joined_0 d Q (0, 0) [vi s, vi a, vi b] [] μ
  simp only [k_X3_joined_0, x_push, x_iload, x_lload, x_aload, x_bin, x_div, x_un, x_lbin, x_ldiv, x_lcmp, x_i2l, x_l2i, x_dup, x_pop, x_dup2, x_c1, x_c2, x_null, x_cat1, x_istore, x_astore, x_lstore, x_iinc, x_nol, x_tsw, xsw, x_lsw, xlsw, x_ret, x_zret, x_lret, x_aret, x_vret, x_getI, x_getL, x_getR, x_putI, x_putZ, x_putL, x_iaload, x_zaload, x_aaload, x_iastore, x_zastore, x_alen, x_mm, x_acopy, xpush, xJ, xK, x_cV0, x_cV1, x_cV2, x_cV3, x_cV4, x_cV5, x_cV6, x_cV7, x_cV8, x_cS1, x_cS2, x_cS3, x_cS4, x_cS5, List.getD_cons_zero, List.getD_cons_succ, List.set_cons_zero, List.set_cons_succ, List.length_cons, List.length_nil, Nat.zero_add, true_and, and_true, List.getD_nil, not_true, not_false_eq_true, Int.toNat_natCast, false_implies, true_implies, if_true, if_false, Int.toNat_zero, Int.toNat_one, true_or, or_true, Int.reduceEq, Int.reduceLT, Int.reduceLE, Int.reduceNe, Int.reduceNeg, Int.reduceAdd, Int.reduceSub, Int.reduceMul, Int.reduceToNat, Nat.reduceLT, Nat.reduceLeDiff, Nat.reduceAdd, Nat.reduceEqDiff, Nat.reduceSub, not_false_iff, and_self, implies_true, false_and, and_false, or_self, false_or, or_false, Int.cast_ofNat_Int, Int.natCast_nonneg]
  unfold eOp at hQ
  refine ⟨fun e => ?_, fun e => ?_, fun e => ?_, fun e => ?_, fun e => ?_, fun e => ?_, fun e => ?_, fun e => ?_⟩
  · subst e; exact hQ
  · subst e; exact hQ
  · subst e
    simp only [x_push, x_iload, x_lload, x_aload, x_bin, x_div, x_un, x_lbin, x_ldiv, x_lcmp, x_i2l, x_l2i, x_dup, x_pop, x_dup2, x_c1, x_c2, x_null, x_cat1, x_istore, x_astore, x_lstore, x_iinc, x_nol, x_tsw, xsw, x_lsw, xlsw, x_ret, x_zret, x_lret, x_aret, x_vret, x_getI, x_getL, x_getR, x_putI, x_putZ, x_putL, x_iaload, x_zaload, x_aaload, x_iastore, x_zastore, x_alen, x_mm, x_acopy, xpush, xJ, xK, x_cV0, x_cV1, x_cV2, x_cV3, x_cV4, x_cV5, x_cV6, x_cV7, x_cV8, x_cS1, x_cS2, x_cS3, x_cS4, x_cS5, List.getD_cons_zero, List.getD_cons_succ, List.set_cons_zero, List.set_cons_succ, List.length_cons, List.length_nil, Nat.zero_add, true_and, and_true, List.getD_nil, not_true, not_false_eq_true, Int.toNat_natCast, false_implies, true_implies, if_true, if_false, Int.toNat_zero, Int.toNat_one, true_or, or_true, Int.reduceEq, Int.reduceLT, Int.reduceLE, Int.reduceNe, Int.reduceNeg, Int.reduceAdd, Int.reduceSub, Int.reduceMul, Int.reduceToNat, Nat.reduceLT, Nat.reduceLeDiff, Nat.reduceAdd, Nat.reduceEqDiff, Nat.reduceSub, not_false_iff, and_self, implies_true, false_and, and_false, or_self, false_or, or_false, Int.cast_ofNat_Int, Int.natCast_nonneg] at hQ
    exact ⟨fun q => by rw [if_neg q] at hQ; exact hQ, fun q => by rw [if_pos (Classical.not_not.mp q)] at hQ; exact hQ⟩
  · subst e
    simp only [x_push, x_iload, x_lload, x_aload, x_bin, x_div, x_un, x_lbin, x_ldiv, x_lcmp, x_i2l, x_l2i, x_dup, x_pop, x_dup2, x_c1, x_c2, x_null, x_cat1, x_istore, x_astore, x_lstore, x_iinc, x_nol, x_tsw, xsw, x_lsw, xlsw, x_ret, x_zret, x_lret, x_aret, x_vret, x_getI, x_getL, x_getR, x_putI, x_putZ, x_putL, x_iaload, x_zaload, x_aaload, x_iastore, x_zastore, x_alen, x_mm, x_acopy, xpush, xJ, xK, x_cV0, x_cV1, x_cV2, x_cV3, x_cV4, x_cV5, x_cV6, x_cV7, x_cV8, x_cS1, x_cS2, x_cS3, x_cS4, x_cS5, List.getD_cons_zero, List.getD_cons_succ, List.set_cons_zero, List.set_cons_succ, List.length_cons, List.length_nil, Nat.zero_add, true_and, and_true, List.getD_nil, not_true, not_false_eq_true, Int.toNat_natCast, false_implies, true_implies, if_true, if_false, Int.toNat_zero, Int.toNat_one, true_or, or_true, Int.reduceEq, Int.reduceLT, Int.reduceLE, Int.reduceNe, Int.reduceNeg, Int.reduceAdd, Int.reduceSub, Int.reduceMul, Int.reduceToNat, Nat.reduceLT, Nat.reduceLeDiff, Nat.reduceAdd, Nat.reduceEqDiff, Nat.reduceSub, not_false_iff, and_self, implies_true, false_and, and_false, or_self, false_or, or_false, Int.cast_ofNat_Int, Int.natCast_nonneg] at hQ
    exact ⟨fun q => by rw [if_neg (by omega)] at hQ; exact hQ, fun q => by rw [if_pos (by omega)] at hQ; exact hQ⟩
  · exact absurd e h1
  · subst e
    simp only [x_push, x_iload, x_lload, x_aload, x_bin, x_div, x_un, x_lbin, x_ldiv, x_lcmp, x_i2l, x_l2i, x_dup, x_pop, x_dup2, x_c1, x_c2, x_null, x_cat1, x_istore, x_astore, x_lstore, x_iinc, x_nol, x_tsw, xsw, x_lsw, xlsw, x_ret, x_zret, x_lret, x_aret, x_vret, x_getI, x_getL, x_getR, x_putI, x_putZ, x_putL, x_iaload, x_zaload, x_aaload, x_iastore, x_zastore, x_alen, x_mm, x_acopy, xpush, xJ, xK, x_cV0, x_cV1, x_cV2, x_cV3, x_cV4, x_cV5, x_cV6, x_cV7, x_cV8, x_cS1, x_cS2, x_cS3, x_cS4, x_cS5, List.getD_cons_zero, List.getD_cons_succ, List.set_cons_zero, List.set_cons_succ, List.length_cons, List.length_nil, Nat.zero_add, true_and, and_true, List.getD_nil, not_true, not_false_eq_true, Int.toNat_natCast, false_implies, true_implies, if_true, if_false, Int.toNat_zero, Int.toNat_one, true_or, or_true, Int.reduceEq, Int.reduceLT, Int.reduceLE, Int.reduceNe, Int.reduceNeg, Int.reduceAdd, Int.reduceSub, Int.reduceMul, Int.reduceToNat, Nat.reduceLT, Nat.reduceLeDiff, Nat.reduceAdd, Nat.reduceEqDiff, Nat.reduceSub, not_false_iff, and_self, implies_true, false_and, and_false, or_self, false_or, or_false, Int.cast_ofNat_Int, Int.natCast_nonneg] at hQ
    exact ⟨fun q => by rw [if_pos (Or.inl q)] at hQ; exact hQ, fun q => ⟨fun q2 => by rw [if_pos (Or.inr q2)] at hQ; exact hQ, fun q2 => by rw [if_neg (by omega)] at hQ; exact hQ⟩⟩
  · subst e
    simp only [x_push, x_iload, x_lload, x_aload, x_bin, x_div, x_un, x_lbin, x_ldiv, x_lcmp, x_i2l, x_l2i, x_dup, x_pop, x_dup2, x_c1, x_c2, x_null, x_cat1, x_istore, x_astore, x_lstore, x_iinc, x_nol, x_tsw, xsw, x_lsw, xlsw, x_ret, x_zret, x_lret, x_aret, x_vret, x_getI, x_getL, x_getR, x_putI, x_putZ, x_putL, x_iaload, x_zaload, x_aaload, x_iastore, x_zastore, x_alen, x_mm, x_acopy, xpush, xJ, xK, x_cV0, x_cV1, x_cV2, x_cV3, x_cV4, x_cV5, x_cV6, x_cV7, x_cV8, x_cS1, x_cS2, x_cS3, x_cS4, x_cS5, List.getD_cons_zero, List.getD_cons_succ, List.set_cons_zero, List.set_cons_succ, List.length_cons, List.length_nil, Nat.zero_add, true_and, and_true, List.getD_nil, not_true, not_false_eq_true, Int.toNat_natCast, false_implies, true_implies, if_true, if_false, Int.toNat_zero, Int.toNat_one, true_or, or_true, Int.reduceEq, Int.reduceLT, Int.reduceLE, Int.reduceNe, Int.reduceNeg, Int.reduceAdd, Int.reduceSub, Int.reduceMul, Int.reduceToNat, Nat.reduceLT, Nat.reduceLeDiff, Nat.reduceAdd, Nat.reduceEqDiff, Nat.reduceSub, not_false_iff, and_self, implies_true, false_and, and_false, or_self, false_or, or_false, Int.cast_ofNat_Int, Int.natCast_nonneg] at hQ
    exact ⟨fun q => by rw [if_neg (by omega)] at hQ; exact hQ, fun q => ⟨fun q2 => by rw [if_pos (by omega)] at hQ; exact hQ, fun q2 => by rw [if_neg (by omega)] at hQ; exact hQ⟩⟩
  · rw [if_neg (by omega), if_neg (by omega), if_neg (by omega), if_neg (by omega), if_neg (by omega), if_neg (by omega)] at hQ
    exact hQ
set_option maxHeartbeats 4000000 in
/-- the machine's loop -/
theorem c_value_loop {nm p : Nat} {N : Nat → Int} {lo : Nat} {C : List Int} (hT : ST Γ t) (hnm : gK Γ nm = some (.inr (.int, 6))) (hp : p < 3) (hhi : σ (t + 2) p = (lo + C.length : Nat)) (hC : ∀ (i : Nat) (v : Int), C[i]? = some v → σ (t + 1) (lo + i) = v) (h160 : lo + C.length ≤ 160) (hN : σ nm = N) (hne : nm ≠ t + 3) :
    ∀ (c : List Int) (i : Nat) (st : List Int) (σ' : Nat → Nat → Int) (v5 : xV), C.drop i = c → i + c.length = C.length → (∀ k, k ≠ t + 3 → σ' k = σ k) → SR (σ' (t + 3)) st → st.length ≤ 32 → hgt c st.length = some 1 → (∀ σ', (∀ k, k ≠ t + 3 → σ' k = σ k) → Q (vi ((evR N c st).headD 0)) (Γ, σ')) →
      xR M_X3_value (d + 2) (0, 0) 31 [vr t, vi p, vr nm, vi st.length, vi (lo + i : Nat), v5] [] (Γ, σ') Q := by
  intro c
  induction c with
  | nil =>
    intro i st σ' v5 hd hi hk hs h32 hh hQ
    refine b_X3_value_31 _ _ _ _ ?_
    simp only [List.length_nil] at hi
    have e2 : σ' (t + 2) = σ (t + 2) := hk _ (by omega)
    have hl : st.length = 1 := by simpa [hgt] using hh
    obtain ⟨s, rfl⟩ : ∃ s, st = [s] := by
      match st, hl with
      | [s], _ => exact ⟨s, rfl⟩
    have hs0 : σ' (t + 3) 0 = s := hs.1
    simp only [k_X3_value_31, x_push, x_iload, x_lload, x_aload, x_bin, x_div, x_un, x_lbin, x_ldiv, x_lcmp, x_i2l, x_l2i, x_dup, x_pop, x_dup2, x_c1, x_c2, x_null, x_cat1, x_istore, x_astore, x_lstore, x_iinc, x_nol, x_tsw, xsw, x_lsw, xlsw, x_ret, x_zret, x_lret, x_aret, x_vret, x_getI, x_getL, x_getR, x_putI, x_putZ, x_putL, x_iaload, x_zaload, x_aaload, x_iastore, x_zastore, x_alen, x_mm, x_acopy, xpush, xJ, xK, x_cV0, x_cV1, x_cV2, x_cV3, x_cV4, x_cV5, x_cV6, x_cV7, x_cV8, x_cS1, x_cS2, x_cS3, x_cS4, x_cS5, List.getD_cons_zero, List.getD_cons_succ, List.set_cons_zero, List.set_cons_succ, List.length_cons, List.length_nil, Nat.zero_add, true_and, and_true, List.getD_nil, not_true, not_false_eq_true, Int.toNat_natCast, false_implies, true_implies, if_true, if_false, Int.toNat_zero, Int.toNat_one, true_or, or_true, Int.reduceEq, Int.reduceLT, Int.reduceLE, Int.reduceNe, Int.reduceNeg, Int.reduceAdd, Int.reduceSub, Int.reduceMul, Int.reduceToNat, Nat.reduceLT, Nat.reduceLeDiff, Nat.reduceAdd, Nat.reduceEqDiff, Nat.reduceSub, not_false_iff, and_self, implies_true, false_and, and_false, or_self, false_or, or_false, Int.cast_ofNat_Int, Int.natCast_nonneg, ST.f0 hT, ST.f1 hT, ST.f2 hT, ST.f3 hT, ST.f4 hT, ST.l4 hT, ST.a4 hT, ST.e4 hT, ST.f5 hT, ST.l5 hT, ST.a5 hT, ST.e5 hT, ST.f6 hT, ST.l6 hT, ST.a6 hT, ST.e6 hT, e2, hhi, hs0, eq_true (show ((lo + C.length : Nat) : Int) ≤ ((lo + i : Nat) : Int) by omega)]
    with_reducible (repeat' (first | apply And.intro | intro _))
    all_goals (try ((first | (with_reducible show (_ : Int) < _) | (with_reducible show (_ : Int) ≤ _)); omega))
    exact hQ σ' hk
  | cons s c ih =>
    intro i st σ' v5 hd hi hk hs h32 hh hQ
    simp only [List.length_cons] at hi
    have hCi : C[i]? = some s := by
      have : (C.drop i)[0]? = some s := by rw [hd]; rfl
      simpa using this
    have hdr : C.drop (i + 1) = c := by
      have : (C.drop i).drop 1 = c := by rw [hd]; rfl
      simpa [List.drop_drop] using this
    have e2 : σ' (t + 2) = σ (t + 2) := hk _ (by omega)
    have e1 : σ' (t + 1) = σ (t + 1) := hk _ (by omega)
    have es : σ (t + 1) (lo + i) = s := hC i s hCi
    have cE : (((lo + C.length : Nat) : Int) ≤ ((lo + i : Nat) : Int)) = False := eq_false (by omega)
    have hkN : σ' nm = N := by rw [hk nm hne]; exact hN
    -- what comes next
    have go : ∀ (st' : List Int) (σ'' : Nat → Nat → Int) (v5 : xV) (tp : Int), tp = st'.length → (∀ k, k ≠ t + 3 → σ'' k = σ k) → SR (σ'' (t + 3)) st' → st'.length ≤ 32 → hgt c st'.length = some 1 → ev1 N s st = st' → xR M_X3_value (d + 2) (0, 0) 31 [vr t, vi p, vr nm, vi tp, vi (oadd ((lo + i : Nat) : Int) 1), v5] [] (Γ, σ'') Q := by
      intro st' σ'' v5 tp htp hk' hs' h32' hh' he
      rw [htp, (show oadd ((lo + i : Nat) : Int) 1 = ((lo + (i + 1) : Nat) : Int) by (first | rw [oadd_id (by omega) (by omega)] | rw [osub_id (by omega) (by omega)] | rw [omul_id (by omega) (by omega)]) <;> omega)]
      exact ih (i + 1) st' σ'' v5 hdr (by omega) hk' hs' h32' hh' (fun σ3 h3 => by
        have := hQ σ3 h3
        simp only [evR, he] at this
        exact this)
    have hrow : ∀ (j : Nat) (v : Int) (k : Nat), k ≠ t + 3 → upd2 σ' (t + 3) j v k = σ k := fun j v k h => by rw [upd2_row h]; exact hk k h
    by_cases h6 : -6 ≤ s
    · simp only [hgt, if_pos h6] at hh
      split at hh
      · rename_i hlt
        by_cases h0 : 0 ≤ s
        · refine b_X3_value_31 _ _ _ _ ?_
          simp only [k_X3_value_31, x_push, x_iload, x_lload, x_aload, x_bin, x_div, x_un, x_lbin, x_ldiv, x_lcmp, x_i2l, x_l2i, x_dup, x_pop, x_dup2, x_c1, x_c2, x_null, x_cat1, x_istore, x_astore, x_lstore, x_iinc, x_nol, x_tsw, xsw, x_lsw, xlsw, x_ret, x_zret, x_lret, x_aret, x_vret, x_getI, x_getL, x_getR, x_putI, x_putZ, x_putL, x_iaload, x_zaload, x_aaload, x_iastore, x_zastore, x_alen, x_mm, x_acopy, xpush, xJ, xK, x_cV0, x_cV1, x_cV2, x_cV3, x_cV4, x_cV5, x_cV6, x_cV7, x_cV8, x_cS1, x_cS2, x_cS3, x_cS4, x_cS5, List.getD_cons_zero, List.getD_cons_succ, List.set_cons_zero, List.set_cons_succ, List.length_cons, List.length_nil, Nat.zero_add, true_and, and_true, List.getD_nil, not_true, not_false_eq_true, Int.toNat_natCast, false_implies, true_implies, if_true, if_false, Int.toNat_zero, Int.toNat_one, true_or, or_true, Int.reduceEq, Int.reduceLT, Int.reduceLE, Int.reduceNe, Int.reduceNeg, Int.reduceAdd, Int.reduceSub, Int.reduceMul, Int.reduceToNat, Nat.reduceLT, Nat.reduceLeDiff, Nat.reduceAdd, Nat.reduceEqDiff, Nat.reduceSub, not_false_iff, and_self, implies_true, false_and, and_false, or_self, false_or, or_false, Int.cast_ofNat_Int, Int.natCast_nonneg, ST.f0 hT, ST.f1 hT, ST.f2 hT, ST.f3 hT, ST.f4 hT, ST.l4 hT, ST.a4 hT, ST.e4 hT, ST.f5 hT, ST.l5 hT, ST.a5 hT, ST.e5 hT, ST.f6 hT, ST.l6 hT, ST.a6 hT, ST.e6 hT, e2, hhi, e1, es, cE, eq_false (show ¬ (s < -6) by omega), eq_false (show ¬ ((32 : Int) ≤ (st.length : Int)) by omega), eq_false (show ¬ (s < 0) by omega)]
          with_reducible (repeat' (first | apply And.intro | intro _))
          all_goals (try ((first | (with_reducible show (_ : Int) < _) | (with_reducible show (_ : Int) ≤ _)); omega))
          refine go (s :: st) _ _ _ (show oadd (st.length : Int) 1 = ((st.length + 1 : Nat) : Int) by (first | rw [oadd_id (by omega) (by omega)] | rw [osub_id (by omega) (by omega)] | rw [omul_id (by omega) (by omega)]) <;> omega) (hrow _ _) ?_ hlt hh (by unfold ev1; rw [if_pos h6, if_pos h0])
          rw [upd2_self]
          exact ⟨if_pos rfl, SR_upd hs (Nat.le_refl _)⟩
        · refine b_X3_value_31 _ _ _ _ ?_
          simp only [k_X3_value_31, x_push, x_iload, x_lload, x_aload, x_bin, x_div, x_un, x_lbin, x_ldiv, x_lcmp, x_i2l, x_l2i, x_dup, x_pop, x_dup2, x_c1, x_c2, x_null, x_cat1, x_istore, x_astore, x_lstore, x_iinc, x_nol, x_tsw, xsw, x_lsw, xlsw, x_ret, x_zret, x_lret, x_aret, x_vret, x_getI, x_getL, x_getR, x_putI, x_putZ, x_putL, x_iaload, x_zaload, x_aaload, x_iastore, x_zastore, x_alen, x_mm, x_acopy, xpush, xJ, xK, x_cV0, x_cV1, x_cV2, x_cV3, x_cV4, x_cV5, x_cV6, x_cV7, x_cV8, x_cS1, x_cS2, x_cS3, x_cS4, x_cS5, List.getD_cons_zero, List.getD_cons_succ, List.set_cons_zero, List.set_cons_succ, List.length_cons, List.length_nil, Nat.zero_add, true_and, and_true, List.getD_nil, not_true, not_false_eq_true, Int.toNat_natCast, false_implies, true_implies, if_true, if_false, Int.toNat_zero, Int.toNat_one, true_or, or_true, Int.reduceEq, Int.reduceLT, Int.reduceLE, Int.reduceNe, Int.reduceNeg, Int.reduceAdd, Int.reduceSub, Int.reduceMul, Int.reduceToNat, Nat.reduceLT, Nat.reduceLeDiff, Nat.reduceAdd, Nat.reduceEqDiff, Nat.reduceSub, not_false_iff, and_self, implies_true, false_and, and_false, or_self, false_or, or_false, Int.cast_ofNat_Int, Int.natCast_nonneg, ST.f0 hT, ST.f1 hT, ST.f2 hT, ST.f3 hT, ST.f4 hT, ST.l4 hT, ST.a4 hT, ST.e4 hT, ST.f5 hT, ST.l5 hT, ST.a5 hT, ST.e5 hT, ST.f6 hT, ST.l6 hT, ST.a6 hT, ST.e6 hT, e2, hhi, e1, es, (show osub (-1) s = -1 - s by (first | rw [oadd_id (by omega) (by omega)] | rw [osub_id (by omega) (by omega)] | rw [omul_id (by omega) (by omega)]) <;> omega), gArr_of hnm, gLen_of hnm, hkN, cE, eq_false (show ¬ (s < -6) by omega), eq_false (show ¬ ((32 : Int) ≤ (st.length : Int)) by omega), eq_true (show s < 0 by omega)]
          with_reducible (repeat' (first | apply And.intro | intro _))
          all_goals (try ((first | (with_reducible show (_ : Int) < _) | (with_reducible show (_ : Int) ≤ _)); omega))
          refine go (N (-1 - s).toNat :: st) _ _ _ (show oadd (st.length : Int) 1 = ((st.length + 1 : Nat) : Int) by (first | rw [oadd_id (by omega) (by omega)] | rw [osub_id (by omega) (by omega)] | rw [omul_id (by omega) (by omega)]) <;> omega) (hrow _ _) ?_ hlt hh (by unfold ev1; rw [if_pos h6, if_neg h0])
          rw [upd2_self]
          exact ⟨if_pos rfl, SR_upd hs (Nat.le_refl _)⟩
      · cases hh
    · by_cases hu : s = -12 ∨ s = -18
      · simp only [hgt, if_neg h6, if_pos hu] at hh
        split at hh
        · rename_i h1
          cases st with
          | nil => exact absurd h1 (by decide)
          | cons a st =>
            simp only [List.length_cons] at h32 hh go ⊢
            have ha : σ' (t + 3) st.length = a := hs.1
            have hev : ev1 N s (a :: st) = eUn s a :: st := by
              unfold ev1
              rw [if_neg h6, if_pos hu]
            have h109 : xR M_X3_value (d + 2) (0, 0) 109 [vr t, vi p, vr nm, vi (st.length + 1 : Nat), vi (lo + i : Nat), vi s] [] (Γ, σ') Q := by
              refine b_X3_value_109 _ _ _ _ ?_
              simp only [k_X3_value_109, x_push, x_iload, x_lload, x_aload, x_bin, x_div, x_un, x_lbin, x_ldiv, x_lcmp, x_i2l, x_l2i, x_dup, x_pop, x_dup2, x_c1, x_c2, x_null, x_cat1, x_istore, x_astore, x_lstore, x_iinc, x_nol, x_tsw, xsw, x_lsw, xlsw, x_ret, x_zret, x_lret, x_aret, x_vret, x_getI, x_getL, x_getR, x_putI, x_putZ, x_putL, x_iaload, x_zaload, x_aaload, x_iastore, x_zastore, x_alen, x_mm, x_acopy, xpush, xJ, xK, x_cV0, x_cV1, x_cV2, x_cV3, x_cV4, x_cV5, x_cV6, x_cV7, x_cV8, x_cS1, x_cS2, x_cS3, x_cS4, x_cS5, List.getD_cons_zero, List.getD_cons_succ, List.set_cons_zero, List.set_cons_succ, List.length_cons, List.length_nil, Nat.zero_add, true_and, and_true, List.getD_nil, not_true, not_false_eq_true, Int.toNat_natCast, false_implies, true_implies, if_true, if_false, Int.toNat_zero, Int.toNat_one, true_or, or_true, Int.reduceEq, Int.reduceLT, Int.reduceLE, Int.reduceNe, Int.reduceNeg, Int.reduceAdd, Int.reduceSub, Int.reduceMul, Int.reduceToNat, Nat.reduceLT, Nat.reduceLeDiff, Nat.reduceAdd, Nat.reduceEqDiff, Nat.reduceSub, not_false_iff, and_self, implies_true, false_and, and_false, or_self, false_or, or_false, Int.cast_ofNat_Int, Int.natCast_nonneg, ST.f0 hT, ST.f1 hT, ST.f2 hT, ST.f3 hT, ST.f4 hT, ST.l4 hT, ST.a4 hT, ST.e4 hT, ST.f5 hT, ST.l5 hT, ST.a5 hT, ST.e5 hT, ST.f6 hT, ST.l6 hT, ST.a6 hT, ST.e6 hT, (show osub ((st.length + 1 : Nat) : Int) 1 = (st.length : Int) by (first | rw [oadd_id (by omega) (by omega)] | rw [osub_id (by omega) (by omega)] | rw [omul_id (by omega) (by omega)]) <;> omega), ha, eq_false (show ¬ (((st.length + 1 : Nat) : Int) < 1) by omega)]
              with_reducible (repeat' (first | apply And.intro | intro _))
              all_goals (try ((first | (with_reducible show (_ : Int) < _) | (with_reducible show (_ : Int) ≤ _)); omega))
              · refine go (eUn s a :: st) _ _ _ rfl (hrow _ _) ?_ h32 hh hev
                rw [upd2_self]
                exact ⟨by simp only [eUn, if_true]; rw [if_neg (by assumption), if_neg (by assumption)], SR_upd hs.2 (Nat.le_refl _)⟩
              · refine go (eUn s a :: st) _ _ _ rfl (hrow _ _) ?_ h32 hh hev
                rw [upd2_self]
                exact ⟨by simp only [eUn, if_true]; rw [if_neg (by assumption), if_pos (by omega)], SR_upd hs.2 (Nat.le_refl _)⟩
              · refine go (eUn s a :: st) _ _ _ rfl (hrow _ _) ?_ h32 hh hev
                rw [upd2_self]
                exact ⟨by simp only [eUn, if_true]; rw [if_pos (by omega)], SR_upd hs.2 (Nat.le_refl _)⟩
            refine b_X3_value_31 _ _ _ _ ?_
            rcases hu with rfl | rfl
            · simp only [k_X3_value_31, x_push, x_iload, x_lload, x_aload, x_bin, x_div, x_un, x_lbin, x_ldiv, x_lcmp, x_i2l, x_l2i, x_dup, x_pop, x_dup2, x_c1, x_c2, x_null, x_cat1, x_istore, x_astore, x_lstore, x_iinc, x_nol, x_tsw, xsw, x_lsw, xlsw, x_ret, x_zret, x_lret, x_aret, x_vret, x_getI, x_getL, x_getR, x_putI, x_putZ, x_putL, x_iaload, x_zaload, x_aaload, x_iastore, x_zastore, x_alen, x_mm, x_acopy, xpush, xJ, xK, x_cV0, x_cV1, x_cV2, x_cV3, x_cV4, x_cV5, x_cV6, x_cV7, x_cV8, x_cS1, x_cS2, x_cS3, x_cS4, x_cS5, List.getD_cons_zero, List.getD_cons_succ, List.set_cons_zero, List.set_cons_succ, List.length_cons, List.length_nil, Nat.zero_add, true_and, and_true, List.getD_nil, not_true, not_false_eq_true, Int.toNat_natCast, false_implies, true_implies, if_true, if_false, Int.toNat_zero, Int.toNat_one, true_or, or_true, Int.reduceEq, Int.reduceLT, Int.reduceLE, Int.reduceNe, Int.reduceNeg, Int.reduceAdd, Int.reduceSub, Int.reduceMul, Int.reduceToNat, Nat.reduceLT, Nat.reduceLeDiff, Nat.reduceAdd, Nat.reduceEqDiff, Nat.reduceSub, not_false_iff, and_self, implies_true, false_and, and_false, or_self, false_or, or_false, Int.cast_ofNat_Int, Int.natCast_nonneg, ST.f0 hT, ST.f1 hT, ST.f2 hT, ST.f3 hT, ST.f4 hT, ST.l4 hT, ST.a4 hT, ST.e4 hT, ST.f5 hT, ST.l5 hT, ST.a5 hT, ST.e5 hT, ST.f6 hT, ST.l6 hT, ST.a6 hT, ST.e6 hT, e2, hhi, e1, es, cE]
              with_reducible (repeat' (first | apply And.intro | intro _))
              all_goals (try ((first | (with_reducible show (_ : Int) < _) | (with_reducible show (_ : Int) ≤ _)); omega))
              exact h109
            · simp only [k_X3_value_31, x_push, x_iload, x_lload, x_aload, x_bin, x_div, x_un, x_lbin, x_ldiv, x_lcmp, x_i2l, x_l2i, x_dup, x_pop, x_dup2, x_c1, x_c2, x_null, x_cat1, x_istore, x_astore, x_lstore, x_iinc, x_nol, x_tsw, xsw, x_lsw, xlsw, x_ret, x_zret, x_lret, x_aret, x_vret, x_getI, x_getL, x_getR, x_putI, x_putZ, x_putL, x_iaload, x_zaload, x_aaload, x_iastore, x_zastore, x_alen, x_mm, x_acopy, xpush, xJ, xK, x_cV0, x_cV1, x_cV2, x_cV3, x_cV4, x_cV5, x_cV6, x_cV7, x_cV8, x_cS1, x_cS2, x_cS3, x_cS4, x_cS5, List.getD_cons_zero, List.getD_cons_succ, List.set_cons_zero, List.set_cons_succ, List.length_cons, List.length_nil, Nat.zero_add, true_and, and_true, List.getD_nil, not_true, not_false_eq_true, Int.toNat_natCast, false_implies, true_implies, if_true, if_false, Int.toNat_zero, Int.toNat_one, true_or, or_true, Int.reduceEq, Int.reduceLT, Int.reduceLE, Int.reduceNe, Int.reduceNeg, Int.reduceAdd, Int.reduceSub, Int.reduceMul, Int.reduceToNat, Nat.reduceLT, Nat.reduceLeDiff, Nat.reduceAdd, Nat.reduceEqDiff, Nat.reduceSub, not_false_iff, and_self, implies_true, false_and, and_false, or_self, false_or, or_false, Int.cast_ofNat_Int, Int.natCast_nonneg, ST.f0 hT, ST.f1 hT, ST.f2 hT, ST.f3 hT, ST.f4 hT, ST.l4 hT, ST.a4 hT, ST.e4 hT, ST.f5 hT, ST.l5 hT, ST.a5 hT, ST.e5 hT, ST.f6 hT, ST.l6 hT, ST.a6 hT, ST.e6 hT, e2, hhi, e1, es, cE]
              with_reducible (repeat' (first | apply And.intro | intro _))
              all_goals (try ((first | (with_reducible show (_ : Int) < _) | (with_reducible show (_ : Int) ≤ _)); omega))
              exact h109
        · cases hh
      · simp only [hgt, if_neg h6, if_neg hu] at hh
        split at hh
        · rename_i h1
          obtain ⟨y, x, st, rfl⟩ : ∃ (y x : Int) (st' : List Int), st = y :: x :: st' := by
            match st, h1 with
            | [], h1 => exact absurd h1 (by decide)
            | [_], h1 => exact absurd h1 (by simp)
            | y :: x :: st, h1 => exact ⟨y, x, st, rfl⟩
          · simp only [List.length_cons] at h32 hh go ⊢
            have hev : ev1 N s (y :: x :: st) = eOp s x y :: st := by
              unfold ev1
              rw [if_neg h6, if_neg hu]
            refine b_X3_value_31 _ _ _ _ ?_
            simp only [k_X3_value_31, x_push, x_iload, x_lload, x_aload, x_bin, x_div, x_un, x_lbin, x_ldiv, x_lcmp, x_i2l, x_l2i, x_dup, x_pop, x_dup2, x_c1, x_c2, x_null, x_cat1, x_istore, x_astore, x_lstore, x_iinc, x_nol, x_tsw, xsw, x_lsw, xlsw, x_ret, x_zret, x_lret, x_aret, x_vret, x_getI, x_getL, x_getR, x_putI, x_putZ, x_putL, x_iaload, x_zaload, x_aaload, x_iastore, x_zastore, x_alen, x_mm, x_acopy, xpush, xJ, xK, x_cV0, x_cV1, x_cV2, x_cV3, x_cV4, x_cV5, x_cV6, x_cV7, x_cV8, x_cS1, x_cS2, x_cS3, x_cS4, x_cS5, List.getD_cons_zero, List.getD_cons_succ, List.set_cons_zero, List.set_cons_succ, List.length_cons, List.length_nil, Nat.zero_add, true_and, and_true, List.getD_nil, not_true, not_false_eq_true, Int.toNat_natCast, false_implies, true_implies, if_true, if_false, Int.toNat_zero, Int.toNat_one, true_or, or_true, Int.reduceEq, Int.reduceLT, Int.reduceLE, Int.reduceNe, Int.reduceNeg, Int.reduceAdd, Int.reduceSub, Int.reduceMul, Int.reduceToNat, Nat.reduceLT, Nat.reduceLeDiff, Nat.reduceAdd, Nat.reduceEqDiff, Nat.reduceSub, not_false_iff, and_self, implies_true, false_and, and_false, or_self, false_or, or_false, Int.cast_ofNat_Int, Int.natCast_nonneg, ST.f0 hT, ST.f1 hT, ST.f2 hT, ST.f3 hT, ST.f4 hT, ST.l4 hT, ST.a4 hT, ST.e4 hT, ST.f5 hT, ST.l5 hT, ST.a5 hT, ST.e5 hT, ST.f6 hT, ST.l6 hT, ST.a6 hT, ST.e6 hT, e2, hhi, e1, es, (show osub ((st.length + 1 + 1 : Nat) : Int) 1 = ((st.length + 1 : Nat) : Int) by (first | rw [oadd_id (by omega) (by omega)] | rw [osub_id (by omega) (by omega)] | rw [omul_id (by omega) (by omega)]) <;> omega), (show osub ((st.length + 1 + 1 : Nat) : Int) 2 = (st.length : Int) by (first | rw [oadd_id (by omega) (by omega)] | rw [osub_id (by omega) (by omega)] | rw [omul_id (by omega) (by omega)]) <;> omega), (show σ' (t + 3) st.length = x from hs.2.1), (show σ' (t + 3) (st.length + 1) = y from hs.1), cE, eq_true (show s < -6 by omega), eq_false (show ¬ (s = -12) by omega), eq_false (show ¬ (s = -18) by omega), eq_false (show ¬ (((st.length + 1 + 1 : Nat) : Int) < 2) by omega)]
            with_reducible (repeat' (first | apply And.intro | intro _))
            all_goals (try ((first | (with_reducible show (_ : Int) < _) | (with_reducible show (_ : Int) ≤ _)); omega))
            refine c_joined (by omega) (by omega) (by omega) ?_
            refine ⟨⟨32, hT.2.2.2.2.2.2⟩, Int.natCast_nonneg _, by rw [ST.l6 hT]; show (st.length : Int) < ((32 : Nat) : Int); omega, ?_⟩
            show xR M_X3_value (d + 2) (0, 0) 31 [vr t, vi p, vr nm, vi (oadd ((st.length + 1 + 1 : Nat) : Int) (-1)), vi (oadd ((lo + i : Nat) : Int) 1), vi s] [] (Γ, upd2 σ' (t + 3) st.length (eOp s x y)) Q
            refine go (eOp s x y :: st) _ _ _ (show oadd ((st.length + 1 + 1 : Nat) : Int) (-1) = ((st.length + 1 : Nat) : Int) by (first | rw [oadd_id (by omega) (by omega)] | rw [osub_id (by omega) (by omega)] | rw [omul_id (by omega) (by omega)]) <;> omega) (hrow _ _) ?_ (by simp only [List.length_cons]; omega) (by simpa using hh) hev
            rw [upd2_self]
            exact ⟨if_pos rfl, SR_upd hs.2.2 (Nat.le_refl _)⟩
        · cases hh
set_option maxHeartbeats 4000000 in
theorem c_value {nm p lo : Nat} {C : List Int} (hT : ST Γ t) (hnm : gK Γ nm = some (.inr (.int, 6))) (hne : nm ≠ t + 3) (hp : p < 3) (hlo : if p = 0 then lo = 0 else σ (t + 2) (p - 1) = lo) (hhi : σ (t + 2) p = (lo + C.length : Nat)) (hC : ∀ (i : Nat) (v : Int), C[i]? = some v → σ (t + 1) (lo + i) = v) (h160 : lo + C.length ≤ 160) (hh : hgt C 0 = some 1)
    (hQ : ∀ σ', (∀ k, k ≠ t + 3 → σ' k = σ k) → Q (vi (ev (σ nm) C)) (Γ, σ')) : xRM M_X3_value (d + 2) (0, 0) [vr t, vi p, vr nm] (Γ, σ) Q := by
  refine xRM_of (by decide) (Nat.le_of_ble_eq_true rfl) ?_
  have key := fun v5 => c_value_loop (d := d) (Q := Q) (N := σ nm) hT hnm hp hhi hC h160 rfl hne C 0 [] σ v5 rfl (by omega) (fun _ _ => rfl) trivial (by decide) hh hQ
  refine b_X3_value_0 _ _ _ _ ?_
  show k_X3_value_0 (d + 1) Q (0, 0) [vr t, vi p, vr nm, vu, vu, vu] [] (Γ, σ)
  by_cases h0 : p = 0
  · rw [if_pos h0] at hlo
    subst h0 hlo
    simp only [k_X3_value_0, x_push, x_iload, x_lload, x_aload, x_bin, x_div, x_un, x_lbin, x_ldiv, x_lcmp, x_i2l, x_l2i, x_dup, x_pop, x_dup2, x_c1, x_c2, x_null, x_cat1, x_istore, x_astore, x_lstore, x_iinc, x_nol, x_tsw, xsw, x_lsw, xlsw, x_ret, x_zret, x_lret, x_aret, x_vret, x_getI, x_getL, x_getR, x_putI, x_putZ, x_putL, x_iaload, x_zaload, x_aaload, x_iastore, x_zastore, x_alen, x_mm, x_acopy, xpush, xJ, xK, x_cV0, x_cV1, x_cV2, x_cV3, x_cV4, x_cV5, x_cV6, x_cV7, x_cV8, x_cS1, x_cS2, x_cS3, x_cS4, x_cS5, List.getD_cons_zero, List.getD_cons_succ, List.set_cons_zero, List.set_cons_succ, List.length_cons, List.length_nil, Nat.zero_add, true_and, and_true, List.getD_nil, not_true, not_false_eq_true, Int.toNat_natCast, false_implies, true_implies, if_true, if_false, Int.toNat_zero, Int.toNat_one, true_or, or_true, Int.reduceEq, Int.reduceLT, Int.reduceLE, Int.reduceNe, Int.reduceNeg, Int.reduceAdd, Int.reduceSub, Int.reduceMul, Int.reduceToNat, Nat.reduceLT, Nat.reduceLeDiff, Nat.reduceAdd, Nat.reduceEqDiff, Nat.reduceSub, not_false_iff, and_self, implies_true, false_and, and_false, or_self, false_or, or_false, Int.cast_ofNat_Int, Int.natCast_nonneg, ST.f0 hT, ST.f1 hT, ST.f2 hT, ST.f3 hT, ST.f4 hT, ST.l4 hT, ST.a4 hT, ST.e4 hT, ST.f5 hT, ST.l5 hT, ST.a5 hT, ST.e5 hT, ST.f6 hT, ST.l6 hT, ST.a6 hT, ST.e6 hT]
    with_reducible (repeat' (first | apply And.intro | intro _))
    all_goals (try ((first | (with_reducible show (_ : Int) < _) | (with_reducible show (_ : Int) ≤ _)); omega))
    exact key vu
  · rw [if_neg h0] at hlo
    simp only [k_X3_value_0, x_push, x_iload, x_lload, x_aload, x_bin, x_div, x_un, x_lbin, x_ldiv, x_lcmp, x_i2l, x_l2i, x_dup, x_pop, x_dup2, x_c1, x_c2, x_null, x_cat1, x_istore, x_astore, x_lstore, x_iinc, x_nol, x_tsw, xsw, x_lsw, xlsw, x_ret, x_zret, x_lret, x_aret, x_vret, x_getI, x_getL, x_getR, x_putI, x_putZ, x_putL, x_iaload, x_zaload, x_aaload, x_iastore, x_zastore, x_alen, x_mm, x_acopy, xpush, xJ, xK, x_cV0, x_cV1, x_cV2, x_cV3, x_cV4, x_cV5, x_cV6, x_cV7, x_cV8, x_cS1, x_cS2, x_cS3, x_cS4, x_cS5, List.getD_cons_zero, List.getD_cons_succ, List.set_cons_zero, List.set_cons_succ, List.length_cons, List.length_nil, Nat.zero_add, true_and, and_true, List.getD_nil, not_true, not_false_eq_true, Int.toNat_natCast, false_implies, true_implies, if_true, if_false, Int.toNat_zero, Int.toNat_one, true_or, or_true, Int.reduceEq, Int.reduceLT, Int.reduceLE, Int.reduceNe, Int.reduceNeg, Int.reduceAdd, Int.reduceSub, Int.reduceMul, Int.reduceToNat, Nat.reduceLT, Nat.reduceLeDiff, Nat.reduceAdd, Nat.reduceEqDiff, Nat.reduceSub, not_false_iff, and_self, implies_true, false_and, and_false, or_self, false_or, or_false, Int.cast_ofNat_Int, Int.natCast_nonneg, ST.f0 hT, ST.f1 hT, ST.f2 hT, ST.f3 hT, ST.f4 hT, ST.l4 hT, ST.a4 hT, ST.e4 hT, ST.f5 hT, ST.l5 hT, ST.a5 hT, ST.e5 hT, ST.f6 hT, ST.l6 hT, ST.a6 hT, ST.e6 hT, (show osub (p : Int) 1 = ((p - 1 : Nat) : Int) by (first | rw [oadd_id (by omega) (by omega)] | rw [osub_id (by omega) (by omega)] | rw [omul_id (by omega) (by omega)]) <;> omega), hlo, eq_false (show ¬ ((p : Int) = 0) by omega), eq_false (show ¬ ((p : Int) < 0) by omega), eq_true (show (p : Int) < 3 by omega)]
    with_reducible (repeat' (first | apply And.intro | intro _))
    all_goals (try ((first | (with_reducible show (_ : Int) < _) | (with_reducible show (_ : Int) ≤ _)); omega))
    exact key vu
end Text
