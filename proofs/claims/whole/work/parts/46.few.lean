/-! ===== how few figures: bits, used sets ===== -/
def sBits (u : Nat) : Int := ((u % 2 + u / 2 % 2 + u / 4 % 2 + u / 8 % 2 + u / 16 % 2 + u / 32 % 2 : Nat) : Int)
def bt1 (a : Nat) : Nat := ((Int32.ofInt (a : Int) - (((Int32.ofInt (a : Int)).toUInt32 >>> ((Int32.ofInt 1).toUInt32 &&& Int32.toUInt32 31)).toInt32 &&& Int32.ofInt 1431655765)).toInt).toNat
theorem bt1_all : ∀ n : Fin 64, ((Int32.ofInt (n.val : Int) - (((Int32.ofInt (n.val : Int)).toUInt32 >>> ((Int32.ofInt 1).toUInt32 &&& Int32.toUInt32 31)).toInt32 &&& Int32.ofInt 1431655765)).toInt = (bt1 n.val : Int)) ∧ bt1 n.val < 64 := by decide +kernel
theorem bt1_o {a : Nat} (h : a < 64) : osub (a : Int) (oand (oushr (a : Int) 1) 1431655765) = (bt1 a : Int) := by
  have := (bt1_all ⟨a, h⟩).1
  simp only [oand_def, oushr_def, osub_def, oadd_def, Int32.ofInt_toInt]
  exact this
def bt2 (a : Nat) : Nat := (((Int32.ofInt (a : Int) &&& Int32.ofInt 858993459) + (((Int32.ofInt (a : Int)).toUInt32 >>> ((Int32.ofInt 2).toUInt32 &&& Int32.toUInt32 31)).toInt32 &&& Int32.ofInt 858993459)).toInt).toNat
theorem bt2_all : ∀ n : Fin 64, (((Int32.ofInt (n.val : Int) &&& Int32.ofInt 858993459) + (((Int32.ofInt (n.val : Int)).toUInt32 >>> ((Int32.ofInt 2).toUInt32 &&& Int32.toUInt32 31)).toInt32 &&& Int32.ofInt 858993459)).toInt = (bt2 n.val : Int)) ∧ bt2 n.val < 64 := by decide +kernel
theorem bt2_o {a : Nat} (h : a < 64) : oadd (oand (a : Int) 858993459) (oand (oushr (a : Int) 2) 858993459) = (bt2 a : Int) := by
  have := (bt2_all ⟨a, h⟩).1
  simp only [oand_def, oushr_def, osub_def, oadd_def, Int32.ofInt_toInt]
  exact this
def bt3 (a : Nat) : Nat := (((Int32.ofInt (a : Int) + ((Int32.ofInt (a : Int)).toUInt32 >>> ((Int32.ofInt 4).toUInt32 &&& Int32.toUInt32 31)).toInt32) &&& Int32.ofInt 252645135).toInt).toNat
theorem bt3_all : ∀ n : Fin 64, (((Int32.ofInt (n.val : Int) + ((Int32.ofInt (n.val : Int)).toUInt32 >>> ((Int32.ofInt 4).toUInt32 &&& Int32.toUInt32 31)).toInt32) &&& Int32.ofInt 252645135).toInt = (bt3 n.val : Int)) ∧ bt3 n.val < 64 := by decide +kernel
theorem bt3_o {a : Nat} (h : a < 64) : oand (oadd (a : Int) (oushr (a : Int) 4)) 252645135 = (bt3 a : Int) := by
  have := (bt3_all ⟨a, h⟩).1
  simp only [oand_def, oushr_def, osub_def, oadd_def, Int32.ofInt_toInt]
  exact this
def bt4 (a : Nat) : Nat := ((Int32.ofInt (a : Int) + ((Int32.ofInt (a : Int)).toUInt32 >>> ((Int32.ofInt 8).toUInt32 &&& Int32.toUInt32 31)).toInt32).toInt).toNat
theorem bt4_all : ∀ n : Fin 64, ((Int32.ofInt (n.val : Int) + ((Int32.ofInt (n.val : Int)).toUInt32 >>> ((Int32.ofInt 8).toUInt32 &&& Int32.toUInt32 31)).toInt32).toInt = (bt4 n.val : Int)) ∧ bt4 n.val < 64 := by decide +kernel
theorem bt4_o {a : Nat} (h : a < 64) : oadd (a : Int) (oushr (a : Int) 8) = (bt4 a : Int) := by
  have := (bt4_all ⟨a, h⟩).1
  simp only [oand_def, oushr_def, osub_def, oadd_def, Int32.ofInt_toInt]
  exact this
def bt5 (a : Nat) : Nat := ((Int32.ofInt (a : Int) + ((Int32.ofInt (a : Int)).toUInt32 >>> ((Int32.ofInt 16).toUInt32 &&& Int32.toUInt32 31)).toInt32).toInt).toNat
theorem bt5_all : ∀ n : Fin 64, ((Int32.ofInt (n.val : Int) + ((Int32.ofInt (n.val : Int)).toUInt32 >>> ((Int32.ofInt 16).toUInt32 &&& Int32.toUInt32 31)).toInt32).toInt = (bt5 n.val : Int)) ∧ bt5 n.val < 64 := by decide +kernel
theorem bt5_o {a : Nat} (h : a < 64) : oadd (a : Int) (oushr (a : Int) 16) = (bt5 a : Int) := by
  have := (bt5_all ⟨a, h⟩).1
  simp only [oand_def, oushr_def, osub_def, oadd_def, Int32.ofInt_toInt]
  exact this
def bt6 (a : Nat) : Nat := ((Int32.ofInt (a : Int) &&& Int32.ofInt 63).toInt).toNat
theorem bt6_all : ∀ n : Fin 64, ((Int32.ofInt (n.val : Int) &&& Int32.ofInt 63).toInt = (bt6 n.val : Int)) ∧ bt6 n.val < 64 := by decide +kernel
theorem bt6_o {a : Nat} (h : a < 64) : oand (a : Int) 63 = (bt6 a : Int) := by
  have := (bt6_all ⟨a, h⟩).1
  simp only [oand_def, oushr_def, osub_def, oadd_def, Int32.ofInt_toInt]
  exact this
theorem bt_bits : ∀ n : Fin 64, (bt6 (bt5 (bt4 (bt3 (bt2 (bt1 n.val))))) : Int) = sBits n.val := by decide +kernel
theorem oor_all : ∀ u : Fin 64, ∀ f : Fin 6, (Int32.ofInt (u.val : Int) ||| Int32.ofInt ((Int32.ofInt 1 <<< (Int32.ofInt (f.val : Int) &&& 31)).toInt)).toInt = ((u.val ||| 2 ^ f.val : Nat) : Int) := by decide +kernel
theorem or_lt : ∀ u : Fin 64, ∀ f : Fin 6, (u.val ||| 2 ^ f.val) < 64 ∧ sBits u.val ≤ sBits (u.val ||| 2 ^ f.val) := by decide +kernel
theorem bt_lt {a : Nat} (h : a < 64) : bt1 a < 64 ∧ bt2 a < 64 ∧ bt3 a < 64 ∧ bt4 a < 64 ∧ bt5 a < 64 := ⟨(bt1_all ⟨a, h⟩).2, (bt2_all ⟨a, h⟩).2, (bt3_all ⟨a, h⟩).2, (bt4_all ⟨a, h⟩).2, (bt5_all ⟨a, h⟩).2⟩
theorem bt_fin {u : Nat} (h : u < 64) : (bt6 (bt5 (bt4 (bt3 (bt2 (bt1 u))))) : Int) = sBits u := bt_bits ⟨u, h⟩
/-- the steps, as one: any six functions -/
theorem bt_step {u : Nat} (hu : u < 64) {P : Int → Prop} (h : P (sBits u)) : ∃ a b c e f : Nat, osub (u : Int) (oand (oushr (u : Int) 1) 1431655765) = (a : Int) ∧ oadd (oand (a : Int) 858993459) (oand (oushr (a : Int) 2) 858993459) = (b : Int) ∧ oand (oadd (b : Int) (oushr (b : Int) 4)) 252645135 = (c : Int) ∧ oadd (c : Int) (oushr (c : Int) 8) = (e : Int) ∧ oadd (e : Int) (oushr (e : Int) 16) = (f : Int) ∧ P (oand (f : Int) 63) := by
  have h1 := (bt_lt hu).1
  have h2 := (bt_lt h1).2.1
  have h3 := (bt_lt h2).2.2.1
  have h4 := (bt_lt h3).2.2.2.1
  have h5 := (bt_lt h4).2.2.2.2
  refine ⟨_, _, _, _, _, bt1_o hu, bt2_o h1, bt3_o h2, bt4_o h3, bt5_o h4, ?_⟩
  rw [bt6_o h5, bt_fin hu]
  exact h
section Few
variable {Γ : xSh} {σ : Nat → Nat → Int} {k mask d n nf nc : Nat} {Q : xV → xMem → Prop} {ct G jo ic : Nat → Nat → Int} {me : Nat → Int}
theorem oor_bit {u f : Nat} (hu : u < 64) (hf : f < 6) : oor (u : Int) (oshl 1 (f : Int)) = ((u ||| 2 ^ f : Nat) : Int) := by
  have := oor_all ⟨u, hu⟩ ⟨f, hf⟩
  rw [oor_def, oshl_def]
  exact this
theorem bsA {K : xP} {u a : Nat} {b : Nat × Nat} {μ : xMem} (e : osub (u : Int) (oand (oushr (u : Int) 1) 1431655765) = (a : Int)) (h : K b [vi a] [] μ) : (x_iload 0 <| x_iload 0 <| x_push (vi 1) <| x_bin oushr <| x_push (vi (1431655765)) <| x_bin oand <| x_bin osub <| x_istore 0 <| K) b [vi u] [] μ := by
  simp only [x_push, x_iload, x_lload, x_aload, x_bin, x_div, x_un, x_lbin, x_ldiv, x_lcmp, x_i2l, x_l2i, x_dup, x_pop, x_dup2, x_c1, x_c2, x_null, x_cat1, x_istore, x_astore, x_lstore, x_iinc, x_nol, x_tsw, xsw, x_lsw, xlsw, x_ret, x_zret, x_lret, x_aret, x_vret, x_getI, x_getL, x_getR, x_putI, x_putZ, x_putL, x_iaload, x_zaload, x_aaload, x_iastore, x_zastore, x_alen, x_mm, x_acopy, xpush, xJ, xK, x_cV0, x_cV1, x_cV2, x_cV3, x_cV4, x_cV5, x_cV6, x_cV7, x_cV8, x_cS1, x_cS2, x_cS3, x_cS4, x_cS5, List.getD_cons_zero, List.getD_cons_succ, List.set_cons_zero, List.set_cons_succ, List.length_cons, List.length_nil, Nat.zero_add, true_and, and_true, List.getD_nil, not_true, not_false_eq_true, Int.toNat_natCast, false_implies, true_implies, if_true, if_false, Int.toNat_zero, Int.toNat_one, true_or, or_true, Int.reduceEq, Int.reduceLT, Int.reduceLE, Int.reduceNe, Int.reduceNeg, Int.reduceAdd, Int.reduceSub, Int.reduceMul, Int.reduceToNat, Nat.reduceLT, Nat.reduceLeDiff, Nat.reduceAdd, Nat.reduceEqDiff, Nat.reduceSub, not_false_iff, and_self, implies_true, false_and, and_false, or_self, false_or, or_false, Int.cast_ofNat_Int, Int.natCast_nonneg]
  rw [e]
  exact h
theorem bsB {K : xP} {u a : Nat} {b : Nat × Nat} {μ : xMem} (e : oadd (oand (u : Int) 858993459) (oand (oushr (u : Int) 2) 858993459) = (a : Int)) (h : K b [vi a] [] μ) : (x_iload 0 <| x_push (vi (858993459)) <| x_bin oand <| x_iload 0 <| x_push (vi 2) <| x_bin oushr <| x_push (vi (858993459)) <| x_bin oand <| x_bin oadd <| x_istore 0 <| K) b [vi u] [] μ := by
  simp only [x_push, x_iload, x_lload, x_aload, x_bin, x_div, x_un, x_lbin, x_ldiv, x_lcmp, x_i2l, x_l2i, x_dup, x_pop, x_dup2, x_c1, x_c2, x_null, x_cat1, x_istore, x_astore, x_lstore, x_iinc, x_nol, x_tsw, xsw, x_lsw, xlsw, x_ret, x_zret, x_lret, x_aret, x_vret, x_getI, x_getL, x_getR, x_putI, x_putZ, x_putL, x_iaload, x_zaload, x_aaload, x_iastore, x_zastore, x_alen, x_mm, x_acopy, xpush, xJ, xK, x_cV0, x_cV1, x_cV2, x_cV3, x_cV4, x_cV5, x_cV6, x_cV7, x_cV8, x_cS1, x_cS2, x_cS3, x_cS4, x_cS5, List.getD_cons_zero, List.getD_cons_succ, List.set_cons_zero, List.set_cons_succ, List.length_cons, List.length_nil, Nat.zero_add, true_and, and_true, List.getD_nil, not_true, not_false_eq_true, Int.toNat_natCast, false_implies, true_implies, if_true, if_false, Int.toNat_zero, Int.toNat_one, true_or, or_true, Int.reduceEq, Int.reduceLT, Int.reduceLE, Int.reduceNe, Int.reduceNeg, Int.reduceAdd, Int.reduceSub, Int.reduceMul, Int.reduceToNat, Nat.reduceLT, Nat.reduceLeDiff, Nat.reduceAdd, Nat.reduceEqDiff, Nat.reduceSub, not_false_iff, and_self, implies_true, false_and, and_false, or_self, false_or, or_false, Int.cast_ofNat_Int, Int.natCast_nonneg]
  rw [e]
  exact h
theorem bsC {K : xP} {u a : Nat} {b : Nat × Nat} {μ : xMem} (e : oand (oadd (u : Int) (oushr (u : Int) 4)) 252645135 = (a : Int)) (h : K b [vi a] [] μ) : (x_iload 0 <| x_iload 0 <| x_push (vi 4) <| x_bin oushr <| x_bin oadd <| x_push (vi (252645135)) <| x_bin oand <| x_istore 0 <| K) b [vi u] [] μ := by
  simp only [x_push, x_iload, x_lload, x_aload, x_bin, x_div, x_un, x_lbin, x_ldiv, x_lcmp, x_i2l, x_l2i, x_dup, x_pop, x_dup2, x_c1, x_c2, x_null, x_cat1, x_istore, x_astore, x_lstore, x_iinc, x_nol, x_tsw, xsw, x_lsw, xlsw, x_ret, x_zret, x_lret, x_aret, x_vret, x_getI, x_getL, x_getR, x_putI, x_putZ, x_putL, x_iaload, x_zaload, x_aaload, x_iastore, x_zastore, x_alen, x_mm, x_acopy, xpush, xJ, xK, x_cV0, x_cV1, x_cV2, x_cV3, x_cV4, x_cV5, x_cV6, x_cV7, x_cV8, x_cS1, x_cS2, x_cS3, x_cS4, x_cS5, List.getD_cons_zero, List.getD_cons_succ, List.set_cons_zero, List.set_cons_succ, List.length_cons, List.length_nil, Nat.zero_add, true_and, and_true, List.getD_nil, not_true, not_false_eq_true, Int.toNat_natCast, false_implies, true_implies, if_true, if_false, Int.toNat_zero, Int.toNat_one, true_or, or_true, Int.reduceEq, Int.reduceLT, Int.reduceLE, Int.reduceNe, Int.reduceNeg, Int.reduceAdd, Int.reduceSub, Int.reduceMul, Int.reduceToNat, Nat.reduceLT, Nat.reduceLeDiff, Nat.reduceAdd, Nat.reduceEqDiff, Nat.reduceSub, not_false_iff, and_self, implies_true, false_and, and_false, or_self, false_or, or_false, Int.cast_ofNat_Int, Int.natCast_nonneg]
  rw [e]
  exact h
theorem bsD {K : xP} {u a : Nat} {b : Nat × Nat} {μ : xMem} (e : oadd (u : Int) (oushr (u : Int) 8) = (a : Int)) (h : K b [vi a] [] μ) : (x_iload 0 <| x_iload 0 <| x_push (vi 8) <| x_bin oushr <| x_bin oadd <| x_istore 0 <| K) b [vi u] [] μ := by
  simp only [x_push, x_iload, x_lload, x_aload, x_bin, x_div, x_un, x_lbin, x_ldiv, x_lcmp, x_i2l, x_l2i, x_dup, x_pop, x_dup2, x_c1, x_c2, x_null, x_cat1, x_istore, x_astore, x_lstore, x_iinc, x_nol, x_tsw, xsw, x_lsw, xlsw, x_ret, x_zret, x_lret, x_aret, x_vret, x_getI, x_getL, x_getR, x_putI, x_putZ, x_putL, x_iaload, x_zaload, x_aaload, x_iastore, x_zastore, x_alen, x_mm, x_acopy, xpush, xJ, xK, x_cV0, x_cV1, x_cV2, x_cV3, x_cV4, x_cV5, x_cV6, x_cV7, x_cV8, x_cS1, x_cS2, x_cS3, x_cS4, x_cS5, List.getD_cons_zero, List.getD_cons_succ, List.set_cons_zero, List.set_cons_succ, List.length_cons, List.length_nil, Nat.zero_add, true_and, and_true, List.getD_nil, not_true, not_false_eq_true, Int.toNat_natCast, false_implies, true_implies, if_true, if_false, Int.toNat_zero, Int.toNat_one, true_or, or_true, Int.reduceEq, Int.reduceLT, Int.reduceLE, Int.reduceNe, Int.reduceNeg, Int.reduceAdd, Int.reduceSub, Int.reduceMul, Int.reduceToNat, Nat.reduceLT, Nat.reduceLeDiff, Nat.reduceAdd, Nat.reduceEqDiff, Nat.reduceSub, not_false_iff, and_self, implies_true, false_and, and_false, or_self, false_or, or_false, Int.cast_ofNat_Int, Int.natCast_nonneg]
  rw [e]
  exact h
theorem bsE {K : xP} {u a : Nat} {b : Nat × Nat} {μ : xMem} (e : oadd (u : Int) (oushr (u : Int) 16) = (a : Int)) (h : K b [vi a] [] μ) : (x_iload 0 <| x_iload 0 <| x_push (vi 16) <| x_bin oushr <| x_bin oadd <| x_istore 0 <| K) b [vi u] [] μ := by
  simp only [x_push, x_iload, x_lload, x_aload, x_bin, x_div, x_un, x_lbin, x_ldiv, x_lcmp, x_i2l, x_l2i, x_dup, x_pop, x_dup2, x_c1, x_c2, x_null, x_cat1, x_istore, x_astore, x_lstore, x_iinc, x_nol, x_tsw, xsw, x_lsw, xlsw, x_ret, x_zret, x_lret, x_aret, x_vret, x_getI, x_getL, x_getR, x_putI, x_putZ, x_putL, x_iaload, x_zaload, x_aaload, x_iastore, x_zastore, x_alen, x_mm, x_acopy, xpush, xJ, xK, x_cV0, x_cV1, x_cV2, x_cV3, x_cV4, x_cV5, x_cV6, x_cV7, x_cV8, x_cS1, x_cS2, x_cS3, x_cS4, x_cS5, List.getD_cons_zero, List.getD_cons_succ, List.set_cons_zero, List.set_cons_succ, List.length_cons, List.length_nil, Nat.zero_add, true_and, and_true, List.getD_nil, not_true, not_false_eq_true, Int.toNat_natCast, false_implies, true_implies, if_true, if_false, Int.toNat_zero, Int.toNat_one, true_or, or_true, Int.reduceEq, Int.reduceLT, Int.reduceLE, Int.reduceNe, Int.reduceNeg, Int.reduceAdd, Int.reduceSub, Int.reduceMul, Int.reduceToNat, Nat.reduceLT, Nat.reduceLeDiff, Nat.reduceAdd, Nat.reduceEqDiff, Nat.reduceSub, not_false_iff, and_self, implies_true, false_and, and_false, or_self, false_or, or_false, Int.cast_ofNat_Int, Int.natCast_nonneg]
  rw [e]
  exact h
theorem bitCount_k {u : Nat} {μ : xMem} (hu : u < 64) (hQ : Q (vi (sBits u)) μ) : k_J6_bitCount_0f7a4_0 d Q (0, 0) [vi u] [] μ := by
  obtain ⟨a, b, c, e, f, e1, e2, e3, e4, e5, hP⟩ := bt_step hu (P := fun x => Q (vi x) μ) hQ
  unfold k_J6_bitCount_0f7a4_0
  refine bsA e1 ?_
  refine bsB e2 ?_
  refine bsC e3 ?_
  refine bsD e4 ?_
  refine bsE e5 ?_
  simp only [x_push, x_iload, x_lload, x_aload, x_bin, x_div, x_un, x_lbin, x_ldiv, x_lcmp, x_i2l, x_l2i, x_dup, x_pop, x_dup2, x_c1, x_c2, x_null, x_cat1, x_istore, x_astore, x_lstore, x_iinc, x_nol, x_tsw, xsw, x_lsw, xlsw, x_ret, x_zret, x_lret, x_aret, x_vret, x_getI, x_getL, x_getR, x_putI, x_putZ, x_putL, x_iaload, x_zaload, x_aaload, x_iastore, x_zastore, x_alen, x_mm, x_acopy, xpush, xJ, xK, x_cV0, x_cV1, x_cV2, x_cV3, x_cV4, x_cV5, x_cV6, x_cV7, x_cV8, x_cS1, x_cS2, x_cS3, x_cS4, x_cS5, List.getD_cons_zero, List.getD_cons_succ, List.set_cons_zero, List.set_cons_succ, List.length_cons, List.length_nil, Nat.zero_add, true_and, and_true, List.getD_nil, not_true, not_false_eq_true, Int.toNat_natCast, false_implies, true_implies, if_true, if_false, Int.toNat_zero, Int.toNat_one, true_or, or_true, Int.reduceEq, Int.reduceLT, Int.reduceLE, Int.reduceNe, Int.reduceNeg, Int.reduceAdd, Int.reduceSub, Int.reduceMul, Int.reduceToNat, Nat.reduceLT, Nat.reduceLeDiff, Nat.reduceAdd, Nat.reduceEqDiff, Nat.reduceSub, not_false_iff, and_self, implies_true, false_and, and_false, or_self, false_or, or_false, Int.cast_ofNat_Int, Int.natCast_nonneg]
  exact hP
theorem c_bitCount {u : Nat} {μ : xMem} (hu : u < 64) (hQ : Q (vi (sBits u)) μ) : xRM M_J6_bitCount_0f7a4 (d + 1) (0, 0) [vi u] μ Q := by
  refine xRM_of (by decide) (Nat.le_of_ble_eq_true rfl) ?_
  refine b_J6_bitCount_0f7a4_0 _ _ _ _ ?_
  exact bitCount_k hu hQ
end Few
/-- the better of two sets: fewer, of like ones the less -/
def sBet (a u : Nat) : Nat := if sBits u < sBits a ∨ (sBits u = sBits a ∧ u < a) then u else a
/-- the figures of a showing, with those used before -/
def sUse : Nat → List Int → Nat
  | u, [] => u
  | u, x :: s => sUse (if x < 0 then u else u ||| 2 ^ x.toNat) s
def fStep (G : Nat → Nat → Int) (best : Int) (c u : Nat) (sum : Int) (acc : Nat) (s : List Int) : Nat := if best ≤ sum + sV G c s then sBet acc (sUse u s) else acc
theorem sUse_ge {nf : Nat} (hnf : nf ≤ 6) {ct : Nat → Nat → Int} : ∀ (m c : Nat) (left : Nat → Int) (u : Nat), u < 64 → ∀ s ∈ sAll ct nf m c left, sUse u s < 64 ∧ sBits u ≤ sBits (sUse u s)
  | 0, c, left, u, hu, s, hs => by
    simp only [sAll, List.mem_singleton] at hs
    subst hs
    exact ⟨hu, Int.le_refl _⟩
  | m + 1, c, left, u, hu, s, hs => by
    simp only [sAll, List.mem_append, List.mem_map, List.mem_flatMap, List.mem_range] at hs
    rcases hs with ⟨s', hs', rfl⟩ | ⟨f, hf, hs⟩
    · have ih := sUse_ge hnf m (c + 1) left u hu s' hs'
      simp only [sUse]
      rw [if_pos (by decide)]
      exact ih
    · split at hs
      · obtain ⟨s', hs', rfl⟩ := List.mem_map.mp hs
        have h1 := or_lt ⟨u, hu⟩ ⟨f, by omega⟩
        have ih := sUse_ge hnf m (c + 1) _ (u ||| 2 ^ f) h1.1 s' hs'
        simp only [sUse]
        rw [if_neg (by omega), Int.toNat_natCast]
        exact ⟨ih.1, Int.le_trans h1.2 ih.2⟩
      · cases hs
theorem ffold_noop {G : Nat → Nat → Int} {best sum : Int} {c u acc : Nat} : ∀ {L : List (List Int)}, (∀ s ∈ L, sum + sV G c s < best ∨ sBits acc < sBits (sUse u s)) → L.foldl (fStep G best c u sum) acc = acc
  | [], _ => rfl
  | s :: L, h => by
    have h1 := h s List.mem_cons_self
    have e : fStep G best c u sum acc s = acc := by
      unfold fStep sBet
      split
      · rcases h1 with h1 | h1
        · omega
        · rw [if_neg (by omega)]
      · rfl
    rw [List.foldl_cons, e]
    exact ffold_noop (fun z hz => h z (List.mem_cons_of_mem _ hz))
theorem ffold_fog {G : Nat → Nat → Int} {best sum : Int} {c u : Nat} : ∀ (L : List (List Int)) (acc : Nat), (L.map (fun s => (-1 : Int) :: s)).foldl (fStep G best c u sum) acc = L.foldl (fStep G best (c + 1) u sum) acc
  | [], _ => rfl
  | s :: L, acc => by
    rw [List.map_cons, List.foldl_cons, List.foldl_cons, ffold_fog L]
    congr 1
    unfold fStep
    simp [sV, sUse]
theorem ffold_fig {G : Nat → Nat → Int} {best sum : Int} {c u f : Nat} : ∀ (L : List (List Int)) (acc : Nat), (L.map (fun s => (f : Int) :: s)).foldl (fStep G best c u sum) acc = L.foldl (fStep G best (c + 1) (u ||| 2 ^ f) (sum + G c f)) acc
  | [], _ => rfl
  | s :: L, acc => by
    rw [List.map_cons, List.foldl_cons, List.foldl_cons, ffold_fig L]
    congr 1
    unfold fStep
    have e : sV G c ((f : Int) :: s) = G c f + sV G (c + 1) s := by
      simp only [sV]
      rw [if_neg (by omega), Int.toNat_natCast]
    have e2 : sUse u ((f : Int) :: s) = sUse (u ||| 2 ^ f) s := by
      simp only [sUse]
      rw [if_neg (by omega), Int.toNat_natCast]
    rw [e, e2, ← Int.add_assoc]
def fPart (ct G : Nat → Nat → Int) (best : Int) (nf m c : Nat) (left : Nat → Int) (u : Nat) (sum : Int) (acc : Nat) : Nat → Nat
  | 0 => acc
  | f + 1 => if ct c f ≠ -1 ∧ ct c f ≤ left f then (sAll ct nf m (c + 1) (updf left f (left f - ct c f))).foldl (fStep G best (c + 1) (u ||| 2 ^ f) (sum + G c f)) (fPart ct G best nf m c left u sum acc f) else fPart ct G best nf m c left u sum acc f
theorem fPart_eq {ct G : Nat → Nat → Int} {best : Int} {nf m c : Nat} {left : Nat → Int} {u : Nat} {sum : Int} {acc : Nat} : ∀ n, ((List.range n).flatMap (fun f => if ct c f ≠ -1 ∧ ct c f ≤ left f then (sAll ct nf m (c + 1) (updf left f (left f - ct c f))).map (fun s => (f : Int) :: s) else [])).foldl (fStep G best c u sum) acc = fPart ct G best nf m c left u sum acc n
  | 0 => rfl
  | n + 1 => by
    rw [List.range_succ, List.flatMap_append, List.foldl_append, fPart_eq n]
    simp only [List.flatMap_cons, List.flatMap_nil, List.append_nil, fPart]
    split
    · rw [ffold_fig]
    · rfl
theorem fAll_fold {ct G : Nat → Nat → Int} {best : Int} {nf m c : Nat} {left : Nat → Int} {u : Nat} {sum : Int} {acc : Nat} : (sAll ct nf (m + 1) c left).foldl (fStep G best c u sum) acc = fPart ct G best nf m c left u sum ((sAll ct nf m (c + 1) left).foldl (fStep G best (c + 1) u sum) acc) nf := by
  simp only [sAll]
  rw [List.foldl_append, ffold_fog, fPart_eq]
