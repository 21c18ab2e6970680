/-! ===== the state at the start; the model is made ===== -/
def S0b : List Int := [112, 114, 105, 99, 101, 115, 32, 53, 32, 59, 32, 106, 111, 121, 115, 32, 49, 48, 32, 59, 32, 112, 97, 121, 115, 32, 119, 105, 115, 104, 101, 100, 32, 42, 32, 56, 32, 59, 32, 32]
def S0f : Nat → Int := fun j => S0b.getD j 0
def S0A : Nat → Nat → Int := fun a i => if a = 0 ∧ i = 0 then 1 else 0
def S0 : xSt := ((0, 0, S0A), (1, fun _ => (40, S0f)), (0, fun _ => 0), (false, 0, 0, fun _ _ => 0), fun _ => (-1, 0, fun _ => 0))
theorem S0_text : pText (sTx S0f 40) = .inr ([5], [10], [-4, 8, -17]) := by decide +kernel
theorem S0_text38 : pText (sTx S0f 38) = .inr ([5], [10], [-4, 8, -17]) := by decide +kernel
theorem S0_bytes : ∀ j : Fin 40, 0 ≤ S0f j.val ∧ S0f j.val ≤ 255 := by decide +kernel
theorem S0_ok : SOK S0 := by
  refine ⟨⟨by decide, by decide, by decide, by decide, fun f hf => absurd hf (Nat.not_lt_zero f), fun f hf => absurd hf (Nat.not_lt_zero f)⟩, by decide, by decide, fun i hi => absurd hi (Nat.not_lt_zero i), fun i _ => ⟨by show 40 ≤ 160; decide, fun j hj => S0_bytes ⟨j, hj⟩, _, S0_text⟩, fun h => absurd h (by decide), fun i _ => ?_⟩
  show (-1 ≤ (-1 : Int) ∧ (-1 : Int) ≤ 2) ∧ 0 ≤ 40
  decide
abbrev KL6 : List (Nat × oKd) := [(0, .inl 6)] ++ [(1, .inr (.int, 960))] ++ [(2, .inr (.int, 6))] ++ [(3, .inr (.int, 160))] ++ [(4, .inr (.int, 6))] ++ [(5, .inr (.int, 18))] ++ [(6, .inr (.int, 10))] ++ [(7, .inr (.int, 30))] ++ [(8, .inr (.int, 30))] ++ [(9, .inr (.int, 30))] ++ [(10, .inr (.boolean, 30))] ++ [(11, .inr (.int, 6))] ++ [(12, .inr (.int, 6))] ++ [(13, .inr (.int, 6))] ++ [(14, .inr (.int, 18))] ++ [(15, .inr (.int, 10))] ++ [(16, .inr (.boolean, 4))] ++ [(17, .inr (.int, 4))] ++ [(18, .inr (.int, 4))] ++ [(19, .inr (.int, 160))]
abbrev FL6 : List (Nat × Nat × Nat) := [] ++ [(0, 1, 1)] ++ [(0, 2, 2)] ++ [(0, 5, 3)] ++ [(0, 8, 4)] ++ [(0, 9, 5)] ++ [(0, 11, 6)] ++ [(0, 28, 7)] ++ [(0, 29, 8)] ++ [(0, 30, 9)] ++ [(0, 31, 10)] ++ [(0, 32, 11)] ++ [(0, 40, 12)] ++ [(0, 41, 13)] ++ [(0, 42, 14)] ++ [(0, 43, 15)] ++ [(0, 48, 16)] ++ [(0, 49, 17)] ++ [(0, 50, 18)] ++ [(0, 51, 19)]
theorem SM_of {μ0 μ : xMem} {m t : Nat} {r : Nat → Int} (h : PO μ0 m t r KL6 FL6 μ) : SM μ.1 m :=
  ⟨h.k (o := 0) (kd := .inl 6) (kIn_mem (by decide +kernel)),
   h.fe (o := 0) (j := 1) (x := 1) (by decide +kernel),
   h.fe (o := 0) (j := 2) (x := 2) (by decide +kernel),
   h.fe (o := 0) (j := 5) (x := 3) (by decide +kernel),
   h.fe (o := 0) (j := 8) (x := 4) (by decide +kernel),
   h.fe (o := 0) (j := 9) (x := 5) (by decide +kernel),
   h.fe (o := 0) (j := 11) (x := 6) (by decide +kernel),
   h.fe (o := 0) (j := 28) (x := 7) (by decide +kernel),
   h.fe (o := 0) (j := 29) (x := 8) (by decide +kernel),
   h.fe (o := 0) (j := 30) (x := 9) (by decide +kernel),
   h.fe (o := 0) (j := 31) (x := 10) (by decide +kernel),
   h.fe (o := 0) (j := 32) (x := 11) (by decide +kernel),
   h.fe (o := 0) (j := 40) (x := 12) (by decide +kernel),
   h.fe (o := 0) (j := 41) (x := 13) (by decide +kernel),
   h.fe (o := 0) (j := 42) (x := 14) (by decide +kernel),
   h.fe (o := 0) (j := 43) (x := 15) (by decide +kernel),
   h.fe (o := 0) (j := 48) (x := 16) (by decide +kernel),
   h.fe (o := 0) (j := 49) (x := 17) (by decide +kernel),
   h.fe (o := 0) (j := 50) (x := 18) (by decide +kernel),
   h.fe (o := 0) (j := 51) (x := 19) (by decide +kernel),
   h.k (o := 1) (kd := .inr (.int, 960)) (kIn_mem (by decide +kernel)),
   h.k (o := 2) (kd := .inr (.int, 6)) (kIn_mem (by decide +kernel)),
   h.k (o := 3) (kd := .inr (.int, 160)) (kIn_mem (by decide +kernel)),
   h.k (o := 4) (kd := .inr (.int, 6)) (kIn_mem (by decide +kernel)),
   h.k (o := 5) (kd := .inr (.int, 18)) (kIn_mem (by decide +kernel)),
   h.k (o := 6) (kd := .inr (.int, 10)) (kIn_mem (by decide +kernel)),
   h.k (o := 7) (kd := .inr (.int, 30)) (kIn_mem (by decide +kernel)),
   h.k (o := 8) (kd := .inr (.int, 30)) (kIn_mem (by decide +kernel)),
   h.k (o := 9) (kd := .inr (.int, 30)) (kIn_mem (by decide +kernel)),
   h.k (o := 10) (kd := .inr (.boolean, 30)) (kIn_mem (by decide +kernel)),
   h.k (o := 11) (kd := .inr (.int, 6)) (kIn_mem (by decide +kernel)),
   h.k (o := 12) (kd := .inr (.int, 6)) (kIn_mem (by decide +kernel)),
   h.k (o := 13) (kd := .inr (.int, 6)) (kIn_mem (by decide +kernel)),
   h.k (o := 14) (kd := .inr (.int, 18)) (kIn_mem (by decide +kernel)),
   h.k (o := 15) (kd := .inr (.int, 10)) (kIn_mem (by decide +kernel)),
   h.k (o := 16) (kd := .inr (.boolean, 4)) (kIn_mem (by decide +kernel)),
   h.k (o := 17) (kd := .inr (.int, 4)) (kIn_mem (by decide +kernel)),
   h.k (o := 18) (kd := .inr (.int, 4)) (kIn_mem (by decide +kernel)),
   h.k (o := 19) (kd := .inr (.int, 160)) (kIn_mem (by decide +kernel))⟩
set_option maxHeartbeats 4000000 in
theorem m_spell {Γ : xSh} {σ : Nat → Nat → Int} {m a d : Nat} {x0 x1 x2 x3 x4 x5 x6 x7 : Int} {Q : xV → xMem → Prop} (hM : SM Γ m) (ha : a + 8 ≤ 960) (hQ : ∀ σ', (∀ k, k ≠ m + 1 → σ' k = σ k) → (∀ j, σ' (m + 1) j = if a ≤ j ∧ j < a + 8 then [x0, x1, x2, x3, x4, x5, x6, x7].getD (j - a) 0 else σ (m + 1) j) → Q vu (Γ, σ')) : xRM M_X6_spell (d + 1) (0, 0) [vr m, vi (a : Int), vi x0, vi x1, vi x2, vi x3, vi x4, vi x5, vi x6, vi x7] (Γ, σ) Q := by
  refine xRM_of (by decide) (Nat.le_of_ble_eq_true rfl) ?_
  refine b_X6_spell_0 _ _ _ _ ?_
  show k_X6_spell_0 d Q (0, 0) [vr m, vi (a : Int), vi x0, vi x1, vi x2, vi x3, vi x4, vi x5, vi x6, vi x7] [] (Γ, σ)
  dsimp only [k_X6_spell_0, x_push, x_iload, x_lload, x_aload, x_bin, x_div, x_un, x_lbin, x_ldiv, x_lcmp, x_i2l, x_l2i, x_dup, x_pop, x_dup2, x_c1, x_c2, x_null, x_cat1, x_istore, x_astore, x_lstore, x_iinc, x_nol, x_tsw, xsw, x_lsw, xlsw, x_ret, x_zret, x_lret, x_aret, x_vret, x_getI, x_getL, x_getR, x_putI, x_putZ, x_putL, x_iaload, x_zaload, x_aaload, x_iastore, x_zastore, x_alen, x_mm, x_acopy, xpush, xJ, xK, x_cV0, x_cV1, x_cV2, x_cV3, x_cV4, x_cV5, x_cV6, x_cV7, x_cV8, x_cS1, x_cS2, x_cS3, x_cS4, x_cS5, List.getD_cons_zero, List.getD_cons_succ, List.set_cons_zero, List.set_cons_succ]
  simp only [x_push, x_iload, x_lload, x_aload, x_bin, x_div, x_un, x_lbin, x_ldiv, x_lcmp, x_i2l, x_l2i, x_dup, x_pop, x_dup2, x_c1, x_c2, x_null, x_cat1, x_istore, x_astore, x_lstore, x_iinc, x_nol, x_tsw, xsw, x_lsw, xlsw, x_ret, x_zret, x_lret, x_aret, x_vret, x_getI, x_getL, x_getR, x_putI, x_putZ, x_putL, x_iaload, x_zaload, x_aaload, x_iastore, x_zastore, x_alen, x_mm, x_acopy, xpush, xJ, xK, x_cV0, x_cV1, x_cV2, x_cV3, x_cV4, x_cV5, x_cV6, x_cV7, x_cV8, x_cS1, x_cS2, x_cS3, x_cS4, x_cS5, List.getD_cons_zero, List.getD_cons_succ, List.set_cons_zero, List.set_cons_succ, List.length_cons, List.length_nil, Nat.zero_add, true_and, and_true, List.getD_nil, not_true, not_false_eq_true, Int.toNat_natCast, false_implies, true_implies, if_true, if_false, Int.toNat_zero, Int.toNat_one, true_or, or_true, Int.reduceEq, Int.reduceLT, Int.reduceLE, Int.reduceNe, Int.reduceNeg, Int.reduceAdd, Int.reduceSub, Int.reduceMul, Int.reduceToNat, Nat.reduceLT, Nat.reduceLeDiff, Nat.reduceAdd, Nat.reduceEqDiff, Nat.reduceSub, not_false_iff, and_self, implies_true, false_and, and_false, or_self, false_or, or_false, Int.cast_ofNat_Int, Int.natCast_nonneg, SM.f0 hM, SM.f1 hM, SM.f2 hM, SM.f3 hM, SM.f4 hM, SM.f5 hM, SM.f6 hM, SM.f7 hM, SM.f8 hM, SM.f9 hM, SM.f10 hM, SM.f11 hM, SM.f12 hM, SM.f13 hM, SM.f14 hM, SM.f15 hM, SM.f16 hM, SM.f17 hM, SM.f18 hM, SM.f19 hM, SM.f20 hM, SM.l20 hM, SM.a20 hM, SM.e20 hM, SM.f21 hM, SM.l21 hM, SM.a21 hM, SM.e21 hM, SM.f22 hM, SM.l22 hM, SM.a22 hM, SM.e22 hM, SM.f23 hM, SM.l23 hM, SM.a23 hM, SM.e23 hM, SM.f24 hM, SM.l24 hM, SM.a24 hM, SM.e24 hM, SM.f25 hM, SM.l25 hM, SM.a25 hM, SM.e25 hM, SM.f26 hM, SM.l26 hM, SM.a26 hM, SM.e26 hM, SM.f27 hM, SM.l27 hM, SM.a27 hM, SM.e27 hM, SM.f28 hM, SM.l28 hM, SM.a28 hM, SM.e28 hM, SM.f29 hM, SM.l29 hM, SM.a29 hM, SM.e29 hM, SM.f30 hM, SM.l30 hM, SM.a30 hM, SM.e30 hM, SM.f31 hM, SM.l31 hM, SM.a31 hM, SM.e31 hM, SM.f32 hM, SM.l32 hM, SM.a32 hM, SM.e32 hM, SM.f33 hM, SM.l33 hM, SM.a33 hM, SM.e33 hM, SM.f34 hM, SM.l34 hM, SM.a34 hM, SM.e34 hM, SM.f35 hM, SM.l35 hM, SM.a35 hM, SM.e35 hM, SM.f36 hM, SM.l36 hM, SM.a36 hM, SM.e36 hM, SM.f37 hM, SM.l37 hM, SM.a37 hM, SM.e37 hM, SM.f38 hM, SM.l38 hM, SM.a38 hM, SM.e38 hM, (show oadd (a : Int) 1 = ((a + 1 : Nat) : Int) by (first | rw [oadd_id (by omega) (by omega)] | rw [osub_id (by omega) (by omega)] | rw [omul_id (by omega) (by omega)]) <;> omega), eq_true (show ((a + 1 : Nat) : Int) < 960 by omega), (show oadd (a : Int) 2 = ((a + 2 : Nat) : Int) by (first | rw [oadd_id (by omega) (by omega)] | rw [osub_id (by omega) (by omega)] | rw [omul_id (by omega) (by omega)]) <;> omega), eq_true (show ((a + 2 : Nat) : Int) < 960 by omega), (show oadd (a : Int) 3 = ((a + 3 : Nat) : Int) by (first | rw [oadd_id (by omega) (by omega)] | rw [osub_id (by omega) (by omega)] | rw [omul_id (by omega) (by omega)]) <;> omega), eq_true (show ((a + 3 : Nat) : Int) < 960 by omega), (show oadd (a : Int) 4 = ((a + 4 : Nat) : Int) by (first | rw [oadd_id (by omega) (by omega)] | rw [osub_id (by omega) (by omega)] | rw [omul_id (by omega) (by omega)]) <;> omega), eq_true (show ((a + 4 : Nat) : Int) < 960 by omega), (show oadd (a : Int) 5 = ((a + 5 : Nat) : Int) by (first | rw [oadd_id (by omega) (by omega)] | rw [osub_id (by omega) (by omega)] | rw [omul_id (by omega) (by omega)]) <;> omega), eq_true (show ((a + 5 : Nat) : Int) < 960 by omega), (show oadd (a : Int) 6 = ((a + 6 : Nat) : Int) by (first | rw [oadd_id (by omega) (by omega)] | rw [osub_id (by omega) (by omega)] | rw [omul_id (by omega) (by omega)]) <;> omega), eq_true (show ((a + 6 : Nat) : Int) < 960 by omega), (show oadd (a : Int) 7 = ((a + 7 : Nat) : Int) by (first | rw [oadd_id (by omega) (by omega)] | rw [osub_id (by omega) (by omega)] | rw [omul_id (by omega) (by omega)]) <;> omega), eq_true (show ((a + 7 : Nat) : Int) < 960 by omega)]
  refine ⟨by omega, ?_⟩
  refine hQ _ (fun k hk => ?_) (fun j => ?_)
  · rw [upd2_row hk, upd2_row hk, upd2_row hk, upd2_row hk, upd2_row hk, upd2_row hk, upd2_row hk, upd2_row hk]
  · by_cases e : a ≤ j ∧ j < a + 8
    · obtain ⟨i, rfl⟩ : ∃ i, j = a + i := ⟨j - a, by omega⟩
      rw [if_pos e, Nat.add_sub_cancel_left]
      have hi : i = 0 ∨ i = 1 ∨ i = 2 ∨ i = 3 ∨ i = 4 ∨ i = 5 ∨ i = 6 ∨ i = 7 := by omega
      rcases hi with rfl | rfl | rfl | rfl | rfl | rfl | rfl | rfl <;> simp [upd2]
    · rw [if_neg e]
      simp only [upd2_at]
      rw [if_neg (by omega), if_neg (by omega), if_neg (by omega), if_neg (by omega), if_neg (by omega), if_neg (by omega), if_neg (by omega), if_neg (by omega)]
set_option maxHeartbeats 4000000 in
set_option maxRecDepth 10000 in
theorem i_model {μ : xMem} {n d : Nat} {Q : xV → xMem → Prop} (hn : gN μ.1 = n + 1) (hk : gK μ.1 n = some (.inl 6)) (h0 : μ.2 n = fun _ => 0) (hQ : ∀ μ', Gx n μ μ' → SM μ'.1 n → MVa μ'.2 n S0 → Q vu μ') : xRM M_X6_init (d + 2) BUD_X6_init [vr n] μ Q := by
  refine xRM_of (by decide) (Nat.le_of_ble_eq_true rfl) ?_
  refine b_X6_init_0 _ _ _ _ ?_
  show k_X6_init_0 (d + 1) Q (19, 1498) [vr n] [] μ
  unfold k_X6_init_0
  refine bo ?_
  refine bk (PO.rf hn hk) (kIn_mem (by decide +kernel)) (by decide +kernel) (by decide) (fun μ1 h1 => ?_)
  refine bk h1 (kIn_mem (by decide +kernel)) (by decide +kernel) (by decide) (fun μ2 h2 => ?_)
  refine bk h2 (kIn_mem (by decide +kernel)) (by decide +kernel) (by decide) (fun μ3 h3 => ?_)
  refine bi h3 (kIn_mem (by decide +kernel)) (fun μ4 h4 => ?_)
  refine bk h4 (kIn_mem (by decide +kernel)) (by decide +kernel) (by decide) (fun μ5 h5 => ?_)
  refine bk h5 (kIn_mem (by decide +kernel)) (by decide +kernel) (by decide) (fun μ6 h6 => ?_)
  refine bk h6 (kIn_mem (by decide +kernel)) (by decide +kernel) (by decide) (fun μ7 h7 => ?_)
  refine bk h7 (kIn_mem (by decide +kernel)) (by decide +kernel) (by decide) (fun μ8 h8 => ?_)
  refine bk h8 (kIn_mem (by decide +kernel)) (by decide +kernel) (by decide) (fun μ9 h9 => ?_)
  refine bk h9 (kIn_mem (by decide +kernel)) (by decide +kernel) (by decide) (fun μ10 h10 => ?_)
  refine bk h10 (kIn_mem (by decide +kernel)) (by decide +kernel) (by decide) (fun μ11 h11 => ?_)
  refine bk h11 (kIn_mem (by decide +kernel)) (by decide +kernel) (by decide) (fun μ12 h12 => ?_)
  refine bk h12 (kIn_mem (by decide +kernel)) (by decide +kernel) (by decide) (fun μ13 h13 => ?_)
  refine bk h13 (kIn_mem (by decide +kernel)) (by decide +kernel) (by decide) (fun μ14 h14 => ?_)
  refine bk h14 (kIn_mem (by decide +kernel)) (by decide +kernel) (by decide) (fun μ15 h15 => ?_)
  refine bk h15 (kIn_mem (by decide +kernel)) (by decide +kernel) (by decide) (fun μ16 h16 => ?_)
  refine bi h16 (kIn_mem (by decide +kernel)) (fun μ17 h17 => ?_)
  refine bk h17 (kIn_mem (by decide +kernel)) (by decide +kernel) (by decide) (fun μ18 h18 => ?_)
  refine bk h18 (kIn_mem (by decide +kernel)) (by decide +kernel) (by decide) (fun μ19 h19 => ?_)
  refine bk h19 (kIn_mem (by decide +kernel)) (by decide +kernel) (by decide) (fun μ20 h20 => ?_)
  refine bk h20 (kIn_mem (by decide +kernel)) (by decide +kernel) (by decide) (fun μ21 h21 => ?_)
  obtain ⟨Γ, σ⟩ := μ21
  have hP : PO μ n 20 (fun j => if j = 44 then -1 else if j = 7 then 1 else μ.2 n j) KL6 FL6 (Γ, σ) := h21
  have hS : SM Γ n := SM_of hP
  obtain ⟨-, -, gx, -, -, hr, hz⟩ := hP
  have hr : σ n = fun j => if j = 44 then -1 else if j = 7 then 1 else μ.2 n j := hr
  have hz : ∀ k, 1 ≤ k → k < 20 → σ (n + k) = fun _ => 0 := hz
  refine ⟨Nat.zero_le _, hS.f0, m_spell (a := 0) hS (by decide) (fun σ1 e1 g1 => ?_)⟩
  refine ⟨Nat.zero_le _, hS.f0, m_spell (a := 8) hS (by decide) (fun σ2 e2 g2 => ?_)⟩
  refine ⟨Nat.zero_le _, hS.f0, m_spell (a := 16) hS (by decide) (fun σ3 e3 g3 => ?_)⟩
  refine ⟨Nat.zero_le _, hS.f0, m_spell (a := 24) hS (by decide) (fun σ4 e4 g4 => ?_)⟩
  refine ⟨Nat.zero_le _, hS.f0, m_spell (a := 32) hS (by decide) (fun σ5 e5 g5 => ?_)⟩
  simp only [xK, xpush, x_push, x_iload, x_lload, x_aload, x_bin, x_div, x_un, x_lbin, x_ldiv, x_lcmp, x_i2l, x_l2i, x_dup, x_pop, x_dup2, x_c1, x_c2, x_null, x_cat1, x_istore, x_astore, x_lstore, x_iinc, x_nol, x_tsw, xsw, x_lsw, xlsw, x_ret, x_zret, x_lret, x_aret, x_vret, x_getI, x_getL, x_getR, x_putI, x_putZ, x_putL, x_iaload, x_zaload, x_aaload, x_iastore, x_zastore, x_alen, x_mm, x_acopy, xpush, xJ, xK, x_cV0, x_cV1, x_cV2, x_cV3, x_cV4, x_cV5, x_cV6, x_cV7, x_cV8, x_cS1, x_cS2, x_cS3, x_cS4, x_cS5, List.getD_cons_zero, List.getD_cons_succ, List.set_cons_zero, List.set_cons_succ, List.length_cons, List.length_nil, Nat.zero_add, true_and, and_true, List.getD_nil, not_true, not_false_eq_true, Int.toNat_natCast, false_implies, true_implies, if_true, if_false, Int.toNat_zero, Int.toNat_one, true_or, or_true, Int.reduceEq, Int.reduceLT, Int.reduceLE, Int.reduceNe, Int.reduceNeg, Int.reduceAdd, Int.reduceSub, Int.reduceMul, Int.reduceToNat, Nat.reduceLT, Nat.reduceLeDiff, Nat.reduceAdd, Nat.reduceEqDiff, Nat.reduceSub, not_false_iff, and_self, implies_true, false_and, and_false, or_self, false_or, or_false, Int.cast_ofNat_Int, Int.natCast_nonneg, SM.f0 hS, SM.f1 hS, SM.f2 hS, SM.f3 hS, SM.f4 hS, SM.f5 hS, SM.f6 hS, SM.f7 hS, SM.f8 hS, SM.f9 hS, SM.f10 hS, SM.f11 hS, SM.f12 hS, SM.f13 hS, SM.f14 hS, SM.f15 hS, SM.f16 hS, SM.f17 hS, SM.f18 hS, SM.f19 hS, SM.f20 hS, SM.l20 hS, SM.a20 hS, SM.e20 hS, SM.f21 hS, SM.l21 hS, SM.a21 hS, SM.e21 hS, SM.f22 hS, SM.l22 hS, SM.a22 hS, SM.e22 hS, SM.f23 hS, SM.l23 hS, SM.a23 hS, SM.e23 hS, SM.f24 hS, SM.l24 hS, SM.a24 hS, SM.e24 hS, SM.f25 hS, SM.l25 hS, SM.a25 hS, SM.e25 hS, SM.f26 hS, SM.l26 hS, SM.a26 hS, SM.e26 hS, SM.f27 hS, SM.l27 hS, SM.a27 hS, SM.e27 hS, SM.f28 hS, SM.l28 hS, SM.a28 hS, SM.e28 hS, SM.f29 hS, SM.l29 hS, SM.a29 hS, SM.e29 hS, SM.f30 hS, SM.l30 hS, SM.a30 hS, SM.e30 hS, SM.f31 hS, SM.l31 hS, SM.a31 hS, SM.e31 hS, SM.f32 hS, SM.l32 hS, SM.a32 hS, SM.e32 hS, SM.f33 hS, SM.l33 hS, SM.a33 hS, SM.e33 hS, SM.f34 hS, SM.l34 hS, SM.a34 hS, SM.e34 hS, SM.f35 hS, SM.l35 hS, SM.a35 hS, SM.e35 hS, SM.f36 hS, SM.l36 hS, SM.a36 hS, SM.e36 hS, SM.f37 hS, SM.l37 hS, SM.a37 hS, SM.e37 hS, SM.f38 hS, SM.l38 hS, SM.a38 hS, SM.e38 hS]
  have row : ∀ j, upd2 (upd2 σ5 (n + 2) 0 40) n 3 1 n j = if j = 3 then 1 else if j = 44 then -1 else if j = 7 then 1 else 0 := fun j => by
    rw [upd2_at]
    by_cases e : j = 3
    · rw [if_pos ⟨rfl, e⟩, if_pos e]
    · rw [if_neg (fun z => e z.2), if_neg e, upd2_row (show n ≠ n + 2 by omega), e5 n (by omega), e4 n (by omega), e3 n (by omega), e2 n (by omega), e1 n (by omega), hr, h0]
  have oth : ∀ k, 3 ≤ k → k < 20 → upd2 (upd2 σ5 (n + 2) 0 40) n 3 1 (n + k) = fun _ => 0 := fun k a b => by
    rw [upd2_row (by omega), upd2_row (by omega), e5 _ (by omega), e4 _ (by omega), e3 _ (by omega), e2 _ (by omega), e1 _ (by omega)]
    exact hz k (by omega) b
  have txt : ∀ j, j < 40 → upd2 (upd2 σ5 (n + 2) 0 40) n 3 1 (n + 1) j = S0f j := fun j hj => by
    rw [upd2_row (by omega), upd2_row (by omega)]
    have hj' : j = 0 ∨ j = 1 ∨ j = 2 ∨ j = 3 ∨ j = 4 ∨ j = 5 ∨ j = 6 ∨ j = 7 ∨ j = 8 ∨ j = 9 ∨ j = 10 ∨ j = 11 ∨ j = 12 ∨ j = 13 ∨ j = 14 ∨ j = 15 ∨ j = 16 ∨ j = 17 ∨ j = 18 ∨ j = 19 ∨ j = 20 ∨ j = 21 ∨ j = 22 ∨ j = 23 ∨ j = 24 ∨ j = 25 ∨ j = 26 ∨ j = 27 ∨ j = 28 ∨ j = 29 ∨ j = 30 ∨ j = 31 ∨ j = 32 ∨ j = 33 ∨ j = 34 ∨ j = 35 ∨ j = 36 ∨ j = 37 ∨ j = 38 ∨ j = 39 := by omega
    rcases hj' with rfl | rfl | rfl | rfl | rfl | rfl | rfl | rfl | rfl | rfl | rfl | rfl | rfl | rfl | rfl | rfl | rfl | rfl | rfl | rfl | rfl | rfl | rfl | rfl | rfl | rfl | rfl | rfl | rfl | rfl | rfl | rfl | rfl | rfl | rfl | rfl | rfl | rfl | rfl | rfl <;> (simp only [g5, g4, g3, g2, g1]; rfl)
  refine hQ _ ⟨gx.1, fun k a => ⟨(gx.2 k a).1, (gx.2 k a).2.1, ?_⟩⟩ hS ⟨⟨?_, ?_, ?_, ?_, fun f hf => absurd hf (Nat.not_lt_zero f), fun f hf => absurd hf (Nat.not_lt_zero f)⟩, ⟨?_, by decide, fun i hi => ?_⟩, ⟨?_, fun i hi => absurd hi (Nat.not_lt_zero i)⟩, ⟨fun z => absurd z (by decide), fun _ => ?_⟩, fun i _ => ⟨fun _ => ?_, fun z => absurd rfl z⟩⟩
  · show upd2 (upd2 σ5 (n + 2) 0 40) n 3 1 k = μ.2 k
    rw [upd2_row (by omega), upd2_row (by omega), e5 _ (by omega), e4 _ (by omega), e3 _ (by omega), e2 _ (by omega), e1 _ (by omega)]
    exact (gx.2 k a).2.2
  · exact (row _).trans rfl
  · exact (row _).trans rfl
  · exact (row _).trans rfl
  · exact (row _).trans rfl
  · exact (row _).trans rfl
  · have hi : i = 0 := by
      have : i < 1 := hi
      omega
    subst hi
    refine ⟨by show 40 ≤ 160; decide, ?_, fun j hj => ?_, fun j hj => S0_bytes ⟨j, hj⟩, _, S0_text⟩
    · show upd2 (upd2 σ5 (n + 2) 0 40) n 3 1 (n + 2) 0 = 40
      rw [upd2_row (by omega), upd2_eq]
    · rw [Nat.mul_zero, Nat.zero_add]
      exact txt j hj
  · exact (row _).trans rfl
  · exact (row _).trans rfl
  · show upd2 (upd2 σ5 (n + 2) 0 40) n 3 1 (n + 16) i = 0
    rw [oth 16 (by omega) (by omega)]
