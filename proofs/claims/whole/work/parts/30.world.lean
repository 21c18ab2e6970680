/-! ===== World ===== -/
/-- how many of n clients wish for f -/
def sAsked (wish : Nat → Int) (f : Nat) : Nat → Int
  | 0 => 0
  | n + 1 => sAsked wish f n + xbit (wish n) f
theorem sAsked_le (wish : Nat → Int) (f : Nat) : ∀ n, 0 ≤ sAsked wish f n ∧ sAsked wish f n ≤ n
  | 0 => ⟨by simp [sAsked], by simp [sAsked]⟩
  | n + 1 => by
    have ih := sAsked_le wish f n
    have h := xbit_01 (wish n) f
    simp only [sAsked]
    omega
set_option maxHeartbeats 4000000 in
theorem c_asked {Γ : xSh} {σ : Nat → Nat → Int} {w tx d n : Nat} {f : Int} {Q : xV → xMem → Prop} (hS : SW Γ w tx) (hn : σ w 4 = n) (hn5 : n ≤ 5) (hf0 : 0 ≤ f) (hf : f < 32) (hQ : Q (vi (sAsked (σ (w + 6)) f.toNat n)) (Γ, σ)) : xRM M_X4_asked (d + 1) (0, 0) [vr w, vi f] (Γ, σ) Q := by
  refine xRM_of (by decide) (Nat.le_of_ble_eq_true rfl) (xR_wf fun hwf => ?_)
  have loop : ∀ (k c : Nat), c + k = n → xR M_X4_asked (d + 1) (0, 0) 4 [vr w, vi f, vi (sAsked (σ (w + 6)) f.toNat c), vi c] [] (Γ, σ) Q := by
    intro k
    induction k with
    | zero =>
      intro c hc
      have hc : c = n := by omega
      subst hc
      refine b_X4_asked_4 _ _ _ _ ?_
      simp only [k_X4_asked_4, x_push, x_iload, x_lload, x_aload, x_bin, x_div, x_un, x_lbin, x_ldiv, x_lcmp, x_i2l, x_l2i, x_dup, x_pop, x_dup2, x_c1, x_c2, x_null, x_cat1, x_istore, x_astore, x_lstore, x_iinc, x_nol, x_tsw, xsw, x_lsw, xlsw, x_ret, x_zret, x_lret, x_aret, x_vret, x_getI, x_getL, x_getR, x_putI, x_putZ, x_putL, x_iaload, x_zaload, x_aaload, x_iastore, x_zastore, x_alen, x_acopy, xpush, x_cV0, x_cV1, x_cV2, x_cV3, x_cV4, x_cV5, x_cV6, x_cV7, x_cV8, x_cS1, x_cS2, x_cS3, x_cS4, x_cS5, List.getD_cons_zero, List.getD_cons_succ, List.set_cons_zero, List.set_cons_succ, List.length_cons, List.length_nil, Nat.zero_add, true_and, and_true, List.getD_nil, not_true, not_false_eq_true, SW.f0 hS, SW.f1 hS, SW.f2 hS, SW.f3 hS, SW.f4 hS, SW.f5 hS, SW.f6 hS, SW.f7 hS, SW.f8 hS, SW.f9 hS, SW.l9 hS, SW.a9 hS, SW.f10 hS, SW.l10 hS, SW.a10 hS, SW.f11 hS, SW.l11 hS, SW.a11 hS, SW.f12 hS, SW.l12 hS, SW.a12 hS, SW.f13 hS, SW.l13 hS, SW.a13 hS, SW.f14 hS, SW.l14 hS, SW.a14 hS, SW.f15 hS, SW.l15 hS, SW.a15 hS, hn]
      exact ⟨fun _ => hQ, fun h => absurd (Int.le_refl _) h⟩
    | succ k ih =>
      intro c hc
      refine b_X4_asked_4 _ _ _ _ ?_
      simp only [k_X4_asked_4, x_push, x_iload, x_lload, x_aload, x_bin, x_div, x_un, x_lbin, x_ldiv, x_lcmp, x_i2l, x_l2i, x_dup, x_pop, x_dup2, x_c1, x_c2, x_null, x_cat1, x_istore, x_astore, x_lstore, x_iinc, x_nol, x_tsw, xsw, x_lsw, xlsw, x_ret, x_zret, x_lret, x_aret, x_vret, x_getI, x_getL, x_getR, x_putI, x_putZ, x_putL, x_iaload, x_zaload, x_aaload, x_iastore, x_zastore, x_alen, x_acopy, xpush, x_cV0, x_cV1, x_cV2, x_cV3, x_cV4, x_cV5, x_cV6, x_cV7, x_cV8, x_cS1, x_cS2, x_cS3, x_cS4, x_cS5, List.getD_cons_zero, List.getD_cons_succ, List.set_cons_zero, List.set_cons_succ, List.length_cons, List.length_nil, Nat.zero_add, true_and, and_true, List.getD_nil, not_true, not_false_eq_true, SW.f0 hS, SW.f1 hS, SW.f2 hS, SW.f3 hS, SW.f4 hS, SW.f5 hS, SW.f6 hS, SW.f7 hS, SW.f8 hS, SW.f9 hS, SW.l9 hS, SW.a9 hS, SW.f10 hS, SW.l10 hS, SW.a10 hS, SW.f11 hS, SW.l11 hS, SW.a11 hS, SW.f12 hS, SW.l12 hS, SW.a12 hS, SW.f13 hS, SW.l13 hS, SW.a13 hS, SW.f14 hS, SW.l14 hS, SW.a14 hS, SW.f15 hS, SW.l15 hS, SW.a15 hS, hn]
      refine ⟨fun h => by omega, fun _ => ⟨by omega, by omega, ?_⟩⟩
      done
  done
