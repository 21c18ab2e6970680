/-! ===== the law's calls, one by one: printed by wip/whole/gen/law.py ===== -/
section Law
variable {Γ : xSh} {σ : Nat → Nat → Int} {μ : xMem} {c m i e : Nat} {S : xSt} {b : Nat × Nat} {st ls : List xV} {K : xP} {Q : xV → xMem → Prop}
theorem al1 (h : K b [vo 0, vr c, vr m, vi (i : Int)] (vr c :: st) μ) : (x_aload 1 K) b [vo 0, vr c, vr m, vi (i : Int)] st μ := h
theorem al2 (h : K b [vo 0, vr c, vr m, vi (i : Int)] (vr m :: st) μ) : (x_aload 2 K) b [vo 0, vr c, vr m, vi (i : Int)] st μ := h
theorem arg1 {σ1 : Nat → Nat → Int} {k : Nat} {z : Int} (hz : z = (k : Int)) (hi : i + k < (gS Γ).1) (hn : (gS Γ).1 ≤ 3072) (h : K b [vo 0, vr c, vr m, vi (i : Int)] (vi ((gS Γ).2 (i + k)).toInt :: st) (Γ, σ1)) : (x_aload 0 <| x_iload 3 <| x_push (vi z) <| x_bin oadd <| x_ialoadL <| K) b [vo 0, vr c, vr m, vi (i : Int)] st (Γ, σ1) := by
  subst hz
  show 0 ≤ oadd (i : Int) (k : Int) ∧ oadd (i : Int) (k : Int) < ((gS Γ).1 : Int) ∧ K b [vo 0, vr c, vr m, vi (i : Int)] (vi ((gS Γ).2 (oadd (i : Int) (k : Int)).toNat).toInt :: st) (Γ, σ1)
  rw [(show oadd (i : Int) (k : Int) = ((i + k : Nat) : Int) by (first | rw [oadd_id (by omega) (by omega)] | rw [osub_id (by omega) (by omega)] | rw [omul_id (by omega) (by omega)]) <;> omega)]
  exact ⟨by omega, by omega, h⟩
theorem olcmp_same {x : Int} : olcmp x x = 0 := by
  unfold olcmp
  rw [if_neg (by omega), if_pos rfl]
theorem xKi {x : Int} (h : K b ls (vi x :: st) μ) : xK K b ls st (vi x) μ := h
theorem xKl {x : Int} (h : K b ls (vl x :: st) μ) : xK K b ls st (vl x) μ := h
theorem fi (hi : i ≤ 3072) (h : xR M_L_law ((e + 61) + 1) b 18 [vo 0, vr c, vr m, vi ((i + 6 : Nat) : Int)] [] μ Q) : (x_iinc 3 6 <| xJ M_L_law ((e + 61) + 1) 18 Q) b [vo 0, vr c, vr m, vi (i : Int)] [] μ := by
  show xR M_L_law ((e + 61) + 1) b 18 [vo 0, vr c, vr m, vi (oadd (i : Int) 6)] [] μ Q
  rw [(show oadd (i : Int) 6 = ((i + 6 : Nat) : Int) by (first | rw [oadd_id (by omega) (by omega)] | rw [osub_id (by omega) (by omega)] | rw [omul_id (by omega) (by omega)]) <;> omega)]
  exact h
/-- the next turn, at any state that both hold -/
def NX (Γ : xSh) (c m i e : Nat) (b : Nat × Nat) (Q : xV → xMem → Prop) : Prop := ∀ (σ' : Nat → Nat → Int) (S' : xSt), PR Γ σ' c m S' → xR M_L_law ((e + 61) + 1) b 18 [vo 0, vr c, vr m, vi ((i + 6 : Nat) : Int)] [] (Γ, σ') Q
theorem l_set (h : PR Γ σ c m S) (hi : i + 6 ≤ (gS Γ).1) (hn : (gS Γ).1 ≤ 3072) (nx : NX Γ c m i e b Q) : (
  x_aload 1 <|
  x_aload 0 <|
  x_iload 3 <|
  x_push (vi 1) <|
  x_bin oadd <|
  x_ialoadL <|
  x_aload 0 <|
  x_iload 3 <|
  x_push (vi 2) <|
  x_bin oadd <|
  x_ialoadL <|
  x_aload 0 <|
  x_iload 3 <|
  x_push (vi 3) <|
  x_bin oadd <|
  x_ialoadL <|
  x_cV3 M_X5_set (e + 61) 5 <|
  x_aload 2 <|
  x_aload 0 <|
  x_iload 3 <|
  x_push (vi 1) <|
  x_bin oadd <|
  x_ialoadL <|
  x_aload 0 <|
  x_iload 3 <|
  x_push (vi 2) <|
  x_bin oadd <|
  x_ialoadL <|
  x_aload 0 <|
  x_iload 3 <|
  x_push (vi 3) <|
  x_bin oadd <|
  x_ialoadL <|
  x_cV3 M_X6_set (e + 61) 6 <|
  x_c2 (fun x y => x = y) (
  x_iinc 3 6 <|
  (xJ M_L_law ((e + 61) + 1) 18 Q)) <|
  x_push (vi 0) <|
  x_zret Q) b [vo 0, vr c, vr m, vi (i : Int)] [] (Γ, σ) := by
  refine al1 (arg1 (k := 1) rfl (by omega) hn (arg1 (k := 2) rfl (by omega) hn (arg1 (k := 3) rfl (by omega) hn ?_)))
  refine ⟨Nat.zero_le _, h.2.1.1.1.f0, c5_set h.2.1 (fun σ1 s1 r1 => ?_)⟩
  refine xKi (al2 (arg1 (k := 1) rfl (by omega) hn (arg1 (k := 2) rfl (by omega) hn (arg1 (k := 3) rfl (by omega) hn ?_))))
  refine ⟨Nat.le_of_ble_eq_true rfl, (h.mid s1).1.f0, m6_set (h.mid s1) (fun σ2 s2 r2 => xKi ?_)⟩
  exact ⟨fun _ => fi (by omega) (nx _ _ (PR.fin h.1 r1 s2 r2)), fun q => absurd rfl q⟩
theorem l_figure (h : PR Γ σ c m S) (hi : i + 6 ≤ (gS Γ).1) (hn : (gS Γ).1 ≤ 3072) (nx : NX Γ c m i e b Q) : (
  x_aload 1 <|
  x_aload 0 <|
  x_iload 3 <|
  x_push (vi 1) <|
  x_bin oadd <|
  x_ialoadL <|
  x_aload 0 <|
  x_iload 3 <|
  x_push (vi 2) <|
  x_bin oadd <|
  x_ialoadL <|
  x_aload 0 <|
  x_iload 3 <|
  x_push (vi 3) <|
  x_bin oadd <|
  x_ialoadL <|
  x_cV3 M_X5_figure (e + 61) 5 <|
  x_aload 2 <|
  x_aload 0 <|
  x_iload 3 <|
  x_push (vi 1) <|
  x_bin oadd <|
  x_ialoadL <|
  x_aload 0 <|
  x_iload 3 <|
  x_push (vi 2) <|
  x_bin oadd <|
  x_ialoadL <|
  x_aload 0 <|
  x_iload 3 <|
  x_push (vi 3) <|
  x_bin oadd <|
  x_ialoadL <|
  x_cV3 M_X6_figure (e + 61) 6 <|
  x_c2 (fun x y => x = y) (
  x_iinc 3 6 <|
  (xJ M_L_law ((e + 61) + 1) 18 Q)) <|
  x_push (vi 0) <|
  x_zret Q) b [vo 0, vr c, vr m, vi (i : Int)] [] (Γ, σ) := by
  refine al1 (arg1 (k := 1) rfl (by omega) hn (arg1 (k := 2) rfl (by omega) hn (arg1 (k := 3) rfl (by omega) hn ?_)))
  refine ⟨Nat.zero_le _, h.2.1.1.1.f0, c5_figure h.2.1 (fun σ1 s1 r1 => ?_)⟩
  refine xKi (al2 (arg1 (k := 1) rfl (by omega) hn (arg1 (k := 2) rfl (by omega) hn (arg1 (k := 3) rfl (by omega) hn ?_))))
  refine ⟨Nat.le_of_ble_eq_true rfl, (h.mid s1).1.f0, m6_figure (h.mid s1) (fun σ2 s2 r2 => xKi ?_)⟩
  exact ⟨fun _ => fi (by omega) (nx _ _ (PR.fin h.1 r1 s2.sm r2)), fun q => absurd rfl q⟩
theorem l_client (h : PR Γ σ c m S) (hi : i + 6 ≤ (gS Γ).1) (hn : (gS Γ).1 ≤ 3072) (nx : NX Γ c m i e b Q) : (
  x_aload 1 <|
  x_aload 0 <|
  x_iload 3 <|
  x_push (vi 1) <|
  x_bin oadd <|
  x_ialoadL <|
  x_aload 0 <|
  x_iload 3 <|
  x_push (vi 2) <|
  x_bin oadd <|
  x_ialoadL <|
  x_cV2 M_X5_client (e + 61) 5 <|
  x_aload 2 <|
  x_aload 0 <|
  x_iload 3 <|
  x_push (vi 1) <|
  x_bin oadd <|
  x_ialoadL <|
  x_aload 0 <|
  x_iload 3 <|
  x_push (vi 2) <|
  x_bin oadd <|
  x_ialoadL <|
  x_cV2 M_X6_client (e + 61) 6 <|
  x_c2 (fun x y => x = y) (
  x_iinc 3 6 <|
  (xJ M_L_law ((e + 61) + 1) 18 Q)) <|
  x_push (vi 0) <|
  x_zret Q) b [vo 0, vr c, vr m, vi (i : Int)] [] (Γ, σ) := by
  refine al1 (arg1 (k := 1) rfl (by omega) hn (arg1 (k := 2) rfl (by omega) hn ?_))
  refine ⟨Nat.zero_le _, h.2.1.1.1.f0, c5_client h.2.1 (fun σ1 s1 r1 => ?_)⟩
  refine xKi (al2 (arg1 (k := 1) rfl (by omega) hn (arg1 (k := 2) rfl (by omega) hn ?_)))
  refine ⟨Nat.le_of_ble_eq_true rfl, (h.mid s1).1.f0, m6_client (h.mid s1) (fun σ2 s2 r2 => xKi ?_)⟩
  exact ⟨fun _ => fi (by omega) (nx _ _ (PR.fin h.1 r1 s2 r2)), fun q => absurd rfl q⟩
theorem l_told (h : PR Γ σ c m S) (hi : i + 6 ≤ (gS Γ).1) (hn : (gS Γ).1 ≤ 3072) (nx : NX Γ c m i e b Q) : (
  x_aload 1 <|
  x_aload 0 <|
  x_iload 3 <|
  x_push (vi 1) <|
  x_bin oadd <|
  x_ialoadL <|
  x_aload 0 <|
  x_iload 3 <|
  x_push (vi 2) <|
  x_bin oadd <|
  x_ialoadL <|
  x_cV2 M_X5_told (e + 61) 5 <|
  x_aload 2 <|
  x_aload 0 <|
  x_iload 3 <|
  x_push (vi 1) <|
  x_bin oadd <|
  x_ialoadL <|
  x_aload 0 <|
  x_iload 3 <|
  x_push (vi 2) <|
  x_bin oadd <|
  x_ialoadL <|
  x_cV2 M_X6_told (e + 61) 6 <|
  x_c2 (fun x y => x = y) (
  x_iinc 3 6 <|
  (xJ M_L_law ((e + 61) + 1) 18 Q)) <|
  x_push (vi 0) <|
  x_zret Q) b [vo 0, vr c, vr m, vi (i : Int)] [] (Γ, σ) := by
  refine al1 (arg1 (k := 1) rfl (by omega) hn (arg1 (k := 2) rfl (by omega) hn ?_))
  refine ⟨Nat.zero_le _, h.2.1.1.1.f0, c5_told h.2.1 (fun σ1 s1 => ?_)⟩
  refine xKi (al2 (arg1 (k := 1) rfl (by omega) hn (arg1 (k := 2) rfl (by omega) hn ?_)))
  refine ⟨Nat.le_of_ble_eq_true rfl, (h.mid (s1.mono (fun q => Scr_Cl))).1.f0, m6_told (h.mid (s1.mono (fun q => Scr_Cl))) (fun σ2 s2 => xKi ?_)⟩
  exact ⟨fun _ => fi (by omega) (nx _ _ (PR.fin h.1 (h.2.1.scr s1) s2.sm ((h.mid (s1.mono (fun q => Scr_Cl))).fq s2))), fun q => absurd rfl q⟩
theorem l_glad (h : PR Γ σ c m S) (hi : i + 6 ≤ (gS Γ).1) (hn : (gS Γ).1 ≤ 3072) (nx : NX Γ c m i e b Q) : (
  x_aload 1 <|
  x_aload 0 <|
  x_iload 3 <|
  x_push (vi 1) <|
  x_bin oadd <|
  x_ialoadL <|
  x_aload 0 <|
  x_iload 3 <|
  x_push (vi 2) <|
  x_bin oadd <|
  x_ialoadL <|
  x_aload 0 <|
  x_iload 3 <|
  x_push (vi 3) <|
  x_bin oadd <|
  x_ialoadL <|
  x_cV3 M_X5_glad (e + 61) 5 <|
  x_aload 2 <|
  x_aload 0 <|
  x_iload 3 <|
  x_push (vi 1) <|
  x_bin oadd <|
  x_ialoadL <|
  x_aload 0 <|
  x_iload 3 <|
  x_push (vi 2) <|
  x_bin oadd <|
  x_ialoadL <|
  x_aload 0 <|
  x_iload 3 <|
  x_push (vi 3) <|
  x_bin oadd <|
  x_ialoadL <|
  x_cV3 M_X6_glad (e + 61) 6 <|
  x_c2 (fun x y => x = y) (
  x_iinc 3 6 <|
  (xJ M_L_law ((e + 61) + 1) 18 Q)) <|
  x_push (vi 0) <|
  x_zret Q) b [vo 0, vr c, vr m, vi (i : Int)] [] (Γ, σ) := by
  refine al1 (arg1 (k := 1) rfl (by omega) hn (arg1 (k := 2) rfl (by omega) hn (arg1 (k := 3) rfl (by omega) hn ?_)))
  refine ⟨Nat.zero_le _, h.2.1.1.1.f0, c5_glad h.2.1 (fun σ1 s1 => ?_)⟩
  refine xKi (al2 (arg1 (k := 1) rfl (by omega) hn (arg1 (k := 2) rfl (by omega) hn (arg1 (k := 3) rfl (by omega) hn ?_))))
  refine ⟨Nat.le_of_ble_eq_true rfl, (h.mid (s1.mono (fun q => Scr_Cl))).1.f0, m6_glad (h.mid (s1.mono (fun q => Scr_Cl))) (fun σ2 s2 => xKi ?_)⟩
  exact ⟨fun _ => fi (by omega) (nx _ _ (PR.fin h.1 (h.2.1.scr s1) s2.sm ((h.mid (s1.mono (fun q => Scr_Cl))).fq s2))), fun q => absurd rfl q⟩
theorem l_feed (h : PR Γ σ c m S) (hi : i + 6 ≤ (gS Γ).1) (hn : (gS Γ).1 ≤ 3072) (nx : NX Γ c m i e b Q) : (
  x_aload 1 <|
  x_aload 0 <|
  x_iload 3 <|
  x_push (vi 1) <|
  x_bin oadd <|
  x_ialoadL <|
  x_cV1 M_X5_feed (e + 61) 5 <|
  x_aload 2 <|
  x_aload 0 <|
  x_iload 3 <|
  x_push (vi 1) <|
  x_bin oadd <|
  x_ialoadL <|
  x_cV1 M_X6_feed (e + 61) 6 <|
  x_c2 (fun x y => x = y) (
  x_iinc 3 6 <|
  (xJ M_L_law ((e + 61) + 1) 18 Q)) <|
  x_push (vi 0) <|
  x_zret Q) b [vo 0, vr c, vr m, vi (i : Int)] [] (Γ, σ) := by
  refine al1 (arg1 (k := 1) rfl (by omega) hn ?_)
  refine ⟨Nat.zero_le _, h.2.1.1.1.f0, c5_feed h.2.1 (fun σ1 s1 r1 => ?_)⟩
  refine xKi (al2 (arg1 (k := 1) rfl (by omega) hn ?_))
  refine ⟨Nat.le_of_ble_eq_true rfl, (h.mid s1).1.f0, m6_feed (h.mid s1) (fun σ2 s2 r2 => xKi ?_)⟩
  exact ⟨fun _ => fi (by omega) (nx _ _ (PR.fin h.1 r1 s2 r2)), fun q => absurd rfl q⟩
theorem l_text (h : PR Γ σ c m S) (hi : i + 6 ≤ (gS Γ).1) (hn : (gS Γ).1 ≤ 3072) (nx : NX Γ c m i e b Q) : (
  x_aload 1 <|
  x_cV0 M_X5_text (e + 61) 5 <|
  x_aload 2 <|
  x_cV0 M_X6_text (e + 61) 6 <|
  x_c2 (fun x y => x = y) (
  x_iinc 3 6 <|
  (xJ M_L_law ((e + 61) + 1) 18 Q)) <|
  x_push (vi 0) <|
  x_zret Q) b [vo 0, vr c, vr m, vi (i : Int)] [] (Γ, σ) := by
  refine al1 ?_
  refine ⟨Nat.zero_le _, h.2.1.1.1.f0, c5_text h.2.1 (fun σ1 s1 r1 => ?_)⟩
  refine xKi (al2 ?_)
  refine ⟨Nat.le_of_ble_eq_true rfl, (h.mid s1).1.f0, m6_text (h.mid s1) (fun σ2 s2 r2 => xKi ?_)⟩
  exact ⟨fun _ => fi (by omega) (nx _ _ (PR.fin h.1 r1 s2 r2)), fun q => absurd rfl q⟩
theorem l_force (h : PR Γ σ c m S) (hi : i + 6 ≤ (gS Γ).1) (hn : (gS Γ).1 ≤ 3072) (nx : NX Γ c m i e b Q) : (
  x_aload 1 <|
  x_aload 0 <|
  x_iload 3 <|
  x_push (vi 1) <|
  x_bin oadd <|
  x_ialoadL <|
  x_cV1 M_X5_force (e + 61) 5 <|
  x_aload 2 <|
  x_aload 0 <|
  x_iload 3 <|
  x_push (vi 1) <|
  x_bin oadd <|
  x_ialoadL <|
  x_cV1 M_X6_force (e + 61) 6 <|
  x_c2 (fun x y => x = y) (
  x_iinc 3 6 <|
  (xJ M_L_law ((e + 61) + 1) 18 Q)) <|
  x_push (vi 0) <|
  x_zret Q) b [vo 0, vr c, vr m, vi (i : Int)] [] (Γ, σ) := by
  refine al1 (arg1 (k := 1) rfl (by omega) hn ?_)
  refine ⟨Nat.zero_le _, h.2.1.1.1.f0, c5_force h.2.1 (fun σ1 s1 r1 => ?_)⟩
  refine xKi (al2 (arg1 (k := 1) rfl (by omega) hn ?_))
  refine ⟨Nat.le_of_ble_eq_true rfl, (h.mid s1).1.f0, m6_force (h.mid s1) (fun σ2 s2 r2 => xKi ?_)⟩
  exact ⟨fun _ => fi (by omega) (nx _ _ (PR.fin h.1 r1 s2 r2)), fun q => absurd rfl q⟩
theorem l_show (h : PR Γ σ c m S) (hi : i + 6 ≤ (gS Γ).1) (hn : (gS Γ).1 ≤ 3072) (nx : NX Γ c m i e b Q) : (
  x_aload 1 <|
  x_aload 0 <|
  x_iload 3 <|
  x_push (vi 1) <|
  x_bin oadd <|
  x_ialoadL <|
  x_aload 0 <|
  x_iload 3 <|
  x_push (vi 2) <|
  x_bin oadd <|
  x_ialoadL <|
  x_cV2 M_X5_show (e + 61) 5 <|
  x_aload 2 <|
  x_aload 0 <|
  x_iload 3 <|
  x_push (vi 1) <|
  x_bin oadd <|
  x_ialoadL <|
  x_aload 0 <|
  x_iload 3 <|
  x_push (vi 2) <|
  x_bin oadd <|
  x_ialoadL <|
  x_cV2 M_X6_show (e + 61) 6 <|
  x_c2 (fun x y => x = y) (
  x_iinc 3 6 <|
  (xJ M_L_law ((e + 61) + 1) 18 Q)) <|
  x_push (vi 0) <|
  x_zret Q) b [vo 0, vr c, vr m, vi (i : Int)] [] (Γ, σ) := by
  refine al1 (arg1 (k := 1) rfl (by omega) hn (arg1 (k := 2) rfl (by omega) hn ?_))
  refine ⟨Nat.zero_le _, h.2.1.1.1.f0, c5_show ⟨Int32.le_toInt _, Int32.toInt_lt _⟩ h.2.1 (fun σ1 s1 => ?_)⟩
  refine xKi (al2 (arg1 (k := 1) rfl (by omega) hn (arg1 (k := 2) rfl (by omega) hn ?_)))
  refine ⟨Nat.le_of_ble_eq_true rfl, (h.mid (s1.mono (fun q => Scr_Cl))).1.f0, m6_show (h.mid (s1.mono (fun q => Scr_Cl))) (fun σ2 s2 => xKi ?_)⟩
  exact ⟨fun _ => fi (by omega) (nx _ _ (PR.fin h.1 (h.2.1.scr s1) s2.sm ((h.mid (s1.mono (fun q => Scr_Cl))).fq s2))), fun q => absurd rfl q⟩
theorem l_take (h : PR Γ σ c m S) (hi : i + 6 ≤ (gS Γ).1) (hn : (gS Γ).1 ≤ 3072) (nx : NX Γ c m i e b Q) : (
  x_aload 1 <|
  x_aload 0 <|
  x_iload 3 <|
  x_push (vi 1) <|
  x_bin oadd <|
  x_ialoadL <|
  x_cV1 M_X5_take (e + 61) 5 <|
  x_aload 2 <|
  x_aload 0 <|
  x_iload 3 <|
  x_push (vi 1) <|
  x_bin oadd <|
  x_ialoadL <|
  x_cV1 M_X6_take (e + 61) 6 <|
  x_c2 (fun x y => x = y) (
  x_iinc 3 6 <|
  (xJ M_L_law ((e + 61) + 1) 18 Q)) <|
  x_push (vi 0) <|
  x_zret Q) b [vo 0, vr c, vr m, vi (i : Int)] [] (Γ, σ) := by
  refine al1 (arg1 (k := 1) rfl (by omega) hn ?_)
  refine ⟨Nat.zero_le _, h.2.1.1.1.f0, c5_take h.2.1 (fun σ1 s1 r1 => ?_)⟩
  refine xKi (al2 (arg1 (k := 1) rfl (by omega) hn ?_))
  refine ⟨Nat.le_of_ble_eq_true rfl, (h.mid s1).1.f0, m6_take (h.mid s1) (fun σ2 s2 r2 => xKi ?_)⟩
  exact ⟨fun _ => fi (by omega) (nx _ _ (PR.fin h.1 r1 s2 r2)), fun q => absurd rfl q⟩
theorem l_showing (h : PR Γ σ c m S) (hi : i + 6 ≤ (gS Γ).1) (hn : (gS Γ).1 ≤ 3072) (nx : NX Γ c m i e b Q) : (
  x_aload 1 <|
  x_aload 0 <|
  x_iload 3 <|
  x_push (vi 1) <|
  x_bin oadd <|
  x_ialoadL <|
  x_aload 0 <|
  x_iload 3 <|
  x_push (vi 2) <|
  x_bin oadd <|
  x_ialoadL <|
  x_cV2 M_X5_showing (e + 61) 5 <|
  x_aload 2 <|
  x_aload 0 <|
  x_iload 3 <|
  x_push (vi 1) <|
  x_bin oadd <|
  x_ialoadL <|
  x_aload 0 <|
  x_iload 3 <|
  x_push (vi 2) <|
  x_bin oadd <|
  x_ialoadL <|
  x_cV2 M_X6_showing (e + 61) 6 <|
  x_c2 (fun x y => x = y) (
  x_iinc 3 6 <|
  (xJ M_L_law ((e + 61) + 1) 18 Q)) <|
  x_push (vi 0) <|
  x_zret Q) b [vo 0, vr c, vr m, vi (i : Int)] [] (Γ, σ) := by
  refine al1 (arg1 (k := 1) rfl (by omega) hn (arg1 (k := 2) rfl (by omega) hn ?_))
  refine ⟨Nat.zero_le _, h.2.1.1.1.f0, c5_showing h.2.1 (fun σ1 s1 => ?_)⟩
  refine xKi (al2 (arg1 (k := 1) rfl (by omega) hn (arg1 (k := 2) rfl (by omega) hn ?_)))
  refine ⟨Nat.le_of_ble_eq_true rfl, (h.mid (s1.mono (fun q => Scr_Cl))).1.f0, m6_showing (h.mid (s1.mono (fun q => Scr_Cl))) (fun σ2 s2 => xKi ?_)⟩
  exact ⟨fun _ => fi (by omega) (nx _ _ (PR.fin h.1 (h.2.1.scr s1) s2.sm ((h.mid (s1.mono (fun q => Scr_Cl))).fq s2))), fun q => absurd rfl q⟩
theorem l_few (h : PR Γ σ c m S) (hi : i + 6 ≤ (gS Γ).1) (hn : (gS Γ).1 ≤ 3072) (nx : NX Γ c m i e b Q) : (
  x_aload 1 <|
  x_aload 0 <|
  x_iload 3 <|
  x_push (vi 1) <|
  x_bin oadd <|
  x_ialoadL <|
  x_cV1 M_X5_few (e + 61) 5 <|
  x_aload 2 <|
  x_aload 0 <|
  x_iload 3 <|
  x_push (vi 1) <|
  x_bin oadd <|
  x_ialoadL <|
  x_cV1 M_X6_few (e + 61) 6 <|
  x_c2 (fun x y => x = y) (
  x_iinc 3 6 <|
  (xJ M_L_law ((e + 61) + 1) 18 Q)) <|
  x_push (vi 0) <|
  x_zret Q) b [vo 0, vr c, vr m, vi (i : Int)] [] (Γ, σ) := by
  refine al1 (arg1 (k := 1) rfl (by omega) hn ?_)
  refine ⟨Nat.zero_le _, h.2.1.1.1.f0, c5_few h.2.1 (fun σ1 s1 => ?_)⟩
  refine xKi (al2 (arg1 (k := 1) rfl (by omega) hn ?_))
  refine ⟨Nat.le_of_ble_eq_true rfl, (h.mid (s1.mono (fun q => Scr_Cl))).1.f0, m6_few (h.mid (s1.mono (fun q => Scr_Cl))) (fun σ2 s2 => xKi ?_)⟩
  exact ⟨fun _ => fi (by omega) (nx _ _ (PR.fin h.1 (h.2.1.scr s1) s2.sm ((h.mid (s1.mono (fun q => Scr_Cl))).fq s2))), fun q => absurd rfl q⟩
theorem l_missed (h : PR Γ σ c m S) (hi : i + 6 ≤ (gS Γ).1) (hn : (gS Γ).1 ≤ 3072) (nx : NX Γ c m i e b Q) : (
  x_aload 1 <|
  x_aload 0 <|
  x_iload 3 <|
  x_push (vi 1) <|
  x_bin oadd <|
  x_ialoadL <|
  x_cV1 M_X5_missed (e + 61) 5 <|
  x_aload 2 <|
  x_aload 0 <|
  x_iload 3 <|
  x_push (vi 1) <|
  x_bin oadd <|
  x_ialoadL <|
  x_cV1 M_X6_missed (e + 61) 6 <|
  x_c2 (fun x y => x = y) (
  x_iinc 3 6 <|
  (xJ M_L_law ((e + 61) + 1) 18 Q)) <|
  x_push (vi 0) <|
  x_zret Q) b [vo 0, vr c, vr m, vi (i : Int)] [] (Γ, σ) := by
  refine al1 (arg1 (k := 1) rfl (by omega) hn ?_)
  refine ⟨Nat.zero_le _, h.2.1.1.1.f0, c5_missed h.2.1 (fun σ1 s1 => ?_)⟩
  refine xKi (al2 (arg1 (k := 1) rfl (by omega) hn ?_))
  refine ⟨Nat.le_of_ble_eq_true rfl, (h.mid (s1.mono (fun q => Scr_Cl))).1.f0, m6_missed (h.mid (s1.mono (fun q => Scr_Cl))) (fun σ2 s2 => xKi ?_)⟩
  exact ⟨fun _ => fi (by omega) (nx _ _ (PR.fin h.1 (h.2.1.scr s1) s2.sm ((h.mid (s1.mono (fun q => Scr_Cl))).fq s2))), fun q => absurd rfl q⟩
theorem l_change (h : PR Γ σ c m S) (hi : i + 6 ≤ (gS Γ).1) (hn : (gS Γ).1 ≤ 3072) (nx : NX Γ c m i e b Q) : (
  x_aload 1 <|
  x_aload 0 <|
  x_iload 3 <|
  x_push (vi 1) <|
  x_bin oadd <|
  x_ialoadL <|
  x_cV1 M_X5_change (e + 61) 5 <|
  x_aload 2 <|
  x_aload 0 <|
  x_iload 3 <|
  x_push (vi 1) <|
  x_bin oadd <|
  x_ialoadL <|
  x_cV1 M_X6_change (e + 61) 6 <|
  x_c2 (fun x y => x = y) (
  x_iinc 3 6 <|
  (xJ M_L_law ((e + 61) + 1) 18 Q)) <|
  x_push (vi 0) <|
  x_zret Q) b [vo 0, vr c, vr m, vi (i : Int)] [] (Γ, σ) := by
  refine al1 (arg1 (k := 1) rfl (by omega) hn ?_)
  refine ⟨Nat.zero_le _, h.2.1.1.1.f0, c5_change h.2.1 (fun σ1 s1 => ?_)⟩
  refine xKi (al2 (arg1 (k := 1) rfl (by omega) hn ?_))
  refine ⟨Nat.le_of_ble_eq_true rfl, (h.mid (s1.mono (fun q => Scr_Cl))).1.f0, m6_change (h.mid (s1.mono (fun q => Scr_Cl))) (fun σ2 s2 => xKi ?_)⟩
  exact ⟨fun _ => fi (by omega) (nx _ _ (PR.fin h.1 (h.2.1.scr s1) s2.sm ((h.mid (s1.mono (fun q => Scr_Cl))).fq s2))), fun q => absurd rfl q⟩
theorem l_raise (h : PR Γ σ c m S) (hi : i + 6 ≤ (gS Γ).1) (hn : (gS Γ).1 ≤ 3072) (nx : NX Γ c m i e b Q) : (
  x_aload 1 <|
  x_aload 0 <|
  x_iload 3 <|
  x_push (vi 1) <|
  x_bin oadd <|
  x_ialoadL <|
  x_aload 0 <|
  x_iload 3 <|
  x_push (vi 2) <|
  x_bin oadd <|
  x_ialoadL <|
  x_cV2 M_X5_raise (e + 61) 5 <|
  x_aload 2 <|
  x_aload 0 <|
  x_iload 3 <|
  x_push (vi 1) <|
  x_bin oadd <|
  x_ialoadL <|
  x_aload 0 <|
  x_iload 3 <|
  x_push (vi 2) <|
  x_bin oadd <|
  x_ialoadL <|
  x_cV2 M_X6_raise (e + 61) 6 <|
  x_c2 (fun x y => x = y) (
  x_iinc 3 6 <|
  (xJ M_L_law ((e + 61) + 1) 18 Q)) <|
  x_push (vi 0) <|
  x_zret Q) b [vo 0, vr c, vr m, vi (i : Int)] [] (Γ, σ) := by
  refine al1 (arg1 (k := 1) rfl (by omega) hn (arg1 (k := 2) rfl (by omega) hn ?_))
  refine ⟨Nat.zero_le _, h.2.1.1.1.f0, c5_raise h.2.1 (fun σ1 s1 => ?_)⟩
  refine xKi (al2 (arg1 (k := 1) rfl (by omega) hn (arg1 (k := 2) rfl (by omega) hn ?_)))
  refine ⟨Nat.le_of_ble_eq_true rfl, (h.mid (s1.mono (fun q => Scr_Cl))).1.f0, m6_raise (h.mid (s1.mono (fun q => Scr_Cl))) (fun σ2 s2 => xKi ?_)⟩
  exact ⟨fun _ => fi (by omega) (nx _ _ (PR.fin h.1 (h.2.1.scr s1) s2.sm ((h.mid (s1.mono (fun q => Scr_Cl))).fq s2))), fun q => absurd rfl q⟩
theorem l_dear (h : PR Γ σ c m S) (hi : i + 6 ≤ (gS Γ).1) (hn : (gS Γ).1 ≤ 3072) (nx : NX Γ c m i e b Q) : (
  x_aload 1 <|
  x_aload 0 <|
  x_iload 3 <|
  x_push (vi 1) <|
  x_bin oadd <|
  x_ialoadL <|
  x_cV1 M_X5_dear (e + 61) 5 <|
  x_aload 2 <|
  x_aload 0 <|
  x_iload 3 <|
  x_push (vi 1) <|
  x_bin oadd <|
  x_ialoadL <|
  x_cV1 M_X6_dear (e + 61) 6 <|
  x_c2 (fun x y => x = y) (
  x_iinc 3 6 <|
  (xJ M_L_law ((e + 61) + 1) 18 Q)) <|
  x_push (vi 0) <|
  x_zret Q) b [vo 0, vr c, vr m, vi (i : Int)] [] (Γ, σ) := by
  refine al1 (arg1 (k := 1) rfl (by omega) hn ?_)
  refine ⟨Nat.zero_le _, h.2.1.1.1.f0, c5_dear h.2.1 (fun σ1 s1 => ?_)⟩
  refine xKi (al2 (arg1 (k := 1) rfl (by omega) hn ?_))
  refine ⟨Nat.le_of_ble_eq_true rfl, (h.mid (s1.mono (fun q => Scr_Cl))).1.f0, m6_dear (h.mid (s1.mono (fun q => Scr_Cl))) (fun σ2 s2 => xKi ?_)⟩
  exact ⟨fun _ => fi (by omega) (nx _ _ (PR.fin h.1 (h.2.1.scr s1) s2.sm ((h.mid (s1.mono (fun q => Scr_Cl))).fq s2))), fun q => absurd rfl q⟩
theorem l_tells (h : PR Γ σ c m S) (hi : i + 6 ≤ (gS Γ).1) (hn : (gS Γ).1 ≤ 3072) (nx : NX Γ c m i e b Q) : (
  x_aload 1 <|
  x_aload 0 <|
  x_iload 3 <|
  x_push (vi 1) <|
  x_bin oadd <|
  x_ialoadL <|
  x_aload 0 <|
  x_iload 3 <|
  x_push (vi 2) <|
  x_bin oadd <|
  x_ialoadL <|
  x_aload 0 <|
  x_iload 3 <|
  x_push (vi 3) <|
  x_bin oadd <|
  x_ialoadL <|
  x_cV3 M_X5_tells (e + 61) 5 <|
  x_aload 2 <|
  x_aload 0 <|
  x_iload 3 <|
  x_push (vi 1) <|
  x_bin oadd <|
  x_ialoadL <|
  x_aload 0 <|
  x_iload 3 <|
  x_push (vi 2) <|
  x_bin oadd <|
  x_ialoadL <|
  x_aload 0 <|
  x_iload 3 <|
  x_push (vi 3) <|
  x_bin oadd <|
  x_ialoadL <|
  x_cV3 M_X6_tells (e + 61) 6 <|
  x_c2 (fun x y => x = y) (
  x_iinc 3 6 <|
  (xJ M_L_law ((e + 61) + 1) 18 Q)) <|
  x_push (vi 0) <|
  x_zret Q) b [vo 0, vr c, vr m, vi (i : Int)] [] (Γ, σ) := by
  refine al1 (arg1 (k := 1) rfl (by omega) hn (arg1 (k := 2) rfl (by omega) hn (arg1 (k := 3) rfl (by omega) hn ?_)))
  refine ⟨Nat.zero_le _, h.2.1.1.1.f0, c5_tells h.2.1 (fun σ1 s1 => ?_)⟩
  refine xKi (al2 (arg1 (k := 1) rfl (by omega) hn (arg1 (k := 2) rfl (by omega) hn (arg1 (k := 3) rfl (by omega) hn ?_))))
  refine ⟨Nat.le_of_ble_eq_true rfl, (h.mid (s1.mono (fun q => Scr_Cl))).1.f0, m6_tells (h.mid (s1.mono (fun q => Scr_Cl))) (fun σ2 s2 r2 => xKi ?_)⟩
  exact ⟨fun _ => fi (by omega) (nx _ _ (PR.fin h.1 (h.2.1.scr s1) s2 r2)), fun q => absurd rfl q⟩
theorem l_film (h : PR Γ σ c m S) (hi : i + 6 ≤ (gS Γ).1) (hn : (gS Γ).1 ≤ 3072) (nx : NX Γ c m i e b Q) : (
  x_aload 1 <|
  x_aload 0 <|
  x_iload 3 <|
  x_push (vi 1) <|
  x_bin oadd <|
  x_ialoadL <|
  x_aload 0 <|
  x_iload 3 <|
  x_push (vi 2) <|
  x_bin oadd <|
  x_ialoadL <|
  x_aload 0 <|
  x_iload 3 <|
  x_push (vi 3) <|
  x_bin oadd <|
  x_ialoadL <|
  x_cV3 M_X5_film (e + 61) 5 <|
  x_aload 2 <|
  x_aload 0 <|
  x_iload 3 <|
  x_push (vi 1) <|
  x_bin oadd <|
  x_ialoadL <|
  x_aload 0 <|
  x_iload 3 <|
  x_push (vi 2) <|
  x_bin oadd <|
  x_ialoadL <|
  x_aload 0 <|
  x_iload 3 <|
  x_push (vi 3) <|
  x_bin oadd <|
  x_ialoadL <|
  x_cV3 M_X6_film (e + 61) 6 <|
  x_c2 (fun x y => x = y) (
  x_iinc 3 6 <|
  (xJ M_L_law ((e + 61) + 1) 18 Q)) <|
  x_push (vi 0) <|
  x_zret Q) b [vo 0, vr c, vr m, vi (i : Int)] [] (Γ, σ) := by
  refine al1 (arg1 (k := 1) rfl (by omega) hn (arg1 (k := 2) rfl (by omega) hn (arg1 (k := 3) rfl (by omega) hn ?_)))
  refine ⟨Nat.zero_le _, h.2.1.1.1.f0, c5_film h.2.1 (fun σ1 s1 r1 => ?_)⟩
  refine xKi (al2 (arg1 (k := 1) rfl (by omega) hn (arg1 (k := 2) rfl (by omega) hn (arg1 (k := 3) rfl (by omega) hn ?_))))
  refine ⟨Nat.le_of_ble_eq_true rfl, (h.mid s1).1.f0, m6_film (h.mid s1) (fun σ2 s2 r2 => xKi ?_)⟩
  exact ⟨fun _ => fi (by omega) (nx _ _ (PR.fin h.1 r1 s2 r2)), fun q => absurd rfl q⟩
theorem l_drawn (h : PR Γ σ c m S) (hi : i + 6 ≤ (gS Γ).1) (hn : (gS Γ).1 ≤ 3072) (nx : NX Γ c m i e b Q) : (
  x_aload 1 <|
  x_aload 0 <|
  x_iload 3 <|
  x_push (vi 1) <|
  x_bin oadd <|
  x_ialoadL <|
  x_cV1 M_X5_drawn (e + 61) 5 <|
  x_aload 2 <|
  x_aload 0 <|
  x_iload 3 <|
  x_push (vi 1) <|
  x_bin oadd <|
  x_ialoadL <|
  x_cV1 M_X6_drawn (e + 61) 6 <|
  x_c2 (fun x y => x = y) (
  x_iinc 3 6 <|
  (xJ M_L_law ((e + 61) + 1) 18 Q)) <|
  x_push (vi 0) <|
  x_zret Q) b [vo 0, vr c, vr m, vi (i : Int)] [] (Γ, σ) := by
  refine al1 (arg1 (k := 1) rfl (by omega) hn ?_)
  refine ⟨Nat.zero_le _, h.2.1.1.1.f0, c5_drawn h.2.1 (fun σ1 s1 => ?_)⟩
  refine xKi (al2 (arg1 (k := 1) rfl (by omega) hn ?_))
  refine ⟨Nat.le_of_ble_eq_true rfl, (h.mid (s1.mono (fun q => Scr_Cl))).1.f0, m6_drawn (h.mid (s1.mono (fun q => Scr_Cl))) (fun σ2 s2 => xKi ?_)⟩
  exact ⟨fun _ => fi (by omega) (nx _ _ (PR.fin h.1 (h.2.1.scr s1) s2.sm ((h.mid (s1.mono (fun q => Scr_Cl))).fq s2))), fun q => absurd rfl q⟩
theorem l_chance (h : PR Γ σ c m S) (hi : i + 6 ≤ (gS Γ).1) (hn : (gS Γ).1 ≤ 3072) (nx : NX Γ c m i e b Q) : (
  x_aload 1 <|
  x_aload 0 <|
  x_iload 3 <|
  x_push (vi 1) <|
  x_bin oadd <|
  x_ialoadL <|
  x_aload 0 <|
  x_iload 3 <|
  x_push (vi 2) <|
  x_bin oadd <|
  x_ialoadL <|
  x_aload 0 <|
  x_iload 3 <|
  x_push (vi 3) <|
  x_bin oadd <|
  x_ialoadL <|
  x_aload 0 <|
  x_iload 3 <|
  x_push (vi 4) <|
  x_bin oadd <|
  x_ialoadL <|
  x_cV4 M_X5_chance (e + 61) 5 <|
  x_aload 2 <|
  x_aload 0 <|
  x_iload 3 <|
  x_push (vi 1) <|
  x_bin oadd <|
  x_ialoadL <|
  x_aload 0 <|
  x_iload 3 <|
  x_push (vi 2) <|
  x_bin oadd <|
  x_ialoadL <|
  x_aload 0 <|
  x_iload 3 <|
  x_push (vi 3) <|
  x_bin oadd <|
  x_ialoadL <|
  x_aload 0 <|
  x_iload 3 <|
  x_push (vi 4) <|
  x_bin oadd <|
  x_ialoadL <|
  x_cV4 M_X6_chance (e + 61) 6 <|
  x_lcmp <|
  x_c1 (fun x => x = 0) (
  x_iinc 3 6 <|
  (xJ M_L_law ((e + 61) + 1) 18 Q)) <|
  x_push (vi 0) <|
  x_zret Q) b [vo 0, vr c, vr m, vi (i : Int)] [] (Γ, σ) := by
  refine al1 (arg1 (k := 1) rfl (by omega) hn (arg1 (k := 2) rfl (by omega) hn (arg1 (k := 3) rfl (by omega) hn (arg1 (k := 4) rfl (by omega) hn ?_))))
  refine ⟨Nat.zero_le _, h.2.1.1.1.f0, c5_chance h.2.1 (fun σ1 s1 => ?_)⟩
  refine xKl (al2 (arg1 (k := 1) rfl (by omega) hn (arg1 (k := 2) rfl (by omega) hn (arg1 (k := 3) rfl (by omega) hn (arg1 (k := 4) rfl (by omega) hn ?_)))))
  refine ⟨Nat.le_of_ble_eq_true rfl, (h.mid (s1.mono (fun q => Scr_Cl))).1.f0, m6_chance (h.mid (s1.mono (fun q => Scr_Cl))) (fun σ2 s2 => xKl ?_)⟩
  exact ⟨fun _ => fi (by omega) (nx _ _ (PR.fin h.1 (h.2.1.scr s1) s2.sm ((h.mid (s1.mono (fun q => Scr_Cl))).fq s2))), fun q => absurd olcmp_same q⟩
theorem l_image (h : PR Γ σ c m S) (hi : i + 6 ≤ (gS Γ).1) (hn : (gS Γ).1 ≤ 3072) (nx : NX Γ c m i e b Q) : (
  x_aload 1 <|
  x_cV0 M_X5_image (e + 61) 5 <|
  x_aload 2 <|
  x_cV0 M_X6_image (e + 61) 6 <|
  x_c2 (fun x y => x = y) (
  x_iinc 3 6 <|
  (xJ M_L_law ((e + 61) + 1) 18 Q)) <|
  x_push (vi 0) <|
  x_zret Q) b [vo 0, vr c, vr m, vi (i : Int)] [] (Γ, σ) := by
  refine al1 ?_
  refine ⟨Nat.zero_le _, h.2.1.1.1.f0, c5_image h.2.1 (fun σ1 s1 r1 => ?_)⟩
  refine xKi (al2 ?_)
  refine ⟨Nat.le_of_ble_eq_true rfl, (h.mid s1).1.f0, m6_image (h.mid s1) (fun σ2 s2 r2 => xKi ?_)⟩
  exact ⟨fun _ => fi (by omega) (nx _ _ (PR.fin h.1 r1 s2 r2)), fun q => absurd rfl q⟩
theorem l_back (h : PR Γ σ c m S) (hi : i + 6 ≤ (gS Γ).1) (hn : (gS Γ).1 ≤ 3072) (nx : NX Γ c m i e b Q) : (
  x_aload 1 <|
  x_cV0 M_X5_back (e + 61) 5 <|
  x_aload 2 <|
  x_cV0 M_X6_back (e + 61) 6 <|
  x_c2 (fun x y => x = y) (
  x_iinc 3 6 <|
  (xJ M_L_law ((e + 61) + 1) 18 Q)) <|
  x_push (vi 0) <|
  x_zret Q) b [vo 0, vr c, vr m, vi (i : Int)] [] (Γ, σ) := by
  refine al1 ?_
  refine ⟨Nat.zero_le _, h.2.1.1.1.f0, c5_back h.2.1 (fun σ1 s1 r1 => ?_)⟩
  refine xKi (al2 ?_)
  refine ⟨Nat.le_of_ble_eq_true rfl, (h.mid s1).1.f0, m6_back (h.mid s1) (fun σ2 s2 r2 => xKi ?_)⟩
  exact ⟨fun _ => fi (by omega) (nx _ _ (PR.fin h.1 r1 s2 r2)), fun q => absurd rfl q⟩
theorem l_count (h : PR Γ σ c m S) (hi : i + 6 ≤ (gS Γ).1) (hn : (gS Γ).1 ≤ 3072) (nx : NX Γ c m i e b Q) : (
  x_aload 1 <|
  x_aload 0 <|
  x_iload 3 <|
  x_push (vi 1) <|
  x_bin oadd <|
  x_ialoadL <|
  x_cV1 M_X5_count (e + 61) 5 <|
  x_aload 2 <|
  x_aload 0 <|
  x_iload 3 <|
  x_push (vi 1) <|
  x_bin oadd <|
  x_ialoadL <|
  x_cV1 M_X6_count (e + 61) 6 <|
  x_c2 (fun x y => x = y) (
  x_iinc 3 6 <|
  (xJ M_L_law ((e + 61) + 1) 18 Q)) <|
  x_push (vi 0) <|
  x_zret Q) b [vo 0, vr c, vr m, vi (i : Int)] [] (Γ, σ) := by
  refine al1 (arg1 (k := 1) rfl (by omega) hn ?_)
  refine ⟨Nat.zero_le _, h.2.1.1.1.f0, c5_count h.2.1 (?_)⟩
  refine xKi (al2 (arg1 (k := 1) rfl (by omega) hn ?_))
  refine ⟨Nat.le_of_ble_eq_true rfl, h.2.2.1.f0, m6_count h.2.2 (xKi ?_)⟩
  exact ⟨fun _ => fi (by omega) (nx _ _ (PR.fin h.1 h.2.1 Sm.rf h.2.2)), fun q => absurd rfl q⟩
theorem l_sheet (h : PR Γ σ c m S) (hi : i + 6 ≤ (gS Γ).1) (hn : (gS Γ).1 ≤ 3072) (nx : NX Γ c m i e b Q) : (
  x_aload 1 <|
  x_aload 0 <|
  x_iload 3 <|
  x_push (vi 1) <|
  x_bin oadd <|
  x_ialoadL <|
  x_aload 0 <|
  x_iload 3 <|
  x_push (vi 2) <|
  x_bin oadd <|
  x_ialoadL <|
  x_aload 0 <|
  x_iload 3 <|
  x_push (vi 3) <|
  x_bin oadd <|
  x_ialoadL <|
  x_cV3 M_X5_sheet (e + 61) 5 <|
  x_aload 2 <|
  x_aload 0 <|
  x_iload 3 <|
  x_push (vi 1) <|
  x_bin oadd <|
  x_ialoadL <|
  x_aload 0 <|
  x_iload 3 <|
  x_push (vi 2) <|
  x_bin oadd <|
  x_ialoadL <|
  x_aload 0 <|
  x_iload 3 <|
  x_push (vi 3) <|
  x_bin oadd <|
  x_ialoadL <|
  x_cV3 M_X6_sheet (e + 61) 6 <|
  x_c2 (fun x y => x = y) (
  x_iinc 3 6 <|
  (xJ M_L_law ((e + 61) + 1) 18 Q)) <|
  x_push (vi 0) <|
  x_zret Q) b [vo 0, vr c, vr m, vi (i : Int)] [] (Γ, σ) := by
  refine al1 (arg1 (k := 1) rfl (by omega) hn (arg1 (k := 2) rfl (by omega) hn (arg1 (k := 3) rfl (by omega) hn ?_)))
  refine ⟨Nat.zero_le _, h.2.1.1.1.f0, c5_sheet h.2.1 (fun σ1 s1 r1 => ?_)⟩
  refine xKi (al2 (arg1 (k := 1) rfl (by omega) hn (arg1 (k := 2) rfl (by omega) hn (arg1 (k := 3) rfl (by omega) hn ?_))))
  refine ⟨Nat.le_of_ble_eq_true rfl, (h.mid s1).1.f0, m6_sheet (h.mid s1) (fun σ2 s2 r2 _ => xKi ?_)⟩
  exact ⟨fun _ => fi (by omega) (nx _ _ (PR.fin h.1 r1 s2 r2)), fun q => absurd rfl q⟩
theorem l_cell (h : PR Γ σ c m S) (hi : i + 6 ≤ (gS Γ).1) (hn : (gS Γ).1 ≤ 3072) (nx : NX Γ c m i e b Q) : (
  x_aload 1 <|
  x_aload 0 <|
  x_iload 3 <|
  x_push (vi 1) <|
  x_bin oadd <|
  x_ialoadL <|
  x_aload 0 <|
  x_iload 3 <|
  x_push (vi 2) <|
  x_bin oadd <|
  x_ialoadL <|
  x_aload 0 <|
  x_iload 3 <|
  x_push (vi 3) <|
  x_bin oadd <|
  x_ialoadL <|
  x_cV3 M_X5_cell (e + 61) 5 <|
  x_aload 2 <|
  x_aload 0 <|
  x_iload 3 <|
  x_push (vi 1) <|
  x_bin oadd <|
  x_ialoadL <|
  x_aload 0 <|
  x_iload 3 <|
  x_push (vi 2) <|
  x_bin oadd <|
  x_ialoadL <|
  x_aload 0 <|
  x_iload 3 <|
  x_push (vi 3) <|
  x_bin oadd <|
  x_ialoadL <|
  x_cV3 M_X6_cell (e + 61) 6 <|
  x_c2 (fun x y => x = y) (
  x_iinc 3 6 <|
  (xJ M_L_law ((e + 61) + 1) 18 Q)) <|
  x_push (vi 0) <|
  x_zret Q) b [vo 0, vr c, vr m, vi (i : Int)] [] (Γ, σ) := by
  refine al1 (arg1 (k := 1) rfl (by omega) hn (arg1 (k := 2) rfl (by omega) hn (arg1 (k := 3) rfl (by omega) hn ?_)))
  refine ⟨Nat.zero_le _, h.2.1.1.1.f0, c5_cell h.2.1 (fun σ1 s1 r1 => ?_)⟩
  refine xKi (al2 (arg1 (k := 1) rfl (by omega) hn (arg1 (k := 2) rfl (by omega) hn (arg1 (k := 3) rfl (by omega) hn ?_))))
  refine ⟨Nat.le_of_ble_eq_true rfl, (h.mid s1).1.f0, m6_cell (h.mid s1) (fun σ2 s2 r2 => xKi ?_)⟩
  exact ⟨fun _ => fi (by omega) (nx _ _ (PR.fin h.1 r1 s2 r2)), fun q => absurd rfl q⟩
theorem l_copy (h : PR Γ σ c m S) (hi : i + 6 ≤ (gS Γ).1) (hn : (gS Γ).1 ≤ 3072) (nx : NX Γ c m i e b Q) : (
  x_aload 1 <|
  x_aload 0 <|
  x_iload 3 <|
  x_push (vi 1) <|
  x_bin oadd <|
  x_ialoadL <|
  x_aload 0 <|
  x_iload 3 <|
  x_push (vi 2) <|
  x_bin oadd <|
  x_ialoadL <|
  x_aload 0 <|
  x_iload 3 <|
  x_push (vi 3) <|
  x_bin oadd <|
  x_ialoadL <|
  x_aload 0 <|
  x_iload 3 <|
  x_push (vi 4) <|
  x_bin oadd <|
  x_ialoadL <|
  x_aload 0 <|
  x_iload 3 <|
  x_push (vi 5) <|
  x_bin oadd <|
  x_ialoadL <|
  x_cV5 M_X5_copy (e + 61) 5 <|
  x_aload 2 <|
  x_aload 0 <|
  x_iload 3 <|
  x_push (vi 1) <|
  x_bin oadd <|
  x_ialoadL <|
  x_aload 0 <|
  x_iload 3 <|
  x_push (vi 2) <|
  x_bin oadd <|
  x_ialoadL <|
  x_aload 0 <|
  x_iload 3 <|
  x_push (vi 3) <|
  x_bin oadd <|
  x_ialoadL <|
  x_aload 0 <|
  x_iload 3 <|
  x_push (vi 4) <|
  x_bin oadd <|
  x_ialoadL <|
  x_aload 0 <|
  x_iload 3 <|
  x_push (vi 5) <|
  x_bin oadd <|
  x_ialoadL <|
  x_cV5 M_X6_copy (e + 61) 6 <|
  x_c2 (fun x y => x = y) (
  x_iinc 3 6 <|
  (xJ M_L_law ((e + 61) + 1) 18 Q)) <|
  x_push (vi 0) <|
  x_zret Q) b [vo 0, vr c, vr m, vi (i : Int)] [] (Γ, σ) := by
  refine al1 (arg1 (k := 1) rfl (by omega) hn (arg1 (k := 2) rfl (by omega) hn (arg1 (k := 3) rfl (by omega) hn (arg1 (k := 4) rfl (by omega) hn (arg1 (k := 5) rfl (by omega) hn ?_)))))
  refine ⟨Nat.zero_le _, h.2.1.1.1.f0, c5_copy h.2.1 (fun σ1 s1 r1 => ?_)⟩
  refine xKi (al2 (arg1 (k := 1) rfl (by omega) hn (arg1 (k := 2) rfl (by omega) hn (arg1 (k := 3) rfl (by omega) hn (arg1 (k := 4) rfl (by omega) hn (arg1 (k := 5) rfl (by omega) hn ?_))))))
  refine ⟨Nat.le_of_ble_eq_true rfl, (h.mid s1).1.f0, m6_copy ⟨Int32.le_toInt _, Int32.toInt_lt _⟩ (h.mid s1) (fun σ2 s2 r2 => xKi ?_)⟩
  exact ⟨fun _ => fi (by omega) (nx _ _ (PR.fin h.1 r1 s2 r2)), fun q => absurd rfl q⟩
theorem l_figures (h : PR Γ σ c m S) (hi : i + 6 ≤ (gS Γ).1) (hn : (gS Γ).1 ≤ 3072) (nx : NX Γ c m i e b Q) : (
  x_aload 1 <|
  x_aload 0 <|
  x_iload 3 <|
  x_push (vi 1) <|
  x_bin oadd <|
  x_ialoadL <|
  x_aload 0 <|
  x_iload 3 <|
  x_push (vi 2) <|
  x_bin oadd <|
  x_ialoadL <|
  x_aload 0 <|
  x_iload 3 <|
  x_push (vi 3) <|
  x_bin oadd <|
  x_ialoadL <|
  x_aload 0 <|
  x_iload 3 <|
  x_push (vi 4) <|
  x_bin oadd <|
  x_ialoadL <|
  x_cV4 M_X5_figures (e + 61) 5 <|
  x_aload 2 <|
  x_aload 0 <|
  x_iload 3 <|
  x_push (vi 1) <|
  x_bin oadd <|
  x_ialoadL <|
  x_aload 0 <|
  x_iload 3 <|
  x_push (vi 2) <|
  x_bin oadd <|
  x_ialoadL <|
  x_aload 0 <|
  x_iload 3 <|
  x_push (vi 3) <|
  x_bin oadd <|
  x_ialoadL <|
  x_aload 0 <|
  x_iload 3 <|
  x_push (vi 4) <|
  x_bin oadd <|
  x_ialoadL <|
  x_cV4 M_X6_figures (e + 61) 6 <|
  x_c2 (fun x y => x = y) (
  x_iinc 3 6 <|
  (xJ M_L_law ((e + 61) + 1) 18 Q)) <|
  x_push (vi 0) <|
  x_zret Q) b [vo 0, vr c, vr m, vi (i : Int)] [] (Γ, σ) := by
  refine al1 (arg1 (k := 1) rfl (by omega) hn (arg1 (k := 2) rfl (by omega) hn (arg1 (k := 3) rfl (by omega) hn (arg1 (k := 4) rfl (by omega) hn ?_))))
  refine ⟨Nat.zero_le _, h.2.1.1.1.f0, c5_figures ⟨Int32.le_toInt _, Int32.toInt_lt _⟩ h.2.1 (fun σ1 s1 r1 => ?_)⟩
  refine xKi (al2 (arg1 (k := 1) rfl (by omega) hn (arg1 (k := 2) rfl (by omega) hn (arg1 (k := 3) rfl (by omega) hn (arg1 (k := 4) rfl (by omega) hn ?_)))))
  refine ⟨Nat.le_of_ble_eq_true rfl, (h.mid s1).1.f0, m6_figures ⟨Int32.le_toInt _, Int32.toInt_lt _⟩ (h.mid s1) (fun σ2 s2 r2 => xKi ?_)⟩
  exact ⟨fun _ => fi (by omega) (nx _ _ (PR.fin h.1 r1 s2 r2)), fun q => absurd rfl q⟩
theorem l_taken (h : PR Γ σ c m S) (hi : i + 6 ≤ (gS Γ).1) (hn : (gS Γ).1 ≤ 3072) (nx : NX Γ c m i e b Q) : (
  x_aload 1 <|
  x_aload 0 <|
  x_iload 3 <|
  x_push (vi 1) <|
  x_bin oadd <|
  x_ialoadL <|
  x_aload 0 <|
  x_iload 3 <|
  x_push (vi 2) <|
  x_bin oadd <|
  x_ialoadL <|
  x_cV2 M_X5_taken (e + 61) 5 <|
  x_aload 2 <|
  x_aload 0 <|
  x_iload 3 <|
  x_push (vi 1) <|
  x_bin oadd <|
  x_ialoadL <|
  x_aload 0 <|
  x_iload 3 <|
  x_push (vi 2) <|
  x_bin oadd <|
  x_ialoadL <|
  x_cV2 M_X6_taken (e + 61) 6 <|
  x_c2 (fun x y => x = y) (
  x_iinc 3 6 <|
  (xJ M_L_law ((e + 61) + 1) 18 Q)) <|
  x_push (vi 0) <|
  x_zret Q) b [vo 0, vr c, vr m, vi (i : Int)] [] (Γ, σ) := by
  refine al1 (arg1 (k := 1) rfl (by omega) hn (arg1 (k := 2) rfl (by omega) hn ?_))
  refine ⟨Nat.zero_le _, h.2.1.1.1.f0, c5_taken h.2.1 (?_)⟩
  refine xKi (al2 (arg1 (k := 1) rfl (by omega) hn (arg1 (k := 2) rfl (by omega) hn ?_)))
  refine ⟨Nat.le_of_ble_eq_true rfl, h.2.2.1.f0, m6_taken h.2.2 (xKi ?_)⟩
  exact ⟨fun _ => fi (by omega) (nx _ _ (PR.fin h.1 h.2.1 Sm.rf h.2.2)), fun q => absurd rfl q⟩
end Law
