/-! ===== the law: its loop, its start ===== -/
section Law
variable {Γ : xSh} {c m e : Nat} {b : Nat × Nat} {Q : xV → xMem → Prop}
theorem law_turn {σ : Nat → Nat → Int} {i : Nat} {S : xSt} (h : PR Γ σ c m S) (hn : (gS Γ).1 ≤ 3072) (hi : i ≤ (gS Γ).1) (hQ : ∀ μ, Q (vi 1) μ) (nx : i + 6 ≤ (gS Γ).1 → NX Γ c m i e b Q) : xR M_L_law ((e + 61) + 1) b 18 [vo 0, vr c, vr m, vi (i : Int)] [] (Γ, σ) Q := by
  refine b_L_law_18 _ _ _ _ ?_
  have hx : (gS Γ).1 < 2147483648 := by omega
  refine ⟨hx, fun q => ⟨Or.inr rfl, hQ _⟩, fun q => ?_⟩
  have q : ¬ osub ((gS Γ).1 : Int) 6 < (i : Int) := q
  rw [(show osub ((gS Γ).1 : Int) 6 = ((gS Γ).1 : Int) - 6 by (first | rw [oadd_id (by omega) (by omega)] | rw [osub_id (by omega) (by omega)] | rw [omul_id (by omega) (by omega)]) <;> omega)] at q
  have h6 : i + 6 ≤ (gS Γ).1 := by omega
  have nx := nx h6
  refine ⟨(by show (0 : Int) ≤ (i : Int); omega), (by show (i : Int) < ((gS Γ).1 : Int); omega), fun _ => l_set h h6 hn nx, fun _ => l_figure h h6 hn nx, fun _ => l_client h h6 hn nx, fun _ => l_told h h6 hn nx, fun _ => l_glad h h6 hn nx, fun _ => l_feed h h6 hn nx, fun _ => l_text h h6 hn nx, fun _ => l_force h h6 hn nx, fun _ => l_show h h6 hn nx, fun _ => l_take h h6 hn nx, fun _ => l_showing h h6 hn nx, fun _ => l_few h h6 hn nx, fun _ => l_missed h h6 hn nx, fun _ => l_change h h6 hn nx, fun _ => l_raise h h6 hn nx, fun _ => l_dear h h6 hn nx, fun _ => l_tells h h6 hn nx, fun _ => l_film h h6 hn nx, fun _ => l_drawn h h6 hn nx, fun _ => l_chance h h6 hn nx, fun _ => l_image h h6 hn nx, fun _ => l_back h h6 hn nx, fun _ => l_count h h6 hn nx, fun _ => l_sheet h h6 hn nx, fun _ => l_cell h h6 hn nx, fun _ => l_copy h h6 hn nx, fun _ => l_figures h h6 hn nx, fun _ => l_taken h h6 hn nx, fun _ => fi (by omega) (nx σ S h)⟩
theorem law_loop (hn : (gS Γ).1 ≤ 3072) (hQ : ∀ μ, Q (vi 1) μ) : ∀ (k i : Nat) (σ : Nat → Nat → Int) (S : xSt), i ≤ (gS Γ).1 → (gS Γ).1 - i ≤ k → PR Γ σ c m S → xR M_L_law ((e + 61) + 1) b 18 [vo 0, vr c, vr m, vi (i : Int)] [] (Γ, σ) Q := by
  intro k
  induction k with
  | zero => exact fun i σ S hi hk h => law_turn h hn hi hQ (fun z => by omega)
  | succ k ih => exact fun i σ S hi hk h => law_turn h hn hi hQ (fun z σ' S' h' => ih (i + 6) σ' S' z (by omega) h')
/-- nothing is there yet, but the script -/
def G0 (scr : Nat × (Nat → Int32)) : xSh := (0, fun _ => none, fun _ _ => none, scr)
set_option maxHeartbeats 4000000 in
theorem law_all {scr : Nat × (Nat → Int32)} (hn : scr.1 ≤ 3072) (hQ : ∀ μ, Q (vi 1) μ) : xR M_L_law ((e + 61) + 1) (105, 3406) 0 [vo 0, vu, vu, vu] [] (G0 scr, fun _ _ => 0) Q := by
  refine b_L_law_0 _ _ _ _ ?_
  have hP := push_PO (μ := (G0 scr, fun _ _ => 0)) (n := 0) (kd := .inl 5) rfl
  refine ⟨⟨by decide, by decide⟩, trivial, Nat.le_of_ble_eq_true rfl, ⟨by decide, by decide⟩, ?_⟩
  refine i_class (d := e + 3) (c := 0) hP.1 (hP.k (o := 0) (kd := .inl 5) List.mem_cons_self) hP.2.2.2.2.2.1 (fun μ2 n2 x2 t2 v2 => ?_)
  have hP2 := push_PO (μ := μ2) (n := 85) (kd := .inl 6) (by rw [n2])
  refine ⟨trivial, ⟨by decide, by decide⟩, trivial, Nat.le_of_ble_eq_true rfl, ⟨by decide, by decide⟩, ?_⟩
  show xRM M_X6_init (e + 61) BUD_X6_init [vr (gN μ2.1)] (gPush μ2.1 (.inl 6), zer2 μ2.2 (gN μ2.1)) (xK (x_astore 2 <| x_push (vi 0) <| x_istore 3 <| xJ M_L_law ((e + 61) + 1) 18 Q) (19 + 0 - 19, 1498 + 0 - 1498) [vo 0, vr 0, vu, vu] [vr (gN μ2.1)])
  rw [show [vr (gN μ2.1)] = [vr 85] by rw [n2]]
  refine i_model (d := e + 59) hP2.1 (hP2.k (o := 0) (kd := .inl 6) List.mem_cons_self) hP2.2.2.2.2.2.1 (fun μ3 x3 s3 v3 => ?_)
  obtain ⟨Γ3, σ3⟩ := μ3
  have hG : Gx 85 μ2 (Γ3, σ3) := (Gx.rf.push (by omega)).tr x3 (Nat.le_refl _)
  have hs : gS Γ3 = scr := hG.1.trans x2.1
  have hR : PR Γ3 σ3 0 85 S0 := ⟨Nat.le_refl _, ⟨CS_of (t2.gx hG (Nat.le_refl _)), v2.far (by decide) (fun k _ hk => (hG.2 k (by omega)).2.2), S0_ok⟩, s3, v3, S0_ok⟩
  refine ⟨trivial, trivial, ?_⟩
  show xR M_L_law ((e + 61) + 1) (19 + 0 - 19, 1498 + 0 - 1498) 18 [vo 0, vr 0, vr 85, vi ((0 : Nat) : Int)] [] (Γ3, σ3) Q
  exact law_loop (by rw [hs]; exact hn) hQ _ 0 σ3 S0 (Nat.zero_le _) (Nat.le_refl _) hR
end Law
