/-! ===== statics of old: COMPACT_STRINGS, KIND_ABOVE ===== -/
section Str
variable {M : xMt} {pc d : Nat} {Q : xV → xMem → Prop} {k : xP}
theorem s_compact {ix : Nat} (hl : Cond.fieldLink M.1.cls ix "java/lang/String" "COMPACT_STRINGS" "Z" ∈ xG) (hd : decode M.2.1 pc = .ok (.getstatic ix, 3)) (hk : Snd M d (pc + 3) Q k) : Snd M d pc Q (x_push (vi 1) k) := fun b ls st μ h =>
  xR_go (hk b ls _ μ h) (fun hst _ _ => xok_cons (xi32_ok rfl) hst) (fun _ _ _ _ _ _ _ _ _ _ _ _ _ _ _ _ _ _ hC hS _ _ _ _ kk => by
    obtain ⟨cf, kf, fi, f, a, cell, h1, h2, h3, h4, h5, h6, h7, h8⟩ := hS.2.2.2.2.2.2.2.2.1
    exact W.gets hC.1 hC.2.1 hC.2.2.2.1 (hC.2.2.2.2.1 _ hl) h1 h2 h3 h4 h5 (fun e => by rw [e] at h6; cases h6) h7 rfl hd kk)
theorem s_kindAbove {ix : Nat} (hl : Cond.fieldLink M.1.cls ix "CrystalByTheMinute" "KIND_ABOVE" "[I" ∈ xG) (hd : decode M.2.1 pc = .ok (.getstatic ix, 3)) (hk : Snd M d (pc + 3) Q k) : Snd M d pc Q (x_push (vo 1) k) := fun b ls st μ h =>
  xR_go (hk b ls _ μ h) (fun hst _ _ => xok_cons trivial hst) (fun _ _ _ _ _ _ _ _ _ _ _ _ _ _ _ _ _ _ hC hS _ _ _ _ kk => by
    obtain ⟨cf, kf, fi, f, a, cell, h1, h2, h3, h4, h5, h6, h7, h8⟩ := hS.2.2.2.2.2.2.2.1.1
    exact W.gets hC.1 hC.2.1 hC.2.2.2.1 (hC.2.2.2.2.1 _ hl) h1 h2 h3 h4 h5 (fun e => by rw [e] at h6; cases h6) h7 rfl hd kk)
/-- ints of old rows: the script (0), KIND_ABOVE (1) -/
def x_ialoadK (k : xP) (b : Nat × Nat) (ls st : List xV) (μ : xMem) : Prop := match st with
  | .inl j :: .inr (.inr (.inr (.inl 1))) :: st => 0 ≤ j ∧ j < 6 ∧ k b ls (vi (xKA j.toNat).toInt :: st) μ
  | _ => False
theorem s_ialoadK (hd : decode M.2.1 pc = .ok (.iaload, 1)) (hk : Snd M d (pc + 1) Q k) : Snd M d pc Q (x_ialoadK k) := fun b ls st μ h => by
  match st, h with
  | .inl i :: .inr (.inr (.inr (.inl 1))) :: st, h =>
    obtain ⟨h3, h4, h⟩ := h
    exact xR_go (hk b ls _ μ h) (fun hst _ _ => xok_cons ⟨Int32.le_toInt _, Int32.toInt_lt _⟩ (xok_tail (xok_tail hst))) (fun _ _ _ _ _ _ _ _ _ _ _ _ _ _ _ _ _ _ hC hS _ _ _ hst kk => by
      obtain ⟨scr, g1, g2, g3, g4, -, g5, -⟩ := hS.2.2.2.2.2.2.2.1.2.1
      have hin : vp_in (Int32.ofInt i) 6 := x_in_of (n := 6) (xok_head hst) h3 h4
      have hc := x_clamp (xok_head hst)
      refine W.iald (v := .int (xKA i.toNat)) hC.1 hC.2.1 g1 g2 g3 (fun q => q.elim (fun z => hin (Or.inl z)) (fun z => hin (Or.inr (Nat.le_trans g4 z)))) (by rw [g5 _ (Nat.not_le.mp fun q => hin (Or.inr q)), hc]) rfl rfl hd ?_
      rw [List.map_cons, show ∀ w g, cV w g (vi (xKA i.toNat).toInt) = Value.int (xKA i.toNat) from fun w g => congrArg Value.int (Int32.ofInt_toInt _)] at kk
      exact kk)
end Str
