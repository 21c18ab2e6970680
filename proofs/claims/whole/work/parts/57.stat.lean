/-! ===== statics of old: COMPACT_STRINGS, KIND_ABOVE ===== -/
section Str
variable {M : xMt} {pc d : Nat} {Q : xV → xMem → Prop} {k : xP}
theorem s_compact {ix : Nat} (hl : Cond.fieldLink M.1.cls ix "java/lang/String" "COMPACT_STRINGS" "Z" ∈ xG) (hd : decode M.2.1 pc = .ok (.getstatic ix, 3)) (hk : Snd M d (pc + 3) Q k) : Snd M d pc Q (x_push (vi 1) k) := fun b ls st μ h =>
  xR_go (hk b ls _ μ h) (fun hst _ _ => xok_cons (xi32_ok rfl) hst) (fun _ _ _ _ _ _ _ _ _ _ _ _ _ _ _ _ _ _ hC hS _ _ _ _ kk => by
    obtain ⟨cf, kf, fi, f, a, cell, h1, h2, h3, h4, h5, h6, h7, h8⟩ := hS.2.2.2.2.2.2.2.2.1
    exact W.gets hC.1 hC.2.1 hC.2.2.2.1 (hC.2.2.2.2.1 _ hl) h1 h2 h3 h4 h5 (fun e => by rw [e] at h6; cases h6) h7 rfl hd kk)
theorem s_kindAbove {ix : Nat} (hl : Cond.fieldLink M.1.cls ix "CrystalByTheMinute" "KIND_ABOVE" "[I" ∈ xG) (hd : decode M.2.1 pc = .ok (.getstatic ix, 3)) (hk : Snd M d (pc + 3) Q k) : Snd M d pc Q (x_push (vo 1) k) := fun b ls st μ h =>
  xR_go (hk b ls _ μ h) (fun hst _ _ => xok_cons trivial hst) (fun _ _ _ _ _ _ _ _ _ _ _ _ _ _ _ _ _ _ hC hS _ _ _ _ kk => by
    obtain ⟨cf, kf, fi, f, a, cell, h1, h2, h3, h4, h5, h6, h7, h8⟩ := hS.2.2.2.2.2.2.2.1.1
    exact W.gets hC.1 hC.2.1 hC.2.2.2.1 (hC.2.2.2.2.1 _ hl) h1 h2 h3 h4 h5 (fun e => by rw [e] at h6; cases h6) h7 rfl hd kk)
/-- ints of old rows: the script (0), KIND_ABOVE (1) -/
def x_ialoadK (k : xP) (b : Nat × Nat) (ls st : List xV) (μ : xMem) : Prop := match st with
  | .inl j :: .inr (.inr (.inr (.inl 1))) :: st => 0 ≤ j ∧ j < 6 ∧ k b ls (vi (xKA j.toNat).toInt :: st) μ
  | _ => False
end Str
