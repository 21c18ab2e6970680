/-! ===== texts of the class: their fields ===== -/
def x_getSv (k : xP) (b : Nat × Nat) (ls st : List xV) (μ : xMem) : Prop := match st with
  | .inr (.inr (.inr (.inl q))) :: st => (2 ≤ q ∧ q < 15) ∧ k b ls (vo (q + 13) :: st) μ
  | _ => False
def x_getSc (k : xP) (b : Nat × Nat) (ls st : List xV) (μ : xMem) : Prop := match st with
  | .inr (.inr (.inr (.inl q))) :: st => (2 ≤ q ∧ q < 15) ∧ k b ls (vi 0 :: st) μ
  | _ => False
def x_alenS (k : xP) (b : Nat × Nat) (ls st : List xV) (μ : xMem) : Prop := match st with
  | .inr (.inr (.inr (.inl q))) :: st => (15 ≤ q ∧ q < 28) ∧ k b ls (vi ((xLen.getD (q - 15) 0 : Nat) : Int) :: st) μ
  | _ => False
def x_baloadS (k : xP) (b : Nat × Nat) (ls st : List xV) (μ : xMem) : Prop := match st with
  | .inl j :: .inr (.inr (.inr (.inl q))) :: st => (15 ≤ q ∧ q < 28) ∧ 0 ≤ j ∧ j < ((xLen.getD (q - 15) 0 : Nat) : Int) ∧ k b ls (vi ((xByt.getD (q - 15) []).getD j.toNat 0).toInt :: st) μ
  | _ => False
theorem xLen_le : ∀ j : Fin 13, xLen.getD j.val 0 ≤ 38 := by decide
section Str
variable {M : xMt} {pc d : Nat} {Q : xV → xMem → Prop} {k : xP}
theorem s_getSv {ix : Nat} (hl : Cond.fieldLink M.1.cls ix "java/lang/String" "value" "[B" ∈ xG) (hd : decode M.2.1 pc = .ok (.getfield ix, 3)) (hk : Snd M d (pc + 3) Q k) : Snd M d pc Q (x_getSv k) := fun b ls st μ h => by
  match st, h with
  | .inr (.inr (.inr (.inl q))) :: st, h =>
    obtain ⟨⟨h1, h2⟩, h⟩ := h
    obtain ⟨j, rfl⟩ : ∃ j, q = j + 2 := ⟨q - 2, by omega⟩
    exact xR_go (hk b ls _ μ h) (fun hst _ _ => xok_cons trivial (xok_tail hst)) (fun _ _ _ _ _ _ _ _ _ _ _ _ _ _ _ _ _ _ hC hS _ _ _ _ kk => by
      obtain ⟨cf, k, fi, f, cell, g1, g2, g3, g4, g5, g6⟩ := (hS.2.2.2.2.2.2.2.2.2.1.1 j (by omega)).2.2.1
      exact W.getf hC.1 hC.2.1 hC.2.2.2.1 (hC.2.2.2.2.1 _ hl) g1 g2 g3 g4 g5 rfl rfl hd kk)
theorem s_getSc {ix : Nat} (hl : Cond.fieldLink M.1.cls ix "java/lang/String" "coder" "B" ∈ xG) (hd : decode M.2.1 pc = .ok (.getfield ix, 3)) (hk : Snd M d (pc + 3) Q k) : Snd M d pc Q (x_getSc k) := fun b ls st μ h => by
  match st, h with
  | .inr (.inr (.inr (.inl q))) :: st, h =>
    obtain ⟨⟨h1, h2⟩, h⟩ := h
    obtain ⟨j, rfl⟩ : ∃ j, q = j + 2 := ⟨q - 2, by omega⟩
    exact xR_go (hk b ls _ μ h) (fun hst _ _ => xok_cons (xi32_ok rfl) (xok_tail hst)) (fun _ _ _ _ _ _ _ _ _ _ _ _ _ _ _ _ _ _ hC hS _ _ _ _ kk => by
      obtain ⟨cf, k, fi, f, cell, g1, g2, g3, g4, g5, g6⟩ := (hS.2.2.2.2.2.2.2.2.2.1.1 j (by omega)).2.1
      exact W.getf hC.1 hC.2.1 hC.2.2.2.1 (hC.2.2.2.2.1 _ hl) g1 g2 g3 g4 g5 rfl rfl hd kk)
theorem s_alenS (hd : decode M.2.1 pc = .ok (.arraylength, 1)) (hk : Snd M d (pc + 1) Q k) : Snd M d pc Q (x_alenS k) := fun b ls st μ h => by
  match st, h with
  | .inr (.inr (.inr (.inl q))) :: st, h =>
    obtain ⟨⟨h1, h2⟩, h⟩ := h
    obtain ⟨j, rfl⟩ : ∃ j, q = j + 15 := ⟨q - 15, by omega⟩
    rw [Nat.add_sub_cancel] at h
    have hl := xLen_le ⟨j, by omega⟩
    exact xR_go (hk b ls _ μ h) (fun hst _ _ => xok_cons (by constructor <;> (dsimp only at hl; omega)) (xok_tail hst)) (fun _ _ _ _ _ _ _ _ _ _ _ _ _ _ _ _ _ _ hC hS _ _ _ _ kk => by
      obtain ⟨cell, g1, g2, g3, g4, g5, g6, g7⟩ := (hS.2.2.2.2.2.2.2.2.2.1.1 j (by omega)).2.2.2
      refine W.alen (n := Int32.ofNat (xLen.getD j 0)) hC.1 hC.2.1 g1 g2 g5 rfl rfl hd ?_
      rw [← Int32.ofInt_eq_ofNat]
      exact kk)
theorem s_baloadS (hd : decode M.2.1 pc = .ok (.baload, 1)) (hk : Snd M d (pc + 1) Q k) : Snd M d pc Q (x_baloadS k) := fun b ls st μ h => by
  match st, h with
  | .inl i :: .inr (.inr (.inr (.inl q))) :: st, h =>
    obtain ⟨⟨h1, h2⟩, h3, h4, h⟩ := h
    obtain ⟨j, rfl⟩ : ∃ j, q = j + 15 := ⟨q - 15, by omega⟩
    rw [Nat.add_sub_cancel] at h h4
    exact xR_go (hk b ls _ μ h) (fun hst _ _ => xok_cons ⟨Int32.le_toInt _, Int32.toInt_lt _⟩ (xok_tail (xok_tail hst))) (fun _ _ _ _ _ _ _ _ _ _ _ _ _ _ _ _ _ _ hC hS _ _ _ hst kk => by
      obtain ⟨cell, g1, g2, g3, g4, g5, g6, g7⟩ := (hS.2.2.2.2.2.2.2.2.2.1.1 j (by omega)).2.2.2
      have hin := x_in_of (xok_head hst) h3 h4
      have hc := x_clamp (xok_head hst)
      have hlt : (Int32.ofInt i).toNatClampNeg < xLen.getD j 0 := Nat.not_le.mp fun q => hin (Or.inr q)
      refine W.bald (v := .int ((xByt.getD j []).getD i.toNat 0)) hC.1 hC.2.1 g1 g2 g3 (fun q => ?_) (by rw [g6 _ hlt, hc]) rfl rfl hd ?_
      · rcases q with q | q
        · exact hin (Or.inl q)
        · omega
      · rw [List.map_cons, show ∀ w g, cV w g (vi ((xByt.getD j []).getD i.toNat 0).toInt) = Value.int ((xByt.getD j []).getD i.toNat 0) from fun w g => congrArg Value.int (Int32.ofInt_toInt _)] at kk
        exact kk)
end Str
