/-! ===== fields and arrays ===== -/
theorem xIn0 : ∀ w ∈ wsX00, w ∈ xG := fun w h => xG_in ((by decide +kernel : ∀ w ∈ wsX00, w ∈ lw_tbl) w h) ((by decide +kernel : ∀ w ∈ wsX00, goodWord w = true) w h)
theorem xIn1 : ∀ w ∈ wsX10, w ∈ xG := fun w h => xG_in ((by decide +kernel : ∀ w ∈ wsX10, w ∈ lw_tbl) w h) ((by decide +kernel : ∀ w ∈ wsX10, goodWord w = true) w h)
theorem xIn2 : ∀ w ∈ wsX20, w ∈ xG := fun w h => xG_in ((by decide +kernel : ∀ w ∈ wsX20, w ∈ lw_tbl) w h) ((by decide +kernel : ∀ w ∈ wsX20, goodWord w = true) w h)
theorem xIn3 : ∀ w ∈ wsX30, w ∈ xG := fun w h => xG_in ((by decide +kernel : ∀ w ∈ wsX30, w ∈ lw_tbl) w h) ((by decide +kernel : ∀ w ∈ wsX30, goodWord w = true) w h)
theorem xIn4 : ∀ w ∈ wsX40, w ∈ xG := fun w h => xG_in ((by decide +kernel : ∀ w ∈ wsX40, w ∈ lw_tbl) w h) ((by decide +kernel : ∀ w ∈ wsX40, goodWord w = true) w h)
theorem xIn5 : ∀ w ∈ wsX50, w ∈ xG := fun w h => xG_in ((by decide +kernel : ∀ w ∈ wsX50, w ∈ lw_tbl) w h) ((by decide +kernel : ∀ w ∈ wsX50, goodWord w = true) w h)
theorem xIn6 : ∀ w ∈ wsX60, w ∈ xG := fun w h => xG_in ((by decide +kernel : ∀ w ∈ wsX60, w ∈ lw_tbl) w h) ((by decide +kernel : ∀ w ∈ wsX60, goodWord w = true) w h)
/-- a class of ours: its number, name, fields, how many; all that the rows want of it -/
def xCl (ci : Nat) (C : String) (T : u_T) (N : Nat) : Prop := vwCl[ci]? = some (C, T, N) ∧ xNf ci = N ∧ (∀ w ∈ u_ws C T N, w ∈ xG) ∧ (∀ k, k < N → parseFieldDescriptor (T k).2.2.1 = some (xTy ci k)) ∧ ∀ a, a < N → ∀ b, b < N → a ≠ b → (T a).2.1 ≠ (T b).2.1
theorem xC0 : xCl 0 RX0 TX0 16 := ⟨rfl, rfl, xIn0, tyX0_ok, nmX0⟩
theorem xC1 : xCl 1 RX1 TX1 3 := ⟨rfl, rfl, xIn1, tyX1_ok, nmX1⟩
theorem xC2 : xCl 2 RX2 TX2 6 := ⟨rfl, rfl, xIn2, tyX2_ok, nmX2⟩
theorem xC3 : xCl 3 RX3 TX3 4 := ⟨rfl, rfl, xIn3, tyX3_ok, nmX3⟩
theorem xC4 : xCl 4 RX4 TX4 12 := ⟨rfl, rfl, xIn4, tyX4_ok, nmX4⟩
theorem xC5 : xCl 5 RX5 TX5 9 := ⟨rfl, rfl, xIn5, tyX5_ok, nmX5⟩
theorem xC6 : xCl 6 RX6 TX6 52 := ⟨rfl, rfl, xIn6, tyX6_ok, nmX6⟩
