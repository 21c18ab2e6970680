/-! ===== ints, as numbers ===== -/
theorem oadd_id {a b : Int} (h1 : -2147483648 ≤ a + b) (h2 : a + b < 2147483648) : oadd a b = a + b := by
  rw [oadd_def]
  rw [← Int32.ofInt_add]
  exact toInt_i32 ⟨h1, h2⟩
theorem osub_id {a b : Int} (h1 : -2147483648 ≤ a - b) (h2 : a - b < 2147483648) : osub a b = a - b := by
  rw [osub_def]
  rw [← Int32.ofInt_sub]
  exact toInt_i32 ⟨h1, h2⟩
theorem omul_id {a b : Int} (h1 : -2147483648 ≤ a * b) (h2 : a * b < 2147483648) : omul a b = a * b := by
  rw [omul_def]
  rw [← Int32.ofInt_mul]
  exact toInt_i32 ⟨h1, h2⟩
theorem oneg_id {a : Int} (h1 : -2147483648 ≤ -a) (h2 : -a < 2147483648) : oneg a = -a := by
  rw [oneg_def]
  rw [← Int32.ofInt_neg]
  exact toInt_i32 ⟨h1, h2⟩
/-- 32 bits, wrapping -/
def w32 (x : Int) : Int := (x + 2147483648) % 4294967296 - 2147483648
theorem w32_toInt (x : Int) : (Int32.ofInt x).toInt = w32 x := by
  rw [Int32.toInt_ofInt]
  unfold w32
  rw [show Int32.size = 4294967296 from rfl, Int.bmod_def]
  split <;> omega
theorem oadd_w (a b : Int) : oadd a b = w32 (a + b) := by
  rw [oadd_def]
  rw [← Int32.ofInt_add, w32_toInt]
theorem osub_w (a b : Int) : osub a b = w32 (a - b) := by
  rw [osub_def]
  rw [← Int32.ofInt_sub, w32_toInt]
theorem omul_w (a b : Int) : omul a b = w32 (a * b) := by
  rw [omul_def]
  rw [← Int32.ofInt_mul, w32_toInt]
theorem oneg_w (a : Int) : oneg a = w32 (-a) := by
  rw [oneg_def]
  rw [← Int32.ofInt_neg, w32_toInt]
theorem w32_i32 (x : Int) : i32 (w32 x) := by
  unfold w32 i32
  omega
theorem w32_id {x : Int} (h1 : -2147483648 ≤ x) (h2 : x < 2147483648) : w32 x = x := by
  unfold w32
  omega
theorem odiv_id {a b : Int} (ha : i32 a) (h0 : 0 < b) (hb : i32 b) : odiv a b = a.tdiv b := by
  rw [odiv_def]
  rw [Int32.toInt_div_of_ne_right, toInt_i32 ha, toInt_i32 hb]
  intro e
  have := congrArg Int32.toInt e
  rw [toInt_i32 hb] at this
  have h1 : (-1 : Int32).toInt = -1 := by decide
  omega
theorem odiv_nn {a b : Int} (ha : 0 ≤ a) (ha2 : a < 2147483648) (h0 : 0 < b) (hb : b < 2147483648) : odiv a b = a / b := by
  rw [odiv_id ⟨by omega, ha2⟩ h0 ⟨by omega, hb⟩, Int.tdiv_eq_ediv_of_nonneg ha]
theorem orem_id {a b : Int} (ha : i32 a) (h0 : 0 < b) (hb : i32 b) : orem a b = a.tmod b := by
  have e1 : Int32.ofInt a / Int32.ofInt b = Int32.ofInt (a.tdiv b) := by
    have := odiv_id ha h0 hb
    rw [odiv_def] at this
    rw [← this, Int32.ofInt_toInt]
  rw [orem_def]
  rw [e1, ← Int32.ofInt_mul, ← Int32.ofInt_sub]
  have e2 : a - a.tdiv b * b = a.tmod b := by
    have := Int.tdiv_mul_add_tmod a b
    omega
  rw [e2, toInt_i32]
  have h1 := Int.tmod_lt_of_pos a h0
  have h2 : -b < a.tmod b := by
    have := Int.lt_tmod_of_pos a h0
    omega
  have h3 := hb.2
  have h4 := hb.1
  exact ⟨by omega, by omega⟩
theorem orem_nn {a b : Int} (ha : 0 ≤ a) (ha2 : a < 2147483648) (h0 : 0 < b) (hb : b < 2147483648) : orem a b = a % b := by
  rw [orem_id ⟨by omega, ha2⟩ h0 ⟨by omega, hb⟩, Int.tmod_eq_emod_of_nonneg ha]
/-- bit k of x -/
def xbit (x : Int) (k : Nat) : Int := x / 2 ^ k % 2
theorem xbit_01 (x : Int) (k : Nat) : xbit x k = 0 ∨ xbit x k = 1 := by
  unfold xbit
  omega
theorem oshr_id {x k : Int} (hx : i32 x) (h0 : 0 ≤ k) (h1 : k < 32) : oshr x k = x / 2 ^ k.toNat := by
  have key : ∀ n : Fin 32, ((Int32.ofInt (n.val : Int) &&& 31).toBitVec.smod 32).toNat = n.val := by decide +kernel
  have := key ⟨k.toNat, by omega⟩
  have e : ((k.toNat : Nat) : Int) = k := by omega
  simp only [e] at this
  rw [oshr_def]
  rw [pk_shr _ _ k.toNat this, toInt_i32 hx, Int.shiftRight_eq_div_pow]
  rfl
theorem oand_1 (x : Int) : oand x 1 = x % 2 := by
  rw [oand_def]
  rw [show Int32.ofInt 1 = 1 from rfl, pk_and _ 1 (by decide), nI_toInt (by omega)]
  have h1 := w32_toInt x
  have h2 : (Int32.ofInt x).toInt = if 2 * (Int32.ofInt x).toBitVec.toNat < 2 ^ 32 then ((Int32.ofInt x).toBitVec.toNat : Int) else ((Int32.ofInt x).toBitVec.toNat : Int) - ((2 ^ 32 : Nat) : Int) := BitVec.toInt_eq_toNat_cond _
  unfold w32 at h1
  split at h2 <;> omega
theorem obit {x k : Int} (hx : i32 x) (h0 : 0 ≤ k) (h1 : k < 32) : oand (oshr x k) 1 = xbit x k.toNat := by
  rw [oshr_id hx h0 h1, oand_1]
  rfl
theorem xR_wf {M : xMt} {d pc : Nat} {b : Nat × Nat} {ls st : List xV} {μ : xMem} {Q : xV → xMem → Prop} (h : xWf μ → xR M d b pc ls st μ Q) : xR M d b pc ls st μ Q := by
  intro p l e s m args below meth c Rm w g0 n0 g H locs cells slots lsM hC a1 a2 a3 a4 a5 a6 hS hV hb hL hst
  exact h hS.2.2.2.2.2.1 p l e s m args below meth c Rm w g0 n0 g H locs cells slots lsM hC a1 a2 a3 a4 a5 a6 hS hV hb hL hst
theorem xR_ok {M : xMt} {d pc : Nat} {b : Nat × Nat} {ls st : List xV} {μ : xMem} {Q : xV → xMem → Prop} (h : (∀ v ∈ ls, xVok (gN μ.1) v) → xR M d b pc ls st μ Q) : xR M d b pc ls st μ Q := by
  intro p l e s m args below meth c Rm w g0 n0 g H locs cells slots lsM hC a1 a2 a3 a4 a5 a6 hS hV hb hL hst
  exact h hL.2.2 p l e s m args below meth c Rm w g0 n0 g H locs cells slots lsM hC a1 a2 a3 a4 a5 a6 hS hV hb hL hst
theorem gArr_of {Γ : xSh} {a n : Nat} {ty : FieldType} (h : gK Γ a = some (.inr (ty, n))) : gArr Γ a ty = True := eq_true ⟨n, h⟩
