/-! ===== instructions that change locals and stack alone ===== -/
theorem i32_toInt (x : Int32) : i32 x.toInt := ⟨Int32.le_toInt x, Int32.toInt_lt x⟩
theorem i64_toInt (x : Int64) : i64 x.toInt := ⟨Int64.le_toInt x, Int64.toInt_lt x⟩
theorem toInt_i32 {x : Int} (h : i32 x) : (Int32.ofInt x).toInt = x := Int32.toInt_ofInt_of_le h.1 h.2
theorem toInt_i64 {x : Int} (h : i64 x) : (Int64.ofInt x).toInt = x := Int64.toInt_ofInt_of_le h.1 h.2
def oaddW (n : Nat) (a b : Int) : Int := if h : n = 0 then (Int32.ofInt a + Int32.ofInt b).toInt else oaddW (n - 1) a b
termination_by n
decreasing_by omega
def oadd (a b : Int) : Int := oaddW 0 a b
theorem oadd_def (a b : Int) : oadd a b = (Int32.ofInt a + Int32.ofInt b).toInt := by
  unfold oadd
  rw [oaddW]
  rfl
theorem oadd_ok (a b : Int) : i32 (oadd a b) := by
  rw [oadd_def]
  exact i32_toInt _
def osubW (n : Nat) (a b : Int) : Int := if h : n = 0 then (Int32.ofInt a - Int32.ofInt b).toInt else osubW (n - 1) a b
termination_by n
decreasing_by omega
def osub (a b : Int) : Int := osubW 0 a b
theorem osub_def (a b : Int) : osub a b = (Int32.ofInt a - Int32.ofInt b).toInt := by
  unfold osub
  rw [osubW]
  rfl
theorem osub_ok (a b : Int) : i32 (osub a b) := by
  rw [osub_def]
  exact i32_toInt _
def omulW (n : Nat) (a b : Int) : Int := if h : n = 0 then (Int32.ofInt a * Int32.ofInt b).toInt else omulW (n - 1) a b
termination_by n
decreasing_by omega
def omul (a b : Int) : Int := omulW 0 a b
theorem omul_def (a b : Int) : omul a b = (Int32.ofInt a * Int32.ofInt b).toInt := by
  unfold omul
  rw [omulW]
  rfl
theorem omul_ok (a b : Int) : i32 (omul a b) := by
  rw [omul_def]
  exact i32_toInt _
def onegW (n : Nat) (a : Int) : Int := if h : n = 0 then (- Int32.ofInt a).toInt else onegW (n - 1) a
termination_by n
decreasing_by omega
def oneg (a : Int) : Int := onegW 0 a
theorem oneg_def (a : Int) : oneg a = (- Int32.ofInt a).toInt := by
  unfold oneg
  rw [onegW]
  rfl
theorem oneg_ok (a : Int) : i32 (oneg a) := by
  rw [oneg_def]
  exact i32_toInt _
def odivW (n : Nat) (a b : Int) : Int := if h : n = 0 then (Int32.ofInt a / Int32.ofInt b).toInt else odivW (n - 1) a b
termination_by n
decreasing_by omega
def odiv (a b : Int) : Int := odivW 0 a b
theorem odiv_def (a b : Int) : odiv a b = (Int32.ofInt a / Int32.ofInt b).toInt := by
  unfold odiv
  rw [odivW]
  rfl
theorem odiv_ok (a b : Int) : i32 (odiv a b) := by
  rw [odiv_def]
  exact i32_toInt _
def oremW (n : Nat) (a b : Int) : Int := if h : n = 0 then (Int32.ofInt a - Int32.ofInt a / Int32.ofInt b * Int32.ofInt b).toInt else oremW (n - 1) a b
termination_by n
decreasing_by omega
def orem (a b : Int) : Int := oremW 0 a b
theorem orem_def (a b : Int) : orem a b = (Int32.ofInt a - Int32.ofInt a / Int32.ofInt b * Int32.ofInt b).toInt := by
  unfold orem
  rw [oremW]
  rfl
theorem orem_ok (a b : Int) : i32 (orem a b) := by
  rw [orem_def]
  exact i32_toInt _
def oandW (n : Nat) (a b : Int) : Int := if h : n = 0 then (Int32.ofInt a &&& Int32.ofInt b).toInt else oandW (n - 1) a b
termination_by n
decreasing_by omega
def oand (a b : Int) : Int := oandW 0 a b
theorem oand_def (a b : Int) : oand a b = (Int32.ofInt a &&& Int32.ofInt b).toInt := by
  unfold oand
  rw [oandW]
  rfl
theorem oand_ok (a b : Int) : i32 (oand a b) := by
  rw [oand_def]
  exact i32_toInt _
def oorW (n : Nat) (a b : Int) : Int := if h : n = 0 then (Int32.ofInt a ||| Int32.ofInt b).toInt else oorW (n - 1) a b
termination_by n
decreasing_by omega
def oor (a b : Int) : Int := oorW 0 a b
theorem oor_def (a b : Int) : oor a b = (Int32.ofInt a ||| Int32.ofInt b).toInt := by
  unfold oor
  rw [oorW]
  rfl
theorem oor_ok (a b : Int) : i32 (oor a b) := by
  rw [oor_def]
  exact i32_toInt _
def oxorW (n : Nat) (a b : Int) : Int := if h : n = 0 then (Int32.ofInt a ^^^ Int32.ofInt b).toInt else oxorW (n - 1) a b
termination_by n
decreasing_by omega
def oxor (a b : Int) : Int := oxorW 0 a b
theorem oxor_def (a b : Int) : oxor a b = (Int32.ofInt a ^^^ Int32.ofInt b).toInt := by
  unfold oxor
  rw [oxorW]
  rfl
theorem oxor_ok (a b : Int) : i32 (oxor a b) := by
  rw [oxor_def]
  exact i32_toInt _
def oshlW (n : Nat) (a b : Int) : Int := if h : n = 0 then (Int32.ofInt a <<< (Int32.ofInt b &&& 31)).toInt else oshlW (n - 1) a b
termination_by n
decreasing_by omega
def oshl (a b : Int) : Int := oshlW 0 a b
theorem oshl_def (a b : Int) : oshl a b = (Int32.ofInt a <<< (Int32.ofInt b &&& 31)).toInt := by
  unfold oshl
  rw [oshlW]
  rfl
theorem oshl_ok (a b : Int) : i32 (oshl a b) := by
  rw [oshl_def]
  exact i32_toInt _
def oshrW (n : Nat) (a b : Int) : Int := if h : n = 0 then (Int32.ofInt a >>> (Int32.ofInt b &&& 31)).toInt else oshrW (n - 1) a b
termination_by n
decreasing_by omega
def oshr (a b : Int) : Int := oshrW 0 a b
theorem oshr_def (a b : Int) : oshr a b = (Int32.ofInt a >>> (Int32.ofInt b &&& 31)).toInt := by
  unfold oshr
  rw [oshrW]
  rfl
theorem oshr_ok (a b : Int) : i32 (oshr a b) := by
  rw [oshr_def]
  exact i32_toInt _
def oushrW (n : Nat) (a b : Int) : Int := if h : n = 0 then ((Int32.ofInt a).toUInt32 >>> ((Int32.ofInt b).toUInt32 &&& Int32.toUInt32 31)).toInt32.toInt else oushrW (n - 1) a b
termination_by n
decreasing_by omega
def oushr (a b : Int) : Int := oushrW 0 a b
theorem oushr_def (a b : Int) : oushr a b = ((Int32.ofInt a).toUInt32 >>> ((Int32.ofInt b).toUInt32 &&& Int32.toUInt32 31)).toInt32.toInt := by
  unfold oushr
  rw [oushrW]
  rfl
theorem oushr_ok (a b : Int) : i32 (oushr a b) := by
  rw [oushr_def]
  exact i32_toInt _
def oi2bW (n : Nat) (a : Int) : Int := if h : n = 0 then (Int32.ofInt a).toInt8.toInt32.toInt else oi2bW (n - 1) a
termination_by n
decreasing_by omega
def oi2b (a : Int) : Int := oi2bW 0 a
theorem oi2b_def (a : Int) : oi2b a = (Int32.ofInt a).toInt8.toInt32.toInt := by
  unfold oi2b
  rw [oi2bW]
  rfl
theorem oi2b_ok (a : Int) : i32 (oi2b a) := by
  rw [oi2b_def]
  exact i32_toInt _
def oi2sW (n : Nat) (a : Int) : Int := if h : n = 0 then (Int32.ofInt a).toInt16.toInt32.toInt else oi2sW (n - 1) a
termination_by n
decreasing_by omega
def oi2s (a : Int) : Int := oi2sW 0 a
theorem oi2s_def (a : Int) : oi2s a = (Int32.ofInt a).toInt16.toInt32.toInt := by
  unfold oi2s
  rw [oi2sW]
  rfl
theorem oi2s_ok (a : Int) : i32 (oi2s a) := by
  rw [oi2s_def]
  exact i32_toInt _
def ol2iW (n : Nat) (a : Int) : Int := if h : n = 0 then (Int64.ofInt a).toInt32.toInt else ol2iW (n - 1) a
termination_by n
decreasing_by omega
def ol2i (a : Int) : Int := ol2iW 0 a
theorem ol2i_def (a : Int) : ol2i a = (Int64.ofInt a).toInt32.toInt := by
  unfold ol2i
  rw [ol2iW]
  rfl
theorem ol2i_ok (a : Int) : i32 (ol2i a) := by
  rw [ol2i_def]
  exact i32_toInt _
def oladdW (n : Nat) (a b : Int) : Int := if h : n = 0 then (Int64.ofInt a + Int64.ofInt b).toInt else oladdW (n - 1) a b
termination_by n
decreasing_by omega
def oladd (a b : Int) : Int := oladdW 0 a b
theorem oladd_def (a b : Int) : oladd a b = (Int64.ofInt a + Int64.ofInt b).toInt := by
  unfold oladd
  rw [oladdW]
  rfl
theorem oladd_ok (a b : Int) : i64 (oladd a b) := by
  rw [oladd_def]
  exact i64_toInt _
def olsubW (n : Nat) (a b : Int) : Int := if h : n = 0 then (Int64.ofInt a - Int64.ofInt b).toInt else olsubW (n - 1) a b
termination_by n
decreasing_by omega
def olsub (a b : Int) : Int := olsubW 0 a b
theorem olsub_def (a b : Int) : olsub a b = (Int64.ofInt a - Int64.ofInt b).toInt := by
  unfold olsub
  rw [olsubW]
  rfl
theorem olsub_ok (a b : Int) : i64 (olsub a b) := by
  rw [olsub_def]
  exact i64_toInt _
def olmulW (n : Nat) (a b : Int) : Int := if h : n = 0 then (Int64.ofInt a * Int64.ofInt b).toInt else olmulW (n - 1) a b
termination_by n
decreasing_by omega
def olmul (a b : Int) : Int := olmulW 0 a b
theorem olmul_def (a b : Int) : olmul a b = (Int64.ofInt a * Int64.ofInt b).toInt := by
  unfold olmul
  rw [olmulW]
  rfl
theorem olmul_ok (a b : Int) : i64 (olmul a b) := by
  rw [olmul_def]
  exact i64_toInt _
def oldivW (n : Nat) (a b : Int) : Int := if h : n = 0 then (Int64.ofInt a / Int64.ofInt b).toInt else oldivW (n - 1) a b
termination_by n
decreasing_by omega
def oldiv (a b : Int) : Int := oldivW 0 a b
theorem oldiv_def (a b : Int) : oldiv a b = (Int64.ofInt a / Int64.ofInt b).toInt := by
  unfold oldiv
  rw [oldivW]
  rfl
theorem oldiv_ok (a b : Int) : i64 (oldiv a b) := by
  rw [oldiv_def]
  exact i64_toInt _
def olremW (n : Nat) (a b : Int) : Int := if h : n = 0 then (Int64.ofInt a - Int64.ofInt a / Int64.ofInt b * Int64.ofInt b).toInt else olremW (n - 1) a b
termination_by n
decreasing_by omega
def olrem (a b : Int) : Int := olremW 0 a b
theorem olrem_def (a b : Int) : olrem a b = (Int64.ofInt a - Int64.ofInt a / Int64.ofInt b * Int64.ofInt b).toInt := by
  unfold olrem
  rw [olremW]
  rfl
theorem olrem_ok (a b : Int) : i64 (olrem a b) := by
  rw [olrem_def]
  exact i64_toInt _
def olcmp (a b : Int) : Int := if a < b then -1 else if a = b then 0 else 1
section Go
variable {M : xMt} {d pc pc' : Nat} {Q : xV → xMem → Prop} {b : Nat × Nat} {ls st st' : List xV} {μ : xMem}
theorem xR_go (hk : xR M d b pc' ls st' μ Q) (hv : (∀ v ∈ st, xVok (gN μ.1) v) → (∀ v ∈ ls, xVok (gN μ.1) v) → xWf μ → ∀ v ∈ st', xVok (gN μ.1) v)
    (hs : ∀ (p : Program) (l : Launch) (e : Env) (s : State) (m : MethodId) (args : Array Value) (below : List Frame) (meth : Method) (c : Code) (Rm : Room) (w : xWd) (g : xGh) (H : Heap) (locs : List Loc) (cells slots : Nat) (lsM : Array Slot) (Qw : State → Prop), xCx M p s m args meth c → xSim w g μ s H → va_S (fun q => w.1 ≤ q) s.heap H locs → w.1 ≤ s.heap.size → xLoc w g (gN μ.1) M.2.2.1 ls lsM → (∀ v ∈ st, xVok (gN μ.1) v) →
      W p l e Rm s m args below meth c H locs cells slots Qw (F0 m pc' lsM (st'.map (cV w g))) → W p l e Rm s m args below meth c H locs cells slots Qw (F0 m pc lsM (st.map (cV w g)))) : xR M d b pc ls st μ Q := by
  intro p l e s m args below meth c Rm w g0 n0 g H locs cells slots lsM hC a1 a2 a3 a4 a5 a6 hS hV hb hL hst
  exact hs p l e s m args below meth c Rm w g H locs cells slots lsM _ hC hS hV hb hL hst (hk p l e s m args below meth c Rm w g0 n0 g H locs cells slots lsM hC a1 a2 a3 a4 a5 a6 hS hV hb hL (hv hst hL.2.2 hS.2.2.2.2.2.1))
end Go
def x_push (v : xV) (k : xP) (b : Nat × Nat) (ls st : List xV) (μ : xMem) : Prop := k b ls (v :: st) μ
def x_iload (i : Nat) (k : xP) (b : Nat × Nat) (ls st : List xV) (μ : xMem) : Prop := match ls.getD i vu with
  | .inl x => k b ls (vi x :: st) μ
  | _ => False
def x_lload (i : Nat) (k : xP) (b : Nat × Nat) (ls st : List xV) (μ : xMem) : Prop := match ls.getD i vu with
  | .inr (.inl x) => k b ls (vl x :: st) μ
  | _ => False
def x_aload (i : Nat) (k : xP) (b : Nat × Nat) (ls st : List xV) (μ : xMem) : Prop := match ls.getD i vu with
  | .inr (.inr (.inl q)) => k b ls (vq q :: st) μ
  | .inr (.inr (.inr (.inl q))) => k b ls (vo q :: st) μ
  | _ => False
def x_bin (f : Int → Int → Int) (k : xP) (b : Nat × Nat) (ls st : List xV) (μ : xMem) : Prop := match st with
  | .inl y :: .inl x :: st => k b ls (vi (f x y) :: st) μ
  | _ => False
def x_div (f : Int → Int → Int) (k : xP) (b : Nat × Nat) (ls st : List xV) (μ : xMem) : Prop := match st with
  | .inl y :: .inl x :: st => y ≠ 0 ∧ k b ls (vi (f x y) :: st) μ
  | _ => False
def x_un (f : Int → Int) (k : xP) (b : Nat × Nat) (ls st : List xV) (μ : xMem) : Prop := match st with
  | .inl x :: st => k b ls (vi (f x) :: st) μ
  | _ => False
def x_lbin (f : Int → Int → Int) (k : xP) (b : Nat × Nat) (ls st : List xV) (μ : xMem) : Prop := match st with
  | .inr (.inl y) :: .inr (.inl x) :: st => k b ls (vl (f x y) :: st) μ
  | _ => False
def x_ldiv (f : Int → Int → Int) (k : xP) (b : Nat × Nat) (ls st : List xV) (μ : xMem) : Prop := match st with
  | .inr (.inl y) :: .inr (.inl x) :: st => y ≠ 0 ∧ k b ls (vl (f x y) :: st) μ
  | _ => False
def x_lcmp (k : xP) (b : Nat × Nat) (ls st : List xV) (μ : xMem) : Prop := match st with
  | .inr (.inl y) :: .inr (.inl x) :: st => k b ls (vi (olcmp x y) :: st) μ
  | _ => False
def x_i2l (k : xP) (b : Nat × Nat) (ls st : List xV) (μ : xMem) : Prop := match st with
  | .inl x :: st => k b ls (vl x :: st) μ
  | _ => False
def x_l2i (k : xP) (b : Nat × Nat) (ls st : List xV) (μ : xMem) : Prop := match st with
  | .inr (.inl x) :: st => k b ls (vi (ol2i x) :: st) μ
  | _ => False
def x_cat1 : xV → Prop
  | .inr (.inl _) => False
  | .inr (.inr (.inr (.inr _))) => False
  | _ => True
def x_dup (k : xP) (b : Nat × Nat) (ls st : List xV) (μ : xMem) : Prop := match st with
  | v :: st => x_cat1 v ∧ k b ls (v :: v :: st) μ
  | _ => False
def x_pop (k : xP) (b : Nat × Nat) (ls st : List xV) (μ : xMem) : Prop := match st with
  | v :: st => x_cat1 v ∧ k b ls st μ
  | _ => False
def x_dup2 (k : xP) (b : Nat × Nat) (ls st : List xV) (μ : xMem) : Prop := match st with
  | v :: u :: st => x_cat1 v ∧ x_cat1 u ∧ k b ls (v :: u :: v :: u :: st) μ
  | _ => False
def x_c1 (c : Int → Prop) (kt k : xP) (b : Nat × Nat) (ls st : List xV) (μ : xMem) : Prop := match st with
  | .inl x :: st => (c x → kt b ls st μ) ∧ (¬ c x → k b ls st μ)
  | _ => False
def x_c2 (c : Int → Int → Prop) (kt k : xP) (b : Nat × Nat) (ls st : List xV) (μ : xMem) : Prop := match st with
  | .inl y :: .inl x :: st => (c x y → kt b ls st μ) ∧ (¬ c x y → k b ls st μ)
  | _ => False
def x_null (kt k : xP) (b : Nat × Nat) (ls st : List xV) (μ : xMem) : Prop := match st with
  | .inr (.inr (.inl none)) :: st => kt b ls st μ
  | .inr (.inr (.inl (some _))) :: st => k b ls st μ
  | _ => False
def xJ (M : xMt) (d t : Nat) (Q : xV → xMem → Prop) (b : Nat × Nat) (ls st : List xV) (μ : xMem) : Prop := xR M d b t ls st μ Q
theorem s_J {M : xMt} {d t : Nat} {Q : xV → xMem → Prop} : Snd M d t Q (xJ M d t Q) := fun _ _ _ _ h => h
theorem x_cat {w : xWd} {g : xGh} {v : xV} (h : x_cat1 v) : (cV w g v).category = 1 := by
  rcases v with x | x | (_ | x) | x | x <;> first | rfl | exact h.elim
def xi32 (x : Int) : Bool := decide (-2147483648 ≤ x) && decide (x < 2147483648)
def xi64 (x : Int) : Bool := decide (-9223372036854775808 ≤ x) && decide (x < 9223372036854775808)
theorem xi32_ok {x : Int} (h : xi32 x = true) : i32 x := by simpa [xi32, i32] using h
theorem xi64_ok {x : Int} (h : xi64 x = true) : i64 x := by simpa [xi64, i64] using h
theorem xok_cons {n : Nat} {v : xV} {st : List xV} (hv : xVok n v) (h : ∀ u ∈ st, xVok n u) : ∀ u ∈ v :: st, xVok n u := fun u hu => by
  rcases List.mem_cons.mp hu with rfl | hu
  · exact hv
  · exact h u hu
theorem xok_tail {n : Nat} {v : xV} {st : List xV} (h : ∀ u ∈ v :: st, xVok n u) : ∀ u ∈ st, xVok n u := fun u hu => h u (List.mem_cons_of_mem _ hu)
theorem xok_head {n : Nat} {v : xV} {st : List xV} (h : ∀ u ∈ v :: st, xVok n u) : xVok n v := h v List.mem_cons_self
section Ins
variable {M : xMt} {d pc : Nat} {Q : xV → xMem → Prop} {k kt : xP}
theorem s_iconst {x : Int} (hd : decode M.2.1 pc = .ok (.iconst x, 1)) (hx : xi32 x = true) (hk : Snd M d (pc + 1) Q k) : Snd M d pc Q (x_push (vi x) k) := fun b ls st μ h =>
  xR_go (hk b ls _ μ h) (fun hst _ _ => xok_cons (xi32_ok hx) hst) (fun _ _ _ _ _ _ _ _ _ _ _ _ _ _ _ _ _ _ hC _ _ _ _ _ kk => lv_iconst hC.1 hC.2.1 hd rfl kk)
theorem s_bipush {x : Int} (hd : decode M.2.1 pc = .ok (.bipush x, 2)) (hx : xi32 x = true) (hv : (Int8.ofInt x).toInt32 = Int32.ofInt x) (hk : Snd M d (pc + 2) Q k) : Snd M d pc Q (x_push (vi x) k) := fun b ls st μ h =>
  xR_go (hk b ls _ μ h) (fun hst _ _ => xok_cons (xi32_ok hx) hst) (fun _ _ _ _ _ _ _ _ _ _ _ _ _ _ _ _ _ _ hC _ _ _ _ _ kk => lv_bipush hC.1 hC.2.1 hd hv kk)
theorem s_sipush {x : Int} (hd : decode M.2.1 pc = .ok (.sipush x, 3)) (hx : xi32 x = true) (hv : (Int16.ofInt x).toInt32 = Int32.ofInt x) (hk : Snd M d (pc + 3) Q k) : Snd M d pc Q (x_push (vi x) k) := fun b ls st μ h =>
  xR_go (hk b ls _ μ h) (fun hst _ _ => xok_cons (xi32_ok hx) hst) (fun _ _ _ _ _ _ _ _ _ _ _ _ _ _ _ _ _ _ hC _ _ _ _ _ kk => lv_sipush hC.1 hC.2.1 hd hv kk)
theorem s_ldc {x : Int} {ix : Nat} {v : Int32} (hd : decode M.2.1 pc = .ok (.ldc ix, 2)) (hw : Cond.constant M.1.cls ix v ∈ xG) (hx : xi32 x = true) (hv : Int32.ofInt x = v) (hk : Snd M d (pc + 2) Q k) : Snd M d pc Q (x_push (vi x) k) := fun b ls st μ h =>
  xR_go (hk b ls _ μ h) (fun hst _ _ => xok_cons (xi32_ok hx) hst) (fun _ _ _ _ _ _ _ _ _ _ _ _ _ _ _ _ _ _ hC _ _ _ _ _ kk => lv_ldc hC.1 hC.2.1 hC.2.2.2.1 (hC.2.2.2.2.1 _ hw) hd (by subst hv; exact kk))
theorem s_lconst {n : Fin 2} {x : Int} (hd : decode M.2.1 pc = .ok (.lconst n, 1)) (hx : xi64 x = true) (hv : Int64.ofNat (n : Nat) = Int64.ofInt x) (hk : Snd M d (pc + 1) Q k) : Snd M d pc Q (x_push (vl x) k) := fun b ls st μ h =>
  xR_go (hk b ls _ μ h) (fun hst _ _ => xok_cons (xi64_ok hx) hst) (fun _ _ _ _ _ _ _ _ _ _ _ _ _ _ _ _ _ _ hC _ _ _ _ _ kk => lv_lconst hC.1 hC.2.1 hd hv kk)
theorem s_ldc2 {x : Int} {ix : Nat} {v : Int64} (hd : decode M.2.1 pc = .ok (.ldc2_w ix, 3)) (hw : Cond.constantLong M.1.cls ix v ∈ xG) (hx : xi64 x = true) (hv : Int64.ofInt x = v) (hk : Snd M d (pc + 3) Q k) : Snd M d pc Q (x_push (vl x) k) := fun b ls st μ h =>
  xR_go (hk b ls _ μ h) (fun hst _ _ => xok_cons (xi64_ok hx) hst) (fun _ _ _ _ _ _ _ _ _ _ _ _ _ _ _ _ _ _ hC _ _ _ _ _ kk => lv_ldc2 hC.1 hC.2.1 hC.2.2.2.1 (hC.2.2.2.2.1 _ hw) hd (by subst hv; exact kk))
theorem s_aconst_null (hd : decode M.2.1 pc = .ok (.aconst_null, 1)) (hk : Snd M d (pc + 1) Q k) : Snd M d pc Q (x_push vn k) := fun b ls st μ h =>
  xR_go (hk b ls _ μ h) (fun hst _ _ => xok_cons trivial hst) (fun _ _ _ _ _ _ _ _ _ _ _ _ _ _ _ _ _ _ hC _ _ _ _ _ kk => lv_null hC.1 hC.2.1 hd kk)
theorem xgetD {ls : List xV} {i : Nat} {v : xV} (h : ls.getD i vu = v) (hv : v ≠ vu) : ls[i]? = some v := by
  rw [List.getD_eq_getElem?_getD] at h
  cases hh : ls[i]? with
  | none => rw [hh] at h; exact absurd h.symm hv
  | some u => rw [hh] at h; exact congrArg some h
theorem s_iload_n {i : Nat} {n : Fin 4} (hd : decode M.2.1 pc = .ok (.iload_n n, 1)) (hi : (n : Nat) = i) (hk : Snd M d (pc + 1) Q k) : Snd M d pc Q (x_iload i k) := fun b ls st μ h => by
  unfold x_iload at h
  split at h
  · rename_i x hx
    have hg := xgetD hx (by simp)
    exact xR_go (hk b ls _ μ h) (fun hst hls _ => xok_cons (hls _ (List.mem_of_getElem? hg)) hst) (fun _ _ _ _ _ _ _ _ _ _ _ _ _ _ _ _ _ _ hC _ _ _ hL _ kk => lv_iload_n hC.1 hC.2.1 hd hi (hL.get hg (by simp)) kk)
  · exact h.elim
theorem s_iload {i : Nat} (hd : decode M.2.1 pc = .ok (.iload i, 2)) (hk : Snd M d (pc + 2) Q k) : Snd M d pc Q (x_iload i k) := fun b ls st μ h => by
  unfold x_iload at h
  split at h
  · rename_i x hx
    have hg := xgetD hx (by simp)
    exact xR_go (hk b ls _ μ h) (fun hst hls _ => xok_cons (hls _ (List.mem_of_getElem? hg)) hst) (fun _ _ _ _ _ _ _ _ _ _ _ _ _ _ _ _ _ _ hC _ _ _ hL _ kk => lv_iload hC.1 hC.2.1 hd (hL.get hg (by simp)) kk)
  · exact h.elim
theorem s_lload_n {i : Nat} {n : Fin 4} (hd : decode M.2.1 pc = .ok (.lload_n n, 1)) (hi : (n : Nat) = i) (hk : Snd M d (pc + 1) Q k) : Snd M d pc Q (x_lload i k) := fun b ls st μ h => by
  unfold x_lload at h
  split at h
  · rename_i x hx
    have hg := xgetD hx (by simp)
    exact xR_go (hk b ls _ μ h) (fun hst hls _ => xok_cons (hls _ (List.mem_of_getElem? hg)) hst) (fun _ _ _ _ _ _ _ _ _ _ _ _ _ _ _ _ _ _ hC _ _ _ hL _ kk => lv_lload_n hC.1 hC.2.1 hd hi (hL.get hg (by simp)) kk)
  · exact h.elim
theorem s_lload {i : Nat} (hd : decode M.2.1 pc = .ok (.lload i, 2)) (hk : Snd M d (pc + 2) Q k) : Snd M d pc Q (x_lload i k) := fun b ls st μ h => by
  unfold x_lload at h
  split at h
  · rename_i x hx
    have hg := xgetD hx (by simp)
    exact xR_go (hk b ls _ μ h) (fun hst hls _ => xok_cons (hls _ (List.mem_of_getElem? hg)) hst) (fun _ _ _ _ _ _ _ _ _ _ _ _ _ _ _ _ _ _ hC _ _ _ hL _ kk => lv_lload hC.1 hC.2.1 hd (hL.get hg (by simp)) kk)
  · exact h.elim
theorem s_aload_n {i : Nat} {n : Fin 4} (hd : decode M.2.1 pc = .ok (.aload_n n, 1)) (hi : (n : Nat) = i) (hk : Snd M d (pc + 1) Q k) : Snd M d pc Q (x_aload i k) := fun b ls st μ h => by
  unfold x_aload at h
  split at h
  · rename_i q hx
    have hg := xgetD hx (by simp)
    cases q with
    | none => exact xR_go (hk b ls _ μ h) (fun hst hls _ => xok_cons (hls _ (List.mem_of_getElem? hg)) hst) (fun _ _ _ _ _ _ _ _ _ _ _ _ _ _ _ _ _ _ hC _ _ _ hL _ kk => lv_aload_nN hC.1 hC.2.1 hd hi (hL.get hg (by simp)) kk)
    | some q => exact xR_go (hk b ls _ μ h) (fun hst hls _ => xok_cons (hls _ (List.mem_of_getElem? hg)) hst) (fun _ _ _ _ _ _ _ _ _ _ _ _ _ _ _ _ _ _ hC _ _ _ hL _ kk => lv_aload_n hC.1 hC.2.1 hd hi (hL.get hg (by simp)) kk)
  · rename_i q hx
    have hg := xgetD hx (by simp)
    exact xR_go (hk b ls _ μ h) (fun hst hls _ => xok_cons trivial hst) (fun _ _ _ _ _ _ _ _ _ _ _ _ _ _ _ _ _ _ hC _ _ _ hL _ kk => lv_aload_n hC.1 hC.2.1 hd hi (hL.get hg (by simp)) kk)
  · exact h.elim
theorem s_aload {i : Nat} (hd : decode M.2.1 pc = .ok (.aload i, 2)) (hk : Snd M d (pc + 2) Q k) : Snd M d pc Q (x_aload i k) := fun b ls st μ h => by
  unfold x_aload at h
  split at h
  · rename_i q hx
    have hg := xgetD hx (by simp)
    cases q with
    | none => exact xR_go (hk b ls _ μ h) (fun hst hls _ => xok_cons (hls _ (List.mem_of_getElem? hg)) hst) (fun _ _ _ _ _ _ _ _ _ _ _ _ _ _ _ _ _ _ hC _ _ _ hL _ kk => lv_aloadN hC.1 hC.2.1 hd (hL.get hg (by simp)) kk)
    | some q => exact xR_go (hk b ls _ μ h) (fun hst hls _ => xok_cons (hls _ (List.mem_of_getElem? hg)) hst) (fun _ _ _ _ _ _ _ _ _ _ _ _ _ _ _ _ _ _ hC _ _ _ hL _ kk => lv_aload hC.1 hC.2.1 hd (hL.get hg (by simp)) kk)
  · rename_i q hx
    have hg := xgetD hx (by simp)
    exact xR_go (hk b ls _ μ h) (fun hst hls _ => xok_cons trivial hst) (fun _ _ _ _ _ _ _ _ _ _ _ _ _ _ _ _ _ _ hC _ _ _ hL _ kk => lv_aload hC.1 hC.2.1 hd (hL.get hg (by simp)) kk)
  · exact h.elim
end Ins
