/-! ===== arithmetic, branches, stores, returns ===== -/
section Ins2
variable {M : xMt} {d pc : Nat} {Q : xV → xMem → Prop} {k kt : xP}
theorem cV_ofI {w : xWd} {g : xGh} (x : Int32) : cV w g (vi x.toInt) = .int x := by
  show Value.int (Int32.ofInt x.toInt) = _
  rw [Int32.ofInt_toInt]
theorem cV_ofL {w : xWd} {g : xGh} (x : Int64) : cV w g (vl x.toInt) = .long x := by
  show Value.long (Int64.ofInt x.toInt) = _
  rw [Int64.ofInt_toInt]
theorem s_iadd (hd : decode M.2.1 pc = .ok (.iadd, 1)) (hk : Snd M d (pc + 1) Q k) : Snd M d pc Q (x_bin oadd k) := fun b ls st μ h => by
  match st, h with
  | .inl y :: .inl x :: st, h => exact xR_go (hk b ls _ μ h) (fun hst _ _ => xok_cons (oadd_ok _ _) (xok_tail (xok_tail hst))) (fun _ _ _ _ _ _ _ _ _ _ _ _ _ _ _ _ _ _ hC _ _ _ _ _ kk => lv_iadd hC.1 hC.2.1 hd (by rw [List.map_cons] at kk; rw [oadd_def] at kk; rw [cV_ofI] at kk; exact kk))
theorem s_isub (hd : decode M.2.1 pc = .ok (.isub, 1)) (hk : Snd M d (pc + 1) Q k) : Snd M d pc Q (x_bin osub k) := fun b ls st μ h => by
  match st, h with
  | .inl y :: .inl x :: st, h => exact xR_go (hk b ls _ μ h) (fun hst _ _ => xok_cons (osub_ok _ _) (xok_tail (xok_tail hst))) (fun _ _ _ _ _ _ _ _ _ _ _ _ _ _ _ _ _ _ hC _ _ _ _ _ kk => lv_isub hC.1 hC.2.1 hd (by rw [List.map_cons] at kk; rw [osub_def] at kk; rw [cV_ofI] at kk; exact kk))
theorem s_imul (hd : decode M.2.1 pc = .ok (.imul, 1)) (hk : Snd M d (pc + 1) Q k) : Snd M d pc Q (x_bin omul k) := fun b ls st μ h => by
  match st, h with
  | .inl y :: .inl x :: st, h => exact xR_go (hk b ls _ μ h) (fun hst _ _ => xok_cons (omul_ok _ _) (xok_tail (xok_tail hst))) (fun _ _ _ _ _ _ _ _ _ _ _ _ _ _ _ _ _ _ hC _ _ _ _ _ kk => lv_imul hC.1 hC.2.1 hd (by rw [List.map_cons] at kk; rw [omul_def] at kk; rw [cV_ofI] at kk; exact kk))
theorem s_iand (hd : decode M.2.1 pc = .ok (.iand, 1)) (hk : Snd M d (pc + 1) Q k) : Snd M d pc Q (x_bin oand k) := fun b ls st μ h => by
  match st, h with
  | .inl y :: .inl x :: st, h => exact xR_go (hk b ls _ μ h) (fun hst _ _ => xok_cons (oand_ok _ _) (xok_tail (xok_tail hst))) (fun _ _ _ _ _ _ _ _ _ _ _ _ _ _ _ _ _ _ hC _ _ _ _ _ kk => lv_iand hC.1 hC.2.1 hd (by rw [List.map_cons] at kk; rw [oand_def] at kk; rw [cV_ofI] at kk; exact kk))
theorem s_ior (hd : decode M.2.1 pc = .ok (.ior, 1)) (hk : Snd M d (pc + 1) Q k) : Snd M d pc Q (x_bin oor k) := fun b ls st μ h => by
  match st, h with
  | .inl y :: .inl x :: st, h => exact xR_go (hk b ls _ μ h) (fun hst _ _ => xok_cons (oor_ok _ _) (xok_tail (xok_tail hst))) (fun _ _ _ _ _ _ _ _ _ _ _ _ _ _ _ _ _ _ hC _ _ _ _ _ kk => lv_ior hC.1 hC.2.1 hd (by rw [List.map_cons] at kk; rw [oor_def] at kk; rw [cV_ofI] at kk; exact kk))
theorem s_ixor (hd : decode M.2.1 pc = .ok (.ixor, 1)) (hk : Snd M d (pc + 1) Q k) : Snd M d pc Q (x_bin oxor k) := fun b ls st μ h => by
  match st, h with
  | .inl y :: .inl x :: st, h => exact xR_go (hk b ls _ μ h) (fun hst _ _ => xok_cons (oxor_ok _ _) (xok_tail (xok_tail hst))) (fun _ _ _ _ _ _ _ _ _ _ _ _ _ _ _ _ _ _ hC _ _ _ _ _ kk => lv_ixor hC.1 hC.2.1 hd (by rw [List.map_cons] at kk; rw [oxor_def] at kk; rw [cV_ofI] at kk; exact kk))
theorem s_ishl (hd : decode M.2.1 pc = .ok (.ishl, 1)) (hk : Snd M d (pc + 1) Q k) : Snd M d pc Q (x_bin oshl k) := fun b ls st μ h => by
  match st, h with
  | .inl y :: .inl x :: st, h => exact xR_go (hk b ls _ μ h) (fun hst _ _ => xok_cons (oshl_ok _ _) (xok_tail (xok_tail hst))) (fun _ _ _ _ _ _ _ _ _ _ _ _ _ _ _ _ _ _ hC _ _ _ _ _ kk => lv_ishl hC.1 hC.2.1 hd (by rw [List.map_cons] at kk; rw [oshl_def] at kk; rw [cV_ofI] at kk; exact kk))
theorem s_ishr (hd : decode M.2.1 pc = .ok (.ishr, 1)) (hk : Snd M d (pc + 1) Q k) : Snd M d pc Q (x_bin oshr k) := fun b ls st μ h => by
  match st, h with
  | .inl y :: .inl x :: st, h => exact xR_go (hk b ls _ μ h) (fun hst _ _ => xok_cons (oshr_ok _ _) (xok_tail (xok_tail hst))) (fun _ _ _ _ _ _ _ _ _ _ _ _ _ _ _ _ _ _ hC _ _ _ _ _ kk => lv_ishr hC.1 hC.2.1 hd (by rw [List.map_cons] at kk; rw [oshr_def] at kk; rw [cV_ofI] at kk; exact kk))
theorem s_iushr (hd : decode M.2.1 pc = .ok (.iushr, 1)) (hk : Snd M d (pc + 1) Q k) : Snd M d pc Q (x_bin oushr k) := fun b ls st μ h => by
  match st, h with
  | .inl y :: .inl x :: st, h => exact xR_go (hk b ls _ μ h) (fun hst _ _ => xok_cons (oushr_ok _ _) (xok_tail (xok_tail hst))) (fun _ _ _ _ _ _ _ _ _ _ _ _ _ _ _ _ _ _ hC _ _ _ _ _ kk => lv_iushr hC.1 hC.2.1 hd rfl (by rw [List.map_cons] at kk; rw [oushr_def] at kk; rw [cV_ofI] at kk; exact kk))
theorem s_idiv (hd : decode M.2.1 pc = .ok (.idiv, 1)) (hk : Snd M d (pc + 1) Q k) : Snd M d pc Q (x_div odiv k) := fun b ls st μ h => by
  match st, h with
  | .inl y :: .inl x :: st, h => exact xR_go (hk b ls _ μ h.2) (fun hst _ _ => xok_cons (odiv_ok _ _) (xok_tail (xok_tail hst))) (fun _ _ _ _ _ _ _ _ _ _ _ _ _ _ _ _ _ _ hC _ _ _ _ hst kk => lv_idiv hC.1 hC.2.1 hd (fun e => h.1 (by have := congrArg Int32.toInt e; rw [toInt_i32 (xok_head hst)] at this; simpa using this)) (by rw [List.map_cons] at kk; rw [odiv_def] at kk; rw [cV_ofI] at kk; exact kk))
theorem s_irem (hd : decode M.2.1 pc = .ok (.irem, 1)) (hk : Snd M d (pc + 1) Q k) : Snd M d pc Q (x_div orem k) := fun b ls st μ h => by
  match st, h with
  | .inl y :: .inl x :: st, h => exact xR_go (hk b ls _ μ h.2) (fun hst _ _ => xok_cons (orem_ok _ _) (xok_tail (xok_tail hst))) (fun _ _ _ _ _ _ _ _ _ _ _ _ _ _ _ _ _ _ hC _ _ _ _ hst kk => lv_irem hC.1 hC.2.1 hd (fun e => h.1 (by have := congrArg Int32.toInt e; rw [toInt_i32 (xok_head hst)] at this; simpa using this)) (by rw [List.map_cons] at kk; rw [orem_def] at kk; rw [cV_ofI] at kk; exact kk))
theorem s_ineg (hd : decode M.2.1 pc = .ok (.ineg, 1)) (hk : Snd M d (pc + 1) Q k) : Snd M d pc Q (x_un oneg k) := fun b ls st μ h => by
  match st, h with
  | .inl x :: st, h => exact xR_go (hk b ls _ μ h) (fun hst _ _ => xok_cons (oneg_ok _) (xok_tail hst)) (fun _ _ _ _ _ _ _ _ _ _ _ _ _ _ _ _ _ _ hC _ _ _ _ _ kk => lv_ineg hC.1 hC.2.1 hd (by rw [List.map_cons] at kk; rw [oneg_def] at kk; rw [cV_ofI] at kk; exact kk))
theorem s_i2b (hd : decode M.2.1 pc = .ok (.i2b, 1)) (hk : Snd M d (pc + 1) Q k) : Snd M d pc Q (x_un oi2b k) := fun b ls st μ h => by
  match st, h with
  | .inl x :: st, h => exact xR_go (hk b ls _ μ h) (fun hst _ _ => xok_cons (oi2b_ok _) (xok_tail hst)) (fun _ _ _ _ _ _ _ _ _ _ _ _ _ _ _ _ _ _ hC _ _ _ _ _ kk => lv_i2b hC.1 hC.2.1 hd rfl (by rw [List.map_cons] at kk; rw [oi2b_def] at kk; rw [cV_ofI] at kk; exact kk))
theorem s_i2s (hd : decode M.2.1 pc = .ok (.i2s, 1)) (hk : Snd M d (pc + 1) Q k) : Snd M d pc Q (x_un oi2s k) := fun b ls st μ h => by
  match st, h with
  | .inl x :: st, h => exact xR_go (hk b ls _ μ h) (fun hst _ _ => xok_cons (oi2s_ok _) (xok_tail hst)) (fun _ _ _ _ _ _ _ _ _ _ _ _ _ _ _ _ _ _ hC _ _ _ _ _ kk => lv_i2s hC.1 hC.2.1 hd rfl (by rw [List.map_cons] at kk; rw [oi2s_def] at kk; rw [cV_ofI] at kk; exact kk))
theorem s_ladd (hd : decode M.2.1 pc = .ok (.ladd, 1)) (hk : Snd M d (pc + 1) Q k) : Snd M d pc Q (x_lbin oladd k) := fun b ls st μ h => by
  match st, h with
  | .inr (.inl y) :: .inr (.inl x) :: st, h => exact xR_go (hk b ls _ μ h) (fun hst _ _ => xok_cons (oladd_ok _ _) (xok_tail (xok_tail hst))) (fun _ _ _ _ _ _ _ _ _ _ _ _ _ _ _ _ _ _ hC _ _ _ _ _ kk => lv_ladd hC.1 hC.2.1 hd (by rw [List.map_cons] at kk; rw [oladd_def] at kk; rw [cV_ofL] at kk; exact kk))
theorem s_lsub (hd : decode M.2.1 pc = .ok (.lsub, 1)) (hk : Snd M d (pc + 1) Q k) : Snd M d pc Q (x_lbin olsub k) := fun b ls st μ h => by
  match st, h with
  | .inr (.inl y) :: .inr (.inl x) :: st, h => exact xR_go (hk b ls _ μ h) (fun hst _ _ => xok_cons (olsub_ok _ _) (xok_tail (xok_tail hst))) (fun _ _ _ _ _ _ _ _ _ _ _ _ _ _ _ _ _ _ hC _ _ _ _ _ kk => lv_lsub hC.1 hC.2.1 hd (by rw [List.map_cons] at kk; rw [olsub_def] at kk; rw [cV_ofL] at kk; exact kk))
theorem s_lmul (hd : decode M.2.1 pc = .ok (.lmul, 1)) (hk : Snd M d (pc + 1) Q k) : Snd M d pc Q (x_lbin olmul k) := fun b ls st μ h => by
  match st, h with
  | .inr (.inl y) :: .inr (.inl x) :: st, h => exact xR_go (hk b ls _ μ h) (fun hst _ _ => xok_cons (olmul_ok _ _) (xok_tail (xok_tail hst))) (fun _ _ _ _ _ _ _ _ _ _ _ _ _ _ _ _ _ _ hC _ _ _ _ _ kk => lv_lmul hC.1 hC.2.1 hd (by rw [List.map_cons] at kk; rw [olmul_def] at kk; rw [cV_ofL] at kk; exact kk))
theorem s_ldiv (hd : decode M.2.1 pc = .ok (.ldiv, 1)) (hk : Snd M d (pc + 1) Q k) : Snd M d pc Q (x_ldiv oldiv k) := fun b ls st μ h => by
  match st, h with
  | .inr (.inl y) :: .inr (.inl x) :: st, h => exact xR_go (hk b ls _ μ h.2) (fun hst _ _ => xok_cons (oldiv_ok _ _) (xok_tail (xok_tail hst))) (fun _ _ _ _ _ _ _ _ _ _ _ _ _ _ _ _ _ _ hC _ _ _ _ hst kk => lv_ldiv hC.1 hC.2.1 hd (fun e => h.1 (by have := congrArg Int64.toInt e; rw [toInt_i64 (xok_head hst)] at this; simpa using this)) (by rw [List.map_cons] at kk; rw [oldiv_def] at kk; rw [cV_ofL] at kk; exact kk))
theorem s_lrem (hd : decode M.2.1 pc = .ok (.lrem, 1)) (hk : Snd M d (pc + 1) Q k) : Snd M d pc Q (x_ldiv olrem k) := fun b ls st μ h => by
  match st, h with
  | .inr (.inl y) :: .inr (.inl x) :: st, h => exact xR_go (hk b ls _ μ h.2) (fun hst _ _ => xok_cons (olrem_ok _ _) (xok_tail (xok_tail hst))) (fun _ _ _ _ _ _ _ _ _ _ _ _ _ _ _ _ _ _ hC _ _ _ _ hst kk => lv_lrem hC.1 hC.2.1 hd (fun e => h.1 (by have := congrArg Int64.toInt e; rw [toInt_i64 (xok_head hst)] at this; simpa using this)) (by rw [List.map_cons] at kk; rw [olrem_def] at kk; rw [cV_ofL] at kk; exact kk))
theorem i64_i32 {x : Int} (h : i32 x) : i64 x := ⟨by have := h.1; omega, by have := h.2; omega⟩
theorem s_i2l (hd : decode M.2.1 pc = .ok (.i2l, 1)) (hk : Snd M d (pc + 1) Q k) : Snd M d pc Q (x_i2l k) := fun b ls st μ h => by
  match st, h with
  | .inl x :: st, h => exact xR_go (hk b ls _ μ h) (fun hst _ _ => xok_cons (i64_i32 (xok_head hst)) (xok_tail hst)) (fun _ _ _ _ _ _ _ _ _ _ _ _ _ _ _ _ _ _ hC _ _ _ _ hst kk => lv_i2l hC.1 hC.2.1 hd (by
      apply Int64.toInt.inj
      rw [Int32.toInt_toInt64, toInt_i32 (xok_head hst), toInt_i64 (i64_i32 (xok_head hst))]) kk)
theorem s_l2i (hd : decode M.2.1 pc = .ok (.l2i, 1)) (hk : Snd M d (pc + 1) Q k) : Snd M d pc Q (x_l2i k) := fun b ls st μ h => by
  match st, h with
  | .inr (.inl x) :: st, h => exact xR_go (hk b ls _ μ h) (fun hst _ _ => xok_cons (ol2i_ok _) (xok_tail hst)) (fun _ _ _ _ _ _ _ _ _ _ _ _ _ _ _ _ _ _ hC _ _ _ _ _ kk => lv_l2i hC.1 hC.2.1 hd rfl (by rw [List.map_cons] at kk; rw [ol2i_def] at kk; rw [cV_ofI] at kk; exact kk))
theorem s_dup (hd : decode M.2.1 pc = .ok (.dup, 1)) (hk : Snd M d (pc + 1) Q k) : Snd M d pc Q (x_dup k) := fun b ls st μ h => by
  match st, h with
  | v :: st, h => exact xR_go (hk b ls _ μ h.2) (fun hst _ _ => xok_cons (xok_head hst) hst) (fun _ _ _ _ _ _ _ _ _ _ _ _ _ _ _ _ _ _ hC _ _ _ _ _ kk => lv_dup hC.1 hC.2.1 hd (x_cat h.1) kk)
theorem s_pop (hd : decode M.2.1 pc = .ok (.pop, 1)) (hk : Snd M d (pc + 1) Q k) : Snd M d pc Q (x_pop k) := fun b ls st μ h => by
  match st, h with
  | v :: st, h => exact xR_go (hk b ls _ μ h.2) (fun hst _ _ => xok_tail hst) (fun _ _ _ _ _ _ _ _ _ _ _ _ _ _ _ _ _ _ hC _ _ _ _ _ kk => lv_pop hC.1 hC.2.1 hd (x_cat h.1) kk)
theorem s_dup2 (hd : decode M.2.1 pc = .ok (.dup2, 1)) (hk : Snd M d (pc + 1) Q k) : Snd M d pc Q (x_dup2 k) := fun b ls st μ h => by
  match st, h with
  | v :: u :: st, h => exact xR_go (hk b ls _ μ h.2.2) (fun hst _ _ => xok_cons (xok_head hst) (xok_cons (xok_head (xok_tail hst)) hst)) (fun _ _ _ _ _ _ _ _ _ _ _ _ _ _ _ _ _ _ hC _ _ _ _ _ kk => lv_dup2_11 hC.1 hC.2.1 hd (x_cat h.1) (x_cat h.2.1) kk)
theorem s_goto {off : Int} {t : Nat} (hd : decode M.2.1 pc = .ok (.goto off, 3)) (ht : (pc : Int) + off = (t : Int)) (hk : Snd M d t Q k) : Snd M d pc Q k := fun b ls st μ h =>
  xR_go (hk b ls _ μ h) (fun hst _ _ => hst) (fun _ _ _ _ _ _ _ _ _ _ _ _ _ _ _ _ _ _ hC _ _ _ _ _ kk => lv_goto hC.1 hC.2.1 hd ht kk)
/-- a branch on a condition of the state -/
theorem xR_if {C : Prop} {b : Nat × Nat} {ls st st' : List xV} {μ : xMem} {t t2 : Nat} (hk : C → xR M d b t ls st' μ Q) (hk2 : ¬ C → xR M d b t2 ls st' μ Q) (hv : (∀ v ∈ st, xVok (gN μ.1) v) → ∀ v ∈ st', xVok (gN μ.1) v)
    (hs : ∀ (p : Program) (l : Launch) (e : Env) (s : State) (m : MethodId) (args : Array Value) (below : List Frame) (meth : Method) (c : Code) (Rm : Room) (w : xWd) (g : xGh) (H : Heap) (locs : List Loc) (cells slots : Nat) (lsM : Array Slot) (Qw : State → Prop), xCx M p s m args meth c → (∀ v ∈ st, xVok (gN μ.1) v) →
      (C → W p l e Rm s m args below meth c H locs cells slots Qw (F0 m t lsM (st'.map (cV w g)))) → (¬ C → W p l e Rm s m args below meth c H locs cells slots Qw (F0 m t2 lsM (st'.map (cV w g)))) → W p l e Rm s m args below meth c H locs cells slots Qw (F0 m pc lsM (st.map (cV w g)))) : xR M d b pc ls st μ Q := by
  intro p l e s m args below meth c Rm w g0 n0 g H locs cells slots lsM hC a1 a2 a3 a4 a5 a6 hS hV hb hL hst
  exact hs p l e s m args below meth c Rm w g H locs cells slots lsM _ hC hst (fun q => hk q p l e s m args below meth c Rm w g0 n0 g H locs cells slots lsM hC a1 a2 a3 a4 a5 a6 hS hV hb hL (hv hst)) (fun q => hk2 q p l e s m args below meth c Rm w g0 n0 g H locs cells slots lsM hC a1 a2 a3 a4 a5 a6 hS hV hb hL (hv hst))
theorem i_lt {x y : Int} (hx : i32 x) (hy : i32 y) : Int32.ofInt x < Int32.ofInt y ↔ x < y := by rw [Int32.lt_iff_toInt_lt, toInt_i32 hx, toInt_i32 hy]
theorem i_le {x y : Int} (hx : i32 x) (hy : i32 y) : Int32.ofInt x ≤ Int32.ofInt y ↔ x ≤ y := by rw [Int32.le_iff_toInt_le, toInt_i32 hx, toInt_i32 hy]
theorem i_eq {x y : Int} (hx : i32 x) (hy : i32 y) : Int32.ofInt x = Int32.ofInt y ↔ x = y := by rw [← Int32.toInt_inj, toInt_i32 hx, toInt_i32 hy]
theorem i32_0 : i32 0 := ⟨by omega, by omega⟩
theorem s_icmp_eq {off : Int} {t : Nat} (hd : decode M.2.1 pc = .ok (.if_icmp .eq off, 3)) (ht : (pc : Int) + off = (t : Int)) (hkt : Snd M d t Q kt) (hk : Snd M d (pc + 3) Q k) : Snd M d pc Q (x_c2 (fun x y => x = y) kt k) := fun b ls st μ h => by
  match st, h with
  | .inl y :: .inl x :: st, h => exact xR_if (C := x = y) (fun q => hkt b ls _ μ (h.1 q)) (fun q => hk b ls _ μ (h.2 q)) (fun hst => xok_tail (xok_tail hst)) (fun _ _ _ _ _ _ _ _ _ _ _ _ _ _ _ _ _ _ hC hst k1 k2 => by
      have hy : i32 y := xok_head hst
      have hx : i32 x := xok_head (xok_tail hst)
      have hi := i_eq hx hy
      exact lv_icmp_eq hC.1 hC.2.1 hd ht (fun q => k1 (hi.mp q)) (fun q => k2 (fun z => q (hi.mpr z))))
theorem s_icmp_ne {off : Int} {t : Nat} (hd : decode M.2.1 pc = .ok (.if_icmp .ne off, 3)) (ht : (pc : Int) + off = (t : Int)) (hkt : Snd M d t Q kt) (hk : Snd M d (pc + 3) Q k) : Snd M d pc Q (x_c2 (fun x y => ¬ x = y) kt k) := fun b ls st μ h => by
  match st, h with
  | .inl y :: .inl x :: st, h => exact xR_if (C := ¬ x = y) (fun q => hkt b ls _ μ (h.1 q)) (fun q => hk b ls _ μ (h.2 q)) (fun hst => xok_tail (xok_tail hst)) (fun _ _ _ _ _ _ _ _ _ _ _ _ _ _ _ _ _ _ hC hst k1 k2 => by
      have hy : i32 y := xok_head hst
      have hx : i32 x := xok_head (xok_tail hst)
      have hi := not_congr (i_eq hx hy)
      exact lv_icmp_ne hC.1 hC.2.1 hd ht (fun q => k1 (hi.mp q)) (fun q => k2 (fun z => hi.mpr z q)))
theorem s_icmp_lt {off : Int} {t : Nat} (hd : decode M.2.1 pc = .ok (.if_icmp .lt off, 3)) (ht : (pc : Int) + off = (t : Int)) (hkt : Snd M d t Q kt) (hk : Snd M d (pc + 3) Q k) : Snd M d pc Q (x_c2 (fun x y => x < y) kt k) := fun b ls st μ h => by
  match st, h with
  | .inl y :: .inl x :: st, h => exact xR_if (C := x < y) (fun q => hkt b ls _ μ (h.1 q)) (fun q => hk b ls _ μ (h.2 q)) (fun hst => xok_tail (xok_tail hst)) (fun _ _ _ _ _ _ _ _ _ _ _ _ _ _ _ _ _ _ hC hst k1 k2 => by
      have hy : i32 y := xok_head hst
      have hx : i32 x := xok_head (xok_tail hst)
      have hi := i_lt hx hy
      exact lv_icmp_lt hC.1 hC.2.1 hd ht (fun q => k1 (hi.mp q)) (fun q => k2 (fun z => q (hi.mpr z))))
theorem s_icmp_ge {off : Int} {t : Nat} (hd : decode M.2.1 pc = .ok (.if_icmp .ge off, 3)) (ht : (pc : Int) + off = (t : Int)) (hkt : Snd M d t Q kt) (hk : Snd M d (pc + 3) Q k) : Snd M d pc Q (x_c2 (fun x y => y ≤ x) kt k) := fun b ls st μ h => by
  match st, h with
  | .inl y :: .inl x :: st, h => exact xR_if (C := y ≤ x) (fun q => hkt b ls _ μ (h.1 q)) (fun q => hk b ls _ μ (h.2 q)) (fun hst => xok_tail (xok_tail hst)) (fun _ _ _ _ _ _ _ _ _ _ _ _ _ _ _ _ _ _ hC hst k1 k2 => by
      have hy : i32 y := xok_head hst
      have hx : i32 x := xok_head (xok_tail hst)
      have hi := i_le hy hx
      exact lv_icmp_ge hC.1 hC.2.1 hd ht (fun q => k1 (hi.mp q)) (fun q => k2 (fun z => q (hi.mpr z))))
theorem s_icmp_gt {off : Int} {t : Nat} (hd : decode M.2.1 pc = .ok (.if_icmp .gt off, 3)) (ht : (pc : Int) + off = (t : Int)) (hkt : Snd M d t Q kt) (hk : Snd M d (pc + 3) Q k) : Snd M d pc Q (x_c2 (fun x y => y < x) kt k) := fun b ls st μ h => by
  match st, h with
  | .inl y :: .inl x :: st, h => exact xR_if (C := y < x) (fun q => hkt b ls _ μ (h.1 q)) (fun q => hk b ls _ μ (h.2 q)) (fun hst => xok_tail (xok_tail hst)) (fun _ _ _ _ _ _ _ _ _ _ _ _ _ _ _ _ _ _ hC hst k1 k2 => by
      have hy : i32 y := xok_head hst
      have hx : i32 x := xok_head (xok_tail hst)
      have hi := i_lt hy hx
      exact lv_icmp_gt hC.1 hC.2.1 hd ht (fun q => k1 (hi.mp q)) (fun q => k2 (fun z => q (hi.mpr z))))
theorem s_icmp_le {off : Int} {t : Nat} (hd : decode M.2.1 pc = .ok (.if_icmp .le off, 3)) (ht : (pc : Int) + off = (t : Int)) (hkt : Snd M d t Q kt) (hk : Snd M d (pc + 3) Q k) : Snd M d pc Q (x_c2 (fun x y => x ≤ y) kt k) := fun b ls st μ h => by
  match st, h with
  | .inl y :: .inl x :: st, h => exact xR_if (C := x ≤ y) (fun q => hkt b ls _ μ (h.1 q)) (fun q => hk b ls _ μ (h.2 q)) (fun hst => xok_tail (xok_tail hst)) (fun _ _ _ _ _ _ _ _ _ _ _ _ _ _ _ _ _ _ hC hst k1 k2 => by
      have hy : i32 y := xok_head hst
      have hx : i32 x := xok_head (xok_tail hst)
      have hi := i_le hx hy
      exact lv_icmp_le hC.1 hC.2.1 hd ht (fun q => k1 (hi.mp q)) (fun q => k2 (fun z => q (hi.mpr z))))
theorem s_if_eq {off : Int} {t : Nat} (hd : decode M.2.1 pc = .ok (.ifCond .eq off, 3)) (ht : (pc : Int) + off = (t : Int)) (hkt : Snd M d t Q kt) (hk : Snd M d (pc + 3) Q k) : Snd M d pc Q (x_c1 (fun x => x = 0) kt k) := fun b ls st μ h => by
  match st, h with
  | .inl x :: st, h => exact xR_if (C := x = 0) (fun q => hkt b ls _ μ (h.1 q)) (fun q => hk b ls _ μ (h.2 q)) (fun hst => xok_tail hst) (fun _ _ _ _ _ _ _ _ _ _ _ _ _ _ _ _ _ _ hC hst k1 k2 => by
      have hx : i32 x := xok_head hst
      have hi := i_eq hx i32_0
      exact lv_if_eq hC.1 hC.2.1 hd ht (fun q => k1 (hi.mp q)) (fun q => k2 (fun z => q (hi.mpr z))))
theorem s_if_ne {off : Int} {t : Nat} (hd : decode M.2.1 pc = .ok (.ifCond .ne off, 3)) (ht : (pc : Int) + off = (t : Int)) (hkt : Snd M d t Q kt) (hk : Snd M d (pc + 3) Q k) : Snd M d pc Q (x_c1 (fun x => ¬ x = 0) kt k) := fun b ls st μ h => by
  match st, h with
  | .inl x :: st, h => exact xR_if (C := ¬ x = 0) (fun q => hkt b ls _ μ (h.1 q)) (fun q => hk b ls _ μ (h.2 q)) (fun hst => xok_tail hst) (fun _ _ _ _ _ _ _ _ _ _ _ _ _ _ _ _ _ _ hC hst k1 k2 => by
      have hx : i32 x := xok_head hst
      have hi := not_congr (i_eq hx i32_0)
      exact lv_if_ne hC.1 hC.2.1 hd ht (fun q => k1 (hi.mp q)) (fun q => k2 (fun z => hi.mpr z q)))
theorem s_if_lt {off : Int} {t : Nat} (hd : decode M.2.1 pc = .ok (.ifCond .lt off, 3)) (ht : (pc : Int) + off = (t : Int)) (hkt : Snd M d t Q kt) (hk : Snd M d (pc + 3) Q k) : Snd M d pc Q (x_c1 (fun x => x < 0) kt k) := fun b ls st μ h => by
  match st, h with
  | .inl x :: st, h => exact xR_if (C := x < 0) (fun q => hkt b ls _ μ (h.1 q)) (fun q => hk b ls _ μ (h.2 q)) (fun hst => xok_tail hst) (fun _ _ _ _ _ _ _ _ _ _ _ _ _ _ _ _ _ _ hC hst k1 k2 => by
      have hx : i32 x := xok_head hst
      have hi := i_lt hx i32_0
      exact lv_if_lt hC.1 hC.2.1 hd ht (fun q => k1 (hi.mp q)) (fun q => k2 (fun z => q (hi.mpr z))))
theorem s_if_ge {off : Int} {t : Nat} (hd : decode M.2.1 pc = .ok (.ifCond .ge off, 3)) (ht : (pc : Int) + off = (t : Int)) (hkt : Snd M d t Q kt) (hk : Snd M d (pc + 3) Q k) : Snd M d pc Q (x_c1 (fun x => 0 ≤ x) kt k) := fun b ls st μ h => by
  match st, h with
  | .inl x :: st, h => exact xR_if (C := 0 ≤ x) (fun q => hkt b ls _ μ (h.1 q)) (fun q => hk b ls _ μ (h.2 q)) (fun hst => xok_tail hst) (fun _ _ _ _ _ _ _ _ _ _ _ _ _ _ _ _ _ _ hC hst k1 k2 => by
      have hx : i32 x := xok_head hst
      have hi := i_le i32_0 hx
      exact lv_if_ge hC.1 hC.2.1 hd ht (fun q => k1 (hi.mp q)) (fun q => k2 (fun z => q (hi.mpr z))))
theorem s_if_gt {off : Int} {t : Nat} (hd : decode M.2.1 pc = .ok (.ifCond .gt off, 3)) (ht : (pc : Int) + off = (t : Int)) (hkt : Snd M d t Q kt) (hk : Snd M d (pc + 3) Q k) : Snd M d pc Q (x_c1 (fun x => 0 < x) kt k) := fun b ls st μ h => by
  match st, h with
  | .inl x :: st, h => exact xR_if (C := 0 < x) (fun q => hkt b ls _ μ (h.1 q)) (fun q => hk b ls _ μ (h.2 q)) (fun hst => xok_tail hst) (fun _ _ _ _ _ _ _ _ _ _ _ _ _ _ _ _ _ _ hC hst k1 k2 => by
      have hx : i32 x := xok_head hst
      have hi := i_lt i32_0 hx
      exact lv_if_gt hC.1 hC.2.1 hd ht (fun q => k1 (hi.mp q)) (fun q => k2 (fun z => q (hi.mpr z))))
theorem s_if_le {off : Int} {t : Nat} (hd : decode M.2.1 pc = .ok (.ifCond .le off, 3)) (ht : (pc : Int) + off = (t : Int)) (hkt : Snd M d t Q kt) (hk : Snd M d (pc + 3) Q k) : Snd M d pc Q (x_c1 (fun x => x ≤ 0) kt k) := fun b ls st μ h => by
  match st, h with
  | .inl x :: st, h => exact xR_if (C := x ≤ 0) (fun q => hkt b ls _ μ (h.1 q)) (fun q => hk b ls _ μ (h.2 q)) (fun hst => xok_tail hst) (fun _ _ _ _ _ _ _ _ _ _ _ _ _ _ _ _ _ _ hC hst k1 k2 => by
      have hx : i32 x := xok_head hst
      have hi := i_le hx i32_0
      exact lv_if_le hC.1 hC.2.1 hd ht (fun q => k1 (hi.mp q)) (fun q => k2 (fun z => q (hi.mpr z))))
theorem s_ifnull {off : Int} {t : Nat} (hd : decode M.2.1 pc = .ok (.ifnull off, 3)) (ht : (pc : Int) + off = (t : Int)) (hkt : Snd M d t Q kt) (hk : Snd M d (pc + 3) Q k) : Snd M d pc Q (x_null kt k) := fun b ls st μ h => by
  match st, h with
  | .inr (.inr (.inl none)) :: st, h => exact xR_go (hkt b ls _ μ h) (fun hst _ _ => xok_tail hst) (fun _ _ _ _ _ _ _ _ _ _ _ _ _ _ _ _ _ _ hC _ _ _ _ _ kk => lv_ifnullN hC.1 hC.2.1 hd ht kk)
  | .inr (.inr (.inl (some q))) :: st, h => exact xR_go (hk b ls _ μ h) (fun hst _ _ => xok_tail hst) (fun _ _ _ _ _ _ _ _ _ _ _ _ _ _ _ _ _ _ hC _ _ _ _ _ kk => lv_ifnull hC.1 hC.2.1 hd kk)
theorem s_ifnonnull {off : Int} {t : Nat} (hd : decode M.2.1 pc = .ok (.ifnonnull off, 3)) (ht : (pc : Int) + off = (t : Int)) (hkt : Snd M d t Q kt) (hk : Snd M d (pc + 3) Q k) : Snd M d pc Q (x_null k kt) := fun b ls st μ h => by
  match st, h with
  | .inr (.inr (.inl none)) :: st, h => exact xR_go (hk b ls _ μ h) (fun hst _ _ => xok_tail hst) (fun _ _ _ _ _ _ _ _ _ _ _ _ _ _ _ _ _ _ hC _ _ _ _ _ kk => lv_ifnonnullN hC.1 hC.2.1 hd kk)
  | .inr (.inr (.inl (some q))) :: st, h => exact xR_go (hkt b ls _ μ h) (fun hst _ _ => xok_tail hst) (fun _ _ _ _ _ _ _ _ _ _ _ _ _ _ _ _ _ _ hC _ _ _ _ _ kk => lv_ifnonnull hC.1 hC.2.1 hd ht kk)
theorem s_lcmp (hd : decode M.2.1 pc = .ok (.lcmp, 1)) (hk : Snd M d (pc + 1) Q k) : Snd M d pc Q (x_lcmp k) := fun b ls st μ h => by
  match st, h with
  | .inr (.inl y) :: .inr (.inl x) :: st, h => exact xR_go (hk b ls _ μ h) (fun hst _ _ => xok_cons (by unfold olcmp; split <;> (try split) <;> exact ⟨by omega, by omega⟩) (xok_tail (xok_tail hst))) (fun _ _ _ _ _ _ _ _ _ _ _ _ _ _ _ _ _ _ hC _ _ _ _ hst kk => W.lcmp hC.1 hC.2.1 hd (by
      have hy : i64 y := xok_head hst
      have hx : i64 x := xok_head (xok_tail hst)
      have e1 : Int64.ofInt x < Int64.ofInt y ↔ x < y := by rw [Int64.lt_iff_toInt_lt, toInt_i64 hx, toInt_i64 hy]
      have e2 : Int64.ofInt x = Int64.ofInt y ↔ x = y := by rw [← Int64.toInt_inj, toInt_i64 hx, toInt_i64 hy]
      have e3 : Int64.ofInt y < Int64.ofInt x ↔ y < x := by rw [Int64.lt_iff_toInt_lt, toInt_i64 hx, toInt_i64 hy]
      have e : Int32.ofInt (olcmp x y) = lg_cmp (Int64.ofInt x) (Int64.ofInt y) := by
        unfold olcmp lg_cmp
        simp only [gt_iff_lt, e2, e3]
        rcases Int.lt_trichotomy x y with h1 | h1 | h1
        · rw [if_pos h1, if_neg (show ¬ y < x by omega), if_neg (show ¬ x = y by omega)]; rfl
        · rw [if_neg (show ¬ x < y by omega), if_pos h1, if_neg (show ¬ y < x by omega), if_pos h1]; rfl
        · rw [if_neg (show ¬ x < y by omega), if_neg (show ¬ x = y by omega), if_pos h1]; rfl
      have kk : W _ _ _ _ _ _ _ _ _ _ _ _ _ _ _ (F0 _ _ _ (Value.int (Int32.ofInt (olcmp x y)) :: _)) := kk
      rw [e] at kk
      exact kk))
end Ins2
