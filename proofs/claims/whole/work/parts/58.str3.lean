/-! ===== calls on texts: length, charAt ===== -/
theorem fl_J0_9 : Cond.fieldLink RJ0 9 "java/lang/String" "value" "[B" ∈ xG := xT_in 1227 (by decide +kernel) (by decide +kernel)
theorem fl_J0_15 : Cond.fieldLink RJ0 15 "java/lang/String" "coder" "B" ∈ xG := xT_in 1228 (by decide +kernel) (by decide +kernel)
theorem fl_J0_38 : Cond.fieldLink RJ0 38 "java/lang/String" "COMPACT_STRINGS" "Z" ∈ xG := xT_in 220 (by decide +kernel) (by decide +kernel)
theorem fl_J0_1053 : Cond.fieldLink RJ0 1053 "jdk/internal/util/Preconditions" "SIOOBE_FORMATTER" "Ljava/util/function/BiFunction;" ∈ xG := xT_in 236 (by decide +kernel) (by decide +kernel)
theorem fl_X5_281 : Cond.fieldLink RX5 281 "CrystalByTheMinute" "KIND_ABOVE" "[I" ∈ xG := xT_in 727 (by decide +kernel) (by decide +kernel)
/-- a road that is never taken -/
def x_no (_ : Nat × Nat) (_ _ : List xV) (_ : xMem) : Prop := False
def x_i2c (k : xP) (b : Nat × Nat) (ls st : List xV) (μ : xMem) : Prop := match st with
  | .inl x :: st => (0 ≤ x ∧ x < 128) ∧ k b ls (vi x :: st) μ
  | _ => False
def x_bret (Q : xV → xMem → Prop) (_ : Nat × Nat) (_ st : List xV) (μ : xMem) : Prop := match st with
  | [.inl x] => (0 ≤ x ∧ x < 128) ∧ Q (vi x) μ
  | _ => False
def x_cW0 (M' : xMt) (d : Nat) (k : xP) (b : Nat × Nat) (ls st : List xV) (μ : xMem) : Prop := match st with
  | .inr (.inr (.inr (.inl q))) :: st => st.length ≤ 4 ∧ (2 ≤ q ∧ q < 15) ∧ xRM M' d (0, 0) [vo q] μ (xK k b ls st)
  | _ => False
def x_cW1 (M' : xMt) (d : Nat) (k : xP) (b : Nat × Nat) (ls st : List xV) (μ : xMem) : Prop := match st with
  | a :: .inr (.inr (.inr (.inl q))) :: st => st.length ≤ 4 ∧ (2 ≤ q ∧ q < 15) ∧ xRM M' d (0, 0) [vo q, a] μ (xK k b ls st)
  | _ => False
theorem i2c_all : ∀ n : Fin 128, ((Int32.ofInt (n.val : Int)).toUInt32 % 65536).toInt32 = Int32.ofInt (n.val : Int) := by decide +kernel
theorem nar_all : ∀ n : Fin 128, narrow .char (.int (Int32.ofInt (n.val : Int))) = .int (Int32.ofInt (n.val : Int)) ∧ narrow .byte (.int (Int32.ofInt (n.val : Int))) = .int (Int32.ofInt (n.val : Int)) := by decide +kernel
theorem oand255_all : ∀ n : Fin 128, (Int32.ofInt (n.val : Int) &&& Int32.ofInt 255).toInt = (n.val : Int) := by decide +kernel
theorem x128 {x : Int} (h0 : 0 ≤ x) (h1 : x < 128) : ∃ n : Fin 128, x = (n.val : Int) := ⟨⟨x.toNat, by omega⟩, by simp; omega⟩
theorem oand255 {x : Int} (h0 : 0 ≤ x) (h1 : x < 128) : oand x 255 = x := by
  obtain ⟨n, rfl⟩ := x128 h0 h1
  rw [oand_def]
  exact oand255_all n
section Str
variable {M M' : xMt} {pc d : Nat} {Q Q' : xV → xMem → Prop} {k : xP}
theorem s_no : Snd M d pc Q x_no := fun _ _ _ _ h => h.elim
theorem s_i2c (hd : decode M.2.1 pc = .ok (.i2c, 1)) (hk : Snd M d (pc + 1) Q k) : Snd M d pc Q (x_i2c k) := fun b ls st μ h => by
  match st, h with
  | .inl x :: st, h =>
    obtain ⟨⟨h1, h2⟩, h⟩ := h
    obtain ⟨n, rfl⟩ := x128 h1 h2
    exact xR_go (hk b ls _ μ h) (fun hst _ _ => hst) (fun _ _ _ _ _ _ _ _ _ _ _ _ _ _ _ _ _ _ hC _ _ _ _ _ kk => lv_i2c hC.1 hC.2.1 hd (i2c_all n) kk)
theorem s_bret {ty : FieldType} (hd : decode M.2.1 pc = .ok (.ireturn, 1)) (hr : M.2.2.2 = some ty) (hty : ty = .char ∨ ty = .byte) : Snd M d pc Q (x_bret Q) := fun b ls st μ h => by
  match st, h with
  | [.inl x], h =>
    obtain ⟨⟨h1, h2⟩, h⟩ := h
    obtain ⟨n, rfl⟩ := x128 h1 h2
    have hn : narrow ty (.int (Int32.ofInt (n.val : Int))) = .int (Int32.ofInt (n.val : Int)) := by
      rcases hty with e | e
      · rw [e]; exact (nar_all n).1
      · rw [e]; exact (nar_all n).2
    exact xR_end (r := vi (n.val : Int)) h (fun hst => xok_head hst) (fun _ _ _ _ _ _ _ _ _ _ _ _ _ _ _ _ _ _ hC hq hf => W.zret hC.1 hC.2.1 (hC.2.2.2.2.2.1.trans hr) hn hq hf hd hC.2.2.2.2.2.2.1)
/-- the static is null, or an object: nobody looks -/
def x_sio (k : xP) (b : Nat × Nat) (ls st : List xV) (μ : xMem) : Prop := k b ls (vn :: st) μ ∧ k b ls (vo 28 :: st) μ
theorem s_sioobe {ix : Nat} (hl : Cond.fieldLink M.1.cls ix "jdk/internal/util/Preconditions" "SIOOBE_FORMATTER" "Ljava/util/function/BiFunction;" ∈ xG) (hd : decode M.2.1 pc = .ok (.getstatic ix, 3)) (hk : Snd M d (pc + 3) Q k) : Snd M d pc Q (x_sio k) := fun b ls st μ h => by
  intro p l e s m args below meth c Rm w g0 n0 g H locs cells slots lsM hC a1 a2 a3 a4 a5 a6 hS hV hb hL hst
  rcases hS.2.2.2.2.2.2.2.2.2.2.2.1 with z | z
  · obtain ⟨cf, kf, fi, f, a, cell, h1, h2, h3, h4, h5, h6, h7, h8⟩ := z
    exact W.gets hC.1 hC.2.1 hC.2.2.2.1 (hC.2.2.2.2.1 _ hl) h1 h2 h3 h4 h5 (fun e => by rw [e] at h6; cases h6) h7 rfl hd (hk b ls _ μ h.1 p l e s m args below meth c Rm w g0 n0 g H locs cells slots lsM hC a1 a2 a3 a4 a5 a6 hS hV hb hL (xok_cons trivial hst))
  · obtain ⟨cf, kf, fi, f, a, cell, h1, h2, h3, h4, h5, h6, h7, h8⟩ := z
    exact W.gets hC.1 hC.2.1 hC.2.2.2.1 (hC.2.2.2.2.1 _ hl) h1 h2 h3 h4 h5 (fun e => by rw [e] at h6; cases h6) h7 rfl hd (hk b ls _ μ h.2 p l e s m args below meth c Rm w g0 n0 g H locs cells slots lsM hC a1 a2 a3 a4 a5 a6 hS hV hb hL (xok_cons trivial hst))
theorem xR_callW {ix n q : Nat} {b : Nat × Nat} {ls as rest : List xV} {μ : xMem} (hE : xCee M' n) (hl : Cond.methodLink M.1.cls ix M'.1 ∈ xG) (hi : Cond.instanceMethod M'.1 ∈ xG) (hse : Cond.selects M'.1.cls M'.1 M'.1 ∈ xG) (hcl : M'.1.cls = "java/lang/String")
    (hd : decode M.2.1 pc = .ok (.invokevirtual ix, 3)) (hn : as.length = n) (hre : rest.length ≤ 4) (hq : 2 ≤ q ∧ q < 15) (hM : xRM M' d (0, 0) (vo q :: as) μ Q')
    (hk : ∀ (r : xV) (μ' : xMem), Q' r μ' → xR M (d + 1) (b.1 - 0, b.2 - 0) (pc + 3) ls (xpush r rest) μ' Q) : xR M (d + 1) b pc ls (as.reverse ++ vo q :: rest) μ Q := by
  refine xR_back (st := as.reverse ++ vo q :: rest) (rest := rest) (bc := (0, 0)) (Q' := Q') ⟨Nat.zero_le _, Nat.zero_le _⟩ (fun v hv => List.mem_append_right _ (List.mem_cons_of_mem _ hv)) hk ?_
  intro p l e s m args below meth c Rm w g H locs cells slots lsM hC a1 a2 a3 a4 hS hbs hL hst
  obtain ⟨j, rfl⟩ : ∃ j, q = j + 2 := ⟨q - 2, by omega⟩
  have hO : ∃ cell : Cell, H[w.2.2.1 (j + 2)]? = some cell ∧ cell.vm.isStatics = false ∧ s.vm.findClass M'.1.cls = some cell.cls := by
    obtain ⟨cell, h1, h2, h3, -⟩ := (hS.2.2.2.2.2.2.2.2.2.1.1 j (by omega)).1
    exact ⟨cell, h1, h2, by rw [hcl]; exact h3⟩
  refine ⟨_, va_runV (As := as.map (cV w g)) (b := w.2.2.1 (j + 2)) (C := M'.1.cls) (n := n) ⟨hC.1, hC.2.1, hC.2.2.1, hC.2.2.2.1, hC.2.2.2.2.1⟩ (hM l w g) ⟨callB_of n hC.2.2.2.2.1 (xGood hE.1) rfl rfl rfl (hC.2.2.2.2.1 _ hE.2.1) (hC.2.2.2.2.1 _ hl) hE.2.2.1 ⟨a1, by have := hE.2.2.2; show 8 + (M'.2.2.1 + 11) + 40 * d ≤ _; omega⟩, hC.2.2.2.2.1 _ hi, hC.2.2.2.2.1 _ hse⟩ ⟨xblind, hO, fun U hU hW => ⟨rfl, by rw [hU]; exact hS.warm hW, by rw [hU]; exact hbs, fun v hv => ?_⟩⟩ rfl (by rw [List.length_map]; exact hn) hL.1.1 (by simp [cV]) (lv_room (by have := xsum (w := w) (g := g) rest; omega)) hd ⟨a3, a4⟩⟩
  rcases List.mem_cons.mp hv with rfl | hv
  · exact hst _ (List.mem_append_right _ List.mem_cons_self)
  · exact hst _ (List.mem_append_left _ (List.mem_reverse.mpr hv))
theorem s_cW0 {ix : Nat} (hE : xCee M' 0) (hl : Cond.methodLink M.1.cls ix M'.1 ∈ xG) (hi : Cond.instanceMethod M'.1 ∈ xG) (hse : Cond.selects M'.1.cls M'.1 M'.1 ∈ xG) (hcl : M'.1.cls = "java/lang/String") (hd : decode M.2.1 pc = .ok (.invokevirtual ix, 3)) (hk : Snd M (d + 1) (pc + 3) Q k) : Snd M (d + 1) pc Q (x_cW0 M' d k) := fun b ls st μ h => by
  match st, h with
  | .inr (.inr (.inr (.inl q))) :: st, h => exact xR_callW (as := []) hE hl hi hse hcl hd rfl h.1 h.2.1 h.2.2 (fun r μ' hr => hk b ls _ μ' hr)
theorem s_cW1 {ix : Nat} (hE : xCee M' 1) (hl : Cond.methodLink M.1.cls ix M'.1 ∈ xG) (hi : Cond.instanceMethod M'.1 ∈ xG) (hse : Cond.selects M'.1.cls M'.1 M'.1 ∈ xG) (hcl : M'.1.cls = "java/lang/String") (hd : decode M.2.1 pc = .ok (.invokevirtual ix, 3)) (hk : Snd M (d + 1) (pc + 3) Q k) : Snd M (d + 1) pc Q (x_cW1 M' d k) := fun b ls st μ h => by
  match st, h with
  | a :: .inr (.inr (.inr (.inl q))) :: st, h => exact xR_callW (as := [a]) hE hl hi hse hcl hd rfl h.1 h.2.1 h.2.2 (fun r μ' hr => hk b ls _ μ' hr)
end Str
