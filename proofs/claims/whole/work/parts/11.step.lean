/-! ===== instructions that change locals and stack alone ===== -/
theorem i32_toInt (x : Int32) : i32 x.toInt := ⟨Int32.le_toInt x, Int32.toInt_lt x⟩
theorem i64_toInt (x : Int64) : i64 x.toInt := ⟨Int64.le_toInt x, Int64.toInt_lt x⟩
theorem toInt_i32 {x : Int} (h : i32 x) : (Int32.ofInt x).toInt = x := Int32.toInt_ofInt_of_le h.1 h.2
theorem toInt_i64 {x : Int} (h : i64 x) : (Int64.ofInt x).toInt = x := Int64.toInt_ofInt_of_le h.1 h.2
def oadd (a b : Int) : Int := (Int32.ofInt a + Int32.ofInt b).toInt
def osub (a b : Int) : Int := (Int32.ofInt a - Int32.ofInt b).toInt
def omul (a b : Int) : Int := (Int32.ofInt a * Int32.ofInt b).toInt
def oneg (a : Int) : Int := (- Int32.ofInt a).toInt
def odiv (a b : Int) : Int := (Int32.ofInt a / Int32.ofInt b).toInt
def orem (a b : Int) : Int := (Int32.ofInt a - Int32.ofInt a / Int32.ofInt b * Int32.ofInt b).toInt
def oand (a b : Int) : Int := (Int32.ofInt a &&& Int32.ofInt b).toInt
def oor (a b : Int) : Int := (Int32.ofInt a ||| Int32.ofInt b).toInt
def oxor (a b : Int) : Int := (Int32.ofInt a ^^^ Int32.ofInt b).toInt
def oshl (a b : Int) : Int := (Int32.ofInt a <<< (Int32.ofInt b &&& 31)).toInt
def oshr (a b : Int) : Int := (Int32.ofInt a >>> (Int32.ofInt b &&& 31)).toInt
def oushr (a b : Int) : Int := ((Int32.ofInt a).toUInt32 >>> ((Int32.ofInt b).toUInt32 &&& Int32.toUInt32 31)).toInt32.toInt
def oi2b (a : Int) : Int := (Int32.ofInt a).toInt8.toInt32.toInt
def oi2s (a : Int) : Int := (Int32.ofInt a).toInt16.toInt32.toInt
def ol2i (a : Int) : Int := (Int64.ofInt a).toInt32.toInt
def oladd (a b : Int) : Int := (Int64.ofInt a + Int64.ofInt b).toInt
def olsub (a b : Int) : Int := (Int64.ofInt a - Int64.ofInt b).toInt
def olmul (a b : Int) : Int := (Int64.ofInt a * Int64.ofInt b).toInt
def oldiv (a b : Int) : Int := (Int64.ofInt a / Int64.ofInt b).toInt
def olrem (a b : Int) : Int := (Int64.ofInt a - Int64.ofInt a / Int64.ofInt b * Int64.ofInt b).toInt
def olcmp (a b : Int) : Int := if a < b then -1 else if a = b then 0 else 1
section Go
variable {M : xMt} {d pc pc' : Nat} {Q : xV → xMem → Prop} {b : Nat × Nat} {ls st st' : List xV} {μ : xMem}
theorem xR_go (hk : xR M d b pc' ls st' μ Q) (hv : (∀ v ∈ st, xVok (gN μ.1) v) → (∀ v ∈ ls, xVok (gN μ.1) v) → xWf μ → ∀ v ∈ st', xVok (gN μ.1) v)
    (hs : ∀ (p : Program) (l : Launch) (e : Env) (s : State) (m : MethodId) (args : Array Value) (below : List Frame) (meth : Method) (c : Code) (Rm : Room) (w : xWd) (g : xGh) (H : Heap) (locs : List Loc) (cells slots : Nat) (lsM : Array Slot) (Qw : State → Prop), xCx M p s m args meth c → xSim w g μ s H → va_S (fun q => w.1 ≤ q) s.heap H locs → w.1 ≤ s.heap.size → xLoc w g (gN μ.1) M.2.2.1 ls lsM → (∀ v ∈ st, xVok (gN μ.1) v) →
      W p l e Rm s m args below meth c H locs cells slots Qw (F0 m pc' lsM (st'.map (cV w g))) → W p l e Rm s m args below meth c H locs cells slots Qw (F0 m pc lsM (st.map (cV w g)))) : xR M d b pc ls st μ Q := by
  intro p l e s m args below meth c Rm w g0 n0 g H locs cells slots lsM hC a1 a2 a3 a4 a5 a6 hS hV hb hL hst
  exact hs p l e s m args below meth c Rm w g H locs cells slots lsM _ hC hS hV hb hL hst (hk p l e s m args below meth c Rm w g0 n0 g H locs cells slots lsM hC a1 a2 a3 a4 a5 a6 hS hV hb hL (hv hst hL.2.2 hS.2.2.2.2.2.1))
end Go
def x_push (v : xV) (k : xP) (b : Nat × Nat) (ls st : List xV) (μ : xMem) : Prop := k b ls (v :: st) μ
def x_iload (i : Nat) (k : xP) (b : Nat × Nat) (ls st : List xV) (μ : xMem) : Prop := match ls.getD i vu with
  | .inl x => k b ls (vi x :: st) μ
  | _ => False
def x_lload (i : Nat) (k : xP) (b : Nat × Nat) (ls st : List xV) (μ : xMem) : Prop := match ls.getD i vu with
  | .inr (.inl x) => k b ls (vl x :: st) μ
  | _ => False
def x_aload (i : Nat) (k : xP) (b : Nat × Nat) (ls st : List xV) (μ : xMem) : Prop := match ls.getD i vu with
  | .inr (.inr (.inl q)) => k b ls (vq q :: st) μ
  | .inr (.inr (.inr (.inl q))) => k b ls (vo q :: st) μ
  | _ => False
def x_bin (f : Int → Int → Int) (k : xP) (b : Nat × Nat) (ls st : List xV) (μ : xMem) : Prop := match st with
  | .inl y :: .inl x :: st => k b ls (vi (f x y) :: st) μ
  | _ => False
def x_div (f : Int → Int → Int) (k : xP) (b : Nat × Nat) (ls st : List xV) (μ : xMem) : Prop := match st with
  | .inl y :: .inl x :: st => y ≠ 0 ∧ k b ls (vi (f x y) :: st) μ
  | _ => False
def x_un (f : Int → Int) (k : xP) (b : Nat × Nat) (ls st : List xV) (μ : xMem) : Prop := match st with
  | .inl x :: st => k b ls (vi (f x) :: st) μ
  | _ => False
def x_lbin (f : Int → Int → Int) (k : xP) (b : Nat × Nat) (ls st : List xV) (μ : xMem) : Prop := match st with
  | .inr (.inl y) :: .inr (.inl x) :: st => k b ls (vl (f x y) :: st) μ
  | _ => False
def x_ldiv (f : Int → Int → Int) (k : xP) (b : Nat × Nat) (ls st : List xV) (μ : xMem) : Prop := match st with
  | .inr (.inl y) :: .inr (.inl x) :: st => y ≠ 0 ∧ k b ls (vl (f x y) :: st) μ
  | _ => False
def x_lcmp (k : xP) (b : Nat × Nat) (ls st : List xV) (μ : xMem) : Prop := match st with
  | .inr (.inl y) :: .inr (.inl x) :: st => k b ls (vi (olcmp x y) :: st) μ
  | _ => False
def x_i2l (k : xP) (b : Nat × Nat) (ls st : List xV) (μ : xMem) : Prop := match st with
  | .inl x :: st => k b ls (vl x :: st) μ
  | _ => False
def x_l2i (k : xP) (b : Nat × Nat) (ls st : List xV) (μ : xMem) : Prop := match st with
  | .inr (.inl x) :: st => k b ls (vi (ol2i x) :: st) μ
  | _ => False
def x_cat1 : xV → Prop
  | .inr (.inl _) => False
  | .inr (.inr (.inr (.inr _))) => False
  | _ => True
def x_dup (k : xP) (b : Nat × Nat) (ls st : List xV) (μ : xMem) : Prop := match st with
  | v :: st => x_cat1 v ∧ k b ls (v :: v :: st) μ
  | _ => False
def x_pop (k : xP) (b : Nat × Nat) (ls st : List xV) (μ : xMem) : Prop := match st with
  | v :: st => x_cat1 v ∧ k b ls st μ
  | _ => False
def x_dup2 (k : xP) (b : Nat × Nat) (ls st : List xV) (μ : xMem) : Prop := match st with
  | v :: u :: st => x_cat1 v ∧ x_cat1 u ∧ k b ls (v :: u :: v :: u :: st) μ
  | _ => False
def x_c1 (c : Int → Prop) (kt k : xP) (b : Nat × Nat) (ls st : List xV) (μ : xMem) : Prop := match st with
  | .inl x :: st => (c x → kt b ls st μ) ∧ (¬ c x → k b ls st μ)
  | _ => False
def x_c2 (c : Int → Int → Prop) (kt k : xP) (b : Nat × Nat) (ls st : List xV) (μ : xMem) : Prop := match st with
  | .inl y :: .inl x :: st => (c x y → kt b ls st μ) ∧ (¬ c x y → k b ls st μ)
  | _ => False
def x_null (kt k : xP) (b : Nat × Nat) (ls st : List xV) (μ : xMem) : Prop := match st with
  | .inr (.inr (.inl none)) :: st => kt b ls st μ
  | .inr (.inr (.inl (some _))) :: st => k b ls st μ
  | _ => False
def xJ (M : xMt) (d t : Nat) (Q : xV → xMem → Prop) (b : Nat × Nat) (ls st : List xV) (μ : xMem) : Prop := xR M d b t ls st μ Q
theorem s_J {M : xMt} {d t : Nat} {Q : xV → xMem → Prop} : Snd M d t Q (xJ M d t Q) := fun _ _ _ _ h => h
theorem x_cat {w : xWd} {g : xGh} {v : xV} (h : x_cat1 v) : (cV w g v).category = 1 := by
  rcases v with x | x | (_ | x) | x | x <;> first | rfl | exact h.elim
def xi32 (x : Int) : Bool := decide (-2147483648 ≤ x) && decide (x < 2147483648)
def xi64 (x : Int) : Bool := decide (-9223372036854775808 ≤ x) && decide (x < 9223372036854775808)
theorem xi32_ok {x : Int} (h : xi32 x = true) : i32 x := by simpa [xi32, i32] using h
theorem xi64_ok {x : Int} (h : xi64 x = true) : i64 x := by simpa [xi64, i64] using h
theorem xok_cons {n : Nat} {v : xV} {st : List xV} (hv : xVok n v) (h : ∀ u ∈ st, xVok n u) : ∀ u ∈ v :: st, xVok n u := fun u hu => by
  rcases List.mem_cons.mp hu with rfl | hu
  · exact hv
  · exact h u hu
theorem xok_tail {n : Nat} {v : xV} {st : List xV} (h : ∀ u ∈ v :: st, xVok n u) : ∀ u ∈ st, xVok n u := fun u hu => h u (List.mem_cons_of_mem _ hu)
theorem xok_head {n : Nat} {v : xV} {st : List xV} (h : ∀ u ∈ v :: st, xVok n u) : xVok n v := h v List.mem_cons_self
section Ins
variable {M : xMt} {d pc : Nat} {Q : xV → xMem → Prop} {k kt : xP}
theorem s_iconst {x : Int} (hd : decode M.2.1 pc = .ok (.iconst x, 1)) (hx : xi32 x = true) (hk : Snd M d (pc + 1) Q k) : Snd M d pc Q (x_push (vi x) k) := fun b ls st μ h =>
  xR_go (hk b ls _ μ h) (fun hst _ _ => xok_cons (xi32_ok hx) hst) (fun _ _ _ _ _ _ _ _ _ _ _ _ _ _ _ _ _ _ hC _ _ _ _ _ kk => lv_iconst hC.1 hC.2.1 hd rfl kk)
theorem s_bipush {x : Int} (hd : decode M.2.1 pc = .ok (.bipush x, 2)) (hx : xi32 x = true) (hv : (Int8.ofInt x).toInt32 = Int32.ofInt x) (hk : Snd M d (pc + 2) Q k) : Snd M d pc Q (x_push (vi x) k) := fun b ls st μ h =>
  xR_go (hk b ls _ μ h) (fun hst _ _ => xok_cons (xi32_ok hx) hst) (fun _ _ _ _ _ _ _ _ _ _ _ _ _ _ _ _ _ _ hC _ _ _ _ _ kk => lv_bipush hC.1 hC.2.1 hd hv kk)
theorem s_sipush {x : Int} (hd : decode M.2.1 pc = .ok (.sipush x, 3)) (hx : xi32 x = true) (hv : (Int16.ofInt x).toInt32 = Int32.ofInt x) (hk : Snd M d (pc + 3) Q k) : Snd M d pc Q (x_push (vi x) k) := fun b ls st μ h =>
  xR_go (hk b ls _ μ h) (fun hst _ _ => xok_cons (xi32_ok hx) hst) (fun _ _ _ _ _ _ _ _ _ _ _ _ _ _ _ _ _ _ hC _ _ _ _ _ kk => lv_sipush hC.1 hC.2.1 hd hv kk)
theorem s_ldc {x : Int} {ix : Nat} {v : Int32} (hd : decode M.2.1 pc = .ok (.ldc ix, 2)) (hw : Cond.constant M.1.cls ix v ∈ xG) (hx : xi32 x = true) (hv : Int32.ofInt x = v) (hk : Snd M d (pc + 2) Q k) : Snd M d pc Q (x_push (vi x) k) := fun b ls st μ h =>
  xR_go (hk b ls _ μ h) (fun hst _ _ => xok_cons (xi32_ok hx) hst) (fun _ _ _ _ _ _ _ _ _ _ _ _ _ _ _ _ _ _ hC _ _ _ _ _ kk => lv_ldc hC.1 hC.2.1 hC.2.2.2.1 (hC.2.2.2.2.1 _ hw) hd (by subst hv; exact kk))
theorem s_lconst {n : Fin 2} {x : Int} (hd : decode M.2.1 pc = .ok (.lconst n, 1)) (hx : xi64 x = true) (hv : Int64.ofNat (n : Nat) = Int64.ofInt x) (hk : Snd M d (pc + 1) Q k) : Snd M d pc Q (x_push (vl x) k) := fun b ls st μ h =>
  xR_go (hk b ls _ μ h) (fun hst _ _ => xok_cons (xi64_ok hx) hst) (fun _ _ _ _ _ _ _ _ _ _ _ _ _ _ _ _ _ _ hC _ _ _ _ _ kk => lv_lconst hC.1 hC.2.1 hd hv kk)
theorem s_ldc2 {x : Int} {ix : Nat} {v : Int64} (hd : decode M.2.1 pc = .ok (.ldc2_w ix, 3)) (hw : Cond.constantLong M.1.cls ix v ∈ xG) (hx : xi64 x = true) (hv : Int64.ofInt x = v) (hk : Snd M d (pc + 3) Q k) : Snd M d pc Q (x_push (vl x) k) := fun b ls st μ h =>
  xR_go (hk b ls _ μ h) (fun hst _ _ => xok_cons (xi64_ok hx) hst) (fun _ _ _ _ _ _ _ _ _ _ _ _ _ _ _ _ _ _ hC _ _ _ _ _ kk => lv_ldc2 hC.1 hC.2.1 hC.2.2.2.1 (hC.2.2.2.2.1 _ hw) hd (by subst hv; exact kk))
theorem s_aconst_null (hd : decode M.2.1 pc = .ok (.aconst_null, 1)) (hk : Snd M d (pc + 1) Q k) : Snd M d pc Q (x_push vn k) := fun b ls st μ h =>
  xR_go (hk b ls _ μ h) (fun hst _ _ => xok_cons trivial hst) (fun _ _ _ _ _ _ _ _ _ _ _ _ _ _ _ _ _ _ hC _ _ _ _ _ kk => lv_null hC.1 hC.2.1 hd kk)
theorem xgetD {ls : List xV} {i : Nat} {v : xV} (h : ls.getD i vu = v) (hv : v ≠ vu) : ls[i]? = some v := by
  rw [List.getD_eq_getElem?_getD] at h
  cases hh : ls[i]? with
  | none => rw [hh] at h; exact absurd h.symm hv
  | some u => rw [hh] at h; exact congrArg some h
theorem s_iload_n {i : Nat} {n : Fin 4} (hd : decode M.2.1 pc = .ok (.iload_n n, 1)) (hi : (n : Nat) = i) (hk : Snd M d (pc + 1) Q k) : Snd M d pc Q (x_iload i k) := fun b ls st μ h => by
  unfold x_iload at h
  split at h
  · rename_i x hx
    have hg := xgetD hx (by simp)
    exact xR_go (hk b ls _ μ h) (fun hst hls _ => xok_cons (hls _ (List.mem_of_getElem? hg)) hst) (fun _ _ _ _ _ _ _ _ _ _ _ _ _ _ _ _ _ _ hC _ _ _ hL _ kk => lv_iload_n hC.1 hC.2.1 hd hi (hL.get hg (by simp)) kk)
  · exact h.elim
theorem s_iload {i : Nat} (hd : decode M.2.1 pc = .ok (.iload i, 2)) (hk : Snd M d (pc + 2) Q k) : Snd M d pc Q (x_iload i k) := fun b ls st μ h => by
  unfold x_iload at h
  split at h
  · rename_i x hx
    have hg := xgetD hx (by simp)
    exact xR_go (hk b ls _ μ h) (fun hst hls _ => xok_cons (hls _ (List.mem_of_getElem? hg)) hst) (fun _ _ _ _ _ _ _ _ _ _ _ _ _ _ _ _ _ _ hC _ _ _ hL _ kk => lv_iload hC.1 hC.2.1 hd (hL.get hg (by simp)) kk)
  · exact h.elim
theorem s_lload_n {i : Nat} {n : Fin 4} (hd : decode M.2.1 pc = .ok (.lload_n n, 1)) (hi : (n : Nat) = i) (hk : Snd M d (pc + 1) Q k) : Snd M d pc Q (x_lload i k) := fun b ls st μ h => by
  unfold x_lload at h
  split at h
  · rename_i x hx
    have hg := xgetD hx (by simp)
    exact xR_go (hk b ls _ μ h) (fun hst hls _ => xok_cons (hls _ (List.mem_of_getElem? hg)) hst) (fun _ _ _ _ _ _ _ _ _ _ _ _ _ _ _ _ _ _ hC _ _ _ hL _ kk => lv_lload_n hC.1 hC.2.1 hd hi (hL.get hg (by simp)) kk)
  · exact h.elim
theorem s_lload {i : Nat} (hd : decode M.2.1 pc = .ok (.lload i, 2)) (hk : Snd M d (pc + 2) Q k) : Snd M d pc Q (x_lload i k) := fun b ls st μ h => by
  unfold x_lload at h
  split at h
  · rename_i x hx
    have hg := xgetD hx (by simp)
    exact xR_go (hk b ls _ μ h) (fun hst hls _ => xok_cons (hls _ (List.mem_of_getElem? hg)) hst) (fun _ _ _ _ _ _ _ _ _ _ _ _ _ _ _ _ _ _ hC _ _ _ hL _ kk => lv_lload hC.1 hC.2.1 hd (hL.get hg (by simp)) kk)
  · exact h.elim
theorem s_aload_n {i : Nat} {n : Fin 4} (hd : decode M.2.1 pc = .ok (.aload_n n, 1)) (hi : (n : Nat) = i) (hk : Snd M d (pc + 1) Q k) : Snd M d pc Q (x_aload i k) := fun b ls st μ h => by
  unfold x_aload at h
  split at h
  · rename_i q hx
    have hg := xgetD hx (by simp)
    cases q with
    | none => exact xR_go (hk b ls _ μ h) (fun hst hls _ => xok_cons (hls _ (List.mem_of_getElem? hg)) hst) (fun _ _ _ _ _ _ _ _ _ _ _ _ _ _ _ _ _ _ hC _ _ _ hL _ kk => lv_aload_nN hC.1 hC.2.1 hd hi (hL.get hg (by simp)) kk)
    | some q => exact xR_go (hk b ls _ μ h) (fun hst hls _ => xok_cons (hls _ (List.mem_of_getElem? hg)) hst) (fun _ _ _ _ _ _ _ _ _ _ _ _ _ _ _ _ _ _ hC _ _ _ hL _ kk => lv_aload_n hC.1 hC.2.1 hd hi (hL.get hg (by simp)) kk)
  · rename_i q hx
    have hg := xgetD hx (by simp)
    exact xR_go (hk b ls _ μ h) (fun hst hls _ => xok_cons trivial hst) (fun _ _ _ _ _ _ _ _ _ _ _ _ _ _ _ _ _ _ hC _ _ _ hL _ kk => lv_aload_n hC.1 hC.2.1 hd hi (hL.get hg (by simp)) kk)
  · exact h.elim
theorem s_aload {i : Nat} (hd : decode M.2.1 pc = .ok (.aload i, 2)) (hk : Snd M d (pc + 2) Q k) : Snd M d pc Q (x_aload i k) := fun b ls st μ h => by
  unfold x_aload at h
  split at h
  · rename_i q hx
    have hg := xgetD hx (by simp)
    cases q with
    | none => exact xR_go (hk b ls _ μ h) (fun hst hls _ => xok_cons (hls _ (List.mem_of_getElem? hg)) hst) (fun _ _ _ _ _ _ _ _ _ _ _ _ _ _ _ _ _ _ hC _ _ _ hL _ kk => lv_aloadN hC.1 hC.2.1 hd (hL.get hg (by simp)) kk)
    | some q => exact xR_go (hk b ls _ μ h) (fun hst hls _ => xok_cons (hls _ (List.mem_of_getElem? hg)) hst) (fun _ _ _ _ _ _ _ _ _ _ _ _ _ _ _ _ _ _ hC _ _ _ hL _ kk => lv_aload hC.1 hC.2.1 hd (hL.get hg (by simp)) kk)
  · rename_i q hx
    have hg := xgetD hx (by simp)
    exact xR_go (hk b ls _ μ h) (fun hst hls _ => xok_cons trivial hst) (fun _ _ _ _ _ _ _ _ _ _ _ _ _ _ _ _ _ _ hC _ _ _ hL _ kk => lv_aload hC.1 hC.2.1 hd (hL.get hg (by simp)) kk)
  · exact h.elim
end Ins
