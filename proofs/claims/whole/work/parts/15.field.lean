/-! ===== fields and arrays ===== -/
def xFs (g : xGh) (μ : xMem) (q ci : Nat) : List Value := (List.range (xNf ci)).map fun j => xFld g (xTy ci j) (μ.2 q j) (gF μ.1 q j)
theorem xW_obj {g : xGh} {μ : xMem} {q ci : Nat} (hw : xWf μ) (hq : gK μ.1 q = some (.inl ci)) : (xW g μ)[q]? = some ((g q).1, .inr (ci, xFs g μ q ci)) := by
  rw [xW_get (hw.lt hq)]
  unfold xCell
  rw [hq]
  rfl
theorem xFs_get {g : xGh} {μ : xMem} {q ci j : Nat} (h : j < xNf ci) : (xFs g μ q ci)[j]? = some (xFld g (xTy ci j) (μ.2 q j) (gF μ.1 q j)) := by
  simp [xFs, h]
theorem xW_arr {g : xGh} {μ : xMem} {q n : Nat} {ty : FieldType} (hw : xWf μ) (hq : gK μ.1 q = some (.inr (ty, n))) : (xW g μ)[q]? = some ((g q).1, .inl ((g q).2, n, xArr g ty (μ.2 q) (gF μ.1 q))) := by
  rw [xW_get (hw.lt hq)]
  unfold xCell
  rw [hq]
def x_getI (ci j : Nat) (k : xP) (b : Nat × Nat) (ls st : List xV) (μ : xMem) : Prop := match st with
  | .inr (.inr (.inl (some q))) :: st => gK μ.1 q = some (.inl ci) ∧ k b ls (vi (μ.2 q j) :: st) μ
  | _ => False
def x_getL (ci j : Nat) (k : xP) (b : Nat × Nat) (ls st : List xV) (μ : xMem) : Prop := match st with
  | .inr (.inr (.inl (some q))) :: st => gK μ.1 q = some (.inl ci) ∧ k b ls (vl (μ.2 q j) :: st) μ
  | _ => False
def x_getR (ci j : Nat) (k : xP) (b : Nat × Nat) (ls st : List xV) (μ : xMem) : Prop := match st with
  | .inr (.inr (.inl (some q))) :: st => gK μ.1 q = some (.inl ci) ∧ k b ls (vq (gF μ.1 q j) :: st) μ
  | _ => False
def x_putI (ci j : Nat) (k : xP) (b : Nat × Nat) (ls st : List xV) (μ : xMem) : Prop := match st with
  | .inl x :: .inr (.inr (.inl (some q))) :: st => gK μ.1 q = some (.inl ci) ∧ k b ls st (μ.1, upd2 μ.2 q j x)
  | _ => False
def x_putZ (ci j : Nat) (k : xP) (b : Nat × Nat) (ls st : List xV) (μ : xMem) : Prop := match st with
  | .inl x :: .inr (.inr (.inl (some q))) :: st => gK μ.1 q = some (.inl ci) ∧ (x = 0 ∨ x = 1) ∧ k b ls st (μ.1, upd2 μ.2 q j x)
  | _ => False
def x_putL (ci j : Nat) (k : xP) (b : Nat × Nat) (ls st : List xV) (μ : xMem) : Prop := match st with
  | .inr (.inl x) :: .inr (.inr (.inl (some q))) :: st => gK μ.1 q = some (.inl ci) ∧ i32 x ∧ k b ls st (μ.1, upd2 μ.2 q j x)
  | _ => False
def gArr (Γ : xSh) (a : Nat) (ty : FieldType) : Prop := ∃ n, gK Γ a = some (.inr (ty, n))
def x_iaload (k : xP) (b : Nat × Nat) (ls st : List xV) (μ : xMem) : Prop := match st with
  | .inl j :: .inr (.inr (.inl (some a))) :: st => gArr μ.1 a .int ∧ 0 ≤ j ∧ j < gLen μ.1 a ∧ k b ls (vi (μ.2 a j.toNat) :: st) μ
  | _ => False
def x_zaload (k : xP) (b : Nat × Nat) (ls st : List xV) (μ : xMem) : Prop := match st with
  | .inl j :: .inr (.inr (.inl (some a))) :: st => gArr μ.1 a .boolean ∧ 0 ≤ j ∧ j < gLen μ.1 a ∧ k b ls (vi (μ.2 a j.toNat) :: st) μ
  | _ => False
def x_aaload (k : xP) (b : Nat × Nat) (ls st : List xV) (μ : xMem) : Prop := match st with
  | .inl j :: .inr (.inr (.inl (some a))) :: st => (∃ ty, gArr μ.1 a ty ∧ ty.isReference = true) ∧ 0 ≤ j ∧ j < gLen μ.1 a ∧ k b ls (vq (gF μ.1 a j.toNat) :: st) μ
  | _ => False
def x_iastore (k : xP) (b : Nat × Nat) (ls st : List xV) (μ : xMem) : Prop := match st with
  | .inl x :: .inl j :: .inr (.inr (.inl (some a))) :: st => gArr μ.1 a .int ∧ 0 ≤ j ∧ j < gLen μ.1 a ∧ k b ls st (μ.1, upd2 μ.2 a j.toNat x)
  | _ => False
def x_zastore (k : xP) (b : Nat × Nat) (ls st : List xV) (μ : xMem) : Prop := match st with
  | .inl x :: .inl j :: .inr (.inr (.inl (some a))) :: st => gArr μ.1 a .boolean ∧ (x = 0 ∨ x = 1) ∧ 0 ≤ j ∧ j < gLen μ.1 a ∧ k b ls st (μ.1, upd2 μ.2 a j.toNat x)
  | _ => False
def x_alen (k : xP) (b : Nat × Nat) (ls st : List xV) (μ : xMem) : Prop := match st with
  | .inr (.inr (.inl (some a))) :: st => (∃ ty, gArr μ.1 a ty) ∧ gLen μ.1 a < 2147483648 ∧ k b ls (vi (gLen μ.1 a) :: st) μ
  | _ => False
theorem gLen_of {Γ : xSh} {a n : Nat} {ty : FieldType} (h : gK Γ a = some (.inr (ty, n))) : gLen Γ a = n := by
  unfold gLen
  rw [h]
theorem x_in_of {j : Int} {n : Nat} (hi : i32 j) (h0 : 0 ≤ j) (h1 : j < n) : vp_in (Int32.ofInt j) n := by
  unfold vp_in
  rintro (h | h)
  · rw [Int32.lt_iff_toInt_lt, toInt_i32 hi] at h
    simp at h
    omega
  · have : (Int32.ofInt j).toNatClampNeg = j.toNat := by
      show (Int32.ofInt j).toInt.toNat = _
      rw [toInt_i32 hi]
    rw [this] at h
    omega
theorem x_clamp {j : Int} (hi : i32 j) : (Int32.ofInt j).toNatClampNeg = j.toNat := by
  show (Int32.ofInt j).toInt.toNat = _
  rw [toInt_i32 hi]
theorem upd2_wf {μ : xMem} (h : xWf μ) (a j : Nat) {x : Int} (hx : i32 x) : xWf (μ.1, upd2 μ.2 a j x) := by
  refine ⟨fun k i => ?_, h.2⟩
  show i32 (upd2 μ.2 a j x k i)
  unfold upd2
  split
  · exact hx
  · exact h.1 k i
theorem xW_at (g : xGh) (μ : xMem) (k : Nat) : (xW g μ)[k]? = if k < gN μ.1 then some ((g k).1, xCell g μ k) else none := by
  by_cases h : k < gN μ.1
  · rw [if_pos h]; exact xW_get h
  · rw [if_neg h]; exact List.getElem?_eq_none (by rw [xW_len]; exact Nat.not_lt.mp h)
/-- one cell is another, the rest stay -/
theorem xW_set {g : xGh} {μ μ' : xMem} {q : Nat} {e : va_E} (hn : gN μ'.1 = gN μ.1) (hq : q < gN μ.1) (he : xCell g μ' q = e) (ho : ∀ k, k ≠ q → xCell g μ' k = xCell g μ k) : (xW g μ).set q ((g q).1, e) = xW g μ' := by
  apply List.ext_getElem?
  intro k
  rw [xW_at, hn]
  by_cases h : k < gN μ.1
  · rw [if_pos h]
    by_cases hk : k = q
    · subst hk
      rw [List.getElem?_set_self (by rw [xW_len]; exact h), he]
    · rw [List.getElem?_set_ne (fun e => hk e.symm), xW_get h, ho k hk]
  · rw [if_neg h]
    exact List.getElem?_eq_none (by rw [List.length_set, xW_len]; exact Nat.not_lt.mp h)
theorem upd2_row {σ : Nat → Nat → Int} {q j k : Nat} {x : Int} (h : k ≠ q) : upd2 σ q j x k = σ k := by
  funext i
  simp [upd2, h]
theorem xCell_congr {g : xGh} {μ μ' : xMem} {k : Nat} (hK : gK μ'.1 k = gK μ.1 k) (hF : gF μ'.1 k = gF μ.1 k) (hI : μ'.2 k = μ.2 k) : xCell g μ' k = xCell g μ k := by
  unfold xCell
  rw [hK, hF, hI]
theorem xW_put {g : xGh} {μ : xMem} {q ci j : Nat} {x : Int} {v : Value} (hw : xWf μ) (hq : gK μ.1 q = some (.inl ci)) (hj : j < xNf ci) (hv : ∀ r, xFld g (xTy ci j) x r = v) :
    (xW g μ).set q ((g q).1, .inr (ci, (xFs g μ q ci).set j v)) = xW g (μ.1, upd2 μ.2 q j x) := by
  refine xW_set rfl (hw.lt hq) ?_ (fun k hk => xCell_congr rfl rfl (upd2_row hk))
  have e : xCell g (μ.1, upd2 μ.2 q j x) q = .inr (ci, xFs g (μ.1, upd2 μ.2 q j x) q ci) := by
    unfold xCell
    rw [show gK (μ.1, upd2 μ.2 q j x).1 q = some (.inl ci) from hq]
    rfl
  rw [e]
  congr 2
  apply List.ext_getElem?
  intro i
  by_cases hi : i < xNf ci
  · rw [xFs_get hi]
    by_cases hij : i = j
    · subst hij
      rw [List.getElem?_set_self (by simp [xFs, hi])]
      simp [upd2, hv]
    · rw [List.getElem?_set_ne (fun e => hij e.symm), xFs_get hi]
      simp [upd2, hij]
  · rw [List.getElem?_eq_none (by simp [xFs]; omega), List.getElem?_eq_none (by simp [xFs]; omega)]
theorem xW_ast {g : xGh} {μ : xMem} {q n j : Nat} {ty : FieldType} {x : Int} {y : Int32} (hw : xWf μ) (hq : gK μ.1 q = some (.inr (ty, n))) (hf : ∀ (f : Nat → Int) (r : Nat → Option Nat), xArr g ty f r = .inl (fun j => Int32.ofInt (f j))) (hv : Int32.ofInt x = y) :
    (xW g μ).set q ((g q).1, .inl ((g q).2, n, .inl (upd (fun j => Int32.ofInt (μ.2 q j)) j y))) = xW g (μ.1, upd2 μ.2 q j x) := by
  refine xW_set rfl (hw.lt hq) ?_ (fun k hk => xCell_congr rfl rfl (upd2_row hk))
  have e : xCell g (μ.1, upd2 μ.2 q j x) q = .inl ((g q).2, n, xArr g ty (upd2 μ.2 q j x q) (gF μ.1 q)) := by
    unfold xCell
    rw [show gK (μ.1, upd2 μ.2 q j x).1 q = some (.inr (ty, n)) from hq]
  rw [e, hf]
  congr 4
  funext i
  unfold upd upd2
  by_cases hi : i = j
  · subst hi
    simp [hv]
  · simp [hi]

section Mem
variable {M : xMt} {d pc : Nat} {Q : xV → xMem → Prop} {k : xP}
theorem xOld.next {w : xWd} {s : State} {H H1 : Heap} {locs locs1 : List Loc} (h : xOld w s H) (hS : va_S (fun q => w.1 ≤ q) s.heap H locs) (hS1 : va_S (fun q => w.1 ≤ q) s.heap H1 locs1) (hb : w.1 ≤ s.heap.size) : xOld w s H1 :=
  h.kept (Nat.le_trans hb hS.1) (fun q _ hq => by rw [hS1.2.1 q (by omega) hq, hS.2.1 q (by omega) hq])
theorem xSim.K {w : xWd} {g : xGh} {μ : xMem} {s : State} {H : Heap} (h : xSim w g μ s H) {q n : Nat} {ty : FieldType} (hq : gK μ.1 q = some (.inr (ty, n))) : va_K w.2.1 vwCl [((g q).2, ty)] s := by
  refine ⟨h.2.2.2.1.1.1, fun k x hx => ?_⟩
  have h0 : k < 1 := (List.getElem?_eq_some_iff.mp hx).1
  rw [show k = 0 by omega] at hx
  cases hx
  exact h.2.2.2.2.1 q ty n hq
/-- memory changes, its shape does not -/
theorem xR_mem {b : Nat × Nat} {ls st st' : List xV} {μ : xMem} {σ : Nat → Nat → Int} {pc' : Nat} (hk : xR M d b pc' ls st' (μ.1, σ) Q) (hv : (∀ v ∈ st, xVok (gN μ.1) v) → xWf μ → (∀ v ∈ st', xVok (gN μ.1) v) ∧ xWf (μ.1, σ))
    (hs : ∀ (p : Program) (l : Launch) (e : Env) (s : State) (m : MethodId) (args : Array Value) (below : List Frame) (meth : Method) (c : Code) (Rm : Room) (w : xWd) (g : xGh) (H : Heap) (locs : List Loc) (cells slots : Nat) (lsM : Array Slot) (Qw : State → Prop), xCx M p s m args meth c → xSim w g μ s H → va_S (fun q => w.1 ≤ q) s.heap H locs → w.1 ≤ s.heap.size → xLoc w g (gN μ.1) M.2.2.1 ls lsM → (∀ v ∈ st, xVok (gN μ.1) v) → d ≤ Rm.frames → 40 * d ≤ Rm.locals →
      (∀ (H1 : Heap) (locs1 : List Loc), va_P w.2.1 vwCl (xW g (μ.1, σ)) H1 → va_D (fun q => w.1 ≤ q) (xW g (μ.1, σ)) → va_S (fun q => w.1 ≤ q) s.heap H1 locs1 → W p l e Rm s m args below meth c H1 locs1 cells slots Qw (F0 m pc' lsM (st'.map (cV w g)))) → W p l e Rm s m args below meth c H locs cells slots Qw (F0 m pc lsM (st.map (cV w g)))) : xR M d b pc ls st μ Q := by
  intro p l e s m args below meth c Rm w g0 n0 g H locs cells slots lsM hC a1 a2 a3 a4 a5 a6 hS hV hb hL hst
  obtain ⟨hv1, hv2⟩ := hv hst hS.2.2.2.2.2.1
  exact hs p l e s m args below meth c Rm w g H locs cells slots lsM _ hC hS hV hb hL hst a1 a2 (fun H1 locs1 hP1 hD1 hV1 => hk p l e s m args below meth c Rm w g0 n0 g H1 locs1 cells slots lsM hC a1 a2 a3 a4 a5 a6 ⟨hP1, hD1, Nat.le_trans hb hV1.1, hS.2.2.2.1, hS.2.2.2.2.1, hv2, hS.2.2.2.2.2.2.next hV hV1 hb⟩ hV1 hb hL hv1)
variable {ci j ix N : Nat} {C : String} {T : u_T}
theorem s_getI (hc : xCl ci C T N) (hj : j < N) (hty : ∀ g x q, xFld g (xTy ci j) x q = .int (Int32.ofInt x)) (hw : Cond.fieldLink M.1.cls ix (T j).1 (T j).2.1 (T j).2.2.1 ∈ xG) (hd : decode M.2.1 pc = .ok (.getfield ix, 3)) (hk : Snd M d (pc + 3) Q k) : Snd M d pc Q (x_getI ci j k) := fun b ls st μ h => by
  match st, h with
  | .inr (.inr (.inl (some q))) :: st, h => exact xR_go (hk b ls _ μ h.2) (fun hst _ hwf => xok_cons (hwf.1 q j) (xok_tail hst)) (fun _ _ _ _ _ _ _ _ _ _ _ _ _ _ _ _ _ _ hC hS _ _ _ _ kk =>
      va_get hC.1 hC.2.1 hC.2.2.2.2.1 hc.2.2.1 hC.2.2.2.1 hS.2.2.2.1.1 hS.1 q (xW_obj hS.2.2.2.2.2.1 h.1) hc.1 j hj (hC.2.2.2.2.1 _ hw) (fun _ z => z) (by rw [xFs_get (by rw [hc.2.1]; exact hj), hty]; rfl) hd kk)
theorem s_getL (hc : xCl ci C T N) (hj : j < N) (hty : ∀ g x q, xFld g (xTy ci j) x q = .long (Int64.ofInt x)) (hw : Cond.fieldLink M.1.cls ix (T j).1 (T j).2.1 (T j).2.2.1 ∈ xG) (hd : decode M.2.1 pc = .ok (.getfield ix, 3)) (hk : Snd M d (pc + 3) Q k) : Snd M d pc Q (x_getL ci j k) := fun b ls st μ h => by
  match st, h with
  | .inr (.inr (.inl (some q))) :: st, h => exact xR_go (hk b ls _ μ h.2) (fun hst _ hwf => xok_cons (i64_i32 (hwf.1 q j)) (xok_tail hst)) (fun _ _ _ _ _ _ _ _ _ _ _ _ _ _ _ _ _ _ hC hS _ _ _ _ kk =>
      va_get hC.1 hC.2.1 hC.2.2.2.2.1 hc.2.2.1 hC.2.2.2.1 hS.2.2.2.1.1 hS.1 q (xW_obj hS.2.2.2.2.2.1 h.1) hc.1 j hj (hC.2.2.2.2.1 _ hw) (fun _ z => z) (by rw [xFs_get (by rw [hc.2.1]; exact hj), hty]; rfl) hd kk)
theorem cV_vq {w : xWd} {g : xGh} (q : Option Nat) : cV w g (vq q) = va_rf (q.map fun k => (g k).1) := by
  cases q <;> rfl
theorem s_getR (hc : xCl ci C T N) (hj : j < N) (hty : ∀ g x q, xFld g (xTy ci j) x q = va_rf (q.map fun k => (g k).1)) (hw : Cond.fieldLink M.1.cls ix (T j).1 (T j).2.1 (T j).2.2.1 ∈ xG) (hd : decode M.2.1 pc = .ok (.getfield ix, 3)) (hk : Snd M d (pc + 3) Q k) : Snd M d pc Q (x_getR ci j k) := fun b ls st μ h => by
  match st, h with
  | .inr (.inr (.inl (some q))) :: st, h => exact xR_go (hk b ls _ μ h.2) (fun hst _ hwf => xok_cons (by
        cases hf : gF μ.1 q j with
        | none => trivial
        | some z => exact hwf.2.1 q j z hf) (xok_tail hst)) (fun _ _ _ _ _ _ _ _ _ _ _ _ _ _ _ _ _ _ hC hS _ _ _ _ kk =>
      va_get hC.1 hC.2.1 hC.2.2.2.2.1 hc.2.2.1 hC.2.2.2.1 hS.2.2.2.1.1 hS.1 q (xW_obj hS.2.2.2.2.2.1 h.1) hc.1 j hj (hC.2.2.2.2.1 _ hw) (fun _ z => z) (by rw [xFs_get (by rw [hc.2.1]; exact hj), hty]) hd (by rw [List.map_cons, cV_vq] at kk; exact kk))
theorem s_putI (hc : xCl ci C T N) (hj : j < N) (hty : ∀ g x q, xFld g (xTy ci j) x q = .int (Int32.ofInt x)) (hti : xTy ci j = .int) (hfin : (T j).2.2.2 = false) (hw : Cond.fieldLink M.1.cls ix (T j).1 (T j).2.1 (T j).2.2.1 ∈ xG) (hd : decode M.2.1 pc = .ok (.putfield ix, 3)) (hk : Snd M d (pc + 3) Q k) : Snd M d pc Q (x_putI ci j k) := fun b ls st μ h => by
  match st, h with
  | .inl x :: .inr (.inr (.inl (some q))) :: st, h => exact xR_mem (hk b ls _ _ h.2) (fun hst hwf => ⟨xok_tail (xok_tail hst), upd2_wf hwf q j (xok_head hst)⟩) (fun _ _ _ _ _ _ _ _ _ _ _ _ _ _ _ _ _ _ hC hS hV _ _ _ _ _ kk =>
      va_put (ty := .int) (v := .int (Int32.ofInt x)) hC.1 hC.2.1 hC.2.2.2.2.1 hc.2.2.1 (xTy ci) hc.2.2.2.1 hc.2.2.2.2 hC.2.2.2.1 hS.2.2.2.1.1 hS.1 hS.2.1 hV q (xW_obj hS.2.2.2.2.2.1 h.1) hc.1 j hj (hC.2.2.2.2.1 _ hw) (fun _ z => z) hfin (by rw [hc.2.2.2.1 j hj, hti]) rfl rfl (by simp [xFs, hc.2.1]; exact hj) hd (fun H1 locs1 h1 h2 h3 => by
        have hj' : j < xNf ci := by rw [hc.2.1]; exact hj
        rw [xW_put (x := x) hS.2.2.2.2.2.1 h.1 hj' (fun r => hty _ x r)] at h1 h2
        exact kk H1 locs1 h1 h2 h3))
theorem s_putZ (hc : xCl ci C T N) (hj : j < N) (hty : ∀ g x q, xFld g (xTy ci j) x q = .int (Int32.ofInt x)) (hti : xTy ci j = .boolean) (hfin : (T j).2.2.2 = false) (hw : Cond.fieldLink M.1.cls ix (T j).1 (T j).2.1 (T j).2.2.1 ∈ xG) (hd : decode M.2.1 pc = .ok (.putfield ix, 3)) (hk : Snd M d (pc + 3) Q k) : Snd M d pc Q (x_putZ ci j k) := fun b ls st μ h => by
  match st, h with
  | .inl x :: .inr (.inr (.inl (some q))) :: st, h => exact xR_mem (hk b ls _ _ h.2.2) (fun hst hwf => ⟨xok_tail (xok_tail hst), upd2_wf hwf q j (xok_head hst)⟩) (fun _ _ _ _ _ _ _ _ _ _ _ _ _ _ _ _ _ _ hC hS hV _ _ _ _ _ kk =>
      va_put (ty := .boolean) (v := .int (Int32.ofInt x)) hC.1 hC.2.1 hC.2.2.2.2.1 hc.2.2.1 (xTy ci) hc.2.2.2.1 hc.2.2.2.2 hC.2.2.2.1 hS.2.2.2.1.1 hS.1 hS.2.1 hV q (xW_obj hS.2.2.2.2.2.1 h.1) hc.1 j hj (hC.2.2.2.2.1 _ hw) (fun _ z => z) hfin (by rw [hc.2.2.2.1 j hj, hti]) (by rcases h.2.1 with rfl | rfl <;> decide) (by rcases h.2.1 with rfl | rfl <;> decide) (by simp [xFs, hc.2.1]; exact hj) hd (fun H1 locs1 h1 h2 h3 => by
        have hj' : j < xNf ci := by rw [hc.2.1]; exact hj
        rw [xW_put (x := x) hS.2.2.2.2.2.1 h.1 hj' (fun r => hty _ x r)] at h1 h2
        exact kk H1 locs1 h1 h2 h3))
theorem s_putL (hc : xCl ci C T N) (hj : j < N) (hty : ∀ g x q, xFld g (xTy ci j) x q = .long (Int64.ofInt x)) (hti : xTy ci j = .long) (hfin : (T j).2.2.2 = false) (hw : Cond.fieldLink M.1.cls ix (T j).1 (T j).2.1 (T j).2.2.1 ∈ xG) (hd : decode M.2.1 pc = .ok (.putfield ix, 3)) (hk : Snd M d (pc + 3) Q k) : Snd M d pc Q (x_putL ci j k) := fun b ls st μ h => by
  match st, h with
  | .inr (.inl x) :: .inr (.inr (.inl (some q))) :: st, h => exact xR_mem (hk b ls _ _ h.2.2) (fun hst hwf => ⟨xok_tail (xok_tail hst), upd2_wf hwf q j h.2.1⟩) (fun _ _ _ _ _ _ _ _ _ _ _ _ _ _ _ _ _ _ hC hS hV _ _ _ _ _ kk =>
      va_put (ty := .long) (v := .long (Int64.ofInt x)) hC.1 hC.2.1 hC.2.2.2.2.1 hc.2.2.1 (xTy ci) hc.2.2.2.1 hc.2.2.2.2 hC.2.2.2.1 hS.2.2.2.1.1 hS.1 hS.2.1 hV q (xW_obj hS.2.2.2.2.2.1 h.1) hc.1 j hj (hC.2.2.2.2.1 _ hw) (fun _ z => z) hfin (by rw [hc.2.2.2.1 j hj, hti]) rfl rfl (by simp [xFs, hc.2.1]; exact hj) hd (fun H1 locs1 h1 h2 h3 => by
        have hj' : j < xNf ci := by rw [hc.2.1]; exact hj
        rw [xW_put (x := x) hS.2.2.2.2.2.1 h.1 hj' (fun r => hty _ x r)] at h1 h2
        exact kk H1 locs1 h1 h2 h3))
theorem s_iaload (hd : decode M.2.1 pc = .ok (.iaload, 1)) (hk : Snd M d (pc + 1) Q k) : Snd M d pc Q (x_iaload k) := fun b ls st μ h => by
  match st, h with
  | .inl j :: .inr (.inr (.inl (some a))) :: st, h =>
    obtain ⟨⟨n, hq⟩, h0, h1, h⟩ := h
    rw [gLen_of hq] at h1
    exact xR_go (hk b ls _ μ h) (fun hst _ hwf => xok_cons (hwf.1 a j.toNat) (xok_tail (xok_tail hst))) (fun _ _ _ _ _ _ _ _ _ _ _ _ _ _ _ _ _ _ hC hS _ _ _ hst kk =>
      va_iald hC.1 hC.2.1 (hS.K hq) hS.1 a 0 (xW_arr hS.2.2.2.2.2.1 hq) rfl (x_in_of (xok_head hst) h0 h1) hd (by rw [x_clamp (xok_head hst)]; exact kk))
theorem s_zaload (hd : decode M.2.1 pc = .ok (.baload, 1)) (hk : Snd M d (pc + 1) Q k) : Snd M d pc Q (x_zaload k) := fun b ls st μ h => by
  match st, h with
  | .inl j :: .inr (.inr (.inl (some a))) :: st, h =>
    obtain ⟨⟨n, hq⟩, h0, h1, h⟩ := h
    rw [gLen_of hq] at h1
    exact xR_go (hk b ls _ μ h) (fun hst _ hwf => xok_cons (hwf.1 a j.toNat) (xok_tail (xok_tail hst))) (fun _ _ _ _ _ _ _ _ _ _ _ _ _ _ _ _ _ _ hC hS _ _ _ hst kk =>
      va_zald hC.1 hC.2.1 (hS.K hq) hS.1 a 0 (xW_arr hS.2.2.2.2.2.1 hq) rfl (x_in_of (xok_head hst) h0 h1) hd (by rw [x_clamp (xok_head hst)]; exact kk))
theorem xArr_ref {g : xGh} {ty : FieldType} (h : ty.isReference = true) (f : Nat → Int) (q : Nat → Option Nat) : xArr g ty f q = .inr (.inr (.inr (.inr (fun j => (q j).map fun k => (g k).1)))) := by
  cases ty <;> first | rfl | cases h
theorem s_aaload (hd : decode M.2.1 pc = .ok (.aaload, 1)) (hk : Snd M d (pc + 1) Q k) : Snd M d pc Q (x_aaload k) := fun b ls st μ h => by
  match st, h with
  | .inl j :: .inr (.inr (.inl (some a))) :: st, h =>
    obtain ⟨⟨ty, ⟨n, hq⟩, hr⟩, h0, h1, h⟩ := h
    rw [gLen_of hq] at h1
    exact xR_go (hk b ls _ μ h) (fun hst _ hwf => xok_cons (by
        cases hf : gF μ.1 a j.toNat with
        | none => trivial
        | some z => exact hwf.2.1 _ _ z hf) (xok_tail (xok_tail hst))) (fun _ _ _ _ _ _ _ _ _ _ w g _ _ _ _ _ _ hC hS _ _ _ hst kk => by
      have ha := hS.1 a _ (xW_arr hS.2.2.2.2.2.1 hq)
      rw [xArr_ref hr] at ha
      have hin := x_in_of (xok_head hst) h0 h1
      have hlt : (Int32.ofInt j).toNatClampNeg < n := Nat.not_le.mp fun q => hin (Or.inr q)
      refine W.aald (v := va_rf ((gF μ.1 a j.toNat).map fun k => (g k).1)) (ty := ty) hC.1 hC.2.1 ha ((hS.K hq).2 0 _ rfl |>.1 n (fun j => va_rf ((gF μ.1 a j).map fun k => (g k).1))) hr (fun q => by cases q) (by show ¬ (_ ∨ (arrV _ _ _).slots.size ≤ _); rw [arrV_size]; exact hin) (by show (arrV _ _ _).slots[_]? = _; rw [arrV_read _ _ hlt, x_clamp (xok_head hst)]) rfl rfl hd (by rw [List.map_cons, cV_vq] at kk; exact kk))
theorem s_iastore (hd : decode M.2.1 pc = .ok (.iastore, 1)) (hk : Snd M d (pc + 1) Q k) : Snd M d pc Q (x_iastore k) := fun b ls st μ h => by
  match st, h with
  | .inl x :: .inl j :: .inr (.inr (.inl (some a))) :: st, h =>
    obtain ⟨⟨n, hq⟩, h0, h1, h⟩ := h
    rw [gLen_of hq] at h1
    exact xR_mem (hk b ls _ _ h) (fun hst hwf => ⟨xok_tail (xok_tail (xok_tail hst)), upd2_wf hwf a _ (xok_head hst)⟩) (fun _ _ _ _ _ _ _ _ _ _ _ _ _ _ _ _ _ _ hC hS hV _ _ hst _ _ kk =>
      va_iast hC.1 hC.2.1 (hS.K hq) hS.1 hS.2.1 hV a 0 (xW_arr hS.2.2.2.2.2.1 hq) rfl (x_in_of (xok_head (xok_tail hst)) h0 h1) hd (fun H1 locs1 h1 h2 h3 => by
        rw [x_clamp (xok_head (xok_tail hst)), xW_ast (x := x) hS.2.2.2.2.2.1 hq (fun _ _ => rfl) rfl] at h1 h2
        exact kk H1 locs1 h1 h2 h3))
theorem s_zastore (hd : decode M.2.1 pc = .ok (.bastore, 1)) (hk : Snd M d (pc + 1) Q k) : Snd M d pc Q (x_zastore k) := fun b ls st μ h => by
  match st, h with
  | .inl x :: .inl j :: .inr (.inr (.inl (some a))) :: st, h =>
    obtain ⟨⟨n, hq⟩, hx, h0, h1, h⟩ := h
    rw [gLen_of hq] at h1
    exact xR_mem (hk b ls _ _ h) (fun hst hwf => ⟨xok_tail (xok_tail (xok_tail hst)), upd2_wf hwf a _ (xok_head hst)⟩) (fun _ _ _ _ _ _ _ _ _ _ _ _ _ _ _ _ _ _ hC hS hV _ _ hst _ _ kk =>
      va_zast hC.1 hC.2.1 (hS.K hq) hS.1 hS.2.1 hV a 0 (xW_arr hS.2.2.2.2.2.1 hq) rfl (x_in_of (xok_head (xok_tail hst)) h0 h1) hd (fun H1 locs1 h1 h2 h3 => by
        rw [x_clamp (xok_head (xok_tail hst)), xW_ast (x := x) hS.2.2.2.2.2.1 hq (fun _ _ => rfl) (by rcases hx with rfl | rfl <;> decide)] at h1 h2
        exact kk H1 locs1 h1 h2 h3))
end Mem
