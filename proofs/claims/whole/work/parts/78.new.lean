/-! ===== new cells, references that are laid ===== -/
def gPush (Γ : xSh) (q : Nat ⊕ (FieldType × Nat)) : xSh := (gN Γ + 1, (fun k => if k = gN Γ then some q else gK Γ k), (fun k j => if k = gN Γ then none else gF Γ k j), gS Γ)
def zer2 (σ : Nat → Nat → Int) (n : Nat) : Nat → Nat → Int := fun k j => if k = n then 0 else σ k j
def gSetF (Γ : xSh) (q j : Nat) (r : Option Nat) : xSh := (gN Γ, gK Γ, (fun k i => if k = q ∧ i = j then r else gF Γ k i), gS Γ)
def gh (g : xGh) (n q : Nat) (cA : ClassId) : xGh := fun k => if k = n then (q, cA) else g k
def eNew (cA : ClassId) : Nat ⊕ (FieldType × Nat) → va_E
  | .inl ci => .inr (ci, (List.range (xNf ci)).map fun j => xFld (fun _ => (0, cA)) (xTy ci j) 0 none)
  | .inr p => .inl (cA, p.2, xArr (fun _ => (0, cA)) p.1 (fun _ => 0) (fun _ => none))
theorem gh_eq {g : xGh} {n q : Nat} {cA : ClassId} : gh g n q cA n = (q, cA) := by simp [gh]
theorem gh_ne {g : xGh} {n q k : Nat} {cA : ClassId} (h : k ≠ n) : gh g n q cA k = g k := by simp [gh, h]
theorem xFld_gh {g g' : xGh} {ty : FieldType} {x : Int} {r : Option Nat} (h : ∀ z, r = some z → g' z = g z) : xFld g' ty x r = xFld g ty x r := by
  cases r with
  | none => cases ty <;> rfl
  | some z =>
    have e := h z rfl
    cases ty <;> simp [xFld, e]
theorem xArr_gh {g g' : xGh} {ty : FieldType} {f : Nat → Int} {r : Nat → Option Nat} (h : ∀ j z, r j = some z → g' z = g z) : xArr g' ty f r = xArr g ty f r := by
  have e : (fun j => (r j).map fun k => (g' k).1) = (fun j => (r j).map fun k => (g k).1) := by
    funext j
    cases hr : r j with
    | none => rfl
    | some z => simp [h j z hr]
  cases ty <;> simp only [xArr, e]
theorem xW_push {g : xGh} {μ : xMem} {q : Nat} {cA : ClassId} {kd : Nat ⊕ (FieldType × Nat)} (hw : xWf μ) : xW (gh g (gN μ.1) q cA) (gPush μ.1 kd, zer2 μ.2 (gN μ.1)) = xW g μ ++ [(q, eNew cA kd)] := by
  show (List.range (gN μ.1 + 1)).map (fun k => ((gh g (gN μ.1) q cA k).1, xCell (gh g (gN μ.1) q cA) (gPush μ.1 kd, zer2 μ.2 (gN μ.1)) k)) = _
  rw [List.range_succ, List.map_append]
  congr 1
  · refine List.map_congr_left (fun k hk => ?_)
    have hk : k < gN μ.1 := List.mem_range.mp hk
    have hne : k ≠ gN μ.1 := by omega
    have e1 : gK (gPush μ.1 kd, zer2 μ.2 (gN μ.1)).1 k = gK μ.1 k := if_neg hne
    have e2 : gF (gPush μ.1 kd, zer2 μ.2 (gN μ.1)).1 k = gF μ.1 k := by funext j; exact if_neg hne
    have e3 : (gPush μ.1 kd, zer2 μ.2 (gN μ.1)).2 k = μ.2 k := by funext j; exact if_neg hne
    have hr : ∀ j z, gF μ.1 k j = some z → gh g (gN μ.1) q cA z = g z := fun j z hz => gh_ne (by have := hw.2.1 k j z hz; omega)
    rw [gh_ne hne]
    congr 1
    rw [xCell_congr (μ := μ) e1 e2 e3]
    unfold xCell
    split
    · congr 2
      exact List.map_congr_left (fun j _ => xFld_gh (hr j))
    · rw [gh_ne hne, xArr_gh hr]
    · rfl
  · simp only [List.map_cons, List.map_nil]
    rw [gh_eq]
    congr 2
    have e1 : gK (gPush μ.1 kd, zer2 μ.2 (gN μ.1)).1 (gN μ.1) = some kd := if_pos rfl
    have e2 : ∀ j, gF (gPush μ.1 kd, zer2 μ.2 (gN μ.1)).1 (gN μ.1) j = none := fun j => if_pos rfl
    have e3 : ∀ j, (gPush μ.1 kd, zer2 μ.2 (gN μ.1)).2 (gN μ.1) j = 0 := fun j => if_pos rfl
    unfold xCell
    rw [e1]
    cases kd with
    | inl ci =>
      show Sum.inr (ci, _) = _
      unfold eNew
      congr 2
      refine List.map_congr_left (fun j _ => ?_)
      rw [e2, e3]
      exact xFld_gh (fun z hz => by cases hz)
    | inr p =>
      unfold eNew
      rw [gh_eq]
      show Sum.inl (cA, p.2, _) = _
      rw [show (gPush μ.1 (.inr p), zer2 μ.2 (gN μ.1)).2 (gN μ.1) = fun _ => 0 from funext e3, show gF (gPush μ.1 (.inr p), zer2 μ.2 (gN μ.1)).1 (gN μ.1) = fun _ => none from funext e2]
      rw [xArr_gh (g := fun _ => (0, cA)) (fun j z hz => by cases hz)]
theorem push_wf {μ : xMem} (h : xWf μ) (kd : Nat ⊕ (FieldType × Nat)) : xWf (gPush μ.1 kd, zer2 μ.2 (gN μ.1)) := by
  obtain ⟨h1, h2, h3⟩ := h
  refine ⟨fun k j => ?_, fun k j q hq => ?_, fun k hk => ?_⟩
  · show i32 (if k = gN μ.1 then 0 else μ.2 k j)
    split
    · exact i32_0
    · exact h1 k j
  · have hq : (if k = gN μ.1 then none else gF μ.1 k j) = some q := hq
    show q < gN μ.1 + 1
    split at hq
    · cases hq
    · have := h2 k j q hq
      omega
  · have hk : gN μ.1 + 1 ≤ k := hk
    show (if k = gN μ.1 then some kd else gK μ.1 k) = none
    rw [if_neg (by omega)]
    exact h3 k (by omega)
section New
variable {M M' : xMt} {d pc pc' ix : Nat} {Q Q' : xV → xMem → Prop} {k : xP}
theorem xR_grow {kd : Nat ⊕ (FieldType × Nat)} {b : Nat × Nat} {ls st st' : List xV} {μ : xMem} {dc ds : Nat} (hb : dc ≤ b.1 ∧ ds ≤ b.2) (hsub : ∀ v ∈ st', v ∈ st)
    (hk : xR M d (b.1 - dc, b.2 - ds) pc' ls (vr (gN μ.1) :: st') (gPush μ.1 kd, zer2 μ.2 (gN μ.1)) Q)
    (hs : ∀ (p : Program) (l : Launch) (e : Env) (s : State) (m : MethodId) (args : Array Value) (below : List Frame) (meth : Method) (c : Code) (Rm : Room) (w : xWd) (g : xGh) (H : Heap) (locs : List Loc) (cells slots : Nat) (lsM : Array Slot) (Qw : State → Prop), xCx M p s m args meth c → xSim w g μ s H → va_S (fun q => w.1 ≤ q) s.heap H locs → w.1 ≤ s.heap.size → (∀ v ∈ st, xVok (gN μ.1) v) → cells + dc ≤ Rm.cells → slots + ds ≤ Rm.slots →
      (∀ (q : Nat) (cA : ClassId) (H1 : Heap), (∀ ty n, kd = .inr (ty, n) → ArrOfT s cA ty ∧ va_RA s cA ty) → va_P w.2.1 vwCl (xW g μ ++ [(q, eNew cA kd)]) H1 → va_D (fun q => w.1 ≤ q) (xW g μ ++ [(q, eNew cA kd)]) → va_S (fun q => w.1 ≤ q) s.heap H1 locs → W p l e Rm s m args below meth c H1 locs (cells + dc) (slots + ds) Qw (F0 m pc' lsM (.ref q :: st'.map (cV w g)))) → W p l e Rm s m args below meth c H locs cells slots Qw (F0 m pc lsM (st.map (cV w g)))) : xR M d b pc ls st μ Q := by
  intro p l e s m args below meth c Rm w g0 n0 g H locs cells slots lsM hC a1 a2 a3 a4 a5 a6 hS hV hbs hL hst
  refine hs p l e s m args below meth c Rm w g H locs cells slots lsM _ hC hS hV hbs hst (by omega) (by omega) (fun q cA H1 hA hP1 hD1 hV1 => ?_)
  have hwf := hS.2.2.2.2.2.1
  have hg : ∀ k, k < gN μ.1 → gh g (gN μ.1) q cA k = g k := fun k hk => gh_ne (by omega)
  rw [← xW_push hwf] at hP1 hD1
  have hS1 : xSim w (gh g (gN μ.1) q cA) (gPush μ.1 kd, zer2 μ.2 (gN μ.1)) s H1 := by
    refine ⟨hP1, hD1, Nat.le_trans hbs hV1.1, hS.2.2.2.1, fun k ty n hk => ?_, push_wf hwf kd, hS.2.2.2.2.2.2.next hV hV1 hbs⟩
    have hk : (if k = gN μ.1 then some kd else gK μ.1 k) = some (.inr (ty, n)) := hk
    by_cases e : k = gN μ.1
    · rw [if_pos e] at hk
      rw [e, gh_eq]
      exact hA ty n (Option.some.inj hk)
    · rw [if_neg e] at hk
      rw [gh_ne e]
      exact hS.2.2.2.2.1 k ty n hk
  have hL1 : xLoc w (gh g (gN μ.1) q cA) (gN (gPush μ.1 kd)) M.2.2.1 ls lsM := ⟨by rw [xLv_eq hg ls 0 hL.2.2]; exact hL.1, hL.2.1, fun u hu => xVok_mono (Nat.le_succ _) (hL.2.2 u hu)⟩
  have hrest : ∀ u ∈ st', xVok (gN μ.1) u := fun u hu => hst u (hsub u hu)
  have key := hk p l e s m args below meth c Rm w g0 n0 (gh g (gN μ.1) q cA) H1 locs (cells + dc) (slots + ds) lsM hC a1 a2 (by show cells + dc + (b.1 - dc) ≤ _; omega) (by show slots + ds + (b.2 - ds) ≤ _; omega) (fun k hk0 => (hg k (Nat.lt_of_lt_of_le hk0 a6)).trans (a5 k hk0)) (Nat.le_trans a6 (Nat.le_succ _)) hS1 hV1 hbs hL1 (fun v hv => ?_)
  · have e3 : (vr (gN μ.1) :: st').map (cV w (gh g (gN μ.1) q cA)) = .ref q :: st'.map (cV w g) := by
      rw [List.map_cons]
      congr 1
      · show Value.ref (gh g (gN μ.1) q cA (gN μ.1)).1 = _
        rw [gh_eq]
      · exact List.map_congr_left (fun u hu => cV_eq hg (hrest u hu))
    rw [e3] at key
    exact key
  · rcases List.mem_cons.mp hv with rfl | hv
    · exact Nat.lt_succ_self _
    · exact xVok_mono (Nat.le_succ _) (hrest v hv)
/-- types whose default is 0 or null -/
def tyOk : FieldType → Bool
  | .float => false
  | .double => false
  | _ => true
theorem dv_ok {ty : FieldType} {g : xGh} (h : tyOk ty = true) : defaultValue ty = xFld g ty 0 none := by
  cases ty <;> first | rfl | (simp [tyOk] at h)
def x_new (ci : Nat) (k : xP) (b : Nat × Nat) (ls st : List xV) (μ : xMem) : Prop := (1 ≤ b.1 ∧ xNf ci ≤ b.2) ∧ k (b.1 - 1, b.2 - xNf ci) ls (vr (gN μ.1) :: st) (gPush μ.1 (.inl ci), zer2 μ.2 (gN μ.1))
def x_newa (ty : FieldType) (k : xP) (b : Nat × Nat) (ls st : List xV) (μ : xMem) : Prop := match st with
  | .inl n :: st => (0 ≤ n ∧ n < 100000) ∧ (1 ≤ b.1 ∧ n.toNat ≤ b.2) ∧ k (b.1 - 1, b.2 - n.toNat) ls (vr (gN μ.1) :: st) (gPush μ.1 (.inr (ty, n.toNat)), zer2 μ.2 (gN μ.1))
  | _ => False
theorem s_new {ci N : Nat} {C : String} {T : u_T} (hc : xCl ci C T N) (hok : ∀ j, j < N → tyOk (xTy ci j) = true) (hl : Cond.classLink M.1.cls ix C ∈ xG) (hi : Cond.instantiable C N ∈ xG) (hn : Cond.initialized C ∈ xG) (hd : decode M.2.1 pc = .ok (.new ix, 3)) (hk : Snd M d (pc + 3) Q k) : Snd M d pc Q (x_new ci k) := fun b ls st μ h => by
  obtain ⟨hb, h⟩ := h
  have eN : xNf ci = N := hc.2.1
  refine xR_grow (kd := .inl ci) (dc := 1) (ds := xNf ci) hb (fun v hv => hv) (hk _ ls _ _ h) (fun p l e s m args below meth c Rm w g H locs cells slots lsM Qw hC hS hV hbs hst h1 h2 kk => ?_)
  rw [eN] at h2 kk
  refine va_new (ty := xTy ci) (fs := (List.range (xNf ci)).map fun j => xFld (fun _ => (0, 0)) (xTy ci j) 0 none) hC.1 hC.2.1 hC.2.2.2.2.1 hc.2.2.1 hc.2.2.2.1 hC.2.2.2.1 (hC.2.2.2.2.1 _ hl) (hC.2.2.2.2.1 _ hi) (hC.2.2.2.2.1 _ hn) hS.2.2.2.1.1 hS.1 hS.2.1 hV (fun q hq => Nat.le_trans hbs hq) hc.1 (fun j hj => ?_) h1 h2 hd (fun q H1 g1 g2 g3 => ?_)
  · unfold vp_V
    rw [List.getD_eq_getElem?_getD, List.getElem?_map, List.getElem?_range (by rw [eN]; exact hj)]
    exact dv_ok (hok j hj)
  · have e0 : eNew 0 (.inl ci) = .inr (ci, (List.range (xNf ci)).map fun j => xFld (fun _ => (0, 0)) (xTy ci j) 0 none) := rfl
    rw [← e0] at g1 g2
    exact kk q 0 H1 (fun ty n hz => by cases hz) g1 g2 g3
theorem newa_c {n : Int} (h0 : 0 ≤ n) (h1 : n < 100000) : ¬ Int32.ofInt n < 0 ∧ (Int32.ofInt n).toNatClampNeg = n.toNat := by
  have hi : i32 n := ⟨by omega, by omega⟩
  refine ⟨fun z => ?_, x_clamp hi⟩
  rw [Int32.lt_iff_toInt_lt, toInt_i32 hi] at z
  simp at z
  omega
theorem s_newaI (hw : Cond.arrayClass .int ∈ xG) (hd : decode M.2.1 pc = .ok (.newarray .int, 2)) (hk : Snd M d (pc + 2) Q k) : Snd M d pc Q (x_newa .int k) := fun b ls st μ h => by
  match st, h with
  | .inl n :: st, h =>
    obtain ⟨⟨n0, n1⟩, hb, h⟩ := h
    obtain ⟨c1, c2⟩ := newa_c n0 n1
    refine xR_grow (kd := .inr (.int, n.toNat)) (dc := 1) (ds := n.toNat) hb (fun v hv => List.mem_cons_of_mem _ hv) (hk _ ls _ _ h) (fun p l e s m args below meth c Rm w g H locs cells slots lsM Qw hC hS hV hbs hst h1 h2 kk => ?_)
    refine va_newa (atype := .int) (ty := .int) (a0 := (n.toNat, .inl fun _ => Int32.ofInt 0)) hC.1 hC.2.1 (hC.2.2.2.2.1 _ hw) rfl hS.2.2.2.1.1 hS.1 hS.2.1 hV (fun q hq => Nat.le_trans hbs hq) (fun cA => rfl) c1 c2 (by show n.toNat * 4 ≤ _; omega) h1 h2 hd (fun q cA H1 g0 g1 g2 g3 => ?_)
    exact kk q cA H1 (fun ty n hz => by cases hz; exact g0.2 0 _ rfl) g1 g2 g3
theorem s_newaZ (hw : Cond.arrayClass .boolean ∈ xG) (hd : decode M.2.1 pc = .ok (.newarray .boolean, 2)) (hk : Snd M d (pc + 2) Q k) : Snd M d pc Q (x_newa .boolean k) := fun b ls st μ h => by
  match st, h with
  | .inl n :: st, h =>
    obtain ⟨⟨n0, n1⟩, hb, h⟩ := h
    obtain ⟨c1, c2⟩ := newa_c n0 n1
    refine xR_grow (kd := .inr (.boolean, n.toNat)) (dc := 1) (ds := n.toNat) hb (fun v hv => List.mem_cons_of_mem _ hv) (hk _ ls _ _ h) (fun p l e s m args below meth c Rm w g H locs cells slots lsM Qw hC hS hV hbs hst h1 h2 kk => ?_)
    refine va_newa (atype := .boolean) (ty := .boolean) (a0 := (n.toNat, .inl fun _ => Int32.ofInt 0)) hC.1 hC.2.1 (hC.2.2.2.2.1 _ hw) rfl hS.2.2.2.1.1 hS.1 hS.2.1 hV (fun q hq => Nat.le_trans hbs hq) (fun cA => rfl) c1 c2 (by show n.toNat * 1 ≤ _; omega) h1 h2 hd (fun q cA H1 g0 g1 g2 g3 => ?_)
    exact kk q cA H1 (fun ty n hz => by cases hz; exact g0.2 0 _ rfl) g1 g2 g3
theorem s_newq {C : String} (hl : Cond.classLink M.1.cls ix C ∈ xG) (hao : ∀ s, xNw s → va_AO C s) (hd : decode M.2.1 pc = .ok (.anewarray ix, 3)) (hk : Snd M d (pc + 3) Q k) : Snd M d pc Q (x_newa (.object C) k) := fun b ls st μ h => by
  match st, h with
  | .inl n :: st, h =>
    obtain ⟨⟨n0, n1⟩, hb, h⟩ := h
    obtain ⟨c1, c2⟩ := newa_c n0 n1
    refine xR_grow (kd := .inr (.object C, n.toNat)) (dc := 1) (ds := n.toNat) hb (fun v hv => List.mem_cons_of_mem _ hv) (hk _ ls _ _ h) (fun p l e s m args below meth c Rm w g H locs cells slots lsM Qw hC hS hV hbs hst h1 h2 kk => ?_)
    refine va_newq (C := C) hC.1 hC.2.1 hC.2.2.2.1 (hC.2.2.2.2.1 _ hl) (hao s hS.2.2.2.2.2.2.2.2.2.2.2.2) hS.2.2.2.1.1 hS.1 hS.2.1 hV (fun q hq => Nat.le_trans hbs hq) c1 c2 (by omega) h1 h2 hd (fun q cA H1 g0 g1 g2 g3 => ?_)
    exact kk q cA H1 (fun ty n hz => by cases hz; exact g0.2 0 _ rfl) g1 g2 g3
end New
