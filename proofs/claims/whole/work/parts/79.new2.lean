/-! ===== references are laid; Object.<init>; constructors of nest mates ===== -/
theorem setF_wf {μ : xMem} (h : xWf μ) (q j : Nat) {r : Option Nat} (hr : ∀ z, r = some z → z < gN μ.1) : xWf (gSetF μ.1 q j r, μ.2) := by
  obtain ⟨h1, h2, h3⟩ := h
  refine ⟨h1, fun k i z hz => ?_, h3⟩
  have hz : (if k = q ∧ i = j then r else gF μ.1 k i) = some z := hz
  show z < gN μ.1
  split at hz
  · exact hr z hz
  · exact h2 k i z hz
theorem gSetF_row {Γ : xSh} {q j k : Nat} {r : Option Nat} (h : k ≠ q) : gF (gSetF Γ q j r) k = gF Γ k := by
  funext i
  show (if k = q ∧ i = j then r else gF Γ k i) = _
  rw [if_neg (fun z => h z.1)]
section New
variable {M M' : xMt} {d pc pc' ix : Nat} {Q Q' : xV → xMem → Prop} {k : xP}
/-- references change, kinds do not -/
theorem xR_memF {b : Nat × Nat} {ls st st' : List xV} {μ : xMem} {q j : Nat} {r : Option Nat} {pc' : Nat} (hk : xR M d b pc' ls st' (gSetF μ.1 q j r, μ.2) Q) (hv : (∀ v ∈ st, xVok (gN μ.1) v) → (∀ v ∈ st', xVok (gN μ.1) v) ∧ ∀ z, r = some z → z < gN μ.1)
    (hs : ∀ (p : Program) (l : Launch) (e : Env) (s : State) (m : MethodId) (args : Array Value) (below : List Frame) (meth : Method) (c : Code) (Rm : Room) (w : xWd) (g : xGh) (H : Heap) (locs : List Loc) (cells slots : Nat) (lsM : Array Slot) (Qw : State → Prop), xCx M p s m args meth c → xSim w g μ s H → va_S (fun q => w.1 ≤ q) s.heap H locs → w.1 ≤ s.heap.size → xLoc w g (gN μ.1) M.2.2.1 ls lsM → (∀ v ∈ st, xVok (gN μ.1) v) →
      (∀ (H1 : Heap) (locs1 : List Loc), va_P w.2.1 vwCl (xW g (gSetF μ.1 q j r, μ.2)) H1 → va_D (fun q => w.1 ≤ q) (xW g (gSetF μ.1 q j r, μ.2)) → va_S (fun q => w.1 ≤ q) s.heap H1 locs1 → W p l e Rm s m args below meth c H1 locs1 cells slots Qw (F0 m pc' lsM (st'.map (cV w g)))) → W p l e Rm s m args below meth c H locs cells slots Qw (F0 m pc lsM (st.map (cV w g)))) : xR M d b pc ls st μ Q := by
  intro p l e s m args below meth c Rm w g0 n0 g H locs cells slots lsM hC a1 a2 a3 a4 a5 a6 hS hV hb hL hst
  obtain ⟨hv1, hv2⟩ := hv hst
  exact hs p l e s m args below meth c Rm w g H locs cells slots lsM _ hC hS hV hb hL hst (fun H1 locs1 hP1 hD1 hV1 => hk p l e s m args below meth c Rm w g0 n0 g H1 locs1 cells slots lsM hC a1 a2 a3 a4 a5 a6 ⟨hP1, hD1, Nat.le_trans hb hV1.1, hS.2.2.2.1, hS.2.2.2.2.1, setF_wf hS.2.2.2.2.2.1 q j hv2, hS.2.2.2.2.2.2.next hV hV1 hb⟩ hV1 hb hL hv1)
theorem xW_putR {g : xGh} {μ : xMem} {q ci j : Nat} {r : Option Nat} {v : Value} (hw : xWf μ) (hq : gK μ.1 q = some (.inl ci)) (hj : j < xNf ci) (hv : ∀ x, xFld g (xTy ci j) x r = v) :
    (xW g μ).set q ((g q).1, .inr (ci, (xFs g μ q ci).set j v)) = xW g (gSetF μ.1 q j r, μ.2) := by
  refine xW_set rfl (hw.lt hq) ?_ (fun k hk => xCell_congr rfl (gSetF_row hk) rfl)
  have e : xCell g (gSetF μ.1 q j r, μ.2) q = .inr (ci, xFs g (gSetF μ.1 q j r, μ.2) q ci) := by
    unfold xCell
    rw [show gK (gSetF μ.1 q j r, μ.2).1 q = some (.inl ci) from hq]
    rfl
  rw [e]
  congr 2
  apply List.ext_getElem?
  intro i
  by_cases hi : i < xNf ci
  · rw [xFs_get hi]
    by_cases hij : i = j
    · subst hij
      rw [List.getElem?_set_self (by simp [xFs, hi])]
      show some (xFld g (xTy ci i) (μ.2 q i) (if q = q ∧ i = i then r else gF μ.1 q i)) = _
      rw [if_pos ⟨rfl, rfl⟩, hv]
    · rw [List.getElem?_set_ne (fun e => hij e.symm), xFs_get hi]
      show some (xFld g (xTy ci i) (μ.2 q i) (if q = q ∧ i = j then r else gF μ.1 q i)) = _
      rw [if_neg (fun z => hij z.2)]
  · rw [List.getElem?_eq_none (by simp [xFs]; omega), List.getElem?_eq_none (by simp [xFs]; omega)]
def x_putR (ci j : Nat) (k : xP) (b : Nat × Nat) (ls st : List xV) (μ : xMem) : Prop := match st with
  | .inr (.inr (.inl (some r))) :: .inr (.inr (.inl (some q))) :: st => gK μ.1 q = some (.inl ci) ∧ k b ls st (gSetF μ.1 q j (some r), μ.2)
  | _ => False
theorem fits_ref {ty : FieldType} (h : ty.isReference = true) (a : Nat) : narrow ty (.ref a) = .ref a ∧ fits ty (.ref a) = true := by
  cases ty <;> first | exact ⟨rfl, rfl⟩ | (simp [FieldType.isReference] at h)
theorem s_putR {ci j N : Nat} {C : String} {T : u_T} (hc : xCl ci C T N) (hj : j < N) (hty : ∀ g x q, xFld g (xTy ci j) x q = va_rf (q.map fun k => (g k).1)) (hrf : (xTy ci j).isReference = true) (hfin : (T j).2.2.2 = true) (hnm : M.1.name = "<init>") (hdl : (T j).1 = M.1.cls) (hw : Cond.fieldLink M.1.cls ix (T j).1 (T j).2.1 (T j).2.2.1 ∈ xG) (hd : decode M.2.1 pc = .ok (.putfield ix, 3)) (hk : Snd M d (pc + 3) Q k) : Snd M d pc Q (x_putR ci j k) := fun b ls st μ h => by
  match st, h with
  | .inr (.inr (.inl (some r))) :: .inr (.inr (.inl (some q))) :: st, h =>
    exact xR_memF (hk b ls _ _ h.2) (fun hst => ⟨xok_tail (xok_tail hst), fun z hz => by cases hz; exact xok_head hst⟩) (fun _ _ _ _ _ _ _ _ _ _ _ g _ _ _ _ _ _ hC hS hV _ _ _ kk =>
      va_putF (ty := xTy ci j) (v := .ref (g r).1) hC.1 hC.2.1 hC.2.2.2.2.1 hc.2.2.1 (xTy ci) hc.2.2.2.1 hc.2.2.2.2 hC.2.2.2.1 hS.2.2.2.1.1 hS.1 hS.2.1 hV q (xW_obj hS.2.2.2.2.2.1 h.1) hc.1 j hj (hC.2.2.2.2.1 _ hw) (fun _ z => z) hfin (hC.2.2.2.2.2.2.2.trans hnm) hdl (hc.2.2.2.1 j hj) (fits_ref hrf _).1 (fits_ref hrf _).2 (by simp [xFs, hc.2.1]; exact hj) hd (fun H1 locs1 h1 h2 h3 => by
        have hj' : j < xNf ci := by rw [hc.2.1]; exact hj
        rw [xW_putR (r := some r) hS.2.2.2.2.2.1 h.1 hj' (fun x => by rw [hty]; rfl)] at h1 h2
        exact kk H1 locs1 h1 h2 h3))
def x_aastore (ci : Nat) (C : String) (k : xP) (b : Nat × Nat) (ls st : List xV) (μ : xMem) : Prop := match st with
  | .inr (.inr (.inl (some v))) :: .inl j :: .inr (.inr (.inl (some a))) :: st => gArr μ.1 a (.object C) ∧ gK μ.1 v = some (.inl ci) ∧ 0 ≤ j ∧ j < gLen μ.1 a ∧ k b ls st (gSetF μ.1 a j.toNat (some v), μ.2)
  | _ => False
theorem s_aastore {ci N : Nat} {C : String} {T : u_T} (hc : xCl ci C T N) (hd : decode M.2.1 pc = .ok (.aastore, 1)) (hk : Snd M d (pc + 1) Q k) : Snd M d pc Q (x_aastore ci C k) := fun b ls st μ h => by
  match st, h with
  | .inr (.inr (.inl (some v))) :: .inl j :: .inr (.inr (.inl (some a))) :: st, h =>
    obtain ⟨⟨n, hn⟩, hv, h0, h1, h⟩ := h
    rw [gLen_of hn] at h1
    refine xR_memF (hk b ls _ _ h) (fun hst => ⟨xok_tail (xok_tail (xok_tail hst)), fun z hz => by cases hz; exact xok_head hst⟩) (fun p l e s m args below meth c Rm w g H locs cells slots lsM Qw hC hS hV hbs hL hst kk => ?_)
    have hwf := hS.2.2.2.2.2.1
    have hi : i32 j := xok_head (xok_tail hst)
    have eA : (xW g μ)[a]? = some ((g a).1, .inl ((g a).2, n, .inr (.inr (.inr (.inr (fun i => (gF μ.1 a i).map fun k => (g k).1)))))) := xW_arr hwf hn
    refine va_astq (r := (C, T, N)) (tys := [((g a).2, .object C)]) hC.1 hC.2.1 (hS.K hn) hS.1 hS.2.1 hV a 0 v ci eA rfl (xW_obj hwf hv) hc.1 (x_in_of hi h0 h1) hd (fun H1 locs1 h1' h2 h3 => ?_)
    have eq : (xW g μ).set a ((g a).1, .inl ((g a).2, n, .inr (.inr (.inr (.inr (va_up (fun i => (gF μ.1 a i).map fun k => (g k).1) (Int32.ofInt j).toNatClampNeg (some (g v).1))))))) = xW g (gSetF μ.1 a j.toNat (some v), μ.2) := by
      refine xW_set rfl (hwf.lt hn) ?_ (fun k hk => xCell_congr rfl (gSetF_row hk) rfl)
      have e : xCell g (gSetF μ.1 a j.toNat (some v), μ.2) a = .inl ((g a).2, n, xArr g (.object C) (μ.2 a) (gF (gSetF μ.1 a j.toNat (some v)) a)) := by
        unfold xCell
        rw [show gK (gSetF μ.1 a j.toNat (some v), μ.2).1 a = some (.inr (.object C, n)) from hn]
      rw [e, x_clamp hi]
      unfold xArr
      dsimp only
      congr 7
      funext i
      show ((if a = a ∧ i = j.toNat then some v else gF μ.1 a i).map fun k => (g k).1) = if i = j.toNat then some (g v).1 else (gF μ.1 a i).map fun k => (g k).1
      by_cases z : i = j.toNat
      · rw [if_pos ⟨rfl, z⟩, if_pos z]; rfl
      · rw [if_neg (fun y => z y.2), if_neg z]
    rw [eq] at h1' h2
    exact kk H1 locs1 h1' h2 h3
theorem oi_im : Cond.instanceMethod Lib.objectInit ∈ xG := xT_in 21 (by decide +kernel) (by decide +kernel)
theorem oi_cd : Cond.code Lib.objectInit ⟨#[0xb1]⟩ 1 none ∈ xG := xT_in 22 (by decide +kernel) (by decide +kernel)
theorem ml_X5_1 : Cond.methodLink RX5 1 Lib.objectInit ∈ xG := xT_in 20 (by decide +kernel) (by decide +kernel)
theorem ml_X2_3 : Cond.methodLink RX2 3 Lib.objectInit ∈ xG := xT_in 30 (by decide +kernel) (by decide +kernel)
theorem ml_X0_3 : Cond.methodLink RX0 3 Lib.objectInit ∈ xG := xT_in 57 (by decide +kernel) (by decide +kernel)
theorem ml_X3_3 : Cond.methodLink RX3 3 Lib.objectInit ∈ xG := xT_in 122 (by decide +kernel) (by decide +kernel)
theorem ml_X1_3 : Cond.methodLink RX1 3 Lib.objectInit ∈ xG := xT_in 140 (by decide +kernel) (by decide +kernel)
theorem ml_X4_3 : Cond.methodLink RX4 3 Lib.objectInit ∈ xG := xT_in 161 (by decide +kernel) (by decide +kernel)
theorem ml_X6_7 : Cond.methodLink RX6 7 Lib.objectInit ∈ xG := xT_in 734 (by decide +kernel) (by decide +kernel)
theorem ac_int : Cond.arrayClass .int ∈ xG := xT_in 51 (by decide +kernel) (by decide +kernel)
theorem ac_bool : Cond.arrayClass .boolean ∈ xG := xT_in 895 (by decide +kernel) (by decide +kernel)
theorem cl_L_7 : Cond.classLink "CrystalByTheMinuteLaw" 7 RX5 ∈ xG := xT_in 15 (by decide +kernel) (by decide +kernel)
theorem cl_L_10 : Cond.classLink "CrystalByTheMinuteLaw" 10 RX6 ∈ xG := xT_in 729 (by decide +kernel) (by decide +kernel)
theorem cl_X5_9 : Cond.classLink RX5 9 RX3 ∈ xG := xT_in 23 (by decide +kernel) (by decide +kernel)
theorem cl_X5_15 : Cond.classLink RX5 15 RX2 ∈ xG := xT_in 25 (by decide +kernel) (by decide +kernel)
theorem cl_X5_22 : Cond.classLink RX5 22 RX0 ∈ xG := xT_in 52 (by decide +kernel) (by decide +kernel)
theorem cl_X5_29 : Cond.classLink RX5 29 RX1 ∈ xG := xT_in 116 (by decide +kernel) (by decide +kernel)
theorem cl_X5_37 : Cond.classLink RX5 37 RX4 ∈ xG := xT_in 156 (by decide +kernel) (by decide +kernel)
theorem cl_X0_9 : Cond.classLink RX0 9 ("[" ++ (FieldType.array .int).toString) ∈ xG := xT_in 58 (by decide +kernel) (by decide +kernel)
theorem it_X5 : Cond.instantiable RX5 9 ∈ xG := xT_in 16 (by decide +kernel) (by decide +kernel)
theorem it_X2 : Cond.instantiable RX2 6 ∈ xG := xT_in 26 (by decide +kernel) (by decide +kernel)
theorem it_X0 : Cond.instantiable RX0 16 ∈ xG := xT_in 53 (by decide +kernel) (by decide +kernel)
theorem it_X3 : Cond.instantiable RX3 4 ∈ xG := xT_in 118 (by decide +kernel) (by decide +kernel)
theorem it_X1 : Cond.instantiable RX1 3 ∈ xG := xT_in 136 (by decide +kernel) (by decide +kernel)
theorem it_X4 : Cond.instantiable RX4 12 ∈ xG := xT_in 157 (by decide +kernel) (by decide +kernel)
theorem it_X6 : Cond.instantiable RX6 52 ∈ xG := xT_in 730 (by decide +kernel) (by decide +kernel)
def x_objinit (k : xP) (b : Nat × Nat) (ls st : List xV) (μ : xMem) : Prop := match st with
  | .inr (.inr (.inl (some _))) :: st => st.length ≤ 4 ∧ k b ls st μ
  | _ => False
theorem s_objinit (hl : Cond.methodLink M.1.cls ix Lib.objectInit ∈ xG) (h2 : Cond.instanceMethod Lib.objectInit ∈ xG) (h3 : Cond.code Lib.objectInit ⟨#[0xb1]⟩ 1 none ∈ xG) (hd : decode M.2.1 pc = .ok (.invokespecial ix, 3)) (hk : Snd M (d + 1) (pc + 3) Q k) : Snd M (d + 1) pc Q (x_objinit k) := fun b ls st μ h => by
  match st, h with
  | .inr (.inr (.inl (some q))) :: st, h =>
    intro p l e s m args below meth c Rm w g0 n0 g H locs cells slots lsM hC a1 a2 a3 a4 a5 a6 hS hV hbs hL hst
    have key := hk b ls st μ h.2 p l e s m args below meth c Rm w g0 n0 g H locs cells slots lsM hC a1 a2 a3 a4 a5 a6 hS hV hbs hL (xok_tail hst)
    refine W.objInit (a := (g q).1) hC.1 hC.2.1 hC.2.2.2.1 (hC.2.2.2.2.1 _ hl) (hC.2.2.2.2.1 _ h2) (hC.2.2.2.2.1 _ h3) rfl (hL.1.1.trans hC.2.2.1.symm) rfl hd (by omega) ?_ key
    have hx := xsum (w := w) (g := g) st
    have hl4 := h.1
    have hm : 2 * (F0 m pc lsM (((.inr (.inr (.inl (some q)))) :: st).map (cV w g))).monitorRoom ≤ 0 := by simp [F0, JFrame.monitorRoom]
    omega
theorem xR_callN {n q : Nat} {b bc : Nat × Nat} {ls as rest : List xV} {μ : xMem} (hE : xCee M' n) (hr : M'.2.2.2 = none) (hnm : M'.1.name = "<init>") (hl : ∀ s, xNw s → va_Nw (.methodLinkNest M.1.cls ix M'.1 "CrystalByTheMinute") s) (hi : Cond.instanceMethod M'.1 ∈ xG)
    (hd : decode M.2.1 pc = .ok (.invokespecial ix, 3)) (hn : as.length = n) (hre : rest.length ≤ 4) (hb : bc.1 ≤ b.1 ∧ bc.2 ≤ b.2) (hM : xRM M' d bc (vr q :: as) μ Q')
    (hk : ∀ (r : xV) (μ' : xMem), Q' r μ' → xR M (d + 1) (b.1 - bc.1, b.2 - bc.2) (pc + 3) ls (xpush r rest) μ' Q) : xR M (d + 1) b pc ls (as.reverse ++ vr q :: rest) μ Q := by
  refine xR_back (st := as.reverse ++ vr q :: rest) (rest := rest) (Q' := Q') hb (fun v hv => List.mem_append_right _ (List.mem_cons_of_mem _ hv)) hk ?_
  intro p l e s m args below meth c Rm w g H locs cells slots lsM hC a1 a2 a3 a4 hS hbs hL hst
  have hE1 := hE.1
  have hM1 := hM l w g
  rw [hr] at hE1 hM1
  refine ⟨_, va_runIN (As := as.map (cV w g)) (b := (g q).1) (n := n) ⟨hC.1, hC.2.1, hC.2.2.1, hC.2.2.2.1, hC.2.2.2.2.1⟩ hM1 ⟨va_cnB n hC.2.2.2.2.1 (fun w hw => (List.mem_cons.mp hw).elim (fun e => e ▸ xG_good _ hE1) (fun h => xG_good w h)) rfl rfl rfl (hl s hS.2.2.2.2.2.2.2.2.2.2.2.2) (hC.2.2.2.2.1 _ hE.2.1) hE.2.2.1 ⟨a1, by have := hE.2.2.2; show 8 + (M'.2.2.1 + 11) + 40 * d ≤ _; omega⟩, hnm, hC.2.2.2.2.1 _ hi⟩ ⟨xblind, fun U hU hW => ⟨rfl, by rw [hU]; exact hS.warm hW, by rw [hU]; exact hbs, fun v hv => ?_⟩⟩ rfl (by rw [List.length_map]; exact hn) hL.1.1 (by simp [cV]) (lv_room (by have := xsum (w := w) (g := g) rest; omega)) hd ⟨a3, a4⟩⟩
  rcases List.mem_cons.mp hv with rfl | hv
  · exact hst _ (List.mem_append_right _ List.mem_cons_self)
  · exact hst _ (List.mem_append_left _ (List.mem_reverse.mpr hv))
theorem s_cN0 {bc : Nat × Nat} (hE : xCee M' 0) (hr : M'.2.2.2 = none) (hnm : M'.1.name = "<init>") (hl : ∀ s, xNw s → va_Nw (.methodLinkNest M.1.cls ix M'.1 "CrystalByTheMinute") s) (hi : Cond.instanceMethod M'.1 ∈ xG) (hd : decode M.2.1 pc = .ok (.invokespecial ix, 3)) (hk : Snd M (d + 1) (pc + 3) Q k) : Snd M (d + 1) pc Q (x_cI0 M' d bc k) := fun b ls st μ h => by
  match st, h with
  | .inr (.inr (.inl (some q))) :: st, h => exact xR_callN (as := []) hE hr hnm hl hi hd rfl h.1 h.2.1 h.2.2 (fun r μ' hr => hk _ ls _ μ' hr)
theorem nl_X5_17 : ∀ s, xNw s → va_Nw (.methodLinkNest RX5 17 yX2_init "CrystalByTheMinute") s := fun _ h => h.2.2.2.1
theorem nl_X5_24 : ∀ s, xNw s → va_Nw (.methodLinkNest RX5 24 yX0_init "CrystalByTheMinute") s := fun _ h => h.2.2.2.2.1
theorem nl_X5_35 : ∀ s, xNw s → va_Nw (.methodLinkNest RX5 35 yX3_init "CrystalByTheMinute") s := fun _ h => h.2.2.2.2.2.1
theorem nl_X5_36 : ∀ s, xNw s → va_Nw (.methodLinkNest RX5 36 yX1_init "CrystalByTheMinute") s := fun _ h => h.2.2.2.2.2.2
theorem ao_X5_9 : ∀ s, xNw s → va_AO RX3 s := fun _ h => h.1
theorem ao_X5_29 : ∀ s, xNw s → va_AO RX1 s := fun _ h => h.2.1
end New
