/-! ===== calls ===== -/
def xArgs : List xV → List xV
  | [] => []
  | .inr (.inl x) :: vs => vl x :: vu :: xArgs vs
  | v :: vs => v :: xArgs vs
def xEntry (n : Nat) (as : List xV) : List xV := xArgs as ++ List.replicate (n - (xArgs as).length) vu
def xpush (r : xV) (st : List xV) : List xV := match r with
  | .inr (.inr (.inr (.inr _))) => st
  | v => v :: st
theorem xLv_rep (w : xWd) (g : xGh) : ∀ (n i : Nat), xLv w g i (List.replicate n vu) = []
  | 0, i => rfl
  | n + 1, i => by
    show xLv w g i (vu :: List.replicate n vu) = []
    exact xLv_rep w g n (i + 1)
theorem xLv_args {w : xWd} {g : xGh} (n : Nat) : ∀ (as : List xV) (i : Nat), ∀ q ∈ xLv w g i (xArgs as ++ List.replicate n vu), q ∈ lv_args i (as.map (cV w g))
  | [], i, q, h => by
    have h : q ∈ xLv w g i (List.replicate n vu) := h
    rw [xLv_rep] at h
    cases h
  | v :: vs, i, q, h => by
    rcases v with x | x | (_ | x) | x | x
    · rcases List.mem_cons.mp (show q ∈ (i, cV w g (vi x)) :: xLv w g (i + 1) (xArgs vs ++ List.replicate n vu) from h) with rfl | h
      · exact List.mem_cons_self
      · exact List.mem_cons_of_mem _ (xLv_args n vs (i + 1) q h)
    · rcases List.mem_cons.mp (show q ∈ (i, cV w g (vl x)) :: xLv w g (i + 1 + 1) (xArgs vs ++ List.replicate n vu) from h) with rfl | h
      · exact List.mem_cons_self
      · exact List.mem_cons_of_mem _ (xLv_args n vs (i + 2) q h)
    · rcases List.mem_cons.mp (show q ∈ (i, cV w g vn) :: xLv w g (i + 1) (xArgs vs ++ List.replicate n vu) from h) with rfl | h
      · exact List.mem_cons_self
      · exact List.mem_cons_of_mem _ (xLv_args n vs (i + 1) q h)
    · rcases List.mem_cons.mp (show q ∈ (i, cV w g (vr x)) :: xLv w g (i + 1) (xArgs vs ++ List.replicate n vu) from h) with rfl | h
      · exact List.mem_cons_self
      · exact List.mem_cons_of_mem _ (xLv_args n vs (i + 1) q h)
    · rcases List.mem_cons.mp (show q ∈ (i, cV w g (vo x)) :: xLv w g (i + 1) (xArgs vs ++ List.replicate n vu) from h) with rfl | h
      · exact List.mem_cons_self
      · exact List.mem_cons_of_mem _ (xLv_args n vs (i + 1) q h)
    · exact List.mem_cons_of_mem _ (xLv_args n vs (i + 1) q h)
theorem xArgs_len {w : xWd} {g : xGh} : ∀ (as : List xV), (lg_sl (as.map (cV w g))).length = (xArgs as).length
  | [] => rfl
  | v :: vs => by
    have ih := xArgs_len (w := w) (g := g) vs
    have e : lg_sl ((v :: vs).map (cV w g)) = (if (cV w g v).category = 2 then [Slot.val (cV w g v), .second] else [.val (cV w g v)]) ++ lg_sl (vs.map (cV w g)) := rfl
    rw [e, List.length_append, ih]
    rcases v with x | x | (_ | x) | x | x <;> simp [cV, Value.category, xArgs] <;> omega
theorem xArgs_ok {n : Nat} : ∀ (as : List xV), (∀ v ∈ as, xVok n v) → ∀ v ∈ xArgs as, xVok n v
  | [], _, v, h => by cases h
  | u :: us, hu, v, h => by
    have ih := xArgs_ok us (fun z hz => hu z (List.mem_cons_of_mem _ hz))
    have h0 := hu u List.mem_cons_self
    rcases u with x | x | (_ | x) | x | x
    · rcases List.mem_cons.mp h with rfl | h
      · exact h0
      · exact ih v h
    · rcases List.mem_cons.mp h with rfl | h
      · exact h0
      · rcases List.mem_cons.mp h with rfl | h
        · trivial
        · exact ih v h
    all_goals
      rcases List.mem_cons.mp h with rfl | h
      · exact h0
      · exact ih v h
theorem xRM_of {M : xMt} {d : Nat} {b : Nat × Nat} {as : List xV} {μ : xMem} {Q : xV → xMem → Prop} (hy : plainName M.1.cls = true) (hl : (xArgs as).length ≤ M.2.2.1) (h : xR M d b 0 (xEntry M.2.2.1 as) [] μ Q) : xRM M d b as μ Q := by
  intro l w g0
  refine Met.ofW (cc := M.2.1) (maxL := M.2.2.1) (ret := M.2.2.2) hy rfl ?_
  intro p e s m args below meth c s₁ B hml hv
  obtain ⟨rfl, hS, hb, hok⟩ := hv
  have hts := atoms_spec (ws := Cond.code M.1 M.2.1 M.2.2.1 M.2.2.2 :: xG) B.pre
  have hl0 := lv_entry (as.map (cV w g0)) (n := M.2.2.1) (by rw [xArgs_len]; exact hl)
  rw [lg_entry_eq]
  generalize (lg_sl (as.map (cV w g0)) ++ List.replicate (M.2.2.1 - (lg_sl (as.map (cV w g0))).length) Slot.unset).toArray = ls at hl0 ⊢
  refine h p l e s m _ below meth c _ w g0 (gN μ.1) g0 s.heap [] 0 0 ls ⟨B.exec, B.bytes, hml, findClass_of_methodNamed B.named, fun w hw => hts w (List.mem_cons_of_mem _ hw), B.returns, B.notSynchronized, (name_of_methodNamed B.named B.method).1⟩ (Nat.le_refl _) (Nat.le_refl _) (by rw [Nat.zero_add]; exact Nat.le_refl _) (by rw [Nat.zero_add]; exact Nat.le_refl _) (fun _ _ => rfl) (Nat.le_refl _) hS va_S.rf hb ?_ (fun v hv => by cases hv)
  refine ⟨⟨hl0.1, hl0.2.1, fun q hq => hl0.2.2 q (xLv_args _ as 0 q hq)⟩, ?_, fun v hv => ?_⟩
  · unfold xEntry
    rw [List.length_append, List.length_replicate]
    omega
  · rcases List.mem_append.mp hv with hv | hv
    · exact xArgs_ok as hok v hv
    · rw [(List.mem_replicate.mp hv).2]
      trivial
theorem xVok_mono {n n' : Nat} (h : n ≤ n') {v : xV} (hv : xVok n v) : xVok n' v := by
  rcases v with x | x | (_ | x) | x | x
  · exact hv
  · exact hv
  · trivial
  · exact Nat.lt_of_lt_of_le hv h
  · trivial
  · trivial
theorem cV_eq {w : xWd} {g g' : xGh} {n : Nat} (hg : ∀ k, k < n → g' k = g k) {v : xV} (hv : xVok n v) : cV w g' v = cV w g v := by
  rcases v with x | x | (_ | x) | x | x
  · rfl
  · rfl
  · rfl
  · show Value.ref (g' x).1 = Value.ref (g x).1
    rw [hg x hv]
  · rfl
  · rfl
theorem xLv_eq {w : xWd} {g g' : xGh} {n : Nat} (hg : ∀ k, k < n → g' k = g k) : ∀ (ls : List xV) (i : Nat), (∀ v ∈ ls, xVok n v) → xLv w g' i ls = xLv w g i ls
  | [], i, _ => rfl
  | v :: ls, i, h => by
    have ih := xLv_eq (w := w) hg ls (i + 1) (fun u hu => h u (List.mem_cons_of_mem _ hu))
    have hv := cV_eq (w := w) hg (h v List.mem_cons_self)
    rcases v with x | x | (_ | x) | x | x
    · show (i, cV w g' _) :: xLv w g' (i + 1) ls = (i, cV w g _) :: xLv w g (i + 1) ls
      rw [hv, ih]
    · show (i, cV w g' _) :: xLv w g' (i + 1) ls = (i, cV w g _) :: xLv w g (i + 1) ls
      rw [hv, ih]
    · show (i, cV w g' _) :: xLv w g' (i + 1) ls = (i, cV w g _) :: xLv w g (i + 1) ls
      rw [hv, ih]
    · show (i, cV w g' _) :: xLv w g' (i + 1) ls = (i, cV w g _) :: xLv w g (i + 1) ls
      rw [hv, ih]
    · show (i, cV w g' _) :: xLv w g' (i + 1) ls = (i, cV w g _) :: xLv w g (i + 1) ls
      rw [hv, ih]
    · exact ih
theorem xpush_map {w : xWd} {g : xGh} (r : xV) (st : List xV) : (cR w g r).toList ++ st.map (cV w g) = (xpush r st).map (cV w g) := by
  rcases r with x | x | (_ | x) | x | x <;> rfl
theorem xpush_ok {n : Nat} {r : xV} {st : List xV} (hr : xVok n r) (h : ∀ v ∈ st, xVok n v) : ∀ v ∈ xpush r st, xVok n v := by
  rcases r with x | x | (_ | x) | x | x
  · exact xok_cons hr h
  · exact xok_cons hr h
  · exact xok_cons hr h
  · exact xok_cons hr h
  · exact xok_cons hr h
  · exact h
section Call
variable {M M' : xMt} {d pc : Nat} {Q Q' : xV → xMem → Prop}
/-- behind a call -/
theorem xR_back {b bc : Nat × Nat} {ls st rest : List xV} {μ : xMem} (hb : bc.1 ≤ b.1 ∧ bc.2 ≤ b.2) (hsub : ∀ v ∈ rest, v ∈ st)
    (hk : ∀ (r : xV) (μ' : xMem), Q' r μ' → xR M (d + 1) (b.1 - bc.1, b.2 - bc.2) (pc + 3) ls (xpush r rest) μ' Q)
    (hrun : ∀ (p : Program) (l : Launch) (e : Env) (s : State) (m : MethodId) (args : Array Value) (below : List Frame) (meth : Method) (c : Code) (Rm : Room) (w : xWd) (g : xGh) (H : Heap) (locs : List Loc) (cells slots : Nat) (lsM : Array Slot), xCx M p s m args meth c → d + 1 ≤ Rm.frames → 40 * (d + 1) ≤ Rm.locals → cells + bc.1 ≤ Rm.cells → slots + bc.2 ≤ Rm.slots → xSim w g μ s H → w.1 ≤ H.size → xLoc w g (gN μ.1) M.2.2.1 ls lsM → (∀ v ∈ st, xVok (gN μ.1) v) →
      ∃ a, va_Run p l e Rm s m args below meth c H locs cells slots bc.1 bc.2 (F0 m pc lsM (st.map (cV w g))) (rest.map (cV w g)) (xQc w g (gN μ.1) Q' a) (fun q => w.1 ≤ q)) : xR M (d + 1) b pc ls st μ Q := by
  intro p l e s m args below meth c Rm w g0 n0 g H locs cells slots lsM hC a1 a2 a3 a4 a5 a6 hS hV hbs hL hst
  obtain ⟨a, hr⟩ := hrun p l e s m args below meth c Rm w g H locs cells slots lsM hC a1 a2 (by omega) (by omega) hS (Nat.le_trans hbs hV.1) hL hst
  intro T hT X
  obtain ⟨v, st₀, t, T', L, h0, X', hL', e1, e2, ⟨⟨r, μ', g', hv, hQ, hg, hn, hS', hr'⟩, hz, hkp⟩, stp⟩ := hr T hT X
  have hv : v = cR w g' r := by cases hv; rfl
  subst hv
  rw [h0] at hz hkp
  have hV' : va_S (fun q => w.1 ≤ q) s.heap T'.heap (locs ++ L) := ⟨Nat.le_trans hV.1 (by rw [e1]; exact hz), fun q h1 h2 => by rw [e1, hkp q (Nat.lt_of_lt_of_le h1 hV.1) h2]; exact hV.2.1 q h1 h2, fun q hq => by
      rcases List.mem_append.mp hq with h | h
      · exact hV.2.2 q h
      · exact hL' q h⟩
  have hal : s.vm.Alike t.vm := by rw [← e2]; exact X'.warmed.alike
  have hSs : xSim w g' μ' s T'.heap := by
    rw [e1]
    exact hS'.back hal.symm (by rw [← e1]; exact hS.2.2.2.2.2.2.next hV hV' hbs)
  have hLs : xLoc w g' (gN μ'.1) M.2.2.1 ls lsM := ⟨by rw [xLv_eq hg ls 0 hL.2.2]; exact hL.1, hL.2.1, fun u hu => xVok_mono hn (hL.2.2 u hu)⟩
  have hrest : ∀ u ∈ rest, xVok (gN μ.1) u := fun u hu => hst u (hsub u hu)
  obtain ⟨t2, b1, b2⟩ := hk r μ' hQ p l e s m args below meth c Rm w g0 n0 g' T'.heap (locs ++ L) (cells + bc.1) (slots + bc.2) lsM hC a1 a2 (by show cells + bc.1 + (b.1 - bc.1) ≤ _; omega) (by show slots + bc.2 + (b.2 - bc.2) ≤ _; omega) (fun k hk0 => (hg k (Nat.lt_of_lt_of_le hk0 a6)).trans (a5 k hk0)) (Nat.le_trans a6 hn) hSs hV' hbs hLs (xpush_ok hr' (fun u hu => xVok_mono hn (hrest u hu))) T' rfl X'
  refine ⟨t2, stp t2 ?_, b2⟩
  have e3 : rest.map (cV w g) = rest.map (cV w g') := List.map_congr_left (fun u hu => (cV_eq hg (hrest u hu)).symm)
  rw [e3, xpush_map]
  exact b1
theorem xGood (hcode : Cond.code M'.1 M'.2.1 M'.2.2.1 M'.2.2.2 ∈ xG) : GoodIn xG (Cond.code M'.1 M'.2.1 M'.2.2.1 M'.2.2.2 :: xG) := fun w hw => by
  rcases List.mem_cons.mp hw with rfl | hw
  · exact xG_good _ hcode
  · exact xG_good w hw
theorem xblind {w : xWd} {g : xGh} {μ : xMem} {as : List xV} : FrameBlind (va_Pc (as.map (cV w g)) (fun U => xSim w g μ U U.heap ∧ w.1 ≤ U.heap.size ∧ ∀ v ∈ as, xVok (gN μ.1) v)) := fun a U gf mk q => by
  obtain ⟨h1, h2, h3, h4⟩ := q
  exact ⟨h1, h2.same (U := U.calling gf mk a) rfl, h3, h4⟩
theorem xsum {w : xWd} {g : xGh} : ∀ (rest : List xV), ((rest.map (cV w g)).map fun v => v.category).sum ≤ 2 * rest.length
  | [] => Nat.le_refl _
  | v :: rest => by
    have ih := xsum (w := w) (g := g) rest
    have hc : (cV w g v).category ≤ 2 := by rcases lv_cat (cV w g v) with h | h <;> omega
    simp only [List.map_cons, List.sum_cons, List.length_cons] at ih ⊢
    omega
theorem xR_callV {ix n ci q N : Nat} {T : u_T} {b bc : Nat × Nat} {ls as rest : List xV} {μ : xMem} (hE : xCee M' n) (hl : Cond.methodLink M.1.cls ix M'.1 ∈ xG) (hi : Cond.instanceMethod M'.1 ∈ xG) (hse : Cond.selects M'.1.cls M'.1 M'.1 ∈ xG) (hcl : xCl ci M'.1.cls T N)
    (hd : decode M.2.1 pc = .ok (.invokevirtual ix, 3)) (hn : as.length = n) (hre : rest.length ≤ 4) (hq : gK μ.1 q = some (.inl ci)) (hb : bc.1 ≤ b.1 ∧ bc.2 ≤ b.2) (hM : xRM M' d bc (vr q :: as) μ Q')
    (hk : ∀ (r : xV) (μ' : xMem), Q' r μ' → xR M (d + 1) (b.1 - bc.1, b.2 - bc.2) (pc + 3) ls (xpush r rest) μ' Q) : xR M (d + 1) b pc ls (as.reverse ++ vr q :: rest) μ Q := by
  refine xR_back (st := as.reverse ++ vr q :: rest) (rest := rest) (Q' := Q') hb (fun v hv => List.mem_append_right _ (List.mem_cons_of_mem _ hv)) hk ?_
  intro p l e s m args below meth c Rm w g H locs cells slots lsM hC a1 a2 a3 a4 hS hbs hL hst
  refine ⟨_, va_runV (As := as.map (cV w g)) (b := (g q).1) (C := M'.1.cls) (n := n) ⟨hC.1, hC.2.1, hC.2.2.1, hC.2.2.2.1, hC.2.2.2.2.1⟩ (hM l w g) ⟨callB_of n hC.2.2.2.2.1 (xGood hE.1) rfl rfl rfl (hC.2.2.2.2.1 _ hE.2.1) (hC.2.2.2.2.1 _ hl) hE.2.2.1 ⟨a1, by have := hE.2.2.2; show 8 + (M'.2.2.1 + 11) + 40 * d ≤ _; omega⟩, hC.2.2.2.2.1 _ hi, hC.2.2.2.2.1 _ hse⟩ ⟨xblind, va_recv hS.2.2.2.1.1 hS.1 hcl.1 (xW_obj hS.2.2.2.2.2.1 hq), fun U hU hW => ⟨rfl, by rw [hU]; exact hS.warm hW, by rw [hU]; exact hbs, fun v hv => ?_⟩⟩ rfl (by rw [List.length_map]; exact hn) hL.1.1 (by simp [cV]) (lv_room (by have := xsum (w := w) (g := g) rest; omega)) hd ⟨a3, a4⟩⟩
  rcases List.mem_cons.mp hv with rfl | hv
  · exact hst _ (List.mem_append_right _ List.mem_cons_self)
  · exact hst _ (List.mem_append_left _ (List.mem_reverse.mpr hv))
theorem xR_callS {ix n : Nat} {b bc : Nat × Nat} {ls as rest : List xV} {μ : xMem} (hE : xCee M' n) (hl : Cond.methodLink M.1.cls ix M'.1 ∈ xG) (hi : Cond.static M'.1 ∈ xG)
    (hd : decode M.2.1 pc = .ok (.invokestatic ix, 3)) (hn : as.length = n) (hre : rest.length ≤ 4) (hb : bc.1 ≤ b.1 ∧ bc.2 ≤ b.2) (hM : xRM M' d bc as μ Q')
    (hk : ∀ (r : xV) (μ' : xMem), Q' r μ' → xR M (d + 1) (b.1 - bc.1, b.2 - bc.2) (pc + 3) ls (xpush r rest) μ' Q) : xR M (d + 1) b pc ls (as.reverse ++ rest) μ Q := by
  refine xR_back (st := as.reverse ++ rest) (rest := rest) (Q' := Q') hb (fun v hv => List.mem_append_right _ hv) hk ?_
  intro p l e s m args below meth c Rm w g H locs cells slots lsM hC a1 a2 a3 a4 hS hbs hL hst
  exact ⟨_, va_runS (As := as.map (cV w g)) (n := n) ⟨hC.1, hC.2.1, hC.2.2.1, hC.2.2.2.1, hC.2.2.2.2.1⟩ (hM l w g) ⟨callB_of n hC.2.2.2.2.1 (xGood hE.1) rfl rfl rfl (hC.2.2.2.2.1 _ hE.2.1) (hC.2.2.2.2.1 _ hl) hE.2.2.1 ⟨a1, by have := hE.2.2.2; show 8 + (M'.2.2.1 + 11) + 40 * d ≤ _; omega⟩, hC.2.2.2.2.1 _ hi⟩ ⟨xblind, fun U hU hW => ⟨rfl, by rw [hU]; exact hS.warm hW, by rw [hU]; exact hbs, fun v hv => hst _ (List.mem_append_left _ (List.mem_reverse.mpr hv))⟩⟩ rfl (by rw [List.length_map]; exact hn) hL.1.1 (by simp) (lv_room (by have := xsum (w := w) (g := g) rest; omega)) hd ⟨a3, a4⟩⟩
theorem xR_callI {ix n q : Nat} {b bc : Nat × Nat} {ls as rest : List xV} {μ : xMem} (hE : xCee M' n) (hr : M'.2.2.2 = none) (hnm : M'.1.name = "<init>") (hl : Cond.methodLink M.1.cls ix M'.1 ∈ xG) (hi : Cond.instanceMethod M'.1 ∈ xG)
    (hd : decode M.2.1 pc = .ok (.invokespecial ix, 3)) (hn : as.length = n) (hre : rest.length ≤ 4) (hb : bc.1 ≤ b.1 ∧ bc.2 ≤ b.2) (hM : xRM M' d bc (vr q :: as) μ Q')
    (hk : ∀ (r : xV) (μ' : xMem), Q' r μ' → xR M (d + 1) (b.1 - bc.1, b.2 - bc.2) (pc + 3) ls (xpush r rest) μ' Q) : xR M (d + 1) b pc ls (as.reverse ++ vr q :: rest) μ Q := by
  refine xR_back (st := as.reverse ++ vr q :: rest) (rest := rest) (Q' := Q') hb (fun v hv => List.mem_append_right _ (List.mem_cons_of_mem _ hv)) hk ?_
  intro p l e s m args below meth c Rm w g H locs cells slots lsM hC a1 a2 a3 a4 hS hbs hL hst
  have hE1 := hE.1
  have hM1 := hM l w g
  rw [hr] at hE1 hM1
  refine ⟨_, va_runI (As := as.map (cV w g)) (b := (g q).1) (n := n) ⟨hC.1, hC.2.1, hC.2.2.1, hC.2.2.2.1, hC.2.2.2.2.1⟩ hM1 ⟨callB_of n hC.2.2.2.2.1 (fun w hw => (List.mem_cons.mp hw).elim (fun e => e ▸ xG_good _ hE1) (fun h => xG_good w h)) rfl rfl rfl (hC.2.2.2.2.1 _ hE.2.1) (hC.2.2.2.2.1 _ hl) hE.2.2.1 ⟨a1, by have := hE.2.2.2; show 8 + (M'.2.2.1 + 11) + 40 * d ≤ _; omega⟩, hnm, hC.2.2.2.2.1 _ hi⟩ ⟨xblind, fun U hU hW => ⟨rfl, by rw [hU]; exact hS.warm hW, by rw [hU]; exact hbs, fun v hv => ?_⟩⟩ rfl (by rw [List.length_map]; exact hn) hL.1.1 (by simp [cV]) (lv_room (by have := xsum (w := w) (g := g) rest; omega)) hd ⟨a3, a4⟩⟩
  rcases List.mem_cons.mp hv with rfl | hv
  · exact hst _ (List.mem_append_right _ List.mem_cons_self)
  · exact hst _ (List.mem_append_left _ (List.mem_reverse.mpr hv))
end Call
