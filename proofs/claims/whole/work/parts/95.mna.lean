/-! ===== new int[n][m] ===== -/
theorem mna_outer (c : ClassId) (N h0 : Nat) : ∀ i : Nat, Jvm.Free.Multi.outerC c N h0 i = arrV c N (fun j => va_rf (if j < i then some (h0 + 1 + j) else none))
  | 0 => by
    show ({ cls := c, slots := Array.replicate N .null, vm := .none } : Cell) = _
    rw [arrV_new]
    refine congrArg (arrV c N) (funext fun j => ?_)
    simp [va_rf]
  | i + 1 => by
    show (Jvm.Free.Multi.outerC c N h0 i).setSlot i (.ref (h0 + 1 + i)) = _
    rw [mna_outer c N h0 i, arrV_store]
    refine congrArg (arrV c N) (funext fun j => ?_)
    by_cases e : j = i
    · subst e
      simp [updV, va_rf]
    · by_cases h : j < i
      · simp [updV, e, h, Nat.lt_succ_of_lt h]
      · simp [updV, e, h, show ¬ j < i + 1 by omega]
def gMna (Γ : xSh) (n m : Nat) : xSh := (gN Γ + 1 + n, (fun k => if k = gN Γ then some (.inr (.array .int, n)) else if gN Γ < k ∧ k ≤ gN Γ + n then some (.inr (.int, m)) else gK Γ k), (fun k j => if k = gN Γ then (if j < n then some (gN Γ + 1 + j) else none) else if gN Γ < k ∧ k ≤ gN Γ + n then none else gF Γ k j), gS Γ)
def zerM (σ : Nat → Nat → Int) (a n : Nat) : Nat → Nat → Int := fun k j => if a ≤ k ∧ k ≤ a + n then 0 else σ k j
def ghM (g : xGh) (a n h : Nat) (cA comp : ClassId) : xGh := fun k => if k = a then (h, cA) else if a < k ∧ k ≤ a + n then (h + (k - a), comp) else g k
def x_mna (k : xP) (b : Nat × Nat) (ls st : List xV) (μ : xMem) : Prop := match st with
  | .inl m :: .inl n :: st => (0 ≤ n ∧ n < 1000) ∧ (0 ≤ m ∧ m < 1000) ∧ (1 + n.toNat ≤ b.1 ∧ n.toNat + n.toNat * m.toNat ≤ b.2) ∧ k (b.1 - (1 + n.toNat), b.2 - (n.toNat + n.toNat * m.toNat)) ls (vr (gN μ.1) :: st) (gMna μ.1 n.toNat m.toNat, zerM μ.2 (gN μ.1) n.toNat)
  | _ => False
theorem mna_wf {μ : xMem} (h : xWf μ) (n m : Nat) : xWf (gMna μ.1 n m, zerM μ.2 (gN μ.1) n) := by
  obtain ⟨h1, h2, h3⟩ := h
  refine ⟨fun k j => ?_, fun k j q hq => ?_, fun k hk => ?_⟩
  · show i32 (if gN μ.1 ≤ k ∧ k ≤ gN μ.1 + n then 0 else μ.2 k j)
    split
    · exact i32_0
    · exact h1 k j
  · have hq : (if k = gN μ.1 then (if j < n then some (gN μ.1 + 1 + j) else none) else if gN μ.1 < k ∧ k ≤ gN μ.1 + n then none else gF μ.1 k j) = some q := hq
    show q < gN μ.1 + 1 + n
    split at hq
    · split at hq
      · cases hq; omega
      · cases hq
    · split at hq
      · cases hq
      · have := h2 k j q hq
        omega
  · have hk : gN μ.1 + 1 + n ≤ k := hk
    show (if k = gN μ.1 then _ else if gN μ.1 < k ∧ k ≤ gN μ.1 + n then _ else gK μ.1 k) = none
    rw [if_neg (by omega), if_neg (by omega)]
    exact h3 k (by omega)
theorem xW_mna {g : xGh} {μ : xMem} {h n m : Nat} {cA comp : ClassId} (hw : xWf μ) : xW (ghM g (gN μ.1) n h cA comp) (gMna μ.1 n m, zerM μ.2 (gN μ.1) n) = xW g μ ++ ((h, .inl (cA, n, .inr (.inr (.inr (.inr (fun j => if j < n then some (h + 1 + j) else none)))))) :: (List.range n).map (fun j => (h + 1 + j, .inl (comp, m, .inl fun _ => Int32.ofInt 0)))) := by
  apply List.ext_getElem?
  intro k
  rw [xW_at]
  show (if k < gN μ.1 + 1 + n then _ else _) = _
  by_cases hk : k < gN μ.1
  · rw [if_pos (by omega), List.getElem?_append_left (by rw [xW_len]; exact hk), xW_get hk]
    have hne : k ≠ gN μ.1 := by omega
    have hne2 : ¬ (gN μ.1 < k ∧ k ≤ gN μ.1 + n) := by omega
    have e0 : ghM g (gN μ.1) n h cA comp k = g k := by unfold ghM; rw [if_neg hne, if_neg hne2]
    have e1 : gK (gMna μ.1 n m, zerM μ.2 (gN μ.1) n).1 k = gK μ.1 k := (if_neg hne).trans (if_neg hne2)
    have e2 : gF (gMna μ.1 n m, zerM μ.2 (gN μ.1) n).1 k = gF μ.1 k := by funext j; exact (if_neg hne).trans (if_neg hne2)
    have e3 : (gMna μ.1 n m, zerM μ.2 (gN μ.1) n).2 k = μ.2 k := by funext j; exact if_neg (by omega)
    have hr : ∀ j z, gF μ.1 k j = some z → ghM g (gN μ.1) n h cA comp z = g z := fun j z hz => by
      have := hw.2.1 k j z hz
      unfold ghM
      rw [if_neg (by omega), if_neg (by omega)]
    rw [e0]
    congr 2
    rw [xCell_congr (μ := μ) e1 e2 e3]
    unfold xCell
    split
    · congr 2
      exact List.map_congr_left (fun j _ => xFld_gh (hr j))
    · rw [e0, xArr_gh hr]
    · rfl
  · rw [List.getElem?_append_right (by rw [xW_len]; omega), xW_len]
    by_cases hk1 : k = gN μ.1
    · subst hk1
      rw [if_pos (by omega), Nat.sub_self, List.getElem?_cons_zero]
      have e0 : ghM g (gN μ.1) n h cA comp (gN μ.1) = (h, cA) := by unfold ghM; rw [if_pos rfl]
      rw [e0]
      congr 2
      unfold xCell
      rw [show gK (gMna μ.1 n m, zerM μ.2 (gN μ.1) n).1 (gN μ.1) = some (.inr (.array .int, n)) from if_pos rfl, e0]
      refine congrArg (fun z : Nat → Option Nat => (Sum.inl (cA, n, Sum.inr (Sum.inr (Sum.inr (Sum.inr z)))) : va_E)) ?_
      funext j
      rw [show gF (gMna μ.1 n m, zerM μ.2 (gN μ.1) n).1 (gN μ.1) j = if j < n then some (gN μ.1 + 1 + j) else none from if_pos rfl]
      by_cases hj : j < n
      · rw [if_pos hj, if_pos hj, Option.map_some]
        unfold ghM
        rw [if_neg (by omega), if_pos (by omega)]
        congr 1
        show h + (gN μ.1 + 1 + j - gN μ.1) = h + 1 + j
        omega
      · rw [if_neg hj, if_neg hj]
        rfl
    · obtain ⟨j, hj⟩ : ∃ j, k - gN μ.1 = j + 1 := ⟨k - gN μ.1 - 1, by omega⟩
      rw [hj, List.getElem?_cons_succ, List.getElem?_map]
      by_cases hn : j < n
      · rw [if_pos (by omega), List.getElem?_range hn, Option.map_some]
        have e0 : ghM g (gN μ.1) n h cA comp k = (h + 1 + j, comp) := by
          unfold ghM
          rw [if_neg hk1, if_pos (by omega), show h + (k - gN μ.1) = h + 1 + j by omega]
        rw [e0]
        congr 2
        unfold xCell
        rw [show gK (gMna μ.1 n m, zerM μ.2 (gN μ.1) n).1 k = some (.inr (.int, m)) from (if_neg hk1).trans (if_pos (by omega)), e0]
        show Sum.inl (comp, m, _) = _
        congr 3
        unfold xArr
        dsimp only
        congr 1
        funext i
        rw [show zerM μ.2 (gN μ.1) n k i = 0 from if_pos (by omega)]
      · rw [if_neg (by omega), List.getElem?_eq_none (by simp; omega), Option.map_none]
theorem s_mna {M : xMt} {d pc ix : Nat} {Q : xV → xMem → Prop} {k : xP} (hl : Cond.classLink M.1.cls ix ("[" ++ (FieldType.array .int).toString) ∈ xG) (ha : Cond.arrayClass .int ∈ xG) (hd : decode M.2.1 pc = .ok (.multianewarray ix 2, 4)) (hk : Snd M d (pc + 4) Q k) : Snd M d pc Q (x_mna k) := fun b ls st μ h => by
  match st, h with
  | .inl m :: .inl n :: st, h =>
    obtain ⟨⟨n0, n1⟩, ⟨m0, m1⟩, hb, h⟩ := h
    obtain ⟨c1, c2⟩ := newa_c n0 (by omega)
    obtain ⟨c3, c4⟩ := newa_c m0 (by omega)
    intro p l e s mm args below meth c Rm w g0 n00 g H locs cells slots lsM hC a1 a2 a3 a4 a5 a6 hS hV hbs hL hst
    have hwf := hS.2.2.2.2.2.1
    have hxao : xAO s := hS.2.2.2.2.2.2.2.2.2.2.2.2.2.2.1
    intro T hT X
    have ec : n.toNat + n.toNat * m.toNat ≤ b.2 := hb.2
    obtain ⟨vm₁, cA, comp, -, fA, fC, hO, hI, X', step⟩ := X.multianewarray2F (ty := .int) hC.1 hC.2.2.2.1 (hC.2.2.2.2.1 _ hl) hxao (hC.2.2.2.2.1 _ ha) (g := F0 mm pc lsM ((.inl m :: .inl n :: st).map (cV w g))) rfl (by rw [hC.2.1]; exact hd) rfl c1 c3 (by rw [c2]; omega) (by rw [c4]; show m.toNat * 4 ≤ _; omega) (by rw [c4]; omega) rfl rfl (by rw [c2]; omega) (by rw [c2, c4]; omega)
    obtain ⟨f1, f2, -, -⟩ := Jvm.Free.Multi.fill_facts (T.setVm vm₁) cA comp (Int32.ofInt n).toNatClampNeg (Int32.ofInt m).toNatClampNeg (defaultValue .int) (Int32.ofInt n).toNatClampNeg
    have f3 := fun (x : Nat) (hx : x < H.size) => Jvm.Free.Multi.fill_old (T.setVm vm₁) cA comp (Int32.ofInt n).toNatClampNeg (Int32.ofInt m).toNatClampNeg (defaultValue .int) (a := x) (by show x < T.heap.size; rw [hT]; exact hx) (Int32.ofInt n).toNatClampNeg
    have f4 := fun (j : Nat) (hj : j < n.toNat) => Jvm.Free.Multi.fill_inner (T.setVm vm₁) cA comp (Int32.ofInt n).toNatClampNeg (Int32.ofInt m).toNatClampNeg (defaultValue .int) (Int32.ofInt n).toNatClampNeg j (by rw [c2]; exact hj)
    rw [c2, c4] at X' step f1 f2
    rw [c2, c4] at f3
    rw [c2, c4] at f4
    generalize hF : Jvm.Free.Multi.fill (T.setVm vm₁) cA comp n.toNat m.toNat (defaultValue .int) n.toNat = F at X' step f1 f2 f3 f4
    have hTh : (T.setVm vm₁).heap = H := hT
    rw [hTh] at f1 f2
    rw [hTh] at f3
    rw [hTh] at f4
    have hV1 : va_S (fun q => w.1 ≤ q) s.heap F.heap locs := ⟨Nat.le_trans hV.1 (by rw [f1]; omega), fun q h1 h2 => by rw [f3 q (Nat.lt_of_lt_of_le h1 hV.1)]; exact hV.2.1 q h1 h2, hV.2.2⟩
    have hsz : w.1 ≤ H.size := Nat.le_trans hbs hV.1
    have hlt : ∀ (k : Nat) (x : Nat × va_E), (xW g μ)[k]? = some x → x.1 < H.size := fun k x hx => (hS.1 k x hx).lt
    have newk : ∀ (k : Nat) (x : Nat × va_E), (((H.size, .inl (cA, n.toNat, .inr (.inr (.inr (.inr (fun j => if j < n.toNat then some (H.size + 1 + j) else none)))))) :: (List.range n.toNat).map (fun j => (H.size + 1 + j, .inl (comp, m.toNat, .inl fun _ => Int32.ofInt 0))) : va_W)[k]? = some x) → x.1 = H.size + k := fun k x hx => by
      cases k with
      | zero => rw [List.getElem?_cons_zero] at hx; cases hx; rfl
      | succ k =>
        rw [List.getElem?_cons_succ, List.getElem?_map] at hx
        obtain ⟨j, hj, e⟩ := Option.map_eq_some_iff.mp hx
        have hj' : k < n.toNat := by
          have := (List.getElem?_eq_some_iff.mp hj).1
          simpa using this
        rw [List.getElem?_range hj'] at hj
        cases hj
        rw [← e]
        show H.size + 1 + k = H.size + (k + 1)
        omega
    have hP1 : va_P w.2.1 vwCl (xW g μ ++ ((H.size, .inl (cA, n.toNat, .inr (.inr (.inr (.inr (fun j => if j < n.toNat then some (H.size + 1 + j) else none)))))) :: (List.range n.toNat).map (fun j => (H.size + 1 + j, .inl (comp, m.toNat, .inl fun _ => Int32.ofInt 0))))) F.heap := by
      refine (hS.1.kept (fun k x hx => f3 x.1 (hlt k x hx))).app (fun k x hx => ?_)
      cases k with
      | zero =>
        rw [List.getElem?_cons_zero] at hx
        cases hx
        show F.heap[H.size]? = some (vp_cell _ _)
        rw [f2, mna_outer, vp_cell_q]
      | succ k =>
        rw [List.getElem?_cons_succ, List.getElem?_map] at hx
        obtain ⟨j, hj, e⟩ := Option.map_eq_some_iff.mp hx
        have hj' : k < n.toNat := by
          have := (List.getElem?_eq_some_iff.mp hj).1
          simpa using this
        rw [List.getElem?_range hj'] at hj
        cases hj
        rw [← e]
        show F.heap[H.size + 1 + k]? = some (vp_cell _ _)
        rw [f4 k hj', vp_cell_i]
        show some ({ cls := comp, slots := Array.replicate m.toNat (.int 0), vm := .none } : Cell) = _
        rw [arrV_new]
        rfl
    have hD1 : va_D (fun q => w.1 ≤ q) (xW g μ ++ ((H.size, .inl (cA, n.toNat, .inr (.inr (.inr (.inr (fun j => if j < n.toNat then some (H.size + 1 + j) else none)))))) :: (List.range n.toNat).map (fun j => (H.size + 1 + j, .inl (comp, m.toNat, .inl fun _ => Int32.ofInt 0))))) := by
      refine ⟨fun i j x y hx hy e => ?_, fun k x hx => ?_⟩
      · by_cases hi : i < (xW g μ).length
        · rw [List.getElem?_append_left hi] at hx
          by_cases hj : j < (xW g μ).length
          · rw [List.getElem?_append_left hj] at hy
            exact hS.2.1.1 i j x y hx hy e
          · rw [List.getElem?_append_right (by omega)] at hy
            have h1 := hlt i x hx
            have h2 := newk _ y hy
            omega
        · rw [List.getElem?_append_right (by omega)] at hx
          have h1 := newk _ x hx
          by_cases hj : j < (xW g μ).length
          · rw [List.getElem?_append_left hj] at hy
            have h2 := hlt j y hy
            omega
          · rw [List.getElem?_append_right (by omega)] at hy
            have h2 := newk _ y hy
            omega
      · by_cases hi : k < (xW g μ).length
        · rw [List.getElem?_append_left hi] at hx
          exact hS.2.1.2 k x hx
        · rw [List.getElem?_append_right (by omega)] at hx
          have h1 := newk _ x hx
          show w.1 ≤ x.1
          omega
    rw [← xW_mna hwf] at hP1 hD1
    have hg : ∀ k, k < gN μ.1 → ghM g (gN μ.1) n.toNat H.size cA comp k = g k := fun k hk => by
      unfold ghM
      rw [if_neg (by omega), if_neg (by omega)]
    have hS1 : xSim w (ghM g (gN μ.1) n.toNat H.size cA comp) (gMna μ.1 n.toNat m.toNat, zerM μ.2 (gN μ.1) n.toNat) s F.heap := by
      refine ⟨hP1, hD1, Nat.le_trans hbs hV1.1, hS.2.2.2.1, fun k ty z hk => ?_, mna_wf hwf _ _, hS.2.2.2.2.2.2.next hV hV1 hbs⟩
      have hk : (if k = gN μ.1 then some (.inr (FieldType.array .int, n.toNat)) else if gN μ.1 < k ∧ k ≤ gN μ.1 + n.toNat then some (.inr (FieldType.int, m.toNat)) else gK μ.1 k) = some (.inr (ty, z)) := hk
      by_cases e : k = gN μ.1
      · rw [if_pos e] at hk
        cases hk
        have e0 : ghM g (gN μ.1) n.toNat H.size cA comp k = (H.size, cA) := by unfold ghM; rw [if_pos e]
        rw [e0]
        refine ⟨fun N zf => ?_, fA⟩
        obtain ⟨comp0, c0, k0, p1, -, p3, p4, p5⟩ := hxao.spec
        cases p5.symm.trans fA
        exact ⟨(fun q hq => by cases hq), k0, p3, comp0, p4⟩
      · rw [if_neg e] at hk
        by_cases e2 : gN μ.1 < k ∧ k ≤ gN μ.1 + n.toNat
        · rw [if_pos e2] at hk
          cases hk
          have e0 : ghM g (gN μ.1) n.toNat H.size cA comp k = (H.size + (k - gN μ.1), comp) := by unfold ghM; rw [if_neg e, if_pos e2]
          rw [e0]
          refine ⟨fun N zf => ?_, fC⟩
          have := (hI N (.int 0)).1
          obtain ⟨q1, k0, q2, q3⟩ := this
          exact ⟨(fun q hq => by cases hq), k0, q2, q3⟩
        · rw [if_neg e2] at hk
          have e0 : ghM g (gN μ.1) n.toNat H.size cA comp k = g k := by unfold ghM; rw [if_neg e, if_neg e2]
          rw [e0]
          exact hS.2.2.2.2.1 k ty z hk
    have hle : gN μ.1 ≤ gN (gMna μ.1 n.toNat m.toNat) := by show gN μ.1 ≤ gN μ.1 + 1 + n.toNat; omega
    have hL1 : xLoc w (ghM g (gN μ.1) n.toNat H.size cA comp) (gN (gMna μ.1 n.toNat m.toNat)) M.2.2.1 ls lsM := ⟨by rw [xLv_eq hg ls 0 hL.2.2]; exact hL.1, hL.2.1, fun u hu => xVok_mono hle (hL.2.2 u hu)⟩
    have hrest : ∀ u ∈ st, xVok (gN μ.1) u := xok_tail (xok_tail hst)
    have hX : Stand p l e Rm s mm args below meth c F locs (cells + (1 + n.toNat)) (slots + (n.toNat + n.toNat * m.toNat)) := by
      have e1 : cells + (1 + n.toNat) = cells + 1 + n.toNat := by omega
      have e2 : slots + (n.toNat + n.toNat * m.toNat) = slots + n.toNat + n.toNat * m.toNat := by omega
      rw [e1, e2]
      exact X'
    obtain ⟨t2, b1, b2⟩ := hk _ ls _ _ h p l e s mm args below meth c Rm w g0 n00 (ghM g (gN μ.1) n.toNat H.size cA comp) F.heap locs (cells + (1 + n.toNat)) (slots + (n.toNat + n.toNat * m.toNat)) lsM hC a1 a2 (by show cells + (1 + n.toNat) + (b.1 - (1 + n.toNat)) ≤ _; omega) (by show slots + (n.toNat + n.toNat * m.toNat) + (b.2 - (n.toNat + n.toNat * m.toNat)) ≤ _; omega) (fun k hk0 => (hg k (Nat.lt_of_lt_of_le hk0 a6)).trans (a5 k hk0)) (Nat.le_trans a6 hle) hS1 hV1 hbs hL1 (fun v hv => by
      rcases List.mem_cons.mp hv with rfl | hv
      · show gN μ.1 < gN μ.1 + 1 + n.toNat
        omega
      · exact xVok_mono hle (hrest v hv)) F rfl hX
    refine ⟨t2, step t2 ?_, b2⟩
    have e3 : (vr (gN μ.1) :: st).map (cV w (ghM g (gN μ.1) n.toNat H.size cA comp)) = .ref T.heap.size :: st.map (cV w g) := by
      rw [List.map_cons]
      congr 1
      · show Value.ref (ghM g (gN μ.1) n.toNat H.size cA comp (gN μ.1)).1 = _
        unfold ghM
        rw [if_pos rfl, hT]
      · exact List.map_congr_left (fun u hu => cV_eq hg (hrest u hu))
    rw [e3] at b1
    exact b1
