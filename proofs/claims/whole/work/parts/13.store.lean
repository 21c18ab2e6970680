/-! ===== locals are stored, switches, returns ===== -/
def x_nol (ls : List xV) : Nat → Prop
  | 0 => True
  | j + 1 => match ls.getD j vu with
    | .inr (.inl _) => False
    | _ => True
def x_istore (i : Nat) (k : xP) (b : Nat × Nat) (ls st : List xV) (μ : xMem) : Prop := match st with
  | .inl x :: st => x_nol ls i ∧ k b (ls.set i (vi x)) st μ
  | _ => False
def x_astore (i : Nat) (k : xP) (b : Nat × Nat) (ls st : List xV) (μ : xMem) : Prop := match st with
  | .inr (.inr (.inl q)) :: st => x_nol ls i ∧ k b (ls.set i (vq q)) st μ
  | .inr (.inr (.inr (.inl q))) :: st => x_nol ls i ∧ k b (ls.set i (vo q)) st μ
  | _ => False
def x_lstore (i : Nat) (k : xP) (b : Nat × Nat) (ls st : List xV) (μ : xMem) : Prop := match st with
  | .inr (.inl x) :: st => x_nol ls i ∧ k b ((ls.set i (vl x)).set (i + 1) vu) st μ
  | _ => False
def x_iinc (i : Nat) (n : Int) (k : xP) (b : Nat × Nat) (ls st : List xV) (μ : xMem) : Prop := match ls.getD i vu with
  | .inl x => k b (ls.set i (vi (oadd x n))) st μ
  | _ => False
theorem cV_cat {w : xWd} {g : xGh} {v : xV} (h : (cV w g v).category = 2) : ∃ x, v = vl x := by
  rcases v with x | x | (_ | x) | x | x
  · cases h
  · exact ⟨x, rfl⟩
  · cases h
  · cases h
  · cases h
  · cases h
theorem x_nol_of {ls : List xV} {i j : Nat} {x : Int} (h : x_nol ls i) (hj : j + 1 = i) (hx : ls[j]? = some (vl x)) : False := by
  subst hj
  have h : (match ls.getD j vu with | .inr (.inl _) => False | _ => True) := h
  rw [List.getD_eq_getElem?_getD, hx] at h
  exact h
theorem xset_mem {α : Type} {l : List α} {i : Nat} {a x : α} (h : x ∈ l.set i a) : x ∈ l ∨ x = a := List.mem_or_eq_of_mem_set h
section Lo
variable {M : xMt} {d pc : Nat} {Q : xV → xMem → Prop} {k kt : xP}
/-- a value is stored in a local -/
theorem xLoc.set {w : xWd} {g : xGh} {n nL : Nat} {ls : List xV} {lsM lsM' : Array Slot} {i : Nat} {v : xV} (h : xLoc w g n nL ls lsM) (hv : xVok n v) (hc : x_cat1 v) (hn : x_nol ls i)
    (h' : lv_has lsM' nL ((i, cV w g v) :: (xLv w g 0 ls).filter (fun q => !(q.1 == i) && !(q.1 + 1 == i && q.2.category == 2)))) : xLoc w g n nL (ls.set i v) lsM' := by
  refine ⟨⟨h'.1, h'.2.1, fun q hq => ?_⟩, by rw [List.length_set]; exact h.2.1, fun u hu => ?_⟩
  · obtain ⟨j, u, h1, h2, rfl⟩ := (xLv_mem _ 0).mp hq
    apply h'.2.2
    rw [Nat.zero_add]
    by_cases hj : j = i
    · subst hj
      have : j < ls.length := by
        have := (List.getElem?_eq_some_iff.mp h1).1
        rwa [List.length_set] at this
      rw [List.getElem?_set_self this] at h1
      cases h1
      exact List.mem_cons_self
    · rw [List.getElem?_set_ne (fun e => hj e.symm)] at h1
      refine List.mem_cons_of_mem _ (List.mem_filter.mpr ⟨(xLv_mem ls 0).mpr ⟨j, u, h1, h2, by rw [Nat.zero_add]⟩, ?_⟩)
      simp only [Bool.and_eq_true, Bool.not_eq_true', beq_eq_false_iff_ne, ne_eq, Bool.and_eq_false_iff]
      refine ⟨hj, ?_⟩
      by_cases hji : j + 1 = i
      · right
        intro hcat
        obtain ⟨x, rfl⟩ := cV_cat hcat
        exact x_nol_of hn hji h1
      · exact Or.inl hji
  · rcases xset_mem hu with hu | rfl
    · exact h.2.2 u hu
    · exact hv
theorem xLoc.setl {w : xWd} {g : xGh} {n nL : Nat} {ls : List xV} {lsM lsM' : Array Slot} {i : Nat} {x : Int} (h : xLoc w g n nL ls lsM) (hv : i64 x) (hn : x_nol ls i)
    (h' : lv_has lsM' nL ((i, .long (Int64.ofInt x)) :: (xLv w g 0 ls).filter (fun q => !(q.1 == i) && (!(q.1 == i + 1) && !(q.1 + 1 == i && q.2.category == 2))))) : xLoc w g n nL ((ls.set i (vl x)).set (i + 1) vu) lsM' := by
  refine ⟨⟨h'.1, h'.2.1, fun q hq => ?_⟩, by rw [List.length_set, List.length_set]; exact h.2.1, fun u hu => ?_⟩
  · obtain ⟨j, u, h1, h2, rfl⟩ := (xLv_mem _ 0).mp hq
    apply h'.2.2
    rw [Nat.zero_add]
    have hlt : j < ls.length := by
      have := (List.getElem?_eq_some_iff.mp h1).1
      rwa [List.length_set, List.length_set] at this
    by_cases hj1 : j = i + 1
    · subst hj1
      rw [List.getElem?_set_self (by rw [List.length_set]; exact hlt)] at h1
      cases h1
      exact absurd rfl h2
    · rw [List.getElem?_set_ne (fun e => hj1 e.symm)] at h1
      by_cases hj : j = i
      · subst hj
        rw [List.getElem?_set_self hlt] at h1
        cases h1
        exact List.mem_cons_self
      · rw [List.getElem?_set_ne (fun e => hj e.symm)] at h1
        refine List.mem_cons_of_mem _ (List.mem_filter.mpr ⟨(xLv_mem ls 0).mpr ⟨j, u, h1, h2, by rw [Nat.zero_add]⟩, ?_⟩)
        simp only [Bool.and_eq_true, Bool.not_eq_true', beq_eq_false_iff_ne, ne_eq, Bool.and_eq_false_iff]
        refine ⟨hj, hj1, ?_⟩
        by_cases hji : j + 1 = i
        · right
          intro hcat
          obtain ⟨x, rfl⟩ := cV_cat hcat
          exact x_nol_of hn hji h1
        · exact Or.inl hji
  · rcases xset_mem hu with hu | rfl
    · rcases xset_mem hu with hu | rfl
      · exact h.2.2 u hu
      · exact hv
    · trivial
/-- a store of a local -/
theorem xR_lo {b : Nat × Nat} {ls ls' st st' : List xV} {μ : xMem} {pc' : Nat} (hk : xR M d b pc' ls' st' μ Q) (hv : (∀ v ∈ st, xVok (gN μ.1) v) → ∀ v ∈ st', xVok (gN μ.1) v)
    (hs : ∀ (p : Program) (l : Launch) (e : Env) (s : State) (m : MethodId) (args : Array Value) (below : List Frame) (meth : Method) (c : Code) (Rm : Room) (w : xWd) (g : xGh) (H : Heap) (locs : List Loc) (cells slots : Nat) (lsM : Array Slot) (Qw : State → Prop), xCx M p s m args meth c → xLoc w g (gN μ.1) M.2.2.1 ls lsM → (∀ v ∈ st, xVok (gN μ.1) v) →
      (∀ lsM', xLoc w g (gN μ.1) M.2.2.1 ls' lsM' → W p l e Rm s m args below meth c H locs cells slots Qw (F0 m pc' lsM' (st'.map (cV w g)))) → W p l e Rm s m args below meth c H locs cells slots Qw (F0 m pc lsM (st.map (cV w g)))) : xR M d b pc ls st μ Q := by
  intro p l e s m args below meth c Rm w g0 n0 g H locs cells slots lsM hC a1 a2 a3 a4 a5 a6 hS hV hb hL hst
  exact hs p l e s m args below meth c Rm w g H locs cells slots lsM _ hC hL hst (fun lsM' hL' => hk p l e s m args below meth c Rm w g0 n0 g H locs cells slots lsM' hC a1 a2 a3 a4 a5 a6 hS hV hb hL' (hv hst))
theorem s_istore_n {i : Nat} {n : Fin 4} (hd : decode M.2.1 pc = .ok (.istore_n n, 1)) (hi : (n : Nat) = i) (hn : i < M.2.2.1) (hk : Snd M d (pc + 1) Q k) : Snd M d pc Q (x_istore i k) := fun b ls st μ h => by
  match st, h with
  | .inl x :: st, h => exact xR_lo (hk b _ _ μ h.2) (fun hst => xok_tail hst) (fun _ _ _ _ _ _ _ _ _ _ _ _ _ _ _ _ _ _ hC hL hst kk => lv_istore_n hC.1 hC.2.1 hd hi hL.1 hn rfl (fun ls' h' => kk ls' (hL.set (v := vi x) (xok_head hst) trivial h.1 h')))
theorem s_istore {i : Nat} (hd : decode M.2.1 pc = .ok (.istore i, 2)) (hn : i < M.2.2.1) (hk : Snd M d (pc + 2) Q k) : Snd M d pc Q (x_istore i k) := fun b ls st μ h => by
  match st, h with
  | .inl x :: st, h => exact xR_lo (hk b _ _ μ h.2) (fun hst => xok_tail hst) (fun _ _ _ _ _ _ _ _ _ _ _ _ _ _ _ _ _ _ hC hL hst kk => lv_istore hC.1 hC.2.1 hd hL.1 hn rfl (fun ls' h' => kk ls' (hL.set (v := vi x) (xok_head hst) trivial h.1 h')))
theorem s_astore_n {i : Nat} {n : Fin 4} (hd : decode M.2.1 pc = .ok (.astore_n n, 1)) (hi : (n : Nat) = i) (hn : i < M.2.2.1) (hk : Snd M d (pc + 1) Q k) : Snd M d pc Q (x_astore i k) := fun b ls st μ h => by
  match st, h with
  | .inr (.inr (.inl none)) :: st, h => exact xR_lo (hk b _ _ μ h.2) (fun hst => xok_tail hst) (fun _ _ _ _ _ _ _ _ _ _ _ _ _ _ _ _ _ _ hC hL hst kk => lv_astore_nN hC.1 hC.2.1 hd hi hL.1 hn rfl (fun ls' h' => kk ls' (hL.set (v := vn) trivial trivial h.1 h')))
  | .inr (.inr (.inl (some q))) :: st, h => exact xR_lo (hk b _ _ μ h.2) (fun hst => xok_tail hst) (fun _ _ _ _ _ _ _ _ _ _ _ _ _ _ _ _ _ _ hC hL hst kk => lv_astore_n hC.1 hC.2.1 hd hi hL.1 hn rfl (fun ls' h' => kk ls' (hL.set (v := vr q) (xok_head hst) trivial h.1 h')))
  | .inr (.inr (.inr (.inl q))) :: st, h => exact xR_lo (hk b _ _ μ h.2) (fun hst => xok_tail hst) (fun _ _ _ _ _ _ _ _ _ _ _ _ _ _ _ _ _ _ hC hL hst kk => lv_astore_n hC.1 hC.2.1 hd hi hL.1 hn rfl (fun ls' h' => kk ls' (hL.set (v := vo q) trivial trivial h.1 h')))
theorem s_astore {i : Nat} (hd : decode M.2.1 pc = .ok (.astore i, 2)) (hn : i < M.2.2.1) (hk : Snd M d (pc + 2) Q k) : Snd M d pc Q (x_astore i k) := fun b ls st μ h => by
  match st, h with
  | .inr (.inr (.inl none)) :: st, h => exact xR_lo (hk b _ _ μ h.2) (fun hst => xok_tail hst) (fun _ _ _ _ _ _ _ _ _ _ _ _ _ _ _ _ _ _ hC hL hst kk => lv_astoreN hC.1 hC.2.1 hd hL.1 hn rfl (fun ls' h' => kk ls' (hL.set (v := vn) trivial trivial h.1 h')))
  | .inr (.inr (.inl (some q))) :: st, h => exact xR_lo (hk b _ _ μ h.2) (fun hst => xok_tail hst) (fun _ _ _ _ _ _ _ _ _ _ _ _ _ _ _ _ _ _ hC hL hst kk => lv_astore hC.1 hC.2.1 hd hL.1 hn rfl (fun ls' h' => kk ls' (hL.set (v := vr q) (xok_head hst) trivial h.1 h')))
  | .inr (.inr (.inr (.inl q))) :: st, h => exact xR_lo (hk b _ _ μ h.2) (fun hst => xok_tail hst) (fun _ _ _ _ _ _ _ _ _ _ _ _ _ _ _ _ _ _ hC hL hst kk => lv_astore hC.1 hC.2.1 hd hL.1 hn rfl (fun ls' h' => kk ls' (hL.set (v := vo q) trivial trivial h.1 h')))
theorem s_lstore {i : Nat} (hd : decode M.2.1 pc = .ok (.lstore i, 2)) (hn : i + 1 < M.2.2.1) (hk : Snd M d (pc + 2) Q k) : Snd M d pc Q (x_lstore i k) := fun b ls st μ h => by
  match st, h with
  | .inr (.inl x) :: st, h => exact xR_lo (hk b _ _ μ h.2) (fun hst => xok_tail hst) (fun _ _ _ _ _ _ _ _ _ _ _ _ _ _ _ _ _ _ hC hL hst kk => lv_lstore hC.1 hC.2.1 hd hL.1 hn rfl (fun ls' h' => kk ls' (hL.setl (xok_head hst) h.1 h')))
theorem s_iinc {i : Nat} {n : Int} (hd : decode M.2.1 pc = .ok (.iinc i n, 3)) (hn : i < M.2.2.1) (hk : Snd M d (pc + 3) Q k) : Snd M d pc Q (x_iinc i n k) := fun b ls st μ h => by
  unfold x_iinc at h
  split at h
  · rename_i x hx
    have hg := xgetD hx (by simp)
    exact xR_lo (hk b _ _ μ h) (fun hst => hst) (fun _ _ _ _ _ _ _ _ _ _ w g _ _ _ _ lsM _ hC hL hst kk => by
      obtain ⟨j, hj⟩ := List.getElem?_of_mem ((xLv_mem (w := w) (g := g) (q := (i, .int (Int32.ofInt x))) ls 0).mpr ⟨i, _, hg, by simp, by rw [Nat.zero_add]; rfl⟩)
      have hnol : x_nol ls i := by
        cases i with
        | zero => trivial
        | succ i =>
          show (match ls.getD i vu with | .inr (.inl _) => False | _ => True)
          split
          · rename_i y hy
            have h1 := hL.get (xgetD hy (by simp)) (by simp)
            have h2 := hL.1.2.1.1 _ _ h1 rfl
            have h3 := hL.get hg (by simp)
            rw [h2] at h3
            cases h3
          · trivial
      refine lv_iinc (v := Int32.ofInt x + Int32.ofInt n) hC.1 hC.2.1 hd hL.1 hj rfl hn rfl (fun ls' h' => kk ls' (hL.set (v := vi (oadd x n)) (oadd_ok _ _) trivial hnol (by
        have e : cV w g (vi (oadd x n)) = .int (Int32.ofInt x + Int32.ofInt n) := by rw [oadd_def]; exact cV_ofI _
        rw [e]
        exact h'))))
  · exact h.elim
end Lo
