/-! ===== switches, returns, fields, arrays ===== -/
def xsw (x lo : Int) (dk : xP) : Int → List xP → Nat × Nat → List xV → List xV → xMem → Prop
  | n, [], b, ls, st, μ => (x < lo ∨ n ≤ x) → dk b ls st μ
  | n, t :: ts, b, ls, st, μ => (x = n → t b ls st μ) ∧ xsw x lo dk (n + 1) ts b ls st μ
def x_tsw (lo : Int) (ts : List xP) (dk : xP) (b : Nat × Nat) (ls st : List xV) (μ : xMem) : Prop := match st with
  | .inl x :: st => xsw x lo dk lo ts b ls st μ
  | _ => False
def xlsw (x : Int) (dk : xP) : List (Int × xP) → Nat × Nat → List xV → List xV → xMem → Prop
  | [], b, ls, st, μ => dk b ls st μ
  | q :: ts, b, ls, st, μ => (x = q.1 → q.2 b ls st μ) ∧ (¬ x = q.1 → xlsw x dk ts b ls st μ)
def x_lsw (ts : List (Int × xP)) (dk : xP) (b : Nat × Nat) (ls st : List xV) (μ : xMem) : Prop := match st with
  | .inl x :: st => xlsw x dk ts b ls st μ
  | _ => False
def SndL (M : xMt) (d pc : Nat) (Q : xV → xMem → Prop) : List Int → List xP → Prop
  | [], [] => True
  | o :: os, t :: ts => (∃ n : Nat, (pc : Int) + o = (n : Int) ∧ Snd M d n Q t) ∧ SndL M d pc Q os ts
  | _, _ => False
def SndK (M : xMt) (d pc : Nat) (Q : xV → xMem → Prop) : List (Int × Int) → List (Int × xP) → Prop
  | [], [] => True
  | o :: os, t :: ts => (o.1 = t.1 ∧ ∃ n : Nat, (pc : Int) + o.2 = (n : Int) ∧ Snd M d n Q t.2) ∧ SndK M d pc Q os ts
  | _, _ => False
def x_ret (Q : xV → xMem → Prop) (_ : Nat × Nat) (_ st : List xV) (μ : xMem) : Prop := match st with
  | [.inl x] => Q (vi x) μ
  | _ => False
def x_zret (Q : xV → xMem → Prop) (_ : Nat × Nat) (_ st : List xV) (μ : xMem) : Prop := match st with
  | [.inl x] => (x = 0 ∨ x = 1) ∧ Q (vi x) μ
  | _ => False
def x_lret (Q : xV → xMem → Prop) (_ : Nat × Nat) (_ st : List xV) (μ : xMem) : Prop := match st with
  | [.inr (.inl x)] => Q (vl x) μ
  | _ => False
def x_aret (Q : xV → xMem → Prop) (_ : Nat × Nat) (_ st : List xV) (μ : xMem) : Prop := match st with
  | [.inr (.inr (.inl q))] => Q (vq q) μ
  | [.inr (.inr (.inr (.inl q)))] => Q (vo q) μ
  | _ => False
def x_vret (Q : xV → xMem → Prop) (_ : Nat × Nat) (_ st : List xV) (μ : xMem) : Prop := match st with
  | [] => Q vu μ
  | _ => False
section Sw
variable {M : xMt} {d pc : Nat} {Q : xV → xMem → Prop} {k dk : xP}
theorem xsw_out {x lo : Int} {b : Nat × Nat} {ls st : List xV} {μ : xMem} : ∀ (ts : List xP) (n : Int), xsw x lo dk n ts b ls st μ → (x < lo ∨ n + ts.length ≤ x) → dk b ls st μ
  | [], n, h, q => h (by rcases q with q | q; exact Or.inl q; exact Or.inr (by simpa using q))
  | t :: ts, n, h, q => xsw_out ts (n + 1) h.2 (by rcases q with q | q; exact Or.inl q; exact Or.inr (by simp at q; omega))
theorem xsw_in {x lo : Int} {b : Nat × Nat} {ls st : List xV} {μ : xMem} : ∀ (ts : List xP) (n : Int) (i : Nat) (t : xP), xsw x lo dk n ts b ls st μ → ts[i]? = some t → x = n + i → t b ls st μ
  | [], n, i, t, h, ht, q => by simp at ht
  | t :: ts, n, 0, t', h, ht, q => by
    simp at ht
    subst ht
    exact h.1 (by simpa using q)
  | t :: ts, n, i + 1, t', h, ht, q => xsw_in ts (n + 1) i t' h.2 (by simpa using ht) (by rw [q]; push_cast; omega)
theorem sndL_get : ∀ (os : List Int) (ts : List xP) (i : Nat), SndL M d pc Q os ts → i < ts.length → ∃ (o : Int) (t : xP) (n : Nat), os[i]? = some o ∧ ts[i]? = some t ∧ (pc : Int) + o = (n : Int) ∧ Snd M d n Q t
  | [], [], i, h, hi => by simp at hi
  | o :: os, [], i, h, hi => by simp at hi
  | [], t :: ts, i, h, hi => h.elim
  | o :: os, t :: ts, 0, h, hi => by
    obtain ⟨⟨n, h1, h2⟩, -⟩ := h
    exact ⟨o, t, n, rfl, rfl, h1, h2⟩
  | o :: os, t :: ts, i + 1, h, hi => by
    obtain ⟨o', t', n, h1, h2, h3, h4⟩ := sndL_get os ts i h.2 (by simpa using hi)
    exact ⟨o', t', n, by simpa using h1, by simpa using h2, h3, h4⟩
theorem s_tsw {dflt lo hi : Int} {offs : List Int} {len t : Nat} {ts : List xP} (hd : decode M.2.1 pc = .ok (.tableswitch dflt lo hi offs.toArray, len)) (hh : hi + 1 = lo + ts.length) (ht : (pc : Int) + dflt = (t : Int)) (hk : Snd M d t Q dk) (hts : SndL M d pc Q offs ts) : Snd M d pc Q (x_tsw lo ts dk) := fun b ls st μ h => by
  match st, h with
  | .inl x :: st, h =>
    have h : xsw x lo dk lo ts b ls st μ := h
    by_cases hx : x < lo ∨ hi < x
    · exact xR_go (hk b ls _ μ (xsw_out ts lo h (by omega))) (fun hst _ _ => xok_tail hst) (fun _ _ _ _ _ _ _ _ _ _ _ _ _ _ _ _ _ _ hC _ _ _ _ hst kk => lv_tableOut hC.1 hC.2.1 hd (by rw [toInt_i32 (xok_head hst)]; exact hx) ht kk)
    · obtain ⟨o, t', n, h1, h2, h3, h4⟩ := sndL_get offs ts (x - lo).toNat hts (by omega)
      exact xR_go (h4 b ls _ μ (xsw_in ts lo _ t' h h2 (by omega))) (fun hst _ _ => xok_tail hst) (fun _ _ _ _ _ _ _ _ _ _ _ _ _ _ _ _ _ _ hC _ _ _ _ hst kk => lv_tableIn hC.1 hC.2.1 hd (by rw [toInt_i32 (xok_head hst)]; omega) (by rw [toInt_i32 (xok_head hst)]; omega) (by rw [toInt_i32 (xok_head hst)]; simpa using h1) h3 kk)
theorem sndK_get {x dflt : Int} {t : Nat} {b : Nat × Nat} {ls st : List xV} {μ : xMem} (ht : (pc : Int) + dflt = (t : Int)) (hk : Snd M d t Q dk) : ∀ (os : List (Int × Int)) (ts : List (Int × xP)), SndK M d pc Q os ts → xlsw x dk ts b ls st μ → ∃ (n : Nat), (pc : Int) + Op.lookupswitch.offset os dflt x = (n : Int) ∧ xR M d b n ls st μ Q
  | [], [], h, q => ⟨t, ht, hk b ls st μ q⟩
  | o :: os, [], h, q => h.elim
  | [], t :: ts, h, q => h.elim
  | o :: os, (c, kc) :: ts, h, q => by
    obtain ⟨⟨h1, n, h2, h3⟩, h4⟩ := h
    obtain ⟨o1, o2⟩ := o
    have h1 : o1 = c := h1
    subst h1
    rw [Op.lookupswitch.offset_cons]
    by_cases hx : x = o1
    · rw [if_pos (by first | exact hx | exact hx.symm)]
      exact ⟨n, h2, h3 b ls st μ (q.1 hx)⟩
    · rw [if_neg (by first | exact hx | exact fun e => hx e.symm)]
      exact sndK_get ht hk os ts h4 (q.2 hx)
theorem s_lsw {dflt : Int} {ps : List (Int × Int)} {len t : Nat} {ts : List (Int × xP)} (hd : decode M.2.1 pc = .ok (.lookupswitch dflt ps.toArray, len)) (hp : (ps.zip (ps.drop 1)).all (fun (a, next) => a.1 < next.1) = true) (ht : (pc : Int) + dflt = (t : Int)) (hk : Snd M d t Q dk) (hts : SndK M d pc Q ps ts) : Snd M d pc Q (x_lsw ts dk) := fun b ls st μ h => by
  match st, h with
  | .inl x :: st, h =>
    have h : xlsw x dk ts b ls st μ := h
    obtain ⟨n, h1, h2⟩ := sndK_get ht hk ps ts hts h
    exact xR_go h2 (fun hst _ _ => xok_tail hst) (fun _ _ _ _ _ _ _ _ _ _ _ _ _ _ _ _ _ _ hC _ _ _ _ hst kk => lv_lookup hC.1 hC.2.1 hd (by simpa using hp) (by rw [toInt_i32 (xok_head hst)]) h1 kk)
/-- a method's end -/
theorem xR_end {r : xV} {b : Nat × Nat} {ls st : List xV} {μ : xMem} (hQ : Q r μ) (hr : (∀ v ∈ st, xVok (gN μ.1) v) → xVok (gN μ.1) r)
    (hs : ∀ (p : Program) (l : Launch) (e : Env) (s : State) (m : MethodId) (args : Array Value) (below : List Frame) (meth : Method) (c : Code) (Rm : Room) (w : xWd) (g : xGh) (H : Heap) (locs : List Loc) (cells slots : Nat) (lsM : Array Slot) (Qc : Array Value → State → Outcome → State → Prop), xCx M p s m args meth c →
      (∀ t : State, t.heap = H → s.WarmedH t.vm → Qc args s (.returned (cR w g r)) t) → (∀ q ∈ locs, w.1 ≤ q.base) → W p l e Rm s m args below meth c H locs cells slots (MQ below Qc args s cells slots (fun q => w.1 ≤ q)) (F0 m pc lsM (st.map (cV w g)))) : xR M d b pc ls st μ Q := by
  intro p l e s m args below meth c Rm w g0 n0 g H locs cells slots lsM hC a1 a2 a3 a4 a5 a6 hS hV hb hL hst
  refine W.widen (k := Rm.cells) (n := Rm.slots) (by omega) (by omega) ?_
  refine hs p l e s m args below meth c Rm w g H locs _ _ lsM _ hC (fun t ht hW => ?_) hV.2.2
  exact ⟨⟨r, μ, g, rfl, hQ, a5, a6, by rw [ht]; exact hS.warm hW, hr hst⟩, hV.F ht⟩
theorem s_ireturn (hd : decode M.2.1 pc = .ok (.ireturn, 1)) (hr : M.2.2.2 = some .int) : Snd M d pc Q (x_ret Q) := fun b ls st μ h => by
  match st, h with
  | [.inl x], h => exact xR_end (r := vi x) h (fun hst => xok_head hst) (fun _ _ _ _ _ _ _ _ _ _ _ _ _ _ _ _ _ _ hC hq hf => W.iret hC.1 hC.2.1 (hC.2.2.2.2.2.1.trans hr) hq hf hd hC.2.2.2.2.2.2.1)
theorem s_zreturn (hd : decode M.2.1 pc = .ok (.ireturn, 1)) (hr : M.2.2.2 = some .boolean) : Snd M d pc Q (x_zret Q) := fun b ls st μ h => by
  match st, h with
  | [.inl x], h => exact xR_end (r := vi x) h.2 (fun hst => xok_head hst) (fun _ _ _ _ _ _ _ _ _ _ _ _ _ _ _ _ _ _ hC hq hf => W.zret hC.1 hC.2.1 (hC.2.2.2.2.2.1.trans hr) (by rcases h.1 with rfl | rfl <;> decide) hq hf hd hC.2.2.2.2.2.2.1)
theorem s_lreturn (hd : decode M.2.1 pc = .ok (.lreturn, 1)) (hr : M.2.2.2 = some .long) : Snd M d pc Q (x_lret Q) := fun b ls st μ h => by
  match st, h with
  | [.inr (.inl x)], h => exact xR_end (r := vl x) h (fun hst => xok_head hst) (fun _ _ _ _ _ _ _ _ _ _ _ _ _ _ _ _ _ _ hC hq hf => W.lret hC.1 hC.2.1 (hC.2.2.2.2.2.1.trans hr) hq hf hd hC.2.2.2.2.2.2.1)
theorem s_areturn {rt : FieldType} (hd : decode M.2.1 pc = .ok (.areturn, 1)) (hr : M.2.2.2 = some rt) (hrt : (∃ n, rt = .object n) ∨ ∃ t, rt = .array t) : Snd M d pc Q (x_aret Q) := fun b ls st μ h => by
  match st, h with
  | [.inr (.inr (.inl none))], h => exact xR_end (r := vn) h (fun hst => xok_head hst) (fun _ _ _ _ _ _ _ _ _ _ _ _ _ _ _ _ _ _ hC hq hf => W.aret hC.1 hC.2.1 (hC.2.2.2.2.2.1.trans hr) hrt (Or.inl rfl) hq hf hd hC.2.2.2.2.2.2.1)
  | [.inr (.inr (.inl (some q)))], h => exact xR_end (r := vr q) h (fun hst => xok_head hst) (fun _ _ _ _ _ _ _ _ _ _ _ _ _ _ _ _ _ _ hC hq hf => W.aret hC.1 hC.2.1 (hC.2.2.2.2.2.1.trans hr) hrt (Or.inr ⟨_, rfl⟩) hq hf hd hC.2.2.2.2.2.2.1)
  | [.inr (.inr (.inr (.inl q)))], h => exact xR_end (r := vo q) h (fun hst => xok_head hst) (fun _ _ _ _ _ _ _ _ _ _ _ _ _ _ _ _ _ _ hC hq hf => W.aret hC.1 hC.2.1 (hC.2.2.2.2.2.1.trans hr) hrt (Or.inr ⟨_, rfl⟩) hq hf hd hC.2.2.2.2.2.2.1)
theorem s_return (hd : decode M.2.1 pc = .ok (.return_, 1)) (hr : M.2.2.2 = none) : Snd M d pc Q (x_vret Q) := fun b ls st μ h => by
  match st, h with
  | [], h => exact xR_end (r := vu) h (fun hst => trivial) (fun _ _ _ _ _ _ _ _ _ _ _ _ _ _ _ _ _ _ hC hq hf => W.vret hC.1 hC.2.1 (hC.2.2.2.2.2.1.trans hr) hq hf hd hC.2.2.2.2.2.2.1)
end Sw
