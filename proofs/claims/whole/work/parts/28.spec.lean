/-! ===== what the calls say: figures, clients, costs (A: 0 rate, 1 number, 2 means, 3 up, 4 hour, 5 wishes, 6 kind, 7 rule) ===== -/
/-- how many of n clients wish for f -/
def sAsked (wish : Nat → Int) (f : Nat) : Nat → Int
  | 0 => 0
  | n + 1 => sAsked wish f n + xbit (wish n) f
theorem sAsked_le (wish : Nat → Int) (f : Nat) : ∀ n, 0 ≤ sAsked wish f n ∧ sAsked wish f n ≤ n
  | 0 => ⟨by simp [sAsked], by simp [sAsked]⟩
  | n + 1 => by
    have ih := sAsked_le wish f n
    have h := xbit_01 (wish n) f
    simp only [sAsked]
    omega
theorem sAsked_congr {w w' : Nat → Int} {f : Nat} : ∀ {n : Nat}, (∀ c, c < n → w c = w' c) → sAsked w f n = sAsked w' f n
  | 0, _ => rfl
  | n + 1, h => by
    simp only [sAsked]
    rw [sAsked_congr (n := n) (fun c hc => h c (by omega)), h n (by omega)]
/-- how many of n clients come in hour h -/
def sComers (hour : Nat → Int) (h : Int) : Nat → Int
  | 0 => 0
  | n + 1 => sComers hour h n + (if hour n = h then 1 else 0)
theorem sComers_le (hour : Nat → Int) (h : Int) : ∀ n, 0 ≤ sComers hour h n ∧ sComers hour h n ≤ n
  | 0 => ⟨by simp [sComers], by simp [sComers]⟩
  | n + 1 => by
    have ih := sComers_le hour h n
    simp only [sComers]
    split <;> omega
theorem sComers_congr {w w' : Nat → Int} {h : Int} : ∀ {n : Nat}, (∀ c, c < n → w c = w' c) → sComers w h n = sComers w' h n
  | 0, _ => rfl
  | n + 1, hh => by
    simp only [sComers]
    rw [sComers_congr (n := n) (fun c hc => hh c (by omega)), hh n (by omega)]
def sNm (A : Nat → Nat → Int) (nc f : Nat) (h wi : Int) : Nat → Int := fun k =>
  if k = 0 then h else if k = 1 then A 1 f else if k = 2 then A 2 f else if k = 3 then wi else if k = 4 then sAsked (A 5) f nc else sComers (A 4) h nc
def sClamp (p : Nat) (v : Int) : Int := if v < (if p = 1 then -99 else 0) then (if p = 1 then -99 else 0) else if 99 < v then 99 else v
/-- what part p of the rule says of figure f in hour h -/
def sRule (E : Nat → Nat → List Int) (A : Nat → Nat → Int) (nc p f : Nat) (h wi : Int) : Int := sClamp p (ev (sNm A nc f h wi) (E (A 7 0).toNat p))
theorem sClamp_le (p : Nat) (v : Int) : (if p = 1 then -99 else 0) ≤ sClamp p v ∧ sClamp p v ≤ 99 := by
  unfold sClamp
  split <;> split <;> (try split) <;> omega
def sWish (A : Nat → Nat → Int) (c f : Nat) : Int := xbit (A 5 c) f
def sCost (E : Nat → Nat → List Int) (A : Nat → Nat → Int) (nc f : Nat) (h : Int) : Int :=
  if A 6 f = 4 then 0
  else if A 6 f = 1 then min (2 * (sRule E A nc 0 f h 0 * A 0 0)) 999
  else if A 6 f = 2 then sRule E A nc 0 f h 0 * A 0 0 / 2
  else if A 6 f = 3 then min (2 * (sRule E A nc 0 f h 0 * A 0 0) + A 1 f) 999
  else if A 6 f = 5 then min (sRule E A nc 0 f h 0 * A 0 0) 5
  else min (sRule E A nc 0 f h 0 * A 0 0) 999
def sApp (A : Nat → Nat → Int) (f : Nat) (h : Int) : Prop := xbit (A 3 f) h.toNat = 1 ∧
  (A 6 f = 1 → 2 ≤ h ∧ h ≤ 5) ∧ (A 6 f = 3 → (2 ≤ h ∧ h ≤ 5) ∨ h = A 1 f) ∧ (A 6 f = 4 → h % 3 = A 1 f % 3) ∧ (A 6 f = 5 → h % 2 = 0)
def sGlad (E : Nat → Nat → List Int) (A : Nat → Nat → Int) (nc c f : Nat) : Int :=
  let v := if sWish A c f = 1 then sRule E A nc 1 f (A 4 c) 1 else 0
  if A 6 f = 5 then 1
  else if A 6 f = 1 then v + 2
  else if A 6 f = 2 then v.tdiv 2
  else if A 6 f = 3 then 2 * (v + 2)
  else if A 6 f = 4 then v.tdiv 2 - 9
  else v
def sPay (E : Nat → Nat → List Int) (A : Nat → Nat → Int) (nc c f : Nat) : Int := sRule E A nc 2 f (A 4 c) (sWish A c f)
/-- the bounds of what a world holds; tc texts -/
def AI (nf nc tc : Nat) (A : Nat → Nat → Int) : Prop := nf ≤ 6 ∧ nc ≤ 5 ∧ (1 ≤ A 0 0 ∧ A 0 0 ≤ 9) ∧ (0 ≤ A 7 0 ∧ A 7 0 < tc) ∧
  (∀ f, f < nf → (0 ≤ A 1 f ∧ A 1 f ≤ 9) ∧ (0 ≤ A 2 f ∧ A 2 f ≤ 999) ∧ (0 ≤ A 3 f ∧ A 3 f ≤ 4095) ∧ (0 ≤ A 6 f ∧ A 6 f ≤ 5)) ∧
  ∀ c, c < nc → (0 ≤ A 4 c ∧ A 4 c ≤ 11) ∧ (0 ≤ A 5 c ∧ A 5 c ≤ 63)
theorem ev1_congr {N N' : Nat → Int} (h : ∀ k, k < 6 → N k = N' k) (s : Int) (st : List Int) : ev1 N s st = ev1 N' s st := by
  unfold ev1
  by_cases h6 : -6 ≤ s
  · rw [if_pos h6, if_pos h6]
    by_cases h0 : 0 ≤ s
    · rw [if_pos h0, if_pos h0]
    · rw [if_neg h0, if_neg h0, h _ (by omega)]
  · rw [if_neg h6, if_neg h6]
theorem evR_congr {N N' : Nat → Int} (h : ∀ k, k < 6 → N k = N' k) : ∀ (c : List Int) (st : List Int), evR N c st = evR N' c st
  | [], st => rfl
  | s :: c, st => by
    simp only [evR]
    rw [ev1_congr h, evR_congr h c]
theorem ev_congr {N N' : Nat → Int} (h : ∀ k, k < 6 → N k = N' k) (c : List Int) : ev N c = ev N' c := by
  unfold ev
  rw [evR_congr h]
/-- memory is the same but in some cells -/
def Sm (P : Nat → Prop) (σ σ' : Nat → Nat → Int) : Prop := ∀ k, ¬ P k → σ' k = σ k
theorem Sm.rf {P : Nat → Prop} {σ : Nat → Nat → Int} : Sm P σ σ := fun _ _ => rfl
theorem Sm.tr {P : Nat → Prop} {σ σ' σ'' : Nat → Nat → Int} (h : Sm P σ σ') (h' : Sm P σ' σ'') : Sm P σ σ'' := fun k hk => (h' k hk).trans (h k hk)
theorem Sm.mono {P P' : Nat → Prop} {σ σ' : Nat → Nat → Int} (h : Sm P σ σ') (hp : ∀ k, P k → P' k) : Sm P' σ σ' := fun k hk => h k (fun z => hk (hp k z))
theorem Sm.put {P : Nat → Prop} {σ σ' : Nat → Nat → Int} {a j : Nat} {v : Int} (h : Sm P σ σ') (ha : P a) : Sm P σ (upd2 σ' a j v) := fun k hk => by
  rw [upd2_row (fun e => hk (by rw [e]; exact ha))]
  exact h k hk
/-- the class's world at the cell w is A -/
def WV (σ : Nat → Nat → Int) (w nf nc : Nat) (A : Nat → Nat → Int) : Prop := σ w 1 = A 0 0 ∧ σ w 2 = A 7 0 ∧ σ w 3 = nf ∧ σ w 4 = nc ∧
  (∀ f, f < nf → σ (w + 1) f = A 6 f ∧ σ (w + 2) f = A 1 f ∧ σ (w + 3) f = A 2 f ∧ σ (w + 4) f = A 3 f) ∧ ∀ c, c < nc → σ (w + 5) c = A 4 c ∧ σ (w + 6) c = A 5 c
theorem WV.same {σ σ' : Nat → Nat → Int} {w nf nc : Nat} {A : Nat → Nat → Int} (h : WV σ w nf nc A) (hs : ∀ k, w ≤ k → k ≤ w + 6 → σ' k = σ k) : WV σ' w nf nc A := by
  unfold WV
  rw [hs w (by omega) (by omega), hs (w + 1) (by omega) (by omega), hs (w + 2) (by omega) (by omega), hs (w + 3) (by omega) (by omega), hs (w + 4) (by omega) (by omega), hs (w + 5) (by omega) (by omega), hs (w + 6) (by omega) (by omega)]
  exact h
/-- a text of the class: its steps -/
def TE (σ : Nat → Nat → Int) (t : Nat) (C : Nat → List Int) : Prop := σ (t + 2) 0 = (C 0).length ∧ σ (t + 2) 1 = ((C 0).length + (C 1).length : Nat) ∧ σ (t + 2) 2 = ((C 0).length + (C 1).length + (C 2).length : Nat) ∧
  (∀ (i : Nat) (v : Int), (C 0)[i]? = some v → σ (t + 1) i = v) ∧ (∀ (i : Nat) (v : Int), (C 1)[i]? = some v → σ (t + 1) ((C 0).length + i) = v) ∧ (∀ (i : Nat) (v : Int), (C 2)[i]? = some v → σ (t + 1) ((C 0).length + (C 1).length + i) = v) ∧
  (C 0).length + (C 1).length + (C 2).length ≤ 160 ∧ ∀ p, p < 3 → hgt (C p) 0 = some 1
theorem TE.same {σ σ' : Nat → Nat → Int} {t : Nat} {C : Nat → List Int} (h : TE σ t C) (h1 : σ' (t + 1) = σ (t + 1)) (h2 : σ' (t + 2) = σ (t + 2)) : TE σ' t C := by
  unfold TE
  rw [h1, h2]
  exact h
/-- the class's row of texts -/
def STX (Γ : xSh) (tx t0 : Nat) : Prop := gK Γ tx = some (.inr (.object "CrystalByTheMinute$Text", 6)) ∧ ∀ i, i < 6 → gF Γ tx i = some (t0 + 4 * i) ∧ ST Γ (t0 + 4 * i)
/-- what calls of a world may write: its names, the texts' stacks -/
def RW (w t0 : Nat) : Nat → Prop := fun k => k = w + 7 ∨ ∃ i, i < 6 ∧ k = t0 + 4 * i + 3
