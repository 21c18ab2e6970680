/-! ===== reading a text: tokens, steps (pure) ===== -/
/-- a token: what it is (a sign's byte, 256 end, 257 broken, 258 a number, 260 .. a word), its worth, where it begins -/
abbrev Tk : Type := Int × Nat × Nat
abbrev pR : Type := Nat ⊕ (List Int × List Tk)
def tkC (L : List Tk) : Int := (L.headD (256, 0, 0)).1
def tkV (L : List Tk) : Nat := (L.headD (256, 0, 0)).2.1
def tkS (L : List Tk) : Nat := (L.headD (256, 0, 0)).2.2
def pOne (deep : Bool) (nx : Nat → List Tk → pR) (L : List Tk) : pR :=
  if tkC L = 258 then .inr ([(tkV L : Int)], L.tail)
  else if 266 ≤ tkC L ∧ tkC L < 272 then .inr ([265 - tkC L], L.tail)
  else if tkC L = 45 ∧ deep = true then (match nx 0 L.tail with
    | .inl f => .inl f
    | .inr q => .inr (q.1 ++ [-18], q.2))
  else if tkC L = 40 ∧ deep = true then (match nx 5 L.tail with
    | .inl f => .inl f
    | .inr q => if tkC q.2 = 41 then .inr (q.1, q.2.tail) else .inl (tkS q.2))
  else .inl (tkS L)
def pLoop (op : Int → Int) (p : List Tk → pR) : Nat → List Int → List Tk → pR
  | 0, C, L => .inr (C, L)
  | m + 1, C, L => if op (tkC L) = 0 then .inr (C, L) else (match p L.tail with
    | .inl f => .inl f
    | .inr q => pLoop op p m (C ++ q.1 ++ [op (tkC L)]) q.2)
def pThen (op : Int → Int) (p : List Tk → pR) (L : List Tk) : pR := match p L with
  | .inl f => .inl f
  | .inr q => pLoop op p 160 q.1 q.2
def pNot (deep : Bool) (nx : Nat → List Tk → pR) (p : List Tk → pR) (L : List Tk) : pR :=
  if tkC L = 265 then (if deep = true then (match nx 3 L.tail with
    | .inl f => .inl f
    | .inr q => .inr (q.1 ++ [-12], q.2)) else .inl (tkS L))
  else (match p L with
    | .inl f => .inl f
    | .inr q => if tkC q.2 = 60 ∨ tkC q.2 = 61 then (match p q.2.tail with
      | .inl f => .inl f
      | .inr q2 => .inr (q.1 ++ q2.1 ++ [if tkC q.2 = 60 then -13 else -14], q2.2)) else .inr q)
def opM (c : Int) : Int := if c = 42 then -17 else 0
def opP (c : Int) : Int := if c = 43 then -15 else if c = 45 then -16 else 0
def opA (c : Int) : Int := if c = 264 then -11 else 0
def opO (c : Int) : Int := if c = 263 then -10 else 0
def p1 (deep : Bool) (nx : Nat → List Tk → pR) : List Tk → pR := pThen opM (pOne deep nx)
def p2 (deep : Bool) (nx : Nat → List Tk → pR) : List Tk → pR := pThen opP (p1 deep nx)
def p3 (deep : Bool) (nx : Nat → List Tk → pR) : List Tk → pR := pNot deep nx (p2 deep nx)
def p4 (deep : Bool) (nx : Nat → List Tk → pR) : List Tk → pR := pThen opA (p3 deep nx)
def p5 (deep : Bool) (nx : Nat → List Tk → pR) : List Tk → pR := pThen opO (p4 deep nx)
def pLv (deep : Bool) (nx : Nat → List Tk → pR) (l : Nat) : List Tk → pR := if l = 0 then pOne deep nx else if l = 3 then p3 deep nx else p5 deep nx
/-- r more may be pending -/
def pF : Nat → Nat → List Tk → pR
  | 0 => pLv false (fun _ _ => .inl 0)
  | r + 1 => pLv true (pF r)
/-- what of one level the next ones see: whether there is one, its parsers -/
def pD : Nat → Bool × (Nat → List Tk → pR)
  | 0 => (false, fun _ _ => .inl 0)
  | r + 1 => (true, pF r)
theorem pF_D (r : Nat) : pF r = pLv (pD r).1 (pD r).2 := by
  cases r <;> rfl
def pPart (key : Int) (L : List Tk) : pR := if tkC L = key then (match pF 5 5 L.tail with
  | .inl f => .inl f
  | .inr q => if tkC q.2 = 59 then .inr (q.1, q.2.tail) else .inl (tkS q.2)) else .inl (tkS L)
def pText (L : List Tk) : Nat ⊕ (List Int × List Int × List Int) := match pPart 260 L with
  | .inl f => .inl f
  | .inr q0 => match pPart 261 q0.2 with
    | .inl f => .inl f
    | .inr q1 => match pPart 262 q1.2 with
      | .inl f => .inl f
      | .inr q2 => if tkC q2.2 = 256 then .inr (q0.1, q1.1, q2.1) else .inl (tkS q2.2)
/-- steps that put one number, with h places of the stack -/
def Gd (h : Nat) (C : List Int) : Prop := (∀ (N : Nat → Int) (st : List Int), evR N C st = ev N C :: st) ∧ (∀ k, k + h ≤ 32 → hgt C k = some (k + 1))
theorem evR_app (N : Nat → Int) : ∀ (C C' : List Int) (st : List Int), evR N (C ++ C') st = evR N C' (evR N C st)
  | [], _, _ => rfl
  | s :: C, C', st => by
    simp only [List.cons_append, evR]
    exact evR_app N C C' _
theorem hgt_app : ∀ (C C' : List Int) (k j : Nat), hgt C k = some j → hgt (C ++ C') k = hgt C' j
  | [], _, k, j, h => by
    simp only [hgt, Option.some.injEq] at h
    subst h
    rfl
  | s :: C, C', k, j, h => by
    simp only [List.cons_append, hgt] at h ⊢
    by_cases h6 : -6 ≤ s
    · simp only [if_pos h6] at h ⊢
      by_cases hk : k < 32
      · simp only [if_pos hk] at h ⊢
        exact hgt_app C C' _ _ h
      · simp only [if_neg hk] at h
        cases h
    · simp only [if_neg h6] at h ⊢
      by_cases hu : s = -12 ∨ s = -18
      · simp only [if_pos hu] at h ⊢
        by_cases hk : 1 ≤ k
        · simp only [if_pos hk] at h ⊢
          exact hgt_app C C' _ _ h
        · simp only [if_neg hk] at h
          cases h
      · simp only [if_neg hu] at h ⊢
        by_cases hk : 2 ≤ k
        · simp only [if_pos hk] at h ⊢
          exact hgt_app C C' _ _ h
        · simp only [if_neg hk] at h
          cases h
theorem Gd.mono {h h' : Nat} {C : List Int} (g : Gd h C) (hh : h ≤ h') : Gd h' C := ⟨g.1, fun k hk => g.2 k (by omega)⟩
theorem Gd.put {h : Nat} {s : Int} (h1 : 1 ≤ h) (hs : -6 ≤ s) : Gd h [s] := by
  refine ⟨fun N st => ?_, fun k hk => ?_⟩
  · simp [evR, ev, ev1, hs]
  · simp [hgt, hs]
    omega
theorem Gd.un {h : Nat} {C : List Int} {s : Int} (g : Gd h C) (hs : s = -12 ∨ s = -18) : Gd h (C ++ [s]) ∧ ∀ N, ev N (C ++ [s]) = eUn s (ev N C) := by
  have e : ∀ N st, evR N (C ++ [s]) st = eUn s (ev N C) :: st := fun N st => by
    rw [evR_app, g.1]
    have h6 : ¬ -6 ≤ s := by omega
    simp only [evR, ev1, if_neg h6, if_pos hs]
  have e2 : ∀ N, ev N (C ++ [s]) = eUn s (ev N C) := fun N => by
    unfold ev
    rw [e]
    rfl
  refine ⟨⟨fun N st => by rw [e, e2], fun k hk => ?_⟩, e2⟩
  rw [hgt_app C [s] k (k + 1) (g.2 k hk)]
  have h6 : ¬ -6 ≤ s := by omega
  simp only [hgt, if_neg h6, if_pos hs]
  rw [if_pos (by omega)]
theorem Gd.bin {h : Nat} {C C' : List Int} {s : Int} (g : Gd (h + 1) C) (g' : Gd h C') (hs : s < -6) (h1 : s ≠ -12) (h2 : s ≠ -18) : Gd (h + 1) (C ++ C' ++ [s]) ∧ ∀ N, ev N (C ++ C' ++ [s]) = eOp s (ev N C) (ev N C') := by
  have h6 : ¬ -6 ≤ s := by omega
  have hu : ¬ (s = -12 ∨ s = -18) := by omega
  have e : ∀ N st, evR N (C ++ C' ++ [s]) st = eOp s (ev N C) (ev N C') :: st := fun N st => by
    rw [evR_app, evR_app, g.1, g'.1]
    simp only [evR, ev1, if_neg h6, if_neg hu]
  have e2 : ∀ N, ev N (C ++ C' ++ [s]) = eOp s (ev N C) (ev N C') := fun N => by
    show (evR N (C ++ C' ++ [s]) []).headD 0 = _
    rw [e]
    rfl
  refine ⟨⟨fun N st => by rw [e, e2], fun k hk => ?_⟩, e2⟩
  rw [List.append_assoc, hgt_app C _ k (k + 1) (g.2 k hk), hgt_app C' [s] (k + 1) (k + 2) (g'.2 (k + 1) (by omega))]
  simp only [hgt, if_neg h6, if_neg hu]
  rw [if_pos (by omega)]
  rfl
/-- all that a parser puts out puts one number -/
def PG (h : Nat) (p : List Tk → pR) : Prop := ∀ L C L', p L = .inr (C, L') → Gd h C
def opOk (op : Int → Int) : Prop := ∀ c, op c = 0 ∨ (op c < -6 ∧ op c ≠ -12 ∧ op c ≠ -18)
theorem opM_ok : opOk opM := fun c => by unfold opM; split <;> omega
theorem opP_ok : opOk opP := fun c => by unfold opP; split <;> (try split) <;> omega
theorem opA_ok : opOk opA := fun c => by unfold opA; split <;> omega
theorem opO_ok : opOk opO := fun c => by unfold opO; split <;> omega
theorem pLoop_good {h : Nat} {op : Int → Int} {p : List Tk → pR} (hop : opOk op) (hp : PG h p) : ∀ (m : Nat) (C : List Int) (L : List Tk) (C' : List Int) (L' : List Tk), Gd (h + 1) C → pLoop op p m C L = .inr (C', L') → Gd (h + 1) C'
  | 0, C, L, C', L', g, e => by
    simp only [pLoop, Sum.inr.injEq, Prod.mk.injEq] at e
    rw [← e.1]
    exact g
  | m + 1, C, L, C', L', g, e => by
    simp only [pLoop] at e
    split at e
    · simp only [Sum.inr.injEq, Prod.mk.injEq] at e
      rw [← e.1]
      exact g
    · rename_i h0
      cases hq : p L.tail with
      | inl f => rw [hq] at e; cases e
      | inr q =>
        rw [hq] at e
        have ho := hop (tkC L)
        exact pLoop_good hop hp m _ _ _ _ (g.bin (hp _ _ _ hq) (by omega) (by omega) (by omega)).1 e
theorem pThen_good {h : Nat} {op : Int → Int} {p : List Tk → pR} (hop : opOk op) (hp : PG h p) : PG (h + 1) (pThen op p) := fun L C L' e => by
  unfold pThen at e
  cases hq : p L with
  | inl f => rw [hq] at e; cases e
  | inr q =>
    rw [hq] at e
    exact pLoop_good hop hp _ _ _ _ _ ((hp _ _ _ hq).mono (by omega)) e
theorem pOne_good {h : Nat} {deep : Bool} {nx : Nat → List Tk → pR} (h1 : 1 ≤ h) (hn : deep = true → PG h (nx 0) ∧ PG h (nx 5)) : PG h (pOne deep nx) := fun L C L' e => by
  unfold pOne at e
  split at e
  · simp only [Sum.inr.injEq, Prod.mk.injEq] at e
    rw [← e.1]
    exact Gd.put h1 (by omega)
  · split at e
    · simp only [Sum.inr.injEq, Prod.mk.injEq] at e
      rw [← e.1]
      exact Gd.put h1 (by omega)
    · split at e
      · rename_i hd
        cases hq : nx 0 L.tail with
        | inl f => rw [hq] at e; cases e
        | inr q =>
          rw [hq] at e
          simp only [Sum.inr.injEq, Prod.mk.injEq] at e
          rw [← e.1]
          exact (((hn hd.2).1 _ _ _ hq).un (Or.inr rfl)).1
      · split at e
        · rename_i hd
          cases hq : nx 5 L.tail with
          | inl f => rw [hq] at e; cases e
          | inr q =>
            rw [hq] at e
            dsimp only at e
            split at e
            · simp only [Sum.inr.injEq, Prod.mk.injEq] at e
              rw [← e.1]
              exact (hn hd.2).2 _ _ _ hq
            · cases e
        · cases e
theorem pNot_good {h : Nat} {deep : Bool} {nx : Nat → List Tk → pR} {p : List Tk → pR} (hn : deep = true → PG (h + 1) (nx 3)) (hp : PG h p) : PG (h + 1) (pNot deep nx p) := fun L C L' e => by
  unfold pNot at e
  split at e
  · split at e
    · rename_i hd
      cases hq : nx 3 L.tail with
      | inl f => rw [hq] at e; cases e
      | inr q =>
        rw [hq] at e
        simp only [Sum.inr.injEq, Prod.mk.injEq] at e
        rw [← e.1]
        exact ((hn hd _ _ _ hq).un (Or.inl rfl)).1
    · cases e
  · cases hq : p L with
    | inl f => rw [hq] at e; cases e
    | inr q =>
      rw [hq] at e
      dsimp only at e
      split at e
      · cases hq2 : p q.2.tail with
        | inl f => rw [hq2] at e; cases e
        | inr q2 =>
          rw [hq2] at e
          simp only [Sum.inr.injEq, Prod.mk.injEq] at e
          rw [← e.1]
          refine (((hp _ _ _ hq).mono (Nat.le_succ h)).bin (hp _ _ _ hq2) ?_ ?_ ?_).1 <;> split <;> omega
      · simp only [Sum.inr.injEq] at e
        have := hp _ _ _ hq
        rw [e] at this
        exact this.mono (Nat.le_succ h)
theorem PG.mono {h h' : Nat} {p : List Tk → pR} (g : PG h p) (hh : h ≤ h') : PG h' p := fun L C L' e => (g L C L' e).mono hh
theorem pLv_good {h : Nat} {deep : Bool} {nx : Nat → List Tk → pR} (h1 : 1 ≤ h) (hn : deep = true → PG h (nx 0) ∧ PG (h + 3) (nx 3) ∧ PG h (nx 5)) : PG h (pOne deep nx) ∧ PG (h + 1) (p1 deep nx) ∧ PG (h + 2) (p2 deep nx) ∧ PG (h + 3) (p3 deep nx) ∧ PG (h + 4) (p4 deep nx) ∧ PG (h + 5) (p5 deep nx) := by
  have a0 := pOne_good (deep := deep) (nx := nx) h1 (fun e => ⟨(hn e).1, (hn e).2.2⟩)
  have a1 := pThen_good opM_ok a0
  have a2 := pThen_good opP_ok a1
  have a3 := pNot_good (deep := deep) (nx := nx) (fun e => (hn e).2.1) a2
  have a4 := pThen_good opA_ok a3
  exact ⟨a0, a1, a2, a3, a4, pThen_good opO_ok a4⟩
theorem pF_good : ∀ r, PG (5 * r + 1) (pF r 0) ∧ PG (5 * r + 4) (pF r 3) ∧ PG (5 * r + 6) (pF r 5)
  | 0 => by
    have := pLv_good (h := 1) (deep := false) (nx := fun _ _ => .inl 0) (Nat.le_refl _) (fun e => by cases e)
    exact ⟨this.1, this.2.2.2.1, this.2.2.2.2.2⟩
  | r + 1 => by
    have ih := pF_good r
    have := pLv_good (h := 5 * (r + 1) + 1) (deep := true) (nx := pF r) (by omega) (fun _ => ⟨ih.1.mono (by omega), ih.2.1.mono (by omega), ih.2.2.mono (by omega)⟩)
    exact ⟨this.1, this.2.2.2.1, this.2.2.2.2.2⟩
/-- what the next ones are, at depth r -/
theorem pD_good (r : Nat) : PG (5 * r + 1) (pOne (pD r).1 (pD r).2) ∧ PG (5 * r + 2) (p1 (pD r).1 (pD r).2) ∧ PG (5 * r + 3) (p2 (pD r).1 (pD r).2) ∧ PG (5 * r + 4) (p3 (pD r).1 (pD r).2) ∧ PG (5 * r + 5) (p4 (pD r).1 (pD r).2) ∧ PG (5 * r + 6) (p5 (pD r).1 (pD r).2) := by
  cases r with
  | zero => exact pLv_good (h := 1) (deep := false) (nx := fun _ _ => .inl 0) (Nat.le_refl _) (fun e => by cases e)
  | succ r =>
    have ih := pF_good r
    exact pLv_good (h := 5 * (r + 1) + 1) (deep := true) (nx := pF r) (by omega) (fun _ => ⟨ih.1.mono (by omega), ih.2.1.mono (by omega), ih.2.2.mono (by omega)⟩)
theorem pPart_good {key : Int} {L : List Tk} {C : List Int} {L' : List Tk} (e : pPart key L = .inr (C, L')) : Gd 31 C := by
  unfold pPart at e
  split at e
  · cases hq : pF 5 5 L.tail with
    | inl f => rw [hq] at e; cases e
    | inr q =>
      rw [hq] at e
      dsimp only at e
      split at e
      · simp only [Sum.inr.injEq, Prod.mk.injEq] at e
        rw [← e.1]
        exact (pF_good 5).2.2 _ _ _ hq
      · cases e
  · cases e
theorem pText_good {L : List Tk} {q : List Int × List Int × List Int} (e : pText L = .inr q) : Gd 31 q.1 ∧ Gd 31 q.2.1 ∧ Gd 31 q.2.2 := by
  unfold pText at e
  cases h0 : pPart 260 L with
  | inl f => rw [h0] at e; cases e
  | inr q0 =>
    rw [h0] at e
    dsimp only at e
    cases h1 : pPart 261 q0.2 with
    | inl f => rw [h1] at e; cases e
    | inr q1 =>
      rw [h1] at e
      dsimp only at e
      cases h2 : pPart 262 q1.2 with
      | inl f => rw [h2] at e; cases e
      | inr q2 =>
        rw [h2] at e
        dsimp only at e
        split at e
        · simp only [Sum.inr.injEq] at e
          rw [← e]
          exact ⟨pPart_good h0, pPart_good h1, pPart_good h2⟩
        · cases e
/-! tokens of a row of bytes -/
/-- the words, letter by letter -/
def sWd (w : Nat) : List Int := (xByt.getD (w + 1) []).map Int32.toInt
/-- the bytes from s on are these -/
def sIs (B : Nat → Int) : Nat → List Int → Bool
  | _, [] => true
  | s, x :: l => decide (x = B s) && sIs B (s + 1) l
/-- the word from s to e is that one -/
def sWa (B : Nat → Int) (s e w : Nat) : Bool := decide ((sWd w).length = e - s) && sIs B s (sWd w)
def sWk (B : Nat → Int) (s e : Nat) : Nat → Int
  | 0 => 257
  | w + 1 => if sWa B s e w = true then 260 + w else sWk B s e w
/-- what k digits are worth -/
def sWn (B : Nat → Int) (s : Nat) : Nat → Nat
  | 0 => 0
  | k + 1 => 10 * sWn B s k + (B (s + k) - 48).toNat
/-- the token at s (of n bytes), and where it ends -/
def sTokAt (B : Nat → Int) (n s : Nat) : Tk × Nat :=
  if n ≤ s then ((256, 0, n), n)
  else if sW 1 (B s) = true then ((sWk B s (sRun 1 B (n - s) s) 12, 0, s), sRun 1 B (n - s) s)
  else if sW 2 (B s) = true then (((if sRun 2 B (n - s) s - s ≤ 4 then 258 else 257), sWn B s (sRun 2 B (n - s) s - s), s), sRun 2 B (n - s) s)
  else (((if (40 ≤ B s ∧ B s ≤ 43) ∨ B s = 45 ∨ (59 ≤ B s ∧ B s ≤ 61) then B s else 257), 0, s), s + 1)
/-- the token from a on -/
def sTok (B : Nat → Int) (n a : Nat) : Tk × Nat := sTokAt B n (sRun 0 B (n - a) a)
def sToks (B : Nat → Int) (n : Nat) : Nat → Nat → List Tk
  | 0, _ => [(256, 0, n)]
  | m + 1, a => (sTok B n a).1 :: (if (sTok B n a).1.1 = 256 ∨ (sTok B n a).1.1 = 257 then [] else sToks B n m (sTok B n a).2)
/-- all tokens of a text -/
def sTx (B : Nat → Int) (n : Nat) : List Tk := sToks B n (n + 1) 0
theorem sTokAt_end {B : Nat → Int} {n s : Nat} (h : ¬ n ≤ s) : s < (sTokAt B n s).2 ∧ (sTokAt B n s).2 ≤ n := by
  have hp : n - s = (n - s - 1) + 1 := by omega
  unfold sTokAt
  rw [if_neg h]
  by_cases h1 : sW 1 (B s) = true
  · rw [if_pos h1]
    dsimp only
    rw [hp]
    simp only [sRun]
    rw [if_pos h1]
    have := sRun_ge 1 B (n - s - 1) (s + 1)
    omega
  · rw [if_neg h1]
    by_cases h2 : sW 2 (B s) = true
    · rw [if_pos h2]
      dsimp only
      rw [hp]
      simp only [sRun]
      rw [if_pos h2]
      have := sRun_ge 2 B (n - s - 1) (s + 1)
      omega
    · rw [if_neg h2]
      dsimp only
      omega
theorem sTok_end {B : Nat → Int} {n a : Nat} (ha : a ≤ n) (h : (sTok B n a).1.1 ≠ 256) : a < (sTok B n a).2 ∧ (sTok B n a).2 ≤ n := by
  have h0 := sRun_ge 0 B (n - a) a
  unfold sTok at h ⊢
  by_cases hs : n ≤ sRun 0 B (n - a) a
  · exact absurd (by unfold sTokAt; rw [if_pos hs]) h
  · have := sTokAt_end (B := B) hs
    omega
theorem sToks_len {B : Nat → Int} {n : Nat} : ∀ (m a : Nat), a ≤ n → (sToks B n m a).length ≤ n - a + 1
  | 0, a, _ => by simp [sToks]
  | m + 1, a, ha => by
    simp only [sToks, List.length_cons]
    split
    · simp
    · rename_i h
      have h1 := sTok_end (B := B) ha (fun e => h (Or.inl e))
      have h2 := sToks_len (B := B) m (sTok B n a).2 h1.2
      omega
