/-! ===== the state that the calls tell of; the class's picture of it ===== -/
noncomputable def cif {α : Type} (P : Prop) (a b : α) : α := @ite α P (Classical.propDecidable P) a b
theorem cif_pos {α : Type} {P : Prop} {a b : α} (h : P) : cif P a b = a := @if_pos P (Classical.propDecidable P) h α a b
theorem cif_neg {α : Type} {P : Prop} {a b : α} (h : ¬ P) : cif P a b = b := @if_neg P (Classical.propDecidable P) h α a b
theorem cif_congr {α : Type} {P P' : Prop} {a b a' b' : α} (h : P ↔ P') (ha : P → a = a') (hb : ¬ P → b = b') : cif P a b = cif P' a' b' := by
  by_cases z : P
  · rw [cif_pos z, cif_pos (h.mp z), ha z]
  · rw [cif_neg z, cif_neg (fun y => z (h.mpr y)), hb z]
/-- figures, clients, what they are; texts (size, bytes); the tape; what is kept; the sheets (sort, size, cells) -/
abbrev xSt : Type := (Nat × Nat × (Nat → Nat → Int)) × (Nat × (Nat → Nat × (Nat → Int))) × (Nat × (Nat → Int)) × (Bool × Nat × Nat × (Nat → Nat → Int)) × (Nat → Int × Nat × (Nat → Int))
def zF (S : xSt) : Nat := S.1.1
def zC (S : xSt) : Nat := S.1.2.1
def zA (S : xSt) : Nat → Nat → Int := S.1.2.2
def zT (S : xSt) : Nat := S.2.1.1
def zX (S : xSt) : Nat → Nat × (Nat → Int) := S.2.1.2
def zN (S : xSt) : Nat := S.2.2.1.1
def zB (S : xSt) : Nat → Int := S.2.2.1.2
def zK (S : xSt) : Bool × Nat × Nat × (Nat → Nat → Int) := S.2.2.2.1
def zH (S : xSt) : Nat → Int × Nat × (Nat → Int) := S.2.2.2.2
/-- the world, the tape, the kept, the sheets become others -/
def uW (S : xSt) (nf nc : Nat) (A : Nat → Nat → Int) : xSt := ((nf, nc, A), S.2)
def uH (S : xSt) (i : Nat) (h : Int × Nat × (Nat → Int)) : xSt := (S.1, S.2.1, S.2.2.1, S.2.2.2.1, fun k => if k = i then h else zH S k)
/-- steps of text i, part p -/
def tE (X : Nat → Nat × (Nat → Int)) (i p : Nat) : List Int := match pText (sTx (X i).2 (X i).1) with
  | .inl _ => []
  | .inr q => sPt q p
def zE (S : xSt) : Nat → Nat → List Int := tE (zX S)
def SOK (S : xSt) : Prop := AI (zF S) (zC S) (zT S) (zA S) ∧ (1 ≤ zT S ∧ zT S ≤ 6) ∧ zN S ≤ 160 ∧ (∀ i, i < zN S → 0 ≤ zB S i ∧ zB S i ≤ 255) ∧
  (∀ i, i < zT S → (zX S i).1 ≤ 160 ∧ (∀ j, j < (zX S i).1 → 0 ≤ (zX S i).2 j ∧ (zX S i).2 j ≤ 255) ∧ ∃ q, pText (sTx (zX S i).2 (zX S i).1) = .inr q) ∧
  ((zK S).1 = true → AI (zK S).2.1 (zK S).2.2.1 (zT S) (zK S).2.2.2 ∧ (zK S).2.1 ≤ zF S ∧ ∀ f, f < (zK S).2.1 → (zK S).2.2.2 6 f = zA S 6 f) ∧
  ∀ i, i < 4 → (-1 ≤ (zH S i).1 ∧ (zH S i).1 ≤ 2) ∧ (zH S i).2.1 ≤ 40
/-- the class's objects -/
def CS (Γ : xSh) (c : Nat) : Prop := SC Γ c ∧ STX Γ (c + 1) (c + 29) ∧ SP Γ (c + 2) ∧ SK Γ (c + 4) ∧ SKr Γ (c + 4) ∧ (gK Γ (c + 28) = some (.inr (.object "CrystalByTheMinute$Sheet", 4)) ∧ ∀ i, i < 4 → gF Γ (c + 28) i = some (c + 53 + 2 * i) ∧ SS Γ (c + 53 + 2 * i)) ∧ SW Γ (c + 61) (c + 1) ∧ SW Γ (c + 69) (c + 1) ∧ SW Γ (c + 77) (c + 1)
/-- what they hold -/
def CVa (σ : Nat → Nat → Int) (c : Nat) (S : xSt) : Prop := σ c 1 = zT S ∧ (σ (c + 2) 1 = zN S ∧ ∀ i, i < zN S → σ (c + 3) i = zB S i) ∧ WV σ (c + 61) (zF S) (zC S) (zA S) ∧ (∀ i, i < zT S → TE σ (c + 29 + 4 * i) (zE S i)) ∧
  (σ c 6 = (if (zK S).1 = true then 1 else 0) ∧ ((zK S).1 = true → WV σ (c + 77) (zK S).2.1 (zK S).2.2.1 (zK S).2.2.2)) ∧
  ∀ i, i < 4 → σ (c + 53 + 2 * i) 0 = (zH S i).1 ∧ σ (c + 53 + 2 * i) 1 = ((zH S i).2.1 : Int) ∧ ∀ j, j < (zH S i).2.1 → σ (c + 54 + 2 * i) j = (zH S i).2.2 j
def CR (Γ : xSh) (σ : Nat → Nat → Int) (c : Nat) (S : xSt) : Prop := CS Γ c ∧ CVa σ c S ∧ SOK S
/-- the class's cells -/
def RCl (c : Nat) : Nat → Prop := fun q => c ≤ q ∧ q < c + 85
/-- those that say nothing -/
def Scr (c : Nat) : Nat → Prop := fun q => (c + 4 ≤ q ∧ q ≤ c + 27) ∨ (c + 68 ≤ q ∧ q ≤ c + 76) ∨ q = c + 84 ∨ ∃ i, i < 6 ∧ q = c + 29 + 4 * i + 3
theorem Scr_Cl {c q : Nat} (h : Scr c q) : RCl c q := by
  unfold RCl
  rcases h with h | h | h | ⟨i, h1, h2⟩ <;> omega
theorem CVa.scr {σ σ' : Nat → Nat → Int} {c : Nat} {S : xSt} (h : CVa σ c S) (hT : zT S ≤ 6) (hs : Sm (Scr c) σ σ') : CVa σ' c S := by
  obtain ⟨h1, ⟨h2, h3⟩, h4, h5, ⟨h6, h7⟩, h8⟩ := h
  have ne : ∀ q, (q = c ∨ q = c + 2 ∨ q = c + 3 ∨ (c + 53 ≤ q ∧ q ≤ c + 67) ∨ (c + 77 ≤ q ∧ q ≤ c + 83)) → ¬ Scr c q := fun q hq z => by
    rcases z with z | z | z | ⟨i, z1, z2⟩ <;> omega
  have nt : ∀ i, i < 6 → (¬ Scr c (c + 29 + 4 * i + 1)) ∧ ¬ Scr c (c + 29 + 4 * i + 2) := fun i hi => by
    refine ⟨fun z => ?_, fun z => ?_⟩ <;> rcases z with z | z | z | ⟨i, z1, z2⟩ <;> omega
  refine ⟨?_, ⟨?_, fun i hi => ?_⟩, h4.same (fun k a b => hs k (ne k (by omega))), fun i hi => (h5 i hi).same (hs _ (nt i (by omega)).1) (hs _ (nt i (by omega)).2), ⟨?_, fun hk => (h7 hk).same (fun k a b => hs k (ne k (by omega)))⟩, fun i hi => ⟨?_, ?_, fun j hj => ?_⟩⟩
  · rw [hs c (ne c (by omega))]; exact h1
  · rw [hs _ (ne (c + 2) (by omega))]; exact h2
  · rw [hs _ (ne (c + 3) (by omega))]; exact h3 i hi
  · rw [hs c (ne c (by omega))]; exact h6
  · rw [hs _ (ne _ (by omega))]; exact (h8 i hi).1
  · rw [hs _ (ne _ (by omega))]; exact (h8 i hi).2.1
  · rw [hs _ (ne _ (by omega))]; exact (h8 i hi).2.2 j hj
theorem CR.scr {Γ : xSh} {σ σ' : Nat → Nat → Int} {c : Nat} {S : xSt} (h : CR Γ σ c S) (hs : Sm (Scr c) σ σ') : CR Γ σ' c S := ⟨h.1, h.2.1.scr h.2.2.2.1.2 hs, h.2.2⟩
theorem CR.wok {Γ : xSh} {σ : Nat → Nat → Int} {c : Nat} {S : xSt} (h : CR Γ σ c S) : WOK Γ σ (c + 61) (c + 1) (c + 29) (zF S) (zC S) (zT S) (zA S) (zE S) :=
  ⟨h.1.2.2.2.2.2.2.1, h.1.2.1, by omega, h.2.1.2.2.1, h.2.2.1, h.2.2.2.1.2, h.2.1.2.2.2.1⟩
theorem RW_Scr {c q : Nat} (h : RW (c + 61) (c + 29) q) : Scr c q := by
  rcases h with h | ⟨i, h1, h2⟩
  · exact Or.inr (Or.inl (by omega))
  · exact Or.inr (Or.inr (Or.inr ⟨i, h1, h2⟩))
theorem RW_Scr2 {c q : Nat} (h : RW (c + 69) (c + 29) q) : Scr c q := by
  rcases h with h | ⟨i, h1, h2⟩
  · exact Or.inr (Or.inl (by omega))
  · exact Or.inr (Or.inr (Or.inr ⟨i, h1, h2⟩))
theorem RK_Scr {c q : Nat} (h : RK (c + 4) q) : Scr c q := Or.inl ⟨by have := h.1; omega, by have := h.2; omega⟩
theorem RLk_Scr {c q : Nat} (h : RLk (c + 4) (c + 61) (c + 29) q) : Scr c q := h.elim RK_Scr RW_Scr
theorem RLk_Scr2 {c q : Nat} (h : RLk (c + 4) (c + 69) (c + 29) q) : Scr c q := h.elim RK_Scr RW_Scr2
theorem RV_Scr2 {c q : Nat} (h : RV (c + 69) q) : Scr c q := Or.inr (Or.inl (by have := h.1; have := h.2; omega))
/-- the state's world changes, and nothing else -/
theorem CVa.world {σ σ' : Nat → Nat → Int} {c nf nc : Nat} {S : xSt} {A : Nat → Nat → Int} (h : CVa σ c S) (hs : Sm (RV (c + 61)) σ σ') (hT : zT S ≤ 6) (hV : WV σ' (c + 61) nf nc A) : CVa σ' c (uW S nf nc A) := by
  obtain ⟨h1, ⟨h2, h3⟩, h4, h5, ⟨h6, h7⟩, h8⟩ := h
  have ne : ∀ q, (q < c + 61 ∨ c + 67 < q) → σ' q = σ q := fun q hq => hs q (fun z => by have := z.1; have := z.2; omega)
  refine ⟨?_, ⟨?_, fun i hi => ?_⟩, hV, fun i hi => (h5 i hi).same (ne _ ?_) (ne _ ?_), ⟨?_, fun hk => (h7 hk).same (fun k a b => ne k (by omega))⟩, fun i hi => ⟨?_, ?_, fun j hj => ?_⟩⟩
  · rw [ne c (by omega)]; exact h1
  · rw [ne _ (by omega)]; exact h2
  · rw [ne _ (by omega)]; exact h3 i hi
  · have : i < zT S := hi
    omega
  · have : i < zT S := hi
    omega
  · rw [ne c (by omega)]; exact h6
  · rw [ne _ (by omega)]; exact (h8 i hi).1
  · rw [ne _ (by omega)]; exact (h8 i hi).2.1
  · rw [ne _ (by omega)]; exact (h8 i hi).2.2 j hj
theorem RV_Cl {c q : Nat} (h : RV (c + 61) q) : RCl c q := ⟨by have := h.1; omega, by have := h.2; omega⟩
theorem SOK.world {S : xSt} {nf nc : Nat} {A : Nat → Nat → Int} (h : SOK S) (hA : AI nf nc (zT S) A) (hk : (zK S).1 = true → (zK S).2.1 ≤ nf ∧ ∀ f, f < (zK S).2.1 → (zK S).2.2.2 6 f = A 6 f) : SOK (uW S nf nc A) := by
  obtain ⟨h1, h2, h3, h4, h5, h6, h7⟩ := h
  exact ⟨hA, h2, h3, h4, h5, fun z => ⟨(h6 z).1, hk z⟩, h7⟩
