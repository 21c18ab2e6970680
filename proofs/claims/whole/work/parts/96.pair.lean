/-! ===== class and model side by side ===== -/
theorem CVa.far {σ σ' : Nat → Nat → Int} {c : Nat} {S : xSt} (h : CVa σ c S) (hT : zT S ≤ 6) (hs : ∀ k, c ≤ k → k < c + 85 → σ' k = σ k) : CVa σ' c S := by
  obtain ⟨h1, ⟨h2, h3⟩, h4, h5, ⟨h6, h7⟩, h8⟩ := h
  refine ⟨?_, ⟨?_, fun i hi => ?_⟩, h4.same (fun k a b => hs k (by omega) (by omega)), fun i hi => (h5 i hi).same (hs _ (by omega) (by omega)) (hs _ (by omega) (by omega)), ⟨?_, fun hk => (h7 hk).same (fun k a b => hs k (by omega) (by omega))⟩, fun i hi => ⟨?_, ?_, fun j hj => ?_⟩⟩
  · rw [hs c (by omega) (by omega)]; exact h1
  · rw [hs _ (by omega) (by omega)]; exact h2
  · rw [hs _ (by omega) (by omega)]; exact h3 i hi
  · rw [hs c (by omega) (by omega)]; exact h6
  · rw [hs _ (by omega) (by omega)]; exact (h8 i hi).1
  · rw [hs _ (by omega) (by omega)]; exact (h8 i hi).2.1
  · rw [hs _ (by omega) (by omega)]; exact (h8 i hi).2.2 j hj
theorem MVa.far {σ σ' : Nat → Nat → Int} {m : Nat} {S : xSt} (h : MVa σ m S) (hs : ∀ k, m ≤ k → k ≤ m + 19 → σ' k = σ k) : MVa σ' m S := by
  obtain ⟨h1, h2, h3, h4, h5⟩ := h
  have c : ∀ o, o ≤ 19 → σ' (m + o) = σ (m + o) := fun o a => hs _ (by omega) (by omega)
  have f : ∀ j, σ' m j = σ m j := fun j => by rw [hs m (by omega) (by omega)]
  exact ⟨h1.same (fun j _ => f j) (fun k a b => hs k (by omega) (by omega)), h2.same (f 3) (c 1 (by omega)) (c 2 (by omega)), ⟨by rw [f 6]; exact h3.1, fun i hi => by rw [c 3 (by omega)]; exact h3.2 i hi⟩, h4.same (fun j _ _ => f j) (c 14 (by omega)) (c 15 (by omega)), fun i hi => (h5 i hi).same (fun o _ b => c o b)⟩
/-- both hold the state S -/
def PR (Γ : xSh) (σ : Nat → Nat → Int) (c m : Nat) (S : xSt) : Prop := c + 85 ≤ m ∧ CR Γ σ c S ∧ MR Γ σ m S
theorem CR.far {Γ : xSh} {σ σ' : Nat → Nat → Int} {c m : Nat} {S : xSt} (h : CR Γ σ c S) (hm : c + 85 ≤ m) (hs : Sm (RMd m) σ σ') : CR Γ σ' c S := ⟨h.1, h.2.1.far h.2.2.2.1.2 (fun k _ b => hs k (fun z => by have := z.1; omega)), h.2.2⟩
theorem MR.far {Γ : xSh} {σ σ' : Nat → Nat → Int} {c m : Nat} {S : xSt} (h : MR Γ σ m S) (hm : c + 85 ≤ m) (hs : Sm (RCl c) σ σ') : MR Γ σ' m S := ⟨h.1, h.2.1.far (fun k a _ => hs k (fun z => by have := z.2; omega)), h.2.2⟩
/-- a call that only the class has made: S' there, S here; then the model's -/
theorem PR.mid {Γ : xSh} {σ σ' : Nat → Nat → Int} {c m : Nat} {S : xSt} (h : PR Γ σ c m S) (hs : Sm (RCl c) σ σ') : MR Γ σ' m S := h.2.2.far h.1 hs
theorem PR.fin {Γ : xSh} {σ1 σ2 : Nat → Nat → Int} {c m : Nat} {S' : xSt} (hm : c + 85 ≤ m) (h : CR Γ σ1 c S') (hs : Sm (RMd m) σ1 σ2) (hR : MR Γ σ2 m S') : PR Γ σ2 c m S' := ⟨hm, h.far hm hs, hR⟩
