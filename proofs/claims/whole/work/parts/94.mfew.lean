/-! ===== fewest figures: all sets tried, or the sets of the showings ===== -/
def lx (a b : Nat) : Prop := sBits a < sBits b ∨ (sBits a = sBits b ∧ a ≤ b)
theorem lx_rf {a : Nat} : lx a a := Or.inr ⟨rfl, Nat.le_refl _⟩
theorem lx_tr {a b c : Nat} (h : lx a b) (h' : lx b c) : lx a c := by unfold lx at *; omega
theorem lx_as {a b : Nat} (h : lx a b) (h' : lx b a) : a = b := by unfold lx at *; omega
theorem bet_lx {a u : Nat} : lx (sBet a u) a ∧ lx (sBet a u) u ∧ (sBet a u = a ∨ sBet a u = u) := by
  unfold sBet
  by_cases z : sBits u < sBits a ∨ (sBits u = sBits a ∧ u < a)
  · rw [if_pos z]; exact ⟨by unfold lx; omega, lx_rf, Or.inr rfl⟩
  · rw [if_neg z]; exact ⟨lx_rf, by unfold lx; omega, Or.inl rfl⟩
theorem fold_few {G : Nat → Nat → Int} {best : Int} : ∀ (L : List (List Int)) (acc : Nat), (L.foldl (fStep G best 0 0 0) acc = acc ∨ ∃ s ∈ L, best ≤ sV G 0 s ∧ L.foldl (fStep G best 0 0 0) acc = sUse 0 s) ∧ lx (L.foldl (fStep G best 0 0 0) acc) acc ∧ ∀ s ∈ L, best ≤ sV G 0 s → lx (L.foldl (fStep G best 0 0 0) acc) (sUse 0 s)
  | [], acc => ⟨Or.inl rfl, lx_rf, fun s hs => by cases hs⟩
  | t :: L, acc => by
    rw [List.foldl_cons]
    by_cases z : best ≤ sV G 0 t
    · have e : fStep G best 0 0 0 acc t = sBet acc (sUse 0 t) := by unfold fStep; rw [if_pos (by omega)]
      rw [e]
      obtain ⟨b1, b2, b3⟩ := bet_lx (a := acc) (u := sUse 0 t)
      obtain ⟨h1, h2, h3⟩ := fold_few (G := G) (best := best) L (sBet acc (sUse 0 t))
      refine ⟨?_, lx_tr h2 b1, fun s hs hz => ?_⟩
      · rcases h1 with h1 | ⟨s, hs, hz, h1⟩
        · rw [h1]
          rcases b3 with b3 | b3
          · exact Or.inl b3
          · exact Or.inr ⟨t, List.mem_cons_self, z, b3⟩
        · exact Or.inr ⟨s, List.mem_cons_of_mem _ hs, hz, h1⟩
      · rcases List.mem_cons.mp hs with rfl | hs
        · exact lx_tr h2 b2
        · exact h3 s hs hz
    · have e : fStep G best 0 0 0 acc t = acc := by unfold fStep; rw [if_neg (by omega)]
      rw [e]
      obtain ⟨h1, h2, h3⟩ := fold_few (G := G) (best := best) L acc
      refine ⟨?_, h2, fun s hs hz => ?_⟩
      · rcases h1 with h1 | ⟨s, hs, hz, h1⟩
        · exact Or.inl h1
        · exact Or.inr ⟨s, List.mem_cons_of_mem _ hs, hz, h1⟩
      · rcases List.mem_cons.mp hs with rfl | hs
        · exact absurd hz z
        · exact h3 s hs hz
theorem fold_max {G : Nat → Nat → Int} : ∀ (L : List (List Int)) (a : Int × List Int), ∀ s ∈ L, sV G 0 s ≤ (L.foldl (sStep G 0 [] 0) a).1
  | t :: L, a, s, hs => by
    rw [List.foldl_cons]
    rcases List.mem_cons.mp hs with rfl | hs
    · refine Int.le_trans ?_ (fold_ge L _)
      unfold sStep
      split
      · dsimp only; omega
      · omega
    · exact fold_max L _ s hs
/-- a showing has only figures of u -/
def Sub (s : List Int) (u : Nat) : Prop := ∀ x ∈ s, 0 ≤ x → xbit (u : Int) x.toNat = 1
theorem all_sub {ct : Nat → Nat → Int} {nf u : Nat} : ∀ (k c : Nat) (left : Nat → Int) (s : List Int), s ∈ sAll (ctm u ct) nf k c left ↔ s ∈ sAll ct nf k c left ∧ Sub s u
  | 0, c, left, s => by
    simp only [sAll, List.mem_singleton]
    exact ⟨fun h => ⟨h, fun x hx => by rw [h] at hx; cases hx⟩, fun h => h.1⟩
  | k + 1, c, left, s => by
    simp only [sAll, List.mem_append, List.mem_map, List.mem_flatMap, List.mem_range]
    constructor
    · rintro (⟨t, ht, rfl⟩ | ⟨f, hf, hs⟩)
      · have := (all_sub k (c + 1) left t).mp ht
        refine ⟨Or.inl ⟨t, this.1, rfl⟩, fun x hx h0 => ?_⟩
        rcases List.mem_cons.mp hx with rfl | hx
        · omega
        · exact this.2 x hx h0
      · split at hs
        · rename_i hcan
          obtain ⟨t, ht, rfl⟩ := List.mem_map.mp hs
          have hb : xbit (u : Int) f = 1 := by
            have h1 := hcan.1
            unfold ctm at h1
            by_cases z : xbit (u : Int) f = 1
            · exact z
            · rw [if_neg z] at h1; exact absurd rfl h1
          have ec : ctm u ct c f = ct c f := by unfold ctm; rw [if_pos hb]
          rw [ec] at hcan ht
          have := (all_sub k (c + 1) _ t).mp ht
          refine ⟨Or.inr ⟨f, hf, ?_⟩, fun x hx h0 => ?_⟩
          · rw [if_pos hcan]; exact List.mem_map.mpr ⟨t, this.1, rfl⟩
          · rcases List.mem_cons.mp hx with rfl | hx
            · rw [Int.toNat_natCast]; exact hb
            · exact this.2 x hx h0
        · cases hs
    · rintro ⟨⟨t, ht, rfl⟩ | ⟨f, hf, hs⟩, hsub⟩
      · exact Or.inl ⟨t, (all_sub k (c + 1) left t).mpr ⟨ht, fun x hx h0 => hsub x (List.mem_cons_of_mem _ hx) h0⟩, rfl⟩
      · split at hs
        · rename_i hcan
          obtain ⟨t, ht, rfl⟩ := List.mem_map.mp hs
          have hb : xbit (u : Int) f = 1 := by
            have := hsub (f : Int) List.mem_cons_self (by omega)
            rw [Int.toNat_natCast] at this
            exact this
          have ec : ctm u ct c f = ct c f := by unfold ctm; rw [if_pos hb]
          refine Or.inr ⟨f, hf, ?_⟩
          rw [ec, if_pos hcan]
          exact List.mem_map.mpr ⟨t, (all_sub k (c + 1) _ t).mpr ⟨ht, fun x hx h0 => hsub x (List.mem_cons_of_mem _ hx) h0⟩, rfl⟩
        · cases hs
theorem xbit_tb {u f : Nat} : xbit (u : Int) f = 1 ↔ u.testBit f = true := by
  unfold xbit
  rw [Nat.testBit_eq_decide_div_mod_eq, decide_eq_true_iff]
  have e : ((u : Int) / 2 ^ f % 2) = ((u / 2 ^ f % 2 : Nat) : Int) := by
    rw [Int.natCast_emod, Int.natCast_ediv, Int.natCast_pow]
    rfl
  rw [e]
  omega
theorem use_tb {f : Nat} : ∀ (s : List Int) (u : Nat), (sUse u s).testBit f = true ↔ u.testBit f = true ∨ (f : Int) ∈ s
  | [], u => by simp [sUse]
  | x :: s, u => by
    simp only [sUse]
    rw [use_tb s, List.mem_cons]
    by_cases z : x < 0
    · rw [if_pos z]
      constructor
      · rintro (h | h)
        · exact Or.inl h
        · exact Or.inr (Or.inr h)
      · rintro (h | h | h)
        · exact Or.inl h
        · omega
        · exact Or.inr h
    · rw [if_neg z, Nat.testBit_or, Nat.testBit_two_pow, Bool.or_eq_true, decide_eq_true_iff]
      constructor
      · rintro ((h | h) | h)
        · exact Or.inl h
        · exact Or.inr (Or.inl (by omega))
        · exact Or.inr (Or.inr h)
      · rintro (h | h | h)
        · exact Or.inl (Or.inl h)
        · exact Or.inl (Or.inr (by omega))
        · exact Or.inr h
theorem use_lt {n : Nat} : ∀ (s : List Int) (u : Nat), u < 2 ^ n → (∀ x ∈ s, x < n) → sUse u s < 2 ^ n
  | [], u, h, _ => h
  | x :: s, u, h, hs => by
    simp only [sUse]
    refine use_lt s _ ?_ (fun y hy => hs y (List.mem_cons_of_mem _ hy))
    by_cases z : x < 0
    · rw [if_pos z]; exact h
    · rw [if_neg z]
      have hx := hs x List.mem_cons_self
      exact Nat.or_lt_two_pow h (Nat.pow_lt_pow_right (by decide) (by omega))
theorem sub_all : ∀ a b : Fin 64, a.val &&& b.val = a.val → sBits a.val < sBits b.val ∨ (sBits a.val = sBits b.val ∧ a.val ≤ b.val) := by decide +kernel
theorem lx_sub {a b : Nat} (ha : a < 64) (hb : b < 64) (h : ∀ f, a.testBit f = true → b.testBit f = true) : lx a b := by
  refine sub_all ⟨a, ha⟩ ⟨b, hb⟩ ?_
  refine Nat.eq_of_testBit_eq (fun f => ?_)
  rw [Nat.testBit_and]
  have := h f
  cases h1 : a.testBit f
  · rfl
  · rw [this h1]; rfl
theorem all_63 : ∀ a : Fin 64, sBits a.val < sBits 63 ∨ (sBits a.val = sBits 63 ∧ a.val ≤ 63) := by decide +kernel
section Few
variable {ct G : Nat → Nat → Int} {nf nc : Nat} {me : Nat → Int}
def fP (ct G : Nat → Nat → Int) (nf nc : Nat) (me : Nat → Int) (u : Nat) : Prop := (sBest (ctm u ct) G nf nc me).1 = (sBest ct G nf nc me).1
theorem mem_lt {s : List Int} (h : s ∈ sAll ct nf nc 0 me) : ∀ x ∈ s, x < nf := fun x hx => by
  obtain ⟨h1, h2⟩ := sAll_ok _ _ _ _ h
  obtain ⟨i, hi, e⟩ := List.getElem_of_mem hx
  have := h2 i (by omega)
  rw [List.getD_eq_getElem?_getD, List.getElem?_eq_getElem hi, Option.getD_some, e] at this
  omega
theorem good_P {s : List Int} (hs : s ∈ sAll ct nf nc 0 me) (hz : (sBest ct G nf nc me).1 ≤ sV G 0 s) : fP ct G nf nc me (sUse 0 s) := by
  have h1 : s ∈ sAll (ctm (sUse 0 s) ct) nf nc 0 me := (all_sub _ _ _ _).mpr ⟨hs, fun x hx h0 => xbit_tb.mpr ((use_tb s 0).mpr (Or.inr (by rw [Int.toNat_of_nonneg h0]; exact hx)))⟩
  have h2 : sV G 0 s ≤ (sBest (ctm (sUse 0 s) ct) G nf nc me).1 := fold_max _ _ s h1
  have h3 := sBest_in (ct := ctm (sUse 0 s) ct) (G := G) (nf := nf) (nc := nc) (me := me)
  have h4 : sV G 0 (sBest (ctm (sUse 0 s) ct) G nf nc me).2 ≤ (sBest ct G nf nc me).1 := fold_max _ _ _ ((all_sub _ _ _ _).mp h3.1).1
  unfold fP
  omega
theorem few_is {F : Nat} (hnf : nf ≤ 6) (hF : F < 2 ^ nf) (hP : fP ct G nf nc me F) (hm : ∀ u, u < 2 ^ nf → fP ct G nf nc me u → lx F u) : F = sFew ct G (sBest ct G nf nc me).1 nf nc me := by
  have p64 : 2 ^ nf ≤ 64 := Nat.pow_le_pow_right (n := 2) (by decide) hnf
  obtain ⟨h1, h2, h3⟩ := fold_few (G := G) (best := (sBest ct G nf nc me).1) (sAll ct nf nc 0 me) 63
  have ul : ∀ s ∈ sAll ct nf nc 0 me, sUse 0 s < 2 ^ nf := fun s hs => use_lt s 0 (Nat.pow_pos (by decide)) (mem_lt hs)
  have a : lx (sFew ct G (sBest ct G nf nc me).1 nf nc me) F := by
    have hb := sBest_in (ct := ctm F ct) (G := G) (nf := nf) (nc := nc) (me := me)
    obtain ⟨hb1, hb2⟩ := (all_sub _ _ _ _).mp hb.1
    have hv : (sBest ct G nf nc me).1 ≤ sV G 0 (sBest (ctm F ct) G nf nc me).2 := by
      have := hb.2
      unfold fP at hP
      omega
    refine lx_tr (h3 _ hb1 hv) (lx_sub (by have := ul _ hb1; omega) (by omega) (fun f hf => ?_))
    rcases (use_tb _ 0).mp hf with h | h
    · simp at h
    · have := hb2 _ h (by omega)
      rw [Int.toNat_natCast] at this
      exact xbit_tb.mp this
  have b : lx F (sFew ct G (sBest ct G nf nc me).1 nf nc me) := by
    rcases h1 with h1 | ⟨s, hs, hz, h1⟩
    · have e : sFew ct G (sBest ct G nf nc me).1 nf nc me = 63 := h1
      rw [e]
      exact all_63 ⟨F, by omega⟩
    · have e : sFew ct G (sBest ct G nf nc me).1 nf nc me = sUse 0 s := h1
      rw [e]
      exact hm _ (ul s hs) (good_P hs hz)
  exact lx_as b a
theorem few_ex (hnf : nf ≤ 6) : ∃ u, u < 2 ^ nf ∧ fP ct G nf nc me u := by
  have hb := sBest_in (ct := ct) (G := G) (nf := nf) (nc := nc) (me := me)
  exact ⟨_, use_lt _ 0 (Nat.pow_pos (by decide)) (mem_lt hb.1), good_P hb.1 (by omega)⟩
end Few
