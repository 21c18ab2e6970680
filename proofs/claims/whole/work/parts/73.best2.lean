/-! ===== showings: what they depend on ===== -/
theorem foldl_mem {α β : Type} {f g : β → α → β} : ∀ (L : List α) (a : β), (∀ b, ∀ s ∈ L, f b s = g b s) → L.foldl f a = L.foldl g a
  | [], _, _ => rfl
  | s :: L, a, h => by
    simp only [List.foldl_cons]
    rw [h a s List.mem_cons_self]
    exact foldl_mem L _ (fun b x hx => h b x (List.mem_cons_of_mem _ hx))
theorem flatMap_mem {α β : Type} {f g : α → List β} : ∀ (L : List α), (∀ s ∈ L, f s = g s) → L.flatMap f = L.flatMap g
  | [], _ => rfl
  | s :: L, h => by
    simp only [List.flatMap_cons]
    rw [h s List.mem_cons_self, flatMap_mem L (fun x hx => h x (List.mem_cons_of_mem _ hx))]
theorem sAll_congr {ct ct' : Nat → Nat → Int} {nf nc : Nat} (h : ∀ c, c < nc → ∀ f, f < nf → ct c f = ct' c f) : ∀ (m c : Nat) (left left' : Nat → Int), c + m = nc → (∀ f, f < nf → left f = left' f) → sAll ct nf m c left = sAll ct' nf m c left'
  | 0, _, _, _, _, _ => rfl
  | m + 1, c, left, left', hc, hl => by
    simp only [sAll]
    rw [sAll_congr h m (c + 1) left left' (by omega) hl]
    congr 1
    refine flatMap_mem _ (fun f hf => ?_)
    have hf : f < nf := List.mem_range.mp hf
    rw [h c (by omega) f hf, hl f hf]
    split
    · rw [sAll_congr h m (c + 1) (updf left f (left' f - ct' c f)) (updf left' f (left' f - ct' c f)) (by omega) (fun g hg => ?_)]
      by_cases e : g = f
      · rw [e, updf_eq, updf_eq]
      · rw [updf_ne e, updf_ne e]; exact hl g hg
    · rfl
/-- the showings: one entry a client, fog or a figure -/
theorem sAll_ok {ct : Nat → Nat → Int} {nf : Nat} : ∀ (m c : Nat) (left : Nat → Int), ∀ s ∈ sAll ct nf m c left, s.length = m ∧ ∀ i, i < m → s.getD i 0 = -1 ∨ (0 ≤ s.getD i 0 ∧ s.getD i 0 < nf)
  | 0, c, left, s, hs => by
    simp only [sAll, List.mem_singleton] at hs
    subst hs
    exact ⟨rfl, fun i hi => by omega⟩
  | m + 1, c, left, s, hs => by
    simp only [sAll, List.mem_append, List.mem_map, List.mem_flatMap, List.mem_range] at hs
    rcases hs with ⟨t, ht, rfl⟩ | ⟨f, hf, hs⟩
    · obtain ⟨h1, h2⟩ := sAll_ok m (c + 1) left t ht
      refine ⟨by simp [h1], fun i hi => ?_⟩
      cases i with
      | zero => exact Or.inl rfl
      | succ i => rw [List.getD_cons_succ]; exact h2 i (by omega)
    · split at hs
      · obtain ⟨t, ht, rfl⟩ := List.mem_map.mp hs
        obtain ⟨h1, h2⟩ := sAll_ok m (c + 1) _ t ht
        refine ⟨by simp [h1], fun i hi => ?_⟩
        cases i with
        | zero => exact Or.inr ⟨Int.natCast_nonneg f, by rw [List.getD_cons_zero]; omega⟩
        | succ i => rw [List.getD_cons_succ]; exact h2 i (by omega)
      · simp at hs
theorem sV_congr {G G' : Nat → Nat → Int} {nf nc : Nat} (h : ∀ c, c < nc → ∀ f, f < nf → G c f = G' c f) : ∀ (s : List Int) (c : Nat), c + s.length = nc → (∀ i, i < s.length → s.getD i 0 = -1 ∨ (0 ≤ s.getD i 0 ∧ s.getD i 0 < nf)) → sV G c s = sV G' c s
  | [], _, _, _ => rfl
  | x :: s, c, hc, hs => by
    simp only [List.length_cons] at hc
    simp only [sV]
    rw [sV_congr h s (c + 1) (by omega) (fun i hi => by
      have := hs (i + 1) (by simp only [List.length_cons]; omega)
      rw [List.getD_cons_succ] at this
      exact this)]
    have h0 := hs 0 (by simp)
    rw [List.getD_cons_zero] at h0
    by_cases z : x < 0
    · rw [if_pos z, if_pos z]
    · rw [if_neg z, if_neg z, h c (by omega) x.toNat (by omega)]
theorem sBest_congr {ct ct' G G' : Nat → Nat → Int} {nf nc : Nat} {me me' : Nat → Int} (h : ∀ c, c < nc → ∀ f, f < nf → ct c f = ct' c f) (hG : ∀ c, c < nc → ∀ f, f < nf → G c f = G' c f) (hm : ∀ f, f < nf → me f = me' f) : sBest ct G nf nc me = sBest ct' G' nf nc me' := by
  unfold sBest
  rw [sAll_congr h nc 0 me me' (by omega) hm]
  refine foldl_mem _ _ (fun b s hs => ?_)
  obtain ⟨h1, h2⟩ := sAll_ok nc 0 me' s hs
  unfold sStep
  rw [sV_congr hG s 0 (by omega) (fun i hi => h2 i (by omega))]
theorem sFew_congr {ct ct' G G' : Nat → Nat → Int} {b : Int} {nf nc : Nat} {me me' : Nat → Int} (h : ∀ c, c < nc → ∀ f, f < nf → ct c f = ct' c f) (hG : ∀ c, c < nc → ∀ f, f < nf → G c f = G' c f) (hm : ∀ f, f < nf → me f = me' f) : sFew ct G b nf nc me = sFew ct' G' b nf nc me' := by
  unfold sFew
  rw [sAll_congr h nc 0 me me' (by omega) hm]
  refine foldl_mem _ _ (fun a s hs => ?_)
  obtain ⟨h1, h2⟩ := sAll_ok nc 0 me' s hs
  unfold fStep
  rw [sV_congr hG s 0 (by omega) (fun i hi => h2 i (by omega))]
theorem pl_congr {ct jo ic : Nat → Nat → Int} {s s' : Nat → Int} : ∀ (m c : Nat) (left : Nat → Int) (j i : Int), (∀ k, c ≤ k → k < c + m → s k = s' k) → pl ct jo ic s m c left j i = pl ct jo ic s' m c left j i
  | 0, _, _, _, _, _ => rfl
  | m + 1, c, left, j, i, h => by
    simp only [pl]
    rw [h c (by omega) (by omega), pl_congr m (c + 1) left j i (fun k h1 h2 => h k (by omega) (by omega)), pl_congr m (c + 1) _ _ _ (fun k h1 h2 => h k (by omega) (by omega))]
theorem sDig_congr {s s' : Nat → Int} : ∀ (n : Nat), (∀ k, k < n → s k = s' k) → sDig s n = sDig s' n
  | 0, _ => rfl
  | n + 1, h => by
    simp only [sDig]
    rw [sDig_congr n (fun k hk => h k (by omega)), h n (by omega)]
theorem sPlain_congr {wi : Nat → Int} {ct : Nat → Nat → Int} {nf : Nat} : ∀ (m c : Nat) (left s s' : Nat → Int), (∀ k, k < c → s k = s' k) → ∀ k, k < c + m → sPlain wi ct nf m c left s k = sPlain wi ct nf m c left s' k
  | 0, c, left, s, s', h, k, hk => h k (by omega)
  | m + 1, c, left, s, s', h, k, hk => by
    simp only [sPlain]
    refine sPlain_congr m (c + 1) _ _ _ (fun j hj => ?_) k (by omega)
    by_cases e : j = c
    · rw [e, updf_eq, updf_eq]
    · rw [updf_ne e, updf_ne e]; exact h j (by omega)
theorem sPlain_ok {wi : Nat → Int} {ct : Nat → Nat → Int} {nf : Nat} : ∀ (m c : Nat) (left s : Nat → Int), (∀ k, k < c → s k = -1 ∨ (0 ≤ s k ∧ s k < nf)) → ∀ k, k < c + m → sPlain wi ct nf m c left s k = -1 ∨ (0 ≤ sPlain wi ct nf m c left s k ∧ sPlain wi ct nf m c left s k < nf)
  | 0, c, left, s, h, k, hk => h k (by omega)
  | m + 1, c, left, s, h, k, hk => by
    simp only [sPlain]
    refine sPlain_ok m (c + 1) _ _ (fun j hj => ?_) k (by omega)
    by_cases e : j = c
    · rw [e, updf_eq]
      have := sFirstW_le (wi := wi) (ct := ct) (left := left) (c := c) nf 0
      omega
    · rw [updf_ne e]; exact h j (by omega)
theorem xbit_63 : ∀ f : Fin 6, xbit 63 f.val = 1 := by decide +kernel
theorem ctm_63 {ct : Nat → Nat → Int} {c f : Nat} (h : f < 6) : ctm 63 ct c f = ct c f := by
  unfold ctm
  exact if_pos (xbit_63 ⟨f, h⟩)
/-- all fog is a showing, and the first -/
theorem sAll_fog {ct : Nat → Nat → Int} {nf : Nat} : ∀ (m c : Nat) (left : Nat → Int), ∃ L, sAll ct nf m c left = List.replicate m (-1) :: L
  | 0, c, left => ⟨[], rfl⟩
  | m + 1, c, left => by
    obtain ⟨L, e⟩ := sAll_fog (ct := ct) (nf := nf) m (c + 1) left
    simp only [sAll]
    rw [e]
    exact ⟨_, rfl⟩
theorem sV_fog {G : Nat → Nat → Int} : ∀ (m c : Nat), sV G c (List.replicate m (-1)) = 0
  | 0, _ => rfl
  | m + 1, c => by
    rw [List.replicate_succ]
    simp only [sV]
    rw [sV_fog m (c + 1)]
    rfl
theorem fold_in {G : Nat → Nat → Int} : ∀ (L : List (List Int)) (a : Int × List Int), a.1 = sV G 0 a.2 → ((L.foldl (sStep G 0 [] 0) a) = a ∨ (L.foldl (sStep G 0 [] 0) a).2 ∈ L) ∧ (L.foldl (sStep G 0 [] 0) a).1 = sV G 0 (L.foldl (sStep G 0 [] 0) a).2
  | [], a, h => ⟨Or.inl rfl, h⟩
  | s :: L, a, h => by
    simp only [List.foldl_cons]
    by_cases z : a.1 < 0 + sV G 0 s
    · have e : sStep G 0 [] 0 a s = (0 + sV G 0 s, [] ++ s) := by unfold sStep; rw [if_pos z]
      rw [e]
      obtain ⟨h1, h2⟩ := fold_in (G := G) L (0 + sV G 0 s, [] ++ s) (by simp)
      refine ⟨Or.inr ?_, h2⟩
      rcases h1 with h1 | h1
      · rw [h1]
        exact List.mem_cons_self
      · exact List.mem_cons_of_mem _ h1
    · have e : sStep G 0 [] 0 a s = a := by unfold sStep; rw [if_neg z]
      rw [e]
      obtain ⟨h1, h2⟩ := fold_in (G := G) L a h
      exact ⟨h1.elim Or.inl (fun q => Or.inr (List.mem_cons_of_mem _ q)), h2⟩
theorem sBest_in {ct G : Nat → Nat → Int} {nf nc : Nat} {me : Nat → Int} : (sBest ct G nf nc me).2 ∈ sAll ct nf nc 0 me ∧ (sBest ct G nf nc me).1 = sV G 0 (sBest ct G nf nc me).2 := by
  obtain ⟨L, e⟩ := sAll_fog (ct := ct) (nf := nf) nc 0 me
  obtain ⟨h1, h2⟩ := fold_in (G := G) (sAll ct nf nc 0 me) (0, List.replicate nc (-1)) (by rw [sV_fog])
  refine ⟨?_, h2⟩
  rcases h1 with h1 | h1
  · show ((sAll ct nf nc 0 me).foldl (sStep G 0 [] 0) (0, List.replicate nc (-1))).2 ∈ _
    rw [h1, e]
    exact List.mem_cons_self
  · exact h1
/-- a showing that can be is gone through to its end -/
theorem pl_all {ct jo ic : Nat → Nat → Int} {nf : Nat} {s : Nat → Int} : ∀ (m c : Nat) (left : Nat → Int) (j i : Int) (l : List Int), l ∈ sAll ct nf m c left → (∀ k, k < m → s (c + k) = l.getD k 0) → ∃ left', pl ct jo ic s m c left j i = (-1, j + sV jo c l, i + sV ic c l, left')
  | 0, c, left, j, i, l, hl, hs => by
    simp only [sAll, List.mem_singleton] at hl
    subst hl
    exact ⟨left, by simp [pl, sV]⟩
  | m + 1, c, left, j, i, l, hl, hs => by
    simp only [sAll, List.mem_append, List.mem_map, List.mem_flatMap, List.mem_range] at hl
    have h0 := hs 0 (by omega)
    rw [Nat.add_zero] at h0
    rcases hl with ⟨t, ht, rfl⟩ | ⟨f, hf, hl⟩
    · rw [List.getD_cons_zero] at h0
      obtain ⟨l', e⟩ := pl_all (jo := jo) (ic := ic) (s := s) m (c + 1) left j i t ht (fun k hk => by
        have := hs (k + 1) (by omega)
        rw [List.getD_cons_succ] at this
        rw [← this]
        congr 1
        omega)
      refine ⟨l', ?_⟩
      simp only [pl, sV]
      rw [h0, if_pos (by omega), if_pos (by omega), if_pos (by omega), e, Int.zero_add, Int.zero_add]
    · split at hl
      · rename_i hz
        obtain ⟨t, ht, rfl⟩ := List.mem_map.mp hl
        rw [List.getD_cons_zero] at h0
        obtain ⟨l', e⟩ := pl_all (jo := jo) (ic := ic) (s := s) m (c + 1) (updf left f (left f - ct c f)) (j + jo c f) (i + ic c f) t ht (fun k hk => by
          have := hs (k + 1) (by omega)
          rw [List.getD_cons_succ] at this
          rw [← this]
          congr 1
          omega)
        refine ⟨l', ?_⟩
        simp only [pl, sV]
        rw [h0, if_neg (show ¬ (f : Int) < 0 by omega), if_neg (show ¬ (f : Int) < 0 by omega), if_neg (show ¬ (f : Int) < 0 by omega), Int.toNat_natCast, if_pos hz, e, Int.add_assoc, Int.add_assoc]
      · simp at hl
