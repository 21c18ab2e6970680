/-! ===== all showings, in order; the first of the best ===== -/
/-- all showings of m clients from c on that can be, in order -/
def sAll (ct : Nat → Nat → Int) (nf : Nat) : Nat → Nat → (Nat → Int) → List (List Int)
  | 0, _, _ => [[]]
  | m + 1, c, left => (sAll ct nf m (c + 1) left).map (fun s => (-1 : Int) :: s) ++ (List.range nf).flatMap (fun f => if ct c f ≠ -1 ∧ ct c f ≤ left f then (sAll ct nf m (c + 1) (updf left f (left f - ct c f))).map (fun s => (f : Int) :: s) else [])
/-- what a showing from client c on brings -/
def sV (G : Nat → Nat → Int) : Nat → List Int → Int
  | _, [] => 0
  | c, x :: s => (if x < 0 then 0 else G c x.toNat) + sV G (c + 1) s
def sStep (G : Nat → Nat → Int) (c : Nat) (pre : List Int) (sum : Int) (acc : Int × List Int) (s : List Int) : Int × List Int := if acc.1 < sum + sV G c s then (sum + sV G c s, pre ++ s) else acc
/-- more than this can't come of f < n for client c -/
def sMx (ct G : Nat → Nat → Int) (me : Nat → Int) (c : Nat) : Nat → Int
  | 0 => 0
  | f + 1 => if ct c f ≠ -1 ∧ ct c f ≤ me f then max (sMx ct G me c f) (G c f) else sMx ct G me c f
def sHope (ct G : Nat → Nat → Int) (nf : Nat) (me : Nat → Int) : Nat → Nat → Int
  | 0, _ => 0
  | m + 1, c => sHope ct G nf me m (c + 1) + sMx ct G me c nf
theorem sMx_nn (ct G : Nat → Nat → Int) (me : Nat → Int) (c : Nat) : ∀ n, 0 ≤ sMx ct G me c n
  | 0 => Int.le_refl _
  | n + 1 => by
    have ih := sMx_nn ct G me c n
    simp only [sMx]
    split <;> omega
theorem sMx_ge {ct G : Nat → Nat → Int} {me : Nat → Int} {c : Nat} : ∀ {n f : Nat}, f < n → ct c f ≠ -1 → ct c f ≤ me f → G c f ≤ sMx ct G me c n
  | n + 1, f, hf, h1, h2 => by
    simp only [sMx]
    by_cases e : f = n
    · subst e
      rw [if_pos ⟨h1, h2⟩]
      omega
    · have ih := sMx_ge (G := G) (n := n) (f := f) (by omega) h1 h2
      split <;> omega
theorem sMx_le {ct G : Nat → Nat → Int} {me : Nat → Int} {c : Nat} {B : Int} (hB : 0 ≤ B) : ∀ {n : Nat}, (∀ f, f < n → G c f ≤ B) → sMx ct G me c n ≤ B
  | 0, _ => hB
  | n + 1, h => by
    have ih := sMx_le (ct := ct) (me := me) hB (n := n) (fun f hf => h f (by omega))
    have := h n (by omega)
    simp only [sMx]
    split <;> omega
theorem sHope_nn (ct G : Nat → Nat → Int) (nf : Nat) (me : Nat → Int) : ∀ m c, 0 ≤ sHope ct G nf me m c
  | 0, _ => Int.le_refl _
  | m + 1, c => by
    have h1 := sHope_nn ct G nf me m (c + 1)
    have h2 := sMx_nn ct G me c nf
    simp only [sHope]
    omega
theorem sHope_le {ct G : Nat → Nat → Int} {nf nc : Nat} {me : Nat → Int} (h : ∀ c, c < nc → ∀ f, f < nf → G c f ≤ 1999) : ∀ m c, c + m ≤ nc → sHope ct G nf me m c ≤ 1999 * m
  | 0, _, _ => by simp [sHope]
  | m + 1, c, hc => by
    have h1 := sHope_le (ct := ct) (me := me) h m (c + 1) (by omega)
    have h2 := sMx_le (ct := ct) (me := me) (G := G) (c := c) (B := 1999) (by omega) (n := nf) (h c (by omega))
    simp only [sHope]
    omega
theorem sAll_hope {ct G : Nat → Nat → Int} {nf nc : Nat} {me : Nat → Int} (hct : ∀ c, c < nc → ∀ f, f < nf → -1 ≤ ct c f) : ∀ (m c : Nat) (left : Nat → Int), c + m = nc → (∀ f, f < nf → left f ≤ me f) → ∀ s ∈ sAll ct nf m c left, sV G c s ≤ sHope ct G nf me m c
  | 0, c, left, _, _, s, hs => by
    simp only [sAll, List.mem_singleton] at hs
    subst hs
    exact Int.le_refl _
  | m + 1, c, left, hc, hl, s, hs => by
    simp only [sAll, List.mem_append, List.mem_map, List.mem_flatMap, List.mem_range] at hs
    have hm := sMx_nn ct G me c nf
    rcases hs with ⟨s', hs', rfl⟩ | ⟨f, hf, hs⟩
    · have ih := sAll_hope (G := G) (me := me) hct m (c + 1) left (by omega) hl s' hs'
      simp only [sV, sHope]
      rw [if_pos (by decide)]
      omega
    · split at hs
      · rename_i hcan
        obtain ⟨s', hs', rfl⟩ := List.mem_map.mp hs
        have h0 := hct c (by omega) f hf
        have ih := sAll_hope (G := G) (me := me) hct m (c + 1) _ (by omega) (fun g hg => by
          by_cases e : g = f
          · rw [e, updf_eq]
            have := hl f hf
            omega
          · rw [updf_ne e]; exact hl g hg) s' hs'
        have hx := sMx_ge (G := G) (me := me) hf hcan.1 (by have := hl f hf; omega)
        simp only [sV, sHope]
        rw [if_neg (by omega), Int.toNat_natCast]
        omega
      · cases hs
theorem foldl_noop {G : Nat → Nat → Int} {c : Nat} {pre : List Int} {sum : Int} {acc : Int × List Int} : ∀ {L : List (List Int)}, (∀ s ∈ L, sum + sV G c s ≤ acc.1) → L.foldl (sStep G c pre sum) acc = acc
  | [], _ => rfl
  | s :: L, h => by
    have h1 := h s List.mem_cons_self
    rw [List.foldl_cons, show sStep G c pre sum acc s = acc by unfold sStep; rw [if_neg (by omega)]]
    exact foldl_noop (fun z hz => h z (List.mem_cons_of_mem _ hz))
theorem foldl_fog {G : Nat → Nat → Int} {c : Nat} {pre : List Int} {sum : Int} : ∀ (L : List (List Int)) (acc : Int × List Int), (L.map (fun s => (-1 : Int) :: s)).foldl (sStep G c pre sum) acc = L.foldl (sStep G (c + 1) (pre ++ [-1]) sum) acc
  | [], _ => rfl
  | s :: L, acc => by
    rw [List.map_cons, List.foldl_cons, List.foldl_cons, foldl_fog L]
    congr 1
    unfold sStep
    simp [sV]
theorem foldl_fig {G : Nat → Nat → Int} {c f : Nat} {pre : List Int} {sum : Int} : ∀ (L : List (List Int)) (acc : Int × List Int), (L.map (fun s => (f : Int) :: s)).foldl (sStep G c pre sum) acc = L.foldl (sStep G (c + 1) (pre ++ [(f : Int)]) (sum + G c f)) acc
  | [], _ => rfl
  | s :: L, acc => by
    rw [List.map_cons, List.foldl_cons, List.foldl_cons, foldl_fig L]
    congr 1
    unfold sStep
    have e : sV G c ((f : Int) :: s) = G c f + sV G (c + 1) s := by
      simp only [sV]
      rw [if_neg (by omega), Int.toNat_natCast]
    rw [e]
    simp [Int.add_assoc]
/-- the best after the figures below n -/
def sPart (ct G : Nat → Nat → Int) (nf m c : Nat) (left : Nat → Int) (pre : List Int) (sum : Int) (acc : Int × List Int) : Nat → Int × List Int
  | 0 => acc
  | f + 1 => if ct c f ≠ -1 ∧ ct c f ≤ left f then (sAll ct nf m (c + 1) (updf left f (left f - ct c f))).foldl (sStep G (c + 1) (pre ++ [(f : Int)]) (sum + G c f)) (sPart ct G nf m c left pre sum acc f) else sPart ct G nf m c left pre sum acc f
theorem sPart_eq {ct G : Nat → Nat → Int} {nf m c : Nat} {left : Nat → Int} {pre : List Int} {sum : Int} {acc : Int × List Int} : ∀ n, ((List.range n).flatMap (fun f => if ct c f ≠ -1 ∧ ct c f ≤ left f then (sAll ct nf m (c + 1) (updf left f (left f - ct c f))).map (fun s => (f : Int) :: s) else [])).foldl (sStep G c pre sum) acc = sPart ct G nf m c left pre sum acc n
  | 0 => rfl
  | n + 1 => by
    rw [List.range_succ, List.flatMap_append, List.foldl_append, sPart_eq n]
    simp only [List.flatMap_cons, List.flatMap_nil, List.append_nil, sPart]
    split
    · rw [foldl_fig]
    · rfl
theorem sAll_fold {ct G : Nat → Nat → Int} {nf m c : Nat} {left : Nat → Int} {pre : List Int} {sum : Int} {acc : Int × List Int} : (sAll ct nf (m + 1) c left).foldl (sStep G c pre sum) acc = sPart ct G nf m c left pre sum ((sAll ct nf m (c + 1) left).foldl (sStep G (c + 1) (pre ++ [-1]) sum) acc) nf := by
  simp only [sAll]
  rw [List.foldl_append, foldl_fog, sPart_eq]
