/-! ===== the model: words, signs, what is pending (printed by wip/whole/gen/mparse.py) ===== -/
theorem sWd_dist : ∀ w w' : Fin 12, sWd w.val = sWd w'.val → w = w' := by decide +kernel
theorem sWd_ok : ∀ w : Fin 12, (sWd w.val).length ≤ 7 ∧ ∀ i : Fin 8, (i.val < (sWd w.val).length → (sWd w.val).getD i.val 0 ≠ 0) ∧ (¬ i.val < (sWd w.val).length → (sWd w.val).getD i.val 0 = 0) := by decide +kernel
theorem sWa_uniq {B : Nat → Int} {s e w w' : Nat} (hw : w < 12) (hw' : w' < 12) (h : sWa B s e w = true) (h' : sWa B s e w' = true) : w = w' := by
  unfold sWa at h h'
  rw [Bool.and_eq_true, decide_eq_true_eq] at h h'
  have e1 := (sIs_iff _ _).mp h.2
  have e2 := (sIs_iff _ _).mp h'.2
  have : sWd w = sWd w' := by
    apply List.ext_getElem?
    intro i
    by_cases z : i < e - s
    · have a1 := e1 i (by omega)
      have a2 := e2 i (by omega)
      rw [← a2] at a1
      rw [List.getD_eq_getElem?_getD, List.getD_eq_getElem?_getD, List.getElem?_eq_getElem (by omega), List.getElem?_eq_getElem (by omega)] at a1
      rw [List.getElem?_eq_getElem (by omega), List.getElem?_eq_getElem (by omega)]
      exact congrArg some a1
    · rw [List.getElem?_eq_none (by omega), List.getElem?_eq_none (by omega)]
  have := sWd_dist ⟨w, hw⟩ ⟨w', hw'⟩ this
  exact congrArg Fin.val this
theorem sWk_iff {B : Nat → Int} {s e w : Nat} : ∀ (k : Nat), k ≤ 12 → w < 12 → (sWk B s e k = 260 + (w : Int) ↔ (w < k ∧ sWa B s e w = true))
  | 0, _, _ => by simp [sWk]; omega
  | k + 1, hk, hw => by
    have ih := sWk_iff (B := B) (s := s) (e := e) (w := w) k (by omega) hw
    simp only [sWk]
    by_cases z : sWa B s e k = true
    · rw [if_pos z]
      constructor
      · intro h
        have : k = w := by omega
        rw [← this]
        exact ⟨by omega, z⟩
      · intro h
        rw [sWa_uniq hw (by omega) h.2 z]
    · rw [if_neg z, ih]
      constructor
      · exact fun h => ⟨by omega, h.2⟩
      · intro h
        refine ⟨?_, h.2⟩
        by_cases e : w = k
        · rw [e] at h
          exact absurd h.2 z
        · omega
theorem sWk_val {B : Nat → Int} {s e : Nat} : ∀ k, k ≤ 12 → sWk B s e k = 257 ∨ (260 ≤ sWk B s e k ∧ sWk B s e k < 272)
  | 0, _ => Or.inl rfl
  | k + 1, hk => by
    simp only [sWk]
    split
    · exact Or.inr (by omega)
    · exact sWk_val k (by omega)
/-- the model's token, by its kind -/
theorem TM.cls {σ : Nat → Nat → Int} {m n : Nat} {B : Nat → Int} {L : List Tk} (h : TM σ m n B L) : ∃ s : Nat, s ≤ n ∧ σ m 23 = (s : Int) ∧ tkS L = s ∧ (
    (tkC L = 256 ∧ σ m 22 = 0) ∨
    (∃ e : Nat, σ m 22 = 1 ∧ σ m 21 = (e : Int) ∧ s < e ∧ e ≤ n ∧ (∀ i, s ≤ i → i < e → isLet (B i)) ∧ tkC L = sWk B s e 12 ∧ (tkC L ≠ 257 → ∃ k, n < e + k ∧ L.tail = sToks B n k e)) ∨
    (tkC L = 258 ∧ σ m 22 = 2 ∧ σ m 24 = (tkV L : Int) ∧ tkV L < 10000 ∧ ∃ e k : Nat, σ m 21 = (e : Int) ∧ e ≤ n ∧ n < e + k ∧ L.tail = sToks B n k e) ∨
    (isSgn (tkC L) ∧ σ m 22 = 3 ∧ σ m 24 = tkC L ∧ ∃ e k : Nat, σ m 21 = (e : Int) ∧ e ≤ n ∧ n < e + k ∧ L.tail = sToks B n k e) ∨
    (tkC L = 257 ∧ σ m 22 = 4)) := by
  obtain ⟨s, hs, ⟨r1, r2, r3, r4, r5, r6⟩, hC, hS, hV, hT⟩ := h.at
  refine ⟨s, hs, r1, hS, ?_⟩
  by_cases z : n ≤ s
  · refine Or.inl ⟨?_, r2 z⟩
    rw [hC]
    unfold sTokAt
    rw [if_pos z]
  · have hend := sTokAt_end (B := B) z
    by_cases z1 : sW 1 (B s) = true
    · obtain ⟨q1, q2⟩ := r3 z z1
      have e0 : sTokAt B n s = ((sWk B s (sRun 1 B (n - s) s) 12, 0, s), sRun 1 B (n - s) s) := by unfold sTokAt; rw [if_neg z, if_pos z1]
      rw [e0] at hC hend hT
      refine Or.inr (Or.inl ⟨sRun 1 B (n - s) s, q1, q2, hend.1, hend.2, fun i h1 h2 => sW1.mp (sRun_all (n - s) s i h1 h2), hC, fun y => ?_⟩)
      have := sWk_val (B := B) (s := s) (e := sRun 1 B (n - s) s) 12 (Nat.le_refl _)
      have hC : tkC L = sWk B s (sRun 1 B (n - s) s) 12 := hC
      obtain ⟨k, k1, k2, k3⟩ := hT (by omega) y
      exact ⟨k, k2, k3⟩
    · by_cases z2 : sW 2 (B s) = true
      · obtain ⟨q1, q2, q3⟩ := r4 z z1 z2
        have e0 : sTokAt B n s = (((if sRun 2 B (n - s) s - s ≤ 4 then 258 else 257), sWn B s (sRun 2 B (n - s) s - s), s), sRun 2 B (n - s) s) := by unfold sTokAt; rw [if_neg z, if_neg z1, if_pos z2]
        rw [e0] at hC hend hT hV
        by_cases z3 : sRun 2 B (n - s) s - s ≤ 4
        · rw [if_pos z3] at q1 hC hT
          have hC : tkC L = 258 := hC
          have hV : tkV L = sWn B s (sRun 2 B (n - s) s - s) := hV
          obtain ⟨k, k1, k2, k3⟩ := hT (by omega) (by omega)
          refine Or.inr (Or.inr (Or.inl ⟨hC, q1, by rw [hV]; exact q3 z3, ?_, _, k, q2, hend.2, k2, k3⟩))
          rw [hV]
          have h1 := (sWorth_n (B := B) (s := s) z3 (fun i hi => sW2.mp (sRun_all (n - s) s (s + i) (by omega) (by omega)))).2
          have h2 : 10 ^ (sRun 2 B (n - s) s - s) ≤ 10 ^ 4 := Nat.pow_le_pow_right (by decide) z3
          have h3 : 10 ^ (sRun 2 B (n - s) s - s) ≤ 10000 := h2
          omega
        · rw [if_neg z3] at q1 hC
          exact Or.inr (Or.inr (Or.inr (Or.inr ⟨hC, q1⟩)))
      · have e0 : sTokAt B n s = (((if (40 ≤ B s ∧ B s ≤ 43) ∨ B s = 45 ∨ (59 ≤ B s ∧ B s ≤ 61) then B s else 257), 0, s), s + 1) := by unfold sTokAt; rw [if_neg z, if_neg z1, if_neg z2]
        rw [e0] at hC hend hT
        by_cases z3 : isSgn (B s)
        · obtain ⟨q1, q2, q3⟩ := r5 z z1 z2 z3
          have z3' := z3
          unfold isSgn at z3'
          rw [if_pos z3'] at hC hT
          have hC : tkC L = B s := hC
          obtain ⟨k, k1, k2, k3⟩ := hT (by omega) (by omega)
          refine Or.inr (Or.inr (Or.inr (Or.inl ⟨by rw [hC]; exact z3, q1, by rw [hC]; exact q3, s + 1, k, q2, hend.2, k2, k3⟩)))
        · have z3' := z3
          unfold isSgn at z3'
          rw [if_neg z3'] at hC
          exact Or.inr (Or.inr (Or.inr (Or.inr ⟨hC, r6 z z1 z2 z3⟩)))
section Model
variable {Γ : xSh} {σ : Nat → Nat → Int} {m t n d : Nat} {B : Nat → Int} {L : List Tk} {Q : xV → xMem → Prop}
theorem TM.len (h : TM σ m n B L) : L.tail.length + 1 = L.length := by
  have := h.ne
  cases L with
  | nil => exact absurd rfl this
  | cons x l => rfl
/-- the next token -/
theorem m_adv {dd : Nat} (hM : SM Γ m) (hP : PCx σ m t n B) (hd : 2 ≤ dd) (hT : TM σ m n B L) (h1 : tkC L ≠ 256) (h2 : tkC L ≠ 257) (hQ : ∀ σ', SmF Pr m σ σ' → TM σ' m n B L.tail → (∀ j, 25 ≤ j → σ' m j = σ m j) → Q vu (Γ, σ')) : xRM M_X6_next dd (0, 0) [vr m] (Γ, σ) Q := by
  obtain ⟨e, rfl⟩ : ∃ e, dd = e + 2 := ⟨dd - 2, by omega⟩
  obtain ⟨s, hs, h23, hS, hc⟩ := hT.cls
  rcases hc with ⟨hc, -⟩ | ⟨e', -, q2, q3, q4, -, -, q7⟩ | ⟨-, -, -, -, e', k, q1, q2, q3, q4⟩ | ⟨-, -, -, e', k, q1, q2, q3, q4⟩ | ⟨hc, -⟩
  · exact absurd hc h1
  · obtain ⟨k, k1, k2⟩ := q7 h2
    rw [k2] at hQ
    exact m_next hM hP q2 q4 k1 hQ
  · rw [q4] at hQ
    exact m_next hM hP q1 q2 q3 hQ
  · rw [q4] at hQ
    exact m_next hM hP q1 q2 q3 hQ
  · exact absurd hc h2
theorem m_isSign {x : Int} (hM : SM Γ m) (hx : isSgn x) (h26 : σ m 26 = 0 ∨ σ m 26 = 1) (hT : σ m 26 = 0 → TM σ m n B L) (hY : σ m 26 = 0 → tkC L = x → Q (vi 1) (Γ, σ)) (hN : (σ m 26 = 0 → tkC L ≠ x) → Q (vi 0) (Γ, σ)) : xRM M_X6_isSign (d + 1) (0, 0) [vr m, vi x] (Γ, σ) Q := by
  refine xRM_of (by decide) (Nat.le_of_ble_eq_true rfl) ?_
  refine b_X6_isSign_0 _ _ _ _ ?_
  show k_X6_isSign_0 d Q (0, 0) [vr m, vi x] [] (Γ, σ)
  simp only [k_X6_isSign_0, x_push, x_iload, x_lload, x_aload, x_bin, x_div, x_un, x_lbin, x_ldiv, x_lcmp, x_i2l, x_l2i, x_dup, x_pop, x_dup2, x_c1, x_c2, x_null, x_cat1, x_istore, x_astore, x_lstore, x_iinc, x_nol, x_tsw, xsw, x_lsw, xlsw, x_ret, x_zret, x_lret, x_aret, x_vret, x_getI, x_getL, x_getR, x_putI, x_putZ, x_putL, x_iaload, x_zaload, x_aaload, x_iastore, x_zastore, x_alen, x_mm, x_acopy, xpush, xJ, xK, x_cV0, x_cV1, x_cV2, x_cV3, x_cV4, x_cV5, x_cV6, x_cV7, x_cV8, x_cS1, x_cS2, x_cS3, x_cS4, x_cS5, List.getD_cons_zero, List.getD_cons_succ, List.set_cons_zero, List.set_cons_succ, List.length_cons, List.length_nil, Nat.zero_add, true_and, and_true, List.getD_nil, not_true, not_false_eq_true, Int.toNat_natCast, false_implies, true_implies, if_true, if_false, Int.toNat_zero, Int.toNat_one, true_or, or_true, Int.reduceEq, Int.reduceLT, Int.reduceLE, Int.reduceNe, Int.reduceNeg, Int.reduceAdd, Int.reduceSub, Int.reduceMul, Int.reduceToNat, Nat.reduceLT, Nat.reduceLeDiff, Nat.reduceAdd, Nat.reduceEqDiff, Nat.reduceSub, not_false_iff, and_self, implies_true, false_and, and_false, or_self, false_or, or_false, Int.cast_ofNat_Int, Int.natCast_nonneg, SM.f0 hM, SM.f1 hM, SM.f2 hM, SM.f3 hM, SM.f4 hM, SM.f5 hM, SM.f6 hM, SM.f7 hM, SM.f8 hM, SM.f9 hM, SM.f10 hM, SM.f11 hM, SM.f12 hM, SM.f13 hM, SM.f14 hM, SM.f15 hM, SM.f16 hM, SM.f17 hM, SM.f18 hM, SM.f19 hM, SM.f20 hM, SM.l20 hM, SM.a20 hM, SM.e20 hM, SM.f21 hM, SM.l21 hM, SM.a21 hM, SM.e21 hM, SM.f22 hM, SM.l22 hM, SM.a22 hM, SM.e22 hM, SM.f23 hM, SM.l23 hM, SM.a23 hM, SM.e23 hM, SM.f24 hM, SM.l24 hM, SM.a24 hM, SM.e24 hM, SM.f25 hM, SM.l25 hM, SM.a25 hM, SM.e25 hM, SM.f26 hM, SM.l26 hM, SM.a26 hM, SM.e26 hM, SM.f27 hM, SM.l27 hM, SM.a27 hM, SM.e27 hM, SM.f28 hM, SM.l28 hM, SM.a28 hM, SM.e28 hM, SM.f29 hM, SM.l29 hM, SM.a29 hM, SM.e29 hM, SM.f30 hM, SM.l30 hM, SM.a30 hM, SM.e30 hM, SM.f31 hM, SM.l31 hM, SM.a31 hM, SM.e31 hM, SM.f32 hM, SM.l32 hM, SM.a32 hM, SM.e32 hM, SM.f33 hM, SM.l33 hM, SM.a33 hM, SM.e33 hM, SM.f34 hM, SM.l34 hM, SM.a34 hM, SM.e34 hM, SM.f35 hM, SM.l35 hM, SM.a35 hM, SM.e35 hM, SM.f36 hM, SM.l36 hM, SM.a36 hM, SM.e36 hM, SM.f37 hM, SM.l37 hM, SM.a37 hM, SM.e37 hM, SM.f38 hM, SM.l38 hM, SM.a38 hM, SM.e38 hM, olcmp_z]
  unfold isSgn at hx
  refine ⟨fun q => hN (fun z => absurd z q), fun q => ?_⟩
  have q0 : σ m 26 = 0 := Classical.not_not.mp q
  obtain ⟨s, hs, h23, hS, hc⟩ := (hT q0).cls
  rcases hc with ⟨hc, h22⟩ | ⟨e', h22, -, -, -, -, hc, -⟩ | ⟨hc, h22, -⟩ | ⟨hc, h22, h24, -⟩ | ⟨hc, h22⟩
  · rw [h22]
    exact ⟨fun _ => hN (fun _ => by omega), fun y => absurd (by decide) y⟩
  · rw [h22]
    have := sWk_val (B := B) (s := s) (e := e') 12 (Nat.le_refl _)
    exact ⟨fun _ => hN (fun _ => by omega), fun y => absurd (by decide) y⟩
  · rw [h22]
    exact ⟨fun _ => hN (fun _ => by omega), fun y => absurd (by decide) y⟩
  · rw [h22, h24]
    refine ⟨fun y => absurd rfl y, fun _ => ⟨fun y => hN (fun _ => y), fun y => hY q0 (Classical.not_not.mp y)⟩⟩
  · rw [h22]
    exact ⟨fun _ => hN (fun _ => by omega), fun y => absurd (by decide) y⟩
/-- letter i of the word at hand is l (0: none) -/
def Lc (B : Nat → Int) (s e i : Nat) (l : Int) : Prop := (s + i < e → B (s + i) = l) ∧ (¬ s + i < e → l = 0)
theorem m_isLetter {i s e : Nat} {l : Int} (hM : SM Γ m) (hP : PCx σ m t n B) (hi : i < 8) (h21 : σ m 21 = (e : Int)) (h23 : σ m 23 = (s : Int)) (he : e ≤ n) (hs : s ≤ n) (hY : Lc B s e i l → Q (vi 1) (Γ, σ)) (hN : ¬ Lc B s e i l → Q (vi 0) (Γ, σ)) : xRM M_X6_isLetter (d + 2) (0, 0) [vr m, vi (i : Int), vi l] (Γ, σ) Q := by
  refine xRM_of (by decide) (Nat.le_of_ble_eq_true rfl) ?_
  have h160 := hP.2.2.1.2
  refine b_X6_isLetter_0 _ _ _ _ ?_
  show k_X6_isLetter_0 (d + 1) Q (0, 0) [vr m, vi (i : Int), vi l] [] (Γ, σ)
  simp only [k_X6_isLetter_0, x_push, x_iload, x_lload, x_aload, x_bin, x_div, x_un, x_lbin, x_ldiv, x_lcmp, x_i2l, x_l2i, x_dup, x_pop, x_dup2, x_c1, x_c2, x_null, x_cat1, x_istore, x_astore, x_lstore, x_iinc, x_nol, x_tsw, xsw, x_lsw, xlsw, x_ret, x_zret, x_lret, x_aret, x_vret, x_getI, x_getL, x_getR, x_putI, x_putZ, x_putL, x_iaload, x_zaload, x_aaload, x_iastore, x_zastore, x_alen, x_mm, x_acopy, xpush, xJ, xK, x_cV0, x_cV1, x_cV2, x_cV3, x_cV4, x_cV5, x_cV6, x_cV7, x_cV8, x_cS1, x_cS2, x_cS3, x_cS4, x_cS5, List.getD_cons_zero, List.getD_cons_succ, List.set_cons_zero, List.set_cons_succ, List.length_cons, List.length_nil, Nat.zero_add, true_and, and_true, List.getD_nil, not_true, not_false_eq_true, Int.toNat_natCast, false_implies, true_implies, if_true, if_false, Int.toNat_zero, Int.toNat_one, true_or, or_true, Int.reduceEq, Int.reduceLT, Int.reduceLE, Int.reduceNe, Int.reduceNeg, Int.reduceAdd, Int.reduceSub, Int.reduceMul, Int.reduceToNat, Nat.reduceLT, Nat.reduceLeDiff, Nat.reduceAdd, Nat.reduceEqDiff, Nat.reduceSub, not_false_iff, and_self, implies_true, false_and, and_false, or_self, false_or, or_false, Int.cast_ofNat_Int, Int.natCast_nonneg, SM.f0 hM, SM.f1 hM, SM.f2 hM, SM.f3 hM, SM.f4 hM, SM.f5 hM, SM.f6 hM, SM.f7 hM, SM.f8 hM, SM.f9 hM, SM.f10 hM, SM.f11 hM, SM.f12 hM, SM.f13 hM, SM.f14 hM, SM.f15 hM, SM.f16 hM, SM.f17 hM, SM.f18 hM, SM.f19 hM, SM.f20 hM, SM.l20 hM, SM.a20 hM, SM.e20 hM, SM.f21 hM, SM.l21 hM, SM.a21 hM, SM.e21 hM, SM.f22 hM, SM.l22 hM, SM.a22 hM, SM.e22 hM, SM.f23 hM, SM.l23 hM, SM.a23 hM, SM.e23 hM, SM.f24 hM, SM.l24 hM, SM.a24 hM, SM.e24 hM, SM.f25 hM, SM.l25 hM, SM.a25 hM, SM.e25 hM, SM.f26 hM, SM.l26 hM, SM.a26 hM, SM.e26 hM, SM.f27 hM, SM.l27 hM, SM.a27 hM, SM.e27 hM, SM.f28 hM, SM.l28 hM, SM.a28 hM, SM.e28 hM, SM.f29 hM, SM.l29 hM, SM.a29 hM, SM.e29 hM, SM.f30 hM, SM.l30 hM, SM.a30 hM, SM.e30 hM, SM.f31 hM, SM.l31 hM, SM.a31 hM, SM.e31 hM, SM.f32 hM, SM.l32 hM, SM.a32 hM, SM.e32 hM, SM.f33 hM, SM.l33 hM, SM.a33 hM, SM.e33 hM, SM.f34 hM, SM.l34 hM, SM.a34 hM, SM.e34 hM, SM.f35 hM, SM.l35 hM, SM.a35 hM, SM.e35 hM, SM.f36 hM, SM.l36 hM, SM.a36 hM, SM.e36 hM, SM.f37 hM, SM.l37 hM, SM.a37 hM, SM.e37 hM, SM.f38 hM, SM.l38 hM, SM.a38 hM, SM.e38 hM, h21, h23, (show oadd (s : Int) (i : Int) = ((s + i : Nat) : Int) by (first | rw [oadd_id (by omega) (by omega)] | rw [osub_id (by omega) (by omega)] | rw [omul_id (by omega) (by omega)]) <;> omega)]
  refine ⟨fun q => ⟨fun q2 => hN (fun z => q2 (z.2 (by omega))), fun q2 => hY ⟨fun y => by omega, fun _ => Classical.not_not.mp q2⟩⟩, fun q => ?_⟩
  refine m_byteAt hM hP ?_
  have hb : bAt B n (s + i) = B (s + i) := if_pos (by omega)
  rw [hb]
  simp only [x_push, x_iload, x_lload, x_aload, x_bin, x_div, x_un, x_lbin, x_ldiv, x_lcmp, x_i2l, x_l2i, x_dup, x_pop, x_dup2, x_c1, x_c2, x_null, x_cat1, x_istore, x_astore, x_lstore, x_iinc, x_nol, x_tsw, xsw, x_lsw, xlsw, x_ret, x_zret, x_lret, x_aret, x_vret, x_getI, x_getL, x_getR, x_putI, x_putZ, x_putL, x_iaload, x_zaload, x_aaload, x_iastore, x_zastore, x_alen, x_mm, x_acopy, xpush, xJ, xK, x_cV0, x_cV1, x_cV2, x_cV3, x_cV4, x_cV5, x_cV6, x_cV7, x_cV8, x_cS1, x_cS2, x_cS3, x_cS4, x_cS5, List.getD_cons_zero, List.getD_cons_succ, List.set_cons_zero, List.set_cons_succ, List.length_cons, List.length_nil, Nat.zero_add, true_and, and_true, List.getD_nil, not_true, not_false_eq_true, Int.toNat_natCast, false_implies, true_implies, if_true, if_false, Int.toNat_zero, Int.toNat_one, true_or, or_true, Int.reduceEq, Int.reduceLT, Int.reduceLE, Int.reduceNe, Int.reduceNeg, Int.reduceAdd, Int.reduceSub, Int.reduceMul, Int.reduceToNat, Nat.reduceLT, Nat.reduceLeDiff, Nat.reduceAdd, Nat.reduceEqDiff, Nat.reduceSub, not_false_iff, and_self, implies_true, false_and, and_false, or_self, false_or, or_false, Int.cast_ofNat_Int, Int.natCast_nonneg]
  exact ⟨fun q2 => hN (fun z => q2 (z.1 (by omega))), fun q2 => hY ⟨fun _ => Classical.not_not.mp q2, fun y => by omega⟩⟩
theorem Lc_iff {s e w : Nat} (hw : w < 12) (hle : s ≤ e) (hlet : ∀ i, s ≤ i → i < e → isLet (B i)) : (e ≤ s + 8 ∧ ∀ i, i < 8 → Lc B s e i ((sWd w).getD i 0)) ↔ sWa B s e w = true := by
  obtain ⟨k1, k2⟩ := sWd_ok ⟨w, hw⟩
  dsimp only at k1 k2
  unfold sWa
  rw [Bool.and_eq_true, decide_eq_true_eq, sIs_iff]
  constructor
  · intro ⟨h8, h⟩
    have hlen : (sWd w).length = e - s := by
      rcases Nat.lt_trichotomy (sWd w).length (e - s) with z | z | z
      · have h1 := (h (sWd w).length (by omega)).1 (by omega)
        have h2 := (k2 ⟨(sWd w).length, by omega⟩).2 (by simp)
        have h3 := hlet (s + (sWd w).length) (by omega) (by omega)
        unfold isLet at h3
        dsimp only at h2
        omega
      · exact z
      · have h1 := (h (e - s) (by omega)).2 (by omega)
        exact absurd h1 ((k2 ⟨e - s, by omega⟩).1 z)
    exact ⟨hlen, fun i hi => ((h i (by omega)).1 (by omega)).symm⟩
  · intro ⟨hlen, h⟩
    refine ⟨by omega, fun i hi => ⟨fun y => (h i (by omega)).symm, fun y => (k2 ⟨i, hi⟩).2 (by dsimp only; omega)⟩⟩
set_option maxHeartbeats 4000000 in
theorem m_isWord {w : Nat} {l0 l1 l2 l3 l4 l5 l6 l7 : Int} (hw : w < 12) (hl : [l0, l1, l2, l3, l4, l5, l6, l7] = (List.range 8).map (fun i => (sWd w).getD i 0)) (hM : SM Γ m) (hP : PCx σ m t n B) (h26 : σ m 26 = 0 ∨ σ m 26 = 1) (hT : σ m 26 = 0 → TM σ m n B L) (hY : σ m 26 = 0 → tkC L = 260 + (w : Int) → Q (vi 1) (Γ, σ)) (hN : (σ m 26 = 0 → tkC L ≠ 260 + (w : Int)) → Q (vi 0) (Γ, σ)) : xRM M_X6_isWord (d + 3) (0, 0) [vr m, vi l0, vi l1, vi l2, vi l3, vi l4, vi l5, vi l6, vi l7] (Γ, σ) Q := by
  refine xRM_of (by decide) (Nat.le_of_ble_eq_true rfl) ?_
  have hl : [l0, l1, l2, l3, l4, l5, l6, l7] = [(sWd w).getD 0 0, (sWd w).getD 1 0, (sWd w).getD 2 0, (sWd w).getD 3 0, (sWd w).getD 4 0, (sWd w).getD 5 0, (sWd w).getD 6 0, (sWd w).getD 7 0] := hl
  simp only [List.cons.injEq, and_true] at hl
  obtain ⟨rfl, rfl, rfl, rfl, rfl, rfl, rfl, rfl⟩ := hl
  have h160 := hP.2.2.1.2
  refine b_X6_isWord_0 _ _ _ _ ?_
  show k_X6_isWord_0 (d + 2) Q (0, 0) [vr m, vi ((sWd w).getD 0 0), vi ((sWd w).getD 1 0), vi ((sWd w).getD 2 0), vi ((sWd w).getD 3 0), vi ((sWd w).getD 4 0), vi ((sWd w).getD 5 0), vi ((sWd w).getD 6 0), vi ((sWd w).getD 7 0)] [] (Γ, σ)
  simp only [k_X6_isWord_0, x_push, x_iload, x_lload, x_aload, x_bin, x_div, x_un, x_lbin, x_ldiv, x_lcmp, x_i2l, x_l2i, x_dup, x_pop, x_dup2, x_c1, x_c2, x_null, x_cat1, x_istore, x_astore, x_lstore, x_iinc, x_nol, x_tsw, xsw, x_lsw, xlsw, x_ret, x_zret, x_lret, x_aret, x_vret, x_getI, x_getL, x_getR, x_putI, x_putZ, x_putL, x_iaload, x_zaload, x_aaload, x_iastore, x_zastore, x_alen, x_mm, x_acopy, xpush, xJ, xK, x_cV0, x_cV1, x_cV2, x_cV3, x_cV4, x_cV5, x_cV6, x_cV7, x_cV8, x_cS1, x_cS2, x_cS3, x_cS4, x_cS5, List.getD_cons_zero, List.getD_cons_succ, List.set_cons_zero, List.set_cons_succ, List.length_cons, List.length_nil, Nat.zero_add, true_and, and_true, List.getD_nil, not_true, not_false_eq_true, Int.toNat_natCast, false_implies, true_implies, if_true, if_false, Int.toNat_zero, Int.toNat_one, true_or, or_true, Int.reduceEq, Int.reduceLT, Int.reduceLE, Int.reduceNe, Int.reduceNeg, Int.reduceAdd, Int.reduceSub, Int.reduceMul, Int.reduceToNat, Nat.reduceLT, Nat.reduceLeDiff, Nat.reduceAdd, Nat.reduceEqDiff, Nat.reduceSub, not_false_iff, and_self, implies_true, false_and, and_false, or_self, false_or, or_false, Int.cast_ofNat_Int, Int.natCast_nonneg, SM.f0 hM, SM.f1 hM, SM.f2 hM, SM.f3 hM, SM.f4 hM, SM.f5 hM, SM.f6 hM, SM.f7 hM, SM.f8 hM, SM.f9 hM, SM.f10 hM, SM.f11 hM, SM.f12 hM, SM.f13 hM, SM.f14 hM, SM.f15 hM, SM.f16 hM, SM.f17 hM, SM.f18 hM, SM.f19 hM, SM.f20 hM, SM.l20 hM, SM.a20 hM, SM.e20 hM, SM.f21 hM, SM.l21 hM, SM.a21 hM, SM.e21 hM, SM.f22 hM, SM.l22 hM, SM.a22 hM, SM.e22 hM, SM.f23 hM, SM.l23 hM, SM.a23 hM, SM.e23 hM, SM.f24 hM, SM.l24 hM, SM.a24 hM, SM.e24 hM, SM.f25 hM, SM.l25 hM, SM.a25 hM, SM.e25 hM, SM.f26 hM, SM.l26 hM, SM.a26 hM, SM.e26 hM, SM.f27 hM, SM.l27 hM, SM.a27 hM, SM.e27 hM, SM.f28 hM, SM.l28 hM, SM.a28 hM, SM.e28 hM, SM.f29 hM, SM.l29 hM, SM.a29 hM, SM.e29 hM, SM.f30 hM, SM.l30 hM, SM.a30 hM, SM.e30 hM, SM.f31 hM, SM.l31 hM, SM.a31 hM, SM.e31 hM, SM.f32 hM, SM.l32 hM, SM.a32 hM, SM.e32 hM, SM.f33 hM, SM.l33 hM, SM.a33 hM, SM.e33 hM, SM.f34 hM, SM.l34 hM, SM.a34 hM, SM.e34 hM, SM.f35 hM, SM.l35 hM, SM.a35 hM, SM.e35 hM, SM.f36 hM, SM.l36 hM, SM.a36 hM, SM.e36 hM, SM.f37 hM, SM.l37 hM, SM.a37 hM, SM.e37 hM, SM.f38 hM, SM.l38 hM, SM.a38 hM, SM.e38 hM]
  refine ⟨fun q => hN (fun z => absurd z q), fun q => ?_⟩
  have q0 : σ m 26 = 0 := Classical.not_not.mp q
  obtain ⟨s, hs, h23, hS, hc⟩ := (hT q0).cls
  rcases hc with ⟨hc, h22⟩ | ⟨e, h22, h21, se, en, hlet, hc, -⟩ | ⟨hc, h22, -⟩ | ⟨hc, h22, h24, -⟩ | ⟨hc, h22⟩
  · rw [h22]
    exact ⟨fun _ => hN (fun _ => by omega), fun y => absurd (by decide) y⟩
  · rw [h22, h21, h23]
    refine ⟨fun y => absurd rfl y, fun _ => ?_⟩
    rw [oadd_id (by omega) (by omega)]
    have key := Lc_iff (B := B) (s := s) (e := e) hw (by omega) hlet
    have hk : tkC L = 260 + (w : Int) ↔ sWa B s e w = true := by
      rw [hc, sWk_iff 12 (Nat.le_refl _) hw]
      exact ⟨fun y => y.2, fun y => ⟨hw, y⟩⟩
    refine ⟨fun y => hN (fun _ z => ?_), fun y8 => ?_⟩
    · have := (key.mpr (hk.mp z)).1
      omega
    · have no : ∀ i, i < 8 → ¬ Lc B s e i ((sWd w).getD i 0) → Q (vi 0) (Γ, σ) := fun i hi z => hN (fun _ y => z ((key.mpr (hk.mp y)).2 i hi))
      refine m_isLetter (i := 0) hM hP (by decide) h21 h23 en hs (fun y0 => ?_) (fun y => ?_)
      rotate_left
      · simp only [x_push, x_iload, x_lload, x_aload, x_bin, x_div, x_un, x_lbin, x_ldiv, x_lcmp, x_i2l, x_l2i, x_dup, x_pop, x_dup2, x_c1, x_c2, x_null, x_cat1, x_istore, x_astore, x_lstore, x_iinc, x_nol, x_tsw, xsw, x_lsw, xlsw, x_ret, x_zret, x_lret, x_aret, x_vret, x_getI, x_getL, x_getR, x_putI, x_putZ, x_putL, x_iaload, x_zaload, x_aaload, x_iastore, x_zastore, x_alen, x_mm, x_acopy, xpush, xJ, xK, x_cV0, x_cV1, x_cV2, x_cV3, x_cV4, x_cV5, x_cV6, x_cV7, x_cV8, x_cS1, x_cS2, x_cS3, x_cS4, x_cS5, List.getD_cons_zero, List.getD_cons_succ, List.set_cons_zero, List.set_cons_succ, List.length_cons, List.length_nil, Nat.zero_add, true_and, and_true, List.getD_nil, not_true, not_false_eq_true, Int.toNat_natCast, false_implies, true_implies, if_true, if_false, Int.toNat_zero, Int.toNat_one, true_or, or_true, Int.reduceEq, Int.reduceLT, Int.reduceLE, Int.reduceNe, Int.reduceNeg, Int.reduceAdd, Int.reduceSub, Int.reduceMul, Int.reduceToNat, Nat.reduceLT, Nat.reduceLeDiff, Nat.reduceAdd, Nat.reduceEqDiff, Nat.reduceSub, not_false_iff, and_self, implies_true, false_and, and_false, or_self, false_or, or_false, Int.cast_ofNat_Int, Int.natCast_nonneg]
        exact no 0 (by decide) y
      simp only [x_push, x_iload, x_lload, x_aload, x_bin, x_div, x_un, x_lbin, x_ldiv, x_lcmp, x_i2l, x_l2i, x_dup, x_pop, x_dup2, x_c1, x_c2, x_null, x_cat1, x_istore, x_astore, x_lstore, x_iinc, x_nol, x_tsw, xsw, x_lsw, xlsw, x_ret, x_zret, x_lret, x_aret, x_vret, x_getI, x_getL, x_getR, x_putI, x_putZ, x_putL, x_iaload, x_zaload, x_aaload, x_iastore, x_zastore, x_alen, x_mm, x_acopy, xpush, xJ, xK, x_cV0, x_cV1, x_cV2, x_cV3, x_cV4, x_cV5, x_cV6, x_cV7, x_cV8, x_cS1, x_cS2, x_cS3, x_cS4, x_cS5, List.getD_cons_zero, List.getD_cons_succ, List.set_cons_zero, List.set_cons_succ, List.length_cons, List.length_nil, Nat.zero_add, true_and, and_true, List.getD_nil, not_true, not_false_eq_true, Int.toNat_natCast, false_implies, true_implies, if_true, if_false, Int.toNat_zero, Int.toNat_one, true_or, or_true, Int.reduceEq, Int.reduceLT, Int.reduceLE, Int.reduceNe, Int.reduceNeg, Int.reduceAdd, Int.reduceSub, Int.reduceMul, Int.reduceToNat, Nat.reduceLT, Nat.reduceLeDiff, Nat.reduceAdd, Nat.reduceEqDiff, Nat.reduceSub, not_false_iff, and_self, implies_true, false_and, and_false, or_self, false_or, or_false, Int.cast_ofNat_Int, Int.natCast_nonneg, SM.f0 hM, SM.f1 hM, SM.f2 hM, SM.f3 hM, SM.f4 hM, SM.f5 hM, SM.f6 hM, SM.f7 hM, SM.f8 hM, SM.f9 hM, SM.f10 hM, SM.f11 hM, SM.f12 hM, SM.f13 hM, SM.f14 hM, SM.f15 hM, SM.f16 hM, SM.f17 hM, SM.f18 hM, SM.f19 hM, SM.f20 hM, SM.l20 hM, SM.a20 hM, SM.e20 hM, SM.f21 hM, SM.l21 hM, SM.a21 hM, SM.e21 hM, SM.f22 hM, SM.l22 hM, SM.a22 hM, SM.e22 hM, SM.f23 hM, SM.l23 hM, SM.a23 hM, SM.e23 hM, SM.f24 hM, SM.l24 hM, SM.a24 hM, SM.e24 hM, SM.f25 hM, SM.l25 hM, SM.a25 hM, SM.e25 hM, SM.f26 hM, SM.l26 hM, SM.a26 hM, SM.e26 hM, SM.f27 hM, SM.l27 hM, SM.a27 hM, SM.e27 hM, SM.f28 hM, SM.l28 hM, SM.a28 hM, SM.e28 hM, SM.f29 hM, SM.l29 hM, SM.a29 hM, SM.e29 hM, SM.f30 hM, SM.l30 hM, SM.a30 hM, SM.e30 hM, SM.f31 hM, SM.l31 hM, SM.a31 hM, SM.e31 hM, SM.f32 hM, SM.l32 hM, SM.a32 hM, SM.e32 hM, SM.f33 hM, SM.l33 hM, SM.a33 hM, SM.e33 hM, SM.f34 hM, SM.l34 hM, SM.a34 hM, SM.e34 hM, SM.f35 hM, SM.l35 hM, SM.a35 hM, SM.e35 hM, SM.f36 hM, SM.l36 hM, SM.a36 hM, SM.e36 hM, SM.f37 hM, SM.l37 hM, SM.a37 hM, SM.e37 hM, SM.f38 hM, SM.l38 hM, SM.a38 hM, SM.e38 hM]
      refine m_isLetter (i := 1) hM hP (by decide) h21 h23 en hs (fun y1 => ?_) (fun y => ?_)
      rotate_left
      · simp only [x_push, x_iload, x_lload, x_aload, x_bin, x_div, x_un, x_lbin, x_ldiv, x_lcmp, x_i2l, x_l2i, x_dup, x_pop, x_dup2, x_c1, x_c2, x_null, x_cat1, x_istore, x_astore, x_lstore, x_iinc, x_nol, x_tsw, xsw, x_lsw, xlsw, x_ret, x_zret, x_lret, x_aret, x_vret, x_getI, x_getL, x_getR, x_putI, x_putZ, x_putL, x_iaload, x_zaload, x_aaload, x_iastore, x_zastore, x_alen, x_mm, x_acopy, xpush, xJ, xK, x_cV0, x_cV1, x_cV2, x_cV3, x_cV4, x_cV5, x_cV6, x_cV7, x_cV8, x_cS1, x_cS2, x_cS3, x_cS4, x_cS5, List.getD_cons_zero, List.getD_cons_succ, List.set_cons_zero, List.set_cons_succ, List.length_cons, List.length_nil, Nat.zero_add, true_and, and_true, List.getD_nil, not_true, not_false_eq_true, Int.toNat_natCast, false_implies, true_implies, if_true, if_false, Int.toNat_zero, Int.toNat_one, true_or, or_true, Int.reduceEq, Int.reduceLT, Int.reduceLE, Int.reduceNe, Int.reduceNeg, Int.reduceAdd, Int.reduceSub, Int.reduceMul, Int.reduceToNat, Nat.reduceLT, Nat.reduceLeDiff, Nat.reduceAdd, Nat.reduceEqDiff, Nat.reduceSub, not_false_iff, and_self, implies_true, false_and, and_false, or_self, false_or, or_false, Int.cast_ofNat_Int, Int.natCast_nonneg]
        exact no 1 (by decide) y
      simp only [x_push, x_iload, x_lload, x_aload, x_bin, x_div, x_un, x_lbin, x_ldiv, x_lcmp, x_i2l, x_l2i, x_dup, x_pop, x_dup2, x_c1, x_c2, x_null, x_cat1, x_istore, x_astore, x_lstore, x_iinc, x_nol, x_tsw, xsw, x_lsw, xlsw, x_ret, x_zret, x_lret, x_aret, x_vret, x_getI, x_getL, x_getR, x_putI, x_putZ, x_putL, x_iaload, x_zaload, x_aaload, x_iastore, x_zastore, x_alen, x_mm, x_acopy, xpush, xJ, xK, x_cV0, x_cV1, x_cV2, x_cV3, x_cV4, x_cV5, x_cV6, x_cV7, x_cV8, x_cS1, x_cS2, x_cS3, x_cS4, x_cS5, List.getD_cons_zero, List.getD_cons_succ, List.set_cons_zero, List.set_cons_succ, List.length_cons, List.length_nil, Nat.zero_add, true_and, and_true, List.getD_nil, not_true, not_false_eq_true, Int.toNat_natCast, false_implies, true_implies, if_true, if_false, Int.toNat_zero, Int.toNat_one, true_or, or_true, Int.reduceEq, Int.reduceLT, Int.reduceLE, Int.reduceNe, Int.reduceNeg, Int.reduceAdd, Int.reduceSub, Int.reduceMul, Int.reduceToNat, Nat.reduceLT, Nat.reduceLeDiff, Nat.reduceAdd, Nat.reduceEqDiff, Nat.reduceSub, not_false_iff, and_self, implies_true, false_and, and_false, or_self, false_or, or_false, Int.cast_ofNat_Int, Int.natCast_nonneg, SM.f0 hM, SM.f1 hM, SM.f2 hM, SM.f3 hM, SM.f4 hM, SM.f5 hM, SM.f6 hM, SM.f7 hM, SM.f8 hM, SM.f9 hM, SM.f10 hM, SM.f11 hM, SM.f12 hM, SM.f13 hM, SM.f14 hM, SM.f15 hM, SM.f16 hM, SM.f17 hM, SM.f18 hM, SM.f19 hM, SM.f20 hM, SM.l20 hM, SM.a20 hM, SM.e20 hM, SM.f21 hM, SM.l21 hM, SM.a21 hM, SM.e21 hM, SM.f22 hM, SM.l22 hM, SM.a22 hM, SM.e22 hM, SM.f23 hM, SM.l23 hM, SM.a23 hM, SM.e23 hM, SM.f24 hM, SM.l24 hM, SM.a24 hM, SM.e24 hM, SM.f25 hM, SM.l25 hM, SM.a25 hM, SM.e25 hM, SM.f26 hM, SM.l26 hM, SM.a26 hM, SM.e26 hM, SM.f27 hM, SM.l27 hM, SM.a27 hM, SM.e27 hM, SM.f28 hM, SM.l28 hM, SM.a28 hM, SM.e28 hM, SM.f29 hM, SM.l29 hM, SM.a29 hM, SM.e29 hM, SM.f30 hM, SM.l30 hM, SM.a30 hM, SM.e30 hM, SM.f31 hM, SM.l31 hM, SM.a31 hM, SM.e31 hM, SM.f32 hM, SM.l32 hM, SM.a32 hM, SM.e32 hM, SM.f33 hM, SM.l33 hM, SM.a33 hM, SM.e33 hM, SM.f34 hM, SM.l34 hM, SM.a34 hM, SM.e34 hM, SM.f35 hM, SM.l35 hM, SM.a35 hM, SM.e35 hM, SM.f36 hM, SM.l36 hM, SM.a36 hM, SM.e36 hM, SM.f37 hM, SM.l37 hM, SM.a37 hM, SM.e37 hM, SM.f38 hM, SM.l38 hM, SM.a38 hM, SM.e38 hM]
      refine m_isLetter (i := 2) hM hP (by decide) h21 h23 en hs (fun y2 => ?_) (fun y => ?_)
      rotate_left
      · simp only [x_push, x_iload, x_lload, x_aload, x_bin, x_div, x_un, x_lbin, x_ldiv, x_lcmp, x_i2l, x_l2i, x_dup, x_pop, x_dup2, x_c1, x_c2, x_null, x_cat1, x_istore, x_astore, x_lstore, x_iinc, x_nol, x_tsw, xsw, x_lsw, xlsw, x_ret, x_zret, x_lret, x_aret, x_vret, x_getI, x_getL, x_getR, x_putI, x_putZ, x_putL, x_iaload, x_zaload, x_aaload, x_iastore, x_zastore, x_alen, x_mm, x_acopy, xpush, xJ, xK, x_cV0, x_cV1, x_cV2, x_cV3, x_cV4, x_cV5, x_cV6, x_cV7, x_cV8, x_cS1, x_cS2, x_cS3, x_cS4, x_cS5, List.getD_cons_zero, List.getD_cons_succ, List.set_cons_zero, List.set_cons_succ, List.length_cons, List.length_nil, Nat.zero_add, true_and, and_true, List.getD_nil, not_true, not_false_eq_true, Int.toNat_natCast, false_implies, true_implies, if_true, if_false, Int.toNat_zero, Int.toNat_one, true_or, or_true, Int.reduceEq, Int.reduceLT, Int.reduceLE, Int.reduceNe, Int.reduceNeg, Int.reduceAdd, Int.reduceSub, Int.reduceMul, Int.reduceToNat, Nat.reduceLT, Nat.reduceLeDiff, Nat.reduceAdd, Nat.reduceEqDiff, Nat.reduceSub, not_false_iff, and_self, implies_true, false_and, and_false, or_self, false_or, or_false, Int.cast_ofNat_Int, Int.natCast_nonneg]
        exact no 2 (by decide) y
      simp only [x_push, x_iload, x_lload, x_aload, x_bin, x_div, x_un, x_lbin, x_ldiv, x_lcmp, x_i2l, x_l2i, x_dup, x_pop, x_dup2, x_c1, x_c2, x_null, x_cat1, x_istore, x_astore, x_lstore, x_iinc, x_nol, x_tsw, xsw, x_lsw, xlsw, x_ret, x_zret, x_lret, x_aret, x_vret, x_getI, x_getL, x_getR, x_putI, x_putZ, x_putL, x_iaload, x_zaload, x_aaload, x_iastore, x_zastore, x_alen, x_mm, x_acopy, xpush, xJ, xK, x_cV0, x_cV1, x_cV2, x_cV3, x_cV4, x_cV5, x_cV6, x_cV7, x_cV8, x_cS1, x_cS2, x_cS3, x_cS4, x_cS5, List.getD_cons_zero, List.getD_cons_succ, List.set_cons_zero, List.set_cons_succ, List.length_cons, List.length_nil, Nat.zero_add, true_and, and_true, List.getD_nil, not_true, not_false_eq_true, Int.toNat_natCast, false_implies, true_implies, if_true, if_false, Int.toNat_zero, Int.toNat_one, true_or, or_true, Int.reduceEq, Int.reduceLT, Int.reduceLE, Int.reduceNe, Int.reduceNeg, Int.reduceAdd, Int.reduceSub, Int.reduceMul, Int.reduceToNat, Nat.reduceLT, Nat.reduceLeDiff, Nat.reduceAdd, Nat.reduceEqDiff, Nat.reduceSub, not_false_iff, and_self, implies_true, false_and, and_false, or_self, false_or, or_false, Int.cast_ofNat_Int, Int.natCast_nonneg, SM.f0 hM, SM.f1 hM, SM.f2 hM, SM.f3 hM, SM.f4 hM, SM.f5 hM, SM.f6 hM, SM.f7 hM, SM.f8 hM, SM.f9 hM, SM.f10 hM, SM.f11 hM, SM.f12 hM, SM.f13 hM, SM.f14 hM, SM.f15 hM, SM.f16 hM, SM.f17 hM, SM.f18 hM, SM.f19 hM, SM.f20 hM, SM.l20 hM, SM.a20 hM, SM.e20 hM, SM.f21 hM, SM.l21 hM, SM.a21 hM, SM.e21 hM, SM.f22 hM, SM.l22 hM, SM.a22 hM, SM.e22 hM, SM.f23 hM, SM.l23 hM, SM.a23 hM, SM.e23 hM, SM.f24 hM, SM.l24 hM, SM.a24 hM, SM.e24 hM, SM.f25 hM, SM.l25 hM, SM.a25 hM, SM.e25 hM, SM.f26 hM, SM.l26 hM, SM.a26 hM, SM.e26 hM, SM.f27 hM, SM.l27 hM, SM.a27 hM, SM.e27 hM, SM.f28 hM, SM.l28 hM, SM.a28 hM, SM.e28 hM, SM.f29 hM, SM.l29 hM, SM.a29 hM, SM.e29 hM, SM.f30 hM, SM.l30 hM, SM.a30 hM, SM.e30 hM, SM.f31 hM, SM.l31 hM, SM.a31 hM, SM.e31 hM, SM.f32 hM, SM.l32 hM, SM.a32 hM, SM.e32 hM, SM.f33 hM, SM.l33 hM, SM.a33 hM, SM.e33 hM, SM.f34 hM, SM.l34 hM, SM.a34 hM, SM.e34 hM, SM.f35 hM, SM.l35 hM, SM.a35 hM, SM.e35 hM, SM.f36 hM, SM.l36 hM, SM.a36 hM, SM.e36 hM, SM.f37 hM, SM.l37 hM, SM.a37 hM, SM.e37 hM, SM.f38 hM, SM.l38 hM, SM.a38 hM, SM.e38 hM]
      refine m_isLetter (i := 3) hM hP (by decide) h21 h23 en hs (fun y3 => ?_) (fun y => ?_)
      rotate_left
      · simp only [x_push, x_iload, x_lload, x_aload, x_bin, x_div, x_un, x_lbin, x_ldiv, x_lcmp, x_i2l, x_l2i, x_dup, x_pop, x_dup2, x_c1, x_c2, x_null, x_cat1, x_istore, x_astore, x_lstore, x_iinc, x_nol, x_tsw, xsw, x_lsw, xlsw, x_ret, x_zret, x_lret, x_aret, x_vret, x_getI, x_getL, x_getR, x_putI, x_putZ, x_putL, x_iaload, x_zaload, x_aaload, x_iastore, x_zastore, x_alen, x_mm, x_acopy, xpush, xJ, xK, x_cV0, x_cV1, x_cV2, x_cV3, x_cV4, x_cV5, x_cV6, x_cV7, x_cV8, x_cS1, x_cS2, x_cS3, x_cS4, x_cS5, List.getD_cons_zero, List.getD_cons_succ, List.set_cons_zero, List.set_cons_succ, List.length_cons, List.length_nil, Nat.zero_add, true_and, and_true, List.getD_nil, not_true, not_false_eq_true, Int.toNat_natCast, false_implies, true_implies, if_true, if_false, Int.toNat_zero, Int.toNat_one, true_or, or_true, Int.reduceEq, Int.reduceLT, Int.reduceLE, Int.reduceNe, Int.reduceNeg, Int.reduceAdd, Int.reduceSub, Int.reduceMul, Int.reduceToNat, Nat.reduceLT, Nat.reduceLeDiff, Nat.reduceAdd, Nat.reduceEqDiff, Nat.reduceSub, not_false_iff, and_self, implies_true, false_and, and_false, or_self, false_or, or_false, Int.cast_ofNat_Int, Int.natCast_nonneg]
        exact no 3 (by decide) y
      simp only [x_push, x_iload, x_lload, x_aload, x_bin, x_div, x_un, x_lbin, x_ldiv, x_lcmp, x_i2l, x_l2i, x_dup, x_pop, x_dup2, x_c1, x_c2, x_null, x_cat1, x_istore, x_astore, x_lstore, x_iinc, x_nol, x_tsw, xsw, x_lsw, xlsw, x_ret, x_zret, x_lret, x_aret, x_vret, x_getI, x_getL, x_getR, x_putI, x_putZ, x_putL, x_iaload, x_zaload, x_aaload, x_iastore, x_zastore, x_alen, x_mm, x_acopy, xpush, xJ, xK, x_cV0, x_cV1, x_cV2, x_cV3, x_cV4, x_cV5, x_cV6, x_cV7, x_cV8, x_cS1, x_cS2, x_cS3, x_cS4, x_cS5, List.getD_cons_zero, List.getD_cons_succ, List.set_cons_zero, List.set_cons_succ, List.length_cons, List.length_nil, Nat.zero_add, true_and, and_true, List.getD_nil, not_true, not_false_eq_true, Int.toNat_natCast, false_implies, true_implies, if_true, if_false, Int.toNat_zero, Int.toNat_one, true_or, or_true, Int.reduceEq, Int.reduceLT, Int.reduceLE, Int.reduceNe, Int.reduceNeg, Int.reduceAdd, Int.reduceSub, Int.reduceMul, Int.reduceToNat, Nat.reduceLT, Nat.reduceLeDiff, Nat.reduceAdd, Nat.reduceEqDiff, Nat.reduceSub, not_false_iff, and_self, implies_true, false_and, and_false, or_self, false_or, or_false, Int.cast_ofNat_Int, Int.natCast_nonneg, SM.f0 hM, SM.f1 hM, SM.f2 hM, SM.f3 hM, SM.f4 hM, SM.f5 hM, SM.f6 hM, SM.f7 hM, SM.f8 hM, SM.f9 hM, SM.f10 hM, SM.f11 hM, SM.f12 hM, SM.f13 hM, SM.f14 hM, SM.f15 hM, SM.f16 hM, SM.f17 hM, SM.f18 hM, SM.f19 hM, SM.f20 hM, SM.l20 hM, SM.a20 hM, SM.e20 hM, SM.f21 hM, SM.l21 hM, SM.a21 hM, SM.e21 hM, SM.f22 hM, SM.l22 hM, SM.a22 hM, SM.e22 hM, SM.f23 hM, SM.l23 hM, SM.a23 hM, SM.e23 hM, SM.f24 hM, SM.l24 hM, SM.a24 hM, SM.e24 hM, SM.f25 hM, SM.l25 hM, SM.a25 hM, SM.e25 hM, SM.f26 hM, SM.l26 hM, SM.a26 hM, SM.e26 hM, SM.f27 hM, SM.l27 hM, SM.a27 hM, SM.e27 hM, SM.f28 hM, SM.l28 hM, SM.a28 hM, SM.e28 hM, SM.f29 hM, SM.l29 hM, SM.a29 hM, SM.e29 hM, SM.f30 hM, SM.l30 hM, SM.a30 hM, SM.e30 hM, SM.f31 hM, SM.l31 hM, SM.a31 hM, SM.e31 hM, SM.f32 hM, SM.l32 hM, SM.a32 hM, SM.e32 hM, SM.f33 hM, SM.l33 hM, SM.a33 hM, SM.e33 hM, SM.f34 hM, SM.l34 hM, SM.a34 hM, SM.e34 hM, SM.f35 hM, SM.l35 hM, SM.a35 hM, SM.e35 hM, SM.f36 hM, SM.l36 hM, SM.a36 hM, SM.e36 hM, SM.f37 hM, SM.l37 hM, SM.a37 hM, SM.e37 hM, SM.f38 hM, SM.l38 hM, SM.a38 hM, SM.e38 hM]
      refine m_isLetter (i := 4) hM hP (by decide) h21 h23 en hs (fun y4 => ?_) (fun y => ?_)
      rotate_left
      · simp only [x_push, x_iload, x_lload, x_aload, x_bin, x_div, x_un, x_lbin, x_ldiv, x_lcmp, x_i2l, x_l2i, x_dup, x_pop, x_dup2, x_c1, x_c2, x_null, x_cat1, x_istore, x_astore, x_lstore, x_iinc, x_nol, x_tsw, xsw, x_lsw, xlsw, x_ret, x_zret, x_lret, x_aret, x_vret, x_getI, x_getL, x_getR, x_putI, x_putZ, x_putL, x_iaload, x_zaload, x_aaload, x_iastore, x_zastore, x_alen, x_mm, x_acopy, xpush, xJ, xK, x_cV0, x_cV1, x_cV2, x_cV3, x_cV4, x_cV5, x_cV6, x_cV7, x_cV8, x_cS1, x_cS2, x_cS3, x_cS4, x_cS5, List.getD_cons_zero, List.getD_cons_succ, List.set_cons_zero, List.set_cons_succ, List.length_cons, List.length_nil, Nat.zero_add, true_and, and_true, List.getD_nil, not_true, not_false_eq_true, Int.toNat_natCast, false_implies, true_implies, if_true, if_false, Int.toNat_zero, Int.toNat_one, true_or, or_true, Int.reduceEq, Int.reduceLT, Int.reduceLE, Int.reduceNe, Int.reduceNeg, Int.reduceAdd, Int.reduceSub, Int.reduceMul, Int.reduceToNat, Nat.reduceLT, Nat.reduceLeDiff, Nat.reduceAdd, Nat.reduceEqDiff, Nat.reduceSub, not_false_iff, and_self, implies_true, false_and, and_false, or_self, false_or, or_false, Int.cast_ofNat_Int, Int.natCast_nonneg]
        exact no 4 (by decide) y
      simp only [x_push, x_iload, x_lload, x_aload, x_bin, x_div, x_un, x_lbin, x_ldiv, x_lcmp, x_i2l, x_l2i, x_dup, x_pop, x_dup2, x_c1, x_c2, x_null, x_cat1, x_istore, x_astore, x_lstore, x_iinc, x_nol, x_tsw, xsw, x_lsw, xlsw, x_ret, x_zret, x_lret, x_aret, x_vret, x_getI, x_getL, x_getR, x_putI, x_putZ, x_putL, x_iaload, x_zaload, x_aaload, x_iastore, x_zastore, x_alen, x_mm, x_acopy, xpush, xJ, xK, x_cV0, x_cV1, x_cV2, x_cV3, x_cV4, x_cV5, x_cV6, x_cV7, x_cV8, x_cS1, x_cS2, x_cS3, x_cS4, x_cS5, List.getD_cons_zero, List.getD_cons_succ, List.set_cons_zero, List.set_cons_succ, List.length_cons, List.length_nil, Nat.zero_add, true_and, and_true, List.getD_nil, not_true, not_false_eq_true, Int.toNat_natCast, false_implies, true_implies, if_true, if_false, Int.toNat_zero, Int.toNat_one, true_or, or_true, Int.reduceEq, Int.reduceLT, Int.reduceLE, Int.reduceNe, Int.reduceNeg, Int.reduceAdd, Int.reduceSub, Int.reduceMul, Int.reduceToNat, Nat.reduceLT, Nat.reduceLeDiff, Nat.reduceAdd, Nat.reduceEqDiff, Nat.reduceSub, not_false_iff, and_self, implies_true, false_and, and_false, or_self, false_or, or_false, Int.cast_ofNat_Int, Int.natCast_nonneg, SM.f0 hM, SM.f1 hM, SM.f2 hM, SM.f3 hM, SM.f4 hM, SM.f5 hM, SM.f6 hM, SM.f7 hM, SM.f8 hM, SM.f9 hM, SM.f10 hM, SM.f11 hM, SM.f12 hM, SM.f13 hM, SM.f14 hM, SM.f15 hM, SM.f16 hM, SM.f17 hM, SM.f18 hM, SM.f19 hM, SM.f20 hM, SM.l20 hM, SM.a20 hM, SM.e20 hM, SM.f21 hM, SM.l21 hM, SM.a21 hM, SM.e21 hM, SM.f22 hM, SM.l22 hM, SM.a22 hM, SM.e22 hM, SM.f23 hM, SM.l23 hM, SM.a23 hM, SM.e23 hM, SM.f24 hM, SM.l24 hM, SM.a24 hM, SM.e24 hM, SM.f25 hM, SM.l25 hM, SM.a25 hM, SM.e25 hM, SM.f26 hM, SM.l26 hM, SM.a26 hM, SM.e26 hM, SM.f27 hM, SM.l27 hM, SM.a27 hM, SM.e27 hM, SM.f28 hM, SM.l28 hM, SM.a28 hM, SM.e28 hM, SM.f29 hM, SM.l29 hM, SM.a29 hM, SM.e29 hM, SM.f30 hM, SM.l30 hM, SM.a30 hM, SM.e30 hM, SM.f31 hM, SM.l31 hM, SM.a31 hM, SM.e31 hM, SM.f32 hM, SM.l32 hM, SM.a32 hM, SM.e32 hM, SM.f33 hM, SM.l33 hM, SM.a33 hM, SM.e33 hM, SM.f34 hM, SM.l34 hM, SM.a34 hM, SM.e34 hM, SM.f35 hM, SM.l35 hM, SM.a35 hM, SM.e35 hM, SM.f36 hM, SM.l36 hM, SM.a36 hM, SM.e36 hM, SM.f37 hM, SM.l37 hM, SM.a37 hM, SM.e37 hM, SM.f38 hM, SM.l38 hM, SM.a38 hM, SM.e38 hM]
      refine m_isLetter (i := 5) hM hP (by decide) h21 h23 en hs (fun y5 => ?_) (fun y => ?_)
      rotate_left
      · simp only [x_push, x_iload, x_lload, x_aload, x_bin, x_div, x_un, x_lbin, x_ldiv, x_lcmp, x_i2l, x_l2i, x_dup, x_pop, x_dup2, x_c1, x_c2, x_null, x_cat1, x_istore, x_astore, x_lstore, x_iinc, x_nol, x_tsw, xsw, x_lsw, xlsw, x_ret, x_zret, x_lret, x_aret, x_vret, x_getI, x_getL, x_getR, x_putI, x_putZ, x_putL, x_iaload, x_zaload, x_aaload, x_iastore, x_zastore, x_alen, x_mm, x_acopy, xpush, xJ, xK, x_cV0, x_cV1, x_cV2, x_cV3, x_cV4, x_cV5, x_cV6, x_cV7, x_cV8, x_cS1, x_cS2, x_cS3, x_cS4, x_cS5, List.getD_cons_zero, List.getD_cons_succ, List.set_cons_zero, List.set_cons_succ, List.length_cons, List.length_nil, Nat.zero_add, true_and, and_true, List.getD_nil, not_true, not_false_eq_true, Int.toNat_natCast, false_implies, true_implies, if_true, if_false, Int.toNat_zero, Int.toNat_one, true_or, or_true, Int.reduceEq, Int.reduceLT, Int.reduceLE, Int.reduceNe, Int.reduceNeg, Int.reduceAdd, Int.reduceSub, Int.reduceMul, Int.reduceToNat, Nat.reduceLT, Nat.reduceLeDiff, Nat.reduceAdd, Nat.reduceEqDiff, Nat.reduceSub, not_false_iff, and_self, implies_true, false_and, and_false, or_self, false_or, or_false, Int.cast_ofNat_Int, Int.natCast_nonneg]
        exact no 5 (by decide) y
      simp only [x_push, x_iload, x_lload, x_aload, x_bin, x_div, x_un, x_lbin, x_ldiv, x_lcmp, x_i2l, x_l2i, x_dup, x_pop, x_dup2, x_c1, x_c2, x_null, x_cat1, x_istore, x_astore, x_lstore, x_iinc, x_nol, x_tsw, xsw, x_lsw, xlsw, x_ret, x_zret, x_lret, x_aret, x_vret, x_getI, x_getL, x_getR, x_putI, x_putZ, x_putL, x_iaload, x_zaload, x_aaload, x_iastore, x_zastore, x_alen, x_mm, x_acopy, xpush, xJ, xK, x_cV0, x_cV1, x_cV2, x_cV3, x_cV4, x_cV5, x_cV6, x_cV7, x_cV8, x_cS1, x_cS2, x_cS3, x_cS4, x_cS5, List.getD_cons_zero, List.getD_cons_succ, List.set_cons_zero, List.set_cons_succ, List.length_cons, List.length_nil, Nat.zero_add, true_and, and_true, List.getD_nil, not_true, not_false_eq_true, Int.toNat_natCast, false_implies, true_implies, if_true, if_false, Int.toNat_zero, Int.toNat_one, true_or, or_true, Int.reduceEq, Int.reduceLT, Int.reduceLE, Int.reduceNe, Int.reduceNeg, Int.reduceAdd, Int.reduceSub, Int.reduceMul, Int.reduceToNat, Nat.reduceLT, Nat.reduceLeDiff, Nat.reduceAdd, Nat.reduceEqDiff, Nat.reduceSub, not_false_iff, and_self, implies_true, false_and, and_false, or_self, false_or, or_false, Int.cast_ofNat_Int, Int.natCast_nonneg, SM.f0 hM, SM.f1 hM, SM.f2 hM, SM.f3 hM, SM.f4 hM, SM.f5 hM, SM.f6 hM, SM.f7 hM, SM.f8 hM, SM.f9 hM, SM.f10 hM, SM.f11 hM, SM.f12 hM, SM.f13 hM, SM.f14 hM, SM.f15 hM, SM.f16 hM, SM.f17 hM, SM.f18 hM, SM.f19 hM, SM.f20 hM, SM.l20 hM, SM.a20 hM, SM.e20 hM, SM.f21 hM, SM.l21 hM, SM.a21 hM, SM.e21 hM, SM.f22 hM, SM.l22 hM, SM.a22 hM, SM.e22 hM, SM.f23 hM, SM.l23 hM, SM.a23 hM, SM.e23 hM, SM.f24 hM, SM.l24 hM, SM.a24 hM, SM.e24 hM, SM.f25 hM, SM.l25 hM, SM.a25 hM, SM.e25 hM, SM.f26 hM, SM.l26 hM, SM.a26 hM, SM.e26 hM, SM.f27 hM, SM.l27 hM, SM.a27 hM, SM.e27 hM, SM.f28 hM, SM.l28 hM, SM.a28 hM, SM.e28 hM, SM.f29 hM, SM.l29 hM, SM.a29 hM, SM.e29 hM, SM.f30 hM, SM.l30 hM, SM.a30 hM, SM.e30 hM, SM.f31 hM, SM.l31 hM, SM.a31 hM, SM.e31 hM, SM.f32 hM, SM.l32 hM, SM.a32 hM, SM.e32 hM, SM.f33 hM, SM.l33 hM, SM.a33 hM, SM.e33 hM, SM.f34 hM, SM.l34 hM, SM.a34 hM, SM.e34 hM, SM.f35 hM, SM.l35 hM, SM.a35 hM, SM.e35 hM, SM.f36 hM, SM.l36 hM, SM.a36 hM, SM.e36 hM, SM.f37 hM, SM.l37 hM, SM.a37 hM, SM.e37 hM, SM.f38 hM, SM.l38 hM, SM.a38 hM, SM.e38 hM]
      refine m_isLetter (i := 6) hM hP (by decide) h21 h23 en hs (fun y6 => ?_) (fun y => ?_)
      rotate_left
      · simp only [x_push, x_iload, x_lload, x_aload, x_bin, x_div, x_un, x_lbin, x_ldiv, x_lcmp, x_i2l, x_l2i, x_dup, x_pop, x_dup2, x_c1, x_c2, x_null, x_cat1, x_istore, x_astore, x_lstore, x_iinc, x_nol, x_tsw, xsw, x_lsw, xlsw, x_ret, x_zret, x_lret, x_aret, x_vret, x_getI, x_getL, x_getR, x_putI, x_putZ, x_putL, x_iaload, x_zaload, x_aaload, x_iastore, x_zastore, x_alen, x_mm, x_acopy, xpush, xJ, xK, x_cV0, x_cV1, x_cV2, x_cV3, x_cV4, x_cV5, x_cV6, x_cV7, x_cV8, x_cS1, x_cS2, x_cS3, x_cS4, x_cS5, List.getD_cons_zero, List.getD_cons_succ, List.set_cons_zero, List.set_cons_succ, List.length_cons, List.length_nil, Nat.zero_add, true_and, and_true, List.getD_nil, not_true, not_false_eq_true, Int.toNat_natCast, false_implies, true_implies, if_true, if_false, Int.toNat_zero, Int.toNat_one, true_or, or_true, Int.reduceEq, Int.reduceLT, Int.reduceLE, Int.reduceNe, Int.reduceNeg, Int.reduceAdd, Int.reduceSub, Int.reduceMul, Int.reduceToNat, Nat.reduceLT, Nat.reduceLeDiff, Nat.reduceAdd, Nat.reduceEqDiff, Nat.reduceSub, not_false_iff, and_self, implies_true, false_and, and_false, or_self, false_or, or_false, Int.cast_ofNat_Int, Int.natCast_nonneg]
        exact no 6 (by decide) y
      simp only [x_push, x_iload, x_lload, x_aload, x_bin, x_div, x_un, x_lbin, x_ldiv, x_lcmp, x_i2l, x_l2i, x_dup, x_pop, x_dup2, x_c1, x_c2, x_null, x_cat1, x_istore, x_astore, x_lstore, x_iinc, x_nol, x_tsw, xsw, x_lsw, xlsw, x_ret, x_zret, x_lret, x_aret, x_vret, x_getI, x_getL, x_getR, x_putI, x_putZ, x_putL, x_iaload, x_zaload, x_aaload, x_iastore, x_zastore, x_alen, x_mm, x_acopy, xpush, xJ, xK, x_cV0, x_cV1, x_cV2, x_cV3, x_cV4, x_cV5, x_cV6, x_cV7, x_cV8, x_cS1, x_cS2, x_cS3, x_cS4, x_cS5, List.getD_cons_zero, List.getD_cons_succ, List.set_cons_zero, List.set_cons_succ, List.length_cons, List.length_nil, Nat.zero_add, true_and, and_true, List.getD_nil, not_true, not_false_eq_true, Int.toNat_natCast, false_implies, true_implies, if_true, if_false, Int.toNat_zero, Int.toNat_one, true_or, or_true, Int.reduceEq, Int.reduceLT, Int.reduceLE, Int.reduceNe, Int.reduceNeg, Int.reduceAdd, Int.reduceSub, Int.reduceMul, Int.reduceToNat, Nat.reduceLT, Nat.reduceLeDiff, Nat.reduceAdd, Nat.reduceEqDiff, Nat.reduceSub, not_false_iff, and_self, implies_true, false_and, and_false, or_self, false_or, or_false, Int.cast_ofNat_Int, Int.natCast_nonneg, SM.f0 hM, SM.f1 hM, SM.f2 hM, SM.f3 hM, SM.f4 hM, SM.f5 hM, SM.f6 hM, SM.f7 hM, SM.f8 hM, SM.f9 hM, SM.f10 hM, SM.f11 hM, SM.f12 hM, SM.f13 hM, SM.f14 hM, SM.f15 hM, SM.f16 hM, SM.f17 hM, SM.f18 hM, SM.f19 hM, SM.f20 hM, SM.l20 hM, SM.a20 hM, SM.e20 hM, SM.f21 hM, SM.l21 hM, SM.a21 hM, SM.e21 hM, SM.f22 hM, SM.l22 hM, SM.a22 hM, SM.e22 hM, SM.f23 hM, SM.l23 hM, SM.a23 hM, SM.e23 hM, SM.f24 hM, SM.l24 hM, SM.a24 hM, SM.e24 hM, SM.f25 hM, SM.l25 hM, SM.a25 hM, SM.e25 hM, SM.f26 hM, SM.l26 hM, SM.a26 hM, SM.e26 hM, SM.f27 hM, SM.l27 hM, SM.a27 hM, SM.e27 hM, SM.f28 hM, SM.l28 hM, SM.a28 hM, SM.e28 hM, SM.f29 hM, SM.l29 hM, SM.a29 hM, SM.e29 hM, SM.f30 hM, SM.l30 hM, SM.a30 hM, SM.e30 hM, SM.f31 hM, SM.l31 hM, SM.a31 hM, SM.e31 hM, SM.f32 hM, SM.l32 hM, SM.a32 hM, SM.e32 hM, SM.f33 hM, SM.l33 hM, SM.a33 hM, SM.e33 hM, SM.f34 hM, SM.l34 hM, SM.a34 hM, SM.e34 hM, SM.f35 hM, SM.l35 hM, SM.a35 hM, SM.e35 hM, SM.f36 hM, SM.l36 hM, SM.a36 hM, SM.e36 hM, SM.f37 hM, SM.l37 hM, SM.a37 hM, SM.e37 hM, SM.f38 hM, SM.l38 hM, SM.a38 hM, SM.e38 hM]
      refine m_isLetter (i := 7) hM hP (by decide) h21 h23 en hs (fun y7 => ?_) (fun y => ?_)
      rotate_left
      · simp only [x_push, x_iload, x_lload, x_aload, x_bin, x_div, x_un, x_lbin, x_ldiv, x_lcmp, x_i2l, x_l2i, x_dup, x_pop, x_dup2, x_c1, x_c2, x_null, x_cat1, x_istore, x_astore, x_lstore, x_iinc, x_nol, x_tsw, xsw, x_lsw, xlsw, x_ret, x_zret, x_lret, x_aret, x_vret, x_getI, x_getL, x_getR, x_putI, x_putZ, x_putL, x_iaload, x_zaload, x_aaload, x_iastore, x_zastore, x_alen, x_mm, x_acopy, xpush, xJ, xK, x_cV0, x_cV1, x_cV2, x_cV3, x_cV4, x_cV5, x_cV6, x_cV7, x_cV8, x_cS1, x_cS2, x_cS3, x_cS4, x_cS5, List.getD_cons_zero, List.getD_cons_succ, List.set_cons_zero, List.set_cons_succ, List.length_cons, List.length_nil, Nat.zero_add, true_and, and_true, List.getD_nil, not_true, not_false_eq_true, Int.toNat_natCast, false_implies, true_implies, if_true, if_false, Int.toNat_zero, Int.toNat_one, true_or, or_true, Int.reduceEq, Int.reduceLT, Int.reduceLE, Int.reduceNe, Int.reduceNeg, Int.reduceAdd, Int.reduceSub, Int.reduceMul, Int.reduceToNat, Nat.reduceLT, Nat.reduceLeDiff, Nat.reduceAdd, Nat.reduceEqDiff, Nat.reduceSub, not_false_iff, and_self, implies_true, false_and, and_false, or_self, false_or, or_false, Int.cast_ofNat_Int, Int.natCast_nonneg]
        exact no 7 (by decide) y
      simp only [x_push, x_iload, x_lload, x_aload, x_bin, x_div, x_un, x_lbin, x_ldiv, x_lcmp, x_i2l, x_l2i, x_dup, x_pop, x_dup2, x_c1, x_c2, x_null, x_cat1, x_istore, x_astore, x_lstore, x_iinc, x_nol, x_tsw, xsw, x_lsw, xlsw, x_ret, x_zret, x_lret, x_aret, x_vret, x_getI, x_getL, x_getR, x_putI, x_putZ, x_putL, x_iaload, x_zaload, x_aaload, x_iastore, x_zastore, x_alen, x_mm, x_acopy, xpush, xJ, xK, x_cV0, x_cV1, x_cV2, x_cV3, x_cV4, x_cV5, x_cV6, x_cV7, x_cV8, x_cS1, x_cS2, x_cS3, x_cS4, x_cS5, List.getD_cons_zero, List.getD_cons_succ, List.set_cons_zero, List.set_cons_succ, List.length_cons, List.length_nil, Nat.zero_add, true_and, and_true, List.getD_nil, not_true, not_false_eq_true, Int.toNat_natCast, false_implies, true_implies, if_true, if_false, Int.toNat_zero, Int.toNat_one, true_or, or_true, Int.reduceEq, Int.reduceLT, Int.reduceLE, Int.reduceNe, Int.reduceNeg, Int.reduceAdd, Int.reduceSub, Int.reduceMul, Int.reduceToNat, Nat.reduceLT, Nat.reduceLeDiff, Nat.reduceAdd, Nat.reduceEqDiff, Nat.reduceSub, not_false_iff, and_self, implies_true, false_and, and_false, or_self, false_or, or_false, Int.cast_ofNat_Int, Int.natCast_nonneg, SM.f0 hM, SM.f1 hM, SM.f2 hM, SM.f3 hM, SM.f4 hM, SM.f5 hM, SM.f6 hM, SM.f7 hM, SM.f8 hM, SM.f9 hM, SM.f10 hM, SM.f11 hM, SM.f12 hM, SM.f13 hM, SM.f14 hM, SM.f15 hM, SM.f16 hM, SM.f17 hM, SM.f18 hM, SM.f19 hM, SM.f20 hM, SM.l20 hM, SM.a20 hM, SM.e20 hM, SM.f21 hM, SM.l21 hM, SM.a21 hM, SM.e21 hM, SM.f22 hM, SM.l22 hM, SM.a22 hM, SM.e22 hM, SM.f23 hM, SM.l23 hM, SM.a23 hM, SM.e23 hM, SM.f24 hM, SM.l24 hM, SM.a24 hM, SM.e24 hM, SM.f25 hM, SM.l25 hM, SM.a25 hM, SM.e25 hM, SM.f26 hM, SM.l26 hM, SM.a26 hM, SM.e26 hM, SM.f27 hM, SM.l27 hM, SM.a27 hM, SM.e27 hM, SM.f28 hM, SM.l28 hM, SM.a28 hM, SM.e28 hM, SM.f29 hM, SM.l29 hM, SM.a29 hM, SM.e29 hM, SM.f30 hM, SM.l30 hM, SM.a30 hM, SM.e30 hM, SM.f31 hM, SM.l31 hM, SM.a31 hM, SM.e31 hM, SM.f32 hM, SM.l32 hM, SM.a32 hM, SM.e32 hM, SM.f33 hM, SM.l33 hM, SM.a33 hM, SM.e33 hM, SM.f34 hM, SM.l34 hM, SM.a34 hM, SM.e34 hM, SM.f35 hM, SM.l35 hM, SM.a35 hM, SM.e35 hM, SM.f36 hM, SM.l36 hM, SM.a36 hM, SM.e36 hM, SM.f37 hM, SM.l37 hM, SM.a37 hM, SM.e37 hM, SM.f38 hM, SM.l38 hM, SM.a38 hM, SM.e38 hM]
      refine hY q0 (hk.mpr (key.mp ⟨by omega, fun i hi => ?_⟩))
      have : i = 0 ∨ i = 1 ∨ i = 2 ∨ i = 3 ∨ i = 4 ∨ i = 5 ∨ i = 6 ∨ i = 7 := by omega
      rcases this with rfl | rfl | rfl | rfl | rfl | rfl | rfl | rfl
      · exact y0
      · exact y1
      · exact y2
      · exact y3
      · exact y4
      · exact y5
      · exact y6
      · exact y7
  · rw [h22]
    exact ⟨fun _ => hN (fun _ => by omega), fun y => absurd (by decide) y⟩
  · rw [h22]
    unfold isSgn at hc
    exact ⟨fun _ => hN (fun _ => by omega), fun y => absurd (by decide) y⟩
  · rw [h22]
    exact ⟨fun _ => hN (fun _ => by omega), fun y => absurd (by decide) y⟩
theorem m_fail0 (hM : SM Γ m) (h26 : σ m 26 = 0) (hQ : Q vu (Γ, upd2 (upd2 σ m 26 1) m 27 (σ m 23))) : xRM M_X6_fail (d + 1) (0, 0) [vr m] (Γ, σ) Q := by
  refine xRM_of (by decide) (Nat.le_of_ble_eq_true rfl) ?_
  refine b_X6_fail_0 _ _ _ _ ?_
  show k_X6_fail_0 d Q (0, 0) [vr m] [] (Γ, σ)
  simp only [k_X6_fail_0, x_push, x_iload, x_lload, x_aload, x_bin, x_div, x_un, x_lbin, x_ldiv, x_lcmp, x_i2l, x_l2i, x_dup, x_pop, x_dup2, x_c1, x_c2, x_null, x_cat1, x_istore, x_astore, x_lstore, x_iinc, x_nol, x_tsw, xsw, x_lsw, xlsw, x_ret, x_zret, x_lret, x_aret, x_vret, x_getI, x_getL, x_getR, x_putI, x_putZ, x_putL, x_iaload, x_zaload, x_aaload, x_iastore, x_zastore, x_alen, x_mm, x_acopy, xpush, xJ, xK, x_cV0, x_cV1, x_cV2, x_cV3, x_cV4, x_cV5, x_cV6, x_cV7, x_cV8, x_cS1, x_cS2, x_cS3, x_cS4, x_cS5, List.getD_cons_zero, List.getD_cons_succ, List.set_cons_zero, List.set_cons_succ, List.length_cons, List.length_nil, Nat.zero_add, true_and, and_true, List.getD_nil, not_true, not_false_eq_true, Int.toNat_natCast, false_implies, true_implies, if_true, if_false, Int.toNat_zero, Int.toNat_one, true_or, or_true, Int.reduceEq, Int.reduceLT, Int.reduceLE, Int.reduceNe, Int.reduceNeg, Int.reduceAdd, Int.reduceSub, Int.reduceMul, Int.reduceToNat, Nat.reduceLT, Nat.reduceLeDiff, Nat.reduceAdd, Nat.reduceEqDiff, Nat.reduceSub, not_false_iff, and_self, implies_true, false_and, and_false, or_self, false_or, or_false, Int.cast_ofNat_Int, Int.natCast_nonneg, SM.f0 hM, SM.f1 hM, SM.f2 hM, SM.f3 hM, SM.f4 hM, SM.f5 hM, SM.f6 hM, SM.f7 hM, SM.f8 hM, SM.f9 hM, SM.f10 hM, SM.f11 hM, SM.f12 hM, SM.f13 hM, SM.f14 hM, SM.f15 hM, SM.f16 hM, SM.f17 hM, SM.f18 hM, SM.f19 hM, SM.f20 hM, SM.l20 hM, SM.a20 hM, SM.e20 hM, SM.f21 hM, SM.l21 hM, SM.a21 hM, SM.e21 hM, SM.f22 hM, SM.l22 hM, SM.a22 hM, SM.e22 hM, SM.f23 hM, SM.l23 hM, SM.a23 hM, SM.e23 hM, SM.f24 hM, SM.l24 hM, SM.a24 hM, SM.e24 hM, SM.f25 hM, SM.l25 hM, SM.a25 hM, SM.e25 hM, SM.f26 hM, SM.l26 hM, SM.a26 hM, SM.e26 hM, SM.f27 hM, SM.l27 hM, SM.a27 hM, SM.e27 hM, SM.f28 hM, SM.l28 hM, SM.a28 hM, SM.e28 hM, SM.f29 hM, SM.l29 hM, SM.a29 hM, SM.e29 hM, SM.f30 hM, SM.l30 hM, SM.a30 hM, SM.e30 hM, SM.f31 hM, SM.l31 hM, SM.a31 hM, SM.e31 hM, SM.f32 hM, SM.l32 hM, SM.a32 hM, SM.e32 hM, SM.f33 hM, SM.l33 hM, SM.a33 hM, SM.e33 hM, SM.f34 hM, SM.l34 hM, SM.a34 hM, SM.e34 hM, SM.f35 hM, SM.l35 hM, SM.a35 hM, SM.e35 hM, SM.f36 hM, SM.l36 hM, SM.a36 hM, SM.e36 hM, SM.f37 hM, SM.l37 hM, SM.a37 hM, SM.e37 hM, SM.f38 hM, SM.l38 hM, SM.a38 hM, SM.e38 hM, h26, upd2_col (show 23 ≠ 26 by decide)]
  exact hQ
theorem m_fail1 (hM : SM Γ m) (h26 : σ m 26 = 1) (hQ : Q vu (Γ, σ)) : xRM M_X6_fail (d + 1) (0, 0) [vr m] (Γ, σ) Q := by
  refine xRM_of (by decide) (Nat.le_of_ble_eq_true rfl) ?_
  refine b_X6_fail_0 _ _ _ _ ?_
  show k_X6_fail_0 d Q (0, 0) [vr m] [] (Γ, σ)
  simp only [k_X6_fail_0, x_push, x_iload, x_lload, x_aload, x_bin, x_div, x_un, x_lbin, x_ldiv, x_lcmp, x_i2l, x_l2i, x_dup, x_pop, x_dup2, x_c1, x_c2, x_null, x_cat1, x_istore, x_astore, x_lstore, x_iinc, x_nol, x_tsw, xsw, x_lsw, xlsw, x_ret, x_zret, x_lret, x_aret, x_vret, x_getI, x_getL, x_getR, x_putI, x_putZ, x_putL, x_iaload, x_zaload, x_aaload, x_iastore, x_zastore, x_alen, x_mm, x_acopy, xpush, xJ, xK, x_cV0, x_cV1, x_cV2, x_cV3, x_cV4, x_cV5, x_cV6, x_cV7, x_cV8, x_cS1, x_cS2, x_cS3, x_cS4, x_cS5, List.getD_cons_zero, List.getD_cons_succ, List.set_cons_zero, List.set_cons_succ, List.length_cons, List.length_nil, Nat.zero_add, true_and, and_true, List.getD_nil, not_true, not_false_eq_true, Int.toNat_natCast, false_implies, true_implies, if_true, if_false, Int.toNat_zero, Int.toNat_one, true_or, or_true, Int.reduceEq, Int.reduceLT, Int.reduceLE, Int.reduceNe, Int.reduceNeg, Int.reduceAdd, Int.reduceSub, Int.reduceMul, Int.reduceToNat, Nat.reduceLT, Nat.reduceLeDiff, Nat.reduceAdd, Nat.reduceEqDiff, Nat.reduceSub, not_false_iff, and_self, implies_true, false_and, and_false, or_self, false_or, or_false, Int.cast_ofNat_Int, Int.natCast_nonneg, SM.f0 hM, SM.f1 hM, SM.f2 hM, SM.f3 hM, SM.f4 hM, SM.f5 hM, SM.f6 hM, SM.f7 hM, SM.f8 hM, SM.f9 hM, SM.f10 hM, SM.f11 hM, SM.f12 hM, SM.f13 hM, SM.f14 hM, SM.f15 hM, SM.f16 hM, SM.f17 hM, SM.f18 hM, SM.f19 hM, SM.f20 hM, SM.l20 hM, SM.a20 hM, SM.e20 hM, SM.f21 hM, SM.l21 hM, SM.a21 hM, SM.e21 hM, SM.f22 hM, SM.l22 hM, SM.a22 hM, SM.e22 hM, SM.f23 hM, SM.l23 hM, SM.a23 hM, SM.e23 hM, SM.f24 hM, SM.l24 hM, SM.a24 hM, SM.e24 hM, SM.f25 hM, SM.l25 hM, SM.a25 hM, SM.e25 hM, SM.f26 hM, SM.l26 hM, SM.a26 hM, SM.e26 hM, SM.f27 hM, SM.l27 hM, SM.a27 hM, SM.e27 hM, SM.f28 hM, SM.l28 hM, SM.a28 hM, SM.e28 hM, SM.f29 hM, SM.l29 hM, SM.a29 hM, SM.e29 hM, SM.f30 hM, SM.l30 hM, SM.a30 hM, SM.e30 hM, SM.f31 hM, SM.l31 hM, SM.a31 hM, SM.e31 hM, SM.f32 hM, SM.l32 hM, SM.a32 hM, SM.e32 hM, SM.f33 hM, SM.l33 hM, SM.a33 hM, SM.e33 hM, SM.f34 hM, SM.l34 hM, SM.a34 hM, SM.e34 hM, SM.f35 hM, SM.l35 hM, SM.a35 hM, SM.e35 hM, SM.f36 hM, SM.l36 hM, SM.a36 hM, SM.e36 hM, SM.f37 hM, SM.l37 hM, SM.a37 hM, SM.e37 hM, SM.f38 hM, SM.l38 hM, SM.a38 hM, SM.e38 hM, h26]
  exact hQ
/-- it has failed, at f -/
def Fa (m : Nat) (σ σ' : Nat → Nat → Int) (f : Nat) : Prop := SmF Pr m σ σ' ∧ σ' m 26 = 1 ∧ σ' m 27 = (f : Int)
theorem m_failT (hM : SM Γ m) (hT : TM σ m n B L) (h26 : σ m 26 = 0) (hQ : ∀ σ', Fa m σ σ' (tkS L) → Q vu (Γ, σ')) : xRM M_X6_fail (d + 1) (0, 0) [vr m] (Γ, σ) Q := by
  obtain ⟨s, hs, h23, hS, -⟩ := hT.cls
  refine m_fail0 hM h26 (hQ _ ⟨(SmF.rf.put (by unfold Pr; omega)).put (by unfold Pr; omega), by rw [upd2_col (by decide), upd2_eq], ?_⟩)
  rw [upd2_eq, h23, hS]
end Model
