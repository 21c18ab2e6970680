/-! ===== more instructions ===== -/
section More
variable {M : xMt} {d pc : Nat} {Q : xV → xMem → Prop} {k : xP}
theorem s_alen (hd : decode M.2.1 pc = .ok (.arraylength, 1)) (hk : Snd M d (pc + 1) Q k) : Snd M d pc Q (x_alen k) := fun b ls st μ h => by
  match st, h with
  | .inr (.inr (.inl (some a))) :: st, h =>
    obtain ⟨⟨ty, n, hq⟩, h1, h⟩ := h
    rw [gLen_of hq] at h h1
    exact xR_go (hk b ls _ μ h) (fun hst _ hwf => xok_cons ⟨by omega, by omega⟩ (xok_tail hst)) (fun _ _ _ _ _ _ _ _ _ _ _ _ _ _ _ _ _ _ hC hS _ _ _ hst kk =>
      va_alen hC.1 hC.2.1 (hS.K hq) hS.1 a 0 (xW_arr hS.2.2.2.2.2.1 hq) rfl (by rw [← Int32.ofInt_eq_ofNat]) hd kk)
/-- Math.min, Math.max -/
def x_mm (f : Int → Int → Int) (k : xP) (b : Nat × Nat) (ls st : List xV) (μ : xMem) : Prop := match st with
  | .inl y :: .inl x :: st => st.length ≤ 4 ∧ k b ls (vi (f x y) :: st) μ
  | _ => False
theorem mm_min_c : Cond.code Lib.Math.min.name Lib.Math.min.code 2 (some .int) ∈ xG := xT_in 469 (by decide +kernel) (by decide +kernel)
theorem mm_min_s : Cond.static Lib.Math.min.name ∈ xG := xT_in 468 (by decide +kernel) (by decide +kernel)
theorem mm_min_X4_71 : Cond.methodLink RX4 71 Lib.Math.min.name ∈ xG := xT_in 467 (by decide +kernel) (by decide +kernel)
theorem mm_min_X5_215 : Cond.methodLink RX5 215 Lib.Math.min.name ∈ xG := xT_in 616 (by decide +kernel) (by decide +kernel)
theorem mm_max_c : Cond.code Lib.Math.max.name Lib.Math.max.code 2 (some .int) ∈ xG := xT_in 466 (by decide +kernel) (by decide +kernel)
theorem mm_max_s : Cond.static Lib.Math.max.name ∈ xG := xT_in 465 (by decide +kernel) (by decide +kernel)
theorem mm_max_X4_93 : Cond.methodLink RX4 93 Lib.Math.max.name ∈ xG := xT_in 464 (by decide +kernel) (by decide +kernel)
theorem mm_max_X0_108 : Cond.methodLink RX0 108 Lib.Math.max.name ∈ xG := xT_in 569 (by decide +kernel) (by decide +kernel)
theorem s_mmin {ix : Nat} (hl : Cond.methodLink M.1.cls ix Lib.Math.min.name ∈ xG) (hd : decode M.2.1 pc = .ok (.invokestatic ix, 3)) (hk : Snd M (d + 1) (pc + 3) Q k) : Snd M (d + 1) pc Q (x_mm min k) := fun b ls st μ h => by
  match st, h with
  | .inl y :: .inl x :: st, h =>
    intro p l e s m args below meth c Rm w g0 n0 g H locs cells slots lsM hC a1 a2 a3 a4 a5 a6 hS hV hb hL hst
    have hy : i32 y := xok_head hst
    have hx : i32 x := xok_head (xok_tail hst)
    have hm : i32 (min x y) := ⟨by have := hx.1; have := hy.1; omega, by have := hx.2; have := hy.2; omega⟩
    refine va_mmin hC.1 hC.2.1 (hC.2.2.1.trans hL.1.1.symm) hC.2.2.2.1 (hC.2.2.2.2.1 _ hl) (hC.2.2.2.2.1 _ mm_min_s) (hC.2.2.2.2.1 _ in_J9) (hC.2.2.2.2.1 _ mm_min_c) (by omega) (by have := xsum (w := w) (g := g) st; have := h.1; omega) (by omega) (by omega) hd ?_
    have eq : (if Int32.ofInt y < Int32.ofInt x then Int32.ofInt y else Int32.ofInt x) = Int32.ofInt (min x y) := by
      by_cases q : y < x
      · rw [if_pos ((i_lt hy hx).mpr q), show min x y = y by omega]
      · rw [if_neg (fun z => q ((i_lt hy hx).mp z)), show min x y = x by omega]
    rw [eq]
    exact hk b ls _ μ h.2 p l e s m args below meth c Rm w g0 n0 g H locs cells slots lsM hC a1 a2 a3 a4 a5 a6 hS hV hb hL (xok_cons hm (xok_tail (xok_tail hst)))
theorem s_mmax {ix : Nat} (hl : Cond.methodLink M.1.cls ix Lib.Math.max.name ∈ xG) (hd : decode M.2.1 pc = .ok (.invokestatic ix, 3)) (hk : Snd M (d + 1) (pc + 3) Q k) : Snd M (d + 1) pc Q (x_mm max k) := fun b ls st μ h => by
  match st, h with
  | .inl y :: .inl x :: st, h =>
    intro p l e s m args below meth c Rm w g0 n0 g H locs cells slots lsM hC a1 a2 a3 a4 a5 a6 hS hV hb hL hst
    have hy : i32 y := xok_head hst
    have hx : i32 x := xok_head (xok_tail hst)
    have hm : i32 (max x y) := ⟨by have := hx.1; have := hy.1; omega, by have := hx.2; have := hy.2; omega⟩
    refine va_mmax hC.1 hC.2.1 (hC.2.2.1.trans hL.1.1.symm) hC.2.2.2.1 (hC.2.2.2.2.1 _ hl) (hC.2.2.2.2.1 _ mm_max_s) (hC.2.2.2.2.1 _ in_J9) (hC.2.2.2.2.1 _ mm_max_c) (by omega) (by have := xsum (w := w) (g := g) st; have := h.1; omega) (by omega) (by omega) hd ?_
    have eq : (if Int32.ofInt x < Int32.ofInt y then Int32.ofInt y else Int32.ofInt x) = Int32.ofInt (max x y) := by
      by_cases q : x < y
      · rw [if_pos ((i_lt hx hy).mpr q), show max x y = y by omega]
      · rw [if_neg (fun z => q ((i_lt hx hy).mp z)), show max x y = x by omega]
    rw [eq]
    exact hk b ls _ μ h.2 p l e s m args below meth c Rm w g0 n0 g H locs cells slots lsM hC a1 a2 a3 a4 a5 a6 hS hV hb hL (xok_cons hm (xok_tail (xok_tail hst)))
theorem s_ldc_w {x : Int} {ix : Nat} {v : Int32} (hd : decode M.2.1 pc = .ok (.ldc_w ix, 3)) (hw : Cond.constant M.1.cls ix v ∈ xG) (hx : xi32 x = true) (hv : Int32.ofInt x = v) (hk : Snd M d (pc + 3) Q k) : Snd M d pc Q (x_push (vi x) k) := fun b ls st μ h =>
  xR_go (hk b ls _ μ h) (fun hst _ _ => xok_cons (xi32_ok hx) hst) (fun _ _ _ _ _ _ _ _ _ _ _ _ _ _ _ _ _ _ hC _ _ _ _ _ kk => lv_ldcw hC.1 hC.2.1 hC.2.2.2.1 (hC.2.2.2.2.1 _ hw) hd (by subst hv; exact kk))
end More
