/-! ===== more instructions ===== -/
section More
variable {M : xMt} {d pc : Nat} {Q : xV → xMem → Prop} {k : xP}
theorem s_alen (hd : decode M.2.1 pc = .ok (.arraylength, 1)) (hk : Snd M d (pc + 1) Q k) : Snd M d pc Q (x_alen k) := fun b ls st μ h => by
  match st, h with
  | .inr (.inr (.inl (some a))) :: st, h =>
    obtain ⟨⟨ty, n, hq⟩, h1, h⟩ := h
    rw [gLen_of hq] at h h1
    exact xR_go (hk b ls _ μ h) (fun hst _ hwf => xok_cons ⟨by omega, by omega⟩ (xok_tail hst)) (fun _ _ _ _ _ _ _ _ _ _ _ _ _ _ _ _ _ _ hC hS _ _ _ hst kk =>
      va_alen hC.1 hC.2.1 (hS.K hq) hS.1 a 0 (xW_arr hS.2.2.2.2.2.1 hq) rfl (by rw [← Int32.ofInt_eq_ofNat]) hd kk)
end More
