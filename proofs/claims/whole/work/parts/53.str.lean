/-! ===== texts of the class: rows ===== -/
section Str
variable {M : xMt} {pc d : Nat} {Q : xV → xMem → Prop} {k : xP}
theorem s_ldcs {i ix : Nat} {tx : String} (hi : xStr[i]? = some (M.1.cls, ix, tx)) (hd : decode M.2.1 pc = .ok (.ldc ix, 2)) (hk : Snd M d (pc + 2) Q k) : Snd M d pc Q (x_push (vo (i + 2)) k) := fun b ls st μ h =>
  xR_go (hk b ls _ μ h) (fun hst _ _ => xok_cons trivial hst) (fun _ _ _ _ _ _ _ _ _ _ _ _ _ _ _ _ _ _ hC hS _ _ _ _ kk => va_ldcS hC.1 hC.2.1 hC.2.2.2.1 (hS.2.2.2.2.2.2.2.2.2.2.1 i _ hi) hd kk)
end Str
