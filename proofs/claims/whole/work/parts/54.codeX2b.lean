/-! code of methods as trees of pure instructions: printed by wip/whole/gen.py -/
def k_X2_wordOf_0 (d : Nat) (Q : xV → xMem → Prop) : xP :=
  x_iload 0 <|
  x_tsw 0 [
  x_push (vo 3) <|
  x_aret Q,
  x_push (vo 4) <|
  x_aret Q,
  x_push (vo 5) <|
  x_aret Q,
  x_push (vo 6) <|
  x_aret Q,
  x_push (vo 7) <|
  x_aret Q,
  x_push (vo 8) <|
  x_aret Q,
  x_push (vo 9) <|
  x_aret Q,
  x_push (vo 10) <|
  x_aret Q,
  x_push (vo 11) <|
  x_aret Q,
  x_push (vo 12) <|
  x_aret Q,
  x_push (vo 13) <|
  x_aret Q] (
  x_push (vo 14) <|
  x_aret Q)
set_option maxRecDepth 100000 in
theorem b_X2_wordOf_0 {d : Nat} {Q : xV → xMem → Prop} : Snd M_X2_wordOf (d + 1) 0 Q (k_X2_wordOf_0 d Q) :=
  s_iload_n dX2_wordOf_0 rfl <|
  s_tsw (t := 93) (offs := [59, 62, 65, 68, 71, 74, 77, 80, 83, 86, 89]) dX2_wordOf_1 rfl rfl (
  s_ldcs (i := 12) rfl dX2_wordOf_93 <|
  s_areturn dX2_wordOf_95 rfl (by first | exact Or.inl ⟨_, rfl⟩ | exact Or.inr ⟨_, rfl⟩)) ⟨⟨60, rfl, s_ldcs (i := 1) rfl dX2_wordOf_60 <|
  s_areturn dX2_wordOf_62 rfl (by first | exact Or.inl ⟨_, rfl⟩ | exact Or.inr ⟨_, rfl⟩)⟩, ⟨⟨63, rfl, s_ldcs (i := 2) rfl dX2_wordOf_63 <|
  s_areturn dX2_wordOf_65 rfl (by first | exact Or.inl ⟨_, rfl⟩ | exact Or.inr ⟨_, rfl⟩)⟩, ⟨⟨66, rfl, s_ldcs (i := 3) rfl dX2_wordOf_66 <|
  s_areturn dX2_wordOf_68 rfl (by first | exact Or.inl ⟨_, rfl⟩ | exact Or.inr ⟨_, rfl⟩)⟩, ⟨⟨69, rfl, s_ldcs (i := 4) rfl dX2_wordOf_69 <|
  s_areturn dX2_wordOf_71 rfl (by first | exact Or.inl ⟨_, rfl⟩ | exact Or.inr ⟨_, rfl⟩)⟩, ⟨⟨72, rfl, s_ldcs (i := 5) rfl dX2_wordOf_72 <|
  s_areturn dX2_wordOf_74 rfl (by first | exact Or.inl ⟨_, rfl⟩ | exact Or.inr ⟨_, rfl⟩)⟩, ⟨⟨75, rfl, s_ldcs (i := 6) rfl dX2_wordOf_75 <|
  s_areturn dX2_wordOf_77 rfl (by first | exact Or.inl ⟨_, rfl⟩ | exact Or.inr ⟨_, rfl⟩)⟩, ⟨⟨78, rfl, s_ldcs (i := 7) rfl dX2_wordOf_78 <|
  s_areturn dX2_wordOf_80 rfl (by first | exact Or.inl ⟨_, rfl⟩ | exact Or.inr ⟨_, rfl⟩)⟩, ⟨⟨81, rfl, s_ldcs (i := 8) rfl dX2_wordOf_81 <|
  s_areturn dX2_wordOf_83 rfl (by first | exact Or.inl ⟨_, rfl⟩ | exact Or.inr ⟨_, rfl⟩)⟩, ⟨⟨84, rfl, s_ldcs (i := 9) rfl dX2_wordOf_84 <|
  s_areturn dX2_wordOf_86 rfl (by first | exact Or.inl ⟨_, rfl⟩ | exact Or.inr ⟨_, rfl⟩)⟩, ⟨⟨87, rfl, s_ldcs (i := 10) rfl dX2_wordOf_87 <|
  s_areturn dX2_wordOf_89 rfl (by first | exact Or.inl ⟨_, rfl⟩ | exact Or.inr ⟨_, rfl⟩)⟩, ⟨⟨90, rfl, s_ldcs (i := 11) rfl dX2_wordOf_90 <|
  s_areturn dX2_wordOf_92 rfl (by first | exact Or.inl ⟨_, rfl⟩ | exact Or.inr ⟨_, rfl⟩)⟩, trivial⟩⟩⟩⟩⟩⟩⟩⟩⟩⟩⟩
-- X2_wordOf: cuts [0]
