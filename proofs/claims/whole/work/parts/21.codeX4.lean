/-! code of methods as trees of pure instructions: printed by wip/whole/gen.py -/
def k_X4_become_0 (d : Nat) (Q : xV → xMem → Prop) : xP :=
  x_aload 0 <|
  x_aload 1 <|
  x_getI 4 1 <|
  x_putI 4 1 <|
  x_aload 0 <|
  x_aload 1 <|
  x_getI 4 2 <|
  x_putI 4 2 <|
  x_aload 0 <|
  x_aload 1 <|
  x_getI 4 3 <|
  x_putI 4 3 <|
  x_aload 0 <|
  x_aload 1 <|
  x_getI 4 4 <|
  x_putI 4 4 <|
  x_aload 1 <|
  x_getR 4 5 <|
  x_push (vi 0) <|
  x_aload 0 <|
  x_getR 4 5 <|
  x_push (vi 0) <|
  x_push (vi 6) <|
  x_acopy <|
  x_aload 1 <|
  x_getR 4 6 <|
  x_push (vi 0) <|
  x_aload 0 <|
  x_getR 4 6 <|
  x_push (vi 0) <|
  x_push (vi 6) <|
  x_acopy <|
  x_aload 1 <|
  x_getR 4 7 <|
  x_push (vi 0) <|
  x_aload 0 <|
  x_getR 4 7 <|
  x_push (vi 0) <|
  x_push (vi 6) <|
  x_acopy <|
  x_aload 1 <|
  x_getR 4 8 <|
  x_push (vi 0) <|
  x_aload 0 <|
  x_getR 4 8 <|
  x_push (vi 0) <|
  x_push (vi 6) <|
  x_acopy <|
  x_aload 1 <|
  x_getR 4 9 <|
  x_push (vi 0) <|
  x_aload 0 <|
  x_getR 4 9 <|
  x_push (vi 0) <|
  x_push (vi 5) <|
  x_acopy <|
  x_aload 1 <|
  x_getR 4 10 <|
  x_push (vi 0) <|
  x_aload 0 <|
  x_getR 4 10 <|
  x_push (vi 0) <|
  x_push (vi 5) <|
  x_acopy <|
  x_vret Q
set_option maxRecDepth 100000 in
theorem b_X4_become_0 {d : Nat} {Q : xV → xMem → Prop} : Snd M_X4_become (d + 1) 0 Q (k_X4_become_0 d Q) :=
  s_aload_n dX4_become_0 rfl <|
  s_aload_n dX4_become_1 rfl <|
  s_getI xC4 (by decide) (fun _ _ _ => rfl) fl_X4_9 dX4_become_2 <|
  s_putI xC4 (by decide) (fun _ _ _ => rfl) rfl rfl fl_X4_9 dX4_become_5 <|
  s_aload_n dX4_become_8 rfl <|
  s_aload_n dX4_become_9 rfl <|
  s_getI xC4 (by decide) (fun _ _ _ => rfl) fl_X4_41 dX4_become_10 <|
  s_putI xC4 (by decide) (fun _ _ _ => rfl) rfl rfl fl_X4_41 dX4_become_13 <|
  s_aload_n dX4_become_16 rfl <|
  s_aload_n dX4_become_17 rfl <|
  s_getI xC4 (by decide) (fun _ _ _ => rfl) fl_X4_44 dX4_become_18 <|
  s_putI xC4 (by decide) (fun _ _ _ => rfl) rfl rfl fl_X4_44 dX4_become_21 <|
  s_aload_n dX4_become_24 rfl <|
  s_aload_n dX4_become_25 rfl <|
  s_getI xC4 (by decide) (fun _ _ _ => rfl) fl_X4_47 dX4_become_26 <|
  s_putI xC4 (by decide) (fun _ _ _ => rfl) rfl rfl fl_X4_47 dX4_become_29 <|
  s_aload_n dX4_become_32 rfl <|
  s_getR xC4 (by decide) (fun _ _ _ => rfl) fl_X4_15 dX4_become_33 <|
  s_iconst dX4_become_36 rfl <|
  s_aload_n dX4_become_37 rfl <|
  s_getR xC4 (by decide) (fun _ _ _ => rfl) fl_X4_15 dX4_become_38 <|
  s_iconst dX4_become_41 rfl <|
  s_bipush dX4_become_42 rfl (by decide) <|
  s_acopy ml_X4_50 ac_nat ac_sta ac_ini dX4_become_44 <|
  s_aload_n dX4_become_47 rfl <|
  s_getR xC4 (by decide) (fun _ _ _ => rfl) fl_X4_19 dX4_become_48 <|
  s_iconst dX4_become_51 rfl <|
  s_aload_n dX4_become_52 rfl <|
  s_getR xC4 (by decide) (fun _ _ _ => rfl) fl_X4_19 dX4_become_53 <|
  s_iconst dX4_become_56 rfl <|
  s_bipush dX4_become_57 rfl (by decide) <|
  s_acopy ml_X4_50 ac_nat ac_sta ac_ini dX4_become_59 <|
  s_aload_n dX4_become_62 rfl <|
  s_getR xC4 (by decide) (fun _ _ _ => rfl) fl_X4_22 dX4_become_63 <|
  s_iconst dX4_become_66 rfl <|
  s_aload_n dX4_become_67 rfl <|
  s_getR xC4 (by decide) (fun _ _ _ => rfl) fl_X4_22 dX4_become_68 <|
  s_iconst dX4_become_71 rfl <|
  s_bipush dX4_become_72 rfl (by decide) <|
  s_acopy ml_X4_50 ac_nat ac_sta ac_ini dX4_become_74 <|
  s_aload_n dX4_become_77 rfl <|
  s_getR xC4 (by decide) (fun _ _ _ => rfl) fl_X4_25 dX4_become_78 <|
  s_iconst dX4_become_81 rfl <|
  s_aload_n dX4_become_82 rfl <|
  s_getR xC4 (by decide) (fun _ _ _ => rfl) fl_X4_25 dX4_become_83 <|
  s_iconst dX4_become_86 rfl <|
  s_bipush dX4_become_87 rfl (by decide) <|
  s_acopy ml_X4_50 ac_nat ac_sta ac_ini dX4_become_89 <|
  s_aload_n dX4_become_92 rfl <|
  s_getR xC4 (by decide) (fun _ _ _ => rfl) fl_X4_28 dX4_become_93 <|
  s_iconst dX4_become_96 rfl <|
  s_aload_n dX4_become_97 rfl <|
  s_getR xC4 (by decide) (fun _ _ _ => rfl) fl_X4_28 dX4_become_98 <|
  s_iconst dX4_become_101 rfl <|
  s_iconst dX4_become_102 rfl <|
  s_acopy ml_X4_50 ac_nat ac_sta ac_ini dX4_become_103 <|
  s_aload_n dX4_become_106 rfl <|
  s_getR xC4 (by decide) (fun _ _ _ => rfl) fl_X4_31 dX4_become_107 <|
  s_iconst dX4_become_110 rfl <|
  s_aload_n dX4_become_111 rfl <|
  s_getR xC4 (by decide) (fun _ _ _ => rfl) fl_X4_31 dX4_become_112 <|
  s_iconst dX4_become_115 rfl <|
  s_iconst dX4_become_116 rfl <|
  s_acopy ml_X4_50 ac_nat ac_sta ac_ini dX4_become_117 <|
  s_return dX4_become_120 rfl
-- X4_become: cuts [0]
def k_X4_hasFigure_0 (d : Nat) (Q : xV → xMem → Prop) : xP :=
  x_iload 1 <|
  x_c1 (fun x => x < 0) (
  x_push (vi 0) <|
  x_zret Q) <|
  x_iload 1 <|
  x_aload 0 <|
  x_getI 4 3 <|
  x_c2 (fun x y => y ≤ x) (
  x_push (vi 0) <|
  x_zret Q) <|
  x_push (vi 1) <|
  x_zret Q
set_option maxRecDepth 100000 in
theorem b_X4_hasFigure_0 {d : Nat} {Q : xV → xMem → Prop} : Snd M_X4_hasFigure (d + 1) 0 Q (k_X4_hasFigure_0 d Q) :=
  s_iload_n dX4_hasFigure_0 rfl <|
  s_if_lt (t := 16) dX4_hasFigure_1 rfl (
  s_iconst dX4_hasFigure_16 rfl <|
  s_zreturn dX4_hasFigure_17 rfl) <|
  s_iload_n dX4_hasFigure_4 rfl <|
  s_aload_n dX4_hasFigure_5 rfl <|
  s_getI xC4 (by decide) (fun _ _ _ => rfl) fl_X4_44 dX4_hasFigure_6 <|
  s_icmp_ge (t := 16) dX4_hasFigure_9 rfl (
  s_iconst dX4_hasFigure_16 rfl <|
  s_zreturn dX4_hasFigure_17 rfl) <|
  s_iconst dX4_hasFigure_12 rfl <|
  s_goto (t := 17) dX4_hasFigure_13 rfl <|
  s_zreturn dX4_hasFigure_17 rfl
-- X4_hasFigure: cuts [0]
def k_X4_hasClient_0 (d : Nat) (Q : xV → xMem → Prop) : xP :=
  x_iload 1 <|
  x_c1 (fun x => x < 0) (
  x_push (vi 0) <|
  x_zret Q) <|
  x_iload 1 <|
  x_aload 0 <|
  x_getI 4 4 <|
  x_c2 (fun x y => y ≤ x) (
  x_push (vi 0) <|
  x_zret Q) <|
  x_push (vi 1) <|
  x_zret Q
set_option maxRecDepth 100000 in
theorem b_X4_hasClient_0 {d : Nat} {Q : xV → xMem → Prop} : Snd M_X4_hasClient (d + 1) 0 Q (k_X4_hasClient_0 d Q) :=
  s_iload_n dX4_hasClient_0 rfl <|
  s_if_lt (t := 16) dX4_hasClient_1 rfl (
  s_iconst dX4_hasClient_16 rfl <|
  s_zreturn dX4_hasClient_17 rfl) <|
  s_iload_n dX4_hasClient_4 rfl <|
  s_aload_n dX4_hasClient_5 rfl <|
  s_getI xC4 (by decide) (fun _ _ _ => rfl) fl_X4_47 dX4_hasClient_6 <|
  s_icmp_ge (t := 16) dX4_hasClient_9 rfl (
  s_iconst dX4_hasClient_16 rfl <|
  s_zreturn dX4_hasClient_17 rfl) <|
  s_iconst dX4_hasClient_12 rfl <|
  s_goto (t := 17) dX4_hasClient_13 rfl <|
  s_zreturn dX4_hasClient_17 rfl
-- X4_hasClient: cuts [0]
def k_X4_has_0 (d : Nat) (Q : xV → xMem → Prop) : xP :=
  x_iload 1 <|
  x_tsw 0 [
  x_push (vi 1) <|
  x_zret Q,
  x_aload 0 <|
  x_iload 2 <|
  x_cV1 M_X4_hasFigure d 4 <|
  x_zret Q,
  x_aload 0 <|
  x_iload 2 <|
  x_cV1 M_X4_hasFigure d 4 <|
  x_zret Q,
  x_aload 0 <|
  x_iload 2 <|
  x_cV1 M_X4_hasFigure d 4 <|
  x_zret Q,
  x_aload 0 <|
  x_iload 2 <|
  x_cV1 M_X4_hasClient d 4 <|
  x_zret Q,
  x_aload 0 <|
  x_iload 2 <|
  x_cV1 M_X4_hasClient d 4 <|
  x_zret Q,
  x_aload 0 <|
  x_iload 2 <|
  x_cV1 M_X4_hasFigure d 4 <|
  x_zret Q] (
  x_push (vi 0) <|
  x_zret Q)
set_option maxRecDepth 100000 in
theorem b_X4_has_0 {d : Nat} {Q : xV → xMem → Prop} : Snd M_X4_has (d + 1) 0 Q (k_X4_has_0 d Q) :=
  s_iload_n dX4_has_0 rfl <|
  s_tsw (t := 58) (offs := [43, 45, 45, 45, 51, 51, 45]) dX4_has_1 rfl rfl (
  s_iconst dX4_has_58 rfl <|
  s_zreturn dX4_has_59 rfl) ⟨⟨44, rfl, s_iconst dX4_has_44 rfl <|
  s_zreturn dX4_has_45 rfl⟩, ⟨⟨46, rfl, s_aload_n dX4_has_46 rfl <|
  s_iload_n dX4_has_47 rfl <|
  s_cV1 ce_X4_hasFigure ml_X4_56 im_X4_hasFigure se_X4_hasFigure xC4 dX4_has_48 <|
  s_zreturn dX4_has_51 rfl⟩, ⟨⟨46, rfl, s_aload_n dX4_has_46 rfl <|
  s_iload_n dX4_has_47 rfl <|
  s_cV1 ce_X4_hasFigure ml_X4_56 im_X4_hasFigure se_X4_hasFigure xC4 dX4_has_48 <|
  s_zreturn dX4_has_51 rfl⟩, ⟨⟨46, rfl, s_aload_n dX4_has_46 rfl <|
  s_iload_n dX4_has_47 rfl <|
  s_cV1 ce_X4_hasFigure ml_X4_56 im_X4_hasFigure se_X4_hasFigure xC4 dX4_has_48 <|
  s_zreturn dX4_has_51 rfl⟩, ⟨⟨52, rfl, s_aload_n dX4_has_52 rfl <|
  s_iload_n dX4_has_53 rfl <|
  s_cV1 ce_X4_hasClient ml_X4_60 im_X4_hasClient se_X4_hasClient xC4 dX4_has_54 <|
  s_zreturn dX4_has_57 rfl⟩, ⟨⟨52, rfl, s_aload_n dX4_has_52 rfl <|
  s_iload_n dX4_has_53 rfl <|
  s_cV1 ce_X4_hasClient ml_X4_60 im_X4_hasClient se_X4_hasClient xC4 dX4_has_54 <|
  s_zreturn dX4_has_57 rfl⟩, ⟨⟨46, rfl, s_aload_n dX4_has_46 rfl <|
  s_iload_n dX4_has_47 rfl <|
  s_cV1 ce_X4_hasFigure ml_X4_56 im_X4_hasFigure se_X4_hasFigure xC4 dX4_has_48 <|
  s_zreturn dX4_has_51 rfl⟩, trivial⟩⟩⟩⟩⟩⟩⟩
-- X4_has: cuts [0]
def k_X4_property_0 (d : Nat) (Q : xV → xMem → Prop) : xP :=
  x_aload 0 <|
  x_iload 1 <|
  x_iload 2 <|
  x_cV2 M_X4_has d 4 <|
  x_c1 (fun x => ¬ x = 0) (
  x_iload 1 <|
  x_tsw 0 [
  x_aload 0 <|
  x_getI 4 1 <|
  x_ret Q,
  x_aload 0 <|
  x_getR 4 6 <|
  x_iload 2 <|
  x_iaload <|
  x_ret Q,
  x_aload 0 <|
  x_getR 4 7 <|
  x_iload 2 <|
  x_iaload <|
  x_ret Q,
  x_aload 0 <|
  x_getR 4 8 <|
  x_iload 2 <|
  x_iaload <|
  x_ret Q,
  x_aload 0 <|
  x_getR 4 9 <|
  x_iload 2 <|
  x_iaload <|
  x_ret Q,
  x_aload 0 <|
  x_getR 4 10 <|
  x_iload 2 <|
  x_iaload <|
  x_ret Q] (
  x_aload 0 <|
  x_getR 4 5 <|
  x_iload 2 <|
  x_iaload <|
  x_ret Q)) <|
  x_push (vi (-2)) <|
  x_ret Q
set_option maxRecDepth 100000 in
theorem b_X4_property_0 {d : Nat} {Q : xV → xMem → Prop} : Snd M_X4_property (d + 1) 0 Q (k_X4_property_0 d Q) :=
  s_aload_n dX4_property_0 rfl <|
  s_iload_n dX4_property_1 rfl <|
  s_iload_n dX4_property_2 rfl <|
  s_cV2 ce_X4_has ml_X4_63 im_X4_has se_X4_has xC4 dX4_property_3 <|
  s_if_ne (t := 12) dX4_property_6 rfl (
  s_iload_n dX4_property_12 rfl <|
  s_tsw (t := 92) (offs := [39, 44, 51, 58, 65, 72]) dX4_property_13 rfl rfl (
  s_aload_n dX4_property_92 rfl <|
  s_getR xC4 (by decide) (fun _ _ _ => rfl) fl_X4_15 dX4_property_93 <|
  s_iload_n dX4_property_96 rfl <|
  s_iaload dX4_property_97 <|
  s_ireturn dX4_property_98 rfl) ⟨⟨52, rfl, s_aload_n dX4_property_52 rfl <|
  s_getI xC4 (by decide) (fun _ _ _ => rfl) fl_X4_9 dX4_property_53 <|
  s_ireturn dX4_property_56 rfl⟩, ⟨⟨57, rfl, s_aload_n dX4_property_57 rfl <|
  s_getR xC4 (by decide) (fun _ _ _ => rfl) fl_X4_19 dX4_property_58 <|
  s_iload_n dX4_property_61 rfl <|
  s_iaload dX4_property_62 <|
  s_ireturn dX4_property_63 rfl⟩, ⟨⟨64, rfl, s_aload_n dX4_property_64 rfl <|
  s_getR xC4 (by decide) (fun _ _ _ => rfl) fl_X4_22 dX4_property_65 <|
  s_iload_n dX4_property_68 rfl <|
  s_iaload dX4_property_69 <|
  s_ireturn dX4_property_70 rfl⟩, ⟨⟨71, rfl, s_aload_n dX4_property_71 rfl <|
  s_getR xC4 (by decide) (fun _ _ _ => rfl) fl_X4_25 dX4_property_72 <|
  s_iload_n dX4_property_75 rfl <|
  s_iaload dX4_property_76 <|
  s_ireturn dX4_property_77 rfl⟩, ⟨⟨78, rfl, s_aload_n dX4_property_78 rfl <|
  s_getR xC4 (by decide) (fun _ _ _ => rfl) fl_X4_28 dX4_property_79 <|
  s_iload_n dX4_property_82 rfl <|
  s_iaload dX4_property_83 <|
  s_ireturn dX4_property_84 rfl⟩, ⟨⟨85, rfl, s_aload_n dX4_property_85 rfl <|
  s_getR xC4 (by decide) (fun _ _ _ => rfl) fl_X4_31 dX4_property_86 <|
  s_iload_n dX4_property_89 rfl <|
  s_iaload dX4_property_90 <|
  s_ireturn dX4_property_91 rfl⟩, trivial⟩⟩⟩⟩⟩⟩) <|
  s_bipush dX4_property_9 rfl (by decide) <|
  s_ireturn dX4_property_11 rfl
-- X4_property: cuts [0]
def k_X4_alter_0 (d : Nat) (Q : xV → xMem → Prop) : xP :=
  x_aload 0 <|
  x_iload 1 <|
  x_iload 2 <|
  x_cV2 M_X4_has d 4 <|
  x_c1 (fun x => ¬ x = 0) (
  x_iload 1 <|
  x_tsw 0 [
  x_aload 0 <|
  x_iload 3 <|
  x_putI 4 1 <|
  x_vret Q,
  x_aload 0 <|
  x_getR 4 6 <|
  x_iload 2 <|
  x_iload 3 <|
  x_iastore <|
  x_vret Q,
  x_aload 0 <|
  x_getR 4 7 <|
  x_iload 2 <|
  x_iload 3 <|
  x_iastore <|
  x_vret Q,
  x_aload 0 <|
  x_getR 4 8 <|
  x_iload 2 <|
  x_iload 3 <|
  x_iastore <|
  x_vret Q,
  x_aload 0 <|
  x_getR 4 9 <|
  x_iload 2 <|
  x_iload 3 <|
  x_iastore <|
  x_vret Q,
  x_aload 0 <|
  x_getR 4 10 <|
  x_iload 2 <|
  x_iload 3 <|
  x_iastore <|
  x_vret Q] (
  x_vret Q)) <|
  x_vret Q
set_option maxRecDepth 100000 in
theorem b_X4_alter_0 {d : Nat} {Q : xV → xMem → Prop} : Snd M_X4_alter (d + 1) 0 Q (k_X4_alter_0 d Q) :=
  s_aload_n dX4_alter_0 rfl <|
  s_iload_n dX4_alter_1 rfl <|
  s_iload_n dX4_alter_2 rfl <|
  s_cV2 ce_X4_has ml_X4_63 im_X4_has se_X4_has xC4 dX4_alter_3 <|
  s_if_ne (t := 10) dX4_alter_6 rfl (
  s_iload_n dX4_alter_10 rfl <|
  s_tsw (t := 106) (offs := [37, 45, 55, 65, 75, 85]) dX4_alter_11 rfl rfl (
  s_return dX4_alter_106 rfl) ⟨⟨48, rfl, s_aload_n dX4_alter_48 rfl <|
  s_iload_n dX4_alter_49 rfl <|
  s_putI xC4 (by decide) (fun _ _ _ => rfl) rfl rfl fl_X4_9 dX4_alter_50 <|
  s_goto (t := 106) dX4_alter_53 rfl <|
  s_return dX4_alter_106 rfl⟩, ⟨⟨56, rfl, s_aload_n dX4_alter_56 rfl <|
  s_getR xC4 (by decide) (fun _ _ _ => rfl) fl_X4_19 dX4_alter_57 <|
  s_iload_n dX4_alter_60 rfl <|
  s_iload_n dX4_alter_61 rfl <|
  s_iastore dX4_alter_62 <|
  s_goto (t := 106) dX4_alter_63 rfl <|
  s_return dX4_alter_106 rfl⟩, ⟨⟨66, rfl, s_aload_n dX4_alter_66 rfl <|
  s_getR xC4 (by decide) (fun _ _ _ => rfl) fl_X4_22 dX4_alter_67 <|
  s_iload_n dX4_alter_70 rfl <|
  s_iload_n dX4_alter_71 rfl <|
  s_iastore dX4_alter_72 <|
  s_goto (t := 106) dX4_alter_73 rfl <|
  s_return dX4_alter_106 rfl⟩, ⟨⟨76, rfl, s_aload_n dX4_alter_76 rfl <|
  s_getR xC4 (by decide) (fun _ _ _ => rfl) fl_X4_25 dX4_alter_77 <|
  s_iload_n dX4_alter_80 rfl <|
  s_iload_n dX4_alter_81 rfl <|
  s_iastore dX4_alter_82 <|
  s_goto (t := 106) dX4_alter_83 rfl <|
  s_return dX4_alter_106 rfl⟩, ⟨⟨86, rfl, s_aload_n dX4_alter_86 rfl <|
  s_getR xC4 (by decide) (fun _ _ _ => rfl) fl_X4_28 dX4_alter_87 <|
  s_iload_n dX4_alter_90 rfl <|
  s_iload_n dX4_alter_91 rfl <|
  s_iastore dX4_alter_92 <|
  s_goto (t := 106) dX4_alter_93 rfl <|
  s_return dX4_alter_106 rfl⟩, ⟨⟨96, rfl, s_aload_n dX4_alter_96 rfl <|
  s_getR xC4 (by decide) (fun _ _ _ => rfl) fl_X4_31 dX4_alter_97 <|
  s_iload_n dX4_alter_100 rfl <|
  s_iload_n dX4_alter_101 rfl <|
  s_iastore dX4_alter_102 <|
  s_goto (t := 106) dX4_alter_103 rfl <|
  s_return dX4_alter_106 rfl⟩, trivial⟩⟩⟩⟩⟩⟩) <|
  s_return dX4_alter_9 rfl
-- X4_alter: cuts [0]
def k_X4_addFigure_0 (d : Nat) (Q : xV → xMem → Prop) : xP :=
  x_iload 1 <|
  x_c1 (fun x => x < 0) (
  x_push (vi (-2)) <|
  x_ret Q) <|
  x_iload 1 <|
  x_push (vi 6) <|
  x_c2 (fun x y => y ≤ x) (
  x_push (vi (-2)) <|
  x_ret Q) <|
  x_iload 2 <|
  x_c1 (fun x => x < 0) (
  x_push (vi (-2)) <|
  x_ret Q) <|
  x_iload 2 <|
  x_push (vi 10) <|
  x_c2 (fun x y => y ≤ x) (
  x_push (vi (-2)) <|
  x_ret Q) <|
  x_iload 3 <|
  x_c1 (fun x => x < 0) (
  x_push (vi (-2)) <|
  x_ret Q) <|
  x_iload 3 <|
  x_push (vi 1000) <|
  x_c2 (fun x y => x < y) (
  x_aload 0 <|
  x_getI 4 3 <|
  x_push (vi 6) <|
  x_c2 (fun x y => x < y) (
  x_aload 0 <|
  x_getI 4 3 <|
  x_istore 4 <|
  x_aload 0 <|
  x_getR 4 5 <|
  x_iload 4 <|
  x_iload 1 <|
  x_iastore <|
  x_aload 0 <|
  x_getR 4 6 <|
  x_iload 4 <|
  x_iload 2 <|
  x_iastore <|
  x_aload 0 <|
  x_getR 4 7 <|
  x_iload 4 <|
  x_iload 3 <|
  x_iastore <|
  x_aload 0 <|
  x_getR 4 8 <|
  x_iload 4 <|
  x_push (vi 4095) <|
  x_iastore <|
  x_aload 0 <|
  x_dup <|
  x_getI 4 3 <|
  x_push (vi 1) <|
  x_bin oadd <|
  x_putI 4 3 <|
  x_iload 4 <|
  x_ret Q) <|
  x_push (vi (-4)) <|
  x_ret Q) <|
  x_push (vi (-2)) <|
  x_ret Q
set_option maxRecDepth 100000 in
theorem b_X4_addFigure_0 {d : Nat} {Q : xV → xMem → Prop} : Snd M_X4_addFigure (d + 1) 0 Q (k_X4_addFigure_0 d Q) :=
  s_iload_n dX4_addFigure_0 rfl <|
  s_if_lt (t := 31) dX4_addFigure_1 rfl (
  s_bipush dX4_addFigure_31 rfl (by decide) <|
  s_ireturn dX4_addFigure_33 rfl) <|
  s_iload_n dX4_addFigure_4 rfl <|
  s_bipush dX4_addFigure_5 rfl (by decide) <|
  s_icmp_ge (t := 31) dX4_addFigure_7 rfl (
  s_bipush dX4_addFigure_31 rfl (by decide) <|
  s_ireturn dX4_addFigure_33 rfl) <|
  s_iload_n dX4_addFigure_10 rfl <|
  s_if_lt (t := 31) dX4_addFigure_11 rfl (
  s_bipush dX4_addFigure_31 rfl (by decide) <|
  s_ireturn dX4_addFigure_33 rfl) <|
  s_iload_n dX4_addFigure_14 rfl <|
  s_bipush dX4_addFigure_15 rfl (by decide) <|
  s_icmp_ge (t := 31) dX4_addFigure_17 rfl (
  s_bipush dX4_addFigure_31 rfl (by decide) <|
  s_ireturn dX4_addFigure_33 rfl) <|
  s_iload_n dX4_addFigure_20 rfl <|
  s_if_lt (t := 31) dX4_addFigure_21 rfl (
  s_bipush dX4_addFigure_31 rfl (by decide) <|
  s_ireturn dX4_addFigure_33 rfl) <|
  s_iload_n dX4_addFigure_24 rfl <|
  s_sipush dX4_addFigure_25 rfl (by decide) <|
  s_icmp_lt (t := 34) dX4_addFigure_28 rfl (
  s_aload_n dX4_addFigure_34 rfl <|
  s_getI xC4 (by decide) (fun _ _ _ => rfl) fl_X4_44 dX4_addFigure_35 <|
  s_bipush dX4_addFigure_38 rfl (by decide) <|
  s_icmp_lt (t := 46) dX4_addFigure_40 rfl (
  s_aload_n dX4_addFigure_46 rfl <|
  s_getI xC4 (by decide) (fun _ _ _ => rfl) fl_X4_44 dX4_addFigure_47 <|
  s_istore dX4_addFigure_50 (by decide) <|
  s_aload_n dX4_addFigure_52 rfl <|
  s_getR xC4 (by decide) (fun _ _ _ => rfl) fl_X4_15 dX4_addFigure_53 <|
  s_iload dX4_addFigure_56 <|
  s_iload_n dX4_addFigure_58 rfl <|
  s_iastore dX4_addFigure_59 <|
  s_aload_n dX4_addFigure_60 rfl <|
  s_getR xC4 (by decide) (fun _ _ _ => rfl) fl_X4_19 dX4_addFigure_61 <|
  s_iload dX4_addFigure_64 <|
  s_iload_n dX4_addFigure_66 rfl <|
  s_iastore dX4_addFigure_67 <|
  s_aload_n dX4_addFigure_68 rfl <|
  s_getR xC4 (by decide) (fun _ _ _ => rfl) fl_X4_22 dX4_addFigure_69 <|
  s_iload dX4_addFigure_72 <|
  s_iload_n dX4_addFigure_74 rfl <|
  s_iastore dX4_addFigure_75 <|
  s_aload_n dX4_addFigure_76 rfl <|
  s_getR xC4 (by decide) (fun _ _ _ => rfl) fl_X4_25 dX4_addFigure_77 <|
  s_iload dX4_addFigure_80 <|
  s_sipush dX4_addFigure_82 rfl (by decide) <|
  s_iastore dX4_addFigure_85 <|
  s_aload_n dX4_addFigure_86 rfl <|
  s_dup dX4_addFigure_87 <|
  s_getI xC4 (by decide) (fun _ _ _ => rfl) fl_X4_44 dX4_addFigure_88 <|
  s_iconst dX4_addFigure_91 rfl <|
  s_iadd dX4_addFigure_92 <|
  s_putI xC4 (by decide) (fun _ _ _ => rfl) rfl rfl fl_X4_44 dX4_addFigure_93 <|
  s_iload dX4_addFigure_96 <|
  s_ireturn dX4_addFigure_98 rfl) <|
  s_bipush dX4_addFigure_43 rfl (by decide) <|
  s_ireturn dX4_addFigure_45 rfl) <|
  s_bipush dX4_addFigure_31 rfl (by decide) <|
  s_ireturn dX4_addFigure_33 rfl
-- X4_addFigure: cuts [0]
def k_X4_addClient_0 (d : Nat) (Q : xV → xMem → Prop) : xP :=
  x_aload 0 <|
  x_getI 4 4 <|
  x_push (vi 5) <|
  x_c2 (fun x y => x < y) (
  x_aload 0 <|
  x_getI 4 4 <|
  x_istore 3 <|
  x_aload 0 <|
  x_getR 4 9 <|
  x_iload 3 <|
  x_iload 1 <|
  x_iastore <|
  x_aload 0 <|
  x_getR 4 10 <|
  x_iload 3 <|
  x_iload 2 <|
  x_iastore <|
  x_aload 0 <|
  x_dup <|
  x_getI 4 4 <|
  x_push (vi 1) <|
  x_bin oadd <|
  x_putI 4 4 <|
  x_iload 3 <|
  x_ret Q) <|
  x_push (vi (-4)) <|
  x_ret Q
set_option maxRecDepth 100000 in
theorem b_X4_addClient_0 {d : Nat} {Q : xV → xMem → Prop} : Snd M_X4_addClient (d + 1) 0 Q (k_X4_addClient_0 d Q) :=
  s_aload_n dX4_addClient_0 rfl <|
  s_getI xC4 (by decide) (fun _ _ _ => rfl) fl_X4_47 dX4_addClient_1 <|
  s_iconst dX4_addClient_4 rfl <|
  s_icmp_lt (t := 11) dX4_addClient_5 rfl (
  s_aload_n dX4_addClient_11 rfl <|
  s_getI xC4 (by decide) (fun _ _ _ => rfl) fl_X4_47 dX4_addClient_12 <|
  s_istore_n dX4_addClient_15 rfl (by decide) <|
  s_aload_n dX4_addClient_16 rfl <|
  s_getR xC4 (by decide) (fun _ _ _ => rfl) fl_X4_28 dX4_addClient_17 <|
  s_iload_n dX4_addClient_20 rfl <|
  s_iload_n dX4_addClient_21 rfl <|
  s_iastore dX4_addClient_22 <|
  s_aload_n dX4_addClient_23 rfl <|
  s_getR xC4 (by decide) (fun _ _ _ => rfl) fl_X4_31 dX4_addClient_24 <|
  s_iload_n dX4_addClient_27 rfl <|
  s_iload_n dX4_addClient_28 rfl <|
  s_iastore dX4_addClient_29 <|
  s_aload_n dX4_addClient_30 rfl <|
  s_dup dX4_addClient_31 <|
  s_getI xC4 (by decide) (fun _ _ _ => rfl) fl_X4_47 dX4_addClient_32 <|
  s_iconst dX4_addClient_35 rfl <|
  s_iadd dX4_addClient_36 <|
  s_putI xC4 (by decide) (fun _ _ _ => rfl) rfl rfl fl_X4_47 dX4_addClient_37 <|
  s_iload_n dX4_addClient_40 rfl <|
  s_ireturn dX4_addClient_41 rfl) <|
  s_bipush dX4_addClient_8 rfl (by decide) <|
  s_ireturn dX4_addClient_10 rfl
-- X4_addClient: cuts [0]
def k_X4_meansOfAll_0 (d : Nat) (Q : xV → xMem → Prop) : xP :=
  x_push (vi 0) <|
  x_istore 1 <|
  x_push (vi 0) <|
  x_istore 2 <|
  (xJ M_X4_meansOfAll (d + 1) 4 Q)
set_option maxRecDepth 100000 in
theorem b_X4_meansOfAll_0 {d : Nat} {Q : xV → xMem → Prop} : Snd M_X4_meansOfAll (d + 1) 0 Q (k_X4_meansOfAll_0 d Q) :=
  s_iconst dX4_meansOfAll_0 rfl <|
  s_istore_n dX4_meansOfAll_1 rfl (by decide) <|
  s_iconst dX4_meansOfAll_2 rfl <|
  s_istore_n dX4_meansOfAll_3 rfl (by decide) <|
  s_J
def k_X4_meansOfAll_4 (d : Nat) (Q : xV → xMem → Prop) : xP :=
  x_iload 2 <|
  x_aload 0 <|
  x_getI 4 3 <|
  x_c2 (fun x y => y ≤ x) (
  x_iload 1 <|
  x_ret Q) <|
  x_iload 1 <|
  x_aload 0 <|
  x_getR 4 7 <|
  x_iload 2 <|
  x_iaload <|
  x_bin oadd <|
  x_istore 1 <|
  x_iinc 2 1 <|
  (xJ M_X4_meansOfAll (d + 1) 4 Q)
set_option maxRecDepth 100000 in
theorem b_X4_meansOfAll_4 {d : Nat} {Q : xV → xMem → Prop} : Snd M_X4_meansOfAll (d + 1) 4 Q (k_X4_meansOfAll_4 d Q) :=
  s_iload_n dX4_meansOfAll_4 rfl <|
  s_aload_n dX4_meansOfAll_5 rfl <|
  s_getI xC4 (by decide) (fun _ _ _ => rfl) fl_X4_44 dX4_meansOfAll_6 <|
  s_icmp_ge (t := 27) dX4_meansOfAll_9 rfl (
  s_iload_n dX4_meansOfAll_27 rfl <|
  s_ireturn dX4_meansOfAll_28 rfl) <|
  s_iload_n dX4_meansOfAll_12 rfl <|
  s_aload_n dX4_meansOfAll_13 rfl <|
  s_getR xC4 (by decide) (fun _ _ _ => rfl) fl_X4_22 dX4_meansOfAll_14 <|
  s_iload_n dX4_meansOfAll_17 rfl <|
  s_iaload dX4_meansOfAll_18 <|
  s_iadd dX4_meansOfAll_19 <|
  s_istore_n dX4_meansOfAll_20 rfl (by decide) <|
  s_iinc dX4_meansOfAll_21 (by decide) <|
  s_goto (t := 4) dX4_meansOfAll_24 rfl <|
  s_J
-- X4_meansOfAll: cuts [0, 4]
def k_X4_isWished_0 (d : Nat) (Q : xV → xMem → Prop) : xP :=
  x_aload 0 <|
  x_getR 4 10 <|
  x_iload 1 <|
  x_iaload <|
  x_iload 2 <|
  x_bin oshr <|
  x_push (vi 1) <|
  x_bin oand <|
  x_push (vi 1) <|
  x_c2 (fun x y => ¬ x = y) (
  x_push (vi 0) <|
  x_zret Q) <|
  x_push (vi 1) <|
  x_zret Q
set_option maxRecDepth 100000 in
theorem b_X4_isWished_0 {d : Nat} {Q : xV → xMem → Prop} : Snd M_X4_isWished (d + 1) 0 Q (k_X4_isWished_0 d Q) :=
  s_aload_n dX4_isWished_0 rfl <|
  s_getR xC4 (by decide) (fun _ _ _ => rfl) fl_X4_31 dX4_isWished_1 <|
  s_iload_n dX4_isWished_4 rfl <|
  s_iaload dX4_isWished_5 <|
  s_iload_n dX4_isWished_6 rfl <|
  s_ishr dX4_isWished_7 <|
  s_iconst dX4_isWished_8 rfl <|
  s_iand dX4_isWished_9 <|
  s_iconst dX4_isWished_10 rfl <|
  s_icmp_ne (t := 18) dX4_isWished_11 rfl (
  s_iconst dX4_isWished_18 rfl <|
  s_zreturn dX4_isWished_19 rfl) <|
  s_iconst dX4_isWished_14 rfl <|
  s_goto (t := 19) dX4_isWished_15 rfl <|
  s_zreturn dX4_isWished_19 rfl
-- X4_isWished: cuts [0]
def k_X4_asked_0 (d : Nat) (Q : xV → xMem → Prop) : xP :=
  x_push (vi 0) <|
  x_istore 2 <|
  x_push (vi 0) <|
  x_istore 3 <|
  (xJ M_X4_asked (d + 1) 4 Q)
set_option maxRecDepth 100000 in
theorem b_X4_asked_0 {d : Nat} {Q : xV → xMem → Prop} : Snd M_X4_asked (d + 1) 0 Q (k_X4_asked_0 d Q) :=
  s_iconst dX4_asked_0 rfl <|
  s_istore_n dX4_asked_1 rfl (by decide) <|
  s_iconst dX4_asked_2 rfl <|
  s_istore_n dX4_asked_3 rfl (by decide) <|
  s_J
def k_X4_asked_4 (d : Nat) (Q : xV → xMem → Prop) : xP :=
  x_iload 3 <|
  x_aload 0 <|
  x_getI 4 4 <|
  x_c2 (fun x y => y ≤ x) (
  x_iload 2 <|
  x_ret Q) <|
  x_iload 2 <|
  x_aload 0 <|
  x_getR 4 10 <|
  x_iload 3 <|
  x_iaload <|
  x_iload 1 <|
  x_bin oshr <|
  x_push (vi 1) <|
  x_bin oand <|
  x_bin oadd <|
  x_istore 2 <|
  x_iinc 3 1 <|
  (xJ M_X4_asked (d + 1) 4 Q)
set_option maxRecDepth 100000 in
theorem b_X4_asked_4 {d : Nat} {Q : xV → xMem → Prop} : Snd M_X4_asked (d + 1) 4 Q (k_X4_asked_4 d Q) :=
  s_iload_n dX4_asked_4 rfl <|
  s_aload_n dX4_asked_5 rfl <|
  s_getI xC4 (by decide) (fun _ _ _ => rfl) fl_X4_47 dX4_asked_6 <|
  s_icmp_ge (t := 31) dX4_asked_9 rfl (
  s_iload_n dX4_asked_31 rfl <|
  s_ireturn dX4_asked_32 rfl) <|
  s_iload_n dX4_asked_12 rfl <|
  s_aload_n dX4_asked_13 rfl <|
  s_getR xC4 (by decide) (fun _ _ _ => rfl) fl_X4_31 dX4_asked_14 <|
  s_iload_n dX4_asked_17 rfl <|
  s_iaload dX4_asked_18 <|
  s_iload_n dX4_asked_19 rfl <|
  s_ishr dX4_asked_20 <|
  s_iconst dX4_asked_21 rfl <|
  s_iand dX4_asked_22 <|
  s_iadd dX4_asked_23 <|
  s_istore_n dX4_asked_24 rfl (by decide) <|
  s_iinc dX4_asked_25 (by decide) <|
  s_goto (t := 4) dX4_asked_28 rfl <|
  s_J
-- X4_asked: cuts [0, 4]
def k_X4_comers_0 (d : Nat) (Q : xV → xMem → Prop) : xP :=
  x_push (vi 0) <|
  x_istore 2 <|
  x_push (vi 0) <|
  x_istore 3 <|
  (xJ M_X4_comers (d + 1) 4 Q)
set_option maxRecDepth 100000 in
theorem b_X4_comers_0 {d : Nat} {Q : xV → xMem → Prop} : Snd M_X4_comers (d + 1) 0 Q (k_X4_comers_0 d Q) :=
  s_iconst dX4_comers_0 rfl <|
  s_istore_n dX4_comers_1 rfl (by decide) <|
  s_iconst dX4_comers_2 rfl <|
  s_istore_n dX4_comers_3 rfl (by decide) <|
  s_J
def k_X4_comers_4 (d : Nat) (Q : xV → xMem → Prop) : xP :=
  x_iload 3 <|
  x_aload 0 <|
  x_getI 4 4 <|
  x_c2 (fun x y => y ≤ x) (
  x_iload 2 <|
  x_ret Q) <|
  x_iload 2 <|
  x_aload 0 <|
  x_getR 4 9 <|
  x_iload 3 <|
  x_iaload <|
  x_iload 1 <|
  x_c2 (fun x y => ¬ x = y) (
  x_push (vi 0) <|
  x_bin oadd <|
  x_istore 2 <|
  x_iinc 3 1 <|
  (xJ M_X4_comers (d + 1) 4 Q)) <|
  x_push (vi 1) <|
  x_bin oadd <|
  x_istore 2 <|
  x_iinc 3 1 <|
  (xJ M_X4_comers (d + 1) 4 Q)
set_option maxRecDepth 100000 in
theorem b_X4_comers_4 {d : Nat} {Q : xV → xMem → Prop} : Snd M_X4_comers (d + 1) 4 Q (k_X4_comers_4 d Q) :=
  s_iload_n dX4_comers_4 rfl <|
  s_aload_n dX4_comers_5 rfl <|
  s_getI xC4 (by decide) (fun _ _ _ => rfl) fl_X4_47 dX4_comers_6 <|
  s_icmp_ge (t := 36) dX4_comers_9 rfl (
  s_iload_n dX4_comers_36 rfl <|
  s_ireturn dX4_comers_37 rfl) <|
  s_iload_n dX4_comers_12 rfl <|
  s_aload_n dX4_comers_13 rfl <|
  s_getR xC4 (by decide) (fun _ _ _ => rfl) fl_X4_28 dX4_comers_14 <|
  s_iload_n dX4_comers_17 rfl <|
  s_iaload dX4_comers_18 <|
  s_iload_n dX4_comers_19 rfl <|
  s_icmp_ne (t := 27) dX4_comers_20 rfl (
  s_iconst dX4_comers_27 rfl <|
  s_iadd dX4_comers_28 <|
  s_istore_n dX4_comers_29 rfl (by decide) <|
  s_iinc dX4_comers_30 (by decide) <|
  s_goto (t := 4) dX4_comers_33 rfl <|
  s_J) <|
  s_iconst dX4_comers_23 rfl <|
  s_goto (t := 28) dX4_comers_24 rfl <|
  s_iadd dX4_comers_28 <|
  s_istore_n dX4_comers_29 rfl (by decide) <|
  s_iinc dX4_comers_30 (by decide) <|
  s_goto (t := 4) dX4_comers_33 rfl <|
  s_J
-- X4_comers: cuts [0, 4]
def k_X4_appears_0 (d : Nat) (Q : xV → xMem → Prop) : xP :=
  x_aload 0 <|
  x_getR 4 8 <|
  x_iload 1 <|
  x_iaload <|
  x_iload 2 <|
  x_bin oshr <|
  x_push (vi 1) <|
  x_bin oand <|
  x_c1 (fun x => ¬ x = 0) (
  x_iload 2 <|
  x_push (vi 2) <|
  x_c2 (fun x y => x < y) (
  (xJ M_X4_appears (d + 1) 29 Q)) <|
  x_iload 2 <|
  x_push (vi 5) <|
  x_c2 (fun x y => y < x) (
  (xJ M_X4_appears (d + 1) 29 Q)) <|
  x_push (vi 1) <|
  (xJ M_X4_appears (d + 1) 30 Q)) <|
  x_push (vi 0) <|
  x_zret Q
set_option maxRecDepth 100000 in
theorem b_X4_appears_0 {d : Nat} {Q : xV → xMem → Prop} : Snd M_X4_appears (d + 1) 0 Q (k_X4_appears_0 d Q) :=
  s_aload_n dX4_appears_0 rfl <|
  s_getR xC4 (by decide) (fun _ _ _ => rfl) fl_X4_25 dX4_appears_1 <|
  s_iload_n dX4_appears_4 rfl <|
  s_iaload dX4_appears_5 <|
  s_iload_n dX4_appears_6 rfl <|
  s_ishr dX4_appears_7 <|
  s_iconst dX4_appears_8 rfl <|
  s_iand dX4_appears_9 <|
  s_if_ne (t := 15) dX4_appears_10 rfl (
  s_iload_n dX4_appears_15 rfl <|
  s_iconst dX4_appears_16 rfl <|
  s_icmp_lt (t := 29) dX4_appears_17 rfl (
  s_J) <|
  s_iload_n dX4_appears_20 rfl <|
  s_iconst dX4_appears_21 rfl <|
  s_icmp_gt (t := 29) dX4_appears_22 rfl (
  s_J) <|
  s_iconst dX4_appears_25 rfl <|
  s_goto (t := 30) dX4_appears_26 rfl <|
  s_J) <|
  s_iconst dX4_appears_13 rfl <|
  s_zreturn dX4_appears_14 rfl
def k_X4_appears_29 (d : Nat) (Q : xV → xMem → Prop) : xP :=
  x_push (vi 0) <|
  (xJ M_X4_appears (d + 1) 30 Q)
set_option maxRecDepth 100000 in
theorem b_X4_appears_29 {d : Nat} {Q : xV → xMem → Prop} : Snd M_X4_appears (d + 1) 29 Q (k_X4_appears_29 d Q) :=
  s_iconst dX4_appears_29 rfl <|
  s_J
def k_X4_appears_30 (d : Nat) (Q : xV → xMem → Prop) : xP :=
  x_istore 3 <|
  x_aload 0 <|
  x_getR 4 5 <|
  x_iload 1 <|
  x_iaload <|
  x_tsw 1 [
  x_iload 3 <|
  x_zret Q,
  x_push (vi 1) <|
  x_zret Q,
  x_iload 3 <|
  x_c1 (fun x => ¬ x = 0) (
  x_push (vi 1) <|
  x_zret Q) <|
  x_iload 2 <|
  x_aload 0 <|
  x_getR 4 6 <|
  x_iload 1 <|
  x_iaload <|
  x_c2 (fun x y => ¬ x = y) (
  x_push (vi 0) <|
  x_zret Q) <|
  x_push (vi 1) <|
  x_zret Q,
  x_iload 2 <|
  x_push (vi 3) <|
  x_div orem <|
  x_aload 0 <|
  x_getR 4 6 <|
  x_iload 1 <|
  x_iaload <|
  x_push (vi 3) <|
  x_div orem <|
  x_c2 (fun x y => ¬ x = y) (
  x_push (vi 0) <|
  x_zret Q) <|
  x_push (vi 1) <|
  x_zret Q,
  x_iload 2 <|
  x_push (vi 2) <|
  x_div orem <|
  x_c1 (fun x => ¬ x = 0) (
  x_push (vi 0) <|
  x_zret Q) <|
  x_push (vi 1) <|
  x_zret Q] (
  x_push (vi 1) <|
  x_zret Q)
set_option maxRecDepth 100000 in
theorem b_X4_appears_30 {d : Nat} {Q : xV → xMem → Prop} : Snd M_X4_appears (d + 1) 30 Q (k_X4_appears_30 d Q) :=
  s_istore_n dX4_appears_30 rfl (by decide) <|
  s_aload_n dX4_appears_31 rfl <|
  s_getR xC4 (by decide) (fun _ _ _ => rfl) fl_X4_15 dX4_appears_32 <|
  s_iload_n dX4_appears_35 rfl <|
  s_iaload dX4_appears_36 <|
  s_tsw (t := 126) (offs := [35, 89, 37, 57, 77]) dX4_appears_37 rfl rfl (
  s_iconst dX4_appears_126 rfl <|
  s_zreturn dX4_appears_127 rfl) ⟨⟨72, rfl, s_iload_n dX4_appears_72 rfl <|
  s_zreturn dX4_appears_73 rfl⟩, ⟨⟨126, rfl, s_iconst dX4_appears_126 rfl <|
  s_zreturn dX4_appears_127 rfl⟩, ⟨⟨74, rfl, s_iload_n dX4_appears_74 rfl <|
  s_if_ne (t := 88) dX4_appears_75 rfl (
  s_iconst dX4_appears_88 rfl <|
  s_goto (t := 93) dX4_appears_89 rfl <|
  s_zreturn dX4_appears_93 rfl) <|
  s_iload_n dX4_appears_78 rfl <|
  s_aload_n dX4_appears_79 rfl <|
  s_getR xC4 (by decide) (fun _ _ _ => rfl) fl_X4_19 dX4_appears_80 <|
  s_iload_n dX4_appears_83 rfl <|
  s_iaload dX4_appears_84 <|
  s_icmp_ne (t := 92) dX4_appears_85 rfl (
  s_iconst dX4_appears_92 rfl <|
  s_zreturn dX4_appears_93 rfl) <|
  s_iconst dX4_appears_88 rfl <|
  s_goto (t := 93) dX4_appears_89 rfl <|
  s_zreturn dX4_appears_93 rfl⟩, ⟨⟨94, rfl, s_iload_n dX4_appears_94 rfl <|
  s_iconst dX4_appears_95 rfl <|
  s_irem dX4_appears_96 <|
  s_aload_n dX4_appears_97 rfl <|
  s_getR xC4 (by decide) (fun _ _ _ => rfl) fl_X4_19 dX4_appears_98 <|
  s_iload_n dX4_appears_101 rfl <|
  s_iaload dX4_appears_102 <|
  s_iconst dX4_appears_103 rfl <|
  s_irem dX4_appears_104 <|
  s_icmp_ne (t := 112) dX4_appears_105 rfl (
  s_iconst dX4_appears_112 rfl <|
  s_zreturn dX4_appears_113 rfl) <|
  s_iconst dX4_appears_108 rfl <|
  s_goto (t := 113) dX4_appears_109 rfl <|
  s_zreturn dX4_appears_113 rfl⟩, ⟨⟨114, rfl, s_iload_n dX4_appears_114 rfl <|
  s_iconst dX4_appears_115 rfl <|
  s_irem dX4_appears_116 <|
  s_if_ne (t := 124) dX4_appears_117 rfl (
  s_iconst dX4_appears_124 rfl <|
  s_zreturn dX4_appears_125 rfl) <|
  s_iconst dX4_appears_120 rfl <|
  s_goto (t := 125) dX4_appears_121 rfl <|
  s_zreturn dX4_appears_125 rfl⟩, trivial⟩⟩⟩⟩⟩
-- X4_appears: cuts [0, 29, 30]
def k_X4_costs_0 (d : Nat) (Q : xV → xMem → Prop) : xP :=
  x_aload 0 <|
  x_getR 4 5 <|
  x_iload 1 <|
  x_iaload <|
  x_push (vi 4) <|
  x_c2 (fun x y => ¬ x = y) (
  x_aload 0 <|
  x_push (vi 0) <|
  x_iload 1 <|
  x_iload 2 <|
  x_push (vi 0) <|
  x_cV4 M_X4_ruled d 4 <|
  x_aload 0 <|
  x_getI 4 1 <|
  x_bin omul <|
  x_istore 3 <|
  x_aload 0 <|
  x_getR 4 5 <|
  x_iload 1 <|
  x_iaload <|
  x_tsw 1 [
  x_push (vi 2) <|
  x_iload 3 <|
  x_bin omul <|
  x_push (vi 999) <|
  x_mm min <|
  x_ret Q,
  x_iload 3 <|
  x_push (vi 2) <|
  x_div odiv <|
  x_ret Q,
  x_push (vi 2) <|
  x_iload 3 <|
  x_bin omul <|
  x_aload 0 <|
  x_getR 4 6 <|
  x_iload 1 <|
  x_iaload <|
  x_bin oadd <|
  x_push (vi 999) <|
  x_mm min <|
  x_ret Q,
  x_iload 3 <|
  x_push (vi 999) <|
  x_mm min <|
  x_ret Q,
  x_iload 3 <|
  x_push (vi 5) <|
  x_mm min <|
  x_ret Q] (
  x_iload 3 <|
  x_push (vi 999) <|
  x_mm min <|
  x_ret Q)) <|
  x_push (vi 0) <|
  x_ret Q
set_option maxRecDepth 100000 in
theorem b_X4_costs_0 {d : Nat} {Q : xV → xMem → Prop} : Snd M_X4_costs (d + 1) 0 Q (k_X4_costs_0 d Q) :=
  s_aload_n dX4_costs_0 rfl <|
  s_getR xC4 (by decide) (fun _ _ _ => rfl) fl_X4_15 dX4_costs_1 <|
  s_iload_n dX4_costs_4 rfl <|
  s_iaload dX4_costs_5 <|
  s_iconst dX4_costs_6 rfl <|
  s_icmp_ne (t := 12) dX4_costs_7 rfl (
  s_aload_n dX4_costs_12 rfl <|
  s_iconst dX4_costs_13 rfl <|
  s_iload_n dX4_costs_14 rfl <|
  s_iload_n dX4_costs_15 rfl <|
  s_iconst dX4_costs_16 rfl <|
  s_cV4 ce_X4_ruled ml_X4_67 im_X4_ruled se_X4_ruled xC4 dX4_costs_17 <|
  s_aload_n dX4_costs_20 rfl <|
  s_getI xC4 (by decide) (fun _ _ _ => rfl) fl_X4_9 dX4_costs_21 <|
  s_imul dX4_costs_24 <|
  s_istore_n dX4_costs_25 rfl (by decide) <|
  s_aload_n dX4_costs_26 rfl <|
  s_getR xC4 (by decide) (fun _ _ _ => rfl) fl_X4_15 dX4_costs_27 <|
  s_iload_n dX4_costs_30 rfl <|
  s_iaload dX4_costs_31 <|
  s_tsw (t := 105) (offs := [36, 46, 50, 73, 67]) dX4_costs_32 rfl rfl (
  s_iload_n dX4_costs_105 rfl <|
  s_sipush dX4_costs_106 rfl (by decide) <|
  s_mmin mm_min_X4_71 dX4_costs_109 <|
  s_ireturn dX4_costs_112 rfl) ⟨⟨68, rfl, s_iconst dX4_costs_68 rfl <|
  s_iload_n dX4_costs_69 rfl <|
  s_imul dX4_costs_70 <|
  s_sipush dX4_costs_71 rfl (by decide) <|
  s_mmin mm_min_X4_71 dX4_costs_74 <|
  s_ireturn dX4_costs_77 rfl⟩, ⟨⟨78, rfl, s_iload_n dX4_costs_78 rfl <|
  s_iconst dX4_costs_79 rfl <|
  s_idiv dX4_costs_80 <|
  s_ireturn dX4_costs_81 rfl⟩, ⟨⟨82, rfl, s_iconst dX4_costs_82 rfl <|
  s_iload_n dX4_costs_83 rfl <|
  s_imul dX4_costs_84 <|
  s_aload_n dX4_costs_85 rfl <|
  s_getR xC4 (by decide) (fun _ _ _ => rfl) fl_X4_19 dX4_costs_86 <|
  s_iload_n dX4_costs_89 rfl <|
  s_iaload dX4_costs_90 <|
  s_iadd dX4_costs_91 <|
  s_sipush dX4_costs_92 rfl (by decide) <|
  s_mmin mm_min_X4_71 dX4_costs_95 <|
  s_ireturn dX4_costs_98 rfl⟩, ⟨⟨105, rfl, s_iload_n dX4_costs_105 rfl <|
  s_sipush dX4_costs_106 rfl (by decide) <|
  s_mmin mm_min_X4_71 dX4_costs_109 <|
  s_ireturn dX4_costs_112 rfl⟩, ⟨⟨99, rfl, s_iload_n dX4_costs_99 rfl <|
  s_iconst dX4_costs_100 rfl <|
  s_mmin mm_min_X4_71 dX4_costs_101 <|
  s_ireturn dX4_costs_104 rfl⟩, trivial⟩⟩⟩⟩⟩) <|
  s_iconst dX4_costs_10 rfl <|
  s_ireturn dX4_costs_11 rfl
-- X4_costs: cuts [0]
def k_X4_gladness_0 (d : Nat) (Q : xV → xMem → Prop) : xP :=
  x_aload 0 <|
  x_getR 4 5 <|
  x_iload 2 <|
  x_iaload <|
  x_push (vi 5) <|
  x_c2 (fun x y => ¬ x = y) (
  x_aload 0 <|
  x_iload 1 <|
  x_iload 2 <|
  x_cV2 M_X4_isWished d 4 <|
  x_c1 (fun x => x = 0) (
  x_push (vi 0) <|
  (xJ M_X4_gladness (d + 1) 38 Q)) <|
  x_aload 0 <|
  x_push (vi 1) <|
  x_iload 2 <|
  x_aload 0 <|
  x_getR 4 9 <|
  x_iload 1 <|
  x_iaload <|
  x_push (vi 1) <|
  x_cV4 M_X4_ruled d 4 <|
  (xJ M_X4_gladness (d + 1) 38 Q)) <|
  x_push (vi 1) <|
  x_ret Q
set_option maxRecDepth 100000 in
theorem b_X4_gladness_0 {d : Nat} {Q : xV → xMem → Prop} : Snd M_X4_gladness (d + 1) 0 Q (k_X4_gladness_0 d Q) :=
  s_aload_n dX4_gladness_0 rfl <|
  s_getR xC4 (by decide) (fun _ _ _ => rfl) fl_X4_15 dX4_gladness_1 <|
  s_iload_n dX4_gladness_4 rfl <|
  s_iaload dX4_gladness_5 <|
  s_iconst dX4_gladness_6 rfl <|
  s_icmp_ne (t := 12) dX4_gladness_7 rfl (
  s_aload_n dX4_gladness_12 rfl <|
  s_iload_n dX4_gladness_13 rfl <|
  s_iload_n dX4_gladness_14 rfl <|
  s_cV2 ce_X4_isWished ml_X4_77 im_X4_isWished se_X4_isWished xC4 dX4_gladness_15 <|
  s_if_eq (t := 37) dX4_gladness_18 rfl (
  s_iconst dX4_gladness_37 rfl <|
  s_J) <|
  s_aload_n dX4_gladness_21 rfl <|
  s_iconst dX4_gladness_22 rfl <|
  s_iload_n dX4_gladness_23 rfl <|
  s_aload_n dX4_gladness_24 rfl <|
  s_getR xC4 (by decide) (fun _ _ _ => rfl) fl_X4_28 dX4_gladness_25 <|
  s_iload_n dX4_gladness_28 rfl <|
  s_iaload dX4_gladness_29 <|
  s_iconst dX4_gladness_30 rfl <|
  s_cV4 ce_X4_ruled ml_X4_67 im_X4_ruled se_X4_ruled xC4 dX4_gladness_31 <|
  s_goto (t := 38) dX4_gladness_34 rfl <|
  s_J) <|
  s_iconst dX4_gladness_10 rfl <|
  s_ireturn dX4_gladness_11 rfl
def k_X4_gladness_38 (d : Nat) (Q : xV → xMem → Prop) : xP :=
  x_istore 3 <|
  x_aload 0 <|
  x_getR 4 5 <|
  x_iload 2 <|
  x_iaload <|
  x_tsw 1 [
  x_iload 3 <|
  x_push (vi 2) <|
  x_bin oadd <|
  x_ret Q,
  x_iload 3 <|
  x_push (vi 2) <|
  x_div odiv <|
  x_ret Q,
  x_push (vi 2) <|
  x_iload 3 <|
  x_push (vi 2) <|
  x_bin oadd <|
  x_bin omul <|
  x_ret Q,
  x_iload 3 <|
  x_push (vi 2) <|
  x_div odiv <|
  x_push (vi 9) <|
  x_bin osub <|
  x_ret Q] (
  x_iload 3 <|
  x_ret Q)
set_option maxRecDepth 100000 in
theorem b_X4_gladness_38 {d : Nat} {Q : xV → xMem → Prop} : Snd M_X4_gladness (d + 1) 38 Q (k_X4_gladness_38 d Q) :=
  s_istore_n dX4_gladness_38 rfl (by decide) <|
  s_aload_n dX4_gladness_39 rfl <|
  s_getR xC4 (by decide) (fun _ _ _ => rfl) fl_X4_15 dX4_gladness_40 <|
  s_iload_n dX4_gladness_43 rfl <|
  s_iaload dX4_gladness_44 <|
  s_tsw (t := 97) (offs := [31, 35, 39, 45]) dX4_gladness_45 rfl rfl (
  s_iload_n dX4_gladness_97 rfl <|
  s_ireturn dX4_gladness_98 rfl) ⟨⟨76, rfl, s_iload_n dX4_gladness_76 rfl <|
  s_iconst dX4_gladness_77 rfl <|
  s_iadd dX4_gladness_78 <|
  s_ireturn dX4_gladness_79 rfl⟩, ⟨⟨80, rfl, s_iload_n dX4_gladness_80 rfl <|
  s_iconst dX4_gladness_81 rfl <|
  s_idiv dX4_gladness_82 <|
  s_ireturn dX4_gladness_83 rfl⟩, ⟨⟨84, rfl, s_iconst dX4_gladness_84 rfl <|
  s_iload_n dX4_gladness_85 rfl <|
  s_iconst dX4_gladness_86 rfl <|
  s_iadd dX4_gladness_87 <|
  s_imul dX4_gladness_88 <|
  s_ireturn dX4_gladness_89 rfl⟩, ⟨⟨90, rfl, s_iload_n dX4_gladness_90 rfl <|
  s_iconst dX4_gladness_91 rfl <|
  s_idiv dX4_gladness_92 <|
  s_bipush dX4_gladness_93 rfl (by decide) <|
  s_isub dX4_gladness_95 <|
  s_ireturn dX4_gladness_96 rfl⟩, trivial⟩⟩⟩⟩
-- X4_gladness: cuts [0, 38]
def k_X4_payment_0 (d : Nat) (Q : xV → xMem → Prop) : xP :=
  x_aload 0 <|
  x_push (vi 2) <|
  x_iload 2 <|
  x_aload 0 <|
  x_getR 4 9 <|
  x_iload 1 <|
  x_iaload <|
  x_aload 0 <|
  x_iload 1 <|
  x_iload 2 <|
  x_cV2 M_X4_isWished d 4 <|
  x_cV4 M_X4_ruled d 4 <|
  x_ret Q
set_option maxRecDepth 100000 in
theorem b_X4_payment_0 {d : Nat} {Q : xV → xMem → Prop} : Snd M_X4_payment (d + 1) 0 Q (k_X4_payment_0 d Q) :=
  s_aload_n dX4_payment_0 rfl <|
  s_iconst dX4_payment_1 rfl <|
  s_iload_n dX4_payment_2 rfl <|
  s_aload_n dX4_payment_3 rfl <|
  s_getR xC4 (by decide) (fun _ _ _ => rfl) fl_X4_28 dX4_payment_4 <|
  s_iload_n dX4_payment_7 rfl <|
  s_iaload dX4_payment_8 <|
  s_aload_n dX4_payment_9 rfl <|
  s_iload_n dX4_payment_10 rfl <|
  s_iload_n dX4_payment_11 rfl <|
  s_cV2 ce_X4_isWished ml_X4_77 im_X4_isWished se_X4_isWished xC4 dX4_payment_12 <|
  s_cV4 ce_X4_ruled ml_X4_67 im_X4_ruled se_X4_ruled xC4 dX4_payment_15 <|
  s_ireturn dX4_payment_18 rfl
-- X4_payment: cuts [0]
def k_X4_ruled_0 (d : Nat) (Q : xV → xMem → Prop) : xP :=
  x_aload 0 <|
  x_getR 4 11 <|
  x_push (vi 0) <|
  x_iload 3 <|
  x_iastore <|
  x_aload 0 <|
  x_getR 4 11 <|
  x_push (vi 1) <|
  x_aload 0 <|
  x_getR 4 6 <|
  x_iload 2 <|
  x_iaload <|
  x_iastore <|
  x_aload 0 <|
  x_getR 4 11 <|
  x_push (vi 2) <|
  x_aload 0 <|
  x_getR 4 7 <|
  x_iload 2 <|
  x_iaload <|
  x_iastore <|
  x_aload 0 <|
  x_getR 4 11 <|
  x_push (vi 3) <|
  x_iload 4 <|
  x_c1 (fun x => x = 0) (
  x_push (vi 0) <|
  (xJ M_X4_ruled (d + 1) 46 Q)) <|
  x_push (vi 1) <|
  (xJ M_X4_ruled (d + 1) 46 Q)
set_option maxRecDepth 100000 in
theorem b_X4_ruled_0 {d : Nat} {Q : xV → xMem → Prop} : Snd M_X4_ruled (d + 1) 0 Q (k_X4_ruled_0 d Q) :=
  s_aload_n dX4_ruled_0 rfl <|
  s_getR xC4 (by decide) (fun _ _ _ => rfl) fl_X4_34 dX4_ruled_1 <|
  s_iconst dX4_ruled_4 rfl <|
  s_iload_n dX4_ruled_5 rfl <|
  s_iastore dX4_ruled_6 <|
  s_aload_n dX4_ruled_7 rfl <|
  s_getR xC4 (by decide) (fun _ _ _ => rfl) fl_X4_34 dX4_ruled_8 <|
  s_iconst dX4_ruled_11 rfl <|
  s_aload_n dX4_ruled_12 rfl <|
  s_getR xC4 (by decide) (fun _ _ _ => rfl) fl_X4_19 dX4_ruled_13 <|
  s_iload_n dX4_ruled_16 rfl <|
  s_iaload dX4_ruled_17 <|
  s_iastore dX4_ruled_18 <|
  s_aload_n dX4_ruled_19 rfl <|
  s_getR xC4 (by decide) (fun _ _ _ => rfl) fl_X4_34 dX4_ruled_20 <|
  s_iconst dX4_ruled_23 rfl <|
  s_aload_n dX4_ruled_24 rfl <|
  s_getR xC4 (by decide) (fun _ _ _ => rfl) fl_X4_22 dX4_ruled_25 <|
  s_iload_n dX4_ruled_28 rfl <|
  s_iaload dX4_ruled_29 <|
  s_iastore dX4_ruled_30 <|
  s_aload_n dX4_ruled_31 rfl <|
  s_getR xC4 (by decide) (fun _ _ _ => rfl) fl_X4_34 dX4_ruled_32 <|
  s_iconst dX4_ruled_35 rfl <|
  s_iload dX4_ruled_36 <|
  s_if_eq (t := 45) dX4_ruled_38 rfl (
  s_iconst dX4_ruled_45 rfl <|
  s_J) <|
  s_iconst dX4_ruled_41 rfl <|
  s_goto (t := 46) dX4_ruled_42 rfl <|
  s_J
def k_X4_ruled_46 (d : Nat) (Q : xV → xMem → Prop) : xP :=
  x_iastore <|
  x_aload 0 <|
  x_getR 4 11 <|
  x_push (vi 4) <|
  x_aload 0 <|
  x_iload 2 <|
  x_cV1 M_X4_asked d 4 <|
  x_iastore <|
  x_aload 0 <|
  x_getR 4 11 <|
  x_push (vi 5) <|
  x_aload 0 <|
  x_iload 3 <|
  x_cV1 M_X4_comers d 4 <|
  x_iastore <|
  x_aload 0 <|
  x_getR 4 0 <|
  x_aload 0 <|
  x_getI 4 2 <|
  x_aaload <|
  x_iload 1 <|
  x_aload 0 <|
  x_getR 4 11 <|
  x_cV2 M_X3_value d 3 <|
  x_istore 5 <|
  x_iload 5 <|
  x_iload 1 <|
  x_push (vi 1) <|
  x_c2 (fun x y => ¬ x = y) (
  x_push (vi 0) <|
  x_mm max <|
  x_push (vi 99) <|
  x_mm min <|
  x_ret Q) <|
  x_push (vi (-99)) <|
  x_mm max <|
  x_push (vi 99) <|
  x_mm min <|
  x_ret Q
set_option maxRecDepth 100000 in
theorem b_X4_ruled_46 {d : Nat} {Q : xV → xMem → Prop} : Snd M_X4_ruled (d + 1) 46 Q (k_X4_ruled_46 d Q) :=
  s_iastore dX4_ruled_46 <|
  s_aload_n dX4_ruled_47 rfl <|
  s_getR xC4 (by decide) (fun _ _ _ => rfl) fl_X4_34 dX4_ruled_48 <|
  s_iconst dX4_ruled_51 rfl <|
  s_aload_n dX4_ruled_52 rfl <|
  s_iload_n dX4_ruled_53 rfl <|
  s_cV1 ce_X4_asked ml_X4_80 im_X4_asked se_X4_asked xC4 dX4_ruled_54 <|
  s_iastore dX4_ruled_57 <|
  s_aload_n dX4_ruled_58 rfl <|
  s_getR xC4 (by decide) (fun _ _ _ => rfl) fl_X4_34 dX4_ruled_59 <|
  s_iconst dX4_ruled_62 rfl <|
  s_aload_n dX4_ruled_63 rfl <|
  s_iload_n dX4_ruled_64 rfl <|
  s_cV1 ce_X4_comers ml_X4_84 im_X4_comers se_X4_comers xC4 dX4_ruled_65 <|
  s_iastore dX4_ruled_68 <|
  s_aload_n dX4_ruled_69 rfl <|
  s_getR xC4 (by decide) (fun _ _ _ => rfl) fl_X4_37 dX4_ruled_70 <|
  s_aload_n dX4_ruled_73 rfl <|
  s_getI xC4 (by decide) (fun _ _ _ => rfl) fl_X4_41 dX4_ruled_74 <|
  s_aaload dX4_ruled_77 <|
  s_iload_n dX4_ruled_78 rfl <|
  s_aload_n dX4_ruled_79 rfl <|
  s_getR xC4 (by decide) (fun _ _ _ => rfl) fl_X4_34 dX4_ruled_80 <|
  s_cV2 ce_X3_value ml_X4_87 im_X3_value se_X3_value xC3 dX4_ruled_83 <|
  s_istore dX4_ruled_86 (by decide) <|
  s_iload dX4_ruled_88 <|
  s_iload_n dX4_ruled_90 rfl <|
  s_iconst dX4_ruled_91 rfl <|
  s_icmp_ne (t := 100) dX4_ruled_92 rfl (
  s_iconst dX4_ruled_100 rfl <|
  s_mmax mm_max_X4_93 dX4_ruled_101 <|
  s_bipush dX4_ruled_104 rfl (by decide) <|
  s_mmin mm_min_X4_71 dX4_ruled_106 <|
  s_ireturn dX4_ruled_109 rfl) <|
  s_bipush dX4_ruled_95 rfl (by decide) <|
  s_goto (t := 101) dX4_ruled_97 rfl <|
  s_mmax mm_max_X4_93 dX4_ruled_101 <|
  s_bipush dX4_ruled_104 rfl (by decide) <|
  s_mmin mm_min_X4_71 dX4_ruled_106 <|
  s_ireturn dX4_ruled_109 rfl
-- X4_ruled: cuts [0, 46]
def k_X4_firstOtherwise_0 (d : Nat) (Q : xV → xMem → Prop) : xP :=
  x_push (vi 0) <|
  x_istore 3 <|
  (xJ M_X4_firstOtherwise (d + 1) 2 Q)
set_option maxRecDepth 100000 in
theorem b_X4_firstOtherwise_0 {d : Nat} {Q : xV → xMem → Prop} : Snd M_X4_firstOtherwise (d + 1) 0 Q (k_X4_firstOtherwise_0 d Q) :=
  s_iconst dX4_firstOtherwise_0 rfl <|
  s_istore_n dX4_firstOtherwise_1 rfl (by decide) <|
  s_J
def k_X4_firstOtherwise_2 (d : Nat) (Q : xV → xMem → Prop) : xP :=
  x_iload 3 <|
  x_aload 2 <|
  x_getI 1 1 <|
  x_c2 (fun x y => y ≤ x) (
  x_push (vi (-1)) <|
  x_ret Q) <|
  x_iload 3 <|
  x_push (vi 12) <|
  x_c2 (fun x y => y ≤ x) (
  x_push (vi (-1)) <|
  x_ret Q) <|
  x_aload 2 <|
  x_getR 1 2 <|
  x_iload 3 <|
  x_iaload <|
  x_aload 0 <|
  x_iload 1 <|
  x_iload 3 <|
  x_cV2 M_X4_costs d 4 <|
  x_c2 (fun x y => x = y) (
  x_iinc 3 1 <|
  (xJ M_X4_firstOtherwise (d + 1) 2 Q)) <|
  x_iload 3 <|
  x_ret Q
set_option maxRecDepth 100000 in
theorem b_X4_firstOtherwise_2 {d : Nat} {Q : xV → xMem → Prop} : Snd M_X4_firstOtherwise (d + 1) 2 Q (k_X4_firstOtherwise_2 d Q) :=
  s_iload_n dX4_firstOtherwise_2 rfl <|
  s_aload_n dX4_firstOtherwise_3 rfl <|
  s_getI xC1 (by decide) (fun _ _ _ => rfl) fl_X4_96 dX4_firstOtherwise_4 <|
  s_icmp_ge (t := 39) dX4_firstOtherwise_7 rfl (
  s_iconst dX4_firstOtherwise_39 rfl <|
  s_ireturn dX4_firstOtherwise_40 rfl) <|
  s_iload_n dX4_firstOtherwise_10 rfl <|
  s_bipush dX4_firstOtherwise_11 rfl (by decide) <|
  s_icmp_ge (t := 39) dX4_firstOtherwise_13 rfl (
  s_iconst dX4_firstOtherwise_39 rfl <|
  s_ireturn dX4_firstOtherwise_40 rfl) <|
  s_aload_n dX4_firstOtherwise_16 rfl <|
  s_getR xC1 (by decide) (fun _ _ _ => rfl) fl_X4_101 dX4_firstOtherwise_17 <|
  s_iload_n dX4_firstOtherwise_20 rfl <|
  s_iaload dX4_firstOtherwise_21 <|
  s_aload_n dX4_firstOtherwise_22 rfl <|
  s_iload_n dX4_firstOtherwise_23 rfl <|
  s_iload_n dX4_firstOtherwise_24 rfl <|
  s_cV2 ce_X4_costs ml_X4_104 im_X4_costs se_X4_costs xC4 dX4_firstOtherwise_25 <|
  s_icmp_eq (t := 33) dX4_firstOtherwise_28 rfl (
  s_iinc dX4_firstOtherwise_33 (by decide) <|
  s_goto (t := 2) dX4_firstOtherwise_36 rfl <|
  s_J) <|
  s_iload_n dX4_firstOtherwise_31 rfl <|
  s_ireturn dX4_firstOtherwise_32 rfl
-- X4_firstOtherwise: cuts [0, 2]
def k_X1_become_0 (d : Nat) (Q : xV → xMem → Prop) : xP :=
  x_aload 0 <|
  x_iload 1 <|
  x_putI 1 0 <|
  x_aload 0 <|
  x_iload 2 <|
  x_putI 1 1 <|
  x_push (vi 0) <|
  x_istore 3 <|
  (xJ M_X1_become (d + 1) 12 Q)
set_option maxRecDepth 100000 in
theorem b_X1_become_0 {d : Nat} {Q : xV → xMem → Prop} : Snd M_X1_become (d + 1) 0 Q (k_X1_become_0 d Q) :=
  s_aload_n dX1_become_0 rfl <|
  s_iload_n dX1_become_1 rfl <|
  s_putI xC1 (by decide) (fun _ _ _ => rfl) rfl rfl fl_X1_9 dX1_become_2 <|
  s_aload_n dX1_become_5 rfl <|
  s_iload_n dX1_become_6 rfl <|
  s_putI xC1 (by decide) (fun _ _ _ => rfl) rfl rfl fl_X1_19 dX1_become_7 <|
  s_iconst dX1_become_10 rfl <|
  s_istore_n dX1_become_11 rfl (by decide) <|
  s_J
def k_X1_become_12 (d : Nat) (Q : xV → xMem → Prop) : xP :=
  x_iload 3 <|
  x_push (vi 40) <|
  x_c2 (fun x y => y ≤ x) (
  x_vret Q) <|
  x_aload 0 <|
  x_getR 1 2 <|
  x_iload 3 <|
  x_push (vi 0) <|
  x_iastore <|
  x_iinc 3 1 <|
  (xJ M_X1_become (d + 1) 12 Q)
set_option maxRecDepth 100000 in
theorem b_X1_become_12 {d : Nat} {Q : xV → xMem → Prop} : Snd M_X1_become (d + 1) 12 Q (k_X1_become_12 d Q) :=
  s_iload_n dX1_become_12 rfl <|
  s_bipush dX1_become_13 rfl (by decide) <|
  s_icmp_ge (t := 31) dX1_become_15 rfl (
  s_return dX1_become_31 rfl) <|
  s_aload_n dX1_become_18 rfl <|
  s_getR xC1 (by decide) (fun _ _ _ => rfl) fl_X1_15 dX1_become_19 <|
  s_iload_n dX1_become_22 rfl <|
  s_iconst dX1_become_23 rfl <|
  s_iastore dX1_become_24 <|
  s_iinc dX1_become_25 (by decide) <|
  s_goto (t := 12) dX1_become_28 rfl <|
  s_J
-- X1_become: cuts [0, 12]
def k_X1_holds_0 (d : Nat) (Q : xV → xMem → Prop) : xP :=
  x_iload 1 <|
  x_c1 (fun x => x < 0) (
  x_push (vi 0) <|
  x_zret Q) <|
  x_iload 2 <|
  x_c1 (fun x => x < 0) (
  x_push (vi 0) <|
  x_zret Q) <|
  x_iload 2 <|
  x_aload 0 <|
  x_getI 1 1 <|
  x_c2 (fun x y => y < x) (
  x_push (vi 0) <|
  x_zret Q) <|
  x_iload 1 <|
  x_aload 0 <|
  x_getI 1 1 <|
  x_iload 2 <|
  x_bin osub <|
  x_c2 (fun x y => y < x) (
  x_push (vi 0) <|
  x_zret Q) <|
  x_push (vi 1) <|
  x_zret Q
set_option maxRecDepth 100000 in
theorem b_X1_holds_0 {d : Nat} {Q : xV → xMem → Prop} : Snd M_X1_holds (d + 1) 0 Q (k_X1_holds_0 d Q) :=
  s_iload_n dX1_holds_0 rfl <|
  s_if_lt (t := 30) dX1_holds_1 rfl (
  s_iconst dX1_holds_30 rfl <|
  s_zreturn dX1_holds_31 rfl) <|
  s_iload_n dX1_holds_4 rfl <|
  s_if_lt (t := 30) dX1_holds_5 rfl (
  s_iconst dX1_holds_30 rfl <|
  s_zreturn dX1_holds_31 rfl) <|
  s_iload_n dX1_holds_8 rfl <|
  s_aload_n dX1_holds_9 rfl <|
  s_getI xC1 (by decide) (fun _ _ _ => rfl) fl_X1_19 dX1_holds_10 <|
  s_icmp_gt (t := 30) dX1_holds_13 rfl (
  s_iconst dX1_holds_30 rfl <|
  s_zreturn dX1_holds_31 rfl) <|
  s_iload_n dX1_holds_16 rfl <|
  s_aload_n dX1_holds_17 rfl <|
  s_getI xC1 (by decide) (fun _ _ _ => rfl) fl_X1_19 dX1_holds_18 <|
  s_iload_n dX1_holds_21 rfl <|
  s_isub dX1_holds_22 <|
  s_icmp_gt (t := 30) dX1_holds_23 rfl (
  s_iconst dX1_holds_30 rfl <|
  s_zreturn dX1_holds_31 rfl) <|
  s_iconst dX1_holds_26 rfl <|
  s_goto (t := 31) dX1_holds_27 rfl <|
  s_zreturn dX1_holds_31 rfl
-- X1_holds: cuts [0]
def k_X1_put_0 (d : Nat) (Q : xV → xMem → Prop) : xP :=
  x_aload 0 <|
  x_iload 1 <|
  x_push (vi 1) <|
  x_cV2 M_X1_holds d 1 <|
  x_c1 (fun x => ¬ x = 0) (
  x_aload 0 <|
  x_getR 1 2 <|
  x_iload 1 <|
  x_aload 0 <|
  x_getI 1 0 <|
  x_c1 (fun x => ¬ x = 0) (
  x_aload 0 <|
  x_getI 1 0 <|
  x_push (vi 1) <|
  x_c2 (fun x y => ¬ x = y) (
  x_iload 2 <|
  x_iastore <|
  x_vret Q) <|
  x_iload 2 <|
  x_un oi2s <|
  x_iastore <|
  x_vret Q) <|
  x_iload 2 <|
  x_un oi2b <|
  x_iastore <|
  x_vret Q) <|
  x_vret Q
set_option maxRecDepth 100000 in
theorem b_X1_put_0 {d : Nat} {Q : xV → xMem → Prop} : Snd M_X1_put (d + 1) 0 Q (k_X1_put_0 d Q) :=
  s_aload_n dX1_put_0 rfl <|
  s_iload_n dX1_put_1 rfl <|
  s_iconst dX1_put_2 rfl <|
  s_cV2 ce_X1_holds ml_X1_22 im_X1_holds se_X1_holds xC1 dX1_put_3 <|
  s_if_ne (t := 10) dX1_put_6 rfl (
  s_aload_n dX1_put_10 rfl <|
  s_getR xC1 (by decide) (fun _ _ _ => rfl) fl_X1_15 dX1_put_11 <|
  s_iload_n dX1_put_14 rfl <|
  s_aload_n dX1_put_15 rfl <|
  s_getI xC1 (by decide) (fun _ _ _ => rfl) fl_X1_9 dX1_put_16 <|
  s_if_ne (t := 27) dX1_put_19 rfl (
  s_aload_n dX1_put_27 rfl <|
  s_getI xC1 (by decide) (fun _ _ _ => rfl) fl_X1_9 dX1_put_28 <|
  s_iconst dX1_put_31 rfl <|
  s_icmp_ne (t := 40) dX1_put_32 rfl (
  s_iload_n dX1_put_40 rfl <|
  s_iastore dX1_put_41 <|
  s_return dX1_put_42 rfl) <|
  s_iload_n dX1_put_35 rfl <|
  s_i2s dX1_put_36 <|
  s_goto (t := 41) dX1_put_37 rfl <|
  s_iastore dX1_put_41 <|
  s_return dX1_put_42 rfl) <|
  s_iload_n dX1_put_22 rfl <|
  s_i2b dX1_put_23 <|
  s_goto (t := 41) dX1_put_24 rfl <|
  s_iastore dX1_put_41 <|
  s_return dX1_put_42 rfl) <|
  s_return dX1_put_9 rfl
-- X1_put: cuts [0]
def k_X3_clear_0 (d : Nat) (Q : xV → xMem → Prop) : xP :=
  x_aload 0 <|
  x_push (vi 0) <|
  x_putI 3 3 <|
  x_push (vi 0) <|
  x_istore 1 <|
  (xJ M_X3_clear (d + 1) 7 Q)
set_option maxRecDepth 100000 in
theorem b_X3_clear_0 {d : Nat} {Q : xV → xMem → Prop} : Snd M_X3_clear (d + 1) 0 Q (k_X3_clear_0 d Q) :=
  s_aload_n dX3_clear_0 rfl <|
  s_iconst dX3_clear_1 rfl <|
  s_putI xC3 (by decide) (fun _ _ _ => rfl) rfl rfl fl_X3_21 dX3_clear_2 <|
  s_iconst dX3_clear_5 rfl <|
  s_istore_n dX3_clear_6 rfl (by decide) <|
  s_J
def k_X3_clear_7 (d : Nat) (Q : xV → xMem → Prop) : xP :=
  x_iload 1 <|
  x_push (vi 3) <|
  x_c2 (fun x y => y ≤ x) (
  x_vret Q) <|
  x_aload 0 <|
  x_getR 3 1 <|
  x_iload 1 <|
  x_push (vi 0) <|
  x_iastore <|
  x_iinc 1 1 <|
  (xJ M_X3_clear (d + 1) 7 Q)
set_option maxRecDepth 100000 in
theorem b_X3_clear_7 {d : Nat} {Q : xV → xMem → Prop} : Snd M_X3_clear (d + 1) 7 Q (k_X3_clear_7 d Q) :=
  s_iload_n dX3_clear_7 rfl <|
  s_iconst dX3_clear_8 rfl <|
  s_icmp_ge (t := 25) dX3_clear_9 rfl (
  s_return dX3_clear_25 rfl) <|
  s_aload_n dX3_clear_12 rfl <|
  s_getR xC3 (by decide) (fun _ _ _ => rfl) fl_X3_15 dX3_clear_13 <|
  s_iload_n dX3_clear_16 rfl <|
  s_iconst dX3_clear_17 rfl <|
  s_iastore dX3_clear_18 <|
  s_iinc dX3_clear_19 (by decide) <|
  s_goto (t := 7) dX3_clear_22 rfl <|
  s_J
-- X3_clear: cuts [0, 7]
def k_X3_add_0 (d : Nat) (Q : xV → xMem → Prop) : xP :=
  x_aload 0 <|
  x_getI 3 3 <|
  x_push (vi 160) <|
  x_c2 (fun x y => y ≤ x) (
  x_vret Q) <|
  x_aload 0 <|
  x_getR 3 0 <|
  x_aload 0 <|
  x_getI 3 3 <|
  x_iload 1 <|
  x_iastore <|
  x_aload 0 <|
  x_dup <|
  x_getI 3 3 <|
  x_push (vi 1) <|
  x_bin oadd <|
  x_putI 3 3 <|
  x_vret Q
set_option maxRecDepth 100000 in
theorem b_X3_add_0 {d : Nat} {Q : xV → xMem → Prop} : Snd M_X3_add (d + 1) 0 Q (k_X3_add_0 d Q) :=
  s_aload_n dX3_add_0 rfl <|
  s_getI xC3 (by decide) (fun _ _ _ => rfl) fl_X3_21 dX3_add_1 <|
  s_sipush dX3_add_4 rfl (by decide) <|
  s_icmp_ge (t := 30) dX3_add_7 rfl (
  s_return dX3_add_30 rfl) <|
  s_aload_n dX3_add_10 rfl <|
  s_getR xC3 (by decide) (fun _ _ _ => rfl) fl_X3_9 dX3_add_11 <|
  s_aload_n dX3_add_14 rfl <|
  s_getI xC3 (by decide) (fun _ _ _ => rfl) fl_X3_21 dX3_add_15 <|
  s_iload_n dX3_add_18 rfl <|
  s_iastore dX3_add_19 <|
  s_aload_n dX3_add_20 rfl <|
  s_dup dX3_add_21 <|
  s_getI xC3 (by decide) (fun _ _ _ => rfl) fl_X3_21 dX3_add_22 <|
  s_iconst dX3_add_25 rfl <|
  s_iadd dX3_add_26 <|
  s_putI xC3 (by decide) (fun _ _ _ => rfl) rfl rfl fl_X3_21 dX3_add_27 <|
  s_return dX3_add_30 rfl
-- X3_add: cuts [0]
def k_X3_end_0 (d : Nat) (Q : xV → xMem → Prop) : xP :=
  x_iload 1 <|
  x_c1 (fun x => x < 0) (
  x_vret Q) <|
  x_iload 1 <|
  x_push (vi 3) <|
  x_c2 (fun x y => y ≤ x) (
  x_vret Q) <|
  x_aload 0 <|
  x_getR 3 1 <|
  x_iload 1 <|
  x_aload 0 <|
  x_getI 3 3 <|
  x_iastore <|
  x_vret Q
set_option maxRecDepth 100000 in
theorem b_X3_end_0 {d : Nat} {Q : xV → xMem → Prop} : Snd M_X3_end (d + 1) 0 Q (k_X3_end_0 d Q) :=
  s_iload_n dX3_end_0 rfl <|
  s_if_lt (t := 19) dX3_end_1 rfl (
  s_return dX3_end_19 rfl) <|
  s_iload_n dX3_end_4 rfl <|
  s_iconst dX3_end_5 rfl <|
  s_icmp_ge (t := 19) dX3_end_6 rfl (
  s_return dX3_end_19 rfl) <|
  s_aload_n dX3_end_9 rfl <|
  s_getR xC3 (by decide) (fun _ _ _ => rfl) fl_X3_15 dX3_end_10 <|
  s_iload_n dX3_end_13 rfl <|
  s_aload_n dX3_end_14 rfl <|
  s_getI xC3 (by decide) (fun _ _ _ => rfl) fl_X3_21 dX3_end_15 <|
  s_iastore dX3_end_18 <|
  s_return dX3_end_19 rfl
-- X3_end: cuts [0]
def k_X3_pricesLookAtMeans_0 (d : Nat) (Q : xV → xMem → Prop) : xP :=
  x_push (vi 0) <|
  x_istore 1 <|
  (xJ M_X3_pricesLookAtMeans (d + 1) 2 Q)
set_option maxRecDepth 100000 in
theorem b_X3_pricesLookAtMeans_0 {d : Nat} {Q : xV → xMem → Prop} : Snd M_X3_pricesLookAtMeans (d + 1) 0 Q (k_X3_pricesLookAtMeans_0 d Q) :=
  s_iconst dX3_pricesLookAtMeans_0 rfl <|
  s_istore_n dX3_pricesLookAtMeans_1 rfl (by decide) <|
  s_J
def k_X3_pricesLookAtMeans_2 (d : Nat) (Q : xV → xMem → Prop) : xP :=
  x_iload 1 <|
  x_aload 0 <|
  x_getR 3 1 <|
  x_push (vi 0) <|
  x_iaload <|
  x_c2 (fun x y => y ≤ x) (
  x_push (vi 0) <|
  x_zret Q) <|
  x_aload 0 <|
  x_getR 3 0 <|
  x_iload 1 <|
  x_iaload <|
  x_push (vi (-3)) <|
  x_c2 (fun x y => ¬ x = y) (
  x_iinc 1 1 <|
  (xJ M_X3_pricesLookAtMeans (d + 1) 2 Q)) <|
  x_push (vi 1) <|
  x_zret Q
set_option maxRecDepth 100000 in
theorem b_X3_pricesLookAtMeans_2 {d : Nat} {Q : xV → xMem → Prop} : Snd M_X3_pricesLookAtMeans (d + 1) 2 Q (k_X3_pricesLookAtMeans_2 d Q) :=
  s_iload_n dX3_pricesLookAtMeans_2 rfl <|
  s_aload_n dX3_pricesLookAtMeans_3 rfl <|
  s_getR xC3 (by decide) (fun _ _ _ => rfl) fl_X3_15 dX3_pricesLookAtMeans_4 <|
  s_iconst dX3_pricesLookAtMeans_7 rfl <|
  s_iaload dX3_pricesLookAtMeans_8 <|
  s_icmp_ge (t := 31) dX3_pricesLookAtMeans_9 rfl (
  s_iconst dX3_pricesLookAtMeans_31 rfl <|
  s_zreturn dX3_pricesLookAtMeans_32 rfl) <|
  s_aload_n dX3_pricesLookAtMeans_12 rfl <|
  s_getR xC3 (by decide) (fun _ _ _ => rfl) fl_X3_9 dX3_pricesLookAtMeans_13 <|
  s_iload_n dX3_pricesLookAtMeans_16 rfl <|
  s_iaload dX3_pricesLookAtMeans_17 <|
  s_bipush dX3_pricesLookAtMeans_18 rfl (by decide) <|
  s_icmp_ne (t := 25) dX3_pricesLookAtMeans_20 rfl (
  s_iinc dX3_pricesLookAtMeans_25 (by decide) <|
  s_goto (t := 2) dX3_pricesLookAtMeans_28 rfl <|
  s_J) <|
  s_iconst dX3_pricesLookAtMeans_23 rfl <|
  s_zreturn dX3_pricesLookAtMeans_24 rfl
-- X3_pricesLookAtMeans: cuts [0, 2]
def k_X3_value_0 (d : Nat) (Q : xV → xMem → Prop) : xP :=
  x_iload 1 <|
  x_c1 (fun x => x < 0) (
  x_push (vi 0) <|
  x_ret Q) <|
  x_iload 1 <|
  x_push (vi 3) <|
  x_c2 (fun x y => x < y) (
  x_push (vi 0) <|
  x_istore 3 <|
  x_iload 1 <|
  x_c1 (fun x => ¬ x = 0) (
  x_aload 0 <|
  x_getR 3 1 <|
  x_iload 1 <|
  x_push (vi 1) <|
  x_bin osub <|
  x_iaload <|
  x_istore 4 <|
  (xJ M_X3_value (d + 1) 31 Q)) <|
  x_push (vi 0) <|
  x_istore 4 <|
  (xJ M_X3_value (d + 1) 31 Q)) <|
  x_push (vi 0) <|
  x_ret Q
set_option maxRecDepth 100000 in
theorem b_X3_value_0 {d : Nat} {Q : xV → xMem → Prop} : Snd M_X3_value (d + 1) 0 Q (k_X3_value_0 d Q) :=
  s_iload_n dX3_value_0 rfl <|
  s_if_lt (t := 9) dX3_value_1 rfl (
  s_iconst dX3_value_9 rfl <|
  s_ireturn dX3_value_10 rfl) <|
  s_iload_n dX3_value_4 rfl <|
  s_iconst dX3_value_5 rfl <|
  s_icmp_lt (t := 11) dX3_value_6 rfl (
  s_iconst dX3_value_11 rfl <|
  s_istore_n dX3_value_12 rfl (by decide) <|
  s_iload_n dX3_value_13 rfl <|
  s_if_ne (t := 21) dX3_value_14 rfl (
  s_aload_n dX3_value_21 rfl <|
  s_getR xC3 (by decide) (fun _ _ _ => rfl) fl_X3_15 dX3_value_22 <|
  s_iload_n dX3_value_25 rfl <|
  s_iconst dX3_value_26 rfl <|
  s_isub dX3_value_27 <|
  s_iaload dX3_value_28 <|
  s_istore dX3_value_29 (by decide) <|
  s_J) <|
  s_iconst dX3_value_17 rfl <|
  s_goto (t := 29) dX3_value_18 rfl <|
  s_istore dX3_value_29 (by decide) <|
  s_J) <|
  s_iconst dX3_value_9 rfl <|
  s_ireturn dX3_value_10 rfl
def k_X3_value_31 (d : Nat) (Q : xV → xMem → Prop) : xP :=
  x_iload 4 <|
  x_aload 0 <|
  x_getR 3 1 <|
  x_iload 1 <|
  x_iaload <|
  x_c2 (fun x y => y ≤ x) (
  x_iload 3 <|
  x_push (vi 1) <|
  x_c2 (fun x y => x < y) (
  x_push (vi 0) <|
  x_ret Q) <|
  x_aload 0 <|
  x_getR 3 2 <|
  x_push (vi 0) <|
  x_iaload <|
  x_ret Q) <|
  x_aload 0 <|
  x_getR 3 0 <|
  x_iload 4 <|
  x_iaload <|
  x_istore 5 <|
  x_iload 5 <|
  x_push (vi (-6)) <|
  x_c2 (fun x y => x < y) (
  x_iload 5 <|
  x_push (vi (-12)) <|
  x_c2 (fun x y => x = y) (
  (xJ M_X3_value (d + 1) 109 Q)) <|
  x_iload 5 <|
  x_push (vi (-18)) <|
  x_c2 (fun x y => ¬ x = y) (
  x_iload 3 <|
  x_push (vi 2) <|
  x_c2 (fun x y => x < y) (
  x_iinc 4 1 <|
  (xJ M_X3_value (d + 1) 31 Q)) <|
  x_aload 0 <|
  x_getR 3 2 <|
  x_iload 3 <|
  x_push (vi 2) <|
  x_bin osub <|
  x_iload 5 <|
  x_aload 0 <|
  x_getR 3 2 <|
  x_iload 3 <|
  x_push (vi 2) <|
  x_bin osub <|
  x_iaload <|
  x_aload 0 <|
  x_getR 3 2 <|
  x_iload 3 <|
  x_push (vi 1) <|
  x_bin osub <|
  x_iaload <|
  x_cS3 M_X3_joined d <|
  x_iastore <|
  x_iinc 3 (-1) <|
  x_iinc 4 1 <|
  (xJ M_X3_value (d + 1) 31 Q)) <|
  (xJ M_X3_value (d + 1) 109 Q)) <|
  x_iload 3 <|
  x_aload 0 <|
  x_getR 3 2 <|
  x_alen <|
  x_c2 (fun x y => y ≤ x) (
  x_iinc 4 1 <|
  (xJ M_X3_value (d + 1) 31 Q)) <|
  x_aload 0 <|
  x_getR 3 2 <|
  x_iload 3 <|
  x_iload 5 <|
  x_c1 (fun x => x < 0) (
  x_aload 2 <|
  x_push (vi (-1)) <|
  x_iload 5 <|
  x_bin osub <|
  x_iaload <|
  x_iastore <|
  x_iinc 3 1 <|
  x_iinc 4 1 <|
  (xJ M_X3_value (d + 1) 31 Q)) <|
  x_iload 5 <|
  x_iastore <|
  x_iinc 3 1 <|
  x_iinc 4 1 <|
  (xJ M_X3_value (d + 1) 31 Q)
set_option maxRecDepth 100000 in
theorem b_X3_value_31 {d : Nat} {Q : xV → xMem → Prop} : Snd M_X3_value (d + 1) 31 Q (k_X3_value_31 d Q) :=
  s_iload dX3_value_31 <|
  s_aload_n dX3_value_33 rfl <|
  s_getR xC3 (by decide) (fun _ _ _ => rfl) fl_X3_15 dX3_value_34 <|
  s_iload_n dX3_value_37 rfl <|
  s_iaload dX3_value_38 <|
  s_icmp_ge (t := 203) dX3_value_39 rfl (
  s_iload_n dX3_value_203 rfl <|
  s_iconst dX3_value_204 rfl <|
  s_icmp_lt (t := 217) dX3_value_205 rfl (
  s_iconst dX3_value_217 rfl <|
  s_ireturn dX3_value_218 rfl) <|
  s_aload_n dX3_value_208 rfl <|
  s_getR xC3 (by decide) (fun _ _ _ => rfl) fl_X3_18 dX3_value_209 <|
  s_iconst dX3_value_212 rfl <|
  s_iaload dX3_value_213 <|
  s_goto (t := 218) dX3_value_214 rfl <|
  s_ireturn dX3_value_218 rfl) <|
  s_aload_n dX3_value_42 rfl <|
  s_getR xC3 (by decide) (fun _ _ _ => rfl) fl_X3_9 dX3_value_43 <|
  s_iload dX3_value_46 <|
  s_iaload dX3_value_48 <|
  s_istore dX3_value_49 (by decide) <|
  s_iload dX3_value_51 <|
  s_bipush dX3_value_53 rfl (by decide) <|
  s_icmp_lt (t := 95) dX3_value_55 rfl (
  s_iload dX3_value_95 <|
  s_bipush dX3_value_97 rfl (by decide) <|
  s_icmp_eq (t := 109) dX3_value_99 rfl (
  s_J) <|
  s_iload dX3_value_102 <|
  s_bipush dX3_value_104 rfl (by decide) <|
  s_icmp_ne (t := 160) dX3_value_106 rfl (
  s_iload_n dX3_value_160 rfl <|
  s_iconst dX3_value_161 rfl <|
  s_icmp_lt (t := 197) dX3_value_162 rfl (
  s_iinc dX3_value_197 (by decide) <|
  s_goto (t := 31) dX3_value_200 rfl <|
  s_J) <|
  s_aload_n dX3_value_165 rfl <|
  s_getR xC3 (by decide) (fun _ _ _ => rfl) fl_X3_18 dX3_value_166 <|
  s_iload_n dX3_value_169 rfl <|
  s_iconst dX3_value_170 rfl <|
  s_isub dX3_value_171 <|
  s_iload dX3_value_172 <|
  s_aload_n dX3_value_174 rfl <|
  s_getR xC3 (by decide) (fun _ _ _ => rfl) fl_X3_18 dX3_value_175 <|
  s_iload_n dX3_value_178 rfl <|
  s_iconst dX3_value_179 rfl <|
  s_isub dX3_value_180 <|
  s_iaload dX3_value_181 <|
  s_aload_n dX3_value_182 rfl <|
  s_getR xC3 (by decide) (fun _ _ _ => rfl) fl_X3_18 dX3_value_183 <|
  s_iload_n dX3_value_186 rfl <|
  s_iconst dX3_value_187 rfl <|
  s_isub dX3_value_188 <|
  s_iaload dX3_value_189 <|
  s_cS3 ce_X3_joined ml_X3_25 sm_X3_joined dX3_value_190 <|
  s_iastore dX3_value_193 <|
  s_iinc dX3_value_194 (by decide) <|
  s_iinc dX3_value_197 (by decide) <|
  s_goto (t := 31) dX3_value_200 rfl <|
  s_J) <|
  s_J) <|
  s_iload_n dX3_value_58 rfl <|
  s_aload_n dX3_value_59 rfl <|
  s_getR xC3 (by decide) (fun _ _ _ => rfl) fl_X3_18 dX3_value_60 <|
  s_alen dX3_value_63 <|
  s_icmp_ge (t := 197) dX3_value_64 rfl (
  s_iinc dX3_value_197 (by decide) <|
  s_goto (t := 31) dX3_value_200 rfl <|
  s_J) <|
  s_aload_n dX3_value_67 rfl <|
  s_getR xC3 (by decide) (fun _ _ _ => rfl) fl_X3_18 dX3_value_68 <|
  s_iload_n dX3_value_71 rfl <|
  s_iload dX3_value_72 <|
  s_if_lt (t := 82) dX3_value_74 rfl (
  s_aload_n dX3_value_82 rfl <|
  s_iconst dX3_value_83 rfl <|
  s_iload dX3_value_84 <|
  s_isub dX3_value_86 <|
  s_iaload dX3_value_87 <|
  s_iastore dX3_value_88 <|
  s_iinc dX3_value_89 (by decide) <|
  s_goto (t := 197) dX3_value_92 rfl <|
  s_iinc dX3_value_197 (by decide) <|
  s_goto (t := 31) dX3_value_200 rfl <|
  s_J) <|
  s_iload dX3_value_77 <|
  s_goto (t := 88) dX3_value_79 rfl <|
  s_iastore dX3_value_88 <|
  s_iinc dX3_value_89 (by decide) <|
  s_goto (t := 197) dX3_value_92 rfl <|
  s_iinc dX3_value_197 (by decide) <|
  s_goto (t := 31) dX3_value_200 rfl <|
  s_J
def k_X3_value_109 (d : Nat) (Q : xV → xMem → Prop) : xP :=
  x_iload 3 <|
  x_push (vi 1) <|
  x_c2 (fun x y => x < y) (
  x_iinc 4 1 <|
  (xJ M_X3_value (d + 1) 31 Q)) <|
  x_aload 0 <|
  x_getR 3 2 <|
  x_iload 3 <|
  x_push (vi 1) <|
  x_bin osub <|
  x_iload 5 <|
  x_push (vi (-18)) <|
  x_c2 (fun x y => ¬ x = y) (
  x_aload 0 <|
  x_getR 3 2 <|
  x_iload 3 <|
  x_push (vi 1) <|
  x_bin osub <|
  x_iaload <|
  x_c1 (fun x => ¬ x = 0) (
  x_push (vi 0) <|
  x_iastore <|
  x_iinc 4 1 <|
  (xJ M_X3_value (d + 1) 31 Q)) <|
  x_push (vi 1) <|
  x_iastore <|
  x_iinc 4 1 <|
  (xJ M_X3_value (d + 1) 31 Q)) <|
  x_aload 0 <|
  x_getR 3 2 <|
  x_iload 3 <|
  x_push (vi 1) <|
  x_bin osub <|
  x_iaload <|
  x_un oneg <|
  x_iastore <|
  x_iinc 4 1 <|
  (xJ M_X3_value (d + 1) 31 Q)
set_option maxRecDepth 100000 in
theorem b_X3_value_109 {d : Nat} {Q : xV → xMem → Prop} : Snd M_X3_value (d + 1) 109 Q (k_X3_value_109 d Q) :=
  s_iload_n dX3_value_109 rfl <|
  s_iconst dX3_value_110 rfl <|
  s_icmp_lt (t := 197) dX3_value_111 rfl (
  s_iinc dX3_value_197 (by decide) <|
  s_goto (t := 31) dX3_value_200 rfl <|
  s_J) <|
  s_aload_n dX3_value_114 rfl <|
  s_getR xC3 (by decide) (fun _ _ _ => rfl) fl_X3_18 dX3_value_115 <|
  s_iload_n dX3_value_118 rfl <|
  s_iconst dX3_value_119 rfl <|
  s_isub dX3_value_120 <|
  s_iload dX3_value_121 <|
  s_bipush dX3_value_123 rfl (by decide) <|
  s_icmp_ne (t := 140) dX3_value_125 rfl (
  s_aload_n dX3_value_140 rfl <|
  s_getR xC3 (by decide) (fun _ _ _ => rfl) fl_X3_18 dX3_value_141 <|
  s_iload_n dX3_value_144 rfl <|
  s_iconst dX3_value_145 rfl <|
  s_isub dX3_value_146 <|
  s_iaload dX3_value_147 <|
  s_if_ne (t := 155) dX3_value_148 rfl (
  s_iconst dX3_value_155 rfl <|
  s_iastore dX3_value_156 <|
  s_goto (t := 197) dX3_value_157 rfl <|
  s_iinc dX3_value_197 (by decide) <|
  s_goto (t := 31) dX3_value_200 rfl <|
  s_J) <|
  s_iconst dX3_value_151 rfl <|
  s_goto (t := 156) dX3_value_152 rfl <|
  s_iastore dX3_value_156 <|
  s_goto (t := 197) dX3_value_157 rfl <|
  s_iinc dX3_value_197 (by decide) <|
  s_goto (t := 31) dX3_value_200 rfl <|
  s_J) <|
  s_aload_n dX3_value_128 rfl <|
  s_getR xC3 (by decide) (fun _ _ _ => rfl) fl_X3_18 dX3_value_129 <|
  s_iload_n dX3_value_132 rfl <|
  s_iconst dX3_value_133 rfl <|
  s_isub dX3_value_134 <|
  s_iaload dX3_value_135 <|
  s_ineg dX3_value_136 <|
  s_goto (t := 156) dX3_value_137 rfl <|
  s_iastore dX3_value_156 <|
  s_goto (t := 197) dX3_value_157 rfl <|
  s_iinc dX3_value_197 (by decide) <|
  s_goto (t := 31) dX3_value_200 rfl <|
  s_J
-- X3_value: cuts [0, 31, 109]
def k_X3_joined_0 (d : Nat) (Q : xV → xMem → Prop) : xP :=
  x_iload 0 <|
  x_tsw (-16) [
  x_iload 1 <|
  x_iload 2 <|
  x_bin osub <|
  x_ret Q,
  x_iload 1 <|
  x_iload 2 <|
  x_bin oadd <|
  x_ret Q,
  x_iload 1 <|
  x_iload 2 <|
  x_c2 (fun x y => ¬ x = y) (
  x_push (vi 0) <|
  x_ret Q) <|
  x_push (vi 1) <|
  x_ret Q,
  x_iload 1 <|
  x_iload 2 <|
  x_c2 (fun x y => y ≤ x) (
  x_push (vi 0) <|
  x_ret Q) <|
  x_push (vi 1) <|
  x_ret Q,
  x_iload 1 <|
  x_iload 2 <|
  x_bin omul <|
  x_ret Q,
  x_iload 1 <|
  x_c1 (fun x => x = 0) (
  x_push (vi 0) <|
  x_ret Q) <|
  x_iload 2 <|
  x_c1 (fun x => x = 0) (
  x_push (vi 0) <|
  x_ret Q) <|
  x_push (vi 1) <|
  x_ret Q,
  x_iload 1 <|
  x_c1 (fun x => ¬ x = 0) (
  x_push (vi 1) <|
  x_ret Q) <|
  x_iload 2 <|
  x_c1 (fun x => x = 0) (
  x_push (vi 0) <|
  x_ret Q) <|
  x_push (vi 1) <|
  x_ret Q] (
  x_iload 1 <|
  x_iload 2 <|
  x_bin omul <|
  x_ret Q)
set_option maxRecDepth 100000 in
theorem b_X3_joined_0 {d : Nat} {Q : xV → xMem → Prop} : Snd M_X3_joined (d + 1) 0 Q (k_X3_joined_0 d Q) :=
  s_iload_n dX3_joined_0 rfl <|
  s_tsw (t := 102) (offs := [97, 93, 82, 71, 101, 57, 43]) dX3_joined_1 rfl rfl (
  s_iload_n dX3_joined_102 rfl <|
  s_iload_n dX3_joined_103 rfl <|
  s_imul dX3_joined_104 <|
  s_ireturn dX3_joined_105 rfl) ⟨⟨98, rfl, s_iload_n dX3_joined_98 rfl <|
  s_iload_n dX3_joined_99 rfl <|
  s_isub dX3_joined_100 <|
  s_ireturn dX3_joined_101 rfl⟩, ⟨⟨94, rfl, s_iload_n dX3_joined_94 rfl <|
  s_iload_n dX3_joined_95 rfl <|
  s_iadd dX3_joined_96 <|
  s_ireturn dX3_joined_97 rfl⟩, ⟨⟨83, rfl, s_iload_n dX3_joined_83 rfl <|
  s_iload_n dX3_joined_84 rfl <|
  s_icmp_ne (t := 92) dX3_joined_85 rfl (
  s_iconst dX3_joined_92 rfl <|
  s_ireturn dX3_joined_93 rfl) <|
  s_iconst dX3_joined_88 rfl <|
  s_goto (t := 93) dX3_joined_89 rfl <|
  s_ireturn dX3_joined_93 rfl⟩, ⟨⟨72, rfl, s_iload_n dX3_joined_72 rfl <|
  s_iload_n dX3_joined_73 rfl <|
  s_icmp_ge (t := 81) dX3_joined_74 rfl (
  s_iconst dX3_joined_81 rfl <|
  s_ireturn dX3_joined_82 rfl) <|
  s_iconst dX3_joined_77 rfl <|
  s_goto (t := 82) dX3_joined_78 rfl <|
  s_ireturn dX3_joined_82 rfl⟩, ⟨⟨102, rfl, s_iload_n dX3_joined_102 rfl <|
  s_iload_n dX3_joined_103 rfl <|
  s_imul dX3_joined_104 <|
  s_ireturn dX3_joined_105 rfl⟩, ⟨⟨58, rfl, s_iload_n dX3_joined_58 rfl <|
  s_if_eq (t := 70) dX3_joined_59 rfl (
  s_iconst dX3_joined_70 rfl <|
  s_ireturn dX3_joined_71 rfl) <|
  s_iload_n dX3_joined_62 rfl <|
  s_if_eq (t := 70) dX3_joined_63 rfl (
  s_iconst dX3_joined_70 rfl <|
  s_ireturn dX3_joined_71 rfl) <|
  s_iconst dX3_joined_66 rfl <|
  s_goto (t := 71) dX3_joined_67 rfl <|
  s_ireturn dX3_joined_71 rfl⟩, ⟨⟨44, rfl, s_iload_n dX3_joined_44 rfl <|
  s_if_ne (t := 52) dX3_joined_45 rfl (
  s_iconst dX3_joined_52 rfl <|
  s_goto (t := 57) dX3_joined_53 rfl <|
  s_ireturn dX3_joined_57 rfl) <|
  s_iload_n dX3_joined_48 rfl <|
  s_if_eq (t := 56) dX3_joined_49 rfl (
  s_iconst dX3_joined_56 rfl <|
  s_ireturn dX3_joined_57 rfl) <|
  s_iconst dX3_joined_52 rfl <|
  s_goto (t := 57) dX3_joined_53 rfl <|
  s_ireturn dX3_joined_57 rfl⟩, trivial⟩⟩⟩⟩⟩⟩⟩
-- X3_joined: cuts [0]
