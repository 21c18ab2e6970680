/-! code of methods as trees of pure instructions: printed by wip/whole/gen.py -/
def k_X0_look_0 (d : Nat) (Q : xV → xMem → Prop) : xP :=
  x_aload 0 <|
  x_aload 1 <|
  x_getI 4 3 <|
  x_putI 0 8 <|
  x_aload 0 <|
  x_aload 1 <|
  x_getI 4 4 <|
  x_putI 0 9 <|
  x_aload 1 <|
  x_getR 4 7 <|
  x_push (vi 0) <|
  x_aload 0 <|
  x_getR 0 3 <|
  x_push (vi 0) <|
  x_push (vi 6) <|
  x_acopy <|
  x_push (vi 0) <|
  x_istore 2 <|
  (xJ M_X0_look (d + 1) 33 Q)
set_option maxRecDepth 100000 in
theorem b_X0_look_0 {d : Nat} {Q : xV → xMem → Prop} : Snd M_X0_look (d + 1) 0 Q (k_X0_look_0 d Q) :=
  s_aload_n dX0_look_0 rfl <|
  s_aload_n dX0_look_1 rfl <|
  s_getI xC4 (by decide) (fun _ _ _ => rfl) fl_X0_38 dX0_look_2 <|
  s_putI xC0 (by decide) (fun _ _ _ => rfl) rfl rfl fl_X0_44 dX0_look_5 <|
  s_aload_n dX0_look_8 rfl <|
  s_aload_n dX0_look_9 rfl <|
  s_getI xC4 (by decide) (fun _ _ _ => rfl) fl_X0_45 dX0_look_10 <|
  s_putI xC0 (by decide) (fun _ _ _ => rfl) rfl rfl fl_X0_48 dX0_look_13 <|
  s_aload_n dX0_look_16 rfl <|
  s_getR xC4 (by decide) (fun _ _ _ => rfl) fl_X0_49 dX0_look_17 <|
  s_iconst dX0_look_20 rfl <|
  s_aload_n dX0_look_21 rfl <|
  s_getR xC0 (by decide) (fun _ _ _ => rfl) fl_X0_22 dX0_look_22 <|
  s_iconst dX0_look_25 rfl <|
  s_bipush dX0_look_26 rfl (by decide) <|
  s_acopy ml_X0_50 ac_nat ac_sta ac_ini dX0_look_28 <|
  s_iconst dX0_look_31 rfl <|
  s_istore_n dX0_look_32 rfl (by decide) <|
  s_J
def k_X0_look_33 (d : Nat) (Q : xV → xMem → Prop) : xP :=
  x_iload 2 <|
  x_aload 0 <|
  x_getI 0 9 <|
  x_c2 (fun x y => y ≤ x) (
  x_vret Q) <|
  x_push (vi 0) <|
  x_istore 3 <|
  (xJ M_X0_look (d + 1) 43 Q)
set_option maxRecDepth 100000 in
theorem b_X0_look_33 {d : Nat} {Q : xV → xMem → Prop} : Snd M_X0_look (d + 1) 33 Q (k_X0_look_33 d Q) :=
  s_iload_n dX0_look_33 rfl <|
  s_aload_n dX0_look_34 rfl <|
  s_getI xC0 (by decide) (fun _ _ _ => rfl) fl_X0_48 dX0_look_35 <|
  s_icmp_ge (t := 142) dX0_look_38 rfl (
  s_return dX0_look_142 rfl) <|
  s_iconst dX0_look_41 rfl <|
  s_istore_n dX0_look_42 rfl (by decide) <|
  s_J
def k_X0_look_43 (d : Nat) (Q : xV → xMem → Prop) : xP :=
  x_iload 3 <|
  x_aload 0 <|
  x_getI 0 8 <|
  x_c2 (fun x y => y ≤ x) (
  x_iinc 2 1 <|
  (xJ M_X0_look (d + 1) 33 Q)) <|
  x_aload 0 <|
  x_getR 0 0 <|
  x_iload 2 <|
  x_aaload <|
  x_iload 3 <|
  x_push (vi (-1)) <|
  x_iastore <|
  x_aload 1 <|
  x_iload 3 <|
  x_aload 1 <|
  x_getR 4 9 <|
  x_iload 2 <|
  x_iaload <|
  x_cV2 M_X4_appears d 4 <|
  x_c1 (fun x => x = 0) (
  x_iinc 3 1 <|
  (xJ M_X0_look (d + 1) 43 Q)) <|
  x_aload 0 <|
  x_getR 0 0 <|
  x_iload 2 <|
  x_aaload <|
  x_iload 3 <|
  x_aload 1 <|
  x_iload 3 <|
  x_aload 1 <|
  x_getR 4 9 <|
  x_iload 2 <|
  x_iaload <|
  x_cV2 M_X4_costs d 4 <|
  x_iastore <|
  x_aload 0 <|
  x_getR 0 1 <|
  x_iload 2 <|
  x_aaload <|
  x_iload 3 <|
  x_aload 1 <|
  x_iload 2 <|
  x_iload 3 <|
  x_cV2 M_X4_gladness d 4 <|
  x_iastore <|
  x_aload 0 <|
  x_getR 0 2 <|
  x_iload 2 <|
  x_aaload <|
  x_iload 3 <|
  x_aload 0 <|
  x_getR 0 0 <|
  x_iload 2 <|
  x_aaload <|
  x_iload 3 <|
  x_iaload <|
  x_aload 1 <|
  x_iload 2 <|
  x_iload 3 <|
  x_cV2 M_X4_payment d 4 <|
  x_bin oadd <|
  x_iastore <|
  x_iinc 3 1 <|
  (xJ M_X0_look (d + 1) 43 Q)
set_option maxRecDepth 100000 in
theorem b_X0_look_43 {d : Nat} {Q : xV → xMem → Prop} : Snd M_X0_look (d + 1) 43 Q (k_X0_look_43 d Q) :=
  s_iload_n dX0_look_43 rfl <|
  s_aload_n dX0_look_44 rfl <|
  s_getI xC0 (by decide) (fun _ _ _ => rfl) fl_X0_44 dX0_look_45 <|
  s_icmp_ge (t := 136) dX0_look_48 rfl (
  s_iinc dX0_look_136 (by decide) <|
  s_goto (t := 33) dX0_look_139 rfl <|
  s_J) <|
  s_aload_n dX0_look_51 rfl <|
  s_getR xC0 (by decide) (fun _ _ _ => rfl) fl_X0_11 dX0_look_52 <|
  s_iload_n dX0_look_55 rfl <|
  s_aaload dX0_look_56 <|
  s_iload_n dX0_look_57 rfl <|
  s_iconst dX0_look_58 rfl <|
  s_iastore dX0_look_59 <|
  s_aload_n dX0_look_60 rfl <|
  s_iload_n dX0_look_61 rfl <|
  s_aload_n dX0_look_62 rfl <|
  s_getR xC4 (by decide) (fun _ _ _ => rfl) fl_X0_56 dX0_look_63 <|
  s_iload_n dX0_look_66 rfl <|
  s_iaload dX0_look_67 <|
  s_cV2 ce_X4_appears ml_X0_59 im_X4_appears se_X4_appears xC4 dX0_look_68 <|
  s_if_eq (t := 130) dX0_look_71 rfl (
  s_iinc dX0_look_130 (by decide) <|
  s_goto (t := 43) dX0_look_133 rfl <|
  s_J) <|
  s_aload_n dX0_look_74 rfl <|
  s_getR xC0 (by decide) (fun _ _ _ => rfl) fl_X0_11 dX0_look_75 <|
  s_iload_n dX0_look_78 rfl <|
  s_aaload dX0_look_79 <|
  s_iload_n dX0_look_80 rfl <|
  s_aload_n dX0_look_81 rfl <|
  s_iload_n dX0_look_82 rfl <|
  s_aload_n dX0_look_83 rfl <|
  s_getR xC4 (by decide) (fun _ _ _ => rfl) fl_X0_56 dX0_look_84 <|
  s_iload_n dX0_look_87 rfl <|
  s_iaload dX0_look_88 <|
  s_cV2 ce_X4_costs ml_X0_63 im_X4_costs se_X4_costs xC4 dX0_look_89 <|
  s_iastore dX0_look_92 <|
  s_aload_n dX0_look_93 rfl <|
  s_getR xC0 (by decide) (fun _ _ _ => rfl) fl_X0_16 dX0_look_94 <|
  s_iload_n dX0_look_97 rfl <|
  s_aaload dX0_look_98 <|
  s_iload_n dX0_look_99 rfl <|
  s_aload_n dX0_look_100 rfl <|
  s_iload_n dX0_look_101 rfl <|
  s_iload_n dX0_look_102 rfl <|
  s_cV2 ce_X4_gladness ml_X0_67 im_X4_gladness se_X4_gladness xC4 dX0_look_103 <|
  s_iastore dX0_look_106 <|
  s_aload_n dX0_look_107 rfl <|
  s_getR xC0 (by decide) (fun _ _ _ => rfl) fl_X0_19 dX0_look_108 <|
  s_iload_n dX0_look_111 rfl <|
  s_aaload dX0_look_112 <|
  s_iload_n dX0_look_113 rfl <|
  s_aload_n dX0_look_114 rfl <|
  s_getR xC0 (by decide) (fun _ _ _ => rfl) fl_X0_11 dX0_look_115 <|
  s_iload_n dX0_look_118 rfl <|
  s_aaload dX0_look_119 <|
  s_iload_n dX0_look_120 rfl <|
  s_iaload dX0_look_121 <|
  s_aload_n dX0_look_122 rfl <|
  s_iload_n dX0_look_123 rfl <|
  s_iload_n dX0_look_124 rfl <|
  s_cV2 ce_X4_payment ml_X0_70 im_X4_payment se_X4_payment xC4 dX0_look_125 <|
  s_iadd dX0_look_128 <|
  s_iastore dX0_look_129 <|
  s_iinc dX0_look_130 (by decide) <|
  s_goto (t := 43) dX0_look_133 rfl <|
  s_J
-- X0_look: cuts [0, 33, 43]
def k_X0_fillPurses_0 (d : Nat) (Q : xV → xMem → Prop) : xP :=
  x_aload 0 <|
  x_getR 0 3 <|
  x_push (vi 0) <|
  x_aload 0 <|
  x_getR 0 4 <|
  x_push (vi 0) <|
  x_push (vi 6) <|
  x_acopy <|
  x_vret Q
set_option maxRecDepth 100000 in
theorem b_X0_fillPurses_0 {d : Nat} {Q : xV → xMem → Prop} : Snd M_X0_fillPurses (d + 1) 0 Q (k_X0_fillPurses_0 d Q) :=
  s_aload_n dX0_fillPurses_0 rfl <|
  s_getR xC0 (by decide) (fun _ _ _ => rfl) fl_X0_22 dX0_fillPurses_1 <|
  s_iconst dX0_fillPurses_4 rfl <|
  s_aload_n dX0_fillPurses_5 rfl <|
  s_getR xC0 (by decide) (fun _ _ _ => rfl) fl_X0_26 dX0_fillPurses_6 <|
  s_iconst dX0_fillPurses_9 rfl <|
  s_bipush dX0_fillPurses_10 rfl (by decide) <|
  s_acopy ml_X0_50 ac_nat ac_sta ac_ini dX0_fillPurses_12 <|
  s_return dX0_fillPurses_15 rfl
-- X0_fillPurses: cuts [0]
def k_X0_canBe_0 (d : Nat) (Q : xV → xMem → Prop) : xP :=
  x_aload 0 <|
  x_getR 0 0 <|
  x_iload 1 <|
  x_aaload <|
  x_iload 2 <|
  x_iaload <|
  x_push (vi (-1)) <|
  x_c2 (fun x y => x = y) (
  x_push (vi 0) <|
  x_zret Q) <|
  x_aload 0 <|
  x_getR 0 0 <|
  x_iload 1 <|
  x_aaload <|
  x_iload 2 <|
  x_iaload <|
  x_aload 0 <|
  x_getR 0 4 <|
  x_iload 2 <|
  x_iaload <|
  x_c2 (fun x y => y < x) (
  x_push (vi 0) <|
  x_zret Q) <|
  x_push (vi 1) <|
  x_zret Q
set_option maxRecDepth 100000 in
theorem b_X0_canBe_0 {d : Nat} {Q : xV → xMem → Prop} : Snd M_X0_canBe (d + 1) 0 Q (k_X0_canBe_0 d Q) :=
  s_aload_n dX0_canBe_0 rfl <|
  s_getR xC0 (by decide) (fun _ _ _ => rfl) fl_X0_11 dX0_canBe_1 <|
  s_iload_n dX0_canBe_4 rfl <|
  s_aaload dX0_canBe_5 <|
  s_iload_n dX0_canBe_6 rfl <|
  s_iaload dX0_canBe_7 <|
  s_iconst dX0_canBe_8 rfl <|
  s_icmp_eq (t := 33) dX0_canBe_9 rfl (
  s_iconst dX0_canBe_33 rfl <|
  s_zreturn dX0_canBe_34 rfl) <|
  s_aload_n dX0_canBe_12 rfl <|
  s_getR xC0 (by decide) (fun _ _ _ => rfl) fl_X0_11 dX0_canBe_13 <|
  s_iload_n dX0_canBe_16 rfl <|
  s_aaload dX0_canBe_17 <|
  s_iload_n dX0_canBe_18 rfl <|
  s_iaload dX0_canBe_19 <|
  s_aload_n dX0_canBe_20 rfl <|
  s_getR xC0 (by decide) (fun _ _ _ => rfl) fl_X0_26 dX0_canBe_21 <|
  s_iload_n dX0_canBe_24 rfl <|
  s_iaload dX0_canBe_25 <|
  s_icmp_gt (t := 33) dX0_canBe_26 rfl (
  s_iconst dX0_canBe_33 rfl <|
  s_zreturn dX0_canBe_34 rfl) <|
  s_iconst dX0_canBe_29 rfl <|
  s_goto (t := 34) dX0_canBe_30 rfl <|
  s_zreturn dX0_canBe_34 rfl
-- X0_canBe: cuts [0]
def k_X0_play_0 (d : Nat) (Q : xV → xMem → Prop) : xP :=
  x_aload 0 <|
  x_cV0 M_X0_fillPurses d 0 <|
  x_aload 0 <|
  x_push (vi (-1)) <|
  x_putI 0 13 <|
  x_aload 0 <|
  x_push (vi 0) <|
  x_putI 0 14 <|
  x_aload 0 <|
  x_push (vi 0) <|
  x_putI 0 15 <|
  x_push (vi 0) <|
  x_istore 1 <|
  (xJ M_X0_play (d + 1) 21 Q)
set_option maxRecDepth 100000 in
theorem b_X0_play_0 {d : Nat} {Q : xV → xMem → Prop} : Snd M_X0_play (d + 1) 0 Q (k_X0_play_0 d Q) :=
  s_aload_n dX0_play_0 rfl <|
  s_cV0 ce_X0_fillPurses ml_X0_73 im_X0_fillPurses se_X0_fillPurses xC0 dX0_play_1 <|
  s_aload_n dX0_play_4 rfl <|
  s_iconst dX0_play_5 rfl <|
  s_putI xC0 (by decide) (fun _ _ _ => rfl) rfl rfl fl_X0_76 dX0_play_6 <|
  s_aload_n dX0_play_9 rfl <|
  s_iconst dX0_play_10 rfl <|
  s_putI xC0 (by decide) (fun _ _ _ => rfl) rfl rfl fl_X0_79 dX0_play_11 <|
  s_aload_n dX0_play_14 rfl <|
  s_iconst dX0_play_15 rfl <|
  s_putI xC0 (by decide) (fun _ _ _ => rfl) rfl rfl fl_X0_82 dX0_play_16 <|
  s_iconst dX0_play_19 rfl <|
  s_istore_n dX0_play_20 rfl (by decide) <|
  s_J
def k_X0_play_21 (d : Nat) (Q : xV → xMem → Prop) : xP :=
  x_iload 1 <|
  x_aload 0 <|
  x_getI 0 9 <|
  x_c2 (fun x y => y ≤ x) (
  x_vret Q) <|
  x_aload 0 <|
  x_getR 0 5 <|
  x_iload 1 <|
  x_iaload <|
  x_istore 2 <|
  x_iload 2 <|
  x_c1 (fun x => x < 0) (
  x_iinc 1 1 <|
  (xJ M_X0_play (d + 1) 21 Q)) <|
  x_iload 2 <|
  x_aload 0 <|
  x_getI 0 8 <|
  x_c2 (fun x y => x < y) (
  x_aload 0 <|
  x_iload 1 <|
  x_iload 2 <|
  x_cV2 M_X0_canBe d 0 <|
  x_c1 (fun x => ¬ x = 0) (
  x_aload 0 <|
  x_getR 0 4 <|
  x_iload 2 <|
  x_dup2 <|
  x_iaload <|
  x_aload 0 <|
  x_getR 0 0 <|
  x_iload 1 <|
  x_aaload <|
  x_iload 2 <|
  x_iaload <|
  x_bin osub <|
  x_iastore <|
  x_aload 0 <|
  x_dup <|
  x_getI 0 14 <|
  x_aload 0 <|
  x_getR 0 1 <|
  x_iload 1 <|
  x_aaload <|
  x_iload 2 <|
  x_iaload <|
  x_bin oadd <|
  x_putI 0 14 <|
  x_aload 0 <|
  x_dup <|
  x_getI 0 15 <|
  x_aload 0 <|
  x_getR 0 2 <|
  x_iload 1 <|
  x_aaload <|
  x_iload 2 <|
  x_iaload <|
  x_bin oadd <|
  x_putI 0 15 <|
  x_iinc 1 1 <|
  (xJ M_X0_play (d + 1) 21 Q)) <|
  x_aload 0 <|
  x_iload 1 <|
  x_putI 0 13 <|
  x_vret Q) <|
  x_iinc 1 1 <|
  (xJ M_X0_play (d + 1) 21 Q)
set_option maxRecDepth 100000 in
theorem b_X0_play_21 {d : Nat} {Q : xV → xMem → Prop} : Snd M_X0_play (d + 1) 21 Q (k_X0_play_21 d Q) :=
  s_iload_n dX0_play_21 rfl <|
  s_aload_n dX0_play_22 rfl <|
  s_getI xC0 (by decide) (fun _ _ _ => rfl) fl_X0_48 dX0_play_23 <|
  s_icmp_ge (t := 125) dX0_play_26 rfl (
  s_return dX0_play_125 rfl) <|
  s_aload_n dX0_play_29 rfl <|
  s_getR xC0 (by decide) (fun _ _ _ => rfl) fl_X0_29 dX0_play_30 <|
  s_iload_n dX0_play_33 rfl <|
  s_iaload dX0_play_34 <|
  s_istore_n dX0_play_35 rfl (by decide) <|
  s_iload_n dX0_play_36 rfl <|
  s_if_lt (t := 119) dX0_play_37 rfl (
  s_iinc dX0_play_119 (by decide) <|
  s_goto (t := 21) dX0_play_122 rfl <|
  s_J) <|
  s_iload_n dX0_play_40 rfl <|
  s_aload_n dX0_play_41 rfl <|
  s_getI xC0 (by decide) (fun _ _ _ => rfl) fl_X0_44 dX0_play_42 <|
  s_icmp_lt (t := 51) dX0_play_45 rfl (
  s_aload_n dX0_play_51 rfl <|
  s_iload_n dX0_play_52 rfl <|
  s_iload_n dX0_play_53 rfl <|
  s_cV2 ce_X0_canBe ml_X0_85 im_X0_canBe se_X0_canBe xC0 dX0_play_54 <|
  s_if_ne (t := 68) dX0_play_57 rfl (
  s_aload_n dX0_play_68 rfl <|
  s_getR xC0 (by decide) (fun _ _ _ => rfl) fl_X0_26 dX0_play_69 <|
  s_iload_n dX0_play_72 rfl <|
  s_dup2 dX0_play_73 <|
  s_iaload dX0_play_74 <|
  s_aload_n dX0_play_75 rfl <|
  s_getR xC0 (by decide) (fun _ _ _ => rfl) fl_X0_11 dX0_play_76 <|
  s_iload_n dX0_play_79 rfl <|
  s_aaload dX0_play_80 <|
  s_iload_n dX0_play_81 rfl <|
  s_iaload dX0_play_82 <|
  s_isub dX0_play_83 <|
  s_iastore dX0_play_84 <|
  s_aload_n dX0_play_85 rfl <|
  s_dup dX0_play_86 <|
  s_getI xC0 (by decide) (fun _ _ _ => rfl) fl_X0_79 dX0_play_87 <|
  s_aload_n dX0_play_90 rfl <|
  s_getR xC0 (by decide) (fun _ _ _ => rfl) fl_X0_16 dX0_play_91 <|
  s_iload_n dX0_play_94 rfl <|
  s_aaload dX0_play_95 <|
  s_iload_n dX0_play_96 rfl <|
  s_iaload dX0_play_97 <|
  s_iadd dX0_play_98 <|
  s_putI xC0 (by decide) (fun _ _ _ => rfl) rfl rfl fl_X0_79 dX0_play_99 <|
  s_aload_n dX0_play_102 rfl <|
  s_dup dX0_play_103 <|
  s_getI xC0 (by decide) (fun _ _ _ => rfl) fl_X0_82 dX0_play_104 <|
  s_aload_n dX0_play_107 rfl <|
  s_getR xC0 (by decide) (fun _ _ _ => rfl) fl_X0_19 dX0_play_108 <|
  s_iload_n dX0_play_111 rfl <|
  s_aaload dX0_play_112 <|
  s_iload_n dX0_play_113 rfl <|
  s_iaload dX0_play_114 <|
  s_iadd dX0_play_115 <|
  s_putI xC0 (by decide) (fun _ _ _ => rfl) rfl rfl fl_X0_82 dX0_play_116 <|
  s_iinc dX0_play_119 (by decide) <|
  s_goto (t := 21) dX0_play_122 rfl <|
  s_J) <|
  s_aload_n dX0_play_60 rfl <|
  s_iload_n dX0_play_61 rfl <|
  s_putI xC0 (by decide) (fun _ _ _ => rfl) rfl rfl fl_X0_76 dX0_play_62 <|
  s_goto (t := 125) dX0_play_65 rfl <|
  s_return dX0_play_125 rfl) <|
  s_goto (t := 119) dX0_play_48 rfl <|
  s_iinc dX0_play_119 (by decide) <|
  s_goto (t := 21) dX0_play_122 rfl <|
  s_J
-- X0_play: cuts [0, 21]
def k_X0_digits_0 (d : Nat) (Q : xV → xMem → Prop) : xP :=
  x_push (vi 0) <|
  x_istore 1 <|
  x_push (vi 0) <|
  x_istore 2 <|
  (xJ M_X0_digits (d + 1) 4 Q)
set_option maxRecDepth 100000 in
theorem b_X0_digits_0 {d : Nat} {Q : xV → xMem → Prop} : Snd M_X0_digits (d + 1) 0 Q (k_X0_digits_0 d Q) :=
  s_iconst dX0_digits_0 rfl <|
  s_istore_n dX0_digits_1 rfl (by decide) <|
  s_iconst dX0_digits_2 rfl <|
  s_istore_n dX0_digits_3 rfl (by decide) <|
  s_J
def k_X0_digits_4 (d : Nat) (Q : xV → xMem → Prop) : xP :=
  x_iload 2 <|
  x_aload 0 <|
  x_getI 0 9 <|
  x_c2 (fun x y => y ≤ x) (
  x_iload 1 <|
  x_ret Q) <|
  x_iload 1 <|
  x_push (vi 10) <|
  x_bin omul <|
  x_aload 0 <|
  x_getR 0 5 <|
  x_iload 2 <|
  x_iaload <|
  x_bin oadd <|
  x_push (vi 1) <|
  x_bin oadd <|
  x_istore 1 <|
  x_iinc 2 1 <|
  (xJ M_X0_digits (d + 1) 4 Q)
set_option maxRecDepth 100000 in
theorem b_X0_digits_4 {d : Nat} {Q : xV → xMem → Prop} : Snd M_X0_digits (d + 1) 4 Q (k_X0_digits_4 d Q) :=
  s_iload_n dX0_digits_4 rfl <|
  s_aload_n dX0_digits_5 rfl <|
  s_getI xC0 (by decide) (fun _ _ _ => rfl) fl_X0_48 dX0_digits_6 <|
  s_icmp_ge (t := 32) dX0_digits_9 rfl (
  s_iload_n dX0_digits_32 rfl <|
  s_ireturn dX0_digits_33 rfl) <|
  s_iload_n dX0_digits_12 rfl <|
  s_bipush dX0_digits_13 rfl (by decide) <|
  s_imul dX0_digits_15 <|
  s_aload_n dX0_digits_16 rfl <|
  s_getR xC0 (by decide) (fun _ _ _ => rfl) fl_X0_29 dX0_digits_17 <|
  s_iload_n dX0_digits_20 rfl <|
  s_iaload dX0_digits_21 <|
  s_iadd dX0_digits_22 <|
  s_iconst dX0_digits_23 rfl <|
  s_iadd dX0_digits_24 <|
  s_istore_n dX0_digits_25 rfl (by decide) <|
  s_iinc dX0_digits_26 (by decide) <|
  s_goto (t := 4) dX0_digits_29 rfl <|
  s_J
-- X0_digits: cuts [0, 4]
def k_X0_showPlainly_0 (d : Nat) (Q : xV → xMem → Prop) : xP :=
  x_aload 0 <|
  x_cV0 M_X0_fillPurses d 0 <|
  x_push (vi 0) <|
  x_istore 2 <|
  (xJ M_X0_showPlainly (d + 1) 6 Q)
set_option maxRecDepth 100000 in
theorem b_X0_showPlainly_0 {d : Nat} {Q : xV → xMem → Prop} : Snd M_X0_showPlainly (d + 1) 0 Q (k_X0_showPlainly_0 d Q) :=
  s_aload_n dX0_showPlainly_0 rfl <|
  s_cV0 ce_X0_fillPurses ml_X0_73 im_X0_fillPurses se_X0_fillPurses xC0 dX0_showPlainly_1 <|
  s_iconst dX0_showPlainly_4 rfl <|
  s_istore_n dX0_showPlainly_5 rfl (by decide) <|
  s_J
def k_X0_showPlainly_6 (d : Nat) (Q : xV → xMem → Prop) : xP :=
  x_iload 2 <|
  x_aload 0 <|
  x_getI 0 9 <|
  x_c2 (fun x y => y ≤ x) (
  x_vret Q) <|
  x_aload 0 <|
  x_getR 0 5 <|
  x_iload 2 <|
  x_push (vi (-1)) <|
  x_iastore <|
  x_push (vi 0) <|
  x_istore 3 <|
  (xJ M_X0_showPlainly (d + 1) 23 Q)
set_option maxRecDepth 100000 in
theorem b_X0_showPlainly_6 {d : Nat} {Q : xV → xMem → Prop} : Snd M_X0_showPlainly (d + 1) 6 Q (k_X0_showPlainly_6 d Q) :=
  s_iload_n dX0_showPlainly_6 rfl <|
  s_aload_n dX0_showPlainly_7 rfl <|
  s_getI xC0 (by decide) (fun _ _ _ => rfl) fl_X0_48 dX0_showPlainly_8 <|
  s_icmp_ge (t := 95) dX0_showPlainly_11 rfl (
  s_return dX0_showPlainly_95 rfl) <|
  s_aload_n dX0_showPlainly_14 rfl <|
  s_getR xC0 (by decide) (fun _ _ _ => rfl) fl_X0_29 dX0_showPlainly_15 <|
  s_iload_n dX0_showPlainly_18 rfl <|
  s_iconst dX0_showPlainly_19 rfl <|
  s_iastore dX0_showPlainly_20 <|
  s_iconst dX0_showPlainly_21 rfl <|
  s_istore_n dX0_showPlainly_22 rfl (by decide) <|
  s_J
def k_X0_showPlainly_23 (d : Nat) (Q : xV → xMem → Prop) : xP :=
  x_iload 3 <|
  x_aload 0 <|
  x_getI 0 8 <|
  x_c2 (fun x y => y ≤ x) (
  x_iinc 2 1 <|
  (xJ M_X0_showPlainly (d + 1) 6 Q)) <|
  x_aload 0 <|
  x_getR 0 5 <|
  x_iload 2 <|
  x_iaload <|
  x_push (vi (-1)) <|
  x_c2 (fun x y => ¬ x = y) (
  x_iinc 2 1 <|
  (xJ M_X0_showPlainly (d + 1) 6 Q)) <|
  x_aload 1 <|
  x_iload 2 <|
  x_iload 3 <|
  x_cV2 M_X4_isWished d 4 <|
  x_c1 (fun x => x = 0) (
  x_iinc 3 1 <|
  (xJ M_X0_showPlainly (d + 1) 23 Q)) <|
  x_aload 0 <|
  x_iload 2 <|
  x_iload 3 <|
  x_cV2 M_X0_canBe d 0 <|
  x_c1 (fun x => x = 0) (
  x_iinc 3 1 <|
  (xJ M_X0_showPlainly (d + 1) 23 Q)) <|
  x_aload 0 <|
  x_getR 0 5 <|
  x_iload 2 <|
  x_iload 3 <|
  x_iastore <|
  x_aload 0 <|
  x_getR 0 4 <|
  x_iload 3 <|
  x_dup2 <|
  x_iaload <|
  x_aload 0 <|
  x_getR 0 0 <|
  x_iload 2 <|
  x_aaload <|
  x_iload 3 <|
  x_iaload <|
  x_bin osub <|
  x_iastore <|
  x_iinc 3 1 <|
  (xJ M_X0_showPlainly (d + 1) 23 Q)
set_option maxRecDepth 100000 in
theorem b_X0_showPlainly_23 {d : Nat} {Q : xV → xMem → Prop} : Snd M_X0_showPlainly (d + 1) 23 Q (k_X0_showPlainly_23 d Q) :=
  s_iload_n dX0_showPlainly_23 rfl <|
  s_aload_n dX0_showPlainly_24 rfl <|
  s_getI xC0 (by decide) (fun _ _ _ => rfl) fl_X0_44 dX0_showPlainly_25 <|
  s_icmp_ge (t := 89) dX0_showPlainly_28 rfl (
  s_iinc dX0_showPlainly_89 (by decide) <|
  s_goto (t := 6) dX0_showPlainly_92 rfl <|
  s_J) <|
  s_aload_n dX0_showPlainly_31 rfl <|
  s_getR xC0 (by decide) (fun _ _ _ => rfl) fl_X0_29 dX0_showPlainly_32 <|
  s_iload_n dX0_showPlainly_35 rfl <|
  s_iaload dX0_showPlainly_36 <|
  s_iconst dX0_showPlainly_37 rfl <|
  s_icmp_ne (t := 89) dX0_showPlainly_38 rfl (
  s_iinc dX0_showPlainly_89 (by decide) <|
  s_goto (t := 6) dX0_showPlainly_92 rfl <|
  s_J) <|
  s_aload_n dX0_showPlainly_41 rfl <|
  s_iload_n dX0_showPlainly_42 rfl <|
  s_iload_n dX0_showPlainly_43 rfl <|
  s_cV2 ce_X4_isWished ml_X0_88 im_X4_isWished se_X4_isWished xC4 dX0_showPlainly_44 <|
  s_if_eq (t := 83) dX0_showPlainly_47 rfl (
  s_iinc dX0_showPlainly_83 (by decide) <|
  s_goto (t := 23) dX0_showPlainly_86 rfl <|
  s_J) <|
  s_aload_n dX0_showPlainly_50 rfl <|
  s_iload_n dX0_showPlainly_51 rfl <|
  s_iload_n dX0_showPlainly_52 rfl <|
  s_cV2 ce_X0_canBe ml_X0_85 im_X0_canBe se_X0_canBe xC0 dX0_showPlainly_53 <|
  s_if_eq (t := 83) dX0_showPlainly_56 rfl (
  s_iinc dX0_showPlainly_83 (by decide) <|
  s_goto (t := 23) dX0_showPlainly_86 rfl <|
  s_J) <|
  s_aload_n dX0_showPlainly_59 rfl <|
  s_getR xC0 (by decide) (fun _ _ _ => rfl) fl_X0_29 dX0_showPlainly_60 <|
  s_iload_n dX0_showPlainly_63 rfl <|
  s_iload_n dX0_showPlainly_64 rfl <|
  s_iastore dX0_showPlainly_65 <|
  s_aload_n dX0_showPlainly_66 rfl <|
  s_getR xC0 (by decide) (fun _ _ _ => rfl) fl_X0_26 dX0_showPlainly_67 <|
  s_iload_n dX0_showPlainly_70 rfl <|
  s_dup2 dX0_showPlainly_71 <|
  s_iaload dX0_showPlainly_72 <|
  s_aload_n dX0_showPlainly_73 rfl <|
  s_getR xC0 (by decide) (fun _ _ _ => rfl) fl_X0_11 dX0_showPlainly_74 <|
  s_iload_n dX0_showPlainly_77 rfl <|
  s_aaload dX0_showPlainly_78 <|
  s_iload_n dX0_showPlainly_79 rfl <|
  s_iaload dX0_showPlainly_80 <|
  s_isub dX0_showPlainly_81 <|
  s_iastore dX0_showPlainly_82 <|
  s_iinc dX0_showPlainly_83 (by decide) <|
  s_goto (t := 23) dX0_showPlainly_86 rfl <|
  s_J
-- X0_showPlainly: cuts [0, 6, 23]
def k_X0_showBest_0 (d : Nat) (Q : xV → xMem → Prop) : xP :=
  x_aload 0 <|
  x_iload 2 <|
  x_putI 0 10 <|
  x_aload 0 <|
  x_cV0 M_X0_fillPurses d 0 <|
  x_aload 0 <|
  x_aload 1 <|
  x_cV1 M_X0_hopeFor d 0 <|
  x_push (vi 0) <|
  x_istore 3 <|
  (xJ M_X0_showBest (d + 1) 16 Q)
set_option maxRecDepth 100000 in
theorem b_X0_showBest_0 {d : Nat} {Q : xV → xMem → Prop} : Snd M_X0_showBest (d + 1) 0 Q (k_X0_showBest_0 d Q) :=
  s_aload_n dX0_showBest_0 rfl <|
  s_iload_n dX0_showBest_1 rfl <|
  s_putI xC0 (by decide) (fun _ _ _ => rfl) rfl rfl fl_X0_91 dX0_showBest_2 <|
  s_aload_n dX0_showBest_5 rfl <|
  s_cV0 ce_X0_fillPurses ml_X0_73 im_X0_fillPurses se_X0_fillPurses xC0 dX0_showBest_6 <|
  s_aload_n dX0_showBest_9 rfl <|
  s_aload_n dX0_showBest_10 rfl <|
  s_cV1 ce_X0_hopeFor ml_X0_94 im_X0_hopeFor se_X0_hopeFor xC0 dX0_showBest_11 <|
  s_iconst dX0_showBest_14 rfl <|
  s_istore_n dX0_showBest_15 rfl (by decide) <|
  s_J
def k_X0_showBest_16 (d : Nat) (Q : xV → xMem → Prop) : xP :=
  x_iload 3 <|
  x_push (vi 5) <|
  x_c2 (fun x y => y ≤ x) (
  x_aload 0 <|
  x_push (vi 0) <|
  x_putI 0 11 <|
  x_aload 0 <|
  x_aload 1 <|
  x_push (vi 0) <|
  x_push (vi 0) <|
  x_cS4 M_X0_search d <|
  x_aload 0 <|
  x_getI 0 11 <|
  x_ret Q) <|
  x_aload 0 <|
  x_getR 0 5 <|
  x_iload 3 <|
  x_push (vi (-1)) <|
  x_iastore <|
  x_iinc 3 1 <|
  (xJ M_X0_showBest (d + 1) 16 Q)
set_option maxRecDepth 100000 in
theorem b_X0_showBest_16 {d : Nat} {Q : xV → xMem → Prop} : Snd M_X0_showBest (d + 1) 16 Q (k_X0_showBest_16 d Q) :=
  s_iload_n dX0_showBest_16 rfl <|
  s_iconst dX0_showBest_17 rfl <|
  s_icmp_ge (t := 34) dX0_showBest_18 rfl (
  s_aload_n dX0_showBest_34 rfl <|
  s_iconst dX0_showBest_35 rfl <|
  s_putI xC0 (by decide) (fun _ _ _ => rfl) rfl rfl fl_X0_98 dX0_showBest_36 <|
  s_aload_n dX0_showBest_39 rfl <|
  s_aload_n dX0_showBest_40 rfl <|
  s_iconst dX0_showBest_41 rfl <|
  s_iconst dX0_showBest_42 rfl <|
  s_cS4 ce_X0_search ml_X0_101 sm_X0_search dX0_showBest_43 <|
  s_aload_n dX0_showBest_46 rfl <|
  s_getI xC0 (by decide) (fun _ _ _ => rfl) fl_X0_98 dX0_showBest_47 <|
  s_ireturn dX0_showBest_50 rfl) <|
  s_aload_n dX0_showBest_21 rfl <|
  s_getR xC0 (by decide) (fun _ _ _ => rfl) fl_X0_29 dX0_showBest_22 <|
  s_iload_n dX0_showBest_25 rfl <|
  s_iconst dX0_showBest_26 rfl <|
  s_iastore dX0_showBest_27 <|
  s_iinc dX0_showBest_28 (by decide) <|
  s_goto (t := 16) dX0_showBest_31 rfl <|
  s_J
-- X0_showBest: cuts [0, 16]
def k_X0_isAllowed_0 (d : Nat) (Q : xV → xMem → Prop) : xP :=
  x_aload 0 <|
  x_getI 0 10 <|
  x_iload 2 <|
  x_bin oshr <|
  x_push (vi 1) <|
  x_bin oand <|
  x_push (vi 1) <|
  x_c2 (fun x y => ¬ x = y) (
  x_push (vi 0) <|
  x_zret Q) <|
  x_aload 0 <|
  x_iload 1 <|
  x_iload 2 <|
  x_cV2 M_X0_canBe d 0 <|
  x_c1 (fun x => x = 0) (
  x_push (vi 0) <|
  x_zret Q) <|
  x_push (vi 1) <|
  x_zret Q
set_option maxRecDepth 100000 in
theorem b_X0_isAllowed_0 {d : Nat} {Q : xV → xMem → Prop} : Snd M_X0_isAllowed (d + 1) 0 Q (k_X0_isAllowed_0 d Q) :=
  s_aload_n dX0_isAllowed_0 rfl <|
  s_getI xC0 (by decide) (fun _ _ _ => rfl) fl_X0_91 dX0_isAllowed_1 <|
  s_iload_n dX0_isAllowed_4 rfl <|
  s_ishr dX0_isAllowed_5 <|
  s_iconst dX0_isAllowed_6 rfl <|
  s_iand dX0_isAllowed_7 <|
  s_iconst dX0_isAllowed_8 rfl <|
  s_icmp_ne (t := 25) dX0_isAllowed_9 rfl (
  s_iconst dX0_isAllowed_25 rfl <|
  s_zreturn dX0_isAllowed_26 rfl) <|
  s_aload_n dX0_isAllowed_12 rfl <|
  s_iload_n dX0_isAllowed_13 rfl <|
  s_iload_n dX0_isAllowed_14 rfl <|
  s_cV2 ce_X0_canBe ml_X0_85 im_X0_canBe se_X0_canBe xC0 dX0_isAllowed_15 <|
  s_if_eq (t := 25) dX0_isAllowed_18 rfl (
  s_iconst dX0_isAllowed_25 rfl <|
  s_zreturn dX0_isAllowed_26 rfl) <|
  s_iconst dX0_isAllowed_21 rfl <|
  s_goto (t := 26) dX0_isAllowed_22 rfl <|
  s_zreturn dX0_isAllowed_26 rfl
-- X0_isAllowed: cuts [0]
def k_X0_hopeFor_0 (d : Nat) (Q : xV → xMem → Prop) : xP :=
  x_aload 0 <|
  x_getR 0 7 <|
  x_aload 0 <|
  x_getI 0 9 <|
  x_push (vi 0) <|
  x_iastore <|
  x_aload 0 <|
  x_getI 0 9 <|
  x_push (vi 1) <|
  x_bin osub <|
  x_istore 2 <|
  (xJ M_X0_hopeFor (d + 1) 17 Q)
set_option maxRecDepth 100000 in
theorem b_X0_hopeFor_0 {d : Nat} {Q : xV → xMem → Prop} : Snd M_X0_hopeFor (d + 1) 0 Q (k_X0_hopeFor_0 d Q) :=
  s_aload_n dX0_hopeFor_0 rfl <|
  s_getR xC0 (by decide) (fun _ _ _ => rfl) fl_X0_35 dX0_hopeFor_1 <|
  s_aload_n dX0_hopeFor_4 rfl <|
  s_getI xC0 (by decide) (fun _ _ _ => rfl) fl_X0_48 dX0_hopeFor_5 <|
  s_iconst dX0_hopeFor_8 rfl <|
  s_iastore dX0_hopeFor_9 <|
  s_aload_n dX0_hopeFor_10 rfl <|
  s_getI xC0 (by decide) (fun _ _ _ => rfl) fl_X0_48 dX0_hopeFor_11 <|
  s_iconst dX0_hopeFor_14 rfl <|
  s_isub dX0_hopeFor_15 <|
  s_istore_n dX0_hopeFor_16 rfl (by decide) <|
  s_J
def k_X0_hopeFor_17 (d : Nat) (Q : xV → xMem → Prop) : xP :=
  x_iload 2 <|
  x_c1 (fun x => x < 0) (
  x_vret Q) <|
  x_push (vi 0) <|
  x_istore 3 <|
  x_push (vi 0) <|
  x_istore 4 <|
  (xJ M_X0_hopeFor (d + 1) 26 Q)
set_option maxRecDepth 100000 in
theorem b_X0_hopeFor_17 {d : Nat} {Q : xV → xMem → Prop} : Snd M_X0_hopeFor (d + 1) 17 Q (k_X0_hopeFor_17 d Q) :=
  s_iload_n dX0_hopeFor_17 rfl <|
  s_if_lt (t := 84) dX0_hopeFor_18 rfl (
  s_return dX0_hopeFor_84 rfl) <|
  s_iconst dX0_hopeFor_21 rfl <|
  s_istore_n dX0_hopeFor_22 rfl (by decide) <|
  s_iconst dX0_hopeFor_23 rfl <|
  s_istore dX0_hopeFor_24 (by decide) <|
  s_J
def k_X0_hopeFor_26 (d : Nat) (Q : xV → xMem → Prop) : xP :=
  x_iload 4 <|
  x_aload 0 <|
  x_getI 0 8 <|
  x_c2 (fun x y => y ≤ x) (
  x_aload 0 <|
  x_getR 0 7 <|
  x_iload 2 <|
  x_aload 0 <|
  x_getR 0 7 <|
  x_iload 2 <|
  x_push (vi 1) <|
  x_bin oadd <|
  x_iaload <|
  x_iload 3 <|
  x_bin oadd <|
  x_iastore <|
  x_iinc 2 (-1) <|
  (xJ M_X0_hopeFor (d + 1) 17 Q)) <|
  x_aload 0 <|
  x_iload 2 <|
  x_iload 4 <|
  x_cV2 M_X0_isAllowed d 0 <|
  x_c1 (fun x => x = 0) (
  x_iinc 4 1 <|
  (xJ M_X0_hopeFor (d + 1) 26 Q)) <|
  x_iload 3 <|
  x_aload 1 <|
  x_iload 2 <|
  x_aaload <|
  x_iload 4 <|
  x_iaload <|
  x_mm max <|
  x_istore 3 <|
  x_iinc 4 1 <|
  (xJ M_X0_hopeFor (d + 1) 26 Q)
set_option maxRecDepth 100000 in
theorem b_X0_hopeFor_26 {d : Nat} {Q : xV → xMem → Prop} : Snd M_X0_hopeFor (d + 1) 26 Q (k_X0_hopeFor_26 d Q) :=
  s_iload dX0_hopeFor_26 <|
  s_aload_n dX0_hopeFor_28 rfl <|
  s_getI xC0 (by decide) (fun _ _ _ => rfl) fl_X0_44 dX0_hopeFor_29 <|
  s_icmp_ge (t := 62) dX0_hopeFor_32 rfl (
  s_aload_n dX0_hopeFor_62 rfl <|
  s_getR xC0 (by decide) (fun _ _ _ => rfl) fl_X0_35 dX0_hopeFor_63 <|
  s_iload_n dX0_hopeFor_66 rfl <|
  s_aload_n dX0_hopeFor_67 rfl <|
  s_getR xC0 (by decide) (fun _ _ _ => rfl) fl_X0_35 dX0_hopeFor_68 <|
  s_iload_n dX0_hopeFor_71 rfl <|
  s_iconst dX0_hopeFor_72 rfl <|
  s_iadd dX0_hopeFor_73 <|
  s_iaload dX0_hopeFor_74 <|
  s_iload_n dX0_hopeFor_75 rfl <|
  s_iadd dX0_hopeFor_76 <|
  s_iastore dX0_hopeFor_77 <|
  s_iinc dX0_hopeFor_78 (by decide) <|
  s_goto (t := 17) dX0_hopeFor_81 rfl <|
  s_J) <|
  s_aload_n dX0_hopeFor_35 rfl <|
  s_iload_n dX0_hopeFor_36 rfl <|
  s_iload dX0_hopeFor_37 <|
  s_cV2 ce_X0_isAllowed ml_X0_105 im_X0_isAllowed se_X0_isAllowed xC0 dX0_hopeFor_39 <|
  s_if_eq (t := 56) dX0_hopeFor_42 rfl (
  s_iinc dX0_hopeFor_56 (by decide) <|
  s_goto (t := 26) dX0_hopeFor_59 rfl <|
  s_J) <|
  s_iload_n dX0_hopeFor_45 rfl <|
  s_aload_n dX0_hopeFor_46 rfl <|
  s_iload_n dX0_hopeFor_47 rfl <|
  s_aaload dX0_hopeFor_48 <|
  s_iload dX0_hopeFor_49 <|
  s_iaload dX0_hopeFor_51 <|
  s_mmax mm_max_X0_108 dX0_hopeFor_52 <|
  s_istore_n dX0_hopeFor_55 rfl (by decide) <|
  s_iinc dX0_hopeFor_56 (by decide) <|
  s_goto (t := 26) dX0_hopeFor_59 rfl <|
  s_J
-- X0_hopeFor: cuts [0, 17, 26]
def k_X0_search_0 (d : Nat) (Q : xV → xMem → Prop) : xP :=
  x_iload 2 <|
  x_aload 0 <|
  x_getI 0 9 <|
  x_c2 (fun x y => x < y) (
  x_iload 3 <|
  x_aload 0 <|
  x_getR 0 7 <|
  x_iload 2 <|
  x_iaload <|
  x_bin oadd <|
  x_aload 0 <|
  x_getI 0 11 <|
  x_c2 (fun x y => y < x) (
  x_aload 0 <|
  x_getR 0 6 <|
  x_iload 2 <|
  x_push (vi (-1)) <|
  x_iastore <|
  x_aload 0 <|
  x_aload 1 <|
  x_iload 2 <|
  x_push (vi 1) <|
  x_bin oadd <|
  x_iload 3 <|
  x_cS4 M_X0_search d <|
  x_push (vi 0) <|
  x_istore 4 <|
  (xJ M_X0_search (d + 1) 74 Q)) <|
  x_vret Q) <|
  x_iload 3 <|
  x_aload 0 <|
  x_getI 0 11 <|
  x_c2 (fun x y => x ≤ y) (
  x_vret Q) <|
  x_aload 0 <|
  x_iload 3 <|
  x_putI 0 11 <|
  x_aload 0 <|
  x_getR 0 6 <|
  x_push (vi 0) <|
  x_aload 0 <|
  x_getR 0 5 <|
  x_push (vi 0) <|
  x_aload 0 <|
  x_getI 0 9 <|
  x_acopy <|
  x_vret Q
set_option maxRecDepth 100000 in
theorem b_X0_search_0 {d : Nat} {Q : xV → xMem → Prop} : Snd M_X0_search (d + 1) 0 Q (k_X0_search_0 d Q) :=
  s_iload_n dX0_search_0 rfl <|
  s_aload_n dX0_search_1 rfl <|
  s_getI xC0 (by decide) (fun _ _ _ => rfl) fl_X0_48 dX0_search_2 <|
  s_icmp_lt (t := 39) dX0_search_5 rfl (
  s_iload_n dX0_search_39 rfl <|
  s_aload_n dX0_search_40 rfl <|
  s_getR xC0 (by decide) (fun _ _ _ => rfl) fl_X0_35 dX0_search_41 <|
  s_iload_n dX0_search_44 rfl <|
  s_iaload dX0_search_45 <|
  s_iadd dX0_search_46 <|
  s_aload_n dX0_search_47 rfl <|
  s_getI xC0 (by decide) (fun _ _ _ => rfl) fl_X0_98 dX0_search_48 <|
  s_icmp_gt (t := 55) dX0_search_51 rfl (
  s_aload_n dX0_search_55 rfl <|
  s_getR xC0 (by decide) (fun _ _ _ => rfl) fl_X0_32 dX0_search_56 <|
  s_iload_n dX0_search_59 rfl <|
  s_iconst dX0_search_60 rfl <|
  s_iastore dX0_search_61 <|
  s_aload_n dX0_search_62 rfl <|
  s_aload_n dX0_search_63 rfl <|
  s_iload_n dX0_search_64 rfl <|
  s_iconst dX0_search_65 rfl <|
  s_iadd dX0_search_66 <|
  s_iload_n dX0_search_67 rfl <|
  s_cS4 ce_X0_search ml_X0_101 sm_X0_search dX0_search_68 <|
  s_iconst dX0_search_71 rfl <|
  s_istore dX0_search_72 (by decide) <|
  s_J) <|
  s_return dX0_search_54 rfl) <|
  s_iload_n dX0_search_8 rfl <|
  s_aload_n dX0_search_9 rfl <|
  s_getI xC0 (by decide) (fun _ _ _ => rfl) fl_X0_98 dX0_search_10 <|
  s_icmp_le (t := 38) dX0_search_13 rfl (
  s_return dX0_search_38 rfl) <|
  s_aload_n dX0_search_16 rfl <|
  s_iload_n dX0_search_17 rfl <|
  s_putI xC0 (by decide) (fun _ _ _ => rfl) rfl rfl fl_X0_98 dX0_search_18 <|
  s_aload_n dX0_search_21 rfl <|
  s_getR xC0 (by decide) (fun _ _ _ => rfl) fl_X0_32 dX0_search_22 <|
  s_iconst dX0_search_25 rfl <|
  s_aload_n dX0_search_26 rfl <|
  s_getR xC0 (by decide) (fun _ _ _ => rfl) fl_X0_29 dX0_search_27 <|
  s_iconst dX0_search_30 rfl <|
  s_aload_n dX0_search_31 rfl <|
  s_getI xC0 (by decide) (fun _ _ _ => rfl) fl_X0_48 dX0_search_32 <|
  s_acopy ml_X0_50 ac_nat ac_sta ac_ini dX0_search_35 <|
  s_return dX0_search_38 rfl
def k_X0_search_74 (d : Nat) (Q : xV → xMem → Prop) : xP :=
  x_iload 4 <|
  x_aload 0 <|
  x_getI 0 8 <|
  x_c2 (fun x y => y ≤ x) (
  x_vret Q) <|
  x_aload 0 <|
  x_iload 2 <|
  x_iload 4 <|
  x_cV2 M_X0_isAllowed d 0 <|
  x_c1 (fun x => x = 0) (
  x_iinc 4 1 <|
  (xJ M_X0_search (d + 1) 74 Q)) <|
  x_aload 0 <|
  x_getR 0 6 <|
  x_iload 2 <|
  x_iload 4 <|
  x_iastore <|
  x_aload 0 <|
  x_getR 0 4 <|
  x_iload 4 <|
  x_dup2 <|
  x_iaload <|
  x_aload 0 <|
  x_getR 0 0 <|
  x_iload 2 <|
  x_aaload <|
  x_iload 4 <|
  x_iaload <|
  x_bin osub <|
  x_iastore <|
  x_aload 0 <|
  x_aload 1 <|
  x_iload 2 <|
  x_push (vi 1) <|
  x_bin oadd <|
  x_iload 3 <|
  x_aload 1 <|
  x_iload 2 <|
  x_aaload <|
  x_iload 4 <|
  x_iaload <|
  x_bin oadd <|
  x_cS4 M_X0_search d <|
  x_aload 0 <|
  x_getR 0 4 <|
  x_iload 4 <|
  x_dup2 <|
  x_iaload <|
  x_aload 0 <|
  x_getR 0 0 <|
  x_iload 2 <|
  x_aaload <|
  x_iload 4 <|
  x_iaload <|
  x_bin oadd <|
  x_iastore <|
  x_iinc 4 1 <|
  (xJ M_X0_search (d + 1) 74 Q)
set_option maxRecDepth 100000 in
theorem b_X0_search_74 {d : Nat} {Q : xV → xMem → Prop} : Snd M_X0_search (d + 1) 74 Q (k_X0_search_74 d Q) :=
  s_iload dX0_search_74 <|
  s_aload_n dX0_search_76 rfl <|
  s_getI xC0 (by decide) (fun _ _ _ => rfl) fl_X0_44 dX0_search_77 <|
  s_icmp_ge (t := 161) dX0_search_80 rfl (
  s_return dX0_search_161 rfl) <|
  s_aload_n dX0_search_83 rfl <|
  s_iload_n dX0_search_84 rfl <|
  s_iload dX0_search_85 <|
  s_cV2 ce_X0_isAllowed ml_X0_105 im_X0_isAllowed se_X0_isAllowed xC0 dX0_search_87 <|
  s_if_eq (t := 155) dX0_search_90 rfl (
  s_iinc dX0_search_155 (by decide) <|
  s_goto (t := 74) dX0_search_158 rfl <|
  s_J) <|
  s_aload_n dX0_search_93 rfl <|
  s_getR xC0 (by decide) (fun _ _ _ => rfl) fl_X0_32 dX0_search_94 <|
  s_iload_n dX0_search_97 rfl <|
  s_iload dX0_search_98 <|
  s_iastore dX0_search_100 <|
  s_aload_n dX0_search_101 rfl <|
  s_getR xC0 (by decide) (fun _ _ _ => rfl) fl_X0_26 dX0_search_102 <|
  s_iload dX0_search_105 <|
  s_dup2 dX0_search_107 <|
  s_iaload dX0_search_108 <|
  s_aload_n dX0_search_109 rfl <|
  s_getR xC0 (by decide) (fun _ _ _ => rfl) fl_X0_11 dX0_search_110 <|
  s_iload_n dX0_search_113 rfl <|
  s_aaload dX0_search_114 <|
  s_iload dX0_search_115 <|
  s_iaload dX0_search_117 <|
  s_isub dX0_search_118 <|
  s_iastore dX0_search_119 <|
  s_aload_n dX0_search_120 rfl <|
  s_aload_n dX0_search_121 rfl <|
  s_iload_n dX0_search_122 rfl <|
  s_iconst dX0_search_123 rfl <|
  s_iadd dX0_search_124 <|
  s_iload_n dX0_search_125 rfl <|
  s_aload_n dX0_search_126 rfl <|
  s_iload_n dX0_search_127 rfl <|
  s_aaload dX0_search_128 <|
  s_iload dX0_search_129 <|
  s_iaload dX0_search_131 <|
  s_iadd dX0_search_132 <|
  s_cS4 ce_X0_search ml_X0_101 sm_X0_search dX0_search_133 <|
  s_aload_n dX0_search_136 rfl <|
  s_getR xC0 (by decide) (fun _ _ _ => rfl) fl_X0_26 dX0_search_137 <|
  s_iload dX0_search_140 <|
  s_dup2 dX0_search_142 <|
  s_iaload dX0_search_143 <|
  s_aload_n dX0_search_144 rfl <|
  s_getR xC0 (by decide) (fun _ _ _ => rfl) fl_X0_11 dX0_search_145 <|
  s_iload_n dX0_search_148 rfl <|
  s_aaload dX0_search_149 <|
  s_iload dX0_search_150 <|
  s_iaload dX0_search_152 <|
  s_iadd dX0_search_153 <|
  s_iastore dX0_search_154 <|
  s_iinc dX0_search_155 (by decide) <|
  s_goto (t := 74) dX0_search_158 rfl <|
  s_J
-- X0_search: cuts [0, 74]
def k_X0_fewestFigures_0 (d : Nat) (Q : xV → xMem → Prop) : xP :=
  x_aload 0 <|
  x_push (vi 63) <|
  x_putI 0 12 <|
  x_aload 0 <|
  x_cV0 M_X0_fillPurses d 0 <|
  x_aload 0 <|
  x_push (vi 0) <|
  x_push (vi 0) <|
  x_push (vi 0) <|
  x_cS4 M_X0_searchFewest d <|
  x_aload 0 <|
  x_getI 0 12 <|
  x_ret Q
set_option maxRecDepth 100000 in
theorem b_X0_fewestFigures_0 {d : Nat} {Q : xV → xMem → Prop} : Snd M_X0_fewestFigures (d + 1) 0 Q (k_X0_fewestFigures_0 d Q) :=
  s_aload_n dX0_fewestFigures_0 rfl <|
  s_bipush dX0_fewestFigures_1 rfl (by decide) <|
  s_putI xC0 (by decide) (fun _ _ _ => rfl) rfl rfl fl_X0_113 dX0_fewestFigures_3 <|
  s_aload_n dX0_fewestFigures_6 rfl <|
  s_cV0 ce_X0_fillPurses ml_X0_73 im_X0_fillPurses se_X0_fillPurses xC0 dX0_fewestFigures_7 <|
  s_aload_n dX0_fewestFigures_10 rfl <|
  s_iconst dX0_fewestFigures_11 rfl <|
  s_iconst dX0_fewestFigures_12 rfl <|
  s_iconst dX0_fewestFigures_13 rfl <|
  s_cS4 ce_X0_searchFewest ml_X0_116 sm_X0_searchFewest dX0_fewestFigures_14 <|
  s_aload_n dX0_fewestFigures_17 rfl <|
  s_getI xC0 (by decide) (fun _ _ _ => rfl) fl_X0_113 dX0_fewestFigures_18 <|
  s_ireturn dX0_fewestFigures_21 rfl
-- X0_fewestFigures: cuts [0]
def k_X0_searchFewest_0 (d : Nat) (Q : xV → xMem → Prop) : xP :=
  x_iload 2 <|
  x_aload 0 <|
  x_getR 0 7 <|
  x_iload 1 <|
  x_iaload <|
  x_bin oadd <|
  x_aload 0 <|
  x_getI 0 11 <|
  x_c2 (fun x y => x < y) (
  x_vret Q) <|
  x_iload 3 <|
  x_cS1 M_J6_bitCount_0f7a4 d <|
  x_aload 0 <|
  x_getI 0 12 <|
  x_cS1 M_J6_bitCount_0f7a4 d <|
  x_c2 (fun x y => x ≤ y) (
  x_iload 1 <|
  x_aload 0 <|
  x_getI 0 9 <|
  x_c2 (fun x y => x < y) (
  x_aload 0 <|
  x_iload 1 <|
  x_push (vi 1) <|
  x_bin oadd <|
  x_iload 2 <|
  x_iload 3 <|
  x_cS4 M_X0_searchFewest d <|
  x_push (vi 0) <|
  x_istore 4 <|
  (xJ M_X0_searchFewest (d + 1) 78 Q)) <|
  x_iload 3 <|
  x_aload 0 <|
  x_getI 0 12 <|
  x_c2 (fun x y => x < y) (
  x_aload 0 <|
  x_iload 3 <|
  x_putI 0 12 <|
  x_vret Q) <|
  x_iload 3 <|
  x_cS1 M_J6_bitCount_0f7a4 d <|
  x_aload 0 <|
  x_getI 0 12 <|
  x_cS1 M_J6_bitCount_0f7a4 d <|
  x_c2 (fun x y => y ≤ x) (
  x_vret Q) <|
  x_aload 0 <|
  x_iload 3 <|
  x_putI 0 12 <|
  x_vret Q) <|
  x_vret Q
set_option maxRecDepth 100000 in
theorem b_X0_searchFewest_0 {d : Nat} {Q : xV → xMem → Prop} : Snd M_X0_searchFewest (d + 1) 0 Q (k_X0_searchFewest_0 d Q) :=
  s_iload_n dX0_searchFewest_0 rfl <|
  s_aload_n dX0_searchFewest_1 rfl <|
  s_getR xC0 (by decide) (fun _ _ _ => rfl) fl_X0_35 dX0_searchFewest_2 <|
  s_iload_n dX0_searchFewest_5 rfl <|
  s_iaload dX0_searchFewest_6 <|
  s_iadd dX0_searchFewest_7 <|
  s_aload_n dX0_searchFewest_8 rfl <|
  s_getI xC0 (by decide) (fun _ _ _ => rfl) fl_X0_98 dX0_searchFewest_9 <|
  s_icmp_lt (t := 29) dX0_searchFewest_12 rfl (
  s_return dX0_searchFewest_29 rfl) <|
  s_iload_n dX0_searchFewest_15 rfl <|
  s_cS1 ce_J6_bitCount_0f7a4 ml_X0_120 sm_J6_bitCount_0f7a4 dX0_searchFewest_16 <|
  s_aload_n dX0_searchFewest_19 rfl <|
  s_getI xC0 (by decide) (fun _ _ _ => rfl) fl_X0_113 dX0_searchFewest_20 <|
  s_cS1 ce_J6_bitCount_0f7a4 ml_X0_120 sm_J6_bitCount_0f7a4 dX0_searchFewest_23 <|
  s_icmp_le (t := 30) dX0_searchFewest_26 rfl (
  s_iload_n dX0_searchFewest_30 rfl <|
  s_aload_n dX0_searchFewest_31 rfl <|
  s_getI xC0 (by decide) (fun _ _ _ => rfl) fl_X0_48 dX0_searchFewest_32 <|
  s_icmp_lt (t := 66) dX0_searchFewest_35 rfl (
  s_aload_n dX0_searchFewest_66 rfl <|
  s_iload_n dX0_searchFewest_67 rfl <|
  s_iconst dX0_searchFewest_68 rfl <|
  s_iadd dX0_searchFewest_69 <|
  s_iload_n dX0_searchFewest_70 rfl <|
  s_iload_n dX0_searchFewest_71 rfl <|
  s_cS4 ce_X0_searchFewest ml_X0_116 sm_X0_searchFewest dX0_searchFewest_72 <|
  s_iconst dX0_searchFewest_75 rfl <|
  s_istore dX0_searchFewest_76 (by decide) <|
  s_J) <|
  s_iload_n dX0_searchFewest_38 rfl <|
  s_aload_n dX0_searchFewest_39 rfl <|
  s_getI xC0 (by decide) (fun _ _ _ => rfl) fl_X0_113 dX0_searchFewest_40 <|
  s_icmp_lt (t := 60) dX0_searchFewest_43 rfl (
  s_aload_n dX0_searchFewest_60 rfl <|
  s_iload_n dX0_searchFewest_61 rfl <|
  s_putI xC0 (by decide) (fun _ _ _ => rfl) rfl rfl fl_X0_113 dX0_searchFewest_62 <|
  s_return dX0_searchFewest_65 rfl) <|
  s_iload_n dX0_searchFewest_46 rfl <|
  s_cS1 ce_J6_bitCount_0f7a4 ml_X0_120 sm_J6_bitCount_0f7a4 dX0_searchFewest_47 <|
  s_aload_n dX0_searchFewest_50 rfl <|
  s_getI xC0 (by decide) (fun _ _ _ => rfl) fl_X0_113 dX0_searchFewest_51 <|
  s_cS1 ce_J6_bitCount_0f7a4 ml_X0_120 sm_J6_bitCount_0f7a4 dX0_searchFewest_54 <|
  s_icmp_ge (t := 65) dX0_searchFewest_57 rfl (
  s_return dX0_searchFewest_65 rfl) <|
  s_aload_n dX0_searchFewest_60 rfl <|
  s_iload_n dX0_searchFewest_61 rfl <|
  s_putI xC0 (by decide) (fun _ _ _ => rfl) rfl rfl fl_X0_113 dX0_searchFewest_62 <|
  s_return dX0_searchFewest_65 rfl) <|
  s_return dX0_searchFewest_29 rfl
def k_X0_searchFewest_78 (d : Nat) (Q : xV → xMem → Prop) : xP :=
  x_iload 4 <|
  x_aload 0 <|
  x_getI 0 8 <|
  x_c2 (fun x y => y ≤ x) (
  x_vret Q) <|
  x_aload 0 <|
  x_iload 1 <|
  x_iload 4 <|
  x_cV2 M_X0_isAllowed d 0 <|
  x_c1 (fun x => x = 0) (
  x_iinc 4 1 <|
  (xJ M_X0_searchFewest (d + 1) 78 Q)) <|
  x_aload 0 <|
  x_getR 0 4 <|
  x_iload 4 <|
  x_dup2 <|
  x_iaload <|
  x_aload 0 <|
  x_getR 0 0 <|
  x_iload 1 <|
  x_aaload <|
  x_iload 4 <|
  x_iaload <|
  x_bin osub <|
  x_iastore <|
  x_aload 0 <|
  x_iload 1 <|
  x_push (vi 1) <|
  x_bin oadd <|
  x_iload 2 <|
  x_aload 0 <|
  x_getR 0 1 <|
  x_iload 1 <|
  x_aaload <|
  x_iload 4 <|
  x_iaload <|
  x_bin oadd <|
  x_iload 3 <|
  x_push (vi 1) <|
  x_iload 4 <|
  x_bin oshl <|
  x_bin oor <|
  x_cS4 M_X0_searchFewest d <|
  x_aload 0 <|
  x_getR 0 4 <|
  x_iload 4 <|
  x_dup2 <|
  x_iaload <|
  x_aload 0 <|
  x_getR 0 0 <|
  x_iload 1 <|
  x_aaload <|
  x_iload 4 <|
  x_iaload <|
  x_bin oadd <|
  x_iastore <|
  x_iinc 4 1 <|
  (xJ M_X0_searchFewest (d + 1) 78 Q)
set_option maxRecDepth 100000 in
theorem b_X0_searchFewest_78 {d : Nat} {Q : xV → xMem → Prop} : Snd M_X0_searchFewest (d + 1) 78 Q (k_X0_searchFewest_78 d Q) :=
  s_iload dX0_searchFewest_78 <|
  s_aload_n dX0_searchFewest_80 rfl <|
  s_getI xC0 (by decide) (fun _ _ _ => rfl) fl_X0_44 dX0_searchFewest_81 <|
  s_icmp_ge (t := 165) dX0_searchFewest_84 rfl (
  s_return dX0_searchFewest_165 rfl) <|
  s_aload_n dX0_searchFewest_87 rfl <|
  s_iload_n dX0_searchFewest_88 rfl <|
  s_iload dX0_searchFewest_89 <|
  s_cV2 ce_X0_isAllowed ml_X0_105 im_X0_isAllowed se_X0_isAllowed xC0 dX0_searchFewest_91 <|
  s_if_eq (t := 159) dX0_searchFewest_94 rfl (
  s_iinc dX0_searchFewest_159 (by decide) <|
  s_goto (t := 78) dX0_searchFewest_162 rfl <|
  s_J) <|
  s_aload_n dX0_searchFewest_97 rfl <|
  s_getR xC0 (by decide) (fun _ _ _ => rfl) fl_X0_26 dX0_searchFewest_98 <|
  s_iload dX0_searchFewest_101 <|
  s_dup2 dX0_searchFewest_103 <|
  s_iaload dX0_searchFewest_104 <|
  s_aload_n dX0_searchFewest_105 rfl <|
  s_getR xC0 (by decide) (fun _ _ _ => rfl) fl_X0_11 dX0_searchFewest_106 <|
  s_iload_n dX0_searchFewest_109 rfl <|
  s_aaload dX0_searchFewest_110 <|
  s_iload dX0_searchFewest_111 <|
  s_iaload dX0_searchFewest_113 <|
  s_isub dX0_searchFewest_114 <|
  s_iastore dX0_searchFewest_115 <|
  s_aload_n dX0_searchFewest_116 rfl <|
  s_iload_n dX0_searchFewest_117 rfl <|
  s_iconst dX0_searchFewest_118 rfl <|
  s_iadd dX0_searchFewest_119 <|
  s_iload_n dX0_searchFewest_120 rfl <|
  s_aload_n dX0_searchFewest_121 rfl <|
  s_getR xC0 (by decide) (fun _ _ _ => rfl) fl_X0_16 dX0_searchFewest_122 <|
  s_iload_n dX0_searchFewest_125 rfl <|
  s_aaload dX0_searchFewest_126 <|
  s_iload dX0_searchFewest_127 <|
  s_iaload dX0_searchFewest_129 <|
  s_iadd dX0_searchFewest_130 <|
  s_iload_n dX0_searchFewest_131 rfl <|
  s_iconst dX0_searchFewest_132 rfl <|
  s_iload dX0_searchFewest_133 <|
  s_ishl dX0_searchFewest_135 <|
  s_ior dX0_searchFewest_136 <|
  s_cS4 ce_X0_searchFewest ml_X0_116 sm_X0_searchFewest dX0_searchFewest_137 <|
  s_aload_n dX0_searchFewest_140 rfl <|
  s_getR xC0 (by decide) (fun _ _ _ => rfl) fl_X0_26 dX0_searchFewest_141 <|
  s_iload dX0_searchFewest_144 <|
  s_dup2 dX0_searchFewest_146 <|
  s_iaload dX0_searchFewest_147 <|
  s_aload_n dX0_searchFewest_148 rfl <|
  s_getR xC0 (by decide) (fun _ _ _ => rfl) fl_X0_11 dX0_searchFewest_149 <|
  s_iload_n dX0_searchFewest_152 rfl <|
  s_aaload dX0_searchFewest_153 <|
  s_iload dX0_searchFewest_154 <|
  s_iaload dX0_searchFewest_156 <|
  s_iadd dX0_searchFewest_157 <|
  s_iastore dX0_searchFewest_158 <|
  s_iinc dX0_searchFewest_159 (by decide) <|
  s_goto (t := 78) dX0_searchFewest_162 rfl <|
  s_J
-- X0_searchFewest: cuts [0, 78]
def k_J6_bitCount_0f7a4_0 (d : Nat) (Q : xV → xMem → Prop) : xP :=
  x_iload 0 <|
  x_iload 0 <|
  x_push (vi 1) <|
  x_bin oushr <|
  x_push (vi (1431655765)) <|
  x_bin oand <|
  x_bin osub <|
  x_istore 0 <|
  x_iload 0 <|
  x_push (vi (858993459)) <|
  x_bin oand <|
  x_iload 0 <|
  x_push (vi 2) <|
  x_bin oushr <|
  x_push (vi (858993459)) <|
  x_bin oand <|
  x_bin oadd <|
  x_istore 0 <|
  x_iload 0 <|
  x_iload 0 <|
  x_push (vi 4) <|
  x_bin oushr <|
  x_bin oadd <|
  x_push (vi (252645135)) <|
  x_bin oand <|
  x_istore 0 <|
  x_iload 0 <|
  x_iload 0 <|
  x_push (vi 8) <|
  x_bin oushr <|
  x_bin oadd <|
  x_istore 0 <|
  x_iload 0 <|
  x_iload 0 <|
  x_push (vi 16) <|
  x_bin oushr <|
  x_bin oadd <|
  x_istore 0 <|
  x_iload 0 <|
  x_push (vi 63) <|
  x_bin oand <|
  x_ret Q
set_option maxRecDepth 100000 in
theorem b_J6_bitCount_0f7a4_0 {d : Nat} {Q : xV → xMem → Prop} : Snd M_J6_bitCount_0f7a4 (d + 1) 0 Q (k_J6_bitCount_0f7a4_0 d Q) :=
  s_iload_n dJ6_bitCount_0f7a4_0 rfl <|
  s_iload_n dJ6_bitCount_0f7a4_1 rfl <|
  s_iconst dJ6_bitCount_0f7a4_2 rfl <|
  s_iushr dJ6_bitCount_0f7a4_3 <|
  s_ldc_w dJ6_bitCount_0f7a4_4 kc_J6_265 rfl (by decide) <|
  s_iand dJ6_bitCount_0f7a4_7 <|
  s_isub dJ6_bitCount_0f7a4_8 <|
  s_istore_n dJ6_bitCount_0f7a4_9 rfl (by decide) <|
  s_iload_n dJ6_bitCount_0f7a4_10 rfl <|
  s_ldc_w dJ6_bitCount_0f7a4_11 kc_J6_266 rfl (by decide) <|
  s_iand dJ6_bitCount_0f7a4_14 <|
  s_iload_n dJ6_bitCount_0f7a4_15 rfl <|
  s_iconst dJ6_bitCount_0f7a4_16 rfl <|
  s_iushr dJ6_bitCount_0f7a4_17 <|
  s_ldc_w dJ6_bitCount_0f7a4_18 kc_J6_266 rfl (by decide) <|
  s_iand dJ6_bitCount_0f7a4_21 <|
  s_iadd dJ6_bitCount_0f7a4_22 <|
  s_istore_n dJ6_bitCount_0f7a4_23 rfl (by decide) <|
  s_iload_n dJ6_bitCount_0f7a4_24 rfl <|
  s_iload_n dJ6_bitCount_0f7a4_25 rfl <|
  s_iconst dJ6_bitCount_0f7a4_26 rfl <|
  s_iushr dJ6_bitCount_0f7a4_27 <|
  s_iadd dJ6_bitCount_0f7a4_28 <|
  s_ldc_w dJ6_bitCount_0f7a4_29 kc_J6_267 rfl (by decide) <|
  s_iand dJ6_bitCount_0f7a4_32 <|
  s_istore_n dJ6_bitCount_0f7a4_33 rfl (by decide) <|
  s_iload_n dJ6_bitCount_0f7a4_34 rfl <|
  s_iload_n dJ6_bitCount_0f7a4_35 rfl <|
  s_bipush dJ6_bitCount_0f7a4_36 rfl (by decide) <|
  s_iushr dJ6_bitCount_0f7a4_38 <|
  s_iadd dJ6_bitCount_0f7a4_39 <|
  s_istore_n dJ6_bitCount_0f7a4_40 rfl (by decide) <|
  s_iload_n dJ6_bitCount_0f7a4_41 rfl <|
  s_iload_n dJ6_bitCount_0f7a4_42 rfl <|
  s_bipush dJ6_bitCount_0f7a4_43 rfl (by decide) <|
  s_iushr dJ6_bitCount_0f7a4_45 <|
  s_iadd dJ6_bitCount_0f7a4_46 <|
  s_istore_n dJ6_bitCount_0f7a4_47 rfl (by decide) <|
  s_iload_n dJ6_bitCount_0f7a4_48 rfl <|
  s_bipush dJ6_bitCount_0f7a4_49 rfl (by decide) <|
  s_iand dJ6_bitCount_0f7a4_51 <|
  s_ireturn dJ6_bitCount_0f7a4_52 rfl
-- J6_bitCount_0f7a4: cuts [0]
