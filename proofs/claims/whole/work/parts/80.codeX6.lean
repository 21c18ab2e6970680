/-! code of methods as trees of pure instructions: printed by wip/whole/gen.py -/
def k_X6_in_0 (d : Nat) (Q : xV → xMem → Prop) : xP :=
  x_lload 0 <|
  x_lload 2 <|
  x_lcmp <|
  x_c1 (fun x => x < 0) (
  x_push (vi 0) <|
  x_zret Q) <|
  x_lload 0 <|
  x_lload 4 <|
  x_lcmp <|
  x_c1 (fun x => 0 < x) (
  x_push (vi 0) <|
  x_zret Q) <|
  x_push (vi 1) <|
  x_zret Q
set_option maxRecDepth 100000 in
theorem b_X6_in_0 {d : Nat} {Q : xV → xMem → Prop} : Snd M_X6_in (d + 1) 0 Q (k_X6_in_0 d Q) :=
  s_lload_n dX6_in_0 rfl <|
  s_lload_n dX6_in_1 rfl <|
  s_lcmp dX6_in_2 <|
  s_if_lt (t := 17) dX6_in_3 rfl (
  s_iconst dX6_in_17 rfl <|
  s_zreturn dX6_in_18 rfl) <|
  s_lload_n dX6_in_6 rfl <|
  s_lload dX6_in_7 <|
  s_lcmp dX6_in_9 <|
  s_if_gt (t := 17) dX6_in_10 rfl (
  s_iconst dX6_in_17 rfl <|
  s_zreturn dX6_in_18 rfl) <|
  s_iconst dX6_in_13 rfl <|
  s_goto (t := 18) dX6_in_14 rfl <|
  s_zreturn dX6_in_18 rfl
-- X6_in: cuts [0]
def k_X6_within_0 (d : Nat) (Q : xV → xMem → Prop) : xP :=
  x_iload 0 <|
  x_iload 1 <|
  x_c2 (fun x y => y ≤ x) (
  x_iload 0 <|
  x_iload 2 <|
  x_c2 (fun x y => x ≤ y) (
  x_iload 0 <|
  x_ret Q) <|
  x_iload 2 <|
  x_ret Q) <|
  x_iload 1 <|
  x_ret Q
set_option maxRecDepth 100000 in
theorem b_X6_within_0 {d : Nat} {Q : xV → xMem → Prop} : Snd M_X6_within (d + 1) 0 Q (k_X6_within_0 d Q) :=
  s_iload_n dX6_within_0 rfl <|
  s_iload_n dX6_within_1 rfl <|
  s_icmp_ge (t := 9) dX6_within_2 rfl (
  s_iload_n dX6_within_9 rfl <|
  s_iload_n dX6_within_10 rfl <|
  s_icmp_le (t := 18) dX6_within_11 rfl (
  s_iload_n dX6_within_18 rfl <|
  s_ireturn dX6_within_19 rfl) <|
  s_iload_n dX6_within_14 rfl <|
  s_goto (t := 19) dX6_within_15 rfl <|
  s_ireturn dX6_within_19 rfl) <|
  s_iload_n dX6_within_5 rfl <|
  s_goto (t := 19) dX6_within_6 rfl <|
  s_ireturn dX6_within_19 rfl
-- X6_within: cuts [0]
def k_X6_spell_0 (d : Nat) (Q : xV → xMem → Prop) : xP :=
  x_aload 0 <|
  x_getR 6 1 <|
  x_iload 1 <|
  x_iload 2 <|
  x_iastore <|
  x_aload 0 <|
  x_getR 6 1 <|
  x_iload 1 <|
  x_push (vi 1) <|
  x_bin oadd <|
  x_iload 3 <|
  x_iastore <|
  x_aload 0 <|
  x_getR 6 1 <|
  x_iload 1 <|
  x_push (vi 2) <|
  x_bin oadd <|
  x_iload 4 <|
  x_iastore <|
  x_aload 0 <|
  x_getR 6 1 <|
  x_iload 1 <|
  x_push (vi 3) <|
  x_bin oadd <|
  x_iload 5 <|
  x_iastore <|
  x_aload 0 <|
  x_getR 6 1 <|
  x_iload 1 <|
  x_push (vi 4) <|
  x_bin oadd <|
  x_iload 6 <|
  x_iastore <|
  x_aload 0 <|
  x_getR 6 1 <|
  x_iload 1 <|
  x_push (vi 5) <|
  x_bin oadd <|
  x_iload 7 <|
  x_iastore <|
  x_aload 0 <|
  x_getR 6 1 <|
  x_iload 1 <|
  x_push (vi 6) <|
  x_bin oadd <|
  x_iload 8 <|
  x_iastore <|
  x_aload 0 <|
  x_getR 6 1 <|
  x_iload 1 <|
  x_push (vi 7) <|
  x_bin oadd <|
  x_iload 9 <|
  x_iastore <|
  x_vret Q
set_option maxRecDepth 100000 in
theorem b_X6_spell_0 {d : Nat} {Q : xV → xMem → Prop} : Snd M_X6_spell (d + 1) 0 Q (k_X6_spell_0 d Q) :=
  s_aload_n dX6_spell_0 rfl <|
  s_getR xC6 (by decide) (fun _ _ _ => rfl) fl_X6_13 dX6_spell_1 <|
  s_iload_n dX6_spell_4 rfl <|
  s_iload_n dX6_spell_5 rfl <|
  s_iastore dX6_spell_6 <|
  s_aload_n dX6_spell_7 rfl <|
  s_getR xC6 (by decide) (fun _ _ _ => rfl) fl_X6_13 dX6_spell_8 <|
  s_iload_n dX6_spell_11 rfl <|
  s_iconst dX6_spell_12 rfl <|
  s_iadd dX6_spell_13 <|
  s_iload_n dX6_spell_14 rfl <|
  s_iastore dX6_spell_15 <|
  s_aload_n dX6_spell_16 rfl <|
  s_getR xC6 (by decide) (fun _ _ _ => rfl) fl_X6_13 dX6_spell_17 <|
  s_iload_n dX6_spell_20 rfl <|
  s_iconst dX6_spell_21 rfl <|
  s_iadd dX6_spell_22 <|
  s_iload dX6_spell_23 <|
  s_iastore dX6_spell_25 <|
  s_aload_n dX6_spell_26 rfl <|
  s_getR xC6 (by decide) (fun _ _ _ => rfl) fl_X6_13 dX6_spell_27 <|
  s_iload_n dX6_spell_30 rfl <|
  s_iconst dX6_spell_31 rfl <|
  s_iadd dX6_spell_32 <|
  s_iload dX6_spell_33 <|
  s_iastore dX6_spell_35 <|
  s_aload_n dX6_spell_36 rfl <|
  s_getR xC6 (by decide) (fun _ _ _ => rfl) fl_X6_13 dX6_spell_37 <|
  s_iload_n dX6_spell_40 rfl <|
  s_iconst dX6_spell_41 rfl <|
  s_iadd dX6_spell_42 <|
  s_iload dX6_spell_43 <|
  s_iastore dX6_spell_45 <|
  s_aload_n dX6_spell_46 rfl <|
  s_getR xC6 (by decide) (fun _ _ _ => rfl) fl_X6_13 dX6_spell_47 <|
  s_iload_n dX6_spell_50 rfl <|
  s_iconst dX6_spell_51 rfl <|
  s_iadd dX6_spell_52 <|
  s_iload dX6_spell_53 <|
  s_iastore dX6_spell_55 <|
  s_aload_n dX6_spell_56 rfl <|
  s_getR xC6 (by decide) (fun _ _ _ => rfl) fl_X6_13 dX6_spell_57 <|
  s_iload_n dX6_spell_60 rfl <|
  s_bipush dX6_spell_61 rfl (by decide) <|
  s_iadd dX6_spell_63 <|
  s_iload dX6_spell_64 <|
  s_iastore dX6_spell_66 <|
  s_aload_n dX6_spell_67 rfl <|
  s_getR xC6 (by decide) (fun _ _ _ => rfl) fl_X6_13 dX6_spell_68 <|
  s_iload_n dX6_spell_71 rfl <|
  s_bipush dX6_spell_72 rfl (by decide) <|
  s_iadd dX6_spell_74 <|
  s_iload dX6_spell_75 <|
  s_iastore dX6_spell_77 <|
  s_return dX6_spell_78 rfl
-- X6_spell: cuts [0]
def k_X6_isFigure_0 (d : Nat) (Q : xV → xMem → Prop) : xP :=
  x_iload 1 <|
  x_i2l <|
  x_push (vl 0) <|
  x_aload 0 <|
  x_getI 6 10 <|
  x_push (vi 1) <|
  x_bin osub <|
  x_i2l <|
  x_cS3 M_X6_in d <|
  x_zret Q
set_option maxRecDepth 100000 in
theorem b_X6_isFigure_0 {d : Nat} {Q : xV → xMem → Prop} : Snd M_X6_isFigure (d + 1) 0 Q (k_X6_isFigure_0 d Q) :=
  s_iload_n dX6_isFigure_0 rfl <|
  s_i2l dX6_isFigure_1 <|
  s_lconst dX6_isFigure_2 rfl (by decide) <|
  s_aload_n dX6_isFigure_3 rfl <|
  s_getI xC6 (by decide) (fun _ _ _ => rfl) fl_X6_85 dX6_isFigure_4 <|
  s_iconst dX6_isFigure_7 rfl <|
  s_isub dX6_isFigure_8 <|
  s_i2l dX6_isFigure_9 <|
  s_cS3 ce_X6_in ml_X6_88 sm_X6_in dX6_isFigure_10 <|
  s_zreturn dX6_isFigure_13 rfl
-- X6_isFigure: cuts [0]
def k_X6_isClient_0 (d : Nat) (Q : xV → xMem → Prop) : xP :=
  x_iload 1 <|
  x_i2l <|
  x_push (vl 0) <|
  x_aload 0 <|
  x_getI 6 12 <|
  x_push (vi 1) <|
  x_bin osub <|
  x_i2l <|
  x_cS3 M_X6_in d <|
  x_zret Q
set_option maxRecDepth 100000 in
theorem b_X6_isClient_0 {d : Nat} {Q : xV → xMem → Prop} : Snd M_X6_isClient (d + 1) 0 Q (k_X6_isClient_0 d Q) :=
  s_iload_n dX6_isClient_0 rfl <|
  s_i2l dX6_isClient_1 <|
  s_lconst dX6_isClient_2 rfl (by decide) <|
  s_aload_n dX6_isClient_3 rfl <|
  s_getI xC6 (by decide) (fun _ _ _ => rfl) fl_X6_92 dX6_isClient_4 <|
  s_iconst dX6_isClient_7 rfl <|
  s_isub dX6_isClient_8 <|
  s_i2l dX6_isClient_9 <|
  s_cS3 ce_X6_in ml_X6_88 sm_X6_in dX6_isClient_10 <|
  s_zreturn dX6_isClient_13 rfl
-- X6_isClient: cuts [0]
def k_X6_isHour_0 (d : Nat) (Q : xV → xMem → Prop) : xP :=
  x_iload 0 <|
  x_i2l <|
  x_push (vl 0) <|
  x_push (vl (11)) <|
  x_cS3 M_X6_in d <|
  x_zret Q
set_option maxRecDepth 100000 in
theorem b_X6_isHour_0 {d : Nat} {Q : xV → xMem → Prop} : Snd M_X6_isHour (d + 1) 0 Q (k_X6_isHour_0 d Q) :=
  s_iload_n dX6_isHour_0 rfl <|
  s_i2l dX6_isHour_1 <|
  s_lconst dX6_isHour_2 rfl (by decide) <|
  s_ldc2 dX6_isHour_3 kl_X6_95 rfl (by decide) <|
  s_cS3 ce_X6_in ml_X6_88 sm_X6_in dX6_isHour_6 <|
  s_zreturn dX6_isHour_9 rfl
-- X6_isHour: cuts [0]
def k_X6_isOf_0 (d : Nat) (Q : xV → xMem → Prop) : xP :=
  x_iload 1 <|
  x_c1 (fun x => x = 0) (
  x_push (vi 1) <|
  x_zret Q) <|
  x_iload 1 <|
  x_push (vi 4) <|
  x_c2 (fun x y => x = y) (
  (xJ M_X6_isOf (d + 1) 14 Q)) <|
  x_iload 1 <|
  x_push (vi 5) <|
  x_c2 (fun x y => ¬ x = y) (
  x_aload 0 <|
  x_iload 2 <|
  x_cV1 M_X6_isFigure d 6 <|
  x_c1 (fun x => x = 0) (
  x_push (vi 0) <|
  x_zret Q) <|
  x_push (vi 1) <|
  x_zret Q) <|
  (xJ M_X6_isOf (d + 1) 14 Q)
set_option maxRecDepth 100000 in
theorem b_X6_isOf_0 {d : Nat} {Q : xV → xMem → Prop} : Snd M_X6_isOf (d + 1) 0 Q (k_X6_isOf_0 d Q) :=
  s_iload_n dX6_isOf_0 rfl <|
  s_if_eq (t := 33) dX6_isOf_1 rfl (
  s_iconst dX6_isOf_33 rfl <|
  s_goto (t := 38) dX6_isOf_34 rfl <|
  s_zreturn dX6_isOf_38 rfl) <|
  s_iload_n dX6_isOf_4 rfl <|
  s_iconst dX6_isOf_5 rfl <|
  s_icmp_eq (t := 14) dX6_isOf_6 rfl (
  s_J) <|
  s_iload_n dX6_isOf_9 rfl <|
  s_iconst dX6_isOf_10 rfl <|
  s_icmp_ne (t := 25) dX6_isOf_11 rfl (
  s_aload_n dX6_isOf_25 rfl <|
  s_iload_n dX6_isOf_26 rfl <|
  s_cV1 ce_X6_isFigure ml_X6_101 im_X6_isFigure se_X6_isFigure xC6 dX6_isOf_27 <|
  s_if_eq (t := 37) dX6_isOf_30 rfl (
  s_iconst dX6_isOf_37 rfl <|
  s_zreturn dX6_isOf_38 rfl) <|
  s_iconst dX6_isOf_33 rfl <|
  s_goto (t := 38) dX6_isOf_34 rfl <|
  s_zreturn dX6_isOf_38 rfl) <|
  s_J
def k_X6_isOf_14 (d : Nat) (Q : xV → xMem → Prop) : xP :=
  x_aload 0 <|
  x_iload 2 <|
  x_cV1 M_X6_isClient d 6 <|
  x_c1 (fun x => x = 0) (
  x_push (vi 0) <|
  x_zret Q) <|
  x_push (vi 1) <|
  x_zret Q
set_option maxRecDepth 100000 in
theorem b_X6_isOf_14 {d : Nat} {Q : xV → xMem → Prop} : Snd M_X6_isOf (d + 1) 14 Q (k_X6_isOf_14 d Q) :=
  s_aload_n dX6_isOf_14 rfl <|
  s_iload_n dX6_isOf_15 rfl <|
  s_cV1 ce_X6_isClient ml_X6_97 im_X6_isClient se_X6_isClient xC6 dX6_isOf_16 <|
  s_if_eq (t := 37) dX6_isOf_19 rfl (
  s_iconst dX6_isOf_37 rfl <|
  s_zreturn dX6_isOf_38 rfl) <|
  s_goto (t := 33) dX6_isOf_22 rfl <|
  s_iconst dX6_isOf_33 rfl <|
  s_goto (t := 38) dX6_isOf_34 rfl <|
  s_zreturn dX6_isOf_38 rfl
-- X6_isOf: cuts [0, 14]
def k_X6_mostOf_0 (d : Nat) (Q : xV → xMem → Prop) : xP :=
  x_iload 0 <|
  x_push (vi 2) <|
  x_c2 (fun x y => y ≤ x) (
  x_iload 0 <|
  x_push (vi 2) <|
  x_c2 (fun x y => ¬ x = y) (
  x_iload 0 <|
  x_push (vi 3) <|
  x_c2 (fun x y => ¬ x = y) (
  x_iload 0 <|
  x_push (vi 4) <|
  x_c2 (fun x y => ¬ x = y) (
  x_push (vi 63) <|
  x_ret Q) <|
  x_push (vi 11) <|
  x_ret Q) <|
  x_push (vi 4095) <|
  x_ret Q) <|
  x_push (vi 999) <|
  x_ret Q) <|
  x_push (vi 9) <|
  x_ret Q
set_option maxRecDepth 100000 in
theorem b_X6_mostOf_0 {d : Nat} {Q : xV → xMem → Prop} : Snd M_X6_mostOf (d + 1) 0 Q (k_X6_mostOf_0 d Q) :=
  s_iload_n dX6_mostOf_0 rfl <|
  s_iconst dX6_mostOf_1 rfl <|
  s_icmp_ge (t := 10) dX6_mostOf_2 rfl (
  s_iload_n dX6_mostOf_10 rfl <|
  s_iconst dX6_mostOf_11 rfl <|
  s_icmp_ne (t := 21) dX6_mostOf_12 rfl (
  s_iload_n dX6_mostOf_21 rfl <|
  s_iconst dX6_mostOf_22 rfl <|
  s_icmp_ne (t := 32) dX6_mostOf_23 rfl (
  s_iload_n dX6_mostOf_32 rfl <|
  s_iconst dX6_mostOf_33 rfl <|
  s_icmp_ne (t := 42) dX6_mostOf_34 rfl (
  s_bipush dX6_mostOf_42 rfl (by decide) <|
  s_ireturn dX6_mostOf_44 rfl) <|
  s_bipush dX6_mostOf_37 rfl (by decide) <|
  s_goto (t := 44) dX6_mostOf_39 rfl <|
  s_ireturn dX6_mostOf_44 rfl) <|
  s_sipush dX6_mostOf_26 rfl (by decide) <|
  s_goto (t := 44) dX6_mostOf_29 rfl <|
  s_ireturn dX6_mostOf_44 rfl) <|
  s_sipush dX6_mostOf_15 rfl (by decide) <|
  s_goto (t := 44) dX6_mostOf_18 rfl <|
  s_ireturn dX6_mostOf_44 rfl) <|
  s_bipush dX6_mostOf_5 rfl (by decide) <|
  s_goto (t := 44) dX6_mostOf_7 rfl <|
  s_ireturn dX6_mostOf_44 rfl
-- X6_mostOf: cuts [0]
def k_X6_set_0 (d : Nat) (Q : xV → xMem → Prop) : xP :=
  x_iload 1 <|
  x_i2l <|
  x_push (vl 0) <|
  x_push (vl (5)) <|
  x_cS3 M_X6_in d <|
  x_c1 (fun x => x = 0) (
  x_push (vi (-2)) <|
  x_ret Q) <|
  x_aload 0 <|
  x_iload 1 <|
  x_iload 2 <|
  x_cV2 M_X6_isOf d 6 <|
  x_c1 (fun x => x = 0) (
  x_push (vi (-2)) <|
  x_ret Q) <|
  x_iload 3 <|
  x_i2l <|
  x_iload 1 <|
  x_c1 (fun x => ¬ x = 0) (
  x_push (vl 0) <|
  (xJ M_X6_set (d + 1) 32 Q)) <|
  x_push (vl 1) <|
  (xJ M_X6_set (d + 1) 32 Q)
set_option maxRecDepth 100000 in
theorem b_X6_set_0 {d : Nat} {Q : xV → xMem → Prop} : Snd M_X6_set (d + 1) 0 Q (k_X6_set_0 d Q) :=
  s_iload_n dX6_set_0 rfl <|
  s_i2l dX6_set_1 <|
  s_lconst dX6_set_2 rfl (by decide) <|
  s_ldc2 dX6_set_3 kl_X6_104 rfl (by decide) <|
  s_cS3 ce_X6_in ml_X6_88 sm_X6_in dX6_set_6 <|
  s_if_eq (t := 43) dX6_set_9 rfl (
  s_bipush dX6_set_43 rfl (by decide) <|
  s_ireturn dX6_set_45 rfl) <|
  s_aload_n dX6_set_12 rfl <|
  s_iload_n dX6_set_13 rfl <|
  s_iload_n dX6_set_14 rfl <|
  s_cV2 ce_X6_isOf ml_X6_106 im_X6_isOf se_X6_isOf xC6 dX6_set_15 <|
  s_if_eq (t := 43) dX6_set_18 rfl (
  s_bipush dX6_set_43 rfl (by decide) <|
  s_ireturn dX6_set_45 rfl) <|
  s_iload_n dX6_set_21 rfl <|
  s_i2l dX6_set_22 <|
  s_iload_n dX6_set_23 rfl <|
  s_if_ne (t := 31) dX6_set_24 rfl (
  s_lconst dX6_set_31 rfl (by decide) <|
  s_J) <|
  s_lconst dX6_set_27 rfl (by decide) <|
  s_goto (t := 32) dX6_set_28 rfl <|
  s_J
def k_X6_set_32 (d : Nat) (Q : xV → xMem → Prop) : xP :=
  x_iload 1 <|
  x_cS1 M_X6_mostOf d <|
  x_i2l <|
  x_cS3 M_X6_in d <|
  x_c1 (fun x => ¬ x = 0) (
  x_aload 0 <|
  x_iload 2 <|
  x_iload 1 <|
  x_cV2 M_X6_told d 6 <|
  x_istore 4 <|
  x_aload 0 <|
  x_iload 1 <|
  x_iload 2 <|
  x_iload 3 <|
  x_cV3 M_X6_lays d 6 <|
  x_iload 4 <|
  x_ret Q) <|
  x_push (vi (-2)) <|
  x_ret Q
set_option maxRecDepth 100000 in
theorem b_X6_set_32 {d : Nat} {Q : xV → xMem → Prop} : Snd M_X6_set (d + 1) 32 Q (k_X6_set_32 d Q) :=
  s_iload_n dX6_set_32 rfl <|
  s_cS1 ce_X6_mostOf ml_X6_110 sm_X6_mostOf dX6_set_33 <|
  s_i2l dX6_set_36 <|
  s_cS3 ce_X6_in ml_X6_88 sm_X6_in dX6_set_37 <|
  s_if_ne (t := 46) dX6_set_40 rfl (
  s_aload_n dX6_set_46 rfl <|
  s_iload_n dX6_set_47 rfl <|
  s_iload_n dX6_set_48 rfl <|
  s_cV2 ce_X6_told ml_X6_114 im_X6_told se_X6_told xC6 dX6_set_49 <|
  s_istore dX6_set_52 (by decide) <|
  s_aload_n dX6_set_54 rfl <|
  s_iload_n dX6_set_55 rfl <|
  s_iload_n dX6_set_56 rfl <|
  s_iload_n dX6_set_57 rfl <|
  s_cV3 ce_X6_lays ml_X6_118 im_X6_lays se_X6_lays xC6 dX6_set_58 <|
  s_iload dX6_set_61 <|
  s_ireturn dX6_set_63 rfl) <|
  s_bipush dX6_set_43 rfl (by decide) <|
  s_ireturn dX6_set_45 rfl
-- X6_set: cuts [0, 32]
def k_X6_lays_0 (d : Nat) (Q : xV → xMem → Prop) : xP :=
  x_iload 1 <|
  x_c1 (fun x => ¬ x = 0) (
  x_iload 1 <|
  x_push (vi 4) <|
  x_c2 (fun x y => y ≤ x) (
  x_iload 1 <|
  x_push (vi 6) <|
  x_c2 (fun x y => y ≤ x) (
  x_iload 1 <|
  x_push (vi 6) <|
  x_c2 (fun x y => ¬ x = y) (
  x_aload 0 <|
  x_iload 3 <|
  x_putI 6 4 <|
  x_vret Q) <|
  x_aload 0 <|
  x_getR 6 8 <|
  x_iload 2 <|
  x_iload 3 <|
  x_iastore <|
  x_vret Q) <|
  x_aload 0 <|
  x_getR 6 11 <|
  x_push (vi 2) <|
  x_iload 2 <|
  x_bin omul <|
  x_iload 1 <|
  x_bin oadd <|
  x_push (vi 4) <|
  x_bin osub <|
  x_iload 3 <|
  x_iastore <|
  x_vret Q) <|
  x_aload 0 <|
  x_getR 6 9 <|
  x_push (vi 3) <|
  x_iload 2 <|
  x_bin omul <|
  x_iload 1 <|
  x_bin oadd <|
  x_push (vi 1) <|
  x_bin osub <|
  x_iload 3 <|
  x_iastore <|
  x_vret Q) <|
  x_aload 0 <|
  x_iload 3 <|
  x_putI 6 7 <|
  x_vret Q
set_option maxRecDepth 100000 in
theorem b_X6_lays_0 {d : Nat} {Q : xV → xMem → Prop} : Snd M_X6_lays (d + 1) 0 Q (k_X6_lays_0 d Q) :=
  s_iload_n dX6_lays_0 rfl <|
  s_if_ne (t := 12) dX6_lays_1 rfl (
  s_iload_n dX6_lays_12 rfl <|
  s_iconst dX6_lays_13 rfl <|
  s_icmp_ge (t := 33) dX6_lays_14 rfl (
  s_iload_n dX6_lays_33 rfl <|
  s_bipush dX6_lays_34 rfl (by decide) <|
  s_icmp_ge (t := 55) dX6_lays_36 rfl (
  s_iload_n dX6_lays_55 rfl <|
  s_bipush dX6_lays_56 rfl (by decide) <|
  s_icmp_ne (t := 71) dX6_lays_58 rfl (
  s_aload_n dX6_lays_71 rfl <|
  s_iload_n dX6_lays_72 rfl <|
  s_putI xC6 (by decide) (fun _ _ _ => rfl) rfl rfl fl_X6_122 dX6_lays_73 <|
  s_return dX6_lays_76 rfl) <|
  s_aload_n dX6_lays_61 rfl <|
  s_getR xC6 (by decide) (fun _ _ _ => rfl) fl_X6_26 dX6_lays_62 <|
  s_iload_n dX6_lays_65 rfl <|
  s_iload_n dX6_lays_66 rfl <|
  s_iastore dX6_lays_67 <|
  s_goto (t := 76) dX6_lays_68 rfl <|
  s_return dX6_lays_76 rfl) <|
  s_aload_n dX6_lays_39 rfl <|
  s_getR xC6 (by decide) (fun _ _ _ => rfl) fl_X6_32 dX6_lays_40 <|
  s_iconst dX6_lays_43 rfl <|
  s_iload_n dX6_lays_44 rfl <|
  s_imul dX6_lays_45 <|
  s_iload_n dX6_lays_46 rfl <|
  s_iadd dX6_lays_47 <|
  s_iconst dX6_lays_48 rfl <|
  s_isub dX6_lays_49 <|
  s_iload_n dX6_lays_50 rfl <|
  s_iastore dX6_lays_51 <|
  s_goto (t := 76) dX6_lays_52 rfl <|
  s_return dX6_lays_76 rfl) <|
  s_aload_n dX6_lays_17 rfl <|
  s_getR xC6 (by decide) (fun _ _ _ => rfl) fl_X6_29 dX6_lays_18 <|
  s_iconst dX6_lays_21 rfl <|
  s_iload_n dX6_lays_22 rfl <|
  s_imul dX6_lays_23 <|
  s_iload_n dX6_lays_24 rfl <|
  s_iadd dX6_lays_25 <|
  s_iconst dX6_lays_26 rfl <|
  s_isub dX6_lays_27 <|
  s_iload_n dX6_lays_28 rfl <|
  s_iastore dX6_lays_29 <|
  s_goto (t := 76) dX6_lays_30 rfl <|
  s_return dX6_lays_76 rfl) <|
  s_aload_n dX6_lays_4 rfl <|
  s_iload_n dX6_lays_5 rfl <|
  s_putI xC6 (by decide) (fun _ _ _ => rfl) rfl rfl fl_X6_23 dX6_lays_6 <|
  s_goto (t := 76) dX6_lays_9 rfl <|
  s_return dX6_lays_76 rfl
-- X6_lays: cuts [0]
def k_X6_figure_0 (d : Nat) (Q : xV → xMem → Prop) : xP :=
  x_iload 1 <|
  x_i2l <|
  x_push (vl 0) <|
  x_push (vl (5)) <|
  x_cS3 M_X6_in d <|
  x_c1 (fun x => x = 0) (
  x_push (vi (-2)) <|
  x_ret Q) <|
  x_iload 2 <|
  x_i2l <|
  x_push (vl 0) <|
  x_push (vl (9)) <|
  x_cS3 M_X6_in d <|
  x_c1 (fun x => x = 0) (
  x_push (vi (-2)) <|
  x_ret Q) <|
  x_iload 3 <|
  x_i2l <|
  x_push (vl 0) <|
  x_push (vl (999)) <|
  x_cS3 M_X6_in d <|
  x_c1 (fun x => ¬ x = 0) (
  x_aload 0 <|
  x_getI 6 10 <|
  x_push (vi 6) <|
  x_c2 (fun x y => ¬ x = y) (
  x_aload 0 <|
  x_getR 6 8 <|
  x_aload 0 <|
  x_getI 6 10 <|
  x_iload 1 <|
  x_iastore <|
  x_aload 0 <|
  x_getR 6 9 <|
  x_push (vi 3) <|
  x_aload 0 <|
  x_getI 6 10 <|
  x_bin omul <|
  x_iload 2 <|
  x_iastore <|
  x_aload 0 <|
  x_getR 6 9 <|
  x_push (vi 3) <|
  x_aload 0 <|
  x_getI 6 10 <|
  x_bin omul <|
  x_push (vi 1) <|
  x_bin oadd <|
  x_iload 3 <|
  x_iastore <|
  x_aload 0 <|
  x_getR 6 9 <|
  x_push (vi 3) <|
  x_aload 0 <|
  x_getI 6 10 <|
  x_bin omul <|
  x_push (vi 2) <|
  x_bin oadd <|
  x_push (vi 4095) <|
  x_iastore <|
  x_aload 0 <|
  x_dup <|
  x_getI 6 10 <|
  x_push (vi 1) <|
  x_bin oadd <|
  x_putI 6 10 <|
  x_aload 0 <|
  x_getI 6 10 <|
  x_push (vi 1) <|
  x_bin osub <|
  x_ret Q) <|
  x_push (vi (-4)) <|
  x_ret Q) <|
  x_push (vi (-2)) <|
  x_ret Q
set_option maxRecDepth 100000 in
theorem b_X6_figure_0 {d : Nat} {Q : xV → xMem → Prop} : Snd M_X6_figure (d + 1) 0 Q (k_X6_figure_0 d Q) :=
  s_iload_n dX6_figure_0 rfl <|
  s_i2l dX6_figure_1 <|
  s_lconst dX6_figure_2 rfl (by decide) <|
  s_ldc2 dX6_figure_3 kl_X6_104 rfl (by decide) <|
  s_cS3 ce_X6_in ml_X6_88 sm_X6_in dX6_figure_6 <|
  s_if_eq (t := 36) dX6_figure_9 rfl (
  s_bipush dX6_figure_36 rfl (by decide) <|
  s_ireturn dX6_figure_38 rfl) <|
  s_iload_n dX6_figure_12 rfl <|
  s_i2l dX6_figure_13 <|
  s_lconst dX6_figure_14 rfl (by decide) <|
  s_ldc2 dX6_figure_15 kl_X6_125 rfl (by decide) <|
  s_cS3 ce_X6_in ml_X6_88 sm_X6_in dX6_figure_18 <|
  s_if_eq (t := 36) dX6_figure_21 rfl (
  s_bipush dX6_figure_36 rfl (by decide) <|
  s_ireturn dX6_figure_38 rfl) <|
  s_iload_n dX6_figure_24 rfl <|
  s_i2l dX6_figure_25 <|
  s_lconst dX6_figure_26 rfl (by decide) <|
  s_ldc2 dX6_figure_27 kl_X6_127 rfl (by decide) <|
  s_cS3 ce_X6_in ml_X6_88 sm_X6_in dX6_figure_30 <|
  s_if_ne (t := 39) dX6_figure_33 rfl (
  s_aload_n dX6_figure_39 rfl <|
  s_getI xC6 (by decide) (fun _ _ _ => rfl) fl_X6_85 dX6_figure_40 <|
  s_bipush dX6_figure_43 rfl (by decide) <|
  s_icmp_ne (t := 51) dX6_figure_45 rfl (
  s_aload_n dX6_figure_51 rfl <|
  s_getR xC6 (by decide) (fun _ _ _ => rfl) fl_X6_26 dX6_figure_52 <|
  s_aload_n dX6_figure_55 rfl <|
  s_getI xC6 (by decide) (fun _ _ _ => rfl) fl_X6_85 dX6_figure_56 <|
  s_iload_n dX6_figure_59 rfl <|
  s_iastore dX6_figure_60 <|
  s_aload_n dX6_figure_61 rfl <|
  s_getR xC6 (by decide) (fun _ _ _ => rfl) fl_X6_29 dX6_figure_62 <|
  s_iconst dX6_figure_65 rfl <|
  s_aload_n dX6_figure_66 rfl <|
  s_getI xC6 (by decide) (fun _ _ _ => rfl) fl_X6_85 dX6_figure_67 <|
  s_imul dX6_figure_70 <|
  s_iload_n dX6_figure_71 rfl <|
  s_iastore dX6_figure_72 <|
  s_aload_n dX6_figure_73 rfl <|
  s_getR xC6 (by decide) (fun _ _ _ => rfl) fl_X6_29 dX6_figure_74 <|
  s_iconst dX6_figure_77 rfl <|
  s_aload_n dX6_figure_78 rfl <|
  s_getI xC6 (by decide) (fun _ _ _ => rfl) fl_X6_85 dX6_figure_79 <|
  s_imul dX6_figure_82 <|
  s_iconst dX6_figure_83 rfl <|
  s_iadd dX6_figure_84 <|
  s_iload_n dX6_figure_85 rfl <|
  s_iastore dX6_figure_86 <|
  s_aload_n dX6_figure_87 rfl <|
  s_getR xC6 (by decide) (fun _ _ _ => rfl) fl_X6_29 dX6_figure_88 <|
  s_iconst dX6_figure_91 rfl <|
  s_aload_n dX6_figure_92 rfl <|
  s_getI xC6 (by decide) (fun _ _ _ => rfl) fl_X6_85 dX6_figure_93 <|
  s_imul dX6_figure_96 <|
  s_iconst dX6_figure_97 rfl <|
  s_iadd dX6_figure_98 <|
  s_sipush dX6_figure_99 rfl (by decide) <|
  s_iastore dX6_figure_102 <|
  s_aload_n dX6_figure_103 rfl <|
  s_dup dX6_figure_104 <|
  s_getI xC6 (by decide) (fun _ _ _ => rfl) fl_X6_85 dX6_figure_105 <|
  s_iconst dX6_figure_108 rfl <|
  s_iadd dX6_figure_109 <|
  s_putI xC6 (by decide) (fun _ _ _ => rfl) rfl rfl fl_X6_85 dX6_figure_110 <|
  s_aload_n dX6_figure_113 rfl <|
  s_getI xC6 (by decide) (fun _ _ _ => rfl) fl_X6_85 dX6_figure_114 <|
  s_iconst dX6_figure_117 rfl <|
  s_isub dX6_figure_118 <|
  s_ireturn dX6_figure_119 rfl) <|
  s_bipush dX6_figure_48 rfl (by decide) <|
  s_ireturn dX6_figure_50 rfl) <|
  s_bipush dX6_figure_36 rfl (by decide) <|
  s_ireturn dX6_figure_38 rfl
-- X6_figure: cuts [0]
def k_X6_client_0 (d : Nat) (Q : xV → xMem → Prop) : xP :=
  x_iload 1 <|
  x_cS1 M_X6_isHour d <|
  x_c1 (fun x => x = 0) (
  x_push (vi (-2)) <|
  x_ret Q) <|
  x_iload 2 <|
  x_i2l <|
  x_push (vl 0) <|
  x_push (vl (63)) <|
  x_cS3 M_X6_in d <|
  x_c1 (fun x => ¬ x = 0) (
  x_aload 0 <|
  x_getI 6 12 <|
  x_push (vi 5) <|
  x_c2 (fun x y => ¬ x = y) (
  x_aload 0 <|
  x_getR 6 11 <|
  x_push (vi 2) <|
  x_aload 0 <|
  x_getI 6 12 <|
  x_bin omul <|
  x_iload 1 <|
  x_iastore <|
  x_aload 0 <|
  x_getR 6 11 <|
  x_push (vi 2) <|
  x_aload 0 <|
  x_getI 6 12 <|
  x_bin omul <|
  x_push (vi 1) <|
  x_bin oadd <|
  x_iload 2 <|
  x_iastore <|
  x_aload 0 <|
  x_dup <|
  x_getI 6 12 <|
  x_push (vi 1) <|
  x_bin oadd <|
  x_putI 6 12 <|
  x_aload 0 <|
  x_getI 6 12 <|
  x_push (vi 1) <|
  x_bin osub <|
  x_ret Q) <|
  x_push (vi (-4)) <|
  x_ret Q) <|
  x_push (vi (-2)) <|
  x_ret Q
set_option maxRecDepth 100000 in
theorem b_X6_client_0 {d : Nat} {Q : xV → xMem → Prop} : Snd M_X6_client (d + 1) 0 Q (k_X6_client_0 d Q) :=
  s_iload_n dX6_client_0 rfl <|
  s_cS1 ce_X6_isHour ml_X6_129 sm_X6_isHour dX6_client_1 <|
  s_if_eq (t := 19) dX6_client_4 rfl (
  s_bipush dX6_client_19 rfl (by decide) <|
  s_ireturn dX6_client_21 rfl) <|
  s_iload_n dX6_client_7 rfl <|
  s_i2l dX6_client_8 <|
  s_lconst dX6_client_9 rfl (by decide) <|
  s_ldc2 dX6_client_10 kl_X6_132 rfl (by decide) <|
  s_cS3 ce_X6_in ml_X6_88 sm_X6_in dX6_client_13 <|
  s_if_ne (t := 22) dX6_client_16 rfl (
  s_aload_n dX6_client_22 rfl <|
  s_getI xC6 (by decide) (fun _ _ _ => rfl) fl_X6_92 dX6_client_23 <|
  s_iconst dX6_client_26 rfl <|
  s_icmp_ne (t := 33) dX6_client_27 rfl (
  s_aload_n dX6_client_33 rfl <|
  s_getR xC6 (by decide) (fun _ _ _ => rfl) fl_X6_32 dX6_client_34 <|
  s_iconst dX6_client_37 rfl <|
  s_aload_n dX6_client_38 rfl <|
  s_getI xC6 (by decide) (fun _ _ _ => rfl) fl_X6_92 dX6_client_39 <|
  s_imul dX6_client_42 <|
  s_iload_n dX6_client_43 rfl <|
  s_iastore dX6_client_44 <|
  s_aload_n dX6_client_45 rfl <|
  s_getR xC6 (by decide) (fun _ _ _ => rfl) fl_X6_32 dX6_client_46 <|
  s_iconst dX6_client_49 rfl <|
  s_aload_n dX6_client_50 rfl <|
  s_getI xC6 (by decide) (fun _ _ _ => rfl) fl_X6_92 dX6_client_51 <|
  s_imul dX6_client_54 <|
  s_iconst dX6_client_55 rfl <|
  s_iadd dX6_client_56 <|
  s_iload_n dX6_client_57 rfl <|
  s_iastore dX6_client_58 <|
  s_aload_n dX6_client_59 rfl <|
  s_dup dX6_client_60 <|
  s_getI xC6 (by decide) (fun _ _ _ => rfl) fl_X6_92 dX6_client_61 <|
  s_iconst dX6_client_64 rfl <|
  s_iadd dX6_client_65 <|
  s_putI xC6 (by decide) (fun _ _ _ => rfl) rfl rfl fl_X6_92 dX6_client_66 <|
  s_aload_n dX6_client_69 rfl <|
  s_getI xC6 (by decide) (fun _ _ _ => rfl) fl_X6_92 dX6_client_70 <|
  s_iconst dX6_client_73 rfl <|
  s_isub dX6_client_74 <|
  s_ireturn dX6_client_75 rfl) <|
  s_bipush dX6_client_30 rfl (by decide) <|
  s_ireturn dX6_client_32 rfl) <|
  s_bipush dX6_client_19 rfl (by decide) <|
  s_ireturn dX6_client_21 rfl
-- X6_client: cuts [0]
def k_X6_told_0 (d : Nat) (Q : xV → xMem → Prop) : xP :=
  x_iload 2 <|
  x_i2l <|
  x_push (vl 0) <|
  x_push (vl (7)) <|
  x_cS3 M_X6_in d <|
  x_c1 (fun x => ¬ x = 0) (
  (xJ M_X6_told (d + 1) 40 Q)) <|
  x_iload 2 <|
  x_i2l <|
  x_push (vl (10)) <|
  x_push (vl (21)) <|
  x_cS3 M_X6_in d <|
  x_c1 (fun x => ¬ x = 0) (
  (xJ M_X6_told (d + 1) 40 Q)) <|
  x_iload 2 <|
  x_i2l <|
  x_push (vl (30)) <|
  x_push (vl (41)) <|
  x_cS3 M_X6_in d <|
  x_c1 (fun x => x = 0) (
  x_push (vi (-2)) <|
  x_ret Q) <|
  (xJ M_X6_told (d + 1) 40 Q)
set_option maxRecDepth 100000 in
theorem b_X6_told_0 {d : Nat} {Q : xV → xMem → Prop} : Snd M_X6_told (d + 1) 0 Q (k_X6_told_0 d Q) :=
  s_iload_n dX6_told_0 rfl <|
  s_i2l dX6_told_1 <|
  s_lconst dX6_told_2 rfl (by decide) <|
  s_ldc2 dX6_told_3 kl_X6_134 rfl (by decide) <|
  s_cS3 ce_X6_in ml_X6_88 sm_X6_in dX6_told_6 <|
  s_if_ne (t := 40) dX6_told_9 rfl (
  s_J) <|
  s_iload_n dX6_told_12 rfl <|
  s_i2l dX6_told_13 <|
  s_ldc2 dX6_told_14 kl_X6_136 rfl (by decide) <|
  s_ldc2 dX6_told_17 kl_X6_138 rfl (by decide) <|
  s_cS3 ce_X6_in ml_X6_88 sm_X6_in dX6_told_20 <|
  s_if_ne (t := 40) dX6_told_23 rfl (
  s_J) <|
  s_iload_n dX6_told_26 rfl <|
  s_i2l dX6_told_27 <|
  s_ldc2 dX6_told_28 kl_X6_140 rfl (by decide) <|
  s_ldc2 dX6_told_31 kl_X6_142 rfl (by decide) <|
  s_cS3 ce_X6_in ml_X6_88 sm_X6_in dX6_told_34 <|
  s_if_eq (t := 49) dX6_told_37 rfl (
  s_bipush dX6_told_49 rfl (by decide) <|
  s_ireturn dX6_told_51 rfl) <|
  s_J
def k_X6_told_40 (d : Nat) (Q : xV → xMem → Prop) : xP :=
  x_aload 0 <|
  x_iload 2 <|
  x_iload 1 <|
  x_cV2 M_X6_isOf d 6 <|
  x_c1 (fun x => ¬ x = 0) (
  x_iload 2 <|
  x_push (vi 7) <|
  x_c2 (fun x y => x ≤ y) (
  x_iload 2 <|
  x_push (vi 5) <|
  x_c2 (fun x y => x ≤ y) (
  x_iload 2 <|
  x_c1 (fun x => ¬ x = 0) (
  x_iload 2 <|
  x_push (vi 4) <|
  x_c2 (fun x y => y ≤ x) (
  x_aload 0 <|
  x_getR 6 11 <|
  x_push (vi 2) <|
  x_iload 1 <|
  x_bin omul <|
  x_iload 2 <|
  x_bin oadd <|
  x_push (vi 4) <|
  x_bin osub <|
  x_iaload <|
  x_ret Q) <|
  x_aload 0 <|
  x_getR 6 9 <|
  x_push (vi 3) <|
  x_iload 1 <|
  x_bin omul <|
  x_iload 2 <|
  x_bin oadd <|
  x_push (vi 1) <|
  x_bin osub <|
  x_iaload <|
  x_ret Q) <|
  x_aload 0 <|
  x_getI 6 7 <|
  x_ret Q) <|
  x_iload 2 <|
  x_push (vi 6) <|
  x_c2 (fun x y => ¬ x = y) (
  x_aload 0 <|
  x_iload 1 <|
  x_cV1 M_X6_askedOf d 6 <|
  x_ret Q) <|
  x_aload 0 <|
  x_getR 6 8 <|
  x_iload 1 <|
  x_iaload <|
  x_ret Q) <|
  x_iload 2 <|
  x_push (vi 30) <|
  x_c2 (fun x y => y ≤ x) (
  x_aload 0 <|
  x_iload 1 <|
  x_iload 2 <|
  x_push (vi 30) <|
  x_bin osub <|
  x_cV2 M_X6_appears d 6 <|
  x_c1 (fun x => x = 0) (
  x_push (vi 0) <|
  x_ret Q) <|
  x_push (vi 1) <|
  x_ret Q) <|
  x_aload 0 <|
  x_iload 1 <|
  x_iload 2 <|
  x_push (vi 10) <|
  x_bin osub <|
  x_cV2 M_X6_costsOf d 6 <|
  x_ret Q) <|
  x_push (vi (-2)) <|
  x_ret Q
set_option maxRecDepth 100000 in
theorem b_X6_told_40 {d : Nat} {Q : xV → xMem → Prop} : Snd M_X6_told (d + 1) 40 Q (k_X6_told_40 d Q) :=
  s_aload_n dX6_told_40 rfl <|
  s_iload_n dX6_told_41 rfl <|
  s_iload_n dX6_told_42 rfl <|
  s_cV2 ce_X6_isOf ml_X6_106 im_X6_isOf se_X6_isOf xC6 dX6_told_43 <|
  s_if_ne (t := 52) dX6_told_46 rfl (
  s_iload_n dX6_told_52 rfl <|
  s_bipush dX6_told_53 rfl (by decide) <|
  s_icmp_le (t := 94) dX6_told_55 rfl (
  s_iload_n dX6_told_94 rfl <|
  s_iconst dX6_told_95 rfl <|
  s_icmp_le (t := 120) dX6_told_96 rfl (
  s_iload_n dX6_told_120 rfl <|
  s_if_ne (t := 131) dX6_told_121 rfl (
  s_iload_n dX6_told_131 rfl <|
  s_iconst dX6_told_132 rfl <|
  s_icmp_ge (t := 151) dX6_told_133 rfl (
  s_aload_n dX6_told_151 rfl <|
  s_getR xC6 (by decide) (fun _ _ _ => rfl) fl_X6_32 dX6_told_152 <|
  s_iconst dX6_told_155 rfl <|
  s_iload_n dX6_told_156 rfl <|
  s_imul dX6_told_157 <|
  s_iload_n dX6_told_158 rfl <|
  s_iadd dX6_told_159 <|
  s_iconst dX6_told_160 rfl <|
  s_isub dX6_told_161 <|
  s_iaload dX6_told_162 <|
  s_ireturn dX6_told_163 rfl) <|
  s_aload_n dX6_told_136 rfl <|
  s_getR xC6 (by decide) (fun _ _ _ => rfl) fl_X6_29 dX6_told_137 <|
  s_iconst dX6_told_140 rfl <|
  s_iload_n dX6_told_141 rfl <|
  s_imul dX6_told_142 <|
  s_iload_n dX6_told_143 rfl <|
  s_iadd dX6_told_144 <|
  s_iconst dX6_told_145 rfl <|
  s_isub dX6_told_146 <|
  s_iaload dX6_told_147 <|
  s_goto (t := 163) dX6_told_148 rfl <|
  s_ireturn dX6_told_163 rfl) <|
  s_aload_n dX6_told_124 rfl <|
  s_getI xC6 (by decide) (fun _ _ _ => rfl) fl_X6_23 dX6_told_125 <|
  s_goto (t := 163) dX6_told_128 rfl <|
  s_ireturn dX6_told_163 rfl) <|
  s_iload_n dX6_told_99 rfl <|
  s_bipush dX6_told_100 rfl (by decide) <|
  s_icmp_ne (t := 114) dX6_told_102 rfl (
  s_aload_n dX6_told_114 rfl <|
  s_iload_n dX6_told_115 rfl <|
  s_cV1 ce_X6_askedOf ml_X6_150 im_X6_askedOf se_X6_askedOf xC6 dX6_told_116 <|
  s_ireturn dX6_told_119 rfl) <|
  s_aload_n dX6_told_105 rfl <|
  s_getR xC6 (by decide) (fun _ _ _ => rfl) fl_X6_26 dX6_told_106 <|
  s_iload_n dX6_told_109 rfl <|
  s_iaload dX6_told_110 <|
  s_goto (t := 119) dX6_told_111 rfl <|
  s_ireturn dX6_told_119 rfl) <|
  s_iload_n dX6_told_58 rfl <|
  s_bipush dX6_told_59 rfl (by decide) <|
  s_icmp_ge (t := 76) dX6_told_61 rfl (
  s_aload_n dX6_told_76 rfl <|
  s_iload_n dX6_told_77 rfl <|
  s_iload_n dX6_told_78 rfl <|
  s_bipush dX6_told_79 rfl (by decide) <|
  s_isub dX6_told_81 <|
  s_cV2 ce_X6_appears ml_X6_147 im_X6_appears se_X6_appears xC6 dX6_told_82 <|
  s_if_eq (t := 92) dX6_told_85 rfl (
  s_iconst dX6_told_92 rfl <|
  s_ireturn dX6_told_93 rfl) <|
  s_iconst dX6_told_88 rfl <|
  s_goto (t := 93) dX6_told_89 rfl <|
  s_ireturn dX6_told_93 rfl) <|
  s_aload_n dX6_told_64 rfl <|
  s_iload_n dX6_told_65 rfl <|
  s_iload_n dX6_told_66 rfl <|
  s_bipush dX6_told_67 rfl (by decide) <|
  s_isub dX6_told_69 <|
  s_cV2 ce_X6_costsOf ml_X6_144 im_X6_costsOf se_X6_costsOf xC6 dX6_told_70 <|
  s_goto (t := 93) dX6_told_73 rfl <|
  s_ireturn dX6_told_93 rfl) <|
  s_bipush dX6_told_49 rfl (by decide) <|
  s_ireturn dX6_told_51 rfl
-- X6_told: cuts [0, 40]
def k_X6_isWished_0 (d : Nat) (Q : xV → xMem → Prop) : xP :=
  x_aload 0 <|
  x_getR 6 11 <|
  x_push (vi 2) <|
  x_iload 1 <|
  x_bin omul <|
  x_push (vi 1) <|
  x_bin oadd <|
  x_iaload <|
  x_iload 2 <|
  x_bin oshr <|
  x_push (vi 1) <|
  x_bin oand <|
  x_push (vi 1) <|
  x_c2 (fun x y => ¬ x = y) (
  x_push (vi 0) <|
  x_zret Q) <|
  x_push (vi 1) <|
  x_zret Q
set_option maxRecDepth 100000 in
theorem b_X6_isWished_0 {d : Nat} {Q : xV → xMem → Prop} : Snd M_X6_isWished (d + 1) 0 Q (k_X6_isWished_0 d Q) :=
  s_aload_n dX6_isWished_0 rfl <|
  s_getR xC6 (by decide) (fun _ _ _ => rfl) fl_X6_32 dX6_isWished_1 <|
  s_iconst dX6_isWished_4 rfl <|
  s_iload_n dX6_isWished_5 rfl <|
  s_imul dX6_isWished_6 <|
  s_iconst dX6_isWished_7 rfl <|
  s_iadd dX6_isWished_8 <|
  s_iaload dX6_isWished_9 <|
  s_iload_n dX6_isWished_10 rfl <|
  s_ishr dX6_isWished_11 <|
  s_iconst dX6_isWished_12 rfl <|
  s_iand dX6_isWished_13 <|
  s_iconst dX6_isWished_14 rfl <|
  s_icmp_ne (t := 22) dX6_isWished_15 rfl (
  s_iconst dX6_isWished_22 rfl <|
  s_zreturn dX6_isWished_23 rfl) <|
  s_iconst dX6_isWished_18 rfl <|
  s_goto (t := 23) dX6_isWished_19 rfl <|
  s_zreturn dX6_isWished_23 rfl
-- X6_isWished: cuts [0]
def k_X6_askedOf_0 (d : Nat) (Q : xV → xMem → Prop) : xP :=
  x_push (vi 0) <|
  x_istore 2 <|
  x_push (vi 0) <|
  x_istore 3 <|
  (xJ M_X6_askedOf (d + 1) 4 Q)
set_option maxRecDepth 100000 in
theorem b_X6_askedOf_0 {d : Nat} {Q : xV → xMem → Prop} : Snd M_X6_askedOf (d + 1) 0 Q (k_X6_askedOf_0 d Q) :=
  s_iconst dX6_askedOf_0 rfl <|
  s_istore_n dX6_askedOf_1 rfl (by decide) <|
  s_iconst dX6_askedOf_2 rfl <|
  s_istore_n dX6_askedOf_3 rfl (by decide) <|
  s_J
def k_X6_askedOf_4 (d : Nat) (Q : xV → xMem → Prop) : xP :=
  x_iload 3 <|
  x_aload 0 <|
  x_getI 6 12 <|
  x_c2 (fun x y => y ≤ x) (
  x_iload 2 <|
  x_ret Q) <|
  x_iload 2 <|
  x_aload 0 <|
  x_iload 3 <|
  x_iload 1 <|
  x_cV2 M_X6_isWished d 6 <|
  x_c1 (fun x => x = 0) (
  x_push (vi 0) <|
  x_bin oadd <|
  x_istore 2 <|
  x_iinc 3 1 <|
  (xJ M_X6_askedOf (d + 1) 4 Q)) <|
  x_push (vi 1) <|
  x_bin oadd <|
  x_istore 2 <|
  x_iinc 3 1 <|
  (xJ M_X6_askedOf (d + 1) 4 Q)
set_option maxRecDepth 100000 in
theorem b_X6_askedOf_4 {d : Nat} {Q : xV → xMem → Prop} : Snd M_X6_askedOf (d + 1) 4 Q (k_X6_askedOf_4 d Q) :=
  s_iload_n dX6_askedOf_4 rfl <|
  s_aload_n dX6_askedOf_5 rfl <|
  s_getI xC6 (by decide) (fun _ _ _ => rfl) fl_X6_92 dX6_askedOf_6 <|
  s_icmp_ge (t := 35) dX6_askedOf_9 rfl (
  s_iload_n dX6_askedOf_35 rfl <|
  s_ireturn dX6_askedOf_36 rfl) <|
  s_iload_n dX6_askedOf_12 rfl <|
  s_aload_n dX6_askedOf_13 rfl <|
  s_iload_n dX6_askedOf_14 rfl <|
  s_iload_n dX6_askedOf_15 rfl <|
  s_cV2 ce_X6_isWished ml_X6_153 im_X6_isWished se_X6_isWished xC6 dX6_askedOf_16 <|
  s_if_eq (t := 26) dX6_askedOf_19 rfl (
  s_iconst dX6_askedOf_26 rfl <|
  s_iadd dX6_askedOf_27 <|
  s_istore_n dX6_askedOf_28 rfl (by decide) <|
  s_iinc dX6_askedOf_29 (by decide) <|
  s_goto (t := 4) dX6_askedOf_32 rfl <|
  s_J) <|
  s_iconst dX6_askedOf_22 rfl <|
  s_goto (t := 27) dX6_askedOf_23 rfl <|
  s_iadd dX6_askedOf_27 <|
  s_istore_n dX6_askedOf_28 rfl (by decide) <|
  s_iinc dX6_askedOf_29 (by decide) <|
  s_goto (t := 4) dX6_askedOf_32 rfl <|
  s_J
-- X6_askedOf: cuts [0, 4]
def k_X6_feed_0 (d : Nat) (Q : xV → xMem → Prop) : xP :=
  x_iload 1 <|
  x_i2l <|
  x_push (vl 0) <|
  x_push (vl (255)) <|
  x_cS3 M_X6_in d <|
  x_c1 (fun x => ¬ x = 0) (
  x_aload 0 <|
  x_getI 6 6 <|
  x_push (vi 160) <|
  x_c2 (fun x y => ¬ x = y) (
  x_aload 0 <|
  x_getR 6 5 <|
  x_aload 0 <|
  x_getI 6 6 <|
  x_iload 1 <|
  x_iastore <|
  x_aload 0 <|
  x_dup <|
  x_getI 6 6 <|
  x_push (vi 1) <|
  x_bin oadd <|
  x_putI 6 6 <|
  x_aload 0 <|
  x_getI 6 6 <|
  x_ret Q) <|
  x_push (vi (-4)) <|
  x_ret Q) <|
  x_push (vi (-2)) <|
  x_ret Q
set_option maxRecDepth 100000 in
theorem b_X6_feed_0 {d : Nat} {Q : xV → xMem → Prop} : Snd M_X6_feed (d + 1) 0 Q (k_X6_feed_0 d Q) :=
  s_iload_n dX6_feed_0 rfl <|
  s_i2l dX6_feed_1 <|
  s_lconst dX6_feed_2 rfl (by decide) <|
  s_ldc2 dX6_feed_3 kl_X6_156 rfl (by decide) <|
  s_cS3 ce_X6_in ml_X6_88 sm_X6_in dX6_feed_6 <|
  s_if_ne (t := 15) dX6_feed_9 rfl (
  s_aload_n dX6_feed_15 rfl <|
  s_getI xC6 (by decide) (fun _ _ _ => rfl) fl_X6_158 dX6_feed_16 <|
  s_sipush dX6_feed_19 rfl (by decide) <|
  s_icmp_ne (t := 28) dX6_feed_22 rfl (
  s_aload_n dX6_feed_28 rfl <|
  s_getR xC6 (by decide) (fun _ _ _ => rfl) fl_X6_20 dX6_feed_29 <|
  s_aload_n dX6_feed_32 rfl <|
  s_getI xC6 (by decide) (fun _ _ _ => rfl) fl_X6_158 dX6_feed_33 <|
  s_iload_n dX6_feed_36 rfl <|
  s_iastore dX6_feed_37 <|
  s_aload_n dX6_feed_38 rfl <|
  s_dup dX6_feed_39 <|
  s_getI xC6 (by decide) (fun _ _ _ => rfl) fl_X6_158 dX6_feed_40 <|
  s_iconst dX6_feed_43 rfl <|
  s_iadd dX6_feed_44 <|
  s_putI xC6 (by decide) (fun _ _ _ => rfl) rfl rfl fl_X6_158 dX6_feed_45 <|
  s_aload_n dX6_feed_48 rfl <|
  s_getI xC6 (by decide) (fun _ _ _ => rfl) fl_X6_158 dX6_feed_49 <|
  s_ireturn dX6_feed_52 rfl) <|
  s_bipush dX6_feed_25 rfl (by decide) <|
  s_ireturn dX6_feed_27 rfl) <|
  s_bipush dX6_feed_12 rfl (by decide) <|
  s_ireturn dX6_feed_14 rfl
-- X6_feed: cuts [0]
def k_X6_byteAt_0 (d : Nat) (Q : xV → xMem → Prop) : xP :=
  x_iload 1 <|
  x_aload 0 <|
  x_getI 6 20 <|
  x_c2 (fun x y => y ≤ x) (
  x_push (vi (-1)) <|
  x_ret Q) <|
  x_aload 0 <|
  x_getR 6 1 <|
  x_aload 0 <|
  x_getI 6 19 <|
  x_iload 1 <|
  x_bin oadd <|
  x_iaload <|
  x_ret Q
set_option maxRecDepth 100000 in
theorem b_X6_byteAt_0 {d : Nat} {Q : xV → xMem → Prop} : Snd M_X6_byteAt (d + 1) 0 Q (k_X6_byteAt_0 d Q) :=
  s_iload_n dX6_byteAt_0 rfl <|
  s_aload_n dX6_byteAt_1 rfl <|
  s_getI xC6 (by decide) (fun _ _ _ => rfl) fl_X6_161 dX6_byteAt_2 <|
  s_icmp_ge (t := 22) dX6_byteAt_5 rfl (
  s_iconst dX6_byteAt_22 rfl <|
  s_ireturn dX6_byteAt_23 rfl) <|
  s_aload_n dX6_byteAt_8 rfl <|
  s_getR xC6 (by decide) (fun _ _ _ => rfl) fl_X6_13 dX6_byteAt_9 <|
  s_aload_n dX6_byteAt_12 rfl <|
  s_getI xC6 (by decide) (fun _ _ _ => rfl) fl_X6_164 dX6_byteAt_13 <|
  s_iload_n dX6_byteAt_16 rfl <|
  s_iadd dX6_byteAt_17 <|
  s_iaload dX6_byteAt_18 <|
  s_goto (t := 23) dX6_byteAt_19 rfl <|
  s_ireturn dX6_byteAt_23 rfl
-- X6_byteAt: cuts [0]
def k_X6_next_0 (d : Nat) (Q : xV → xMem → Prop) : xP :=
  x_aload 0 <|
  x_aload 0 <|
  x_getI 6 21 <|
  x_cV1 M_X6_byteAt d 6 <|
  x_push (vi 32) <|
  x_c2 (fun x y => x = y) (
  x_aload 0 <|
  x_dup <|
  x_getI 6 21 <|
  x_push (vi 1) <|
  x_bin oadd <|
  x_putI 6 21 <|
  (xJ M_X6_next (d + 1) 0 Q)) <|
  x_aload 0 <|
  x_aload 0 <|
  x_getI 6 21 <|
  x_cV1 M_X6_byteAt d 6 <|
  x_push (vi 10) <|
  x_c2 (fun x y => ¬ x = y) (
  x_aload 0 <|
  x_aload 0 <|
  x_getI 6 21 <|
  x_putI 6 23 <|
  x_aload 0 <|
  x_aload 0 <|
  x_getI 6 21 <|
  x_cV1 M_X6_byteAt d 6 <|
  x_istore 1 <|
  x_aload 0 <|
  x_push (vi 4) <|
  x_putI 6 22 <|
  x_iload 1 <|
  x_c1 (fun x => 0 ≤ x) (
  x_iload 1 <|
  x_i2l <|
  x_push (vl (97)) <|
  x_push (vl (122)) <|
  x_cS3 M_X6_in d <|
  x_c1 (fun x => x = 0) (
  x_iload 1 <|
  x_i2l <|
  x_push (vl (48)) <|
  x_push (vl (57)) <|
  x_cS3 M_X6_in d <|
  x_c1 (fun x => x = 0) (
  x_iload 1 <|
  x_push (vi 40) <|
  x_c2 (fun x y => x = y) (
  (xJ M_X6_next (d + 1) 300 Q)) <|
  x_iload 1 <|
  x_push (vi 41) <|
  x_c2 (fun x y => x = y) (
  (xJ M_X6_next (d + 1) 300 Q)) <|
  x_iload 1 <|
  x_push (vi 59) <|
  x_c2 (fun x y => x = y) (
  (xJ M_X6_next (d + 1) 300 Q)) <|
  x_iload 1 <|
  x_push (vi 43) <|
  x_c2 (fun x y => x = y) (
  (xJ M_X6_next (d + 1) 300 Q)) <|
  x_iload 1 <|
  x_push (vi 45) <|
  x_c2 (fun x y => x = y) (
  (xJ M_X6_next (d + 1) 300 Q)) <|
  x_iload 1 <|
  x_push (vi 42) <|
  x_c2 (fun x y => x = y) (
  (xJ M_X6_next (d + 1) 300 Q)) <|
  x_iload 1 <|
  x_push (vi 60) <|
  x_c2 (fun x y => x = y) (
  (xJ M_X6_next (d + 1) 300 Q)) <|
  x_iload 1 <|
  x_push (vi 61) <|
  x_c2 (fun x y => ¬ x = y) (
  x_vret Q) <|
  (xJ M_X6_next (d + 1) 300 Q)) <|
  x_aload 0 <|
  x_push (vi 2) <|
  x_putI 6 22 <|
  x_aload 0 <|
  x_push (vl 0) <|
  x_putL 6 24 <|
  x_push (vi 0) <|
  x_istore 2 <|
  (xJ M_X6_next (d + 1) 160 Q)) <|
  x_aload 0 <|
  x_push (vi 1) <|
  x_putI 6 22 <|
  (xJ M_X6_next (d + 1) 100 Q)) <|
  x_aload 0 <|
  x_push (vi 0) <|
  x_putI 6 22 <|
  x_aload 0 <|
  x_aload 0 <|
  x_getI 6 20 <|
  x_putI 6 23 <|
  x_vret Q) <|
  x_aload 0 <|
  x_dup <|
  x_getI 6 21 <|
  x_push (vi 1) <|
  x_bin oadd <|
  x_putI 6 21 <|
  (xJ M_X6_next (d + 1) 0 Q)
set_option maxRecDepth 100000 in
theorem b_X6_next_0 {d : Nat} {Q : xV → xMem → Prop} : Snd M_X6_next (d + 1) 0 Q (k_X6_next_0 d Q) :=
  s_aload_n dX6_next_0 rfl <|
  s_aload_n dX6_next_1 rfl <|
  s_getI xC6 (by decide) (fun _ _ _ => rfl) fl_X6_167 dX6_next_2 <|
  s_cV1 ce_X6_byteAt ml_X6_170 im_X6_byteAt se_X6_byteAt xC6 dX6_next_5 <|
  s_bipush dX6_next_8 rfl (by decide) <|
  s_icmp_eq (t := 26) dX6_next_10 rfl (
  s_aload_n dX6_next_26 rfl <|
  s_dup dX6_next_27 <|
  s_getI xC6 (by decide) (fun _ _ _ => rfl) fl_X6_167 dX6_next_28 <|
  s_iconst dX6_next_31 rfl <|
  s_iadd dX6_next_32 <|
  s_putI xC6 (by decide) (fun _ _ _ => rfl) rfl rfl fl_X6_167 dX6_next_33 <|
  s_goto (t := 0) dX6_next_36 rfl <|
  s_J) <|
  s_aload_n dX6_next_13 rfl <|
  s_aload_n dX6_next_14 rfl <|
  s_getI xC6 (by decide) (fun _ _ _ => rfl) fl_X6_167 dX6_next_15 <|
  s_cV1 ce_X6_byteAt ml_X6_170 im_X6_byteAt se_X6_byteAt xC6 dX6_next_18 <|
  s_bipush dX6_next_21 rfl (by decide) <|
  s_icmp_ne (t := 39) dX6_next_23 rfl (
  s_aload_n dX6_next_39 rfl <|
  s_aload_n dX6_next_40 rfl <|
  s_getI xC6 (by decide) (fun _ _ _ => rfl) fl_X6_167 dX6_next_41 <|
  s_putI xC6 (by decide) (fun _ _ _ => rfl) rfl rfl fl_X6_173 dX6_next_44 <|
  s_aload_n dX6_next_47 rfl <|
  s_aload_n dX6_next_48 rfl <|
  s_getI xC6 (by decide) (fun _ _ _ => rfl) fl_X6_167 dX6_next_49 <|
  s_cV1 ce_X6_byteAt ml_X6_170 im_X6_byteAt se_X6_byteAt xC6 dX6_next_52 <|
  s_istore_n dX6_next_55 rfl (by decide) <|
  s_aload_n dX6_next_56 rfl <|
  s_iconst dX6_next_57 rfl <|
  s_putI xC6 (by decide) (fun _ _ _ => rfl) rfl rfl fl_X6_176 dX6_next_58 <|
  s_iload_n dX6_next_61 rfl <|
  s_if_ge (t := 81) dX6_next_62 rfl (
  s_iload_n dX6_next_81 rfl <|
  s_i2l dX6_next_82 <|
  s_ldc2 dX6_next_83 kl_X6_179 rfl (by decide) <|
  s_ldc2 dX6_next_86 kl_X6_181 rfl (by decide) <|
  s_cS3 ce_X6_in ml_X6_88 sm_X6_in dX6_next_89 <|
  s_if_eq (t := 134) dX6_next_92 rfl (
  s_iload_n dX6_next_134 rfl <|
  s_i2l dX6_next_135 <|
  s_ldc2 dX6_next_136 kl_X6_183 rfl (by decide) <|
  s_ldc2 dX6_next_139 kl_X6_185 rfl (by decide) <|
  s_cS3 ce_X6_in ml_X6_88 sm_X6_in dX6_next_142 <|
  s_if_eq (t := 252) dX6_next_145 rfl (
  s_iload_n dX6_next_252 rfl <|
  s_bipush dX6_next_253 rfl (by decide) <|
  s_icmp_eq (t := 300) dX6_next_255 rfl (
  s_J) <|
  s_iload_n dX6_next_258 rfl <|
  s_bipush dX6_next_259 rfl (by decide) <|
  s_icmp_eq (t := 300) dX6_next_261 rfl (
  s_J) <|
  s_iload_n dX6_next_264 rfl <|
  s_bipush dX6_next_265 rfl (by decide) <|
  s_icmp_eq (t := 300) dX6_next_267 rfl (
  s_J) <|
  s_iload_n dX6_next_270 rfl <|
  s_bipush dX6_next_271 rfl (by decide) <|
  s_icmp_eq (t := 300) dX6_next_273 rfl (
  s_J) <|
  s_iload_n dX6_next_276 rfl <|
  s_bipush dX6_next_277 rfl (by decide) <|
  s_icmp_eq (t := 300) dX6_next_279 rfl (
  s_J) <|
  s_iload_n dX6_next_282 rfl <|
  s_bipush dX6_next_283 rfl (by decide) <|
  s_icmp_eq (t := 300) dX6_next_285 rfl (
  s_J) <|
  s_iload_n dX6_next_288 rfl <|
  s_bipush dX6_next_289 rfl (by decide) <|
  s_icmp_eq (t := 300) dX6_next_291 rfl (
  s_J) <|
  s_iload_n dX6_next_294 rfl <|
  s_bipush dX6_next_295 rfl (by decide) <|
  s_icmp_ne (t := 321) dX6_next_297 rfl (
  s_return dX6_next_321 rfl) <|
  s_J) <|
  s_aload_n dX6_next_148 rfl <|
  s_iconst dX6_next_149 rfl <|
  s_putI xC6 (by decide) (fun _ _ _ => rfl) rfl rfl fl_X6_176 dX6_next_150 <|
  s_aload_n dX6_next_153 rfl <|
  s_lconst dX6_next_154 rfl (by decide) <|
  s_putL xC6 (by decide) (fun _ _ _ => rfl) rfl rfl fl_X6_187 dX6_next_155 <|
  s_iconst dX6_next_158 rfl <|
  s_istore_n dX6_next_159 rfl (by decide) <|
  s_J) <|
  s_aload_n dX6_next_95 rfl <|
  s_iconst dX6_next_96 rfl <|
  s_putI xC6 (by decide) (fun _ _ _ => rfl) rfl rfl fl_X6_176 dX6_next_97 <|
  s_J) <|
  s_aload_n dX6_next_65 rfl <|
  s_iconst dX6_next_66 rfl <|
  s_putI xC6 (by decide) (fun _ _ _ => rfl) rfl rfl fl_X6_176 dX6_next_67 <|
  s_aload_n dX6_next_70 rfl <|
  s_aload_n dX6_next_71 rfl <|
  s_getI xC6 (by decide) (fun _ _ _ => rfl) fl_X6_161 dX6_next_72 <|
  s_putI xC6 (by decide) (fun _ _ _ => rfl) rfl rfl fl_X6_173 dX6_next_75 <|
  s_goto (t := 321) dX6_next_78 rfl <|
  s_return dX6_next_321 rfl) <|
  s_aload_n dX6_next_26 rfl <|
  s_dup dX6_next_27 <|
  s_getI xC6 (by decide) (fun _ _ _ => rfl) fl_X6_167 dX6_next_28 <|
  s_iconst dX6_next_31 rfl <|
  s_iadd dX6_next_32 <|
  s_putI xC6 (by decide) (fun _ _ _ => rfl) rfl rfl fl_X6_167 dX6_next_33 <|
  s_goto (t := 0) dX6_next_36 rfl <|
  s_J
def k_X6_next_100 (d : Nat) (Q : xV → xMem → Prop) : xP :=
  x_aload 0 <|
  x_aload 0 <|
  x_getI 6 21 <|
  x_cV1 M_X6_byteAt d 6 <|
  x_i2l <|
  x_push (vl (97)) <|
  x_push (vl (122)) <|
  x_cS3 M_X6_in d <|
  x_c1 (fun x => x = 0) (
  x_vret Q) <|
  x_aload 0 <|
  x_dup <|
  x_getI 6 21 <|
  x_push (vi 1) <|
  x_bin oadd <|
  x_putI 6 21 <|
  (xJ M_X6_next (d + 1) 100 Q)
set_option maxRecDepth 100000 in
theorem b_X6_next_100 {d : Nat} {Q : xV → xMem → Prop} : Snd M_X6_next (d + 1) 100 Q (k_X6_next_100 d Q) :=
  s_aload_n dX6_next_100 rfl <|
  s_aload_n dX6_next_101 rfl <|
  s_getI xC6 (by decide) (fun _ _ _ => rfl) fl_X6_167 dX6_next_102 <|
  s_cV1 ce_X6_byteAt ml_X6_170 im_X6_byteAt se_X6_byteAt xC6 dX6_next_105 <|
  s_i2l dX6_next_108 <|
  s_ldc2 dX6_next_109 kl_X6_179 rfl (by decide) <|
  s_ldc2 dX6_next_112 kl_X6_181 rfl (by decide) <|
  s_cS3 ce_X6_in ml_X6_88 sm_X6_in dX6_next_115 <|
  s_if_eq (t := 321) dX6_next_118 rfl (
  s_return dX6_next_321 rfl) <|
  s_aload_n dX6_next_121 rfl <|
  s_dup dX6_next_122 <|
  s_getI xC6 (by decide) (fun _ _ _ => rfl) fl_X6_167 dX6_next_123 <|
  s_iconst dX6_next_126 rfl <|
  s_iadd dX6_next_127 <|
  s_putI xC6 (by decide) (fun _ _ _ => rfl) rfl rfl fl_X6_167 dX6_next_128 <|
  s_goto (t := 100) dX6_next_131 rfl <|
  s_J
def k_X6_next_160 (d : Nat) (Q : xV → xMem → Prop) : xP :=
  x_aload 0 <|
  x_aload 0 <|
  x_getI 6 21 <|
  x_cV1 M_X6_byteAt d 6 <|
  x_i2l <|
  x_push (vl (48)) <|
  x_push (vl (57)) <|
  x_cS3 M_X6_in d <|
  x_c1 (fun x => x = 0) (
  x_aload 0 <|
  x_iload 2 <|
  x_push (vi 4) <|
  x_c2 (fun x y => x ≤ y) (
  x_push (vi 2) <|
  x_putI 6 22 <|
  x_vret Q) <|
  x_push (vi 4) <|
  x_putI 6 22 <|
  x_vret Q) <|
  x_aload 0 <|
  x_iload 2 <|
  x_push (vi 4) <|
  x_c2 (fun x y => y ≤ x) (
  x_aload 0 <|
  x_getL 6 24 <|
  (xJ M_X6_next (d + 1) 216 Q)) <|
  x_push (vl (10)) <|
  x_aload 0 <|
  x_getL 6 24 <|
  x_lbin olmul <|
  x_aload 0 <|
  x_aload 0 <|
  x_getI 6 21 <|
  x_cV1 M_X6_byteAt d 6 <|
  x_i2l <|
  x_lbin oladd <|
  x_push (vl (48)) <|
  x_lbin olsub <|
  (xJ M_X6_next (d + 1) 216 Q)
set_option maxRecDepth 100000 in
theorem b_X6_next_160 {d : Nat} {Q : xV → xMem → Prop} : Snd M_X6_next (d + 1) 160 Q (k_X6_next_160 d Q) :=
  s_aload_n dX6_next_160 rfl <|
  s_aload_n dX6_next_161 rfl <|
  s_getI xC6 (by decide) (fun _ _ _ => rfl) fl_X6_167 dX6_next_162 <|
  s_cV1 ce_X6_byteAt ml_X6_170 im_X6_byteAt se_X6_byteAt xC6 dX6_next_165 <|
  s_i2l dX6_next_168 <|
  s_ldc2 dX6_next_169 kl_X6_183 rfl (by decide) <|
  s_ldc2 dX6_next_172 kl_X6_185 rfl (by decide) <|
  s_cS3 ce_X6_in ml_X6_88 sm_X6_in dX6_next_175 <|
  s_if_eq (t := 235) dX6_next_178 rfl (
  s_aload_n dX6_next_235 rfl <|
  s_iload_n dX6_next_236 rfl <|
  s_iconst dX6_next_237 rfl <|
  s_icmp_le (t := 245) dX6_next_238 rfl (
  s_iconst dX6_next_245 rfl <|
  s_putI xC6 (by decide) (fun _ _ _ => rfl) rfl rfl fl_X6_176 dX6_next_246 <|
  s_goto (t := 321) dX6_next_249 rfl <|
  s_return dX6_next_321 rfl) <|
  s_iconst dX6_next_241 rfl <|
  s_goto (t := 246) dX6_next_242 rfl <|
  s_putI xC6 (by decide) (fun _ _ _ => rfl) rfl rfl fl_X6_176 dX6_next_246 <|
  s_goto (t := 321) dX6_next_249 rfl <|
  s_return dX6_next_321 rfl) <|
  s_aload_n dX6_next_181 rfl <|
  s_iload_n dX6_next_182 rfl <|
  s_iconst dX6_next_183 rfl <|
  s_icmp_ge (t := 212) dX6_next_184 rfl (
  s_aload_n dX6_next_212 rfl <|
  s_getL xC6 (by decide) (fun _ _ _ => rfl) fl_X6_187 dX6_next_213 <|
  s_J) <|
  s_ldc2 dX6_next_187 kl_X6_136 rfl (by decide) <|
  s_aload_n dX6_next_190 rfl <|
  s_getL xC6 (by decide) (fun _ _ _ => rfl) fl_X6_187 dX6_next_191 <|
  s_lmul dX6_next_194 <|
  s_aload_n dX6_next_195 rfl <|
  s_aload_n dX6_next_196 rfl <|
  s_getI xC6 (by decide) (fun _ _ _ => rfl) fl_X6_167 dX6_next_197 <|
  s_cV1 ce_X6_byteAt ml_X6_170 im_X6_byteAt se_X6_byteAt xC6 dX6_next_200 <|
  s_i2l dX6_next_203 <|
  s_ladd dX6_next_204 <|
  s_ldc2 dX6_next_205 kl_X6_183 rfl (by decide) <|
  s_lsub dX6_next_208 <|
  s_goto (t := 216) dX6_next_209 rfl <|
  s_J
def k_X6_next_216 (d : Nat) (Q : xV → xMem → Prop) : xP :=
  x_putL 6 24 <|
  x_iinc 2 1 <|
  x_aload 0 <|
  x_dup <|
  x_getI 6 21 <|
  x_push (vi 1) <|
  x_bin oadd <|
  x_putI 6 21 <|
  (xJ M_X6_next (d + 1) 160 Q)
set_option maxRecDepth 100000 in
theorem b_X6_next_216 {d : Nat} {Q : xV → xMem → Prop} : Snd M_X6_next (d + 1) 216 Q (k_X6_next_216 d Q) :=
  s_putL xC6 (by decide) (fun _ _ _ => rfl) rfl rfl fl_X6_187 dX6_next_216 <|
  s_iinc dX6_next_219 (by decide) <|
  s_aload_n dX6_next_222 rfl <|
  s_dup dX6_next_223 <|
  s_getI xC6 (by decide) (fun _ _ _ => rfl) fl_X6_167 dX6_next_224 <|
  s_iconst dX6_next_227 rfl <|
  s_iadd dX6_next_228 <|
  s_putI xC6 (by decide) (fun _ _ _ => rfl) rfl rfl fl_X6_167 dX6_next_229 <|
  s_goto (t := 160) dX6_next_232 rfl <|
  s_J
def k_X6_next_300 (d : Nat) (Q : xV → xMem → Prop) : xP :=
  x_aload 0 <|
  x_push (vi 3) <|
  x_putI 6 22 <|
  x_aload 0 <|
  x_iload 1 <|
  x_i2l <|
  x_putL 6 24 <|
  x_aload 0 <|
  x_dup <|
  x_getI 6 21 <|
  x_push (vi 1) <|
  x_bin oadd <|
  x_putI 6 21 <|
  x_vret Q
set_option maxRecDepth 100000 in
theorem b_X6_next_300 {d : Nat} {Q : xV → xMem → Prop} : Snd M_X6_next (d + 1) 300 Q (k_X6_next_300 d Q) :=
  s_aload_n dX6_next_300 rfl <|
  s_iconst dX6_next_301 rfl <|
  s_putI xC6 (by decide) (fun _ _ _ => rfl) rfl rfl fl_X6_176 dX6_next_302 <|
  s_aload_n dX6_next_305 rfl <|
  s_iload_n dX6_next_306 rfl <|
  s_i2l dX6_next_307 <|
  s_putL xC6 (by decide) (fun _ _ _ => rfl) rfl rfl fl_X6_187 dX6_next_308 <|
  s_aload_n dX6_next_311 rfl <|
  s_dup dX6_next_312 <|
  s_getI xC6 (by decide) (fun _ _ _ => rfl) fl_X6_167 dX6_next_313 <|
  s_iconst dX6_next_316 rfl <|
  s_iadd dX6_next_317 <|
  s_putI xC6 (by decide) (fun _ _ _ => rfl) rfl rfl fl_X6_167 dX6_next_318 <|
  s_return dX6_next_321 rfl
-- X6_next: cuts [0, 100, 160, 216, 300]
def k_X6_fail_0 (d : Nat) (Q : xV → xMem → Prop) : xP :=
  x_aload 0 <|
  x_getI 6 26 <|
  x_c1 (fun x => ¬ x = 0) (
  x_vret Q) <|
  x_aload 0 <|
  x_push (vi 1) <|
  x_putZ 6 26 <|
  x_aload 0 <|
  x_aload 0 <|
  x_getI 6 23 <|
  x_putI 6 27 <|
  x_vret Q
set_option maxRecDepth 100000 in
theorem b_X6_fail_0 {d : Nat} {Q : xV → xMem → Prop} : Snd M_X6_fail (d + 1) 0 Q (k_X6_fail_0 d Q) :=
  s_aload_n dX6_fail_0 rfl <|
  s_getI xC6 (by decide) (fun _ _ _ => rfl) fl_X6_191 dX6_fail_1 <|
  s_if_ne (t := 20) dX6_fail_4 rfl (
  s_return dX6_fail_20 rfl) <|
  s_aload_n dX6_fail_7 rfl <|
  s_iconst dX6_fail_8 rfl <|
  s_putZ xC6 (by decide) (fun _ _ _ => rfl) rfl rfl fl_X6_191 dX6_fail_9 <|
  s_aload_n dX6_fail_12 rfl <|
  s_aload_n dX6_fail_13 rfl <|
  s_getI xC6 (by decide) (fun _ _ _ => rfl) fl_X6_173 dX6_fail_14 <|
  s_putI xC6 (by decide) (fun _ _ _ => rfl) rfl rfl fl_X6_195 dX6_fail_17 <|
  s_return dX6_fail_20 rfl
-- X6_fail: cuts [0]
def k_X6_isLetter_0 (d : Nat) (Q : xV → xMem → Prop) : xP :=
  x_aload 0 <|
  x_getI 6 23 <|
  x_iload 1 <|
  x_bin oadd <|
  x_aload 0 <|
  x_getI 6 21 <|
  x_c2 (fun x y => y ≤ x) (
  x_iload 2 <|
  x_c1 (fun x => ¬ x = 0) (
  x_push (vi 0) <|
  x_zret Q) <|
  x_push (vi 1) <|
  x_zret Q) <|
  x_aload 0 <|
  x_aload 0 <|
  x_getI 6 23 <|
  x_iload 1 <|
  x_bin oadd <|
  x_cV1 M_X6_byteAt d 6 <|
  x_iload 2 <|
  x_c2 (fun x y => ¬ x = y) (
  x_push (vi 0) <|
  x_zret Q) <|
  x_push (vi 1) <|
  x_zret Q
set_option maxRecDepth 100000 in
theorem b_X6_isLetter_0 {d : Nat} {Q : xV → xMem → Prop} : Snd M_X6_isLetter (d + 1) 0 Q (k_X6_isLetter_0 d Q) :=
  s_aload_n dX6_isLetter_0 rfl <|
  s_getI xC6 (by decide) (fun _ _ _ => rfl) fl_X6_173 dX6_isLetter_1 <|
  s_iload_n dX6_isLetter_4 rfl <|
  s_iadd dX6_isLetter_5 <|
  s_aload_n dX6_isLetter_6 rfl <|
  s_getI xC6 (by decide) (fun _ _ _ => rfl) fl_X6_167 dX6_isLetter_7 <|
  s_icmp_ge (t := 35) dX6_isLetter_10 rfl (
  s_iload_n dX6_isLetter_35 rfl <|
  s_if_ne (t := 43) dX6_isLetter_36 rfl (
  s_iconst dX6_isLetter_43 rfl <|
  s_zreturn dX6_isLetter_44 rfl) <|
  s_iconst dX6_isLetter_39 rfl <|
  s_goto (t := 44) dX6_isLetter_40 rfl <|
  s_zreturn dX6_isLetter_44 rfl) <|
  s_aload_n dX6_isLetter_13 rfl <|
  s_aload_n dX6_isLetter_14 rfl <|
  s_getI xC6 (by decide) (fun _ _ _ => rfl) fl_X6_173 dX6_isLetter_15 <|
  s_iload_n dX6_isLetter_18 rfl <|
  s_iadd dX6_isLetter_19 <|
  s_cV1 ce_X6_byteAt ml_X6_170 im_X6_byteAt se_X6_byteAt xC6 dX6_isLetter_20 <|
  s_iload_n dX6_isLetter_23 rfl <|
  s_icmp_ne (t := 31) dX6_isLetter_24 rfl (
  s_iconst dX6_isLetter_31 rfl <|
  s_goto (t := 44) dX6_isLetter_32 rfl <|
  s_zreturn dX6_isLetter_44 rfl) <|
  s_iconst dX6_isLetter_27 rfl <|
  s_goto (t := 44) dX6_isLetter_28 rfl <|
  s_zreturn dX6_isLetter_44 rfl
-- X6_isLetter: cuts [0]
def k_X6_isWord_0 (d : Nat) (Q : xV → xMem → Prop) : xP :=
  x_aload 0 <|
  x_getI 6 26 <|
  x_c1 (fun x => ¬ x = 0) (
  x_push (vi 0) <|
  x_zret Q) <|
  x_aload 0 <|
  x_getI 6 22 <|
  x_push (vi 1) <|
  x_c2 (fun x y => ¬ x = y) (
  x_push (vi 0) <|
  x_zret Q) <|
  x_aload 0 <|
  x_getI 6 21 <|
  x_aload 0 <|
  x_getI 6 23 <|
  x_push (vi 8) <|
  x_bin oadd <|
  x_c2 (fun x y => y < x) (
  x_push (vi 0) <|
  x_zret Q) <|
  x_aload 0 <|
  x_push (vi 0) <|
  x_iload 1 <|
  x_cV2 M_X6_isLetter d 6 <|
  x_c1 (fun x => x = 0) (
  x_push (vi 0) <|
  x_zret Q) <|
  x_aload 0 <|
  x_push (vi 1) <|
  x_iload 2 <|
  x_cV2 M_X6_isLetter d 6 <|
  x_c1 (fun x => x = 0) (
  x_push (vi 0) <|
  x_zret Q) <|
  x_aload 0 <|
  x_push (vi 2) <|
  x_iload 3 <|
  x_cV2 M_X6_isLetter d 6 <|
  x_c1 (fun x => x = 0) (
  x_push (vi 0) <|
  x_zret Q) <|
  x_aload 0 <|
  x_push (vi 3) <|
  x_iload 4 <|
  x_cV2 M_X6_isLetter d 6 <|
  x_c1 (fun x => x = 0) (
  x_push (vi 0) <|
  x_zret Q) <|
  x_aload 0 <|
  x_push (vi 4) <|
  x_iload 5 <|
  x_cV2 M_X6_isLetter d 6 <|
  x_c1 (fun x => x = 0) (
  x_push (vi 0) <|
  x_zret Q) <|
  x_aload 0 <|
  x_push (vi 5) <|
  x_iload 6 <|
  x_cV2 M_X6_isLetter d 6 <|
  x_c1 (fun x => x = 0) (
  x_push (vi 0) <|
  x_zret Q) <|
  x_aload 0 <|
  x_push (vi 6) <|
  x_iload 7 <|
  x_cV2 M_X6_isLetter d 6 <|
  x_c1 (fun x => x = 0) (
  x_push (vi 0) <|
  x_zret Q) <|
  x_aload 0 <|
  x_push (vi 7) <|
  x_iload 8 <|
  x_cV2 M_X6_isLetter d 6 <|
  x_c1 (fun x => x = 0) (
  x_push (vi 0) <|
  x_zret Q) <|
  x_push (vi 1) <|
  x_zret Q
set_option maxRecDepth 100000 in
theorem b_X6_isWord_0 {d : Nat} {Q : xV → xMem → Prop} : Snd M_X6_isWord (d + 1) 0 Q (k_X6_isWord_0 d Q) :=
  s_aload_n dX6_isWord_0 rfl <|
  s_getI xC6 (by decide) (fun _ _ _ => rfl) fl_X6_191 dX6_isWord_1 <|
  s_if_ne (t := 112) dX6_isWord_4 rfl (
  s_iconst dX6_isWord_112 rfl <|
  s_zreturn dX6_isWord_113 rfl) <|
  s_aload_n dX6_isWord_7 rfl <|
  s_getI xC6 (by decide) (fun _ _ _ => rfl) fl_X6_176 dX6_isWord_8 <|
  s_iconst dX6_isWord_11 rfl <|
  s_icmp_ne (t := 112) dX6_isWord_12 rfl (
  s_iconst dX6_isWord_112 rfl <|
  s_zreturn dX6_isWord_113 rfl) <|
  s_aload_n dX6_isWord_15 rfl <|
  s_getI xC6 (by decide) (fun _ _ _ => rfl) fl_X6_167 dX6_isWord_16 <|
  s_aload_n dX6_isWord_19 rfl <|
  s_getI xC6 (by decide) (fun _ _ _ => rfl) fl_X6_173 dX6_isWord_20 <|
  s_bipush dX6_isWord_23 rfl (by decide) <|
  s_iadd dX6_isWord_25 <|
  s_icmp_gt (t := 112) dX6_isWord_26 rfl (
  s_iconst dX6_isWord_112 rfl <|
  s_zreturn dX6_isWord_113 rfl) <|
  s_aload_n dX6_isWord_29 rfl <|
  s_iconst dX6_isWord_30 rfl <|
  s_iload_n dX6_isWord_31 rfl <|
  s_cV2 ce_X6_isLetter ml_X6_198 im_X6_isLetter se_X6_isLetter xC6 dX6_isWord_32 <|
  s_if_eq (t := 112) dX6_isWord_35 rfl (
  s_iconst dX6_isWord_112 rfl <|
  s_zreturn dX6_isWord_113 rfl) <|
  s_aload_n dX6_isWord_38 rfl <|
  s_iconst dX6_isWord_39 rfl <|
  s_iload_n dX6_isWord_40 rfl <|
  s_cV2 ce_X6_isLetter ml_X6_198 im_X6_isLetter se_X6_isLetter xC6 dX6_isWord_41 <|
  s_if_eq (t := 112) dX6_isWord_44 rfl (
  s_iconst dX6_isWord_112 rfl <|
  s_zreturn dX6_isWord_113 rfl) <|
  s_aload_n dX6_isWord_47 rfl <|
  s_iconst dX6_isWord_48 rfl <|
  s_iload_n dX6_isWord_49 rfl <|
  s_cV2 ce_X6_isLetter ml_X6_198 im_X6_isLetter se_X6_isLetter xC6 dX6_isWord_50 <|
  s_if_eq (t := 112) dX6_isWord_53 rfl (
  s_iconst dX6_isWord_112 rfl <|
  s_zreturn dX6_isWord_113 rfl) <|
  s_aload_n dX6_isWord_56 rfl <|
  s_iconst dX6_isWord_57 rfl <|
  s_iload dX6_isWord_58 <|
  s_cV2 ce_X6_isLetter ml_X6_198 im_X6_isLetter se_X6_isLetter xC6 dX6_isWord_60 <|
  s_if_eq (t := 112) dX6_isWord_63 rfl (
  s_iconst dX6_isWord_112 rfl <|
  s_zreturn dX6_isWord_113 rfl) <|
  s_aload_n dX6_isWord_66 rfl <|
  s_iconst dX6_isWord_67 rfl <|
  s_iload dX6_isWord_68 <|
  s_cV2 ce_X6_isLetter ml_X6_198 im_X6_isLetter se_X6_isLetter xC6 dX6_isWord_70 <|
  s_if_eq (t := 112) dX6_isWord_73 rfl (
  s_iconst dX6_isWord_112 rfl <|
  s_zreturn dX6_isWord_113 rfl) <|
  s_aload_n dX6_isWord_76 rfl <|
  s_iconst dX6_isWord_77 rfl <|
  s_iload dX6_isWord_78 <|
  s_cV2 ce_X6_isLetter ml_X6_198 im_X6_isLetter se_X6_isLetter xC6 dX6_isWord_80 <|
  s_if_eq (t := 112) dX6_isWord_83 rfl (
  s_iconst dX6_isWord_112 rfl <|
  s_zreturn dX6_isWord_113 rfl) <|
  s_aload_n dX6_isWord_86 rfl <|
  s_bipush dX6_isWord_87 rfl (by decide) <|
  s_iload dX6_isWord_89 <|
  s_cV2 ce_X6_isLetter ml_X6_198 im_X6_isLetter se_X6_isLetter xC6 dX6_isWord_91 <|
  s_if_eq (t := 112) dX6_isWord_94 rfl (
  s_iconst dX6_isWord_112 rfl <|
  s_zreturn dX6_isWord_113 rfl) <|
  s_aload_n dX6_isWord_97 rfl <|
  s_bipush dX6_isWord_98 rfl (by decide) <|
  s_iload dX6_isWord_100 <|
  s_cV2 ce_X6_isLetter ml_X6_198 im_X6_isLetter se_X6_isLetter xC6 dX6_isWord_102 <|
  s_if_eq (t := 112) dX6_isWord_105 rfl (
  s_iconst dX6_isWord_112 rfl <|
  s_zreturn dX6_isWord_113 rfl) <|
  s_iconst dX6_isWord_108 rfl <|
  s_goto (t := 113) dX6_isWord_109 rfl <|
  s_zreturn dX6_isWord_113 rfl
-- X6_isWord: cuts [0]
def k_X6_isSign_0 (d : Nat) (Q : xV → xMem → Prop) : xP :=
  x_aload 0 <|
  x_getI 6 26 <|
  x_c1 (fun x => ¬ x = 0) (
  x_push (vi 0) <|
  x_zret Q) <|
  x_aload 0 <|
  x_getI 6 22 <|
  x_push (vi 3) <|
  x_c2 (fun x y => ¬ x = y) (
  x_push (vi 0) <|
  x_zret Q) <|
  x_aload 0 <|
  x_getL 6 24 <|
  x_iload 1 <|
  x_i2l <|
  x_lcmp <|
  x_c1 (fun x => ¬ x = 0) (
  x_push (vi 0) <|
  x_zret Q) <|
  x_push (vi 1) <|
  x_zret Q
set_option maxRecDepth 100000 in
theorem b_X6_isSign_0 {d : Nat} {Q : xV → xMem → Prop} : Snd M_X6_isSign (d + 1) 0 Q (k_X6_isSign_0 d Q) :=
  s_aload_n dX6_isSign_0 rfl <|
  s_getI xC6 (by decide) (fun _ _ _ => rfl) fl_X6_191 dX6_isSign_1 <|
  s_if_ne (t := 29) dX6_isSign_4 rfl (
  s_iconst dX6_isSign_29 rfl <|
  s_zreturn dX6_isSign_30 rfl) <|
  s_aload_n dX6_isSign_7 rfl <|
  s_getI xC6 (by decide) (fun _ _ _ => rfl) fl_X6_176 dX6_isSign_8 <|
  s_iconst dX6_isSign_11 rfl <|
  s_icmp_ne (t := 29) dX6_isSign_12 rfl (
  s_iconst dX6_isSign_29 rfl <|
  s_zreturn dX6_isSign_30 rfl) <|
  s_aload_n dX6_isSign_15 rfl <|
  s_getL xC6 (by decide) (fun _ _ _ => rfl) fl_X6_187 dX6_isSign_16 <|
  s_iload_n dX6_isSign_19 rfl <|
  s_i2l dX6_isSign_20 <|
  s_lcmp dX6_isSign_21 <|
  s_if_ne (t := 29) dX6_isSign_22 rfl (
  s_iconst dX6_isSign_29 rfl <|
  s_zreturn dX6_isSign_30 rfl) <|
  s_iconst dX6_isSign_25 rfl <|
  s_goto (t := 30) dX6_isSign_26 rfl <|
  s_zreturn dX6_isSign_30 rfl
-- X6_isSign: cuts [0]
def k_X6_opens_0 (d : Nat) (Q : xV → xMem → Prop) : xP :=
  x_aload 0 <|
  x_getI 6 25 <|
  x_push (vi 5) <|
  x_c2 (fun x y => ¬ x = y) (
  x_aload 0 <|
  x_dup <|
  x_getI 6 25 <|
  x_push (vi 1) <|
  x_bin oadd <|
  x_putI 6 25 <|
  x_aload 0 <|
  x_cV0 M_X6_next d 6 <|
  x_push (vi 1) <|
  x_zret Q) <|
  x_aload 0 <|
  x_cV0 M_X6_fail d 6 <|
  x_push (vi 0) <|
  x_zret Q
set_option maxRecDepth 100000 in
theorem b_X6_opens_0 {d : Nat} {Q : xV → xMem → Prop} : Snd M_X6_opens (d + 1) 0 Q (k_X6_opens_0 d Q) :=
  s_aload_n dX6_opens_0 rfl <|
  s_getI xC6 (by decide) (fun _ _ _ => rfl) fl_X6_201 dX6_opens_1 <|
  s_iconst dX6_opens_4 rfl <|
  s_icmp_ne (t := 14) dX6_opens_5 rfl (
  s_aload_n dX6_opens_14 rfl <|
  s_dup dX6_opens_15 <|
  s_getI xC6 (by decide) (fun _ _ _ => rfl) fl_X6_201 dX6_opens_16 <|
  s_iconst dX6_opens_19 rfl <|
  s_iadd dX6_opens_20 <|
  s_putI xC6 (by decide) (fun _ _ _ => rfl) rfl rfl fl_X6_201 dX6_opens_21 <|
  s_aload_n dX6_opens_24 rfl <|
  s_cV0 ce_X6_next ml_X6_207 im_X6_next se_X6_next xC6 dX6_opens_25 <|
  s_iconst dX6_opens_28 rfl <|
  s_zreturn dX6_opens_29 rfl) <|
  s_aload_n dX6_opens_8 rfl <|
  s_cV0 ce_X6_fail ml_X6_204 im_X6_fail se_X6_fail xC6 dX6_opens_9 <|
  s_iconst dX6_opens_12 rfl <|
  s_zreturn dX6_opens_13 rfl
-- X6_opens: cuts [0]
def k_X6_name_0 (d : Nat) (Q : xV → xMem → Prop) : xP :=
  x_aload 0 <|
  x_push (vi 104) <|
  x_push (vi 111) <|
  x_push (vi 117) <|
  x_push (vi 114) <|
  x_push (vi 0) <|
  x_push (vi 0) <|
  x_push (vi 0) <|
  x_push (vi 0) <|
  x_cV8 M_X6_isWord d 6 <|
  x_c1 (fun x => x = 0) (
  x_aload 0 <|
  x_push (vi 110) <|
  x_push (vi 117) <|
  x_push (vi 109) <|
  x_push (vi 98) <|
  x_push (vi 101) <|
  x_push (vi 114) <|
  x_push (vi 0) <|
  x_push (vi 0) <|
  x_cV8 M_X6_isWord d 6 <|
  x_c1 (fun x => x = 0) (
  x_aload 0 <|
  x_push (vi 109) <|
  x_push (vi 101) <|
  x_push (vi 97) <|
  x_push (vi 110) <|
  x_push (vi 115) <|
  x_push (vi 0) <|
  x_push (vi 0) <|
  x_push (vi 0) <|
  x_cV8 M_X6_isWord d 6 <|
  x_c1 (fun x => x = 0) (
  x_aload 0 <|
  x_push (vi 119) <|
  x_push (vi 105) <|
  x_push (vi 115) <|
  x_push (vi 104) <|
  x_push (vi 101) <|
  x_push (vi 100) <|
  x_push (vi 0) <|
  x_push (vi 0) <|
  x_cV8 M_X6_isWord d 6 <|
  x_c1 (fun x => x = 0) (
  x_aload 0 <|
  x_push (vi 97) <|
  x_push (vi 115) <|
  x_push (vi 107) <|
  x_push (vi 101) <|
  x_push (vi 100) <|
  x_push (vi 0) <|
  x_push (vi 0) <|
  x_push (vi 0) <|
  x_cV8 M_X6_isWord d 6 <|
  x_c1 (fun x => x = 0) (
  x_aload 0 <|
  x_push (vi 99) <|
  x_push (vi 108) <|
  x_push (vi 105) <|
  x_push (vi 101) <|
  x_push (vi 110) <|
  x_push (vi 116) <|
  x_push (vi 115) <|
  x_push (vi 0) <|
  x_cV8 M_X6_isWord d 6 <|
  x_c1 (fun x => x = 0) (
  x_aload 0 <|
  x_cV0 M_X6_fail d 6 <|
  x_push (vi 0) <|
  x_ret Q) <|
  x_aload 0 <|
  x_getI 6 18 <|
  x_ret Q) <|
  x_aload 0 <|
  x_getI 6 17 <|
  x_ret Q) <|
  x_aload 0 <|
  x_getI 6 16 <|
  x_ret Q) <|
  x_aload 0 <|
  x_getI 6 15 <|
  x_ret Q) <|
  x_aload 0 <|
  x_getI 6 14 <|
  x_ret Q) <|
  x_aload 0 <|
  x_getI 6 13 <|
  x_ret Q
set_option maxRecDepth 100000 in
theorem b_X6_name_0 {d : Nat} {Q : xV → xMem → Prop} : Snd M_X6_name (d + 1) 0 Q (k_X6_name_0 d Q) :=
  s_aload_n dX6_name_0 rfl <|
  s_bipush dX6_name_1 rfl (by decide) <|
  s_bipush dX6_name_3 rfl (by decide) <|
  s_bipush dX6_name_5 rfl (by decide) <|
  s_bipush dX6_name_7 rfl (by decide) <|
  s_iconst dX6_name_9 rfl <|
  s_iconst dX6_name_10 rfl <|
  s_iconst dX6_name_11 rfl <|
  s_iconst dX6_name_12 rfl <|
  s_cV8 ce_X6_isWord ml_X6_210 im_X6_isWord se_X6_isWord xC6 dX6_name_13 <|
  s_if_eq (t := 24) dX6_name_16 rfl (
  s_aload_n dX6_name_24 rfl <|
  s_bipush dX6_name_25 rfl (by decide) <|
  s_bipush dX6_name_27 rfl (by decide) <|
  s_bipush dX6_name_29 rfl (by decide) <|
  s_bipush dX6_name_31 rfl (by decide) <|
  s_bipush dX6_name_33 rfl (by decide) <|
  s_bipush dX6_name_35 rfl (by decide) <|
  s_iconst dX6_name_37 rfl <|
  s_iconst dX6_name_38 rfl <|
  s_cV8 ce_X6_isWord ml_X6_210 im_X6_isWord se_X6_isWord xC6 dX6_name_39 <|
  s_if_eq (t := 50) dX6_name_42 rfl (
  s_aload_n dX6_name_50 rfl <|
  s_bipush dX6_name_51 rfl (by decide) <|
  s_bipush dX6_name_53 rfl (by decide) <|
  s_bipush dX6_name_55 rfl (by decide) <|
  s_bipush dX6_name_57 rfl (by decide) <|
  s_bipush dX6_name_59 rfl (by decide) <|
  s_iconst dX6_name_61 rfl <|
  s_iconst dX6_name_62 rfl <|
  s_iconst dX6_name_63 rfl <|
  s_cV8 ce_X6_isWord ml_X6_210 im_X6_isWord se_X6_isWord xC6 dX6_name_64 <|
  s_if_eq (t := 75) dX6_name_67 rfl (
  s_aload_n dX6_name_75 rfl <|
  s_bipush dX6_name_76 rfl (by decide) <|
  s_bipush dX6_name_78 rfl (by decide) <|
  s_bipush dX6_name_80 rfl (by decide) <|
  s_bipush dX6_name_82 rfl (by decide) <|
  s_bipush dX6_name_84 rfl (by decide) <|
  s_bipush dX6_name_86 rfl (by decide) <|
  s_iconst dX6_name_88 rfl <|
  s_iconst dX6_name_89 rfl <|
  s_cV8 ce_X6_isWord ml_X6_210 im_X6_isWord se_X6_isWord xC6 dX6_name_90 <|
  s_if_eq (t := 101) dX6_name_93 rfl (
  s_aload_n dX6_name_101 rfl <|
  s_bipush dX6_name_102 rfl (by decide) <|
  s_bipush dX6_name_104 rfl (by decide) <|
  s_bipush dX6_name_106 rfl (by decide) <|
  s_bipush dX6_name_108 rfl (by decide) <|
  s_bipush dX6_name_110 rfl (by decide) <|
  s_iconst dX6_name_112 rfl <|
  s_iconst dX6_name_113 rfl <|
  s_iconst dX6_name_114 rfl <|
  s_cV8 ce_X6_isWord ml_X6_210 im_X6_isWord se_X6_isWord xC6 dX6_name_115 <|
  s_if_eq (t := 126) dX6_name_118 rfl (
  s_aload_n dX6_name_126 rfl <|
  s_bipush dX6_name_127 rfl (by decide) <|
  s_bipush dX6_name_129 rfl (by decide) <|
  s_bipush dX6_name_131 rfl (by decide) <|
  s_bipush dX6_name_133 rfl (by decide) <|
  s_bipush dX6_name_135 rfl (by decide) <|
  s_bipush dX6_name_137 rfl (by decide) <|
  s_bipush dX6_name_139 rfl (by decide) <|
  s_iconst dX6_name_141 rfl <|
  s_cV8 ce_X6_isWord ml_X6_210 im_X6_isWord se_X6_isWord xC6 dX6_name_142 <|
  s_if_eq (t := 153) dX6_name_145 rfl (
  s_aload_n dX6_name_153 rfl <|
  s_cV0 ce_X6_fail ml_X6_204 im_X6_fail se_X6_fail xC6 dX6_name_154 <|
  s_iconst dX6_name_157 rfl <|
  s_ireturn dX6_name_158 rfl) <|
  s_aload_n dX6_name_148 rfl <|
  s_getI xC6 (by decide) (fun _ _ _ => rfl) fl_X6_229 dX6_name_149 <|
  s_ireturn dX6_name_152 rfl) <|
  s_aload_n dX6_name_121 rfl <|
  s_getI xC6 (by decide) (fun _ _ _ => rfl) fl_X6_226 dX6_name_122 <|
  s_ireturn dX6_name_125 rfl) <|
  s_aload_n dX6_name_96 rfl <|
  s_getI xC6 (by decide) (fun _ _ _ => rfl) fl_X6_223 dX6_name_97 <|
  s_ireturn dX6_name_100 rfl) <|
  s_aload_n dX6_name_70 rfl <|
  s_getI xC6 (by decide) (fun _ _ _ => rfl) fl_X6_220 dX6_name_71 <|
  s_ireturn dX6_name_74 rfl) <|
  s_aload_n dX6_name_45 rfl <|
  s_getI xC6 (by decide) (fun _ _ _ => rfl) fl_X6_217 dX6_name_46 <|
  s_ireturn dX6_name_49 rfl) <|
  s_aload_n dX6_name_19 rfl <|
  s_getI xC6 (by decide) (fun _ _ _ => rfl) fl_X6_214 dX6_name_20 <|
  s_ireturn dX6_name_23 rfl
-- X6_name: cuts [0]
def k_X6_atom_0 (d : Nat) (Q : xV → xMem → Prop) : xP :=
  x_push (vi 0) <|
  x_istore 1 <|
  x_aload 0 <|
  x_push (vi 45) <|
  x_cV1 M_X6_isSign d 6 <|
  x_c1 (fun x => x = 0) (
  x_aload 0 <|
  x_push (vi 40) <|
  x_cV1 M_X6_isSign d 6 <|
  x_c1 (fun x => x = 0) (
  x_aload 0 <|
  x_getI 6 26 <|
  x_c1 (fun x => ¬ x = 0) (
  (xJ M_X6_atom (d + 1) 123 Q)) <|
  x_aload 0 <|
  x_getI 6 22 <|
  x_push (vi 2) <|
  x_c2 (fun x y => ¬ x = y) (
  (xJ M_X6_atom (d + 1) 123 Q)) <|
  x_aload 0 <|
  x_getL 6 24 <|
  x_l2i <|
  x_istore 1 <|
  x_aload 0 <|
  x_cV0 M_X6_next d 6 <|
  x_iload 1 <|
  x_ret Q) <|
  x_aload 0 <|
  x_cV0 M_X6_opens d 6 <|
  x_c1 (fun x => x = 0) (
  x_iload 1 <|
  x_ret Q) <|
  x_aload 0 <|
  x_cV0 M_X6_either d 6 <|
  x_istore 1 <|
  x_aload 0 <|
  x_push (vi 41) <|
  x_cV1 M_X6_isSign d 6 <|
  x_c1 (fun x => ¬ x = 0) (
  (xJ M_X6_atom (d + 1) 71 Q)) <|
  x_aload 0 <|
  x_cV0 M_X6_fail d 6 <|
  (xJ M_X6_atom (d + 1) 71 Q)) <|
  x_aload 0 <|
  x_cV0 M_X6_opens d 6 <|
  x_c1 (fun x => x = 0) (
  x_iload 1 <|
  x_ret Q) <|
  x_aload 0 <|
  x_cV0 M_X6_atom d 6 <|
  x_un oneg <|
  x_istore 1 <|
  x_aload 0 <|
  x_dup <|
  x_getI 6 25 <|
  x_push (vi 1) <|
  x_bin osub <|
  x_putI 6 25 <|
  x_iload 1 <|
  x_ret Q
set_option maxRecDepth 100000 in
theorem b_X6_atom_0 {d : Nat} {Q : xV → xMem → Prop} : Snd M_X6_atom (d + 1) 0 Q (k_X6_atom_0 d Q) :=
  s_iconst dX6_atom_0 rfl <|
  s_istore_n dX6_atom_1 rfl (by decide) <|
  s_aload_n dX6_atom_2 rfl <|
  s_bipush dX6_atom_3 rfl (by decide) <|
  s_cV1 ce_X6_isSign ml_X6_232 im_X6_isSign se_X6_isSign xC6 dX6_atom_5 <|
  s_if_eq (t := 37) dX6_atom_8 rfl (
  s_aload_n dX6_atom_37 rfl <|
  s_bipush dX6_atom_38 rfl (by decide) <|
  s_cV1 ce_X6_isSign ml_X6_232 im_X6_isSign se_X6_isSign xC6 dX6_atom_40 <|
  s_if_eq (t := 95) dX6_atom_43 rfl (
  s_aload_n dX6_atom_95 rfl <|
  s_getI xC6 (by decide) (fun _ _ _ => rfl) fl_X6_191 dX6_atom_96 <|
  s_if_ne (t := 123) dX6_atom_99 rfl (
  s_J) <|
  s_aload_n dX6_atom_102 rfl <|
  s_getI xC6 (by decide) (fun _ _ _ => rfl) fl_X6_176 dX6_atom_103 <|
  s_iconst dX6_atom_106 rfl <|
  s_icmp_ne (t := 123) dX6_atom_107 rfl (
  s_J) <|
  s_aload_n dX6_atom_110 rfl <|
  s_getL xC6 (by decide) (fun _ _ _ => rfl) fl_X6_187 dX6_atom_111 <|
  s_l2i dX6_atom_114 <|
  s_istore_n dX6_atom_115 rfl (by decide) <|
  s_aload_n dX6_atom_116 rfl <|
  s_cV0 ce_X6_next ml_X6_207 im_X6_next se_X6_next xC6 dX6_atom_117 <|
  s_goto (t := 161) dX6_atom_120 rfl <|
  s_iload_n dX6_atom_161 rfl <|
  s_ireturn dX6_atom_162 rfl) <|
  s_aload_n dX6_atom_46 rfl <|
  s_cV0 ce_X6_opens ml_X6_235 im_X6_opens se_X6_opens xC6 dX6_atom_47 <|
  s_if_eq (t := 161) dX6_atom_50 rfl (
  s_iload_n dX6_atom_161 rfl <|
  s_ireturn dX6_atom_162 rfl) <|
  s_aload_n dX6_atom_53 rfl <|
  s_cV0 ce_X6_either ml_X6_243 im_X6_either se_X6_either xC6 dX6_atom_54 <|
  s_istore_n dX6_atom_57 rfl (by decide) <|
  s_aload_n dX6_atom_58 rfl <|
  s_bipush dX6_atom_59 rfl (by decide) <|
  s_cV1 ce_X6_isSign ml_X6_232 im_X6_isSign se_X6_isSign xC6 dX6_atom_61 <|
  s_if_ne (t := 71) dX6_atom_64 rfl (
  s_J) <|
  s_aload_n dX6_atom_67 rfl <|
  s_cV0 ce_X6_fail ml_X6_204 im_X6_fail se_X6_fail xC6 dX6_atom_68 <|
  s_J) <|
  s_aload_n dX6_atom_11 rfl <|
  s_cV0 ce_X6_opens ml_X6_235 im_X6_opens se_X6_opens xC6 dX6_atom_12 <|
  s_if_eq (t := 161) dX6_atom_15 rfl (
  s_iload_n dX6_atom_161 rfl <|
  s_ireturn dX6_atom_162 rfl) <|
  s_aload_n dX6_atom_18 rfl <|
  s_cV0 ce_X6_atom ml_X6_239 im_X6_atom se_X6_atom xC6 dX6_atom_19 <|
  s_ineg dX6_atom_22 <|
  s_istore_n dX6_atom_23 rfl (by decide) <|
  s_aload_n dX6_atom_24 rfl <|
  s_dup dX6_atom_25 <|
  s_getI xC6 (by decide) (fun _ _ _ => rfl) fl_X6_201 dX6_atom_26 <|
  s_iconst dX6_atom_29 rfl <|
  s_isub dX6_atom_30 <|
  s_putI xC6 (by decide) (fun _ _ _ => rfl) rfl rfl fl_X6_201 dX6_atom_31 <|
  s_goto (t := 161) dX6_atom_34 rfl <|
  s_iload_n dX6_atom_161 rfl <|
  s_ireturn dX6_atom_162 rfl
def k_X6_atom_71 (d : Nat) (Q : xV → xMem → Prop) : xP :=
  x_aload 0 <|
  x_dup <|
  x_getI 6 25 <|
  x_push (vi 1) <|
  x_bin osub <|
  x_putI 6 25 <|
  x_aload 0 <|
  x_getI 6 26 <|
  x_c1 (fun x => ¬ x = 0) (
  x_iload 1 <|
  x_ret Q) <|
  x_aload 0 <|
  x_cV0 M_X6_next d 6 <|
  x_iload 1 <|
  x_ret Q
set_option maxRecDepth 100000 in
theorem b_X6_atom_71 {d : Nat} {Q : xV → xMem → Prop} : Snd M_X6_atom (d + 1) 71 Q (k_X6_atom_71 d Q) :=
  s_aload_n dX6_atom_71 rfl <|
  s_dup dX6_atom_72 <|
  s_getI xC6 (by decide) (fun _ _ _ => rfl) fl_X6_201 dX6_atom_73 <|
  s_iconst dX6_atom_76 rfl <|
  s_isub dX6_atom_77 <|
  s_putI xC6 (by decide) (fun _ _ _ => rfl) rfl rfl fl_X6_201 dX6_atom_78 <|
  s_aload_n dX6_atom_81 rfl <|
  s_getI xC6 (by decide) (fun _ _ _ => rfl) fl_X6_191 dX6_atom_82 <|
  s_if_ne (t := 161) dX6_atom_85 rfl (
  s_iload_n dX6_atom_161 rfl <|
  s_ireturn dX6_atom_162 rfl) <|
  s_aload_n dX6_atom_88 rfl <|
  s_cV0 ce_X6_next ml_X6_207 im_X6_next se_X6_next xC6 dX6_atom_89 <|
  s_goto (t := 161) dX6_atom_92 rfl <|
  s_iload_n dX6_atom_161 rfl <|
  s_ireturn dX6_atom_162 rfl
def k_X6_atom_123 (d : Nat) (Q : xV → xMem → Prop) : xP :=
  x_aload 0 <|
  x_getI 6 26 <|
  x_c1 (fun x => ¬ x = 0) (
  x_aload 0 <|
  x_cV0 M_X6_fail d 6 <|
  x_iload 1 <|
  x_ret Q) <|
  x_aload 0 <|
  x_getI 6 22 <|
  x_push (vi 1) <|
  x_c2 (fun x y => ¬ x = y) (
  x_aload 0 <|
  x_cV0 M_X6_fail d 6 <|
  x_iload 1 <|
  x_ret Q) <|
  x_aload 0 <|
  x_cV0 M_X6_name d 6 <|
  x_istore 1 <|
  x_aload 0 <|
  x_getI 6 26 <|
  x_c1 (fun x => ¬ x = 0) (
  x_iload 1 <|
  x_ret Q) <|
  x_aload 0 <|
  x_cV0 M_X6_next d 6 <|
  x_iload 1 <|
  x_ret Q
set_option maxRecDepth 100000 in
theorem b_X6_atom_123 {d : Nat} {Q : xV → xMem → Prop} : Snd M_X6_atom (d + 1) 123 Q (k_X6_atom_123 d Q) :=
  s_aload_n dX6_atom_123 rfl <|
  s_getI xC6 (by decide) (fun _ _ _ => rfl) fl_X6_191 dX6_atom_124 <|
  s_if_ne (t := 157) dX6_atom_127 rfl (
  s_aload_n dX6_atom_157 rfl <|
  s_cV0 ce_X6_fail ml_X6_204 im_X6_fail se_X6_fail xC6 dX6_atom_158 <|
  s_iload_n dX6_atom_161 rfl <|
  s_ireturn dX6_atom_162 rfl) <|
  s_aload_n dX6_atom_130 rfl <|
  s_getI xC6 (by decide) (fun _ _ _ => rfl) fl_X6_176 dX6_atom_131 <|
  s_iconst dX6_atom_134 rfl <|
  s_icmp_ne (t := 157) dX6_atom_135 rfl (
  s_aload_n dX6_atom_157 rfl <|
  s_cV0 ce_X6_fail ml_X6_204 im_X6_fail se_X6_fail xC6 dX6_atom_158 <|
  s_iload_n dX6_atom_161 rfl <|
  s_ireturn dX6_atom_162 rfl) <|
  s_aload_n dX6_atom_138 rfl <|
  s_cV0 ce_X6_name ml_X6_246 im_X6_name se_X6_name xC6 dX6_atom_139 <|
  s_istore_n dX6_atom_142 rfl (by decide) <|
  s_aload_n dX6_atom_143 rfl <|
  s_getI xC6 (by decide) (fun _ _ _ => rfl) fl_X6_191 dX6_atom_144 <|
  s_if_ne (t := 161) dX6_atom_147 rfl (
  s_iload_n dX6_atom_161 rfl <|
  s_ireturn dX6_atom_162 rfl) <|
  s_aload_n dX6_atom_150 rfl <|
  s_cV0 ce_X6_next ml_X6_207 im_X6_next se_X6_next xC6 dX6_atom_151 <|
  s_goto (t := 161) dX6_atom_154 rfl <|
  s_iload_n dX6_atom_161 rfl <|
  s_ireturn dX6_atom_162 rfl
-- X6_atom: cuts [0, 71, 123]
def k_X6_term_0 (d : Nat) (Q : xV → xMem → Prop) : xP :=
  x_aload 0 <|
  x_cV0 M_X6_atom d 6 <|
  x_istore 1 <|
  (xJ M_X6_term (d + 1) 5 Q)
set_option maxRecDepth 100000 in
theorem b_X6_term_0 {d : Nat} {Q : xV → xMem → Prop} : Snd M_X6_term (d + 1) 0 Q (k_X6_term_0 d Q) :=
  s_aload_n dX6_term_0 rfl <|
  s_cV0 ce_X6_atom ml_X6_239 im_X6_atom se_X6_atom xC6 dX6_term_1 <|
  s_istore_n dX6_term_4 rfl (by decide) <|
  s_J
def k_X6_term_5 (d : Nat) (Q : xV → xMem → Prop) : xP :=
  x_aload 0 <|
  x_push (vi 42) <|
  x_cV1 M_X6_isSign d 6 <|
  x_c1 (fun x => x = 0) (
  x_iload 1 <|
  x_ret Q) <|
  x_aload 0 <|
  x_cV0 M_X6_next d 6 <|
  x_iload 1 <|
  x_aload 0 <|
  x_cV0 M_X6_atom d 6 <|
  x_bin omul <|
  x_istore 1 <|
  (xJ M_X6_term (d + 1) 5 Q)
set_option maxRecDepth 100000 in
theorem b_X6_term_5 {d : Nat} {Q : xV → xMem → Prop} : Snd M_X6_term (d + 1) 5 Q (k_X6_term_5 d Q) :=
  s_aload_n dX6_term_5 rfl <|
  s_bipush dX6_term_6 rfl (by decide) <|
  s_cV1 ce_X6_isSign ml_X6_232 im_X6_isSign se_X6_isSign xC6 dX6_term_8 <|
  s_if_eq (t := 28) dX6_term_11 rfl (
  s_iload_n dX6_term_28 rfl <|
  s_ireturn dX6_term_29 rfl) <|
  s_aload_n dX6_term_14 rfl <|
  s_cV0 ce_X6_next ml_X6_207 im_X6_next se_X6_next xC6 dX6_term_15 <|
  s_iload_n dX6_term_18 rfl <|
  s_aload_n dX6_term_19 rfl <|
  s_cV0 ce_X6_atom ml_X6_239 im_X6_atom se_X6_atom xC6 dX6_term_20 <|
  s_imul dX6_term_23 <|
  s_istore_n dX6_term_24 rfl (by decide) <|
  s_goto (t := 5) dX6_term_25 rfl <|
  s_J
-- X6_term: cuts [0, 5]
def k_X6_added_0 (d : Nat) (Q : xV → xMem → Prop) : xP :=
  x_aload 0 <|
  x_cV0 M_X6_term d 6 <|
  x_istore 1 <|
  (xJ M_X6_added (d + 1) 5 Q)
set_option maxRecDepth 100000 in
theorem b_X6_added_0 {d : Nat} {Q : xV → xMem → Prop} : Snd M_X6_added (d + 1) 0 Q (k_X6_added_0 d Q) :=
  s_aload_n dX6_added_0 rfl <|
  s_cV0 ce_X6_term ml_X6_249 im_X6_term se_X6_term xC6 dX6_added_1 <|
  s_istore_n dX6_added_4 rfl (by decide) <|
  s_J
def k_X6_added_5 (d : Nat) (Q : xV → xMem → Prop) : xP :=
  x_aload 0 <|
  x_push (vi 43) <|
  x_cV1 M_X6_isSign d 6 <|
  x_c1 (fun x => ¬ x = 0) (
  (xJ M_X6_added (d + 1) 23 Q)) <|
  x_aload 0 <|
  x_push (vi 45) <|
  x_cV1 M_X6_isSign d 6 <|
  x_c1 (fun x => x = 0) (
  x_iload 1 <|
  x_ret Q) <|
  (xJ M_X6_added (d + 1) 23 Q)
set_option maxRecDepth 100000 in
theorem b_X6_added_5 {d : Nat} {Q : xV → xMem → Prop} : Snd M_X6_added (d + 1) 5 Q (k_X6_added_5 d Q) :=
  s_aload_n dX6_added_5 rfl <|
  s_bipush dX6_added_6 rfl (by decide) <|
  s_cV1 ce_X6_isSign ml_X6_232 im_X6_isSign se_X6_isSign xC6 dX6_added_8 <|
  s_if_ne (t := 23) dX6_added_11 rfl (
  s_J) <|
  s_aload_n dX6_added_14 rfl <|
  s_bipush dX6_added_15 rfl (by decide) <|
  s_cV1 ce_X6_isSign ml_X6_232 im_X6_isSign se_X6_isSign xC6 dX6_added_17 <|
  s_if_eq (t := 66) dX6_added_20 rfl (
  s_iload_n dX6_added_66 rfl <|
  s_ireturn dX6_added_67 rfl) <|
  s_J
def k_X6_added_23 (d : Nat) (Q : xV → xMem → Prop) : xP :=
  x_aload 0 <|
  x_getL 6 24 <|
  x_push (vl (43)) <|
  x_lcmp <|
  x_c1 (fun x => ¬ x = 0) (
  x_push (vi 0) <|
  (xJ M_X6_added (d + 1) 39 Q)) <|
  x_push (vi 1) <|
  (xJ M_X6_added (d + 1) 39 Q)
set_option maxRecDepth 100000 in
theorem b_X6_added_23 {d : Nat} {Q : xV → xMem → Prop} : Snd M_X6_added (d + 1) 23 Q (k_X6_added_23 d Q) :=
  s_aload_n dX6_added_23 rfl <|
  s_getL xC6 (by decide) (fun _ _ _ => rfl) fl_X6_187 dX6_added_24 <|
  s_ldc2 dX6_added_27 kl_X6_252 rfl (by decide) <|
  s_lcmp dX6_added_30 <|
  s_if_ne (t := 38) dX6_added_31 rfl (
  s_iconst dX6_added_38 rfl <|
  s_J) <|
  s_iconst dX6_added_34 rfl <|
  s_goto (t := 39) dX6_added_35 rfl <|
  s_J
def k_X6_added_39 (d : Nat) (Q : xV → xMem → Prop) : xP :=
  x_istore 2 <|
  x_aload 0 <|
  x_cV0 M_X6_next d 6 <|
  x_aload 0 <|
  x_cV0 M_X6_term d 6 <|
  x_istore 3 <|
  x_iload 2 <|
  x_c1 (fun x => x = 0) (
  x_iload 1 <|
  x_iload 3 <|
  x_bin osub <|
  x_istore 1 <|
  (xJ M_X6_added (d + 1) 5 Q)) <|
  x_iload 1 <|
  x_iload 3 <|
  x_bin oadd <|
  x_istore 1 <|
  (xJ M_X6_added (d + 1) 5 Q)
set_option maxRecDepth 100000 in
theorem b_X6_added_39 {d : Nat} {Q : xV → xMem → Prop} : Snd M_X6_added (d + 1) 39 Q (k_X6_added_39 d Q) :=
  s_istore_n dX6_added_39 rfl (by decide) <|
  s_aload_n dX6_added_40 rfl <|
  s_cV0 ce_X6_next ml_X6_207 im_X6_next se_X6_next xC6 dX6_added_41 <|
  s_aload_n dX6_added_44 rfl <|
  s_cV0 ce_X6_term ml_X6_249 im_X6_term se_X6_term xC6 dX6_added_45 <|
  s_istore_n dX6_added_48 rfl (by decide) <|
  s_iload_n dX6_added_49 rfl <|
  s_if_eq (t := 59) dX6_added_50 rfl (
  s_iload_n dX6_added_59 rfl <|
  s_iload_n dX6_added_60 rfl <|
  s_isub dX6_added_61 <|
  s_istore_n dX6_added_62 rfl (by decide) <|
  s_goto (t := 5) dX6_added_63 rfl <|
  s_J) <|
  s_iload_n dX6_added_53 rfl <|
  s_iload_n dX6_added_54 rfl <|
  s_iadd dX6_added_55 <|
  s_goto (t := 62) dX6_added_56 rfl <|
  s_istore_n dX6_added_62 rfl (by decide) <|
  s_goto (t := 5) dX6_added_63 rfl <|
  s_J
-- X6_added: cuts [0, 5, 23, 39]
def k_X6_not_0 (d : Nat) (Q : xV → xMem → Prop) : xP :=
  x_aload 0 <|
  x_push (vi 110) <|
  x_push (vi 111) <|
  x_push (vi 116) <|
  x_push (vi 0) <|
  x_push (vi 0) <|
  x_push (vi 0) <|
  x_push (vi 0) <|
  x_push (vi 0) <|
  x_cV8 M_X6_isWord d 6 <|
  x_c1 (fun x => x = 0) (
  x_aload 0 <|
  x_cV0 M_X6_added d 6 <|
  x_istore 1 <|
  x_aload 0 <|
  x_push (vi 60) <|
  x_cV1 M_X6_isSign d 6 <|
  x_c1 (fun x => ¬ x = 0) (
  (xJ M_X6_not (d + 1) 77 Q)) <|
  x_aload 0 <|
  x_push (vi 61) <|
  x_cV1 M_X6_isSign d 6 <|
  x_c1 (fun x => ¬ x = 0) (
  (xJ M_X6_not (d + 1) 77 Q)) <|
  x_iload 1 <|
  x_ret Q) <|
  x_aload 0 <|
  x_cV0 M_X6_opens d 6 <|
  x_c1 (fun x => ¬ x = 0) (
  x_aload 0 <|
  x_cV0 M_X6_not d 6 <|
  x_istore 1 <|
  x_aload 0 <|
  x_dup <|
  x_getI 6 25 <|
  x_push (vi 1) <|
  x_bin osub <|
  x_putI 6 25 <|
  x_iload 1 <|
  x_c1 (fun x => ¬ x = 0) (
  x_push (vi 0) <|
  x_ret Q) <|
  x_push (vi 1) <|
  x_ret Q) <|
  x_push (vi 0) <|
  x_ret Q
set_option maxRecDepth 100000 in
theorem b_X6_not_0 {d : Nat} {Q : xV → xMem → Prop} : Snd M_X6_not (d + 1) 0 Q (k_X6_not_0 d Q) :=
  s_aload_n dX6_not_0 rfl <|
  s_bipush dX6_not_1 rfl (by decide) <|
  s_bipush dX6_not_3 rfl (by decide) <|
  s_bipush dX6_not_5 rfl (by decide) <|
  s_iconst dX6_not_7 rfl <|
  s_iconst dX6_not_8 rfl <|
  s_iconst dX6_not_9 rfl <|
  s_iconst dX6_not_10 rfl <|
  s_iconst dX6_not_11 rfl <|
  s_cV8 ce_X6_isWord ml_X6_210 im_X6_isWord se_X6_isWord xC6 dX6_not_12 <|
  s_if_eq (t := 52) dX6_not_15 rfl (
  s_aload_n dX6_not_52 rfl <|
  s_cV0 ce_X6_added ml_X6_257 im_X6_added se_X6_added xC6 dX6_not_53 <|
  s_istore_n dX6_not_56 rfl (by decide) <|
  s_aload_n dX6_not_57 rfl <|
  s_bipush dX6_not_58 rfl (by decide) <|
  s_cV1 ce_X6_isSign ml_X6_232 im_X6_isSign se_X6_isSign xC6 dX6_not_60 <|
  s_if_ne (t := 77) dX6_not_63 rfl (
  s_J) <|
  s_aload_n dX6_not_66 rfl <|
  s_bipush dX6_not_67 rfl (by decide) <|
  s_cV1 ce_X6_isSign ml_X6_232 im_X6_isSign se_X6_isSign xC6 dX6_not_69 <|
  s_if_ne (t := 77) dX6_not_72 rfl (
  s_J) <|
  s_iload_n dX6_not_75 rfl <|
  s_ireturn dX6_not_76 rfl) <|
  s_aload_n dX6_not_18 rfl <|
  s_cV0 ce_X6_opens ml_X6_235 im_X6_opens se_X6_opens xC6 dX6_not_19 <|
  s_if_ne (t := 27) dX6_not_22 rfl (
  s_aload_n dX6_not_27 rfl <|
  s_cV0 ce_X6_not ml_X6_254 im_X6_not se_X6_not xC6 dX6_not_28 <|
  s_istore_n dX6_not_31 rfl (by decide) <|
  s_aload_n dX6_not_32 rfl <|
  s_dup dX6_not_33 <|
  s_getI xC6 (by decide) (fun _ _ _ => rfl) fl_X6_201 dX6_not_34 <|
  s_iconst dX6_not_37 rfl <|
  s_isub dX6_not_38 <|
  s_putI xC6 (by decide) (fun _ _ _ => rfl) rfl rfl fl_X6_201 dX6_not_39 <|
  s_iload_n dX6_not_42 rfl <|
  s_if_ne (t := 50) dX6_not_43 rfl (
  s_iconst dX6_not_50 rfl <|
  s_ireturn dX6_not_51 rfl) <|
  s_iconst dX6_not_46 rfl <|
  s_goto (t := 51) dX6_not_47 rfl <|
  s_ireturn dX6_not_51 rfl) <|
  s_iconst dX6_not_25 rfl <|
  s_ireturn dX6_not_26 rfl
def k_X6_not_77 (d : Nat) (Q : xV → xMem → Prop) : xP :=
  x_aload 0 <|
  x_getL 6 24 <|
  x_push (vl (60)) <|
  x_lcmp <|
  x_c1 (fun x => ¬ x = 0) (
  x_push (vi 0) <|
  (xJ M_X6_not (d + 1) 93 Q)) <|
  x_push (vi 1) <|
  (xJ M_X6_not (d + 1) 93 Q)
set_option maxRecDepth 100000 in
theorem b_X6_not_77 {d : Nat} {Q : xV → xMem → Prop} : Snd M_X6_not (d + 1) 77 Q (k_X6_not_77 d Q) :=
  s_aload_n dX6_not_77 rfl <|
  s_getL xC6 (by decide) (fun _ _ _ => rfl) fl_X6_187 dX6_not_78 <|
  s_ldc2 dX6_not_81 kl_X6_260 rfl (by decide) <|
  s_lcmp dX6_not_84 <|
  s_if_ne (t := 92) dX6_not_85 rfl (
  s_iconst dX6_not_92 rfl <|
  s_J) <|
  s_iconst dX6_not_88 rfl <|
  s_goto (t := 93) dX6_not_89 rfl <|
  s_J
def k_X6_not_93 (d : Nat) (Q : xV → xMem → Prop) : xP :=
  x_istore 2 <|
  x_aload 0 <|
  x_cV0 M_X6_next d 6 <|
  x_aload 0 <|
  x_cV0 M_X6_added d 6 <|
  x_istore 3 <|
  x_iload 2 <|
  x_c1 (fun x => x = 0) (
  x_iload 1 <|
  x_iload 3 <|
  x_c2 (fun x y => ¬ x = y) (
  x_push (vi 0) <|
  x_ret Q) <|
  x_push (vi 1) <|
  x_ret Q) <|
  x_iload 1 <|
  x_iload 3 <|
  x_c2 (fun x y => y ≤ x) (
  x_push (vi 0) <|
  x_ret Q) <|
  x_push (vi 1) <|
  x_ret Q
set_option maxRecDepth 100000 in
theorem b_X6_not_93 {d : Nat} {Q : xV → xMem → Prop} : Snd M_X6_not (d + 1) 93 Q (k_X6_not_93 d Q) :=
  s_istore_n dX6_not_93 rfl (by decide) <|
  s_aload_n dX6_not_94 rfl <|
  s_cV0 ce_X6_next ml_X6_207 im_X6_next se_X6_next xC6 dX6_not_95 <|
  s_aload_n dX6_not_98 rfl <|
  s_cV0 ce_X6_added ml_X6_257 im_X6_added se_X6_added xC6 dX6_not_99 <|
  s_istore_n dX6_not_102 rfl (by decide) <|
  s_iload_n dX6_not_103 rfl <|
  s_if_eq (t := 115) dX6_not_104 rfl (
  s_iload_n dX6_not_115 rfl <|
  s_iload_n dX6_not_116 rfl <|
  s_icmp_ne (t := 124) dX6_not_117 rfl (
  s_iconst dX6_not_124 rfl <|
  s_ireturn dX6_not_125 rfl) <|
  s_iconst dX6_not_120 rfl <|
  s_goto (t := 125) dX6_not_121 rfl <|
  s_ireturn dX6_not_125 rfl) <|
  s_iload_n dX6_not_107 rfl <|
  s_iload_n dX6_not_108 rfl <|
  s_icmp_ge (t := 124) dX6_not_109 rfl (
  s_iconst dX6_not_124 rfl <|
  s_ireturn dX6_not_125 rfl) <|
  s_goto (t := 120) dX6_not_112 rfl <|
  s_iconst dX6_not_120 rfl <|
  s_goto (t := 125) dX6_not_121 rfl <|
  s_ireturn dX6_not_125 rfl
-- X6_not: cuts [0, 77, 93]
def k_X6_both_0 (d : Nat) (Q : xV → xMem → Prop) : xP :=
  x_aload 0 <|
  x_cV0 M_X6_not d 6 <|
  x_istore 1 <|
  (xJ M_X6_both (d + 1) 5 Q)
set_option maxRecDepth 100000 in
theorem b_X6_both_0 {d : Nat} {Q : xV → xMem → Prop} : Snd M_X6_both (d + 1) 0 Q (k_X6_both_0 d Q) :=
  s_aload_n dX6_both_0 rfl <|
  s_cV0 ce_X6_not ml_X6_254 im_X6_not se_X6_not xC6 dX6_both_1 <|
  s_istore_n dX6_both_4 rfl (by decide) <|
  s_J
def k_X6_both_5 (d : Nat) (Q : xV → xMem → Prop) : xP :=
  x_aload 0 <|
  x_push (vi 97) <|
  x_push (vi 110) <|
  x_push (vi 100) <|
  x_push (vi 0) <|
  x_push (vi 0) <|
  x_push (vi 0) <|
  x_push (vi 0) <|
  x_push (vi 0) <|
  x_cV8 M_X6_isWord d 6 <|
  x_c1 (fun x => x = 0) (
  x_iload 1 <|
  x_ret Q) <|
  x_aload 0 <|
  x_cV0 M_X6_next d 6 <|
  x_aload 0 <|
  x_cV0 M_X6_not d 6 <|
  x_istore 2 <|
  x_iload 1 <|
  x_c1 (fun x => x = 0) (
  x_push (vi 0) <|
  x_istore 1 <|
  (xJ M_X6_both (d + 1) 5 Q)) <|
  x_iload 2 <|
  x_c1 (fun x => x = 0) (
  x_push (vi 0) <|
  x_istore 1 <|
  (xJ M_X6_both (d + 1) 5 Q)) <|
  x_push (vi 1) <|
  x_istore 1 <|
  (xJ M_X6_both (d + 1) 5 Q)
set_option maxRecDepth 100000 in
theorem b_X6_both_5 {d : Nat} {Q : xV → xMem → Prop} : Snd M_X6_both (d + 1) 5 Q (k_X6_both_5 d Q) :=
  s_aload_n dX6_both_5 rfl <|
  s_bipush dX6_both_6 rfl (by decide) <|
  s_bipush dX6_both_8 rfl (by decide) <|
  s_bipush dX6_both_10 rfl (by decide) <|
  s_iconst dX6_both_12 rfl <|
  s_iconst dX6_both_13 rfl <|
  s_iconst dX6_both_14 rfl <|
  s_iconst dX6_both_15 rfl <|
  s_iconst dX6_both_16 rfl <|
  s_cV8 ce_X6_isWord ml_X6_210 im_X6_isWord se_X6_isWord xC6 dX6_both_17 <|
  s_if_eq (t := 49) dX6_both_20 rfl (
  s_iload_n dX6_both_49 rfl <|
  s_ireturn dX6_both_50 rfl) <|
  s_aload_n dX6_both_23 rfl <|
  s_cV0 ce_X6_next ml_X6_207 im_X6_next se_X6_next xC6 dX6_both_24 <|
  s_aload_n dX6_both_27 rfl <|
  s_cV0 ce_X6_not ml_X6_254 im_X6_not se_X6_not xC6 dX6_both_28 <|
  s_istore_n dX6_both_31 rfl (by decide) <|
  s_iload_n dX6_both_32 rfl <|
  s_if_eq (t := 44) dX6_both_33 rfl (
  s_iconst dX6_both_44 rfl <|
  s_istore_n dX6_both_45 rfl (by decide) <|
  s_goto (t := 5) dX6_both_46 rfl <|
  s_J) <|
  s_iload_n dX6_both_36 rfl <|
  s_if_eq (t := 44) dX6_both_37 rfl (
  s_iconst dX6_both_44 rfl <|
  s_istore_n dX6_both_45 rfl (by decide) <|
  s_goto (t := 5) dX6_both_46 rfl <|
  s_J) <|
  s_iconst dX6_both_40 rfl <|
  s_goto (t := 45) dX6_both_41 rfl <|
  s_istore_n dX6_both_45 rfl (by decide) <|
  s_goto (t := 5) dX6_both_46 rfl <|
  s_J
-- X6_both: cuts [0, 5]
def k_X6_either_0 (d : Nat) (Q : xV → xMem → Prop) : xP :=
  x_aload 0 <|
  x_cV0 M_X6_both d 6 <|
  x_istore 1 <|
  (xJ M_X6_either (d + 1) 5 Q)
set_option maxRecDepth 100000 in
theorem b_X6_either_0 {d : Nat} {Q : xV → xMem → Prop} : Snd M_X6_either (d + 1) 0 Q (k_X6_either_0 d Q) :=
  s_aload_n dX6_either_0 rfl <|
  s_cV0 ce_X6_both ml_X6_262 im_X6_both se_X6_both xC6 dX6_either_1 <|
  s_istore_n dX6_either_4 rfl (by decide) <|
  s_J
def k_X6_either_5 (d : Nat) (Q : xV → xMem → Prop) : xP :=
  x_aload 0 <|
  x_push (vi 111) <|
  x_push (vi 114) <|
  x_push (vi 0) <|
  x_push (vi 0) <|
  x_push (vi 0) <|
  x_push (vi 0) <|
  x_push (vi 0) <|
  x_push (vi 0) <|
  x_cV8 M_X6_isWord d 6 <|
  x_c1 (fun x => x = 0) (
  x_iload 1 <|
  x_ret Q) <|
  x_aload 0 <|
  x_cV0 M_X6_next d 6 <|
  x_aload 0 <|
  x_cV0 M_X6_both d 6 <|
  x_istore 2 <|
  x_iload 1 <|
  x_c1 (fun x => ¬ x = 0) (
  x_push (vi 1) <|
  x_istore 1 <|
  (xJ M_X6_either (d + 1) 5 Q)) <|
  x_iload 2 <|
  x_c1 (fun x => x = 0) (
  x_push (vi 0) <|
  x_istore 1 <|
  (xJ M_X6_either (d + 1) 5 Q)) <|
  x_push (vi 1) <|
  x_istore 1 <|
  (xJ M_X6_either (d + 1) 5 Q)
set_option maxRecDepth 100000 in
theorem b_X6_either_5 {d : Nat} {Q : xV → xMem → Prop} : Snd M_X6_either (d + 1) 5 Q (k_X6_either_5 d Q) :=
  s_aload_n dX6_either_5 rfl <|
  s_bipush dX6_either_6 rfl (by decide) <|
  s_bipush dX6_either_8 rfl (by decide) <|
  s_iconst dX6_either_10 rfl <|
  s_iconst dX6_either_11 rfl <|
  s_iconst dX6_either_12 rfl <|
  s_iconst dX6_either_13 rfl <|
  s_iconst dX6_either_14 rfl <|
  s_iconst dX6_either_15 rfl <|
  s_cV8 ce_X6_isWord ml_X6_210 im_X6_isWord se_X6_isWord xC6 dX6_either_16 <|
  s_if_eq (t := 48) dX6_either_19 rfl (
  s_iload_n dX6_either_48 rfl <|
  s_ireturn dX6_either_49 rfl) <|
  s_aload_n dX6_either_22 rfl <|
  s_cV0 ce_X6_next ml_X6_207 im_X6_next se_X6_next xC6 dX6_either_23 <|
  s_aload_n dX6_either_26 rfl <|
  s_cV0 ce_X6_both ml_X6_262 im_X6_both se_X6_both xC6 dX6_either_27 <|
  s_istore_n dX6_either_30 rfl (by decide) <|
  s_iload_n dX6_either_31 rfl <|
  s_if_ne (t := 39) dX6_either_32 rfl (
  s_iconst dX6_either_39 rfl <|
  s_goto (t := 44) dX6_either_40 rfl <|
  s_istore_n dX6_either_44 rfl (by decide) <|
  s_goto (t := 5) dX6_either_45 rfl <|
  s_J) <|
  s_iload_n dX6_either_35 rfl <|
  s_if_eq (t := 43) dX6_either_36 rfl (
  s_iconst dX6_either_43 rfl <|
  s_istore_n dX6_either_44 rfl (by decide) <|
  s_goto (t := 5) dX6_either_45 rfl <|
  s_J) <|
  s_iconst dX6_either_39 rfl <|
  s_goto (t := 44) dX6_either_40 rfl <|
  s_istore_n dX6_either_44 rfl (by decide) <|
  s_goto (t := 5) dX6_either_45 rfl <|
  s_J
-- X6_either: cuts [0, 5]
def k_X6_part_0 (d : Nat) (Q : xV → xMem → Prop) : xP :=
  x_iload 1 <|
  x_c1 (fun x => ¬ x = 0) (
  (xJ M_X6_part (d + 1) 8 Q)) <|
  x_aload 0 <|
  x_cV0 M_X6_fail d 6 <|
  (xJ M_X6_part (d + 1) 8 Q)
set_option maxRecDepth 100000 in
theorem b_X6_part_0 {d : Nat} {Q : xV → xMem → Prop} : Snd M_X6_part (d + 1) 0 Q (k_X6_part_0 d Q) :=
  s_iload_n dX6_part_0 rfl <|
  s_if_ne (t := 8) dX6_part_1 rfl (
  s_J) <|
  s_aload_n dX6_part_4 rfl <|
  s_cV0 ce_X6_fail ml_X6_204 im_X6_fail se_X6_fail xC6 dX6_part_5 <|
  s_J
def k_X6_part_8 (d : Nat) (Q : xV → xMem → Prop) : xP :=
  x_aload 0 <|
  x_getI 6 26 <|
  x_c1 (fun x => ¬ x = 0) (
  (xJ M_X6_part (d + 1) 19 Q)) <|
  x_aload 0 <|
  x_cV0 M_X6_next d 6 <|
  (xJ M_X6_part (d + 1) 19 Q)
set_option maxRecDepth 100000 in
theorem b_X6_part_8 {d : Nat} {Q : xV → xMem → Prop} : Snd M_X6_part (d + 1) 8 Q (k_X6_part_8 d Q) :=
  s_aload_n dX6_part_8 rfl <|
  s_getI xC6 (by decide) (fun _ _ _ => rfl) fl_X6_191 dX6_part_9 <|
  s_if_ne (t := 19) dX6_part_12 rfl (
  s_J) <|
  s_aload_n dX6_part_15 rfl <|
  s_cV0 ce_X6_next ml_X6_207 im_X6_next se_X6_next xC6 dX6_part_16 <|
  s_J
def k_X6_part_19 (d : Nat) (Q : xV → xMem → Prop) : xP :=
  x_aload 0 <|
  x_getI 6 26 <|
  x_c1 (fun x => x = 0) (
  x_aload 0 <|
  x_cV0 M_X6_either d 6 <|
  (xJ M_X6_part (d + 1) 34 Q)) <|
  x_push (vi 0) <|
  (xJ M_X6_part (d + 1) 34 Q)
set_option maxRecDepth 100000 in
theorem b_X6_part_19 {d : Nat} {Q : xV → xMem → Prop} : Snd M_X6_part (d + 1) 19 Q (k_X6_part_19 d Q) :=
  s_aload_n dX6_part_19 rfl <|
  s_getI xC6 (by decide) (fun _ _ _ => rfl) fl_X6_191 dX6_part_20 <|
  s_if_eq (t := 30) dX6_part_23 rfl (
  s_aload_n dX6_part_30 rfl <|
  s_cV0 ce_X6_either ml_X6_243 im_X6_either se_X6_either xC6 dX6_part_31 <|
  s_J) <|
  s_iconst dX6_part_26 rfl <|
  s_goto (t := 34) dX6_part_27 rfl <|
  s_J
def k_X6_part_34 (d : Nat) (Q : xV → xMem → Prop) : xP :=
  x_istore 2 <|
  x_aload 0 <|
  x_push (vi 59) <|
  x_cV1 M_X6_isSign d 6 <|
  x_c1 (fun x => ¬ x = 0) (
  (xJ M_X6_part (d + 1) 48 Q)) <|
  x_aload 0 <|
  x_cV0 M_X6_fail d 6 <|
  (xJ M_X6_part (d + 1) 48 Q)
set_option maxRecDepth 100000 in
theorem b_X6_part_34 {d : Nat} {Q : xV → xMem → Prop} : Snd M_X6_part (d + 1) 34 Q (k_X6_part_34 d Q) :=
  s_istore_n dX6_part_34 rfl (by decide) <|
  s_aload_n dX6_part_35 rfl <|
  s_bipush dX6_part_36 rfl (by decide) <|
  s_cV1 ce_X6_isSign ml_X6_232 im_X6_isSign se_X6_isSign xC6 dX6_part_38 <|
  s_if_ne (t := 48) dX6_part_41 rfl (
  s_J) <|
  s_aload_n dX6_part_44 rfl <|
  s_cV0 ce_X6_fail ml_X6_204 im_X6_fail se_X6_fail xC6 dX6_part_45 <|
  s_J
def k_X6_part_48 (d : Nat) (Q : xV → xMem → Prop) : xP :=
  x_aload 0 <|
  x_getI 6 26 <|
  x_c1 (fun x => ¬ x = 0) (
  x_iload 2 <|
  x_ret Q) <|
  x_aload 0 <|
  x_cV0 M_X6_next d 6 <|
  x_iload 2 <|
  x_ret Q
set_option maxRecDepth 100000 in
theorem b_X6_part_48 {d : Nat} {Q : xV → xMem → Prop} : Snd M_X6_part (d + 1) 48 Q (k_X6_part_48 d Q) :=
  s_aload_n dX6_part_48 rfl <|
  s_getI xC6 (by decide) (fun _ _ _ => rfl) fl_X6_191 dX6_part_49 <|
  s_if_ne (t := 59) dX6_part_52 rfl (
  s_iload_n dX6_part_59 rfl <|
  s_ireturn dX6_part_60 rfl) <|
  s_aload_n dX6_part_55 rfl <|
  s_cV0 ce_X6_next ml_X6_207 im_X6_next se_X6_next xC6 dX6_part_56 <|
  s_iload_n dX6_part_59 rfl <|
  s_ireturn dX6_part_60 rfl
-- X6_part: cuts [0, 8, 19, 34, 48]
def k_X6_read_0 (d : Nat) (Q : xV → xMem → Prop) : xP :=
  x_aload 0 <|
  x_push (vi 160) <|
  x_iload 1 <|
  x_bin omul <|
  x_putI 6 19 <|
  x_aload 0 <|
  x_aload 0 <|
  x_getR 6 2 <|
  x_iload 1 <|
  x_iaload <|
  x_putI 6 20 <|
  x_aload 0 <|
  x_push (vi 0) <|
  x_putI 6 21 <|
  x_aload 0 <|
  x_push (vi 0) <|
  x_putI 6 25 <|
  x_aload 0 <|
  x_push (vi 0) <|
  x_putZ 6 26 <|
  x_aload 0 <|
  x_cV0 M_X6_next d 6 <|
  x_aload 0 <|
  x_aload 0 <|
  x_push (vi 112) <|
  x_push (vi 114) <|
  x_push (vi 105) <|
  x_push (vi 99) <|
  x_push (vi 101) <|
  x_push (vi 115) <|
  x_push (vi 0) <|
  x_push (vi 0) <|
  x_cV8 M_X6_isWord d 6 <|
  x_cV1 M_X6_part d 6 <|
  x_istore 3 <|
  x_aload 0 <|
  x_getI 6 26 <|
  x_c1 (fun x => x = 0) (
  x_aload 0 <|
  x_aload 0 <|
  x_push (vi 106) <|
  x_push (vi 111) <|
  x_push (vi 121) <|
  x_push (vi 115) <|
  x_push (vi 0) <|
  x_push (vi 0) <|
  x_push (vi 0) <|
  x_push (vi 0) <|
  x_cV8 M_X6_isWord d 6 <|
  x_cV1 M_X6_part d 6 <|
  (xJ M_X6_read (d + 1) 92 Q)) <|
  x_push (vi 0) <|
  (xJ M_X6_read (d + 1) 92 Q)
set_option maxRecDepth 100000 in
theorem b_X6_read_0 {d : Nat} {Q : xV → xMem → Prop} : Snd M_X6_read (d + 1) 0 Q (k_X6_read_0 d Q) :=
  s_aload_n dX6_read_0 rfl <|
  s_sipush dX6_read_1 rfl (by decide) <|
  s_iload_n dX6_read_4 rfl <|
  s_imul dX6_read_5 <|
  s_putI xC6 (by decide) (fun _ _ _ => rfl) rfl rfl fl_X6_164 dX6_read_6 <|
  s_aload_n dX6_read_9 rfl <|
  s_aload_n dX6_read_10 rfl <|
  s_getR xC6 (by decide) (fun _ _ _ => rfl) fl_X6_17 dX6_read_11 <|
  s_iload_n dX6_read_14 rfl <|
  s_iaload dX6_read_15 <|
  s_putI xC6 (by decide) (fun _ _ _ => rfl) rfl rfl fl_X6_161 dX6_read_16 <|
  s_aload_n dX6_read_19 rfl <|
  s_iconst dX6_read_20 rfl <|
  s_putI xC6 (by decide) (fun _ _ _ => rfl) rfl rfl fl_X6_167 dX6_read_21 <|
  s_aload_n dX6_read_24 rfl <|
  s_iconst dX6_read_25 rfl <|
  s_putI xC6 (by decide) (fun _ _ _ => rfl) rfl rfl fl_X6_201 dX6_read_26 <|
  s_aload_n dX6_read_29 rfl <|
  s_iconst dX6_read_30 rfl <|
  s_putZ xC6 (by decide) (fun _ _ _ => rfl) rfl rfl fl_X6_191 dX6_read_31 <|
  s_aload_n dX6_read_34 rfl <|
  s_cV0 ce_X6_next ml_X6_207 im_X6_next se_X6_next xC6 dX6_read_35 <|
  s_aload_n dX6_read_38 rfl <|
  s_aload_n dX6_read_39 rfl <|
  s_bipush dX6_read_40 rfl (by decide) <|
  s_bipush dX6_read_42 rfl (by decide) <|
  s_bipush dX6_read_44 rfl (by decide) <|
  s_bipush dX6_read_46 rfl (by decide) <|
  s_bipush dX6_read_48 rfl (by decide) <|
  s_bipush dX6_read_50 rfl (by decide) <|
  s_iconst dX6_read_52 rfl <|
  s_iconst dX6_read_53 rfl <|
  s_cV8 ce_X6_isWord ml_X6_210 im_X6_isWord se_X6_isWord xC6 dX6_read_54 <|
  s_cV1 ce_X6_part ml_X6_265 im_X6_part se_X6_part xC6 dX6_read_57 <|
  s_istore_n dX6_read_60 rfl (by decide) <|
  s_aload_n dX6_read_61 rfl <|
  s_getI xC6 (by decide) (fun _ _ _ => rfl) fl_X6_191 dX6_read_62 <|
  s_if_eq (t := 72) dX6_read_65 rfl (
  s_aload_n dX6_read_72 rfl <|
  s_aload_n dX6_read_73 rfl <|
  s_bipush dX6_read_74 rfl (by decide) <|
  s_bipush dX6_read_76 rfl (by decide) <|
  s_bipush dX6_read_78 rfl (by decide) <|
  s_bipush dX6_read_80 rfl (by decide) <|
  s_iconst dX6_read_82 rfl <|
  s_iconst dX6_read_83 rfl <|
  s_iconst dX6_read_84 rfl <|
  s_iconst dX6_read_85 rfl <|
  s_cV8 ce_X6_isWord ml_X6_210 im_X6_isWord se_X6_isWord xC6 dX6_read_86 <|
  s_cV1 ce_X6_part ml_X6_265 im_X6_part se_X6_part xC6 dX6_read_89 <|
  s_J) <|
  s_iconst dX6_read_68 rfl <|
  s_goto (t := 92) dX6_read_69 rfl <|
  s_J
def k_X6_read_92 (d : Nat) (Q : xV → xMem → Prop) : xP :=
  x_istore 4 <|
  x_aload 0 <|
  x_getI 6 26 <|
  x_c1 (fun x => x = 0) (
  x_aload 0 <|
  x_aload 0 <|
  x_push (vi 112) <|
  x_push (vi 97) <|
  x_push (vi 121) <|
  x_push (vi 115) <|
  x_push (vi 0) <|
  x_push (vi 0) <|
  x_push (vi 0) <|
  x_push (vi 0) <|
  x_cV8 M_X6_isWord d 6 <|
  x_cV1 M_X6_part d 6 <|
  (xJ M_X6_read (d + 1) 125 Q)) <|
  x_push (vi 0) <|
  (xJ M_X6_read (d + 1) 125 Q)
set_option maxRecDepth 100000 in
theorem b_X6_read_92 {d : Nat} {Q : xV → xMem → Prop} : Snd M_X6_read (d + 1) 92 Q (k_X6_read_92 d Q) :=
  s_istore dX6_read_92 (by decide) <|
  s_aload_n dX6_read_94 rfl <|
  s_getI xC6 (by decide) (fun _ _ _ => rfl) fl_X6_191 dX6_read_95 <|
  s_if_eq (t := 105) dX6_read_98 rfl (
  s_aload_n dX6_read_105 rfl <|
  s_aload_n dX6_read_106 rfl <|
  s_bipush dX6_read_107 rfl (by decide) <|
  s_bipush dX6_read_109 rfl (by decide) <|
  s_bipush dX6_read_111 rfl (by decide) <|
  s_bipush dX6_read_113 rfl (by decide) <|
  s_iconst dX6_read_115 rfl <|
  s_iconst dX6_read_116 rfl <|
  s_iconst dX6_read_117 rfl <|
  s_iconst dX6_read_118 rfl <|
  s_cV8 ce_X6_isWord ml_X6_210 im_X6_isWord se_X6_isWord xC6 dX6_read_119 <|
  s_cV1 ce_X6_part ml_X6_265 im_X6_part se_X6_part xC6 dX6_read_122 <|
  s_J) <|
  s_iconst dX6_read_101 rfl <|
  s_goto (t := 125) dX6_read_102 rfl <|
  s_J
def k_X6_read_125 (d : Nat) (Q : xV → xMem → Prop) : xP :=
  x_istore 5 <|
  x_aload 0 <|
  x_getI 6 26 <|
  x_c1 (fun x => ¬ x = 0) (
  (xJ M_X6_read (d + 1) 145 Q)) <|
  x_aload 0 <|
  x_getI 6 22 <|
  x_c1 (fun x => x = 0) (
  (xJ M_X6_read (d + 1) 145 Q)) <|
  x_aload 0 <|
  x_cV0 M_X6_fail d 6 <|
  (xJ M_X6_read (d + 1) 145 Q)
set_option maxRecDepth 100000 in
theorem b_X6_read_125 {d : Nat} {Q : xV → xMem → Prop} : Snd M_X6_read (d + 1) 125 Q (k_X6_read_125 d Q) :=
  s_istore dX6_read_125 (by decide) <|
  s_aload_n dX6_read_127 rfl <|
  s_getI xC6 (by decide) (fun _ _ _ => rfl) fl_X6_191 dX6_read_128 <|
  s_if_ne (t := 145) dX6_read_131 rfl (
  s_J) <|
  s_aload_n dX6_read_134 rfl <|
  s_getI xC6 (by decide) (fun _ _ _ => rfl) fl_X6_176 dX6_read_135 <|
  s_if_eq (t := 145) dX6_read_138 rfl (
  s_J) <|
  s_aload_n dX6_read_141 rfl <|
  s_cV0 ce_X6_fail ml_X6_204 im_X6_fail se_X6_fail xC6 dX6_read_142 <|
  s_J
def k_X6_read_145 (d : Nat) (Q : xV → xMem → Prop) : xP :=
  x_iload 2 <|
  x_c1 (fun x => ¬ x = 0) (
  x_iload 2 <|
  x_push (vi 1) <|
  x_c2 (fun x y => ¬ x = y) (
  x_iload 5 <|
  x_ret Q) <|
  x_iload 4 <|
  x_ret Q) <|
  x_iload 3 <|
  x_ret Q
set_option maxRecDepth 100000 in
theorem b_X6_read_145 {d : Nat} {Q : xV → xMem → Prop} : Snd M_X6_read (d + 1) 145 Q (k_X6_read_145 d Q) :=
  s_iload_n dX6_read_145 rfl <|
  s_if_ne (t := 153) dX6_read_146 rfl (
  s_iload_n dX6_read_153 rfl <|
  s_iconst dX6_read_154 rfl <|
  s_icmp_ne (t := 163) dX6_read_155 rfl (
  s_iload dX6_read_163 <|
  s_ireturn dX6_read_165 rfl) <|
  s_iload dX6_read_158 <|
  s_goto (t := 165) dX6_read_160 rfl <|
  s_ireturn dX6_read_165 rfl) <|
  s_iload_n dX6_read_149 rfl <|
  s_goto (t := 165) dX6_read_150 rfl <|
  s_ireturn dX6_read_165 rfl
-- X6_read: cuts [0, 92, 125, 145]
def k_X6_text_0 (d : Nat) (Q : xV → xMem → Prop) : xP :=
  x_aload 0 <|
  x_getI 6 3 <|
  x_push (vi 6) <|
  x_c2 (fun x y => ¬ x = y) (
  x_push (vi 0) <|
  x_istore 1 <|
  (xJ M_X6_text (d + 1) 14 Q)) <|
  x_push (vi (-4)) <|
  x_ret Q
set_option maxRecDepth 100000 in
theorem b_X6_text_0 {d : Nat} {Q : xV → xMem → Prop} : Snd M_X6_text (d + 1) 0 Q (k_X6_text_0 d Q) :=
  s_aload_n dX6_text_0 rfl <|
  s_getI xC6 (by decide) (fun _ _ _ => rfl) fl_X6_82 dX6_text_1 <|
  s_bipush dX6_text_4 rfl (by decide) <|
  s_icmp_ne (t := 12) dX6_text_6 rfl (
  s_iconst dX6_text_12 rfl <|
  s_istore_n dX6_text_13 rfl (by decide) <|
  s_J) <|
  s_bipush dX6_text_9 rfl (by decide) <|
  s_ireturn dX6_text_11 rfl
def k_X6_text_14 (d : Nat) (Q : xV → xMem → Prop) : xP :=
  x_iload 1 <|
  x_aload 0 <|
  x_getI 6 6 <|
  x_c2 (fun x y => y ≤ x) (
  x_aload 0 <|
  x_getR 6 2 <|
  x_aload 0 <|
  x_getI 6 3 <|
  x_aload 0 <|
  x_getI 6 6 <|
  x_iastore <|
  x_aload 0 <|
  x_push (vi 0) <|
  x_putI 6 6 <|
  x_aload 0 <|
  x_aload 0 <|
  x_getI 6 3 <|
  x_push (vi 0) <|
  x_cV2 M_X6_read d 6 <|
  x_istore 1 <|
  x_aload 0 <|
  x_getI 6 26 <|
  x_c1 (fun x => x = 0) (
  x_aload 0 <|
  x_dup <|
  x_getI 6 3 <|
  x_push (vi 1) <|
  x_bin oadd <|
  x_putI 6 3 <|
  x_aload 0 <|
  x_getI 6 3 <|
  x_push (vi 1) <|
  x_bin osub <|
  x_ret Q) <|
  x_push (vi (-100)) <|
  x_aload 0 <|
  x_getI 6 27 <|
  x_bin osub <|
  x_ret Q) <|
  x_aload 0 <|
  x_getR 6 1 <|
  x_push (vi 160) <|
  x_aload 0 <|
  x_getI 6 3 <|
  x_bin omul <|
  x_iload 1 <|
  x_bin oadd <|
  x_aload 0 <|
  x_getR 6 5 <|
  x_iload 1 <|
  x_iaload <|
  x_iastore <|
  x_iinc 1 1 <|
  (xJ M_X6_text (d + 1) 14 Q)
set_option maxRecDepth 100000 in
theorem b_X6_text_14 {d : Nat} {Q : xV → xMem → Prop} : Snd M_X6_text (d + 1) 14 Q (k_X6_text_14 d Q) :=
  s_iload_n dX6_text_14 rfl <|
  s_aload_n dX6_text_15 rfl <|
  s_getI xC6 (by decide) (fun _ _ _ => rfl) fl_X6_158 dX6_text_16 <|
  s_icmp_ge (t := 49) dX6_text_19 rfl (
  s_aload_n dX6_text_49 rfl <|
  s_getR xC6 (by decide) (fun _ _ _ => rfl) fl_X6_17 dX6_text_50 <|
  s_aload_n dX6_text_53 rfl <|
  s_getI xC6 (by decide) (fun _ _ _ => rfl) fl_X6_82 dX6_text_54 <|
  s_aload_n dX6_text_57 rfl <|
  s_getI xC6 (by decide) (fun _ _ _ => rfl) fl_X6_158 dX6_text_58 <|
  s_iastore dX6_text_61 <|
  s_aload_n dX6_text_62 rfl <|
  s_iconst dX6_text_63 rfl <|
  s_putI xC6 (by decide) (fun _ _ _ => rfl) rfl rfl fl_X6_158 dX6_text_64 <|
  s_aload_n dX6_text_67 rfl <|
  s_aload_n dX6_text_68 rfl <|
  s_getI xC6 (by decide) (fun _ _ _ => rfl) fl_X6_82 dX6_text_69 <|
  s_iconst dX6_text_72 rfl <|
  s_cV2 ce_X6_read ml_X6_269 im_X6_read se_X6_read xC6 dX6_text_73 <|
  s_istore_n dX6_text_76 rfl (by decide) <|
  s_aload_n dX6_text_77 rfl <|
  s_getI xC6 (by decide) (fun _ _ _ => rfl) fl_X6_191 dX6_text_78 <|
  s_if_eq (t := 92) dX6_text_81 rfl (
  s_aload_n dX6_text_92 rfl <|
  s_dup dX6_text_93 <|
  s_getI xC6 (by decide) (fun _ _ _ => rfl) fl_X6_82 dX6_text_94 <|
  s_iconst dX6_text_97 rfl <|
  s_iadd dX6_text_98 <|
  s_putI xC6 (by decide) (fun _ _ _ => rfl) rfl rfl fl_X6_82 dX6_text_99 <|
  s_aload_n dX6_text_102 rfl <|
  s_getI xC6 (by decide) (fun _ _ _ => rfl) fl_X6_82 dX6_text_103 <|
  s_iconst dX6_text_106 rfl <|
  s_isub dX6_text_107 <|
  s_ireturn dX6_text_108 rfl) <|
  s_bipush dX6_text_84 rfl (by decide) <|
  s_aload_n dX6_text_86 rfl <|
  s_getI xC6 (by decide) (fun _ _ _ => rfl) fl_X6_195 dX6_text_87 <|
  s_isub dX6_text_90 <|
  s_ireturn dX6_text_91 rfl) <|
  s_aload_n dX6_text_22 rfl <|
  s_getR xC6 (by decide) (fun _ _ _ => rfl) fl_X6_13 dX6_text_23 <|
  s_sipush dX6_text_26 rfl (by decide) <|
  s_aload_n dX6_text_29 rfl <|
  s_getI xC6 (by decide) (fun _ _ _ => rfl) fl_X6_82 dX6_text_30 <|
  s_imul dX6_text_33 <|
  s_iload_n dX6_text_34 rfl <|
  s_iadd dX6_text_35 <|
  s_aload_n dX6_text_36 rfl <|
  s_getR xC6 (by decide) (fun _ _ _ => rfl) fl_X6_20 dX6_text_37 <|
  s_iload_n dX6_text_40 rfl <|
  s_iaload dX6_text_41 <|
  s_iastore dX6_text_42 <|
  s_iinc dX6_text_43 (by decide) <|
  s_goto (t := 14) dX6_text_46 rfl <|
  s_J
-- X6_text: cuts [0, 14]
def k_X6_force_0 (d : Nat) (Q : xV → xMem → Prop) : xP :=
  x_iload 1 <|
  x_i2l <|
  x_push (vl 0) <|
  x_aload 0 <|
  x_getI 6 3 <|
  x_push (vi 1) <|
  x_bin osub <|
  x_i2l <|
  x_cS3 M_X6_in d <|
  x_c1 (fun x => ¬ x = 0) (
  x_aload 0 <|
  x_getI 6 4 <|
  x_istore 2 <|
  x_aload 0 <|
  x_iload 1 <|
  x_putI 6 4 <|
  x_iload 2 <|
  x_ret Q) <|
  x_push (vi (-2)) <|
  x_ret Q
set_option maxRecDepth 100000 in
theorem b_X6_force_0 {d : Nat} {Q : xV → xMem → Prop} : Snd M_X6_force (d + 1) 0 Q (k_X6_force_0 d Q) :=
  s_iload_n dX6_force_0 rfl <|
  s_i2l dX6_force_1 <|
  s_lconst dX6_force_2 rfl (by decide) <|
  s_aload_n dX6_force_3 rfl <|
  s_getI xC6 (by decide) (fun _ _ _ => rfl) fl_X6_82 dX6_force_4 <|
  s_iconst dX6_force_7 rfl <|
  s_isub dX6_force_8 <|
  s_i2l dX6_force_9 <|
  s_cS3 ce_X6_in ml_X6_88 sm_X6_in dX6_force_10 <|
  s_if_ne (t := 19) dX6_force_13 rfl (
  s_aload_n dX6_force_19 rfl <|
  s_getI xC6 (by decide) (fun _ _ _ => rfl) fl_X6_122 dX6_force_20 <|
  s_istore_n dX6_force_23 rfl (by decide) <|
  s_aload_n dX6_force_24 rfl <|
  s_iload_n dX6_force_25 rfl <|
  s_putI xC6 (by decide) (fun _ _ _ => rfl) rfl rfl fl_X6_122 dX6_force_26 <|
  s_iload_n dX6_force_29 rfl <|
  s_ireturn dX6_force_30 rfl) <|
  s_bipush dX6_force_16 rfl (by decide) <|
  s_ireturn dX6_force_18 rfl
-- X6_force: cuts [0]
def k_X6_says_0 (d : Nat) (Q : xV → xMem → Prop) : xP :=
  x_aload 0 <|
  x_iload 3 <|
  x_putI 6 13 <|
  x_aload 0 <|
  x_aload 0 <|
  x_getR 6 9 <|
  x_push (vi 3) <|
  x_iload 2 <|
  x_bin omul <|
  x_iaload <|
  x_putI 6 14 <|
  x_aload 0 <|
  x_aload 0 <|
  x_getR 6 9 <|
  x_push (vi 3) <|
  x_iload 2 <|
  x_bin omul <|
  x_push (vi 1) <|
  x_bin oadd <|
  x_iaload <|
  x_putI 6 15 <|
  x_aload 0 <|
  x_iload 4 <|
  x_putI 6 16 <|
  x_aload 0 <|
  x_aload 0 <|
  x_iload 2 <|
  x_cV1 M_X6_askedOf d 6 <|
  x_putI 6 17 <|
  x_aload 0 <|
  x_push (vi 0) <|
  x_putI 6 18 <|
  x_push (vi 0) <|
  x_istore 5 <|
  (xJ M_X6_says (d + 1) 54 Q)
set_option maxRecDepth 100000 in
theorem b_X6_says_0 {d : Nat} {Q : xV → xMem → Prop} : Snd M_X6_says (d + 1) 0 Q (k_X6_says_0 d Q) :=
  s_aload_n dX6_says_0 rfl <|
  s_iload_n dX6_says_1 rfl <|
  s_putI xC6 (by decide) (fun _ _ _ => rfl) rfl rfl fl_X6_214 dX6_says_2 <|
  s_aload_n dX6_says_5 rfl <|
  s_aload_n dX6_says_6 rfl <|
  s_getR xC6 (by decide) (fun _ _ _ => rfl) fl_X6_29 dX6_says_7 <|
  s_iconst dX6_says_10 rfl <|
  s_iload_n dX6_says_11 rfl <|
  s_imul dX6_says_12 <|
  s_iaload dX6_says_13 <|
  s_putI xC6 (by decide) (fun _ _ _ => rfl) rfl rfl fl_X6_217 dX6_says_14 <|
  s_aload_n dX6_says_17 rfl <|
  s_aload_n dX6_says_18 rfl <|
  s_getR xC6 (by decide) (fun _ _ _ => rfl) fl_X6_29 dX6_says_19 <|
  s_iconst dX6_says_22 rfl <|
  s_iload_n dX6_says_23 rfl <|
  s_imul dX6_says_24 <|
  s_iconst dX6_says_25 rfl <|
  s_iadd dX6_says_26 <|
  s_iaload dX6_says_27 <|
  s_putI xC6 (by decide) (fun _ _ _ => rfl) rfl rfl fl_X6_220 dX6_says_28 <|
  s_aload_n dX6_says_31 rfl <|
  s_iload dX6_says_32 <|
  s_putI xC6 (by decide) (fun _ _ _ => rfl) rfl rfl fl_X6_223 dX6_says_34 <|
  s_aload_n dX6_says_37 rfl <|
  s_aload_n dX6_says_38 rfl <|
  s_iload_n dX6_says_39 rfl <|
  s_cV1 ce_X6_askedOf ml_X6_150 im_X6_askedOf se_X6_askedOf xC6 dX6_says_40 <|
  s_putI xC6 (by decide) (fun _ _ _ => rfl) rfl rfl fl_X6_226 dX6_says_43 <|
  s_aload_n dX6_says_46 rfl <|
  s_iconst dX6_says_47 rfl <|
  s_putI xC6 (by decide) (fun _ _ _ => rfl) rfl rfl fl_X6_229 dX6_says_48 <|
  s_iconst dX6_says_51 rfl <|
  s_istore dX6_says_52 (by decide) <|
  s_J
def k_X6_says_54 (d : Nat) (Q : xV → xMem → Prop) : xP :=
  x_iload 5 <|
  x_aload 0 <|
  x_getI 6 12 <|
  x_c2 (fun x y => y ≤ x) (
  x_aload 0 <|
  x_aload 0 <|
  x_getI 6 4 <|
  x_iload 1 <|
  x_cV2 M_X6_read d 6 <|
  x_iload 1 <|
  x_push (vi 1) <|
  x_c2 (fun x y => ¬ x = y) (
  x_push (vi 0) <|
  x_push (vi 99) <|
  x_cS3 M_X6_within d <|
  x_ret Q) <|
  x_push (vi (-99)) <|
  x_push (vi 99) <|
  x_cS3 M_X6_within d <|
  x_ret Q) <|
  x_aload 0 <|
  x_dup <|
  x_getI 6 18 <|
  x_aload 0 <|
  x_getR 6 11 <|
  x_push (vi 2) <|
  x_iload 5 <|
  x_bin omul <|
  x_iaload <|
  x_iload 3 <|
  x_c2 (fun x y => ¬ x = y) (
  x_push (vi 0) <|
  x_bin oadd <|
  x_putI 6 18 <|
  x_iinc 5 1 <|
  (xJ M_X6_says (d + 1) 54 Q)) <|
  x_push (vi 1) <|
  x_bin oadd <|
  x_putI 6 18 <|
  x_iinc 5 1 <|
  (xJ M_X6_says (d + 1) 54 Q)
set_option maxRecDepth 100000 in
theorem b_X6_says_54 {d : Nat} {Q : xV → xMem → Prop} : Snd M_X6_says (d + 1) 54 Q (k_X6_says_54 d Q) :=
  s_iload dX6_says_54 <|
  s_aload_n dX6_says_56 rfl <|
  s_getI xC6 (by decide) (fun _ _ _ => rfl) fl_X6_92 dX6_says_57 <|
  s_icmp_ge (t := 96) dX6_says_60 rfl (
  s_aload_n dX6_says_96 rfl <|
  s_aload_n dX6_says_97 rfl <|
  s_getI xC6 (by decide) (fun _ _ _ => rfl) fl_X6_122 dX6_says_98 <|
  s_iload_n dX6_says_101 rfl <|
  s_cV2 ce_X6_read ml_X6_269 im_X6_read se_X6_read xC6 dX6_says_102 <|
  s_iload_n dX6_says_105 rfl <|
  s_iconst dX6_says_106 rfl <|
  s_icmp_ne (t := 115) dX6_says_107 rfl (
  s_iconst dX6_says_115 rfl <|
  s_bipush dX6_says_116 rfl (by decide) <|
  s_cS3 ce_X6_within ml_X6_272 sm_X6_within dX6_says_118 <|
  s_ireturn dX6_says_121 rfl) <|
  s_bipush dX6_says_110 rfl (by decide) <|
  s_goto (t := 116) dX6_says_112 rfl <|
  s_bipush dX6_says_116 rfl (by decide) <|
  s_cS3 ce_X6_within ml_X6_272 sm_X6_within dX6_says_118 <|
  s_ireturn dX6_says_121 rfl) <|
  s_aload_n dX6_says_63 rfl <|
  s_dup dX6_says_64 <|
  s_getI xC6 (by decide) (fun _ _ _ => rfl) fl_X6_229 dX6_says_65 <|
  s_aload_n dX6_says_68 rfl <|
  s_getR xC6 (by decide) (fun _ _ _ => rfl) fl_X6_32 dX6_says_69 <|
  s_iconst dX6_says_72 rfl <|
  s_iload dX6_says_73 <|
  s_imul dX6_says_75 <|
  s_iaload dX6_says_76 <|
  s_iload_n dX6_says_77 rfl <|
  s_icmp_ne (t := 85) dX6_says_78 rfl (
  s_iconst dX6_says_85 rfl <|
  s_iadd dX6_says_86 <|
  s_putI xC6 (by decide) (fun _ _ _ => rfl) rfl rfl fl_X6_229 dX6_says_87 <|
  s_iinc dX6_says_90 (by decide) <|
  s_goto (t := 54) dX6_says_93 rfl <|
  s_J) <|
  s_iconst dX6_says_81 rfl <|
  s_goto (t := 86) dX6_says_82 rfl <|
  s_iadd dX6_says_86 <|
  s_putI xC6 (by decide) (fun _ _ _ => rfl) rfl rfl fl_X6_229 dX6_says_87 <|
  s_iinc dX6_says_90 (by decide) <|
  s_goto (t := 54) dX6_says_93 rfl <|
  s_J
-- X6_says: cuts [0, 54]
def k_X6_costsOf_0 (d : Nat) (Q : xV → xMem → Prop) : xP :=
  x_aload 0 <|
  x_getR 6 8 <|
  x_iload 1 <|
  x_iaload <|
  x_istore 3 <|
  x_aload 0 <|
  x_push (vi 0) <|
  x_iload 1 <|
  x_iload 2 <|
  x_push (vi 0) <|
  x_cV4 M_X6_says d 6 <|
  x_aload 0 <|
  x_getI 6 7 <|
  x_bin omul <|
  x_istore 4 <|
  x_iload 3 <|
  x_push (vi 1) <|
  x_c2 (fun x y => ¬ x = y) (
  x_iload 3 <|
  x_push (vi 3) <|
  x_c2 (fun x y => ¬ x = y) (
  x_iload 3 <|
  x_push (vi 2) <|
  x_c2 (fun x y => ¬ x = y) (
  x_iload 3 <|
  x_push (vi 4) <|
  x_c2 (fun x y => ¬ x = y) (
  x_iload 3 <|
  x_push (vi 5) <|
  x_c2 (fun x y => ¬ x = y) (
  x_iload 4 <|
  x_istore 5 <|
  x_iload 5 <|
  x_push (vi 0) <|
  x_push (vi 999) <|
  x_cS3 M_X6_within d <|
  x_ret Q) <|
  x_iload 4 <|
  x_push (vi 5) <|
  x_c2 (fun x y => x ≤ y) (
  x_iload 4 <|
  x_istore 5 <|
  x_iload 5 <|
  x_push (vi 0) <|
  x_push (vi 999) <|
  x_cS3 M_X6_within d <|
  x_ret Q) <|
  x_push (vi 5) <|
  x_istore 5 <|
  x_iload 5 <|
  x_push (vi 0) <|
  x_push (vi 999) <|
  x_cS3 M_X6_within d <|
  x_ret Q) <|
  x_push (vi 0) <|
  x_istore 5 <|
  x_iload 5 <|
  x_push (vi 0) <|
  x_push (vi 999) <|
  x_cS3 M_X6_within d <|
  x_ret Q) <|
  x_iload 4 <|
  x_push (vi 2) <|
  x_div odiv <|
  x_istore 5 <|
  x_iload 5 <|
  x_push (vi 0) <|
  x_push (vi 999) <|
  x_cS3 M_X6_within d <|
  x_ret Q) <|
  x_push (vi 2) <|
  x_iload 4 <|
  x_bin omul <|
  x_aload 0 <|
  x_getR 6 9 <|
  x_push (vi 3) <|
  x_iload 1 <|
  x_bin omul <|
  x_iaload <|
  x_bin oadd <|
  x_istore 5 <|
  x_iload 5 <|
  x_push (vi 0) <|
  x_push (vi 999) <|
  x_cS3 M_X6_within d <|
  x_ret Q) <|
  x_push (vi 2) <|
  x_iload 4 <|
  x_bin omul <|
  x_istore 5 <|
  x_iload 5 <|
  x_push (vi 0) <|
  x_push (vi 999) <|
  x_cS3 M_X6_within d <|
  x_ret Q
set_option maxRecDepth 100000 in
theorem b_X6_costsOf_0 {d : Nat} {Q : xV → xMem → Prop} : Snd M_X6_costsOf (d + 1) 0 Q (k_X6_costsOf_0 d Q) :=
  s_aload_n dX6_costsOf_0 rfl <|
  s_getR xC6 (by decide) (fun _ _ _ => rfl) fl_X6_26 dX6_costsOf_1 <|
  s_iload_n dX6_costsOf_4 rfl <|
  s_iaload dX6_costsOf_5 <|
  s_istore_n dX6_costsOf_6 rfl (by decide) <|
  s_aload_n dX6_costsOf_7 rfl <|
  s_iconst dX6_costsOf_8 rfl <|
  s_iload_n dX6_costsOf_9 rfl <|
  s_iload_n dX6_costsOf_10 rfl <|
  s_iconst dX6_costsOf_11 rfl <|
  s_cV4 ce_X6_says ml_X6_276 im_X6_says se_X6_says xC6 dX6_costsOf_12 <|
  s_aload_n dX6_costsOf_15 rfl <|
  s_getI xC6 (by decide) (fun _ _ _ => rfl) fl_X6_23 dX6_costsOf_16 <|
  s_imul dX6_costsOf_19 <|
  s_istore dX6_costsOf_20 (by decide) <|
  s_iload_n dX6_costsOf_22 rfl <|
  s_iconst dX6_costsOf_23 rfl <|
  s_icmp_ne (t := 34) dX6_costsOf_24 rfl (
  s_iload_n dX6_costsOf_34 rfl <|
  s_iconst dX6_costsOf_35 rfl <|
  s_icmp_ne (t := 55) dX6_costsOf_36 rfl (
  s_iload_n dX6_costsOf_55 rfl <|
  s_iconst dX6_costsOf_56 rfl <|
  s_icmp_ne (t := 67) dX6_costsOf_57 rfl (
  s_iload_n dX6_costsOf_67 rfl <|
  s_iconst dX6_costsOf_68 rfl <|
  s_icmp_ne (t := 76) dX6_costsOf_69 rfl (
  s_iload_n dX6_costsOf_76 rfl <|
  s_iconst dX6_costsOf_77 rfl <|
  s_icmp_ne (t := 91) dX6_costsOf_78 rfl (
  s_iload dX6_costsOf_91 <|
  s_istore dX6_costsOf_93 (by decide) <|
  s_iload dX6_costsOf_95 <|
  s_iconst dX6_costsOf_97 rfl <|
  s_sipush dX6_costsOf_98 rfl (by decide) <|
  s_cS3 ce_X6_within ml_X6_272 sm_X6_within dX6_costsOf_101 <|
  s_ireturn dX6_costsOf_104 rfl) <|
  s_iload dX6_costsOf_81 <|
  s_iconst dX6_costsOf_83 rfl <|
  s_icmp_le (t := 91) dX6_costsOf_84 rfl (
  s_iload dX6_costsOf_91 <|
  s_istore dX6_costsOf_93 (by decide) <|
  s_iload dX6_costsOf_95 <|
  s_iconst dX6_costsOf_97 rfl <|
  s_sipush dX6_costsOf_98 rfl (by decide) <|
  s_cS3 ce_X6_within ml_X6_272 sm_X6_within dX6_costsOf_101 <|
  s_ireturn dX6_costsOf_104 rfl) <|
  s_iconst dX6_costsOf_87 rfl <|
  s_goto (t := 93) dX6_costsOf_88 rfl <|
  s_istore dX6_costsOf_93 (by decide) <|
  s_iload dX6_costsOf_95 <|
  s_iconst dX6_costsOf_97 rfl <|
  s_sipush dX6_costsOf_98 rfl (by decide) <|
  s_cS3 ce_X6_within ml_X6_272 sm_X6_within dX6_costsOf_101 <|
  s_ireturn dX6_costsOf_104 rfl) <|
  s_iconst dX6_costsOf_72 rfl <|
  s_goto (t := 93) dX6_costsOf_73 rfl <|
  s_istore dX6_costsOf_93 (by decide) <|
  s_iload dX6_costsOf_95 <|
  s_iconst dX6_costsOf_97 rfl <|
  s_sipush dX6_costsOf_98 rfl (by decide) <|
  s_cS3 ce_X6_within ml_X6_272 sm_X6_within dX6_costsOf_101 <|
  s_ireturn dX6_costsOf_104 rfl) <|
  s_iload dX6_costsOf_60 <|
  s_iconst dX6_costsOf_62 rfl <|
  s_idiv dX6_costsOf_63 <|
  s_goto (t := 93) dX6_costsOf_64 rfl <|
  s_istore dX6_costsOf_93 (by decide) <|
  s_iload dX6_costsOf_95 <|
  s_iconst dX6_costsOf_97 rfl <|
  s_sipush dX6_costsOf_98 rfl (by decide) <|
  s_cS3 ce_X6_within ml_X6_272 sm_X6_within dX6_costsOf_101 <|
  s_ireturn dX6_costsOf_104 rfl) <|
  s_iconst dX6_costsOf_39 rfl <|
  s_iload dX6_costsOf_40 <|
  s_imul dX6_costsOf_42 <|
  s_aload_n dX6_costsOf_43 rfl <|
  s_getR xC6 (by decide) (fun _ _ _ => rfl) fl_X6_29 dX6_costsOf_44 <|
  s_iconst dX6_costsOf_47 rfl <|
  s_iload_n dX6_costsOf_48 rfl <|
  s_imul dX6_costsOf_49 <|
  s_iaload dX6_costsOf_50 <|
  s_iadd dX6_costsOf_51 <|
  s_goto (t := 93) dX6_costsOf_52 rfl <|
  s_istore dX6_costsOf_93 (by decide) <|
  s_iload dX6_costsOf_95 <|
  s_iconst dX6_costsOf_97 rfl <|
  s_sipush dX6_costsOf_98 rfl (by decide) <|
  s_cS3 ce_X6_within ml_X6_272 sm_X6_within dX6_costsOf_101 <|
  s_ireturn dX6_costsOf_104 rfl) <|
  s_iconst dX6_costsOf_27 rfl <|
  s_iload dX6_costsOf_28 <|
  s_imul dX6_costsOf_30 <|
  s_goto (t := 93) dX6_costsOf_31 rfl <|
  s_istore dX6_costsOf_93 (by decide) <|
  s_iload dX6_costsOf_95 <|
  s_iconst dX6_costsOf_97 rfl <|
  s_sipush dX6_costsOf_98 rfl (by decide) <|
  s_cS3 ce_X6_within ml_X6_272 sm_X6_within dX6_costsOf_101 <|
  s_ireturn dX6_costsOf_104 rfl
-- X6_costsOf: cuts [0]
def k_X6_appears_0 (d : Nat) (Q : xV → xMem → Prop) : xP :=
  x_aload 0 <|
  x_getR 6 9 <|
  x_push (vi 3) <|
  x_iload 1 <|
  x_bin omul <|
  x_push (vi 2) <|
  x_bin oadd <|
  x_iaload <|
  x_iload 2 <|
  x_bin oshr <|
  x_push (vi 1) <|
  x_bin oand <|
  x_c1 (fun x => ¬ x = 0) (
  x_aload 0 <|
  x_getR 6 8 <|
  x_iload 1 <|
  x_iaload <|
  x_istore 3 <|
  x_iload 3 <|
  x_push (vi 1) <|
  x_c2 (fun x y => x = y) (
  (xJ M_X6_appears (d + 1) 36 Q)) <|
  x_iload 3 <|
  x_push (vi 3) <|
  x_c2 (fun x y => ¬ x = y) (
  x_iload 3 <|
  x_push (vi 4) <|
  x_c2 (fun x y => ¬ x = y) (
  x_iload 3 <|
  x_push (vi 5) <|
  x_c2 (fun x y => ¬ x = y) (
  x_push (vi 1) <|
  x_zret Q) <|
  x_iload 2 <|
  x_push (vi 2) <|
  x_div orem <|
  x_c1 (fun x => ¬ x = 0) (
  x_push (vi 0) <|
  x_zret Q) <|
  x_push (vi 1) <|
  x_zret Q) <|
  x_iload 2 <|
  x_push (vi 3) <|
  x_div orem <|
  x_aload 0 <|
  x_getR 6 9 <|
  x_push (vi 3) <|
  x_iload 1 <|
  x_bin omul <|
  x_iaload <|
  x_push (vi 3) <|
  x_div orem <|
  x_c2 (fun x y => ¬ x = y) (
  x_push (vi 0) <|
  x_zret Q) <|
  x_push (vi 1) <|
  x_zret Q) <|
  (xJ M_X6_appears (d + 1) 36 Q)) <|
  x_push (vi 0) <|
  x_zret Q
set_option maxRecDepth 100000 in
theorem b_X6_appears_0 {d : Nat} {Q : xV → xMem → Prop} : Snd M_X6_appears (d + 1) 0 Q (k_X6_appears_0 d Q) :=
  s_aload_n dX6_appears_0 rfl <|
  s_getR xC6 (by decide) (fun _ _ _ => rfl) fl_X6_29 dX6_appears_1 <|
  s_iconst dX6_appears_4 rfl <|
  s_iload_n dX6_appears_5 rfl <|
  s_imul dX6_appears_6 <|
  s_iconst dX6_appears_7 rfl <|
  s_iadd dX6_appears_8 <|
  s_iaload dX6_appears_9 <|
  s_iload_n dX6_appears_10 rfl <|
  s_ishr dX6_appears_11 <|
  s_iconst dX6_appears_12 rfl <|
  s_iand dX6_appears_13 <|
  s_if_ne (t := 19) dX6_appears_14 rfl (
  s_aload_n dX6_appears_19 rfl <|
  s_getR xC6 (by decide) (fun _ _ _ => rfl) fl_X6_26 dX6_appears_20 <|
  s_iload_n dX6_appears_23 rfl <|
  s_iaload dX6_appears_24 <|
  s_istore_n dX6_appears_25 rfl (by decide) <|
  s_iload_n dX6_appears_26 rfl <|
  s_iconst dX6_appears_27 rfl <|
  s_icmp_eq (t := 36) dX6_appears_28 rfl (
  s_J) <|
  s_iload_n dX6_appears_31 rfl <|
  s_iconst dX6_appears_32 rfl <|
  s_icmp_ne (t := 73) dX6_appears_33 rfl (
  s_iload_n dX6_appears_73 rfl <|
  s_iconst dX6_appears_74 rfl <|
  s_icmp_ne (t := 102) dX6_appears_75 rfl (
  s_iload_n dX6_appears_102 rfl <|
  s_iconst dX6_appears_103 rfl <|
  s_icmp_ne (t := 113) dX6_appears_104 rfl (
  s_iconst dX6_appears_113 rfl <|
  s_goto (t := 118) dX6_appears_114 rfl <|
  s_zreturn dX6_appears_118 rfl) <|
  s_iload_n dX6_appears_107 rfl <|
  s_iconst dX6_appears_108 rfl <|
  s_irem dX6_appears_109 <|
  s_if_ne (t := 117) dX6_appears_110 rfl (
  s_iconst dX6_appears_117 rfl <|
  s_zreturn dX6_appears_118 rfl) <|
  s_iconst dX6_appears_113 rfl <|
  s_goto (t := 118) dX6_appears_114 rfl <|
  s_zreturn dX6_appears_118 rfl) <|
  s_iload_n dX6_appears_78 rfl <|
  s_iconst dX6_appears_79 rfl <|
  s_irem dX6_appears_80 <|
  s_aload_n dX6_appears_81 rfl <|
  s_getR xC6 (by decide) (fun _ _ _ => rfl) fl_X6_29 dX6_appears_82 <|
  s_iconst dX6_appears_85 rfl <|
  s_iload_n dX6_appears_86 rfl <|
  s_imul dX6_appears_87 <|
  s_iaload dX6_appears_88 <|
  s_iconst dX6_appears_89 rfl <|
  s_irem dX6_appears_90 <|
  s_icmp_ne (t := 98) dX6_appears_91 rfl (
  s_iconst dX6_appears_98 rfl <|
  s_goto (t := 118) dX6_appears_99 rfl <|
  s_zreturn dX6_appears_118 rfl) <|
  s_iconst dX6_appears_94 rfl <|
  s_goto (t := 118) dX6_appears_95 rfl <|
  s_zreturn dX6_appears_118 rfl) <|
  s_J) <|
  s_iconst dX6_appears_17 rfl <|
  s_zreturn dX6_appears_18 rfl
def k_X6_appears_36 (d : Nat) (Q : xV → xMem → Prop) : xP :=
  x_iload 2 <|
  x_i2l <|
  x_push (vl (2)) <|
  x_push (vl (5)) <|
  x_cS3 M_X6_in d <|
  x_c1 (fun x => ¬ x = 0) (
  x_push (vi 1) <|
  x_zret Q) <|
  x_iload 3 <|
  x_push (vi 3) <|
  x_c2 (fun x y => ¬ x = y) (
  x_push (vi 0) <|
  x_zret Q) <|
  x_iload 2 <|
  x_aload 0 <|
  x_getR 6 9 <|
  x_push (vi 3) <|
  x_iload 1 <|
  x_bin omul <|
  x_iaload <|
  x_c2 (fun x y => ¬ x = y) (
  x_push (vi 0) <|
  x_zret Q) <|
  x_push (vi 1) <|
  x_zret Q
set_option maxRecDepth 100000 in
theorem b_X6_appears_36 {d : Nat} {Q : xV → xMem → Prop} : Snd M_X6_appears (d + 1) 36 Q (k_X6_appears_36 d Q) :=
  s_iload_n dX6_appears_36 rfl <|
  s_i2l dX6_appears_37 <|
  s_ldc2 dX6_appears_38 kl_X6_280 rfl (by decide) <|
  s_ldc2 dX6_appears_41 kl_X6_104 rfl (by decide) <|
  s_cS3 ce_X6_in ml_X6_88 sm_X6_in dX6_appears_44 <|
  s_if_ne (t := 67) dX6_appears_47 rfl (
  s_iconst dX6_appears_67 rfl <|
  s_goto (t := 72) dX6_appears_68 rfl <|
  s_zreturn dX6_appears_72 rfl) <|
  s_iload_n dX6_appears_50 rfl <|
  s_iconst dX6_appears_51 rfl <|
  s_icmp_ne (t := 71) dX6_appears_52 rfl (
  s_iconst dX6_appears_71 rfl <|
  s_zreturn dX6_appears_72 rfl) <|
  s_iload_n dX6_appears_55 rfl <|
  s_aload_n dX6_appears_56 rfl <|
  s_getR xC6 (by decide) (fun _ _ _ => rfl) fl_X6_29 dX6_appears_57 <|
  s_iconst dX6_appears_60 rfl <|
  s_iload_n dX6_appears_61 rfl <|
  s_imul dX6_appears_62 <|
  s_iaload dX6_appears_63 <|
  s_icmp_ne (t := 71) dX6_appears_64 rfl (
  s_iconst dX6_appears_71 rfl <|
  s_zreturn dX6_appears_72 rfl) <|
  s_iconst dX6_appears_67 rfl <|
  s_goto (t := 72) dX6_appears_68 rfl <|
  s_zreturn dX6_appears_72 rfl
-- X6_appears: cuts [0, 36]
def k_X6_gladOf_0 (d : Nat) (Q : xV → xMem → Prop) : xP :=
  x_aload 0 <|
  x_getR 6 8 <|
  x_iload 2 <|
  x_iaload <|
  x_istore 3 <|
  x_iload 3 <|
  x_push (vi 5) <|
  x_c2 (fun x y => ¬ x = y) (
  x_aload 0 <|
  x_iload 1 <|
  x_iload 2 <|
  x_cV2 M_X6_isWished d 6 <|
  x_c1 (fun x => x = 0) (
  x_push (vi 0) <|
  (xJ M_X6_gladOf (d + 1) 42 Q)) <|
  x_aload 0 <|
  x_push (vi 1) <|
  x_iload 2 <|
  x_aload 0 <|
  x_getR 6 11 <|
  x_push (vi 2) <|
  x_iload 1 <|
  x_bin omul <|
  x_iaload <|
  x_push (vi 1) <|
  x_cV4 M_X6_says d 6 <|
  (xJ M_X6_gladOf (d + 1) 42 Q)) <|
  x_push (vi 1) <|
  x_ret Q
set_option maxRecDepth 100000 in
theorem b_X6_gladOf_0 {d : Nat} {Q : xV → xMem → Prop} : Snd M_X6_gladOf (d + 1) 0 Q (k_X6_gladOf_0 d Q) :=
  s_aload_n dX6_gladOf_0 rfl <|
  s_getR xC6 (by decide) (fun _ _ _ => rfl) fl_X6_26 dX6_gladOf_1 <|
  s_iload_n dX6_gladOf_4 rfl <|
  s_iaload dX6_gladOf_5 <|
  s_istore_n dX6_gladOf_6 rfl (by decide) <|
  s_iload_n dX6_gladOf_7 rfl <|
  s_iconst dX6_gladOf_8 rfl <|
  s_icmp_ne (t := 14) dX6_gladOf_9 rfl (
  s_aload_n dX6_gladOf_14 rfl <|
  s_iload_n dX6_gladOf_15 rfl <|
  s_iload_n dX6_gladOf_16 rfl <|
  s_cV2 ce_X6_isWished ml_X6_153 im_X6_isWished se_X6_isWished xC6 dX6_gladOf_17 <|
  s_if_eq (t := 41) dX6_gladOf_20 rfl (
  s_iconst dX6_gladOf_41 rfl <|
  s_J) <|
  s_aload_n dX6_gladOf_23 rfl <|
  s_iconst dX6_gladOf_24 rfl <|
  s_iload_n dX6_gladOf_25 rfl <|
  s_aload_n dX6_gladOf_26 rfl <|
  s_getR xC6 (by decide) (fun _ _ _ => rfl) fl_X6_32 dX6_gladOf_27 <|
  s_iconst dX6_gladOf_30 rfl <|
  s_iload_n dX6_gladOf_31 rfl <|
  s_imul dX6_gladOf_32 <|
  s_iaload dX6_gladOf_33 <|
  s_iconst dX6_gladOf_34 rfl <|
  s_cV4 ce_X6_says ml_X6_276 im_X6_says se_X6_says xC6 dX6_gladOf_35 <|
  s_goto (t := 42) dX6_gladOf_38 rfl <|
  s_J) <|
  s_iconst dX6_gladOf_12 rfl <|
  s_ireturn dX6_gladOf_13 rfl
def k_X6_gladOf_42 (d : Nat) (Q : xV → xMem → Prop) : xP :=
  x_istore 4 <|
  x_iload 3 <|
  x_push (vi 1) <|
  x_c2 (fun x y => ¬ x = y) (
  x_iload 3 <|
  x_push (vi 3) <|
  x_c2 (fun x y => ¬ x = y) (
  x_iload 3 <|
  x_push (vi 2) <|
  x_c2 (fun x y => ¬ x = y) (
  x_iload 3 <|
  x_push (vi 4) <|
  x_c2 (fun x y => ¬ x = y) (
  x_iload 4 <|
  x_ret Q) <|
  x_iload 4 <|
  x_push (vi 2) <|
  x_div odiv <|
  x_push (vi 9) <|
  x_bin osub <|
  x_ret Q) <|
  x_iload 4 <|
  x_push (vi 2) <|
  x_div odiv <|
  x_ret Q) <|
  x_push (vi 2) <|
  x_iload 4 <|
  x_push (vi 2) <|
  x_bin oadd <|
  x_bin omul <|
  x_ret Q) <|
  x_iload 4 <|
  x_push (vi 2) <|
  x_bin oadd <|
  x_ret Q
set_option maxRecDepth 100000 in
theorem b_X6_gladOf_42 {d : Nat} {Q : xV → xMem → Prop} : Snd M_X6_gladOf (d + 1) 42 Q (k_X6_gladOf_42 d Q) :=
  s_istore dX6_gladOf_42 (by decide) <|
  s_iload_n dX6_gladOf_44 rfl <|
  s_iconst dX6_gladOf_45 rfl <|
  s_icmp_ne (t := 56) dX6_gladOf_46 rfl (
  s_iload_n dX6_gladOf_56 rfl <|
  s_iconst dX6_gladOf_57 rfl <|
  s_icmp_ne (t := 70) dX6_gladOf_58 rfl (
  s_iload_n dX6_gladOf_70 rfl <|
  s_iconst dX6_gladOf_71 rfl <|
  s_icmp_ne (t := 82) dX6_gladOf_72 rfl (
  s_iload_n dX6_gladOf_82 rfl <|
  s_iconst dX6_gladOf_83 rfl <|
  s_icmp_ne (t := 97) dX6_gladOf_84 rfl (
  s_iload dX6_gladOf_97 <|
  s_ireturn dX6_gladOf_99 rfl) <|
  s_iload dX6_gladOf_87 <|
  s_iconst dX6_gladOf_89 rfl <|
  s_idiv dX6_gladOf_90 <|
  s_bipush dX6_gladOf_91 rfl (by decide) <|
  s_isub dX6_gladOf_93 <|
  s_goto (t := 99) dX6_gladOf_94 rfl <|
  s_ireturn dX6_gladOf_99 rfl) <|
  s_iload dX6_gladOf_75 <|
  s_iconst dX6_gladOf_77 rfl <|
  s_idiv dX6_gladOf_78 <|
  s_goto (t := 99) dX6_gladOf_79 rfl <|
  s_ireturn dX6_gladOf_99 rfl) <|
  s_iconst dX6_gladOf_61 rfl <|
  s_iload dX6_gladOf_62 <|
  s_iconst dX6_gladOf_64 rfl <|
  s_iadd dX6_gladOf_65 <|
  s_imul dX6_gladOf_66 <|
  s_goto (t := 99) dX6_gladOf_67 rfl <|
  s_ireturn dX6_gladOf_99 rfl) <|
  s_iload dX6_gladOf_49 <|
  s_iconst dX6_gladOf_51 rfl <|
  s_iadd dX6_gladOf_52 <|
  s_goto (t := 99) dX6_gladOf_53 rfl <|
  s_ireturn dX6_gladOf_99 rfl
-- X6_gladOf: cuts [0, 42]
def k_X6_paysOf_0 (d : Nat) (Q : xV → xMem → Prop) : xP :=
  x_aload 0 <|
  x_push (vi 2) <|
  x_iload 2 <|
  x_aload 0 <|
  x_getR 6 11 <|
  x_push (vi 2) <|
  x_iload 1 <|
  x_bin omul <|
  x_iaload <|
  x_aload 0 <|
  x_iload 1 <|
  x_iload 2 <|
  x_cV2 M_X6_isWished d 6 <|
  x_c1 (fun x => x = 0) (
  x_push (vi 0) <|
  x_cV4 M_X6_says d 6 <|
  x_ret Q) <|
  x_push (vi 1) <|
  x_cV4 M_X6_says d 6 <|
  x_ret Q
set_option maxRecDepth 100000 in
theorem b_X6_paysOf_0 {d : Nat} {Q : xV → xMem → Prop} : Snd M_X6_paysOf (d + 1) 0 Q (k_X6_paysOf_0 d Q) :=
  s_aload_n dX6_paysOf_0 rfl <|
  s_iconst dX6_paysOf_1 rfl <|
  s_iload_n dX6_paysOf_2 rfl <|
  s_aload_n dX6_paysOf_3 rfl <|
  s_getR xC6 (by decide) (fun _ _ _ => rfl) fl_X6_32 dX6_paysOf_4 <|
  s_iconst dX6_paysOf_7 rfl <|
  s_iload_n dX6_paysOf_8 rfl <|
  s_imul dX6_paysOf_9 <|
  s_iaload dX6_paysOf_10 <|
  s_aload_n dX6_paysOf_11 rfl <|
  s_iload_n dX6_paysOf_12 rfl <|
  s_iload_n dX6_paysOf_13 rfl <|
  s_cV2 ce_X6_isWished ml_X6_153 im_X6_isWished se_X6_isWished xC6 dX6_paysOf_14 <|
  s_if_eq (t := 24) dX6_paysOf_17 rfl (
  s_iconst dX6_paysOf_24 rfl <|
  s_cV4 ce_X6_says ml_X6_276 im_X6_says se_X6_says xC6 dX6_paysOf_25 <|
  s_ireturn dX6_paysOf_28 rfl) <|
  s_iconst dX6_paysOf_20 rfl <|
  s_goto (t := 25) dX6_paysOf_21 rfl <|
  s_cV4 ce_X6_says ml_X6_276 im_X6_says se_X6_says xC6 dX6_paysOf_25 <|
  s_ireturn dX6_paysOf_28 rfl
-- X6_paysOf: cuts [0]
def k_X6_glad_0 (d : Nat) (Q : xV → xMem → Prop) : xP :=
  x_aload 0 <|
  x_iload 1 <|
  x_cV1 M_X6_isClient d 6 <|
  x_c1 (fun x => x = 0) (
  x_push (vi (-1000)) <|
  x_ret Q) <|
  x_aload 0 <|
  x_iload 2 <|
  x_cV1 M_X6_isFigure d 6 <|
  x_c1 (fun x => x = 0) (
  x_push (vi (-1000)) <|
  x_ret Q) <|
  x_iload 3 <|
  x_i2l <|
  x_push (vl 0) <|
  x_push (vl 1) <|
  x_cS3 M_X6_in d <|
  x_c1 (fun x => ¬ x = 0) (
  x_iload 3 <|
  x_c1 (fun x => ¬ x = 0) (
  x_aload 0 <|
  x_iload 1 <|
  x_iload 2 <|
  x_cV2 M_X6_paysOf d 6 <|
  x_ret Q) <|
  x_aload 0 <|
  x_iload 1 <|
  x_iload 2 <|
  x_cV2 M_X6_gladOf d 6 <|
  x_ret Q) <|
  x_push (vi (-1000)) <|
  x_ret Q
set_option maxRecDepth 100000 in
theorem b_X6_glad_0 {d : Nat} {Q : xV → xMem → Prop} : Snd M_X6_glad (d + 1) 0 Q (k_X6_glad_0 d Q) :=
  s_aload_n dX6_glad_0 rfl <|
  s_iload_n dX6_glad_1 rfl <|
  s_cV1 ce_X6_isClient ml_X6_97 im_X6_isClient se_X6_isClient xC6 dX6_glad_2 <|
  s_if_eq (t := 26) dX6_glad_5 rfl (
  s_sipush dX6_glad_26 rfl (by decide) <|
  s_ireturn dX6_glad_29 rfl) <|
  s_aload_n dX6_glad_8 rfl <|
  s_iload_n dX6_glad_9 rfl <|
  s_cV1 ce_X6_isFigure ml_X6_101 im_X6_isFigure se_X6_isFigure xC6 dX6_glad_10 <|
  s_if_eq (t := 26) dX6_glad_13 rfl (
  s_sipush dX6_glad_26 rfl (by decide) <|
  s_ireturn dX6_glad_29 rfl) <|
  s_iload_n dX6_glad_16 rfl <|
  s_i2l dX6_glad_17 <|
  s_lconst dX6_glad_18 rfl (by decide) <|
  s_lconst dX6_glad_19 rfl (by decide) <|
  s_cS3 ce_X6_in ml_X6_88 sm_X6_in dX6_glad_20 <|
  s_if_ne (t := 30) dX6_glad_23 rfl (
  s_iload_n dX6_glad_30 rfl <|
  s_if_ne (t := 43) dX6_glad_31 rfl (
  s_aload_n dX6_glad_43 rfl <|
  s_iload_n dX6_glad_44 rfl <|
  s_iload_n dX6_glad_45 rfl <|
  s_cV2 ce_X6_paysOf ml_X6_285 im_X6_paysOf se_X6_paysOf xC6 dX6_glad_46 <|
  s_ireturn dX6_glad_49 rfl) <|
  s_aload_n dX6_glad_34 rfl <|
  s_iload_n dX6_glad_35 rfl <|
  s_iload_n dX6_glad_36 rfl <|
  s_cV2 ce_X6_gladOf ml_X6_282 im_X6_gladOf se_X6_gladOf xC6 dX6_glad_37 <|
  s_goto (t := 49) dX6_glad_40 rfl <|
  s_ireturn dX6_glad_49 rfl) <|
  s_sipush dX6_glad_26 rfl (by decide) <|
  s_ireturn dX6_glad_29 rfl
-- X6_glad: cuts [0]
def k_X6_tables_0 (d : Nat) (Q : xV → xMem → Prop) : xP :=
  x_push (vi 0) <|
  x_istore 1 <|
  (xJ M_X6_tables (d + 1) 2 Q)
set_option maxRecDepth 100000 in
theorem b_X6_tables_0 {d : Nat} {Q : xV → xMem → Prop} : Snd M_X6_tables (d + 1) 0 Q (k_X6_tables_0 d Q) :=
  s_iconst dX6_tables_0 rfl <|
  s_istore_n dX6_tables_1 rfl (by decide) <|
  s_J
def k_X6_tables_2 (d : Nat) (Q : xV → xMem → Prop) : xP :=
  x_iload 1 <|
  x_aload 0 <|
  x_getI 6 12 <|
  x_c2 (fun x y => y ≤ x) (
  x_aload 0 <|
  x_cV0 M_X6_begins d 6 <|
  x_vret Q) <|
  x_push (vi 0) <|
  x_istore 2 <|
  (xJ M_X6_tables (d + 1) 12 Q)
set_option maxRecDepth 100000 in
theorem b_X6_tables_2 {d : Nat} {Q : xV → xMem → Prop} : Snd M_X6_tables (d + 1) 2 Q (k_X6_tables_2 d Q) :=
  s_iload_n dX6_tables_2 rfl <|
  s_aload_n dX6_tables_3 rfl <|
  s_getI xC6 (by decide) (fun _ _ _ => rfl) fl_X6_92 dX6_tables_4 <|
  s_icmp_ge (t := 108) dX6_tables_7 rfl (
  s_aload_n dX6_tables_108 rfl <|
  s_cV0 ce_X6_begins ml_X6_288 im_X6_begins se_X6_begins xC6 dX6_tables_109 <|
  s_return dX6_tables_112 rfl) <|
  s_iconst dX6_tables_10 rfl <|
  s_istore_n dX6_tables_11 rfl (by decide) <|
  s_J
def k_X6_tables_12 (d : Nat) (Q : xV → xMem → Prop) : xP :=
  x_iload 2 <|
  x_aload 0 <|
  x_getI 6 10 <|
  x_c2 (fun x y => y ≤ x) (
  x_iinc 1 1 <|
  (xJ M_X6_tables (d + 1) 2 Q)) <|
  x_push (vi 6) <|
  x_iload 1 <|
  x_bin omul <|
  x_iload 2 <|
  x_bin oadd <|
  x_istore 3 <|
  x_aload 0 <|
  x_getR 6 28 <|
  x_iload 3 <|
  x_aload 0 <|
  x_iload 2 <|
  x_aload 0 <|
  x_getR 6 11 <|
  x_push (vi 2) <|
  x_iload 1 <|
  x_bin omul <|
  x_iaload <|
  x_cV2 M_X6_costsOf d 6 <|
  x_iastore <|
  x_aload 0 <|
  x_getR 6 29 <|
  x_iload 3 <|
  x_aload 0 <|
  x_iload 1 <|
  x_iload 2 <|
  x_cV2 M_X6_gladOf d 6 <|
  x_iastore <|
  x_aload 0 <|
  x_getR 6 30 <|
  x_iload 3 <|
  x_aload 0 <|
  x_getR 6 28 <|
  x_iload 3 <|
  x_iaload <|
  x_aload 0 <|
  x_iload 1 <|
  x_iload 2 <|
  x_cV2 M_X6_paysOf d 6 <|
  x_bin oadd <|
  x_iastore <|
  x_aload 0 <|
  x_getR 6 31 <|
  x_iload 3 <|
  x_aload 0 <|
  x_iload 2 <|
  x_aload 0 <|
  x_getR 6 11 <|
  x_push (vi 2) <|
  x_iload 1 <|
  x_bin omul <|
  x_iaload <|
  x_cV2 M_X6_appears d 6 <|
  x_zastore <|
  x_iinc 2 1 <|
  (xJ M_X6_tables (d + 1) 12 Q)
set_option maxRecDepth 100000 in
theorem b_X6_tables_12 {d : Nat} {Q : xV → xMem → Prop} : Snd M_X6_tables (d + 1) 12 Q (k_X6_tables_12 d Q) :=
  s_iload_n dX6_tables_12 rfl <|
  s_aload_n dX6_tables_13 rfl <|
  s_getI xC6 (by decide) (fun _ _ _ => rfl) fl_X6_85 dX6_tables_14 <|
  s_icmp_ge (t := 102) dX6_tables_17 rfl (
  s_iinc dX6_tables_102 (by decide) <|
  s_goto (t := 2) dX6_tables_105 rfl <|
  s_J) <|
  s_bipush dX6_tables_20 rfl (by decide) <|
  s_iload_n dX6_tables_22 rfl <|
  s_imul dX6_tables_23 <|
  s_iload_n dX6_tables_24 rfl <|
  s_iadd dX6_tables_25 <|
  s_istore_n dX6_tables_26 rfl (by decide) <|
  s_aload_n dX6_tables_27 rfl <|
  s_getR xC6 (by decide) (fun _ _ _ => rfl) fl_X6_35 dX6_tables_28 <|
  s_iload_n dX6_tables_31 rfl <|
  s_aload_n dX6_tables_32 rfl <|
  s_iload_n dX6_tables_33 rfl <|
  s_aload_n dX6_tables_34 rfl <|
  s_getR xC6 (by decide) (fun _ _ _ => rfl) fl_X6_32 dX6_tables_35 <|
  s_iconst dX6_tables_38 rfl <|
  s_iload_n dX6_tables_39 rfl <|
  s_imul dX6_tables_40 <|
  s_iaload dX6_tables_41 <|
  s_cV2 ce_X6_costsOf ml_X6_144 im_X6_costsOf se_X6_costsOf xC6 dX6_tables_42 <|
  s_iastore dX6_tables_45 <|
  s_aload_n dX6_tables_46 rfl <|
  s_getR xC6 (by decide) (fun _ _ _ => rfl) fl_X6_38 dX6_tables_47 <|
  s_iload_n dX6_tables_50 rfl <|
  s_aload_n dX6_tables_51 rfl <|
  s_iload_n dX6_tables_52 rfl <|
  s_iload_n dX6_tables_53 rfl <|
  s_cV2 ce_X6_gladOf ml_X6_282 im_X6_gladOf se_X6_gladOf xC6 dX6_tables_54 <|
  s_iastore dX6_tables_57 <|
  s_aload_n dX6_tables_58 rfl <|
  s_getR xC6 (by decide) (fun _ _ _ => rfl) fl_X6_41 dX6_tables_59 <|
  s_iload_n dX6_tables_62 rfl <|
  s_aload_n dX6_tables_63 rfl <|
  s_getR xC6 (by decide) (fun _ _ _ => rfl) fl_X6_35 dX6_tables_64 <|
  s_iload_n dX6_tables_67 rfl <|
  s_iaload dX6_tables_68 <|
  s_aload_n dX6_tables_69 rfl <|
  s_iload_n dX6_tables_70 rfl <|
  s_iload_n dX6_tables_71 rfl <|
  s_cV2 ce_X6_paysOf ml_X6_285 im_X6_paysOf se_X6_paysOf xC6 dX6_tables_72 <|
  s_iadd dX6_tables_75 <|
  s_iastore dX6_tables_76 <|
  s_aload_n dX6_tables_77 rfl <|
  s_getR xC6 (by decide) (fun _ _ _ => rfl) fl_X6_44 dX6_tables_78 <|
  s_iload_n dX6_tables_81 rfl <|
  s_aload_n dX6_tables_82 rfl <|
  s_iload_n dX6_tables_83 rfl <|
  s_aload_n dX6_tables_84 rfl <|
  s_getR xC6 (by decide) (fun _ _ _ => rfl) fl_X6_32 dX6_tables_85 <|
  s_iconst dX6_tables_88 rfl <|
  s_iload_n dX6_tables_89 rfl <|
  s_imul dX6_tables_90 <|
  s_iaload dX6_tables_91 <|
  s_cV2 ce_X6_appears ml_X6_147 im_X6_appears se_X6_appears xC6 dX6_tables_92 <|
  s_zastore dX6_tables_95 <|
  s_iinc dX6_tables_96 (by decide) <|
  s_goto (t := 12) dX6_tables_99 rfl <|
  s_J
-- X6_tables: cuts [0, 2, 12]
def k_X6_begins_0 (d : Nat) (Q : xV → xMem → Prop) : xP :=
  x_push (vi 0) <|
  x_istore 1 <|
  (xJ M_X6_begins (d + 1) 2 Q)
set_option maxRecDepth 100000 in
theorem b_X6_begins_0 {d : Nat} {Q : xV → xMem → Prop} : Snd M_X6_begins (d + 1) 0 Q (k_X6_begins_0 d Q) :=
  s_iconst dX6_begins_0 rfl <|
  s_istore_n dX6_begins_1 rfl (by decide) <|
  s_J
def k_X6_begins_2 (d : Nat) (Q : xV → xMem → Prop) : xP :=
  x_iload 1 <|
  x_aload 0 <|
  x_getI 6 10 <|
  x_c2 (fun x y => y ≤ x) (
  x_aload 0 <|
  x_push (vi 0) <|
  x_putI 6 33 <|
  x_aload 0 <|
  x_push (vi 0) <|
  x_putI 6 34 <|
  x_vret Q) <|
  x_aload 0 <|
  x_getR 6 32 <|
  x_iload 1 <|
  x_aload 0 <|
  x_getR 6 9 <|
  x_push (vi 3) <|
  x_iload 1 <|
  x_bin omul <|
  x_push (vi 1) <|
  x_bin oadd <|
  x_iaload <|
  x_iastore <|
  x_iinc 1 1 <|
  (xJ M_X6_begins (d + 1) 2 Q)
set_option maxRecDepth 100000 in
theorem b_X6_begins_2 {d : Nat} {Q : xV → xMem → Prop} : Snd M_X6_begins (d + 1) 2 Q (k_X6_begins_2 d Q) :=
  s_iload_n dX6_begins_2 rfl <|
  s_aload_n dX6_begins_3 rfl <|
  s_getI xC6 (by decide) (fun _ _ _ => rfl) fl_X6_85 dX6_begins_4 <|
  s_icmp_ge (t := 32) dX6_begins_7 rfl (
  s_aload_n dX6_begins_32 rfl <|
  s_iconst dX6_begins_33 rfl <|
  s_putI xC6 (by decide) (fun _ _ _ => rfl) rfl rfl fl_X6_291 dX6_begins_34 <|
  s_aload_n dX6_begins_37 rfl <|
  s_iconst dX6_begins_38 rfl <|
  s_putI xC6 (by decide) (fun _ _ _ => rfl) rfl rfl fl_X6_294 dX6_begins_39 <|
  s_return dX6_begins_42 rfl) <|
  s_aload_n dX6_begins_10 rfl <|
  s_getR xC6 (by decide) (fun _ _ _ => rfl) fl_X6_48 dX6_begins_11 <|
  s_iload_n dX6_begins_14 rfl <|
  s_aload_n dX6_begins_15 rfl <|
  s_getR xC6 (by decide) (fun _ _ _ => rfl) fl_X6_29 dX6_begins_16 <|
  s_iconst dX6_begins_19 rfl <|
  s_iload_n dX6_begins_20 rfl <|
  s_imul dX6_begins_21 <|
  s_iconst dX6_begins_22 rfl <|
  s_iadd dX6_begins_23 <|
  s_iaload dX6_begins_24 <|
  s_iastore dX6_begins_25 <|
  s_iinc dX6_begins_26 (by decide) <|
  s_goto (t := 2) dX6_begins_29 rfl <|
  s_J
-- X6_begins: cuts [0, 2]
def k_X6_can_0 (d : Nat) (Q : xV → xMem → Prop) : xP :=
  x_iload 2 <|
  x_push (vi (-1)) <|
  x_c2 (fun x y => x = y) (
  x_push (vi 1) <|
  x_zret Q) <|
  x_aload 0 <|
  x_getR 6 31 <|
  x_push (vi 6) <|
  x_iload 1 <|
  x_bin omul <|
  x_iload 2 <|
  x_bin oadd <|
  x_zaload <|
  x_c1 (fun x => x = 0) (
  x_push (vi 0) <|
  x_zret Q) <|
  x_aload 0 <|
  x_getR 6 32 <|
  x_iload 2 <|
  x_iaload <|
  x_aload 0 <|
  x_getR 6 28 <|
  x_push (vi 6) <|
  x_iload 1 <|
  x_bin omul <|
  x_iload 2 <|
  x_bin oadd <|
  x_iaload <|
  x_c2 (fun x y => x < y) (
  x_push (vi 0) <|
  x_zret Q) <|
  x_push (vi 1) <|
  x_zret Q
set_option maxRecDepth 100000 in
theorem b_X6_can_0 {d : Nat} {Q : xV → xMem → Prop} : Snd M_X6_can (d + 1) 0 Q (k_X6_can_0 d Q) :=
  s_iload_n dX6_can_0 rfl <|
  s_iconst dX6_can_1 rfl <|
  s_icmp_eq (t := 39) dX6_can_2 rfl (
  s_iconst dX6_can_39 rfl <|
  s_goto (t := 44) dX6_can_40 rfl <|
  s_zreturn dX6_can_44 rfl) <|
  s_aload_n dX6_can_5 rfl <|
  s_getR xC6 (by decide) (fun _ _ _ => rfl) fl_X6_44 dX6_can_6 <|
  s_bipush dX6_can_9 rfl (by decide) <|
  s_iload_n dX6_can_11 rfl <|
  s_imul dX6_can_12 <|
  s_iload_n dX6_can_13 rfl <|
  s_iadd dX6_can_14 <|
  s_zaload dX6_can_15 <|
  s_if_eq (t := 43) dX6_can_16 rfl (
  s_iconst dX6_can_43 rfl <|
  s_zreturn dX6_can_44 rfl) <|
  s_aload_n dX6_can_19 rfl <|
  s_getR xC6 (by decide) (fun _ _ _ => rfl) fl_X6_48 dX6_can_20 <|
  s_iload_n dX6_can_23 rfl <|
  s_iaload dX6_can_24 <|
  s_aload_n dX6_can_25 rfl <|
  s_getR xC6 (by decide) (fun _ _ _ => rfl) fl_X6_35 dX6_can_26 <|
  s_bipush dX6_can_29 rfl (by decide) <|
  s_iload_n dX6_can_31 rfl <|
  s_imul dX6_can_32 <|
  s_iload_n dX6_can_33 rfl <|
  s_iadd dX6_can_34 <|
  s_iaload dX6_can_35 <|
  s_icmp_lt (t := 43) dX6_can_36 rfl (
  s_iconst dX6_can_43 rfl <|
  s_zreturn dX6_can_44 rfl) <|
  s_iconst dX6_can_39 rfl <|
  s_goto (t := 44) dX6_can_40 rfl <|
  s_zreturn dX6_can_44 rfl
-- X6_can: cuts [0]
def k_X6_turns_0 (d : Nat) (Q : xV → xMem → Prop) : xP :=
  x_iload 2 <|
  x_push (vi (-1)) <|
  x_c2 (fun x y => ¬ x = y) (
  x_push (vi 6) <|
  x_iload 1 <|
  x_bin omul <|
  x_iload 2 <|
  x_bin oadd <|
  x_istore 4 <|
  x_aload 0 <|
  x_getR 6 32 <|
  x_iload 2 <|
  x_dup2 <|
  x_iaload <|
  x_iload 3 <|
  x_aload 0 <|
  x_getR 6 28 <|
  x_iload 4 <|
  x_iaload <|
  x_bin omul <|
  x_bin osub <|
  x_iastore <|
  x_aload 0 <|
  x_dup <|
  x_getI 6 33 <|
  x_iload 3 <|
  x_aload 0 <|
  x_getR 6 29 <|
  x_iload 4 <|
  x_iaload <|
  x_bin omul <|
  x_bin oadd <|
  x_putI 6 33 <|
  x_aload 0 <|
  x_dup <|
  x_getI 6 34 <|
  x_iload 3 <|
  x_aload 0 <|
  x_getR 6 30 <|
  x_iload 4 <|
  x_iaload <|
  x_bin omul <|
  x_bin oadd <|
  x_putI 6 34 <|
  x_vret Q) <|
  x_vret Q
set_option maxRecDepth 100000 in
theorem b_X6_turns_0 {d : Nat} {Q : xV → xMem → Prop} : Snd M_X6_turns (d + 1) 0 Q (k_X6_turns_0 d Q) :=
  s_iload_n dX6_turns_0 rfl <|
  s_iconst dX6_turns_1 rfl <|
  s_icmp_ne (t := 6) dX6_turns_2 rfl (
  s_bipush dX6_turns_6 rfl (by decide) <|
  s_iload_n dX6_turns_8 rfl <|
  s_imul dX6_turns_9 <|
  s_iload_n dX6_turns_10 rfl <|
  s_iadd dX6_turns_11 <|
  s_istore dX6_turns_12 (by decide) <|
  s_aload_n dX6_turns_14 rfl <|
  s_getR xC6 (by decide) (fun _ _ _ => rfl) fl_X6_48 dX6_turns_15 <|
  s_iload_n dX6_turns_18 rfl <|
  s_dup2 dX6_turns_19 <|
  s_iaload dX6_turns_20 <|
  s_iload_n dX6_turns_21 rfl <|
  s_aload_n dX6_turns_22 rfl <|
  s_getR xC6 (by decide) (fun _ _ _ => rfl) fl_X6_35 dX6_turns_23 <|
  s_iload dX6_turns_26 <|
  s_iaload dX6_turns_28 <|
  s_imul dX6_turns_29 <|
  s_isub dX6_turns_30 <|
  s_iastore dX6_turns_31 <|
  s_aload_n dX6_turns_32 rfl <|
  s_dup dX6_turns_33 <|
  s_getI xC6 (by decide) (fun _ _ _ => rfl) fl_X6_291 dX6_turns_34 <|
  s_iload_n dX6_turns_37 rfl <|
  s_aload_n dX6_turns_38 rfl <|
  s_getR xC6 (by decide) (fun _ _ _ => rfl) fl_X6_38 dX6_turns_39 <|
  s_iload dX6_turns_42 <|
  s_iaload dX6_turns_44 <|
  s_imul dX6_turns_45 <|
  s_iadd dX6_turns_46 <|
  s_putI xC6 (by decide) (fun _ _ _ => rfl) rfl rfl fl_X6_291 dX6_turns_47 <|
  s_aload_n dX6_turns_50 rfl <|
  s_dup dX6_turns_51 <|
  s_getI xC6 (by decide) (fun _ _ _ => rfl) fl_X6_294 dX6_turns_52 <|
  s_iload_n dX6_turns_55 rfl <|
  s_aload_n dX6_turns_56 rfl <|
  s_getR xC6 (by decide) (fun _ _ _ => rfl) fl_X6_41 dX6_turns_57 <|
  s_iload dX6_turns_60 <|
  s_iaload dX6_turns_62 <|
  s_imul dX6_turns_63 <|
  s_iadd dX6_turns_64 <|
  s_putI xC6 (by decide) (fun _ _ _ => rfl) rfl rfl fl_X6_294 dX6_turns_65 <|
  s_return dX6_turns_68 rfl) <|
  s_return dX6_turns_5 rfl
-- X6_turns: cuts [0]
def k_X6_isShowing_0 (d : Nat) (Q : xV → xMem → Prop) : xP :=
  x_aload 0 <|
  x_getR 6 50 <|
  x_iload 1 <|
  x_iaload <|
  x_aload 0 <|
  x_getI 6 12 <|
  x_c2 (fun x y => x = y) (
  x_push (vi 0) <|
  x_istore 2 <|
  (xJ M_X6_isShowing (d + 1) 17 Q)) <|
  x_push (vi 0) <|
  x_zret Q
set_option maxRecDepth 100000 in
theorem b_X6_isShowing_0 {d : Nat} {Q : xV → xMem → Prop} : Snd M_X6_isShowing (d + 1) 0 Q (k_X6_isShowing_0 d Q) :=
  s_aload_n dX6_isShowing_0 rfl <|
  s_getR xC6 (by decide) (fun _ _ _ => rfl) fl_X6_72 dX6_isShowing_1 <|
  s_iload_n dX6_isShowing_4 rfl <|
  s_iaload dX6_isShowing_5 <|
  s_aload_n dX6_isShowing_6 rfl <|
  s_getI xC6 (by decide) (fun _ _ _ => rfl) fl_X6_92 dX6_isShowing_7 <|
  s_icmp_eq (t := 15) dX6_isShowing_10 rfl (
  s_iconst dX6_isShowing_15 rfl <|
  s_istore_n dX6_isShowing_16 rfl (by decide) <|
  s_J) <|
  s_iconst dX6_isShowing_13 rfl <|
  s_zreturn dX6_isShowing_14 rfl
def k_X6_isShowing_17 (d : Nat) (Q : xV → xMem → Prop) : xP :=
  x_iload 2 <|
  x_aload 0 <|
  x_getI 6 12 <|
  x_c2 (fun x y => y ≤ x) (
  x_push (vi 1) <|
  x_zret Q) <|
  x_aload 0 <|
  x_getR 6 51 <|
  x_push (vi 40) <|
  x_iload 1 <|
  x_bin omul <|
  x_iload 2 <|
  x_bin oadd <|
  x_iaload <|
  x_istore 3 <|
  x_iload 3 <|
  x_push (vi (-1)) <|
  x_c2 (fun x y => x = y) (
  x_iinc 2 1 <|
  (xJ M_X6_isShowing (d + 1) 17 Q)) <|
  x_aload 0 <|
  x_iload 3 <|
  x_cV1 M_X6_isFigure d 6 <|
  x_c1 (fun x => ¬ x = 0) (
  x_iinc 2 1 <|
  (xJ M_X6_isShowing (d + 1) 17 Q)) <|
  x_push (vi 0) <|
  x_zret Q
set_option maxRecDepth 100000 in
theorem b_X6_isShowing_17 {d : Nat} {Q : xV → xMem → Prop} : Snd M_X6_isShowing (d + 1) 17 Q (k_X6_isShowing_17 d Q) :=
  s_iload_n dX6_isShowing_17 rfl <|
  s_aload_n dX6_isShowing_18 rfl <|
  s_getI xC6 (by decide) (fun _ _ _ => rfl) fl_X6_92 dX6_isShowing_19 <|
  s_icmp_ge (t := 58) dX6_isShowing_22 rfl (
  s_iconst dX6_isShowing_58 rfl <|
  s_zreturn dX6_isShowing_59 rfl) <|
  s_aload_n dX6_isShowing_25 rfl <|
  s_getR xC6 (by decide) (fun _ _ _ => rfl) fl_X6_75 dX6_isShowing_26 <|
  s_bipush dX6_isShowing_29 rfl (by decide) <|
  s_iload_n dX6_isShowing_31 rfl <|
  s_imul dX6_isShowing_32 <|
  s_iload_n dX6_isShowing_33 rfl <|
  s_iadd dX6_isShowing_34 <|
  s_iaload dX6_isShowing_35 <|
  s_istore_n dX6_isShowing_36 rfl (by decide) <|
  s_iload_n dX6_isShowing_37 rfl <|
  s_iconst dX6_isShowing_38 rfl <|
  s_icmp_eq (t := 52) dX6_isShowing_39 rfl (
  s_iinc dX6_isShowing_52 (by decide) <|
  s_goto (t := 17) dX6_isShowing_55 rfl <|
  s_J) <|
  s_aload_n dX6_isShowing_42 rfl <|
  s_iload_n dX6_isShowing_43 rfl <|
  s_cV1 ce_X6_isFigure ml_X6_101 im_X6_isFigure se_X6_isFigure xC6 dX6_isShowing_44 <|
  s_if_ne (t := 52) dX6_isShowing_47 rfl (
  s_iinc dX6_isShowing_52 (by decide) <|
  s_goto (t := 17) dX6_isShowing_55 rfl <|
  s_J) <|
  s_iconst dX6_isShowing_50 rfl <|
  s_zreturn dX6_isShowing_51 rfl
-- X6_isShowing: cuts [0, 17]
def k_X6_goesThrough_0 (d : Nat) (Q : xV → xMem → Prop) : xP :=
  x_aload 0 <|
  x_cV0 M_X6_tables d 6 <|
  x_push (vi 0) <|
  x_istore 2 <|
  (xJ M_X6_goesThrough (d + 1) 6 Q)
set_option maxRecDepth 100000 in
theorem b_X6_goesThrough_0 {d : Nat} {Q : xV → xMem → Prop} : Snd M_X6_goesThrough (d + 1) 0 Q (k_X6_goesThrough_0 d Q) :=
  s_aload_n dX6_goesThrough_0 rfl <|
  s_cV0 ce_X6_tables ml_X6_297 im_X6_tables se_X6_tables xC6 dX6_goesThrough_1 <|
  s_iconst dX6_goesThrough_4 rfl <|
  s_istore_n dX6_goesThrough_5 rfl (by decide) <|
  s_J
def k_X6_goesThrough_6 (d : Nat) (Q : xV → xMem → Prop) : xP :=
  x_iload 2 <|
  x_aload 0 <|
  x_getI 6 12 <|
  x_c2 (fun x y => y ≤ x) (
  x_push (vi (-1)) <|
  x_ret Q) <|
  x_aload 0 <|
  x_getR 6 51 <|
  x_push (vi 40) <|
  x_iload 1 <|
  x_bin omul <|
  x_iload 2 <|
  x_bin oadd <|
  x_iaload <|
  x_istore 3 <|
  x_aload 0 <|
  x_iload 2 <|
  x_iload 3 <|
  x_cV2 M_X6_can d 6 <|
  x_c1 (fun x => ¬ x = 0) (
  x_aload 0 <|
  x_iload 2 <|
  x_iload 3 <|
  x_push (vi 1) <|
  x_cV3 M_X6_turns d 6 <|
  x_iinc 2 1 <|
  (xJ M_X6_goesThrough (d + 1) 6 Q)) <|
  x_iload 2 <|
  x_ret Q
set_option maxRecDepth 100000 in
theorem b_X6_goesThrough_6 {d : Nat} {Q : xV → xMem → Prop} : Snd M_X6_goesThrough (d + 1) 6 Q (k_X6_goesThrough_6 d Q) :=
  s_iload_n dX6_goesThrough_6 rfl <|
  s_aload_n dX6_goesThrough_7 rfl <|
  s_getI xC6 (by decide) (fun _ _ _ => rfl) fl_X6_92 dX6_goesThrough_8 <|
  s_icmp_ge (t := 50) dX6_goesThrough_11 rfl (
  s_iconst dX6_goesThrough_50 rfl <|
  s_ireturn dX6_goesThrough_51 rfl) <|
  s_aload_n dX6_goesThrough_14 rfl <|
  s_getR xC6 (by decide) (fun _ _ _ => rfl) fl_X6_75 dX6_goesThrough_15 <|
  s_bipush dX6_goesThrough_18 rfl (by decide) <|
  s_iload_n dX6_goesThrough_20 rfl <|
  s_imul dX6_goesThrough_21 <|
  s_iload_n dX6_goesThrough_22 rfl <|
  s_iadd dX6_goesThrough_23 <|
  s_iaload dX6_goesThrough_24 <|
  s_istore_n dX6_goesThrough_25 rfl (by decide) <|
  s_aload_n dX6_goesThrough_26 rfl <|
  s_iload_n dX6_goesThrough_27 rfl <|
  s_iload_n dX6_goesThrough_28 rfl <|
  s_cV2 ce_X6_can ml_X6_300 im_X6_can se_X6_can xC6 dX6_goesThrough_29 <|
  s_if_ne (t := 37) dX6_goesThrough_32 rfl (
  s_aload_n dX6_goesThrough_37 rfl <|
  s_iload_n dX6_goesThrough_38 rfl <|
  s_iload_n dX6_goesThrough_39 rfl <|
  s_iconst dX6_goesThrough_40 rfl <|
  s_cV3 ce_X6_turns ml_X6_303 im_X6_turns se_X6_turns xC6 dX6_goesThrough_41 <|
  s_iinc dX6_goesThrough_44 (by decide) <|
  s_goto (t := 6) dX6_goesThrough_47 rfl <|
  s_J) <|
  s_iload_n dX6_goesThrough_35 rfl <|
  s_ireturn dX6_goesThrough_36 rfl
-- X6_goesThrough: cuts [0, 6]
def k_X6_show_0 (d : Nat) (Q : xV → xMem → Prop) : xP :=
  x_iload 1 <|
  x_cS1 M_X6_isSheet d <|
  x_c1 (fun x => x = 0) (
  x_push (vi (-100000)) <|
  x_ret Q) <|
  x_iload 2 <|
  x_i2l <|
  x_push (vl 0) <|
  x_push (vl (2)) <|
  x_cS3 M_X6_in d <|
  x_c1 (fun x => ¬ x = 0) (
  (xJ M_X6_show (d + 1) 44 Q)) <|
  x_iload 2 <|
  x_i2l <|
  x_push (vl (10)) <|
  x_push (vl (15)) <|
  x_cS3 M_X6_in d <|
  x_c1 (fun x => x = 0) (
  x_push (vi (-100000)) <|
  x_ret Q) <|
  x_aload 0 <|
  x_iload 2 <|
  x_push (vi 10) <|
  x_bin osub <|
  x_cV1 M_X6_isFigure d 6 <|
  x_c1 (fun x => x = 0) (
  x_push (vi (-100000)) <|
  x_ret Q) <|
  (xJ M_X6_show (d + 1) 44 Q)
set_option maxRecDepth 100000 in
theorem b_X6_show_0 {d : Nat} {Q : xV → xMem → Prop} : Snd M_X6_show (d + 1) 0 Q (k_X6_show_0 d Q) :=
  s_iload_n dX6_show_0 rfl <|
  s_cS1 ce_X6_isSheet ml_X6_306 sm_X6_isSheet dX6_show_1 <|
  s_if_eq (t := 61) dX6_show_4 rfl (
  s_ldc_w dX6_show_61 kc_X6_314 rfl (by decide) <|
  s_ireturn dX6_show_64 rfl) <|
  s_iload_n dX6_show_7 rfl <|
  s_i2l dX6_show_8 <|
  s_lconst dX6_show_9 rfl (by decide) <|
  s_ldc2 dX6_show_10 kl_X6_280 rfl (by decide) <|
  s_cS3 ce_X6_in ml_X6_88 sm_X6_in dX6_show_13 <|
  s_if_ne (t := 44) dX6_show_16 rfl (
  s_J) <|
  s_iload_n dX6_show_19 rfl <|
  s_i2l dX6_show_20 <|
  s_ldc2 dX6_show_21 kl_X6_136 rfl (by decide) <|
  s_ldc2 dX6_show_24 kl_X6_309 rfl (by decide) <|
  s_cS3 ce_X6_in ml_X6_88 sm_X6_in dX6_show_27 <|
  s_if_eq (t := 61) dX6_show_30 rfl (
  s_ldc_w dX6_show_61 kc_X6_314 rfl (by decide) <|
  s_ireturn dX6_show_64 rfl) <|
  s_aload_n dX6_show_33 rfl <|
  s_iload_n dX6_show_34 rfl <|
  s_bipush dX6_show_35 rfl (by decide) <|
  s_isub dX6_show_37 <|
  s_cV1 ce_X6_isFigure ml_X6_101 im_X6_isFigure se_X6_isFigure xC6 dX6_show_38 <|
  s_if_eq (t := 61) dX6_show_41 rfl (
  s_ldc_w dX6_show_61 kc_X6_314 rfl (by decide) <|
  s_ireturn dX6_show_64 rfl) <|
  s_J
def k_X6_show_44 (d : Nat) (Q : xV → xMem → Prop) : xP :=
  x_aload 0 <|
  x_getR 6 48 <|
  x_iload 1 <|
  x_zaload <|
  x_c1 (fun x => x = 0) (
  x_push (vi (-100000)) <|
  x_ret Q) <|
  x_aload 0 <|
  x_iload 1 <|
  x_cV1 M_X6_isShowing d 6 <|
  x_c1 (fun x => ¬ x = 0) (
  x_aload 0 <|
  x_iload 1 <|
  x_cV1 M_X6_goesThrough d 6 <|
  x_istore 3 <|
  x_iload 2 <|
  x_c1 (fun x => ¬ x = 0) (
  x_iload 2 <|
  x_push (vi 1) <|
  x_c2 (fun x y => ¬ x = y) (
  x_iload 2 <|
  x_push (vi 2) <|
  x_c2 (fun x y => ¬ x = y) (
  x_aload 0 <|
  x_getR 6 32 <|
  x_iload 2 <|
  x_push (vi 10) <|
  x_bin osub <|
  x_iaload <|
  x_ret Q) <|
  x_aload 0 <|
  x_getI 6 34 <|
  x_ret Q) <|
  x_aload 0 <|
  x_getI 6 33 <|
  x_ret Q) <|
  x_iload 3 <|
  x_ret Q) <|
  x_push (vi (-100000)) <|
  x_ret Q
set_option maxRecDepth 100000 in
theorem b_X6_show_44 {d : Nat} {Q : xV → xMem → Prop} : Snd M_X6_show (d + 1) 44 Q (k_X6_show_44 d Q) :=
  s_aload_n dX6_show_44 rfl <|
  s_getR xC6 (by decide) (fun _ _ _ => rfl) fl_X6_66 dX6_show_45 <|
  s_iload_n dX6_show_48 rfl <|
  s_zaload dX6_show_49 <|
  s_if_eq (t := 61) dX6_show_50 rfl (
  s_ldc_w dX6_show_61 kc_X6_314 rfl (by decide) <|
  s_ireturn dX6_show_64 rfl) <|
  s_aload_n dX6_show_53 rfl <|
  s_iload_n dX6_show_54 rfl <|
  s_cV1 ce_X6_isShowing ml_X6_311 im_X6_isShowing se_X6_isShowing xC6 dX6_show_55 <|
  s_if_ne (t := 65) dX6_show_58 rfl (
  s_aload_n dX6_show_65 rfl <|
  s_iload_n dX6_show_66 rfl <|
  s_cV1 ce_X6_goesThrough ml_X6_315 im_X6_goesThrough se_X6_goesThrough xC6 dX6_show_67 <|
  s_istore_n dX6_show_70 rfl (by decide) <|
  s_iload_n dX6_show_71 rfl <|
  s_if_ne (t := 79) dX6_show_72 rfl (
  s_iload_n dX6_show_79 rfl <|
  s_iconst dX6_show_80 rfl <|
  s_icmp_ne (t := 91) dX6_show_81 rfl (
  s_iload_n dX6_show_91 rfl <|
  s_iconst dX6_show_92 rfl <|
  s_icmp_ne (t := 103) dX6_show_93 rfl (
  s_aload_n dX6_show_103 rfl <|
  s_getR xC6 (by decide) (fun _ _ _ => rfl) fl_X6_48 dX6_show_104 <|
  s_iload_n dX6_show_107 rfl <|
  s_bipush dX6_show_108 rfl (by decide) <|
  s_isub dX6_show_110 <|
  s_iaload dX6_show_111 <|
  s_ireturn dX6_show_112 rfl) <|
  s_aload_n dX6_show_96 rfl <|
  s_getI xC6 (by decide) (fun _ _ _ => rfl) fl_X6_294 dX6_show_97 <|
  s_goto (t := 112) dX6_show_100 rfl <|
  s_ireturn dX6_show_112 rfl) <|
  s_aload_n dX6_show_84 rfl <|
  s_getI xC6 (by decide) (fun _ _ _ => rfl) fl_X6_291 dX6_show_85 <|
  s_goto (t := 112) dX6_show_88 rfl <|
  s_ireturn dX6_show_112 rfl) <|
  s_iload_n dX6_show_75 rfl <|
  s_goto (t := 112) dX6_show_76 rfl <|
  s_ireturn dX6_show_112 rfl) <|
  s_ldc_w dX6_show_61 kc_X6_314 rfl (by decide) <|
  s_ireturn dX6_show_64 rfl
-- X6_show: cuts [0, 44]
def k_X6_take_0 (d : Nat) (Q : xV → xMem → Prop) : xP :=
  x_iload 1 <|
  x_cS1 M_X6_isSheet d <|
  x_c1 (fun x => ¬ x = 0) (
  x_aload 0 <|
  x_getR 6 48 <|
  x_iload 1 <|
  x_zaload <|
  x_c1 (fun x => ¬ x = 0) (
  x_aload 0 <|
  x_iload 1 <|
  x_cV1 M_X6_isShowing d 6 <|
  x_c1 (fun x => ¬ x = 0) (
  x_aload 0 <|
  x_iload 1 <|
  x_cV1 M_X6_goesThrough d 6 <|
  x_push (vi (-1)) <|
  x_c2 (fun x y => x = y) (
  x_push (vi 0) <|
  x_istore 2 <|
  (xJ M_X6_take (d + 1) 47 Q)) <|
  x_push (vi (-3)) <|
  x_ret Q) <|
  x_push (vi (-2)) <|
  x_ret Q) <|
  x_push (vi (-11)) <|
  x_ret Q) <|
  x_push (vi (-2)) <|
  x_ret Q
set_option maxRecDepth 100000 in
theorem b_X6_take_0 {d : Nat} {Q : xV → xMem → Prop} : Snd M_X6_take (d + 1) 0 Q (k_X6_take_0 d Q) :=
  s_iload_n dX6_take_0 rfl <|
  s_cS1 ce_X6_isSheet ml_X6_306 sm_X6_isSheet dX6_take_1 <|
  s_if_ne (t := 10) dX6_take_4 rfl (
  s_aload_n dX6_take_10 rfl <|
  s_getR xC6 (by decide) (fun _ _ _ => rfl) fl_X6_66 dX6_take_11 <|
  s_iload_n dX6_take_14 rfl <|
  s_zaload dX6_take_15 <|
  s_if_ne (t := 22) dX6_take_16 rfl (
  s_aload_n dX6_take_22 rfl <|
  s_iload_n dX6_take_23 rfl <|
  s_cV1 ce_X6_isShowing ml_X6_311 im_X6_isShowing se_X6_isShowing xC6 dX6_take_24 <|
  s_if_ne (t := 33) dX6_take_27 rfl (
  s_aload_n dX6_take_33 rfl <|
  s_iload_n dX6_take_34 rfl <|
  s_cV1 ce_X6_goesThrough ml_X6_315 im_X6_goesThrough se_X6_goesThrough xC6 dX6_take_35 <|
  s_iconst dX6_take_38 rfl <|
  s_icmp_eq (t := 45) dX6_take_39 rfl (
  s_iconst dX6_take_45 rfl <|
  s_istore_n dX6_take_46 rfl (by decide) <|
  s_J) <|
  s_bipush dX6_take_42 rfl (by decide) <|
  s_ireturn dX6_take_44 rfl) <|
  s_bipush dX6_take_30 rfl (by decide) <|
  s_ireturn dX6_take_32 rfl) <|
  s_bipush dX6_take_19 rfl (by decide) <|
  s_ireturn dX6_take_21 rfl) <|
  s_bipush dX6_take_7 rfl (by decide) <|
  s_ireturn dX6_take_9 rfl
def k_X6_take_47 (d : Nat) (Q : xV → xMem → Prop) : xP :=
  x_iload 2 <|
  x_aload 0 <|
  x_getI 6 10 <|
  x_c2 (fun x y => y ≤ x) (
  x_aload 0 <|
  x_getI 6 34 <|
  x_ret Q) <|
  x_aload 0 <|
  x_getR 6 9 <|
  x_push (vi 3) <|
  x_iload 2 <|
  x_bin omul <|
  x_push (vi 1) <|
  x_bin oadd <|
  x_aload 0 <|
  x_getR 6 32 <|
  x_iload 2 <|
  x_iaload <|
  x_iastore <|
  x_iinc 2 1 <|
  (xJ M_X6_take (d + 1) 47 Q)
set_option maxRecDepth 100000 in
theorem b_X6_take_47 {d : Nat} {Q : xV → xMem → Prop} : Snd M_X6_take (d + 1) 47 Q (k_X6_take_47 d Q) :=
  s_iload_n dX6_take_47 rfl <|
  s_aload_n dX6_take_48 rfl <|
  s_getI xC6 (by decide) (fun _ _ _ => rfl) fl_X6_85 dX6_take_49 <|
  s_icmp_ge (t := 77) dX6_take_52 rfl (
  s_aload_n dX6_take_77 rfl <|
  s_getI xC6 (by decide) (fun _ _ _ => rfl) fl_X6_294 dX6_take_78 <|
  s_ireturn dX6_take_81 rfl) <|
  s_aload_n dX6_take_55 rfl <|
  s_getR xC6 (by decide) (fun _ _ _ => rfl) fl_X6_29 dX6_take_56 <|
  s_iconst dX6_take_59 rfl <|
  s_iload_n dX6_take_60 rfl <|
  s_imul dX6_take_61 <|
  s_iconst dX6_take_62 rfl <|
  s_iadd dX6_take_63 <|
  s_aload_n dX6_take_64 rfl <|
  s_getR xC6 (by decide) (fun _ _ _ => rfl) fl_X6_48 dX6_take_65 <|
  s_iload_n dX6_take_68 rfl <|
  s_iaload dX6_take_69 <|
  s_iastore dX6_take_70 <|
  s_iinc dX6_take_71 (by decide) <|
  s_goto (t := 47) dX6_take_74 rfl <|
  s_J
-- X6_take: cuts [0, 47]
def k_X6_seeks_0 (d : Nat) (Q : xV → xMem → Prop) : xP :=
  x_iload 1 <|
  x_aload 0 <|
  x_getI 6 12 <|
  x_c2 (fun x y => ¬ x = y) (
  x_push (vi (-1)) <|
  x_istore 3 <|
  (xJ M_X6_seeks (d + 1) 76 Q)) <|
  x_aload 0 <|
  x_getI 6 36 <|
  x_c1 (fun x => x = 0) (
  (xJ M_X6_seeks (d + 1) 47 Q)) <|
  x_aload 0 <|
  x_getI 6 35 <|
  x_c1 (fun x => ¬ x = 0) (
  x_aload 0 <|
  x_getI 6 34 <|
  x_aload 0 <|
  x_getI 6 39 <|
  x_c2 (fun x y => x ≤ y) (
  x_vret Q) <|
  (xJ M_X6_seeks (d + 1) 47 Q)) <|
  x_aload 0 <|
  x_getI 6 33 <|
  x_aload 0 <|
  x_getI 6 38 <|
  x_c2 (fun x y => x ≤ y) (
  x_vret Q) <|
  (xJ M_X6_seeks (d + 1) 47 Q)
set_option maxRecDepth 100000 in
theorem b_X6_seeks_0 {d : Nat} {Q : xV → xMem → Prop} : Snd M_X6_seeks (d + 1) 0 Q (k_X6_seeks_0 d Q) :=
  s_iload_n dX6_seeks_0 rfl <|
  s_aload_n dX6_seeks_1 rfl <|
  s_getI xC6 (by decide) (fun _ _ _ => rfl) fl_X6_92 dX6_seeks_2 <|
  s_icmp_ne (t := 74) dX6_seeks_5 rfl (
  s_iconst dX6_seeks_74 rfl <|
  s_istore_n dX6_seeks_75 rfl (by decide) <|
  s_J) <|
  s_aload_n dX6_seeks_8 rfl <|
  s_getI xC6 (by decide) (fun _ _ _ => rfl) fl_X6_318 dX6_seeks_9 <|
  s_if_eq (t := 47) dX6_seeks_12 rfl (
  s_J) <|
  s_aload_n dX6_seeks_15 rfl <|
  s_getI xC6 (by decide) (fun _ _ _ => rfl) fl_X6_321 dX6_seeks_16 <|
  s_if_ne (t := 36) dX6_seeks_19 rfl (
  s_aload_n dX6_seeks_36 rfl <|
  s_getI xC6 (by decide) (fun _ _ _ => rfl) fl_X6_294 dX6_seeks_37 <|
  s_aload_n dX6_seeks_40 rfl <|
  s_getI xC6 (by decide) (fun _ _ _ => rfl) fl_X6_327 dX6_seeks_41 <|
  s_icmp_le (t := 73) dX6_seeks_44 rfl (
  s_return dX6_seeks_73 rfl) <|
  s_J) <|
  s_aload_n dX6_seeks_22 rfl <|
  s_getI xC6 (by decide) (fun _ _ _ => rfl) fl_X6_291 dX6_seeks_23 <|
  s_aload_n dX6_seeks_26 rfl <|
  s_getI xC6 (by decide) (fun _ _ _ => rfl) fl_X6_324 dX6_seeks_27 <|
  s_icmp_le (t := 73) dX6_seeks_30 rfl (
  s_return dX6_seeks_73 rfl) <|
  s_goto (t := 47) dX6_seeks_33 rfl <|
  s_J
def k_X6_seeks_47 (d : Nat) (Q : xV → xMem → Prop) : xP :=
  x_aload 0 <|
  x_push (vi 1) <|
  x_putZ 6 36 <|
  x_aload 0 <|
  x_iload 2 <|
  x_putI 6 37 <|
  x_aload 0 <|
  x_aload 0 <|
  x_getI 6 33 <|
  x_putI 6 38 <|
  x_aload 0 <|
  x_aload 0 <|
  x_getI 6 34 <|
  x_putI 6 39 <|
  x_vret Q
set_option maxRecDepth 100000 in
theorem b_X6_seeks_47 {d : Nat} {Q : xV → xMem → Prop} : Snd M_X6_seeks (d + 1) 47 Q (k_X6_seeks_47 d Q) :=
  s_aload_n dX6_seeks_47 rfl <|
  s_iconst dX6_seeks_48 rfl <|
  s_putZ xC6 (by decide) (fun _ _ _ => rfl) rfl rfl fl_X6_318 dX6_seeks_49 <|
  s_aload_n dX6_seeks_52 rfl <|
  s_iload_n dX6_seeks_53 rfl <|
  s_putI xC6 (by decide) (fun _ _ _ => rfl) rfl rfl fl_X6_330 dX6_seeks_54 <|
  s_aload_n dX6_seeks_57 rfl <|
  s_aload_n dX6_seeks_58 rfl <|
  s_getI xC6 (by decide) (fun _ _ _ => rfl) fl_X6_291 dX6_seeks_59 <|
  s_putI xC6 (by decide) (fun _ _ _ => rfl) rfl rfl fl_X6_324 dX6_seeks_62 <|
  s_aload_n dX6_seeks_65 rfl <|
  s_aload_n dX6_seeks_66 rfl <|
  s_getI xC6 (by decide) (fun _ _ _ => rfl) fl_X6_294 dX6_seeks_67 <|
  s_putI xC6 (by decide) (fun _ _ _ => rfl) rfl rfl fl_X6_327 dX6_seeks_70 <|
  s_return dX6_seeks_73 rfl
def k_X6_seeks_76 (d : Nat) (Q : xV → xMem → Prop) : xP :=
  x_iload 3 <|
  x_aload 0 <|
  x_getI 6 10 <|
  x_c2 (fun x y => y ≤ x) (
  x_vret Q) <|
  x_aload 0 <|
  x_iload 1 <|
  x_iload 3 <|
  x_cV2 M_X6_can d 6 <|
  x_c1 (fun x => x = 0) (
  x_iinc 3 1 <|
  (xJ M_X6_seeks (d + 1) 76 Q)) <|
  x_aload 0 <|
  x_iload 1 <|
  x_iload 3 <|
  x_push (vi 1) <|
  x_cV3 M_X6_turns d 6 <|
  x_aload 0 <|
  x_iload 1 <|
  x_push (vi 1) <|
  x_bin oadd <|
  x_push (vi 10) <|
  x_iload 2 <|
  x_bin omul <|
  x_iload 3 <|
  x_bin oadd <|
  x_push (vi 1) <|
  x_bin oadd <|
  x_cV2 M_X6_seeks d 6 <|
  x_aload 0 <|
  x_iload 1 <|
  x_iload 3 <|
  x_push (vi (-1)) <|
  x_cV3 M_X6_turns d 6 <|
  x_iinc 3 1 <|
  (xJ M_X6_seeks (d + 1) 76 Q)
set_option maxRecDepth 100000 in
theorem b_X6_seeks_76 {d : Nat} {Q : xV → xMem → Prop} : Snd M_X6_seeks (d + 1) 76 Q (k_X6_seeks_76 d Q) :=
  s_iload_n dX6_seeks_76 rfl <|
  s_aload_n dX6_seeks_77 rfl <|
  s_getI xC6 (by decide) (fun _ _ _ => rfl) fl_X6_85 dX6_seeks_78 <|
  s_icmp_ge (t := 128) dX6_seeks_81 rfl (
  s_return dX6_seeks_128 rfl) <|
  s_aload_n dX6_seeks_84 rfl <|
  s_iload_n dX6_seeks_85 rfl <|
  s_iload_n dX6_seeks_86 rfl <|
  s_cV2 ce_X6_can ml_X6_300 im_X6_can se_X6_can xC6 dX6_seeks_87 <|
  s_if_eq (t := 122) dX6_seeks_90 rfl (
  s_iinc dX6_seeks_122 (by decide) <|
  s_goto (t := 76) dX6_seeks_125 rfl <|
  s_J) <|
  s_aload_n dX6_seeks_93 rfl <|
  s_iload_n dX6_seeks_94 rfl <|
  s_iload_n dX6_seeks_95 rfl <|
  s_iconst dX6_seeks_96 rfl <|
  s_cV3 ce_X6_turns ml_X6_303 im_X6_turns se_X6_turns xC6 dX6_seeks_97 <|
  s_aload_n dX6_seeks_100 rfl <|
  s_iload_n dX6_seeks_101 rfl <|
  s_iconst dX6_seeks_102 rfl <|
  s_iadd dX6_seeks_103 <|
  s_bipush dX6_seeks_104 rfl (by decide) <|
  s_iload_n dX6_seeks_106 rfl <|
  s_imul dX6_seeks_107 <|
  s_iload_n dX6_seeks_108 rfl <|
  s_iadd dX6_seeks_109 <|
  s_iconst dX6_seeks_110 rfl <|
  s_iadd dX6_seeks_111 <|
  s_cV2 ce_X6_seeks ml_X6_333 im_X6_seeks se_X6_seeks xC6 dX6_seeks_112 <|
  s_aload_n dX6_seeks_115 rfl <|
  s_iload_n dX6_seeks_116 rfl <|
  s_iload_n dX6_seeks_117 rfl <|
  s_iconst dX6_seeks_118 rfl <|
  s_cV3 ce_X6_turns ml_X6_303 im_X6_turns se_X6_turns xC6 dX6_seeks_119 <|
  s_iinc dX6_seeks_122 (by decide) <|
  s_goto (t := 76) dX6_seeks_125 rfl <|
  s_J
-- X6_seeks: cuts [0, 47, 76]
def k_X6_finds_0 (d : Nat) (Q : xV → xMem → Prop) : xP :=
  x_aload 0 <|
  x_cV0 M_X6_tables d 6 <|
  x_aload 0 <|
  x_iload 1 <|
  x_putI 6 35 <|
  x_aload 0 <|
  x_push (vi 0) <|
  x_putZ 6 36 <|
  x_aload 0 <|
  x_push (vi 0) <|
  x_push (vi 0) <|
  x_cV2 M_X6_seeks d 6 <|
  x_vret Q
set_option maxRecDepth 100000 in
theorem b_X6_finds_0 {d : Nat} {Q : xV → xMem → Prop} : Snd M_X6_finds (d + 1) 0 Q (k_X6_finds_0 d Q) :=
  s_aload_n dX6_finds_0 rfl <|
  s_cV0 ce_X6_tables ml_X6_297 im_X6_tables se_X6_tables xC6 dX6_finds_1 <|
  s_aload_n dX6_finds_4 rfl <|
  s_iload_n dX6_finds_5 rfl <|
  s_putI xC6 (by decide) (fun _ _ _ => rfl) rfl rfl fl_X6_321 dX6_finds_6 <|
  s_aload_n dX6_finds_9 rfl <|
  s_iconst dX6_finds_10 rfl <|
  s_putZ xC6 (by decide) (fun _ _ _ => rfl) rfl rfl fl_X6_318 dX6_finds_11 <|
  s_aload_n dX6_finds_14 rfl <|
  s_iconst dX6_finds_15 rfl <|
  s_iconst dX6_finds_16 rfl <|
  s_cV2 ce_X6_seeks ml_X6_333 im_X6_seeks se_X6_seeks xC6 dX6_finds_17 <|
  s_return dX6_finds_20 rfl
-- X6_finds: cuts [0]
def k_X6_findsPlain_0 (d : Nat) (Q : xV → xMem → Prop) : xP :=
  x_aload 0 <|
  x_cV0 M_X6_tables d 6 <|
  x_push (vi 0) <|
  x_istore 1 <|
  x_push (vi 0) <|
  x_istore 2 <|
  (xJ M_X6_findsPlain (d + 1) 8 Q)
set_option maxRecDepth 100000 in
theorem b_X6_findsPlain_0 {d : Nat} {Q : xV → xMem → Prop} : Snd M_X6_findsPlain (d + 1) 0 Q (k_X6_findsPlain_0 d Q) :=
  s_aload_n dX6_findsPlain_0 rfl <|
  s_cV0 ce_X6_tables ml_X6_297 im_X6_tables se_X6_tables xC6 dX6_findsPlain_1 <|
  s_iconst dX6_findsPlain_4 rfl <|
  s_istore_n dX6_findsPlain_5 rfl (by decide) <|
  s_iconst dX6_findsPlain_6 rfl <|
  s_istore_n dX6_findsPlain_7 rfl (by decide) <|
  s_J
def k_X6_findsPlain_8 (d : Nat) (Q : xV → xMem → Prop) : xP :=
  x_iload 2 <|
  x_aload 0 <|
  x_getI 6 12 <|
  x_c2 (fun x y => y ≤ x) (
  x_aload 0 <|
  x_iload 1 <|
  x_putI 6 37 <|
  x_aload 0 <|
  x_aload 0 <|
  x_getI 6 33 <|
  x_putI 6 38 <|
  x_aload 0 <|
  x_aload 0 <|
  x_getI 6 34 <|
  x_putI 6 39 <|
  x_vret Q) <|
  x_push (vi (-1)) <|
  x_istore 3 <|
  x_aload 0 <|
  x_getI 6 10 <|
  x_push (vi 1) <|
  x_bin osub <|
  x_istore 4 <|
  (xJ M_X6_findsPlain (d + 1) 26 Q)
set_option maxRecDepth 100000 in
theorem b_X6_findsPlain_8 {d : Nat} {Q : xV → xMem → Prop} : Snd M_X6_findsPlain (d + 1) 8 Q (k_X6_findsPlain_8 d Q) :=
  s_iload_n dX6_findsPlain_8 rfl <|
  s_aload_n dX6_findsPlain_9 rfl <|
  s_getI xC6 (by decide) (fun _ _ _ => rfl) fl_X6_92 dX6_findsPlain_10 <|
  s_icmp_ge (t := 86) dX6_findsPlain_13 rfl (
  s_aload_n dX6_findsPlain_86 rfl <|
  s_iload_n dX6_findsPlain_87 rfl <|
  s_putI xC6 (by decide) (fun _ _ _ => rfl) rfl rfl fl_X6_330 dX6_findsPlain_88 <|
  s_aload_n dX6_findsPlain_91 rfl <|
  s_aload_n dX6_findsPlain_92 rfl <|
  s_getI xC6 (by decide) (fun _ _ _ => rfl) fl_X6_291 dX6_findsPlain_93 <|
  s_putI xC6 (by decide) (fun _ _ _ => rfl) rfl rfl fl_X6_324 dX6_findsPlain_96 <|
  s_aload_n dX6_findsPlain_99 rfl <|
  s_aload_n dX6_findsPlain_100 rfl <|
  s_getI xC6 (by decide) (fun _ _ _ => rfl) fl_X6_294 dX6_findsPlain_101 <|
  s_putI xC6 (by decide) (fun _ _ _ => rfl) rfl rfl fl_X6_327 dX6_findsPlain_104 <|
  s_return dX6_findsPlain_107 rfl) <|
  s_iconst dX6_findsPlain_16 rfl <|
  s_istore_n dX6_findsPlain_17 rfl (by decide) <|
  s_aload_n dX6_findsPlain_18 rfl <|
  s_getI xC6 (by decide) (fun _ _ _ => rfl) fl_X6_85 dX6_findsPlain_19 <|
  s_iconst dX6_findsPlain_22 rfl <|
  s_isub dX6_findsPlain_23 <|
  s_istore dX6_findsPlain_24 (by decide) <|
  s_J
def k_X6_findsPlain_26 (d : Nat) (Q : xV → xMem → Prop) : xP :=
  x_iload 4 <|
  x_c1 (fun x => x < 0) (
  x_aload 0 <|
  x_iload 2 <|
  x_iload 3 <|
  x_push (vi 1) <|
  x_cV3 M_X6_turns d 6 <|
  x_push (vi 10) <|
  x_iload 1 <|
  x_bin omul <|
  x_iload 3 <|
  x_bin oadd <|
  x_push (vi 1) <|
  x_bin oadd <|
  x_istore 1 <|
  x_iinc 2 1 <|
  (xJ M_X6_findsPlain (d + 1) 8 Q)) <|
  x_aload 0 <|
  x_iload 2 <|
  x_iload 4 <|
  x_cV2 M_X6_isWished d 6 <|
  x_c1 (fun x => x = 0) (
  x_iload 3 <|
  x_istore 3 <|
  x_iinc 4 (-1) <|
  (xJ M_X6_findsPlain (d + 1) 26 Q)) <|
  x_aload 0 <|
  x_iload 2 <|
  x_iload 4 <|
  x_cV2 M_X6_can d 6 <|
  x_c1 (fun x => x = 0) (
  x_iload 3 <|
  x_istore 3 <|
  x_iinc 4 (-1) <|
  (xJ M_X6_findsPlain (d + 1) 26 Q)) <|
  x_iload 4 <|
  x_istore 3 <|
  x_iinc 4 (-1) <|
  (xJ M_X6_findsPlain (d + 1) 26 Q)
set_option maxRecDepth 100000 in
theorem b_X6_findsPlain_26 {d : Nat} {Q : xV → xMem → Prop} : Snd M_X6_findsPlain (d + 1) 26 Q (k_X6_findsPlain_26 d Q) :=
  s_iload dX6_findsPlain_26 <|
  s_if_lt (t := 64) dX6_findsPlain_28 rfl (
  s_aload_n dX6_findsPlain_64 rfl <|
  s_iload_n dX6_findsPlain_65 rfl <|
  s_iload_n dX6_findsPlain_66 rfl <|
  s_iconst dX6_findsPlain_67 rfl <|
  s_cV3 ce_X6_turns ml_X6_303 im_X6_turns se_X6_turns xC6 dX6_findsPlain_68 <|
  s_bipush dX6_findsPlain_71 rfl (by decide) <|
  s_iload_n dX6_findsPlain_73 rfl <|
  s_imul dX6_findsPlain_74 <|
  s_iload_n dX6_findsPlain_75 rfl <|
  s_iadd dX6_findsPlain_76 <|
  s_iconst dX6_findsPlain_77 rfl <|
  s_iadd dX6_findsPlain_78 <|
  s_istore_n dX6_findsPlain_79 rfl (by decide) <|
  s_iinc dX6_findsPlain_80 (by decide) <|
  s_goto (t := 8) dX6_findsPlain_83 rfl <|
  s_J) <|
  s_aload_n dX6_findsPlain_31 rfl <|
  s_iload_n dX6_findsPlain_32 rfl <|
  s_iload dX6_findsPlain_33 <|
  s_cV2 ce_X6_isWished ml_X6_153 im_X6_isWished se_X6_isWished xC6 dX6_findsPlain_35 <|
  s_if_eq (t := 56) dX6_findsPlain_38 rfl (
  s_iload_n dX6_findsPlain_56 rfl <|
  s_istore_n dX6_findsPlain_57 rfl (by decide) <|
  s_iinc dX6_findsPlain_58 (by decide) <|
  s_goto (t := 26) dX6_findsPlain_61 rfl <|
  s_J) <|
  s_aload_n dX6_findsPlain_41 rfl <|
  s_iload_n dX6_findsPlain_42 rfl <|
  s_iload dX6_findsPlain_43 <|
  s_cV2 ce_X6_can ml_X6_300 im_X6_can se_X6_can xC6 dX6_findsPlain_45 <|
  s_if_eq (t := 56) dX6_findsPlain_48 rfl (
  s_iload_n dX6_findsPlain_56 rfl <|
  s_istore_n dX6_findsPlain_57 rfl (by decide) <|
  s_iinc dX6_findsPlain_58 (by decide) <|
  s_goto (t := 26) dX6_findsPlain_61 rfl <|
  s_J) <|
  s_iload dX6_findsPlain_51 <|
  s_goto (t := 57) dX6_findsPlain_53 rfl <|
  s_istore_n dX6_findsPlain_57 rfl (by decide) <|
  s_iinc dX6_findsPlain_58 (by decide) <|
  s_goto (t := 26) dX6_findsPlain_61 rfl <|
  s_J
-- X6_findsPlain: cuts [0, 8, 26]
def k_X6_showing_0 (d : Nat) (Q : xV → xMem → Prop) : xP :=
  x_iload 1 <|
  x_i2l <|
  x_push (vl 0) <|
  x_push (vl (2)) <|
  x_cS3 M_X6_in d <|
  x_c1 (fun x => x = 0) (
  x_push (vi (-100000)) <|
  x_ret Q) <|
  x_iload 2 <|
  x_i2l <|
  x_push (vl 0) <|
  x_push (vl (2)) <|
  x_cS3 M_X6_in d <|
  x_c1 (fun x => ¬ x = 0) (
  x_iload 1 <|
  x_push (vi 2) <|
  x_c2 (fun x y => ¬ x = y) (
  x_aload 0 <|
  x_iload 1 <|
  x_cV1 M_X6_finds d 6 <|
  (xJ M_X6_showing (d + 1) 45 Q)) <|
  x_aload 0 <|
  x_cV0 M_X6_findsPlain d 6 <|
  (xJ M_X6_showing (d + 1) 45 Q)) <|
  x_push (vi (-100000)) <|
  x_ret Q
set_option maxRecDepth 100000 in
theorem b_X6_showing_0 {d : Nat} {Q : xV → xMem → Prop} : Snd M_X6_showing (d + 1) 0 Q (k_X6_showing_0 d Q) :=
  s_iload_n dX6_showing_0 rfl <|
  s_i2l dX6_showing_1 <|
  s_lconst dX6_showing_2 rfl (by decide) <|
  s_ldc2 dX6_showing_3 kl_X6_280 rfl (by decide) <|
  s_cS3 ce_X6_in ml_X6_88 sm_X6_in dX6_showing_6 <|
  s_if_eq (t := 24) dX6_showing_9 rfl (
  s_ldc_w dX6_showing_24 kc_X6_314 rfl (by decide) <|
  s_ireturn dX6_showing_27 rfl) <|
  s_iload_n dX6_showing_12 rfl <|
  s_i2l dX6_showing_13 <|
  s_lconst dX6_showing_14 rfl (by decide) <|
  s_ldc2 dX6_showing_15 kl_X6_280 rfl (by decide) <|
  s_cS3 ce_X6_in ml_X6_88 sm_X6_in dX6_showing_18 <|
  s_if_ne (t := 28) dX6_showing_21 rfl (
  s_iload_n dX6_showing_28 rfl <|
  s_iconst dX6_showing_29 rfl <|
  s_icmp_ne (t := 40) dX6_showing_30 rfl (
  s_aload_n dX6_showing_40 rfl <|
  s_iload_n dX6_showing_41 rfl <|
  s_cV1 ce_X6_finds ml_X6_340 im_X6_finds se_X6_finds xC6 dX6_showing_42 <|
  s_J) <|
  s_aload_n dX6_showing_33 rfl <|
  s_cV0 ce_X6_findsPlain ml_X6_337 im_X6_findsPlain se_X6_findsPlain xC6 dX6_showing_34 <|
  s_goto (t := 45) dX6_showing_37 rfl <|
  s_J) <|
  s_ldc_w dX6_showing_24 kc_X6_314 rfl (by decide) <|
  s_ireturn dX6_showing_27 rfl
def k_X6_showing_45 (d : Nat) (Q : xV → xMem → Prop) : xP :=
  x_iload 2 <|
  x_c1 (fun x => ¬ x = 0) (
  x_iload 2 <|
  x_push (vi 1) <|
  x_c2 (fun x y => ¬ x = y) (
  x_aload 0 <|
  x_getI 6 39 <|
  x_ret Q) <|
  x_aload 0 <|
  x_getI 6 38 <|
  x_ret Q) <|
  x_aload 0 <|
  x_getI 6 37 <|
  x_ret Q
set_option maxRecDepth 100000 in
theorem b_X6_showing_45 {d : Nat} {Q : xV → xMem → Prop} : Snd M_X6_showing (d + 1) 45 Q (k_X6_showing_45 d Q) :=
  s_iload_n dX6_showing_45 rfl <|
  s_if_ne (t := 56) dX6_showing_46 rfl (
  s_iload_n dX6_showing_56 rfl <|
  s_iconst dX6_showing_57 rfl <|
  s_icmp_ne (t := 68) dX6_showing_58 rfl (
  s_aload_n dX6_showing_68 rfl <|
  s_getI xC6 (by decide) (fun _ _ _ => rfl) fl_X6_327 dX6_showing_69 <|
  s_ireturn dX6_showing_72 rfl) <|
  s_aload_n dX6_showing_61 rfl <|
  s_getI xC6 (by decide) (fun _ _ _ => rfl) fl_X6_324 dX6_showing_62 <|
  s_goto (t := 72) dX6_showing_65 rfl <|
  s_ireturn dX6_showing_72 rfl) <|
  s_aload_n dX6_showing_49 rfl <|
  s_getI xC6 (by decide) (fun _ _ _ => rfl) fl_X6_330 dX6_showing_50 <|
  s_goto (t := 72) dX6_showing_53 rfl <|
  s_ireturn dX6_showing_72 rfl
-- X6_showing: cuts [0, 45]
def k_X6_joyBest_0 (d : Nat) (Q : xV → xMem → Prop) : xP :=
  x_aload 0 <|
  x_push (vi 0) <|
  x_cV1 M_X6_finds d 6 <|
  x_aload 0 <|
  x_getI 6 38 <|
  x_ret Q
set_option maxRecDepth 100000 in
theorem b_X6_joyBest_0 {d : Nat} {Q : xV → xMem → Prop} : Snd M_X6_joyBest (d + 1) 0 Q (k_X6_joyBest_0 d Q) :=
  s_aload_n dX6_joyBest_0 rfl <|
  s_iconst dX6_joyBest_1 rfl <|
  s_cV1 ce_X6_finds ml_X6_340 im_X6_finds se_X6_finds xC6 dX6_joyBest_2 <|
  s_aload_n dX6_joyBest_5 rfl <|
  s_getI xC6 (by decide) (fun _ _ _ => rfl) fl_X6_324 dX6_joyBest_6 <|
  s_ireturn dX6_joyBest_9 rfl
-- X6_joyBest: cuts [0]
def k_X6_bitsOf_0 (d : Nat) (Q : xV → xMem → Prop) : xP :=
  x_push (vi 0) <|
  x_istore 1 <|
  x_iload 0 <|
  x_istore 2 <|
  (xJ M_X6_bitsOf (d + 1) 4 Q)
set_option maxRecDepth 100000 in
theorem b_X6_bitsOf_0 {d : Nat} {Q : xV → xMem → Prop} : Snd M_X6_bitsOf (d + 1) 0 Q (k_X6_bitsOf_0 d Q) :=
  s_iconst dX6_bitsOf_0 rfl <|
  s_istore_n dX6_bitsOf_1 rfl (by decide) <|
  s_iload_n dX6_bitsOf_2 rfl <|
  s_istore_n dX6_bitsOf_3 rfl (by decide) <|
  s_J
def k_X6_bitsOf_4 (d : Nat) (Q : xV → xMem → Prop) : xP :=
  x_iload 2 <|
  x_c1 (fun x => x = 0) (
  x_iload 1 <|
  x_ret Q) <|
  x_iinc 1 1 <|
  x_iload 2 <|
  x_iload 2 <|
  x_push (vi 1) <|
  x_bin osub <|
  x_bin oand <|
  x_istore 2 <|
  (xJ M_X6_bitsOf (d + 1) 4 Q)
set_option maxRecDepth 100000 in
theorem b_X6_bitsOf_4 {d : Nat} {Q : xV → xMem → Prop} : Snd M_X6_bitsOf (d + 1) 4 Q (k_X6_bitsOf_4 d Q) :=
  s_iload_n dX6_bitsOf_4 rfl <|
  s_if_eq (t := 20) dX6_bitsOf_5 rfl (
  s_iload_n dX6_bitsOf_20 rfl <|
  s_ireturn dX6_bitsOf_21 rfl) <|
  s_iinc dX6_bitsOf_8 (by decide) <|
  s_iload_n dX6_bitsOf_11 rfl <|
  s_iload_n dX6_bitsOf_12 rfl <|
  s_iconst dX6_bitsOf_13 rfl <|
  s_isub dX6_bitsOf_14 <|
  s_iand dX6_bitsOf_15 <|
  s_istore_n dX6_bitsOf_16 rfl (by decide) <|
  s_goto (t := 4) dX6_bitsOf_17 rfl <|
  s_J
-- X6_bitsOf: cuts [0, 4]
def k_X6_ups_0 (d : Nat) (Q : xV → xMem → Prop) : xP :=
  x_push (vi 0) <|
  x_istore 2 <|
  (xJ M_X6_ups (d + 1) 2 Q)
set_option maxRecDepth 100000 in
theorem b_X6_ups_0 {d : Nat} {Q : xV → xMem → Prop} : Snd M_X6_ups (d + 1) 0 Q (k_X6_ups_0 d Q) :=
  s_iconst dX6_ups_0 rfl <|
  s_istore_n dX6_ups_1 rfl (by decide) <|
  s_J
def k_X6_ups_2 (d : Nat) (Q : xV → xMem → Prop) : xP :=
  x_iload 2 <|
  x_aload 0 <|
  x_getI 6 10 <|
  x_c2 (fun x y => y ≤ x) (
  x_vret Q) <|
  x_aload 0 <|
  x_getR 6 40 <|
  x_iload 2 <|
  x_aload 0 <|
  x_getR 6 9 <|
  x_push (vi 3) <|
  x_iload 2 <|
  x_bin omul <|
  x_push (vi 2) <|
  x_bin oadd <|
  x_iaload <|
  x_iastore <|
  x_aload 0 <|
  x_getR 6 9 <|
  x_push (vi 3) <|
  x_iload 2 <|
  x_bin omul <|
  x_push (vi 2) <|
  x_bin oadd <|
  x_iload 1 <|
  x_iload 2 <|
  x_bin oshr <|
  x_push (vi 1) <|
  x_bin oand <|
  x_push (vi 1) <|
  x_c2 (fun x y => ¬ x = y) (
  x_push (vi 0) <|
  x_iastore <|
  x_iinc 2 1 <|
  (xJ M_X6_ups (d + 1) 2 Q)) <|
  x_aload 0 <|
  x_getR 6 40 <|
  x_iload 2 <|
  x_iaload <|
  x_iastore <|
  x_iinc 2 1 <|
  (xJ M_X6_ups (d + 1) 2 Q)
set_option maxRecDepth 100000 in
theorem b_X6_ups_2 {d : Nat} {Q : xV → xMem → Prop} : Snd M_X6_ups (d + 1) 2 Q (k_X6_ups_2 d Q) :=
  s_iload_n dX6_ups_2 rfl <|
  s_aload_n dX6_ups_3 rfl <|
  s_getI xC6 (by decide) (fun _ _ _ => rfl) fl_X6_85 dX6_ups_4 <|
  s_icmp_ge (t := 61) dX6_ups_7 rfl (
  s_return dX6_ups_61 rfl) <|
  s_aload_n dX6_ups_10 rfl <|
  s_getR xC6 (by decide) (fun _ _ _ => rfl) fl_X6_51 dX6_ups_11 <|
  s_iload_n dX6_ups_14 rfl <|
  s_aload_n dX6_ups_15 rfl <|
  s_getR xC6 (by decide) (fun _ _ _ => rfl) fl_X6_29 dX6_ups_16 <|
  s_iconst dX6_ups_19 rfl <|
  s_iload_n dX6_ups_20 rfl <|
  s_imul dX6_ups_21 <|
  s_iconst dX6_ups_22 rfl <|
  s_iadd dX6_ups_23 <|
  s_iaload dX6_ups_24 <|
  s_iastore dX6_ups_25 <|
  s_aload_n dX6_ups_26 rfl <|
  s_getR xC6 (by decide) (fun _ _ _ => rfl) fl_X6_29 dX6_ups_27 <|
  s_iconst dX6_ups_30 rfl <|
  s_iload_n dX6_ups_31 rfl <|
  s_imul dX6_ups_32 <|
  s_iconst dX6_ups_33 rfl <|
  s_iadd dX6_ups_34 <|
  s_iload_n dX6_ups_35 rfl <|
  s_iload_n dX6_ups_36 rfl <|
  s_ishr dX6_ups_37 <|
  s_iconst dX6_ups_38 rfl <|
  s_iand dX6_ups_39 <|
  s_iconst dX6_ups_40 rfl <|
  s_icmp_ne (t := 53) dX6_ups_41 rfl (
  s_iconst dX6_ups_53 rfl <|
  s_iastore dX6_ups_54 <|
  s_iinc dX6_ups_55 (by decide) <|
  s_goto (t := 2) dX6_ups_58 rfl <|
  s_J) <|
  s_aload_n dX6_ups_44 rfl <|
  s_getR xC6 (by decide) (fun _ _ _ => rfl) fl_X6_51 dX6_ups_45 <|
  s_iload_n dX6_ups_48 rfl <|
  s_iaload dX6_ups_49 <|
  s_goto (t := 54) dX6_ups_50 rfl <|
  s_iastore dX6_ups_54 <|
  s_iinc dX6_ups_55 (by decide) <|
  s_goto (t := 2) dX6_ups_58 rfl <|
  s_J
-- X6_ups: cuts [0, 2]
def k_X6_upsAgain_0 (d : Nat) (Q : xV → xMem → Prop) : xP :=
  x_push (vi 0) <|
  x_istore 1 <|
  (xJ M_X6_upsAgain (d + 1) 2 Q)
set_option maxRecDepth 100000 in
theorem b_X6_upsAgain_0 {d : Nat} {Q : xV → xMem → Prop} : Snd M_X6_upsAgain (d + 1) 0 Q (k_X6_upsAgain_0 d Q) :=
  s_iconst dX6_upsAgain_0 rfl <|
  s_istore_n dX6_upsAgain_1 rfl (by decide) <|
  s_J
def k_X6_upsAgain_2 (d : Nat) (Q : xV → xMem → Prop) : xP :=
  x_iload 1 <|
  x_aload 0 <|
  x_getI 6 10 <|
  x_c2 (fun x y => y ≤ x) (
  x_vret Q) <|
  x_aload 0 <|
  x_getR 6 9 <|
  x_push (vi 3) <|
  x_iload 1 <|
  x_bin omul <|
  x_push (vi 2) <|
  x_bin oadd <|
  x_aload 0 <|
  x_getR 6 40 <|
  x_iload 1 <|
  x_iaload <|
  x_iastore <|
  x_iinc 1 1 <|
  (xJ M_X6_upsAgain (d + 1) 2 Q)
set_option maxRecDepth 100000 in
theorem b_X6_upsAgain_2 {d : Nat} {Q : xV → xMem → Prop} : Snd M_X6_upsAgain (d + 1) 2 Q (k_X6_upsAgain_2 d Q) :=
  s_iload_n dX6_upsAgain_2 rfl <|
  s_aload_n dX6_upsAgain_3 rfl <|
  s_getI xC6 (by decide) (fun _ _ _ => rfl) fl_X6_85 dX6_upsAgain_4 <|
  s_icmp_ge (t := 32) dX6_upsAgain_7 rfl (
  s_return dX6_upsAgain_32 rfl) <|
  s_aload_n dX6_upsAgain_10 rfl <|
  s_getR xC6 (by decide) (fun _ _ _ => rfl) fl_X6_29 dX6_upsAgain_11 <|
  s_iconst dX6_upsAgain_14 rfl <|
  s_iload_n dX6_upsAgain_15 rfl <|
  s_imul dX6_upsAgain_16 <|
  s_iconst dX6_upsAgain_17 rfl <|
  s_iadd dX6_upsAgain_18 <|
  s_aload_n dX6_upsAgain_19 rfl <|
  s_getR xC6 (by decide) (fun _ _ _ => rfl) fl_X6_51 dX6_upsAgain_20 <|
  s_iload_n dX6_upsAgain_23 rfl <|
  s_iaload dX6_upsAgain_24 <|
  s_iastore dX6_upsAgain_25 <|
  s_iinc dX6_upsAgain_26 (by decide) <|
  s_goto (t := 2) dX6_upsAgain_29 rfl <|
  s_J
-- X6_upsAgain: cuts [0, 2]
def k_X6_joyBy_0 (d : Nat) (Q : xV → xMem → Prop) : xP :=
  x_aload 0 <|
  x_iload 1 <|
  x_cV1 M_X6_ups d 6 <|
  x_aload 0 <|
  x_cV0 M_X6_joyBest d 6 <|
  x_istore 2 <|
  x_aload 0 <|
  x_cV0 M_X6_upsAgain d 6 <|
  x_iload 2 <|
  x_ret Q
set_option maxRecDepth 100000 in
theorem b_X6_joyBy_0 {d : Nat} {Q : xV → xMem → Prop} : Snd M_X6_joyBy (d + 1) 0 Q (k_X6_joyBy_0 d Q) :=
  s_aload_n dX6_joyBy_0 rfl <|
  s_iload_n dX6_joyBy_1 rfl <|
  s_cV1 ce_X6_ups ml_X6_344 im_X6_ups se_X6_ups xC6 dX6_joyBy_2 <|
  s_aload_n dX6_joyBy_5 rfl <|
  s_cV0 ce_X6_joyBest ml_X6_347 im_X6_joyBest se_X6_joyBest xC6 dX6_joyBy_6 <|
  s_istore_n dX6_joyBy_9 rfl (by decide) <|
  s_aload_n dX6_joyBy_10 rfl <|
  s_cV0 ce_X6_upsAgain ml_X6_350 im_X6_upsAgain se_X6_upsAgain xC6 dX6_joyBy_11 <|
  s_iload_n dX6_joyBy_14 rfl <|
  s_ireturn dX6_joyBy_15 rfl
-- X6_joyBy: cuts [0]
def k_X6_few_0 (d : Nat) (Q : xV → xMem → Prop) : xP :=
  x_iload 1 <|
  x_i2l <|
  x_push (vl 0) <|
  x_push (vl 1) <|
  x_cS3 M_X6_in d <|
  x_c1 (fun x => ¬ x = 0) (
  x_aload 0 <|
  x_cV0 M_X6_joyBest d 6 <|
  x_istore 2 <|
  x_push (vi (-1)) <|
  x_istore 3 <|
  x_push (vi 0) <|
  x_istore 4 <|
  (xJ M_X6_few (d + 1) 23 Q)) <|
  x_push (vi (-2)) <|
  x_ret Q
set_option maxRecDepth 100000 in
theorem b_X6_few_0 {d : Nat} {Q : xV → xMem → Prop} : Snd M_X6_few (d + 1) 0 Q (k_X6_few_0 d Q) :=
  s_iload_n dX6_few_0 rfl <|
  s_i2l dX6_few_1 <|
  s_lconst dX6_few_2 rfl (by decide) <|
  s_lconst dX6_few_3 rfl (by decide) <|
  s_cS3 ce_X6_in ml_X6_88 sm_X6_in dX6_few_4 <|
  s_if_ne (t := 13) dX6_few_7 rfl (
  s_aload_n dX6_few_13 rfl <|
  s_cV0 ce_X6_joyBest ml_X6_347 im_X6_joyBest se_X6_joyBest xC6 dX6_few_14 <|
  s_istore_n dX6_few_17 rfl (by decide) <|
  s_iconst dX6_few_18 rfl <|
  s_istore_n dX6_few_19 rfl (by decide) <|
  s_iconst dX6_few_20 rfl <|
  s_istore dX6_few_21 (by decide) <|
  s_J) <|
  s_bipush dX6_few_10 rfl (by decide) <|
  s_ireturn dX6_few_12 rfl
def k_X6_few_23 (d : Nat) (Q : xV → xMem → Prop) : xP :=
  x_iload 4 <|
  x_push (vi 1) <|
  x_aload 0 <|
  x_getI 6 10 <|
  x_bin oshl <|
  x_c2 (fun x y => y ≤ x) (
  x_iload 1 <|
  x_c1 (fun x => ¬ x = 0) (
  x_iload 3 <|
  x_cS1 M_X6_bitsOf d <|
  x_ret Q) <|
  x_iload 3 <|
  x_ret Q) <|
  x_iload 3 <|
  x_push (vi (-1)) <|
  x_c2 (fun x y => x = y) (
  (xJ M_X6_few (d + 1) 51 Q)) <|
  x_iload 4 <|
  x_cS1 M_X6_bitsOf d <|
  x_iload 3 <|
  x_cS1 M_X6_bitsOf d <|
  x_c2 (fun x y => y ≤ x) (
  x_iinc 4 1 <|
  (xJ M_X6_few (d + 1) 23 Q)) <|
  (xJ M_X6_few (d + 1) 51 Q)
set_option maxRecDepth 100000 in
theorem b_X6_few_23 {d : Nat} {Q : xV → xMem → Prop} : Snd M_X6_few (d + 1) 23 Q (k_X6_few_23 d Q) :=
  s_iload dX6_few_23 <|
  s_iconst dX6_few_25 rfl <|
  s_aload_n dX6_few_26 rfl <|
  s_getI xC6 (by decide) (fun _ _ _ => rfl) fl_X6_85 dX6_few_27 <|
  s_ishl dX6_few_30 <|
  s_icmp_ge (t := 70) dX6_few_31 rfl (
  s_iload_n dX6_few_70 rfl <|
  s_if_ne (t := 78) dX6_few_71 rfl (
  s_iload_n dX6_few_78 rfl <|
  s_cS1 ce_X6_bitsOf ml_X6_353 sm_X6_bitsOf dX6_few_79 <|
  s_ireturn dX6_few_82 rfl) <|
  s_iload_n dX6_few_74 rfl <|
  s_goto (t := 82) dX6_few_75 rfl <|
  s_ireturn dX6_few_82 rfl) <|
  s_iload_n dX6_few_34 rfl <|
  s_iconst dX6_few_35 rfl <|
  s_icmp_eq (t := 51) dX6_few_36 rfl (
  s_J) <|
  s_iload dX6_few_39 <|
  s_cS1 ce_X6_bitsOf ml_X6_353 sm_X6_bitsOf dX6_few_41 <|
  s_iload_n dX6_few_44 rfl <|
  s_cS1 ce_X6_bitsOf ml_X6_353 sm_X6_bitsOf dX6_few_45 <|
  s_icmp_ge (t := 64) dX6_few_48 rfl (
  s_iinc dX6_few_64 (by decide) <|
  s_goto (t := 23) dX6_few_67 rfl <|
  s_J) <|
  s_J
def k_X6_few_51 (d : Nat) (Q : xV → xMem → Prop) : xP :=
  x_aload 0 <|
  x_iload 4 <|
  x_cV1 M_X6_joyBy d 6 <|
  x_iload 2 <|
  x_c2 (fun x y => ¬ x = y) (
  x_iinc 4 1 <|
  (xJ M_X6_few (d + 1) 23 Q)) <|
  x_iload 4 <|
  x_istore 3 <|
  x_iinc 4 1 <|
  (xJ M_X6_few (d + 1) 23 Q)
set_option maxRecDepth 100000 in
theorem b_X6_few_51 {d : Nat} {Q : xV → xMem → Prop} : Snd M_X6_few (d + 1) 51 Q (k_X6_few_51 d Q) :=
  s_aload_n dX6_few_51 rfl <|
  s_iload dX6_few_52 <|
  s_cV1 ce_X6_joyBy ml_X6_356 im_X6_joyBy se_X6_joyBy xC6 dX6_few_54 <|
  s_iload_n dX6_few_57 rfl <|
  s_icmp_ne (t := 64) dX6_few_58 rfl (
  s_iinc dX6_few_64 (by decide) <|
  s_goto (t := 23) dX6_few_67 rfl <|
  s_J) <|
  s_iload dX6_few_61 <|
  s_istore_n dX6_few_63 rfl (by decide) <|
  s_iinc dX6_few_64 (by decide) <|
  s_goto (t := 23) dX6_few_67 rfl <|
  s_J
-- X6_few: cuts [0, 23, 51]
def k_X6_missed_0 (d : Nat) (Q : xV → xMem → Prop) : xP :=
  x_iload 1 <|
  x_i2l <|
  x_push (vl 0) <|
  x_push (vl 1) <|
  x_cS3 M_X6_in d <|
  x_c1 (fun x => ¬ x = 0) (
  x_push (vi (-1)) <|
  x_istore 2 <|
  x_aload 0 <|
  x_cV0 M_X6_joyBest d 6 <|
  x_istore 3 <|
  x_push (vi 0) <|
  x_istore 4 <|
  (xJ M_X6_missed (d + 1) 24 Q)) <|
  x_push (vi (-100000)) <|
  x_ret Q
set_option maxRecDepth 100000 in
theorem b_X6_missed_0 {d : Nat} {Q : xV → xMem → Prop} : Snd M_X6_missed (d + 1) 0 Q (k_X6_missed_0 d Q) :=
  s_iload_n dX6_missed_0 rfl <|
  s_i2l dX6_missed_1 <|
  s_lconst dX6_missed_2 rfl (by decide) <|
  s_lconst dX6_missed_3 rfl (by decide) <|
  s_cS3 ce_X6_in ml_X6_88 sm_X6_in dX6_missed_4 <|
  s_if_ne (t := 14) dX6_missed_7 rfl (
  s_iconst dX6_missed_14 rfl <|
  s_istore_n dX6_missed_15 rfl (by decide) <|
  s_aload_n dX6_missed_16 rfl <|
  s_cV0 ce_X6_joyBest ml_X6_347 im_X6_joyBest se_X6_joyBest xC6 dX6_missed_17 <|
  s_istore_n dX6_missed_20 rfl (by decide) <|
  s_iconst dX6_missed_21 rfl <|
  s_istore dX6_missed_22 (by decide) <|
  s_J) <|
  s_ldc_w dX6_missed_10 kc_X6_314 rfl (by decide) <|
  s_ireturn dX6_missed_13 rfl
def k_X6_missed_24 (d : Nat) (Q : xV → xMem → Prop) : xP :=
  x_iload 4 <|
  x_aload 0 <|
  x_getI 6 10 <|
  x_c2 (fun x y => y ≤ x) (
  x_iload 1 <|
  x_c1 (fun x => ¬ x = 0) (
  x_iload 3 <|
  x_ret Q) <|
  x_iload 2 <|
  x_ret Q) <|
  x_aload 0 <|
  x_push (vi 1) <|
  x_aload 0 <|
  x_getI 6 10 <|
  x_bin oshl <|
  x_push (vi 1) <|
  x_bin osub <|
  x_push (vi 1) <|
  x_iload 4 <|
  x_bin oshl <|
  x_push (vi (-1)) <|
  x_bin oxor <|
  x_bin oand <|
  x_cV1 M_X6_joyBy d 6 <|
  x_istore 5 <|
  x_iload 2 <|
  x_push (vi (-1)) <|
  x_c2 (fun x y => x = y) (
  x_iload 4 <|
  x_istore 2 <|
  x_iload 5 <|
  x_istore 3 <|
  x_iinc 4 1 <|
  (xJ M_X6_missed (d + 1) 24 Q)) <|
  x_iload 5 <|
  x_iload 3 <|
  x_c2 (fun x y => y ≤ x) (
  x_iinc 4 1 <|
  (xJ M_X6_missed (d + 1) 24 Q)) <|
  x_iload 4 <|
  x_istore 2 <|
  x_iload 5 <|
  x_istore 3 <|
  x_iinc 4 1 <|
  (xJ M_X6_missed (d + 1) 24 Q)
set_option maxRecDepth 100000 in
theorem b_X6_missed_24 {d : Nat} {Q : xV → xMem → Prop} : Snd M_X6_missed (d + 1) 24 Q (k_X6_missed_24 d Q) :=
  s_iload dX6_missed_24 <|
  s_aload_n dX6_missed_26 rfl <|
  s_getI xC6 (by decide) (fun _ _ _ => rfl) fl_X6_85 dX6_missed_27 <|
  s_icmp_ge (t := 77) dX6_missed_30 rfl (
  s_iload_n dX6_missed_77 rfl <|
  s_if_ne (t := 85) dX6_missed_78 rfl (
  s_iload_n dX6_missed_85 rfl <|
  s_ireturn dX6_missed_86 rfl) <|
  s_iload_n dX6_missed_81 rfl <|
  s_goto (t := 86) dX6_missed_82 rfl <|
  s_ireturn dX6_missed_86 rfl) <|
  s_aload_n dX6_missed_33 rfl <|
  s_iconst dX6_missed_34 rfl <|
  s_aload_n dX6_missed_35 rfl <|
  s_getI xC6 (by decide) (fun _ _ _ => rfl) fl_X6_85 dX6_missed_36 <|
  s_ishl dX6_missed_39 <|
  s_iconst dX6_missed_40 rfl <|
  s_isub dX6_missed_41 <|
  s_iconst dX6_missed_42 rfl <|
  s_iload dX6_missed_43 <|
  s_ishl dX6_missed_45 <|
  s_iconst dX6_missed_46 rfl <|
  s_ixor dX6_missed_47 <|
  s_iand dX6_missed_48 <|
  s_cV1 ce_X6_joyBy ml_X6_356 im_X6_joyBy se_X6_joyBy xC6 dX6_missed_49 <|
  s_istore dX6_missed_52 (by decide) <|
  s_iload_n dX6_missed_54 rfl <|
  s_iconst dX6_missed_55 rfl <|
  s_icmp_eq (t := 65) dX6_missed_56 rfl (
  s_iload dX6_missed_65 <|
  s_istore_n dX6_missed_67 rfl (by decide) <|
  s_iload dX6_missed_68 <|
  s_istore_n dX6_missed_70 rfl (by decide) <|
  s_iinc dX6_missed_71 (by decide) <|
  s_goto (t := 24) dX6_missed_74 rfl <|
  s_J) <|
  s_iload dX6_missed_59 <|
  s_iload_n dX6_missed_61 rfl <|
  s_icmp_ge (t := 71) dX6_missed_62 rfl (
  s_iinc dX6_missed_71 (by decide) <|
  s_goto (t := 24) dX6_missed_74 rfl <|
  s_J) <|
  s_iload dX6_missed_65 <|
  s_istore_n dX6_missed_67 rfl (by decide) <|
  s_iload dX6_missed_68 <|
  s_istore_n dX6_missed_70 rfl (by decide) <|
  s_iinc dX6_missed_71 (by decide) <|
  s_goto (t := 24) dX6_missed_74 rfl <|
  s_J
-- X6_missed: cuts [0, 24]
def k_X6_change_0 (d : Nat) (Q : xV → xMem → Prop) : xP :=
  x_iload 1 <|
  x_i2l <|
  x_push (vl 0) <|
  x_push (vl 1) <|
  x_cS3 M_X6_in d <|
  x_c1 (fun x => ¬ x = 0) (
  x_push (vi (-1)) <|
  x_istore 2 <|
  x_aload 0 <|
  x_cV0 M_X6_joyBest d 6 <|
  x_istore 3 <|
  x_push (vi 0) <|
  x_istore 4 <|
  (xJ M_X6_change (d + 1) 24 Q)) <|
  x_push (vi (-100000)) <|
  x_ret Q
set_option maxRecDepth 100000 in
theorem b_X6_change_0 {d : Nat} {Q : xV → xMem → Prop} : Snd M_X6_change (d + 1) 0 Q (k_X6_change_0 d Q) :=
  s_iload_n dX6_change_0 rfl <|
  s_i2l dX6_change_1 <|
  s_lconst dX6_change_2 rfl (by decide) <|
  s_lconst dX6_change_3 rfl (by decide) <|
  s_cS3 ce_X6_in ml_X6_88 sm_X6_in dX6_change_4 <|
  s_if_ne (t := 14) dX6_change_7 rfl (
  s_iconst dX6_change_14 rfl <|
  s_istore_n dX6_change_15 rfl (by decide) <|
  s_aload_n dX6_change_16 rfl <|
  s_cV0 ce_X6_joyBest ml_X6_347 im_X6_joyBest se_X6_joyBest xC6 dX6_change_17 <|
  s_istore_n dX6_change_20 rfl (by decide) <|
  s_iconst dX6_change_21 rfl <|
  s_istore dX6_change_22 (by decide) <|
  s_J) <|
  s_ldc_w dX6_change_10 kc_X6_314 rfl (by decide) <|
  s_ireturn dX6_change_13 rfl
def k_X6_change_24 (d : Nat) (Q : xV → xMem → Prop) : xP :=
  x_iload 4 <|
  x_aload 0 <|
  x_getI 6 12 <|
  x_c2 (fun x y => y ≤ x) (
  x_iload 1 <|
  x_c1 (fun x => ¬ x = 0) (
  x_iload 3 <|
  x_ret Q) <|
  x_iload 2 <|
  x_ret Q) <|
  x_iload 4 <|
  x_push (vi 1) <|
  x_bin oadd <|
  x_istore 5 <|
  (xJ M_X6_change (d + 1) 39 Q)
set_option maxRecDepth 100000 in
theorem b_X6_change_24 {d : Nat} {Q : xV → xMem → Prop} : Snd M_X6_change (d + 1) 24 Q (k_X6_change_24 d Q) :=
  s_iload dX6_change_24 <|
  s_aload_n dX6_change_26 rfl <|
  s_getI xC6 (by decide) (fun _ _ _ => rfl) fl_X6_92 dX6_change_27 <|
  s_icmp_ge (t := 150) dX6_change_30 rfl (
  s_iload_n dX6_change_150 rfl <|
  s_if_ne (t := 158) dX6_change_151 rfl (
  s_iload_n dX6_change_158 rfl <|
  s_ireturn dX6_change_159 rfl) <|
  s_iload_n dX6_change_154 rfl <|
  s_goto (t := 159) dX6_change_155 rfl <|
  s_ireturn dX6_change_159 rfl) <|
  s_iload dX6_change_33 <|
  s_iconst dX6_change_35 rfl <|
  s_iadd dX6_change_36 <|
  s_istore dX6_change_37 (by decide) <|
  s_J
def k_X6_change_39 (d : Nat) (Q : xV → xMem → Prop) : xP :=
  x_iload 5 <|
  x_aload 0 <|
  x_getI 6 12 <|
  x_c2 (fun x y => y ≤ x) (
  x_iinc 4 1 <|
  (xJ M_X6_change (d + 1) 24 Q)) <|
  x_aload 0 <|
  x_getR 6 11 <|
  x_push (vi 2) <|
  x_iload 4 <|
  x_bin omul <|
  x_iaload <|
  x_istore 6 <|
  x_aload 0 <|
  x_getR 6 11 <|
  x_push (vi 2) <|
  x_iload 5 <|
  x_bin omul <|
  x_iaload <|
  x_istore 7 <|
  x_aload 0 <|
  x_getR 6 11 <|
  x_push (vi 2) <|
  x_iload 4 <|
  x_bin omul <|
  x_iload 7 <|
  x_iastore <|
  x_aload 0 <|
  x_getR 6 11 <|
  x_push (vi 2) <|
  x_iload 5 <|
  x_bin omul <|
  x_iload 6 <|
  x_iastore <|
  x_aload 0 <|
  x_cV0 M_X6_joyBest d 6 <|
  x_istore 8 <|
  x_aload 0 <|
  x_getR 6 11 <|
  x_push (vi 2) <|
  x_iload 4 <|
  x_bin omul <|
  x_iload 6 <|
  x_iastore <|
  x_aload 0 <|
  x_getR 6 11 <|
  x_push (vi 2) <|
  x_iload 5 <|
  x_bin omul <|
  x_iload 7 <|
  x_iastore <|
  x_iload 8 <|
  x_iload 3 <|
  x_c2 (fun x y => x ≤ y) (
  x_iinc 5 1 <|
  (xJ M_X6_change (d + 1) 39 Q)) <|
  x_push (vi 10) <|
  x_iload 4 <|
  x_bin omul <|
  x_iload 5 <|
  x_bin oadd <|
  x_istore 2 <|
  x_iload 8 <|
  x_istore 3 <|
  x_iinc 5 1 <|
  (xJ M_X6_change (d + 1) 39 Q)
set_option maxRecDepth 100000 in
theorem b_X6_change_39 {d : Nat} {Q : xV → xMem → Prop} : Snd M_X6_change (d + 1) 39 Q (k_X6_change_39 d Q) :=
  s_iload dX6_change_39 <|
  s_aload_n dX6_change_41 rfl <|
  s_getI xC6 (by decide) (fun _ _ _ => rfl) fl_X6_92 dX6_change_42 <|
  s_icmp_ge (t := 144) dX6_change_45 rfl (
  s_iinc dX6_change_144 (by decide) <|
  s_goto (t := 24) dX6_change_147 rfl <|
  s_J) <|
  s_aload_n dX6_change_48 rfl <|
  s_getR xC6 (by decide) (fun _ _ _ => rfl) fl_X6_32 dX6_change_49 <|
  s_iconst dX6_change_52 rfl <|
  s_iload dX6_change_53 <|
  s_imul dX6_change_55 <|
  s_iaload dX6_change_56 <|
  s_istore dX6_change_57 (by decide) <|
  s_aload_n dX6_change_59 rfl <|
  s_getR xC6 (by decide) (fun _ _ _ => rfl) fl_X6_32 dX6_change_60 <|
  s_iconst dX6_change_63 rfl <|
  s_iload dX6_change_64 <|
  s_imul dX6_change_66 <|
  s_iaload dX6_change_67 <|
  s_istore dX6_change_68 (by decide) <|
  s_aload_n dX6_change_70 rfl <|
  s_getR xC6 (by decide) (fun _ _ _ => rfl) fl_X6_32 dX6_change_71 <|
  s_iconst dX6_change_74 rfl <|
  s_iload dX6_change_75 <|
  s_imul dX6_change_77 <|
  s_iload dX6_change_78 <|
  s_iastore dX6_change_80 <|
  s_aload_n dX6_change_81 rfl <|
  s_getR xC6 (by decide) (fun _ _ _ => rfl) fl_X6_32 dX6_change_82 <|
  s_iconst dX6_change_85 rfl <|
  s_iload dX6_change_86 <|
  s_imul dX6_change_88 <|
  s_iload dX6_change_89 <|
  s_iastore dX6_change_91 <|
  s_aload_n dX6_change_92 rfl <|
  s_cV0 ce_X6_joyBest ml_X6_347 im_X6_joyBest se_X6_joyBest xC6 dX6_change_93 <|
  s_istore dX6_change_96 (by decide) <|
  s_aload_n dX6_change_98 rfl <|
  s_getR xC6 (by decide) (fun _ _ _ => rfl) fl_X6_32 dX6_change_99 <|
  s_iconst dX6_change_102 rfl <|
  s_iload dX6_change_103 <|
  s_imul dX6_change_105 <|
  s_iload dX6_change_106 <|
  s_iastore dX6_change_108 <|
  s_aload_n dX6_change_109 rfl <|
  s_getR xC6 (by decide) (fun _ _ _ => rfl) fl_X6_32 dX6_change_110 <|
  s_iconst dX6_change_113 rfl <|
  s_iload dX6_change_114 <|
  s_imul dX6_change_116 <|
  s_iload dX6_change_117 <|
  s_iastore dX6_change_119 <|
  s_iload dX6_change_120 <|
  s_iload_n dX6_change_122 rfl <|
  s_icmp_le (t := 138) dX6_change_123 rfl (
  s_iinc dX6_change_138 (by decide) <|
  s_goto (t := 39) dX6_change_141 rfl <|
  s_J) <|
  s_bipush dX6_change_126 rfl (by decide) <|
  s_iload dX6_change_128 <|
  s_imul dX6_change_130 <|
  s_iload dX6_change_131 <|
  s_iadd dX6_change_133 <|
  s_istore_n dX6_change_134 rfl (by decide) <|
  s_iload dX6_change_135 <|
  s_istore_n dX6_change_137 rfl (by decide) <|
  s_iinc dX6_change_138 (by decide) <|
  s_goto (t := 39) dX6_change_141 rfl <|
  s_J
-- X6_change: cuts [0, 24, 39]
def k_X6_raise_0 (d : Nat) (Q : xV → xMem → Prop) : xP :=
  x_iload 1 <|
  x_i2l <|
  x_push (vl 0) <|
  x_push (vl (999)) <|
  x_cS3 M_X6_in d <|
  x_c1 (fun x => x = 0) (
  x_push (vi (-100000)) <|
  x_ret Q) <|
  x_iload 2 <|
  x_i2l <|
  x_push (vl 0) <|
  x_push (vl 1) <|
  x_cS3 M_X6_in d <|
  x_c1 (fun x => ¬ x = 0) (
  x_push (vi (-1)) <|
  x_istore 3 <|
  x_aload 0 <|
  x_cV0 M_X6_joyBest d 6 <|
  x_istore 4 <|
  x_push (vi 0) <|
  x_istore 5 <|
  (xJ M_X6_raise (d + 1) 37 Q)) <|
  x_push (vi (-100000)) <|
  x_ret Q
set_option maxRecDepth 100000 in
theorem b_X6_raise_0 {d : Nat} {Q : xV → xMem → Prop} : Snd M_X6_raise (d + 1) 0 Q (k_X6_raise_0 d Q) :=
  s_iload_n dX6_raise_0 rfl <|
  s_i2l dX6_raise_1 <|
  s_lconst dX6_raise_2 rfl (by decide) <|
  s_ldc2 dX6_raise_3 kl_X6_127 rfl (by decide) <|
  s_cS3 ce_X6_in ml_X6_88 sm_X6_in dX6_raise_6 <|
  s_if_eq (t := 22) dX6_raise_9 rfl (
  s_ldc_w dX6_raise_22 kc_X6_314 rfl (by decide) <|
  s_ireturn dX6_raise_25 rfl) <|
  s_iload_n dX6_raise_12 rfl <|
  s_i2l dX6_raise_13 <|
  s_lconst dX6_raise_14 rfl (by decide) <|
  s_lconst dX6_raise_15 rfl (by decide) <|
  s_cS3 ce_X6_in ml_X6_88 sm_X6_in dX6_raise_16 <|
  s_if_ne (t := 26) dX6_raise_19 rfl (
  s_iconst dX6_raise_26 rfl <|
  s_istore_n dX6_raise_27 rfl (by decide) <|
  s_aload_n dX6_raise_28 rfl <|
  s_cV0 ce_X6_joyBest ml_X6_347 im_X6_joyBest se_X6_joyBest xC6 dX6_raise_29 <|
  s_istore dX6_raise_32 (by decide) <|
  s_iconst dX6_raise_34 rfl <|
  s_istore dX6_raise_35 (by decide) <|
  s_J) <|
  s_ldc_w dX6_raise_22 kc_X6_314 rfl (by decide) <|
  s_ireturn dX6_raise_25 rfl
def k_X6_raise_37 (d : Nat) (Q : xV → xMem → Prop) : xP :=
  x_iload 5 <|
  x_aload 0 <|
  x_getI 6 10 <|
  x_c2 (fun x y => y ≤ x) (
  x_iload 2 <|
  x_c1 (fun x => ¬ x = 0) (
  x_iload 4 <|
  x_ret Q) <|
  x_iload 3 <|
  x_ret Q) <|
  x_aload 0 <|
  x_getR 6 9 <|
  x_push (vi 3) <|
  x_iload 5 <|
  x_bin omul <|
  x_push (vi 1) <|
  x_bin oadd <|
  x_iaload <|
  x_istore 6 <|
  x_aload 0 <|
  x_getR 6 9 <|
  x_push (vi 3) <|
  x_iload 5 <|
  x_bin omul <|
  x_push (vi 1) <|
  x_bin oadd <|
  x_iload 6 <|
  x_iload 1 <|
  x_bin oadd <|
  x_push (vi 0) <|
  x_push (vi 999) <|
  x_cS3 M_X6_within d <|
  x_iastore <|
  x_aload 0 <|
  x_cV0 M_X6_joyBest d 6 <|
  x_istore 7 <|
  x_aload 0 <|
  x_getR 6 9 <|
  x_push (vi 3) <|
  x_iload 5 <|
  x_bin omul <|
  x_push (vi 1) <|
  x_bin oadd <|
  x_iload 6 <|
  x_iastore <|
  x_iload 7 <|
  x_iload 4 <|
  x_c2 (fun x y => x ≤ y) (
  x_iinc 5 1 <|
  (xJ M_X6_raise (d + 1) 37 Q)) <|
  x_iload 5 <|
  x_istore 3 <|
  x_iload 7 <|
  x_istore 4 <|
  x_iinc 5 1 <|
  (xJ M_X6_raise (d + 1) 37 Q)
set_option maxRecDepth 100000 in
theorem b_X6_raise_37 {d : Nat} {Q : xV → xMem → Prop} : Snd M_X6_raise (d + 1) 37 Q (k_X6_raise_37 d Q) :=
  s_iload dX6_raise_37 <|
  s_aload_n dX6_raise_39 rfl <|
  s_getI xC6 (by decide) (fun _ _ _ => rfl) fl_X6_85 dX6_raise_40 <|
  s_icmp_ge (t := 120) dX6_raise_43 rfl (
  s_iload_n dX6_raise_120 rfl <|
  s_if_ne (t := 128) dX6_raise_121 rfl (
  s_iload dX6_raise_128 <|
  s_ireturn dX6_raise_130 rfl) <|
  s_iload_n dX6_raise_124 rfl <|
  s_goto (t := 130) dX6_raise_125 rfl <|
  s_ireturn dX6_raise_130 rfl) <|
  s_aload_n dX6_raise_46 rfl <|
  s_getR xC6 (by decide) (fun _ _ _ => rfl) fl_X6_29 dX6_raise_47 <|
  s_iconst dX6_raise_50 rfl <|
  s_iload dX6_raise_51 <|
  s_imul dX6_raise_53 <|
  s_iconst dX6_raise_54 rfl <|
  s_iadd dX6_raise_55 <|
  s_iaload dX6_raise_56 <|
  s_istore dX6_raise_57 (by decide) <|
  s_aload_n dX6_raise_59 rfl <|
  s_getR xC6 (by decide) (fun _ _ _ => rfl) fl_X6_29 dX6_raise_60 <|
  s_iconst dX6_raise_63 rfl <|
  s_iload dX6_raise_64 <|
  s_imul dX6_raise_66 <|
  s_iconst dX6_raise_67 rfl <|
  s_iadd dX6_raise_68 <|
  s_iload dX6_raise_69 <|
  s_iload_n dX6_raise_71 rfl <|
  s_iadd dX6_raise_72 <|
  s_iconst dX6_raise_73 rfl <|
  s_sipush dX6_raise_74 rfl (by decide) <|
  s_cS3 ce_X6_within ml_X6_272 sm_X6_within dX6_raise_77 <|
  s_iastore dX6_raise_80 <|
  s_aload_n dX6_raise_81 rfl <|
  s_cV0 ce_X6_joyBest ml_X6_347 im_X6_joyBest se_X6_joyBest xC6 dX6_raise_82 <|
  s_istore dX6_raise_85 (by decide) <|
  s_aload_n dX6_raise_87 rfl <|
  s_getR xC6 (by decide) (fun _ _ _ => rfl) fl_X6_29 dX6_raise_88 <|
  s_iconst dX6_raise_91 rfl <|
  s_iload dX6_raise_92 <|
  s_imul dX6_raise_94 <|
  s_iconst dX6_raise_95 rfl <|
  s_iadd dX6_raise_96 <|
  s_iload dX6_raise_97 <|
  s_iastore dX6_raise_99 <|
  s_iload dX6_raise_100 <|
  s_iload dX6_raise_102 <|
  s_icmp_le (t := 114) dX6_raise_104 rfl (
  s_iinc dX6_raise_114 (by decide) <|
  s_goto (t := 37) dX6_raise_117 rfl <|
  s_J) <|
  s_iload dX6_raise_107 <|
  s_istore_n dX6_raise_109 rfl (by decide) <|
  s_iload dX6_raise_110 <|
  s_istore dX6_raise_112 (by decide) <|
  s_iinc dX6_raise_114 (by decide) <|
  s_goto (t := 37) dX6_raise_117 rfl <|
  s_J
-- X6_raise: cuts [0, 37]
def k_X6_dear_0 (d : Nat) (Q : xV → xMem → Prop) : xP :=
  x_iload 1 <|
  x_i2l <|
  x_push (vl 0) <|
  x_push (vl 1) <|
  x_cS3 M_X6_in d <|
  x_c1 (fun x => ¬ x = 0) (
  x_aload 0 <|
  x_getI 6 7 <|
  x_istore 2 <|
  x_push (vi (-1)) <|
  x_istore 3 <|
  x_push (vi 0) <|
  x_istore 4 <|
  x_push (vi 1) <|
  x_istore 5 <|
  (xJ M_X6_dear (d + 1) 27 Q)) <|
  x_push (vi (-100000)) <|
  x_ret Q
set_option maxRecDepth 100000 in
theorem b_X6_dear_0 {d : Nat} {Q : xV → xMem → Prop} : Snd M_X6_dear (d + 1) 0 Q (k_X6_dear_0 d Q) :=
  s_iload_n dX6_dear_0 rfl <|
  s_i2l dX6_dear_1 <|
  s_lconst dX6_dear_2 rfl (by decide) <|
  s_lconst dX6_dear_3 rfl (by decide) <|
  s_cS3 ce_X6_in ml_X6_88 sm_X6_in dX6_dear_4 <|
  s_if_ne (t := 14) dX6_dear_7 rfl (
  s_aload_n dX6_dear_14 rfl <|
  s_getI xC6 (by decide) (fun _ _ _ => rfl) fl_X6_23 dX6_dear_15 <|
  s_istore_n dX6_dear_18 rfl (by decide) <|
  s_iconst dX6_dear_19 rfl <|
  s_istore_n dX6_dear_20 rfl (by decide) <|
  s_iconst dX6_dear_21 rfl <|
  s_istore dX6_dear_22 (by decide) <|
  s_iconst dX6_dear_24 rfl <|
  s_istore dX6_dear_25 (by decide) <|
  s_J) <|
  s_ldc_w dX6_dear_10 kc_X6_314 rfl (by decide) <|
  s_ireturn dX6_dear_13 rfl
def k_X6_dear_27 (d : Nat) (Q : xV → xMem → Prop) : xP :=
  x_iload 5 <|
  x_push (vi 10) <|
  x_c2 (fun x y => y ≤ x) (
  x_aload 0 <|
  x_iload 2 <|
  x_putI 6 7 <|
  x_iload 1 <|
  x_c1 (fun x => ¬ x = 0) (
  x_iload 4 <|
  x_ret Q) <|
  x_iload 3 <|
  x_ret Q) <|
  x_aload 0 <|
  x_iload 5 <|
  x_putI 6 7 <|
  x_aload 0 <|
  x_push (vi 1) <|
  x_cV1 M_X6_finds d 6 <|
  x_iload 3 <|
  x_push (vi (-1)) <|
  x_c2 (fun x y => x = y) (
  x_iload 5 <|
  x_istore 3 <|
  x_aload 0 <|
  x_getI 6 39 <|
  x_istore 4 <|
  x_iinc 5 1 <|
  (xJ M_X6_dear (d + 1) 27 Q)) <|
  x_aload 0 <|
  x_getI 6 39 <|
  x_iload 4 <|
  x_c2 (fun x y => x ≤ y) (
  x_iinc 5 1 <|
  (xJ M_X6_dear (d + 1) 27 Q)) <|
  x_iload 5 <|
  x_istore 3 <|
  x_aload 0 <|
  x_getI 6 39 <|
  x_istore 4 <|
  x_iinc 5 1 <|
  (xJ M_X6_dear (d + 1) 27 Q)
set_option maxRecDepth 100000 in
theorem b_X6_dear_27 {d : Nat} {Q : xV → xMem → Prop} : Snd M_X6_dear (d + 1) 27 Q (k_X6_dear_27 d Q) :=
  s_iload dX6_dear_27 <|
  s_bipush dX6_dear_29 rfl (by decide) <|
  s_icmp_ge (t := 74) dX6_dear_31 rfl (
  s_aload_n dX6_dear_74 rfl <|
  s_iload_n dX6_dear_75 rfl <|
  s_putI xC6 (by decide) (fun _ _ _ => rfl) rfl rfl fl_X6_23 dX6_dear_76 <|
  s_iload_n dX6_dear_79 rfl <|
  s_if_ne (t := 87) dX6_dear_80 rfl (
  s_iload dX6_dear_87 <|
  s_ireturn dX6_dear_89 rfl) <|
  s_iload_n dX6_dear_83 rfl <|
  s_goto (t := 89) dX6_dear_84 rfl <|
  s_ireturn dX6_dear_89 rfl) <|
  s_aload_n dX6_dear_34 rfl <|
  s_iload dX6_dear_35 <|
  s_putI xC6 (by decide) (fun _ _ _ => rfl) rfl rfl fl_X6_23 dX6_dear_37 <|
  s_aload_n dX6_dear_40 rfl <|
  s_iconst dX6_dear_41 rfl <|
  s_cV1 ce_X6_finds ml_X6_340 im_X6_finds se_X6_finds xC6 dX6_dear_42 <|
  s_iload_n dX6_dear_45 rfl <|
  s_iconst dX6_dear_46 rfl <|
  s_icmp_eq (t := 59) dX6_dear_47 rfl (
  s_iload dX6_dear_59 <|
  s_istore_n dX6_dear_61 rfl (by decide) <|
  s_aload_n dX6_dear_62 rfl <|
  s_getI xC6 (by decide) (fun _ _ _ => rfl) fl_X6_327 dX6_dear_63 <|
  s_istore dX6_dear_66 (by decide) <|
  s_iinc dX6_dear_68 (by decide) <|
  s_goto (t := 27) dX6_dear_71 rfl <|
  s_J) <|
  s_aload_n dX6_dear_50 rfl <|
  s_getI xC6 (by decide) (fun _ _ _ => rfl) fl_X6_327 dX6_dear_51 <|
  s_iload dX6_dear_54 <|
  s_icmp_le (t := 68) dX6_dear_56 rfl (
  s_iinc dX6_dear_68 (by decide) <|
  s_goto (t := 27) dX6_dear_71 rfl <|
  s_J) <|
  s_iload dX6_dear_59 <|
  s_istore_n dX6_dear_61 rfl (by decide) <|
  s_aload_n dX6_dear_62 rfl <|
  s_getI xC6 (by decide) (fun _ _ _ => rfl) fl_X6_327 dX6_dear_63 <|
  s_istore dX6_dear_66 (by decide) <|
  s_iinc dX6_dear_68 (by decide) <|
  s_goto (t := 27) dX6_dear_71 rfl <|
  s_J
-- X6_dear: cuts [0, 27]
def k_X6_firstOther_0 (d : Nat) (Q : xV → xMem → Prop) : xP :=
  x_push (vi 0) <|
  x_istore 3 <|
  (xJ M_X6_firstOther (d + 1) 2 Q)
set_option maxRecDepth 100000 in
theorem b_X6_firstOther_0 {d : Nat} {Q : xV → xMem → Prop} : Snd M_X6_firstOther (d + 1) 0 Q (k_X6_firstOther_0 d Q) :=
  s_iconst dX6_firstOther_0 rfl <|
  s_istore_n dX6_firstOther_1 rfl (by decide) <|
  s_J
def k_X6_firstOther_2 (d : Nat) (Q : xV → xMem → Prop) : xP :=
  x_iload 3 <|
  x_aload 0 <|
  x_getR 6 50 <|
  x_iload 1 <|
  x_iaload <|
  x_c2 (fun x y => y ≤ x) (
  x_push (vi (-1)) <|
  x_ret Q) <|
  x_aload 0 <|
  x_iload 2 <|
  x_iload 3 <|
  x_cV2 M_X6_costsOf d 6 <|
  x_aload 0 <|
  x_getR 6 51 <|
  x_push (vi 40) <|
  x_iload 1 <|
  x_bin omul <|
  x_iload 3 <|
  x_bin oadd <|
  x_iaload <|
  x_c2 (fun x y => x = y) (
  x_iinc 3 1 <|
  (xJ M_X6_firstOther (d + 1) 2 Q)) <|
  x_iload 3 <|
  x_ret Q
set_option maxRecDepth 100000 in
theorem b_X6_firstOther_2 {d : Nat} {Q : xV → xMem → Prop} : Snd M_X6_firstOther (d + 1) 2 Q (k_X6_firstOther_2 d Q) :=
  s_iload_n dX6_firstOther_2 rfl <|
  s_aload_n dX6_firstOther_3 rfl <|
  s_getR xC6 (by decide) (fun _ _ _ => rfl) fl_X6_72 dX6_firstOther_4 <|
  s_iload_n dX6_firstOther_7 rfl <|
  s_iaload dX6_firstOther_8 <|
  s_icmp_ge (t := 40) dX6_firstOther_9 rfl (
  s_iconst dX6_firstOther_40 rfl <|
  s_ireturn dX6_firstOther_41 rfl) <|
  s_aload_n dX6_firstOther_12 rfl <|
  s_iload_n dX6_firstOther_13 rfl <|
  s_iload_n dX6_firstOther_14 rfl <|
  s_cV2 ce_X6_costsOf ml_X6_144 im_X6_costsOf se_X6_costsOf xC6 dX6_firstOther_15 <|
  s_aload_n dX6_firstOther_18 rfl <|
  s_getR xC6 (by decide) (fun _ _ _ => rfl) fl_X6_75 dX6_firstOther_19 <|
  s_bipush dX6_firstOther_22 rfl (by decide) <|
  s_iload_n dX6_firstOther_24 rfl <|
  s_imul dX6_firstOther_25 <|
  s_iload_n dX6_firstOther_26 rfl <|
  s_iadd dX6_firstOther_27 <|
  s_iaload dX6_firstOther_28 <|
  s_icmp_eq (t := 34) dX6_firstOther_29 rfl (
  s_iinc dX6_firstOther_34 (by decide) <|
  s_goto (t := 2) dX6_firstOther_37 rfl <|
  s_J) <|
  s_iload_n dX6_firstOther_32 rfl <|
  s_ireturn dX6_firstOther_33 rfl
-- X6_firstOther: cuts [0, 2]
def k_X6_tells_0 (d : Nat) (Q : xV → xMem → Prop) : xP :=
  x_iload 1 <|
  x_cS1 M_X6_isSheet d <|
  x_c1 (fun x => x = 0) (
  x_push (vi (-2)) <|
  x_ret Q) <|
  x_aload 0 <|
  x_iload 2 <|
  x_cV1 M_X6_isFigure d 6 <|
  x_c1 (fun x => x = 0) (
  x_push (vi (-2)) <|
  x_ret Q) <|
  x_iload 3 <|
  x_i2l <|
  x_push (vl 0) <|
  x_push (vl (6)) <|
  x_cS3 M_X6_in d <|
  x_c1 (fun x => ¬ x = 0) (
  x_aload 0 <|
  x_getR 6 48 <|
  x_iload 1 <|
  x_zaload <|
  x_c1 (fun x => ¬ x = 0) (
  x_aload 0 <|
  x_getR 6 50 <|
  x_iload 1 <|
  x_iaload <|
  x_push (vi 12) <|
  x_c2 (fun x y => x ≤ y) (
  x_iload 3 <|
  x_c1 (fun x => ¬ x = 0) (
  x_iload 3 <|
  x_push (vi 1) <|
  x_c2 (fun x y => ¬ x = y) (
  x_iload 3 <|
  x_push (vi 2) <|
  x_c2 (fun x y => ¬ x = y) (
  x_iload 3 <|
  x_push (vi 3) <|
  x_c2 (fun x y => ¬ x = y) (
  x_iload 3 <|
  x_push (vi 4) <|
  x_c2 (fun x y => ¬ x = y) (
  x_push (vi 2) <|
  (xJ M_X6_tells (d + 1) 106 Q)) <|
  x_push (vi 7) <|
  (xJ M_X6_tells (d + 1) 106 Q)) <|
  x_push (vi 0) <|
  (xJ M_X6_tells (d + 1) 106 Q)) <|
  x_push (vi 1) <|
  (xJ M_X6_tells (d + 1) 106 Q)) <|
  x_push (vi 6) <|
  (xJ M_X6_tells (d + 1) 106 Q)) <|
  x_aload 0 <|
  x_iload 1 <|
  x_iload 2 <|
  x_cV2 M_X6_firstOther d 6 <|
  x_ret Q) <|
  x_push (vi (-2)) <|
  x_ret Q) <|
  x_push (vi (-11)) <|
  x_ret Q) <|
  x_push (vi (-2)) <|
  x_ret Q
set_option maxRecDepth 100000 in
theorem b_X6_tells_0 {d : Nat} {Q : xV → xMem → Prop} : Snd M_X6_tells (d + 1) 0 Q (k_X6_tells_0 d Q) :=
  s_iload_n dX6_tells_0 rfl <|
  s_cS1 ce_X6_isSheet ml_X6_306 sm_X6_isSheet dX6_tells_1 <|
  s_if_eq (t := 27) dX6_tells_4 rfl (
  s_bipush dX6_tells_27 rfl (by decide) <|
  s_ireturn dX6_tells_29 rfl) <|
  s_aload_n dX6_tells_7 rfl <|
  s_iload_n dX6_tells_8 rfl <|
  s_cV1 ce_X6_isFigure ml_X6_101 im_X6_isFigure se_X6_isFigure xC6 dX6_tells_9 <|
  s_if_eq (t := 27) dX6_tells_12 rfl (
  s_bipush dX6_tells_27 rfl (by decide) <|
  s_ireturn dX6_tells_29 rfl) <|
  s_iload_n dX6_tells_15 rfl <|
  s_i2l dX6_tells_16 <|
  s_lconst dX6_tells_17 rfl (by decide) <|
  s_ldc2 dX6_tells_18 kl_X6_359 rfl (by decide) <|
  s_cS3 ce_X6_in ml_X6_88 sm_X6_in dX6_tells_21 <|
  s_if_ne (t := 30) dX6_tells_24 rfl (
  s_aload_n dX6_tells_30 rfl <|
  s_getR xC6 (by decide) (fun _ _ _ => rfl) fl_X6_66 dX6_tells_31 <|
  s_iload_n dX6_tells_34 rfl <|
  s_zaload dX6_tells_35 <|
  s_if_ne (t := 42) dX6_tells_36 rfl (
  s_aload_n dX6_tells_42 rfl <|
  s_getR xC6 (by decide) (fun _ _ _ => rfl) fl_X6_72 dX6_tells_43 <|
  s_iload_n dX6_tells_46 rfl <|
  s_iaload dX6_tells_47 <|
  s_bipush dX6_tells_48 rfl (by decide) <|
  s_icmp_le (t := 56) dX6_tells_50 rfl (
  s_iload_n dX6_tells_56 rfl <|
  s_if_ne (t := 67) dX6_tells_57 rfl (
  s_iload_n dX6_tells_67 rfl <|
  s_iconst dX6_tells_68 rfl <|
  s_icmp_ne (t := 77) dX6_tells_69 rfl (
  s_iload_n dX6_tells_77 rfl <|
  s_iconst dX6_tells_78 rfl <|
  s_icmp_ne (t := 86) dX6_tells_79 rfl (
  s_iload_n dX6_tells_86 rfl <|
  s_iconst dX6_tells_87 rfl <|
  s_icmp_ne (t := 95) dX6_tells_88 rfl (
  s_iload_n dX6_tells_95 rfl <|
  s_iconst dX6_tells_96 rfl <|
  s_icmp_ne (t := 105) dX6_tells_97 rfl (
  s_iconst dX6_tells_105 rfl <|
  s_J) <|
  s_bipush dX6_tells_100 rfl (by decide) <|
  s_goto (t := 106) dX6_tells_102 rfl <|
  s_J) <|
  s_iconst dX6_tells_91 rfl <|
  s_goto (t := 106) dX6_tells_92 rfl <|
  s_J) <|
  s_iconst dX6_tells_82 rfl <|
  s_goto (t := 106) dX6_tells_83 rfl <|
  s_J) <|
  s_bipush dX6_tells_72 rfl (by decide) <|
  s_goto (t := 106) dX6_tells_74 rfl <|
  s_J) <|
  s_aload_n dX6_tells_60 rfl <|
  s_iload_n dX6_tells_61 rfl <|
  s_iload_n dX6_tells_62 rfl <|
  s_cV2 ce_X6_firstOther ml_X6_361 im_X6_firstOther se_X6_firstOther xC6 dX6_tells_63 <|
  s_ireturn dX6_tells_66 rfl) <|
  s_bipush dX6_tells_53 rfl (by decide) <|
  s_ireturn dX6_tells_55 rfl) <|
  s_bipush dX6_tells_39 rfl (by decide) <|
  s_ireturn dX6_tells_41 rfl) <|
  s_bipush dX6_tells_27 rfl (by decide) <|
  s_ireturn dX6_tells_29 rfl
def k_X6_tells_106 (d : Nat) (Q : xV → xMem → Prop) : xP :=
  x_istore 4 <|
  x_iload 4 <|
  x_push (vi 7) <|
  x_c2 (fun x y => ¬ x = y) (
  x_aload 0 <|
  x_iload 2 <|
  x_iload 4 <|
  x_cV2 M_X6_told d 6 <|
  (xJ M_X6_tells (d + 1) 129 Q)) <|
  x_aload 0 <|
  x_getI 6 4 <|
  (xJ M_X6_tells (d + 1) 129 Q)
set_option maxRecDepth 100000 in
theorem b_X6_tells_106 {d : Nat} {Q : xV → xMem → Prop} : Snd M_X6_tells (d + 1) 106 Q (k_X6_tells_106 d Q) :=
  s_istore dX6_tells_106 (by decide) <|
  s_iload dX6_tells_108 <|
  s_bipush dX6_tells_110 rfl (by decide) <|
  s_icmp_ne (t := 122) dX6_tells_112 rfl (
  s_aload_n dX6_tells_122 rfl <|
  s_iload_n dX6_tells_123 rfl <|
  s_iload dX6_tells_124 <|
  s_cV2 ce_X6_told ml_X6_114 im_X6_told se_X6_told xC6 dX6_tells_126 <|
  s_J) <|
  s_aload_n dX6_tells_115 rfl <|
  s_getI xC6 (by decide) (fun _ _ _ => rfl) fl_X6_122 dX6_tells_116 <|
  s_goto (t := 129) dX6_tells_119 rfl <|
  s_J
def k_X6_tells_129 (d : Nat) (Q : xV → xMem → Prop) : xP :=
  x_istore 5 <|
  x_iload 4 <|
  x_push (vi 7) <|
  x_c2 (fun x y => ¬ x = y) (
  x_iload 4 <|
  x_push (vi 6) <|
  x_c2 (fun x y => ¬ x = y) (
  x_iload 4 <|
  x_cS1 M_X6_mostOf d <|
  (xJ M_X6_tells (d + 1) 163 Q)) <|
  x_push (vi 5) <|
  (xJ M_X6_tells (d + 1) 163 Q)) <|
  x_aload 0 <|
  x_getI 6 3 <|
  x_push (vi 1) <|
  x_bin osub <|
  (xJ M_X6_tells (d + 1) 163 Q)
set_option maxRecDepth 100000 in
theorem b_X6_tells_129 {d : Nat} {Q : xV → xMem → Prop} : Snd M_X6_tells (d + 1) 129 Q (k_X6_tells_129 d Q) :=
  s_istore dX6_tells_129 (by decide) <|
  s_iload dX6_tells_131 <|
  s_bipush dX6_tells_133 rfl (by decide) <|
  s_icmp_ne (t := 147) dX6_tells_135 rfl (
  s_iload dX6_tells_147 <|
  s_bipush dX6_tells_149 rfl (by decide) <|
  s_icmp_ne (t := 158) dX6_tells_151 rfl (
  s_iload dX6_tells_158 <|
  s_cS1 ce_X6_mostOf ml_X6_110 sm_X6_mostOf dX6_tells_160 <|
  s_J) <|
  s_iconst dX6_tells_154 rfl <|
  s_goto (t := 163) dX6_tells_155 rfl <|
  s_J) <|
  s_aload_n dX6_tells_138 rfl <|
  s_getI xC6 (by decide) (fun _ _ _ => rfl) fl_X6_82 dX6_tells_139 <|
  s_iconst dX6_tells_142 rfl <|
  s_isub dX6_tells_143 <|
  s_goto (t := 163) dX6_tells_144 rfl <|
  s_J
def k_X6_tells_163 (d : Nat) (Q : xV → xMem → Prop) : xP :=
  x_istore 6 <|
  x_push (vi 0) <|
  x_istore 7 <|
  x_push (vi 0) <|
  x_istore 8 <|
  x_push (vi (-1)) <|
  x_istore 9 <|
  x_iload 6 <|
  x_istore 10 <|
  (xJ M_X6_tells (d + 1) 178 Q)
set_option maxRecDepth 100000 in
theorem b_X6_tells_163 {d : Nat} {Q : xV → xMem → Prop} : Snd M_X6_tells (d + 1) 163 Q (k_X6_tells_163 d Q) :=
  s_istore dX6_tells_163 (by decide) <|
  s_iconst dX6_tells_165 rfl <|
  s_istore dX6_tells_166 (by decide) <|
  s_iconst dX6_tells_168 rfl <|
  s_istore dX6_tells_169 (by decide) <|
  s_iconst dX6_tells_171 rfl <|
  s_istore dX6_tells_172 (by decide) <|
  s_iload dX6_tells_174 <|
  s_istore dX6_tells_176 (by decide) <|
  s_J
def k_X6_tells_178 (d : Nat) (Q : xV → xMem → Prop) : xP :=
  x_iload 10 <|
  x_iload 4 <|
  x_c1 (fun x => ¬ x = 0) (
  x_push (vi 0) <|
  (xJ M_X6_tells (d + 1) 190 Q)) <|
  x_push (vi 1) <|
  (xJ M_X6_tells (d + 1) 190 Q)
set_option maxRecDepth 100000 in
theorem b_X6_tells_178 {d : Nat} {Q : xV → xMem → Prop} : Snd M_X6_tells (d + 1) 178 Q (k_X6_tells_178 d Q) :=
  s_iload dX6_tells_178 <|
  s_iload dX6_tells_180 <|
  s_if_ne (t := 189) dX6_tells_182 rfl (
  s_iconst dX6_tells_189 rfl <|
  s_J) <|
  s_iconst dX6_tells_185 rfl <|
  s_goto (t := 190) dX6_tells_186 rfl <|
  s_J
def k_X6_tells_190 (d : Nat) (Q : xV → xMem → Prop) : xP :=
  x_c2 (fun x y => x < y) (
  x_aload 0 <|
  x_iload 4 <|
  x_iload 2 <|
  x_iload 5 <|
  x_cV3 M_X6_lays d 6 <|
  x_iload 3 <|
  x_push (vi 5) <|
  x_c2 (fun x y => ¬ x = y) (
  x_iload 3 <|
  x_push (vi 6) <|
  x_c2 (fun x y => ¬ x = y) (
  x_iload 7 <|
  x_ret Q) <|
  x_iload 9 <|
  x_ret Q) <|
  x_iload 8 <|
  x_ret Q) <|
  x_aload 0 <|
  x_iload 4 <|
  x_iload 2 <|
  x_iload 10 <|
  x_cV3 M_X6_lays d 6 <|
  x_aload 0 <|
  x_iload 1 <|
  x_iload 2 <|
  x_cV2 M_X6_firstOther d 6 <|
  x_push (vi (-1)) <|
  x_c2 (fun x y => ¬ x = y) (
  x_iinc 10 (-1) <|
  (xJ M_X6_tells (d + 1) 178 Q)) <|
  x_iload 7 <|
  x_iload 4 <|
  x_push (vi 2) <|
  x_c2 (fun x y => ¬ x = y) (
  x_push (vi 1) <|
  x_iload 10 <|
  x_bin oshl <|
  x_bin oor <|
  x_istore 7 <|
  x_iinc 8 1 <|
  x_iload 10 <|
  x_istore 9 <|
  x_iinc 10 (-1) <|
  (xJ M_X6_tells (d + 1) 178 Q)) <|
  x_push (vi 0) <|
  x_bin oor <|
  x_istore 7 <|
  x_iinc 8 1 <|
  x_iload 10 <|
  x_istore 9 <|
  x_iinc 10 (-1) <|
  (xJ M_X6_tells (d + 1) 178 Q)
set_option maxRecDepth 100000 in
theorem b_X6_tells_190 {d : Nat} {Q : xV → xMem → Prop} : Snd M_X6_tells (d + 1) 190 Q (k_X6_tells_190 d Q) :=
  s_icmp_lt (t := 244) dX6_tells_190 rfl (
  s_aload_n dX6_tells_244 rfl <|
  s_iload dX6_tells_245 <|
  s_iload_n dX6_tells_247 rfl <|
  s_iload dX6_tells_248 <|
  s_cV3 ce_X6_lays ml_X6_118 im_X6_lays se_X6_lays xC6 dX6_tells_250 <|
  s_iload_n dX6_tells_253 rfl <|
  s_iconst dX6_tells_254 rfl <|
  s_icmp_ne (t := 263) dX6_tells_255 rfl (
  s_iload_n dX6_tells_263 rfl <|
  s_bipush dX6_tells_264 rfl (by decide) <|
  s_icmp_ne (t := 274) dX6_tells_266 rfl (
  s_iload dX6_tells_274 <|
  s_ireturn dX6_tells_276 rfl) <|
  s_iload dX6_tells_269 <|
  s_goto (t := 276) dX6_tells_271 rfl <|
  s_ireturn dX6_tells_276 rfl) <|
  s_iload dX6_tells_258 <|
  s_goto (t := 276) dX6_tells_260 rfl <|
  s_ireturn dX6_tells_276 rfl) <|
  s_aload_n dX6_tells_193 rfl <|
  s_iload dX6_tells_194 <|
  s_iload_n dX6_tells_196 rfl <|
  s_iload dX6_tells_197 <|
  s_cV3 ce_X6_lays ml_X6_118 im_X6_lays se_X6_lays xC6 dX6_tells_199 <|
  s_aload_n dX6_tells_202 rfl <|
  s_iload_n dX6_tells_203 rfl <|
  s_iload_n dX6_tells_204 rfl <|
  s_cV2 ce_X6_firstOther ml_X6_361 im_X6_firstOther se_X6_firstOther xC6 dX6_tells_205 <|
  s_iconst dX6_tells_208 rfl <|
  s_icmp_ne (t := 238) dX6_tells_209 rfl (
  s_iinc dX6_tells_238 (by decide) <|
  s_goto (t := 178) dX6_tells_241 rfl <|
  s_J) <|
  s_iload dX6_tells_212 <|
  s_iload dX6_tells_214 <|
  s_iconst dX6_tells_216 rfl <|
  s_icmp_ne (t := 224) dX6_tells_217 rfl (
  s_iconst dX6_tells_224 rfl <|
  s_iload dX6_tells_225 <|
  s_ishl dX6_tells_227 <|
  s_ior dX6_tells_228 <|
  s_istore dX6_tells_229 (by decide) <|
  s_iinc dX6_tells_231 (by decide) <|
  s_iload dX6_tells_234 <|
  s_istore dX6_tells_236 (by decide) <|
  s_iinc dX6_tells_238 (by decide) <|
  s_goto (t := 178) dX6_tells_241 rfl <|
  s_J) <|
  s_iconst dX6_tells_220 rfl <|
  s_goto (t := 228) dX6_tells_221 rfl <|
  s_ior dX6_tells_228 <|
  s_istore dX6_tells_229 (by decide) <|
  s_iinc dX6_tells_231 (by decide) <|
  s_iload dX6_tells_234 <|
  s_istore dX6_tells_236 (by decide) <|
  s_iinc dX6_tells_238 (by decide) <|
  s_goto (t := 178) dX6_tells_241 rfl <|
  s_J
-- X6_tells: cuts [0, 106, 129, 163, 178, 190]
def k_X6_film_0 (d : Nat) (Q : xV → xMem → Prop) : xP :=
  x_iload 1 <|
  x_cS1 M_X6_isSheet d <|
  x_c1 (fun x => x = 0) (
  x_push (vi (-2)) <|
  x_ret Q) <|
  x_aload 0 <|
  x_iload 2 <|
  x_cV1 M_X6_isFigure d 6 <|
  x_c1 (fun x => x = 0) (
  x_push (vi (-2)) <|
  x_ret Q) <|
  x_iload 3 <|
  x_i2l <|
  x_push (vl 0) <|
  x_push (vl (12)) <|
  x_cS3 M_X6_in d <|
  x_c1 (fun x => ¬ x = 0) (
  x_aload 0 <|
  x_iload 1 <|
  x_push (vi 1) <|
  x_iload 3 <|
  x_cV3 M_X6_sheet d 6 <|
  x_pop <|
  x_push (vi 0) <|
  x_istore 4 <|
  (xJ M_X6_film (d + 1) 41 Q)) <|
  x_push (vi (-2)) <|
  x_ret Q
set_option maxRecDepth 100000 in
theorem b_X6_film_0 {d : Nat} {Q : xV → xMem → Prop} : Snd M_X6_film (d + 1) 0 Q (k_X6_film_0 d Q) :=
  s_iload_n dX6_film_0 rfl <|
  s_cS1 ce_X6_isSheet ml_X6_306 sm_X6_isSheet dX6_film_1 <|
  s_if_eq (t := 27) dX6_film_4 rfl (
  s_bipush dX6_film_27 rfl (by decide) <|
  s_ireturn dX6_film_29 rfl) <|
  s_aload_n dX6_film_7 rfl <|
  s_iload_n dX6_film_8 rfl <|
  s_cV1 ce_X6_isFigure ml_X6_101 im_X6_isFigure se_X6_isFigure xC6 dX6_film_9 <|
  s_if_eq (t := 27) dX6_film_12 rfl (
  s_bipush dX6_film_27 rfl (by decide) <|
  s_ireturn dX6_film_29 rfl) <|
  s_iload_n dX6_film_15 rfl <|
  s_i2l dX6_film_16 <|
  s_lconst dX6_film_17 rfl (by decide) <|
  s_ldc2 dX6_film_18 kl_X6_364 rfl (by decide) <|
  s_cS3 ce_X6_in ml_X6_88 sm_X6_in dX6_film_21 <|
  s_if_ne (t := 30) dX6_film_24 rfl (
  s_aload_n dX6_film_30 rfl <|
  s_iload_n dX6_film_31 rfl <|
  s_iconst dX6_film_32 rfl <|
  s_iload_n dX6_film_33 rfl <|
  s_cV3 ce_X6_sheet ml_X6_366 im_X6_sheet se_X6_sheet xC6 dX6_film_34 <|
  s_pop dX6_film_37 <|
  s_iconst dX6_film_38 rfl <|
  s_istore dX6_film_39 (by decide) <|
  s_J) <|
  s_bipush dX6_film_27 rfl (by decide) <|
  s_ireturn dX6_film_29 rfl
def k_X6_film_41 (d : Nat) (Q : xV → xMem → Prop) : xP :=
  x_iload 4 <|
  x_iload 3 <|
  x_c2 (fun x y => y ≤ x) (
  x_iload 3 <|
  x_ret Q) <|
  x_aload 0 <|
  x_getR 6 51 <|
  x_push (vi 40) <|
  x_iload 1 <|
  x_bin omul <|
  x_iload 4 <|
  x_bin oadd <|
  x_aload 0 <|
  x_iload 2 <|
  x_iload 4 <|
  x_cV2 M_X6_costsOf d 6 <|
  x_iastore <|
  x_iinc 4 1 <|
  (xJ M_X6_film (d + 1) 41 Q)
set_option maxRecDepth 100000 in
theorem b_X6_film_41 {d : Nat} {Q : xV → xMem → Prop} : Snd M_X6_film (d + 1) 41 Q (k_X6_film_41 d Q) :=
  s_iload dX6_film_41 <|
  s_iload_n dX6_film_43 rfl <|
  s_icmp_ge (t := 72) dX6_film_44 rfl (
  s_iload_n dX6_film_72 rfl <|
  s_ireturn dX6_film_73 rfl) <|
  s_aload_n dX6_film_47 rfl <|
  s_getR xC6 (by decide) (fun _ _ _ => rfl) fl_X6_75 dX6_film_48 <|
  s_bipush dX6_film_51 rfl (by decide) <|
  s_iload_n dX6_film_53 rfl <|
  s_imul dX6_film_54 <|
  s_iload dX6_film_55 <|
  s_iadd dX6_film_57 <|
  s_aload_n dX6_film_58 rfl <|
  s_iload_n dX6_film_59 rfl <|
  s_iload dX6_film_60 <|
  s_cV2 ce_X6_costsOf ml_X6_144 im_X6_costsOf se_X6_costsOf xC6 dX6_film_62 <|
  s_iastore dX6_film_65 <|
  s_iinc dX6_film_66 (by decide) <|
  s_goto (t := 41) dX6_film_69 rfl <|
  s_J
-- X6_film: cuts [0, 41]
def k_X6_joyDrawn_0 (d : Nat) (Q : xV → xMem → Prop) : xP :=
  x_iload 1 <|
  x_istore 2 <|
  x_push (vi 0) <|
  x_istore 3 <|
  (xJ M_X6_joyDrawn (d + 1) 4 Q)
set_option maxRecDepth 100000 in
theorem b_X6_joyDrawn_0 {d : Nat} {Q : xV → xMem → Prop} : Snd M_X6_joyDrawn (d + 1) 0 Q (k_X6_joyDrawn_0 d Q) :=
  s_iload_n dX6_joyDrawn_0 rfl <|
  s_istore_n dX6_joyDrawn_1 rfl (by decide) <|
  s_iconst dX6_joyDrawn_2 rfl <|
  s_istore_n dX6_joyDrawn_3 rfl (by decide) <|
  s_J
def k_X6_joyDrawn_4 (d : Nat) (Q : xV → xMem → Prop) : xP :=
  x_iload 3 <|
  x_aload 0 <|
  x_getI 6 10 <|
  x_c2 (fun x y => y ≤ x) (
  x_aload 0 <|
  x_cV0 M_X6_findsPlain d 6 <|
  x_push (vi 0) <|
  x_istore 3 <|
  (xJ M_X6_joyDrawn (d + 1) 67 Q)) <|
  x_aload 0 <|
  x_getR 6 41 <|
  x_iload 3 <|
  x_aload 0 <|
  x_getR 6 9 <|
  x_push (vi 3) <|
  x_iload 3 <|
  x_bin omul <|
  x_push (vi 1) <|
  x_bin oadd <|
  x_iaload <|
  x_iastore <|
  x_iload 2 <|
  x_push (vi (1103515245)) <|
  x_bin omul <|
  x_push (vi 12345) <|
  x_bin oadd <|
  x_istore 2 <|
  x_aload 0 <|
  x_getR 6 9 <|
  x_push (vi 3) <|
  x_iload 3 <|
  x_bin omul <|
  x_push (vi 1) <|
  x_bin oadd <|
  x_iload 2 <|
  x_push (vi 9) <|
  x_bin oushr <|
  x_push (vi 100) <|
  x_div orem <|
  x_iastore <|
  x_iinc 3 1 <|
  (xJ M_X6_joyDrawn (d + 1) 4 Q)
set_option maxRecDepth 100000 in
theorem b_X6_joyDrawn_4 {d : Nat} {Q : xV → xMem → Prop} : Snd M_X6_joyDrawn (d + 1) 4 Q (k_X6_joyDrawn_4 d Q) :=
  s_iload_n dX6_joyDrawn_4 rfl <|
  s_aload_n dX6_joyDrawn_5 rfl <|
  s_getI xC6 (by decide) (fun _ _ _ => rfl) fl_X6_85 dX6_joyDrawn_6 <|
  s_icmp_ge (t := 61) dX6_joyDrawn_9 rfl (
  s_aload_n dX6_joyDrawn_61 rfl <|
  s_cV0 ce_X6_findsPlain ml_X6_337 im_X6_findsPlain se_X6_findsPlain xC6 dX6_joyDrawn_62 <|
  s_iconst dX6_joyDrawn_65 rfl <|
  s_istore_n dX6_joyDrawn_66 rfl (by decide) <|
  s_J) <|
  s_aload_n dX6_joyDrawn_12 rfl <|
  s_getR xC6 (by decide) (fun _ _ _ => rfl) fl_X6_54 dX6_joyDrawn_13 <|
  s_iload_n dX6_joyDrawn_16 rfl <|
  s_aload_n dX6_joyDrawn_17 rfl <|
  s_getR xC6 (by decide) (fun _ _ _ => rfl) fl_X6_29 dX6_joyDrawn_18 <|
  s_iconst dX6_joyDrawn_21 rfl <|
  s_iload_n dX6_joyDrawn_22 rfl <|
  s_imul dX6_joyDrawn_23 <|
  s_iconst dX6_joyDrawn_24 rfl <|
  s_iadd dX6_joyDrawn_25 <|
  s_iaload dX6_joyDrawn_26 <|
  s_iastore dX6_joyDrawn_27 <|
  s_iload_n dX6_joyDrawn_28 rfl <|
  s_ldc_w dX6_joyDrawn_29 kc_X6_369 rfl (by decide) <|
  s_imul dX6_joyDrawn_32 <|
  s_sipush dX6_joyDrawn_33 rfl (by decide) <|
  s_iadd dX6_joyDrawn_36 <|
  s_istore_n dX6_joyDrawn_37 rfl (by decide) <|
  s_aload_n dX6_joyDrawn_38 rfl <|
  s_getR xC6 (by decide) (fun _ _ _ => rfl) fl_X6_29 dX6_joyDrawn_39 <|
  s_iconst dX6_joyDrawn_42 rfl <|
  s_iload_n dX6_joyDrawn_43 rfl <|
  s_imul dX6_joyDrawn_44 <|
  s_iconst dX6_joyDrawn_45 rfl <|
  s_iadd dX6_joyDrawn_46 <|
  s_iload_n dX6_joyDrawn_47 rfl <|
  s_bipush dX6_joyDrawn_48 rfl (by decide) <|
  s_iushr dX6_joyDrawn_50 <|
  s_bipush dX6_joyDrawn_51 rfl (by decide) <|
  s_irem dX6_joyDrawn_53 <|
  s_iastore dX6_joyDrawn_54 <|
  s_iinc dX6_joyDrawn_55 (by decide) <|
  s_goto (t := 4) dX6_joyDrawn_58 rfl <|
  s_J
def k_X6_joyDrawn_67 (d : Nat) (Q : xV → xMem → Prop) : xP :=
  x_iload 3 <|
  x_aload 0 <|
  x_getI 6 10 <|
  x_c2 (fun x y => y ≤ x) (
  x_aload 0 <|
  x_getI 6 38 <|
  x_ret Q) <|
  x_aload 0 <|
  x_getR 6 9 <|
  x_push (vi 3) <|
  x_iload 3 <|
  x_bin omul <|
  x_push (vi 1) <|
  x_bin oadd <|
  x_aload 0 <|
  x_getR 6 41 <|
  x_iload 3 <|
  x_iaload <|
  x_iastore <|
  x_iinc 3 1 <|
  (xJ M_X6_joyDrawn (d + 1) 67 Q)
set_option maxRecDepth 100000 in
theorem b_X6_joyDrawn_67 {d : Nat} {Q : xV → xMem → Prop} : Snd M_X6_joyDrawn (d + 1) 67 Q (k_X6_joyDrawn_67 d Q) :=
  s_iload_n dX6_joyDrawn_67 rfl <|
  s_aload_n dX6_joyDrawn_68 rfl <|
  s_getI xC6 (by decide) (fun _ _ _ => rfl) fl_X6_85 dX6_joyDrawn_69 <|
  s_icmp_ge (t := 97) dX6_joyDrawn_72 rfl (
  s_aload_n dX6_joyDrawn_97 rfl <|
  s_getI xC6 (by decide) (fun _ _ _ => rfl) fl_X6_324 dX6_joyDrawn_98 <|
  s_ireturn dX6_joyDrawn_101 rfl) <|
  s_aload_n dX6_joyDrawn_75 rfl <|
  s_getR xC6 (by decide) (fun _ _ _ => rfl) fl_X6_29 dX6_joyDrawn_76 <|
  s_iconst dX6_joyDrawn_79 rfl <|
  s_iload_n dX6_joyDrawn_80 rfl <|
  s_imul dX6_joyDrawn_81 <|
  s_iconst dX6_joyDrawn_82 rfl <|
  s_iadd dX6_joyDrawn_83 <|
  s_aload_n dX6_joyDrawn_84 rfl <|
  s_getR xC6 (by decide) (fun _ _ _ => rfl) fl_X6_54 dX6_joyDrawn_85 <|
  s_iload_n dX6_joyDrawn_88 rfl <|
  s_iaload dX6_joyDrawn_89 <|
  s_iastore dX6_joyDrawn_90 <|
  s_iinc dX6_joyDrawn_91 (by decide) <|
  s_goto (t := 67) dX6_joyDrawn_94 rfl <|
  s_J
-- X6_joyDrawn: cuts [0, 4, 67]
def k_X6_drawn_0 (d : Nat) (Q : xV → xMem → Prop) : xP :=
  x_aload 0 <|
  x_iload 1 <|
  x_cV1 M_X6_joyDrawn d 6 <|
  x_ret Q
set_option maxRecDepth 100000 in
theorem b_X6_drawn_0 {d : Nat} {Q : xV → xMem → Prop} : Snd M_X6_drawn (d + 1) 0 Q (k_X6_drawn_0 d Q) :=
  s_aload_n dX6_drawn_0 rfl <|
  s_iload_n dX6_drawn_1 rfl <|
  s_cV1 ce_X6_joyDrawn ml_X6_370 im_X6_joyDrawn se_X6_joyDrawn xC6 dX6_drawn_2 <|
  s_ireturn dX6_drawn_5 rfl
-- X6_drawn: cuts [0]
def k_X6_chance_0 (d : Nat) (Q : xV → xMem → Prop) : xP :=
  x_iload 2 <|
  x_i2l <|
  x_push (vl 1) <|
  x_push (vl (20)) <|
  x_cS3 M_X6_in d <|
  x_c1 (fun x => x = 0) (
  x_push (vl (-4611686018427387904)) <|
  x_lret Q) <|
  x_iload 3 <|
  x_i2l <|
  x_push (vl 0) <|
  x_push (vl (999)) <|
  x_cS3 M_X6_in d <|
  x_c1 (fun x => x = 0) (
  x_push (vl (-4611686018427387904)) <|
  x_lret Q) <|
  x_iload 4 <|
  x_i2l <|
  x_push (vl 0) <|
  x_push (vl 1) <|
  x_cS3 M_X6_in d <|
  x_c1 (fun x => ¬ x = 0) (
  x_push (vl 0) <|
  x_lstore 5 <|
  x_push (vi 0) <|
  x_istore 7 <|
  (xJ M_X6_chance (d + 1) 45 Q)) <|
  x_push (vl (-4611686018427387904)) <|
  x_lret Q
set_option maxRecDepth 100000 in
theorem b_X6_chance_0 {d : Nat} {Q : xV → xMem → Prop} : Snd M_X6_chance (d + 1) 0 Q (k_X6_chance_0 d Q) :=
  s_iload_n dX6_chance_0 rfl <|
  s_i2l dX6_chance_1 <|
  s_lconst dX6_chance_2 rfl (by decide) <|
  s_ldc2 dX6_chance_3 kl_X6_373 rfl (by decide) <|
  s_cS3 ce_X6_in ml_X6_88 sm_X6_in dX6_chance_6 <|
  s_if_eq (t := 35) dX6_chance_9 rfl (
  s_ldc2 dX6_chance_35 kl_X6_375 rfl (by decide) <|
  s_lreturn dX6_chance_38 rfl) <|
  s_iload_n dX6_chance_12 rfl <|
  s_i2l dX6_chance_13 <|
  s_lconst dX6_chance_14 rfl (by decide) <|
  s_ldc2 dX6_chance_15 kl_X6_127 rfl (by decide) <|
  s_cS3 ce_X6_in ml_X6_88 sm_X6_in dX6_chance_18 <|
  s_if_eq (t := 35) dX6_chance_21 rfl (
  s_ldc2 dX6_chance_35 kl_X6_375 rfl (by decide) <|
  s_lreturn dX6_chance_38 rfl) <|
  s_iload dX6_chance_24 <|
  s_i2l dX6_chance_26 <|
  s_lconst dX6_chance_27 rfl (by decide) <|
  s_lconst dX6_chance_28 rfl (by decide) <|
  s_cS3 ce_X6_in ml_X6_88 sm_X6_in dX6_chance_29 <|
  s_if_ne (t := 39) dX6_chance_32 rfl (
  s_lconst dX6_chance_39 rfl (by decide) <|
  s_lstore dX6_chance_40 (by decide) <|
  s_iconst dX6_chance_42 rfl <|
  s_istore dX6_chance_43 (by decide) <|
  s_J) <|
  s_ldc2 dX6_chance_35 kl_X6_375 rfl (by decide) <|
  s_lreturn dX6_chance_38 rfl
def k_X6_chance_45 (d : Nat) (Q : xV → xMem → Prop) : xP :=
  x_iload 7 <|
  x_iload 2 <|
  x_c2 (fun x y => y ≤ x) (
  x_lload 5 <|
  x_lstore 7 <|
  x_iload 2 <|
  x_i2l <|
  x_lstore 9 <|
  (xJ M_X6_chance (d + 1) 87 Q)) <|
  x_lload 5 <|
  x_aload 0 <|
  x_iload 1 <|
  x_iload 7 <|
  x_bin oadd <|
  x_cV1 M_X6_joyDrawn d 6 <|
  x_iload 3 <|
  x_c2 (fun x y => x < y) (
  x_push (vl 0) <|
  x_lbin oladd <|
  x_lstore 5 <|
  x_iinc 7 1 <|
  (xJ M_X6_chance (d + 1) 45 Q)) <|
  x_push (vl 1) <|
  x_lbin oladd <|
  x_lstore 5 <|
  x_iinc 7 1 <|
  (xJ M_X6_chance (d + 1) 45 Q)
set_option maxRecDepth 100000 in
theorem b_X6_chance_45 {d : Nat} {Q : xV → xMem → Prop} : Snd M_X6_chance (d + 1) 45 Q (k_X6_chance_45 d Q) :=
  s_iload dX6_chance_45 <|
  s_iload_n dX6_chance_47 rfl <|
  s_icmp_ge (t := 79) dX6_chance_48 rfl (
  s_lload dX6_chance_79 <|
  s_lstore dX6_chance_81 (by decide) <|
  s_iload_n dX6_chance_83 rfl <|
  s_i2l dX6_chance_84 <|
  s_lstore dX6_chance_85 (by decide) <|
  s_J) <|
  s_lload dX6_chance_51 <|
  s_aload_n dX6_chance_53 rfl <|
  s_iload_n dX6_chance_54 rfl <|
  s_iload dX6_chance_55 <|
  s_iadd dX6_chance_57 <|
  s_cV1 ce_X6_joyDrawn ml_X6_370 im_X6_joyDrawn se_X6_joyDrawn xC6 dX6_chance_58 <|
  s_iload_n dX6_chance_61 rfl <|
  s_icmp_lt (t := 69) dX6_chance_62 rfl (
  s_lconst dX6_chance_69 rfl (by decide) <|
  s_ladd dX6_chance_70 <|
  s_lstore dX6_chance_71 (by decide) <|
  s_iinc dX6_chance_73 (by decide) <|
  s_goto (t := 45) dX6_chance_76 rfl <|
  s_J) <|
  s_lconst dX6_chance_65 rfl (by decide) <|
  s_goto (t := 70) dX6_chance_66 rfl <|
  s_ladd dX6_chance_70 <|
  s_lstore dX6_chance_71 (by decide) <|
  s_iinc dX6_chance_73 (by decide) <|
  s_goto (t := 45) dX6_chance_76 rfl <|
  s_J
def k_X6_chance_87 (d : Nat) (Q : xV → xMem → Prop) : xP :=
  x_lload 9 <|
  x_push (vl 0) <|
  x_lcmp <|
  x_c1 (fun x => x = 0) (
  x_iload 4 <|
  x_c1 (fun x => ¬ x = 0) (
  x_iload 2 <|
  x_i2l <|
  x_lload 7 <|
  x_ldiv oldiv <|
  x_lret Q) <|
  x_lload 5 <|
  x_lload 7 <|
  x_ldiv oldiv <|
  x_lret Q) <|
  x_lload 7 <|
  x_lload 9 <|
  x_ldiv olrem <|
  x_lstore 11 <|
  x_lload 9 <|
  x_lstore 7 <|
  x_lload 11 <|
  x_lstore 9 <|
  (xJ M_X6_chance (d + 1) 87 Q)
set_option maxRecDepth 100000 in
theorem b_X6_chance_87 {d : Nat} {Q : xV → xMem → Prop} : Snd M_X6_chance (d + 1) 87 Q (k_X6_chance_87 d Q) :=
  s_lload dX6_chance_87 <|
  s_lconst dX6_chance_89 rfl (by decide) <|
  s_lcmp dX6_chance_90 <|
  s_if_eq (t := 112) dX6_chance_91 rfl (
  s_iload dX6_chance_112 <|
  s_if_ne (t := 125) dX6_chance_114 rfl (
  s_iload_n dX6_chance_125 rfl <|
  s_i2l dX6_chance_126 <|
  s_lload dX6_chance_127 <|
  s_ldiv dX6_chance_129 <|
  s_lreturn dX6_chance_130 rfl) <|
  s_lload dX6_chance_117 <|
  s_lload dX6_chance_119 <|
  s_ldiv dX6_chance_121 <|
  s_goto (t := 130) dX6_chance_122 rfl <|
  s_lreturn dX6_chance_130 rfl) <|
  s_lload dX6_chance_94 <|
  s_lload dX6_chance_96 <|
  s_lrem dX6_chance_98 <|
  s_lstore dX6_chance_99 (by decide) <|
  s_lload dX6_chance_101 <|
  s_lstore dX6_chance_103 (by decide) <|
  s_lload dX6_chance_105 <|
  s_lstore dX6_chance_107 (by decide) <|
  s_goto (t := 87) dX6_chance_109 rfl <|
  s_J
-- X6_chance: cuts [0, 45, 87]
def k_X6_image_0 (d : Nat) (Q : xV → xMem → Prop) : xP :=
  x_push (vi 0) <|
  x_istore 1 <|
  (xJ M_X6_image (d + 1) 2 Q)
set_option maxRecDepth 100000 in
theorem b_X6_image_0 {d : Nat} {Q : xV → xMem → Prop} : Snd M_X6_image (d + 1) 0 Q (k_X6_image_0 d Q) :=
  s_iconst dX6_image_0 rfl <|
  s_istore_n dX6_image_1 rfl (by decide) <|
  s_J
def k_X6_image_2 (d : Nat) (Q : xV → xMem → Prop) : xP :=
  x_iload 1 <|
  x_push (vi 18) <|
  x_c2 (fun x y => y ≤ x) (
  x_push (vi 0) <|
  x_istore 1 <|
  (xJ M_X6_image (d + 1) 28 Q)) <|
  x_aload 0 <|
  x_getR 6 42 <|
  x_iload 1 <|
  x_aload 0 <|
  x_getR 6 9 <|
  x_iload 1 <|
  x_iaload <|
  x_iastore <|
  x_iinc 1 1 <|
  (xJ M_X6_image (d + 1) 2 Q)
set_option maxRecDepth 100000 in
theorem b_X6_image_2 {d : Nat} {Q : xV → xMem → Prop} : Snd M_X6_image (d + 1) 2 Q (k_X6_image_2 d Q) :=
  s_iload_n dX6_image_2 rfl <|
  s_bipush dX6_image_3 rfl (by decide) <|
  s_icmp_ge (t := 26) dX6_image_5 rfl (
  s_iconst dX6_image_26 rfl <|
  s_istore_n dX6_image_27 rfl (by decide) <|
  s_J) <|
  s_aload_n dX6_image_8 rfl <|
  s_getR xC6 (by decide) (fun _ _ _ => rfl) fl_X6_57 dX6_image_9 <|
  s_iload_n dX6_image_12 rfl <|
  s_aload_n dX6_image_13 rfl <|
  s_getR xC6 (by decide) (fun _ _ _ => rfl) fl_X6_29 dX6_image_14 <|
  s_iload_n dX6_image_17 rfl <|
  s_iaload dX6_image_18 <|
  s_iastore dX6_image_19 <|
  s_iinc dX6_image_20 (by decide) <|
  s_goto (t := 2) dX6_image_23 rfl <|
  s_J
def k_X6_image_28 (d : Nat) (Q : xV → xMem → Prop) : xP :=
  x_iload 1 <|
  x_push (vi 10) <|
  x_c2 (fun x y => y ≤ x) (
  x_aload 0 <|
  x_aload 0 <|
  x_getI 6 10 <|
  x_putI 6 44 <|
  x_aload 0 <|
  x_aload 0 <|
  x_getI 6 12 <|
  x_putI 6 45 <|
  x_aload 0 <|
  x_aload 0 <|
  x_getI 6 7 <|
  x_putI 6 46 <|
  x_aload 0 <|
  x_aload 0 <|
  x_getI 6 4 <|
  x_putI 6 47 <|
  x_aload 0 <|
  x_getI 6 10 <|
  x_ret Q) <|
  x_aload 0 <|
  x_getR 6 43 <|
  x_iload 1 <|
  x_aload 0 <|
  x_getR 6 11 <|
  x_iload 1 <|
  x_iaload <|
  x_iastore <|
  x_iinc 1 1 <|
  (xJ M_X6_image (d + 1) 28 Q)
set_option maxRecDepth 100000 in
theorem b_X6_image_28 {d : Nat} {Q : xV → xMem → Prop} : Snd M_X6_image (d + 1) 28 Q (k_X6_image_28 d Q) :=
  s_iload_n dX6_image_28 rfl <|
  s_bipush dX6_image_29 rfl (by decide) <|
  s_icmp_ge (t := 52) dX6_image_31 rfl (
  s_aload_n dX6_image_52 rfl <|
  s_aload_n dX6_image_53 rfl <|
  s_getI xC6 (by decide) (fun _ _ _ => rfl) fl_X6_85 dX6_image_54 <|
  s_putI xC6 (by decide) (fun _ _ _ => rfl) rfl rfl fl_X6_63 dX6_image_57 <|
  s_aload_n dX6_image_60 rfl <|
  s_aload_n dX6_image_61 rfl <|
  s_getI xC6 (by decide) (fun _ _ _ => rfl) fl_X6_92 dX6_image_62 <|
  s_putI xC6 (by decide) (fun _ _ _ => rfl) rfl rfl fl_X6_377 dX6_image_65 <|
  s_aload_n dX6_image_68 rfl <|
  s_aload_n dX6_image_69 rfl <|
  s_getI xC6 (by decide) (fun _ _ _ => rfl) fl_X6_23 dX6_image_70 <|
  s_putI xC6 (by decide) (fun _ _ _ => rfl) rfl rfl fl_X6_380 dX6_image_73 <|
  s_aload_n dX6_image_76 rfl <|
  s_aload_n dX6_image_77 rfl <|
  s_getI xC6 (by decide) (fun _ _ _ => rfl) fl_X6_122 dX6_image_78 <|
  s_putI xC6 (by decide) (fun _ _ _ => rfl) rfl rfl fl_X6_383 dX6_image_81 <|
  s_aload_n dX6_image_84 rfl <|
  s_getI xC6 (by decide) (fun _ _ _ => rfl) fl_X6_85 dX6_image_85 <|
  s_ireturn dX6_image_88 rfl) <|
  s_aload_n dX6_image_34 rfl <|
  s_getR xC6 (by decide) (fun _ _ _ => rfl) fl_X6_60 dX6_image_35 <|
  s_iload_n dX6_image_38 rfl <|
  s_aload_n dX6_image_39 rfl <|
  s_getR xC6 (by decide) (fun _ _ _ => rfl) fl_X6_32 dX6_image_40 <|
  s_iload_n dX6_image_43 rfl <|
  s_iaload dX6_image_44 <|
  s_iastore dX6_image_45 <|
  s_iinc dX6_image_46 (by decide) <|
  s_goto (t := 28) dX6_image_49 rfl <|
  s_J
-- X6_image: cuts [0, 2, 28]
def k_X6_back_0 (d : Nat) (Q : xV → xMem → Prop) : xP :=
  x_aload 0 <|
  x_getI 6 44 <|
  x_push (vi (-1)) <|
  x_c2 (fun x y => ¬ x = y) (
  x_push (vi 0) <|
  x_istore 1 <|
  (xJ M_X6_back (d + 1) 13 Q)) <|
  x_push (vi (-3)) <|
  x_ret Q
set_option maxRecDepth 100000 in
theorem b_X6_back_0 {d : Nat} {Q : xV → xMem → Prop} : Snd M_X6_back (d + 1) 0 Q (k_X6_back_0 d Q) :=
  s_aload_n dX6_back_0 rfl <|
  s_getI xC6 (by decide) (fun _ _ _ => rfl) fl_X6_63 dX6_back_1 <|
  s_iconst dX6_back_4 rfl <|
  s_icmp_ne (t := 11) dX6_back_5 rfl (
  s_iconst dX6_back_11 rfl <|
  s_istore_n dX6_back_12 rfl (by decide) <|
  s_J) <|
  s_bipush dX6_back_8 rfl (by decide) <|
  s_ireturn dX6_back_10 rfl
def k_X6_back_13 (d : Nat) (Q : xV → xMem → Prop) : xP :=
  x_iload 1 <|
  x_push (vi 18) <|
  x_c2 (fun x y => y ≤ x) (
  x_push (vi 0) <|
  x_istore 1 <|
  (xJ M_X6_back (d + 1) 39 Q)) <|
  x_aload 0 <|
  x_getR 6 9 <|
  x_iload 1 <|
  x_aload 0 <|
  x_getR 6 42 <|
  x_iload 1 <|
  x_iaload <|
  x_iastore <|
  x_iinc 1 1 <|
  (xJ M_X6_back (d + 1) 13 Q)
set_option maxRecDepth 100000 in
theorem b_X6_back_13 {d : Nat} {Q : xV → xMem → Prop} : Snd M_X6_back (d + 1) 13 Q (k_X6_back_13 d Q) :=
  s_iload_n dX6_back_13 rfl <|
  s_bipush dX6_back_14 rfl (by decide) <|
  s_icmp_ge (t := 37) dX6_back_16 rfl (
  s_iconst dX6_back_37 rfl <|
  s_istore_n dX6_back_38 rfl (by decide) <|
  s_J) <|
  s_aload_n dX6_back_19 rfl <|
  s_getR xC6 (by decide) (fun _ _ _ => rfl) fl_X6_29 dX6_back_20 <|
  s_iload_n dX6_back_23 rfl <|
  s_aload_n dX6_back_24 rfl <|
  s_getR xC6 (by decide) (fun _ _ _ => rfl) fl_X6_57 dX6_back_25 <|
  s_iload_n dX6_back_28 rfl <|
  s_iaload dX6_back_29 <|
  s_iastore dX6_back_30 <|
  s_iinc dX6_back_31 (by decide) <|
  s_goto (t := 13) dX6_back_34 rfl <|
  s_J
def k_X6_back_39 (d : Nat) (Q : xV → xMem → Prop) : xP :=
  x_iload 1 <|
  x_push (vi 10) <|
  x_c2 (fun x y => y ≤ x) (
  x_aload 0 <|
  x_aload 0 <|
  x_getI 6 44 <|
  x_putI 6 10 <|
  x_aload 0 <|
  x_aload 0 <|
  x_getI 6 45 <|
  x_putI 6 12 <|
  x_aload 0 <|
  x_aload 0 <|
  x_getI 6 46 <|
  x_putI 6 7 <|
  x_aload 0 <|
  x_aload 0 <|
  x_getI 6 47 <|
  x_putI 6 4 <|
  x_aload 0 <|
  x_getI 6 10 <|
  x_ret Q) <|
  x_aload 0 <|
  x_getR 6 11 <|
  x_iload 1 <|
  x_aload 0 <|
  x_getR 6 43 <|
  x_iload 1 <|
  x_iaload <|
  x_iastore <|
  x_iinc 1 1 <|
  (xJ M_X6_back (d + 1) 39 Q)
set_option maxRecDepth 100000 in
theorem b_X6_back_39 {d : Nat} {Q : xV → xMem → Prop} : Snd M_X6_back (d + 1) 39 Q (k_X6_back_39 d Q) :=
  s_iload_n dX6_back_39 rfl <|
  s_bipush dX6_back_40 rfl (by decide) <|
  s_icmp_ge (t := 63) dX6_back_42 rfl (
  s_aload_n dX6_back_63 rfl <|
  s_aload_n dX6_back_64 rfl <|
  s_getI xC6 (by decide) (fun _ _ _ => rfl) fl_X6_63 dX6_back_65 <|
  s_putI xC6 (by decide) (fun _ _ _ => rfl) rfl rfl fl_X6_85 dX6_back_68 <|
  s_aload_n dX6_back_71 rfl <|
  s_aload_n dX6_back_72 rfl <|
  s_getI xC6 (by decide) (fun _ _ _ => rfl) fl_X6_377 dX6_back_73 <|
  s_putI xC6 (by decide) (fun _ _ _ => rfl) rfl rfl fl_X6_92 dX6_back_76 <|
  s_aload_n dX6_back_79 rfl <|
  s_aload_n dX6_back_80 rfl <|
  s_getI xC6 (by decide) (fun _ _ _ => rfl) fl_X6_380 dX6_back_81 <|
  s_putI xC6 (by decide) (fun _ _ _ => rfl) rfl rfl fl_X6_23 dX6_back_84 <|
  s_aload_n dX6_back_87 rfl <|
  s_aload_n dX6_back_88 rfl <|
  s_getI xC6 (by decide) (fun _ _ _ => rfl) fl_X6_383 dX6_back_89 <|
  s_putI xC6 (by decide) (fun _ _ _ => rfl) rfl rfl fl_X6_122 dX6_back_92 <|
  s_aload_n dX6_back_95 rfl <|
  s_getI xC6 (by decide) (fun _ _ _ => rfl) fl_X6_85 dX6_back_96 <|
  s_ireturn dX6_back_99 rfl) <|
  s_aload_n dX6_back_45 rfl <|
  s_getR xC6 (by decide) (fun _ _ _ => rfl) fl_X6_32 dX6_back_46 <|
  s_iload_n dX6_back_49 rfl <|
  s_aload_n dX6_back_50 rfl <|
  s_getR xC6 (by decide) (fun _ _ _ => rfl) fl_X6_60 dX6_back_51 <|
  s_iload_n dX6_back_54 rfl <|
  s_iaload dX6_back_55 <|
  s_iastore dX6_back_56 <|
  s_iinc dX6_back_57 (by decide) <|
  s_goto (t := 39) dX6_back_60 rfl <|
  s_J
-- X6_back: cuts [0, 13, 39]
def k_X6_count_0 (d : Nat) (Q : xV → xMem → Prop) : xP :=
  x_iload 1 <|
  x_i2l <|
  x_push (vl 0) <|
  x_push (vl (5)) <|
  x_cS3 M_X6_in d <|
  x_c1 (fun x => ¬ x = 0) (
  x_iload 1 <|
  x_push (vi 2) <|
  x_c2 (fun x y => x = y) (
  x_push (vi 0) <|
  x_istore 2 <|
  x_push (vi 0) <|
  x_istore 3 <|
  (xJ M_X6_count (d + 1) 76 Q)) <|
  x_iload 1 <|
  x_c1 (fun x => ¬ x = 0) (
  x_iload 1 <|
  x_push (vi 1) <|
  x_c2 (fun x y => ¬ x = y) (
  x_iload 1 <|
  x_push (vi 3) <|
  x_c2 (fun x y => ¬ x = y) (
  x_iload 1 <|
  x_push (vi 4) <|
  x_c2 (fun x y => ¬ x = y) (
  x_aload 0 <|
  x_getI 6 4 <|
  x_ret Q) <|
  x_aload 0 <|
  x_getI 6 6 <|
  x_ret Q) <|
  x_aload 0 <|
  x_getI 6 3 <|
  x_ret Q) <|
  x_aload 0 <|
  x_getI 6 12 <|
  x_ret Q) <|
  x_aload 0 <|
  x_getI 6 10 <|
  x_ret Q) <|
  x_push (vi (-2)) <|
  x_ret Q
set_option maxRecDepth 100000 in
theorem b_X6_count_0 {d : Nat} {Q : xV → xMem → Prop} : Snd M_X6_count (d + 1) 0 Q (k_X6_count_0 d Q) :=
  s_iload_n dX6_count_0 rfl <|
  s_i2l dX6_count_1 <|
  s_lconst dX6_count_2 rfl (by decide) <|
  s_ldc2 dX6_count_3 kl_X6_104 rfl (by decide) <|
  s_cS3 ce_X6_in ml_X6_88 sm_X6_in dX6_count_6 <|
  s_if_ne (t := 15) dX6_count_9 rfl (
  s_iload_n dX6_count_15 rfl <|
  s_iconst dX6_count_16 rfl <|
  s_icmp_eq (t := 72) dX6_count_17 rfl (
  s_iconst dX6_count_72 rfl <|
  s_istore_n dX6_count_73 rfl (by decide) <|
  s_iconst dX6_count_74 rfl <|
  s_istore_n dX6_count_75 rfl (by decide) <|
  s_J) <|
  s_iload_n dX6_count_20 rfl <|
  s_if_ne (t := 31) dX6_count_21 rfl (
  s_iload_n dX6_count_31 rfl <|
  s_iconst dX6_count_32 rfl <|
  s_icmp_ne (t := 43) dX6_count_33 rfl (
  s_iload_n dX6_count_43 rfl <|
  s_iconst dX6_count_44 rfl <|
  s_icmp_ne (t := 55) dX6_count_45 rfl (
  s_iload_n dX6_count_55 rfl <|
  s_iconst dX6_count_56 rfl <|
  s_icmp_ne (t := 67) dX6_count_57 rfl (
  s_aload_n dX6_count_67 rfl <|
  s_getI xC6 (by decide) (fun _ _ _ => rfl) fl_X6_122 dX6_count_68 <|
  s_ireturn dX6_count_71 rfl) <|
  s_aload_n dX6_count_60 rfl <|
  s_getI xC6 (by decide) (fun _ _ _ => rfl) fl_X6_158 dX6_count_61 <|
  s_goto (t := 71) dX6_count_64 rfl <|
  s_ireturn dX6_count_71 rfl) <|
  s_aload_n dX6_count_48 rfl <|
  s_getI xC6 (by decide) (fun _ _ _ => rfl) fl_X6_82 dX6_count_49 <|
  s_goto (t := 71) dX6_count_52 rfl <|
  s_ireturn dX6_count_71 rfl) <|
  s_aload_n dX6_count_36 rfl <|
  s_getI xC6 (by decide) (fun _ _ _ => rfl) fl_X6_92 dX6_count_37 <|
  s_goto (t := 71) dX6_count_40 rfl <|
  s_ireturn dX6_count_71 rfl) <|
  s_aload_n dX6_count_24 rfl <|
  s_getI xC6 (by decide) (fun _ _ _ => rfl) fl_X6_85 dX6_count_25 <|
  s_goto (t := 71) dX6_count_28 rfl <|
  s_ireturn dX6_count_71 rfl) <|
  s_bipush dX6_count_12 rfl (by decide) <|
  s_ireturn dX6_count_14 rfl
def k_X6_count_76 (d : Nat) (Q : xV → xMem → Prop) : xP :=
  x_iload 3 <|
  x_aload 0 <|
  x_getI 6 10 <|
  x_c2 (fun x y => y ≤ x) (
  x_iload 2 <|
  x_ret Q) <|
  x_iload 2 <|
  x_aload 0 <|
  x_getR 6 9 <|
  x_push (vi 3) <|
  x_iload 3 <|
  x_bin omul <|
  x_push (vi 1) <|
  x_bin oadd <|
  x_iaload <|
  x_bin oadd <|
  x_istore 2 <|
  x_iinc 3 1 <|
  (xJ M_X6_count (d + 1) 76 Q)
set_option maxRecDepth 100000 in
theorem b_X6_count_76 {d : Nat} {Q : xV → xMem → Prop} : Snd M_X6_count (d + 1) 76 Q (k_X6_count_76 d Q) :=
  s_iload_n dX6_count_76 rfl <|
  s_aload_n dX6_count_77 rfl <|
  s_getI xC6 (by decide) (fun _ _ _ => rfl) fl_X6_85 dX6_count_78 <|
  s_icmp_ge (t := 103) dX6_count_81 rfl (
  s_iload_n dX6_count_103 rfl <|
  s_ireturn dX6_count_104 rfl) <|
  s_iload_n dX6_count_84 rfl <|
  s_aload_n dX6_count_85 rfl <|
  s_getR xC6 (by decide) (fun _ _ _ => rfl) fl_X6_29 dX6_count_86 <|
  s_iconst dX6_count_89 rfl <|
  s_iload_n dX6_count_90 rfl <|
  s_imul dX6_count_91 <|
  s_iconst dX6_count_92 rfl <|
  s_iadd dX6_count_93 <|
  s_iaload dX6_count_94 <|
  s_iadd dX6_count_95 <|
  s_istore_n dX6_count_96 rfl (by decide) <|
  s_iinc dX6_count_97 (by decide) <|
  s_goto (t := 76) dX6_count_100 rfl <|
  s_J
-- X6_count: cuts [0, 76]
def k_X6_isSheet_0 (d : Nat) (Q : xV → xMem → Prop) : xP :=
  x_iload 0 <|
  x_i2l <|
  x_push (vl 0) <|
  x_push (vl (3)) <|
  x_cS3 M_X6_in d <|
  x_zret Q
set_option maxRecDepth 100000 in
theorem b_X6_isSheet_0 {d : Nat} {Q : xV → xMem → Prop} : Snd M_X6_isSheet (d + 1) 0 Q (k_X6_isSheet_0 d Q) :=
  s_iload_n dX6_isSheet_0 rfl <|
  s_i2l dX6_isSheet_1 <|
  s_lconst dX6_isSheet_2 rfl (by decide) <|
  s_ldc2 dX6_isSheet_3 kl_X6_386 rfl (by decide) <|
  s_cS3 ce_X6_in ml_X6_88 sm_X6_in dX6_isSheet_6 <|
  s_zreturn dX6_isSheet_9 rfl
-- X6_isSheet: cuts [0]
def k_X6_sheet_0 (d : Nat) (Q : xV → xMem → Prop) : xP :=
  x_iload 1 <|
  x_cS1 M_X6_isSheet d <|
  x_c1 (fun x => x = 0) (
  x_push (vi (-2)) <|
  x_ret Q) <|
  x_iload 2 <|
  x_i2l <|
  x_push (vl (-1)) <|
  x_push (vl (2)) <|
  x_cS3 M_X6_in d <|
  x_c1 (fun x => x = 0) (
  x_push (vi (-2)) <|
  x_ret Q) <|
  x_iload 2 <|
  x_c1 (fun x => x < 0) (
  (xJ M_X6_sheet (d + 1) 34 Q)) <|
  x_iload 3 <|
  x_push (vi 40) <|
  x_c2 (fun x y => x ≤ y) (
  (xJ M_X6_sheet (d + 1) 34 Q)) <|
  x_push (vi (-2)) <|
  x_ret Q
set_option maxRecDepth 100000 in
theorem b_X6_sheet_0 {d : Nat} {Q : xV → xMem → Prop} : Snd M_X6_sheet (d + 1) 0 Q (k_X6_sheet_0 d Q) :=
  s_iload_n dX6_sheet_0 rfl <|
  s_cS1 ce_X6_isSheet ml_X6_306 sm_X6_isSheet dX6_sheet_1 <|
  s_if_eq (t := 31) dX6_sheet_4 rfl (
  s_bipush dX6_sheet_31 rfl (by decide) <|
  s_ireturn dX6_sheet_33 rfl) <|
  s_iload_n dX6_sheet_7 rfl <|
  s_i2l dX6_sheet_8 <|
  s_ldc2 dX6_sheet_9 kl_X6_388 rfl (by decide) <|
  s_ldc2 dX6_sheet_12 kl_X6_280 rfl (by decide) <|
  s_cS3 ce_X6_in ml_X6_88 sm_X6_in dX6_sheet_15 <|
  s_if_eq (t := 31) dX6_sheet_18 rfl (
  s_bipush dX6_sheet_31 rfl (by decide) <|
  s_ireturn dX6_sheet_33 rfl) <|
  s_iload_n dX6_sheet_21 rfl <|
  s_if_lt (t := 34) dX6_sheet_22 rfl (
  s_J) <|
  s_iload_n dX6_sheet_25 rfl <|
  s_bipush dX6_sheet_26 rfl (by decide) <|
  s_icmp_le (t := 34) dX6_sheet_28 rfl (
  s_J) <|
  s_bipush dX6_sheet_31 rfl (by decide) <|
  s_ireturn dX6_sheet_33 rfl
def k_X6_sheet_34 (d : Nat) (Q : xV → xMem → Prop) : xP :=
  x_iload 2 <|
  x_c1 (fun x => x < 0) (
  (xJ M_X6_sheet (d + 1) 45 Q)) <|
  x_iload 3 <|
  x_c1 (fun x => 0 ≤ x) (
  (xJ M_X6_sheet (d + 1) 45 Q)) <|
  x_push (vi (-14)) <|
  x_ret Q
set_option maxRecDepth 100000 in
theorem b_X6_sheet_34 {d : Nat} {Q : xV → xMem → Prop} : Snd M_X6_sheet (d + 1) 34 Q (k_X6_sheet_34 d Q) :=
  s_iload_n dX6_sheet_34 rfl <|
  s_if_lt (t := 45) dX6_sheet_35 rfl (
  s_J) <|
  s_iload_n dX6_sheet_38 rfl <|
  s_if_ge (t := 45) dX6_sheet_39 rfl (
  s_J) <|
  s_bipush dX6_sheet_42 rfl (by decide) <|
  s_ireturn dX6_sheet_44 rfl
def k_X6_sheet_45 (d : Nat) (Q : xV → xMem → Prop) : xP :=
  x_aload 0 <|
  x_getR 6 48 <|
  x_iload 1 <|
  x_iload 2 <|
  x_c1 (fun x => x < 0) (
  x_push (vi 0) <|
  (xJ M_X6_sheet (d + 1) 59 Q)) <|
  x_push (vi 1) <|
  (xJ M_X6_sheet (d + 1) 59 Q)
set_option maxRecDepth 100000 in
theorem b_X6_sheet_45 {d : Nat} {Q : xV → xMem → Prop} : Snd M_X6_sheet (d + 1) 45 Q (k_X6_sheet_45 d Q) :=
  s_aload_n dX6_sheet_45 rfl <|
  s_getR xC6 (by decide) (fun _ _ _ => rfl) fl_X6_66 dX6_sheet_46 <|
  s_iload_n dX6_sheet_49 rfl <|
  s_iload_n dX6_sheet_50 rfl <|
  s_if_lt (t := 58) dX6_sheet_51 rfl (
  s_iconst dX6_sheet_58 rfl <|
  s_J) <|
  s_iconst dX6_sheet_54 rfl <|
  s_goto (t := 59) dX6_sheet_55 rfl <|
  s_J
def k_X6_sheet_59 (d : Nat) (Q : xV → xMem → Prop) : xP :=
  x_zastore <|
  x_aload 0 <|
  x_getR 6 49 <|
  x_iload 1 <|
  x_iload 2 <|
  x_iastore <|
  x_aload 0 <|
  x_getR 6 50 <|
  x_iload 1 <|
  x_iload 3 <|
  x_iastore <|
  x_push (vi 0) <|
  x_istore 4 <|
  (xJ M_X6_sheet (d + 1) 77 Q)
set_option maxRecDepth 100000 in
theorem b_X6_sheet_59 {d : Nat} {Q : xV → xMem → Prop} : Snd M_X6_sheet (d + 1) 59 Q (k_X6_sheet_59 d Q) :=
  s_zastore dX6_sheet_59 <|
  s_aload_n dX6_sheet_60 rfl <|
  s_getR xC6 (by decide) (fun _ _ _ => rfl) fl_X6_69 dX6_sheet_61 <|
  s_iload_n dX6_sheet_64 rfl <|
  s_iload_n dX6_sheet_65 rfl <|
  s_iastore dX6_sheet_66 <|
  s_aload_n dX6_sheet_67 rfl <|
  s_getR xC6 (by decide) (fun _ _ _ => rfl) fl_X6_72 dX6_sheet_68 <|
  s_iload_n dX6_sheet_71 rfl <|
  s_iload_n dX6_sheet_72 rfl <|
  s_iastore dX6_sheet_73 <|
  s_iconst dX6_sheet_74 rfl <|
  s_istore dX6_sheet_75 (by decide) <|
  s_J
def k_X6_sheet_77 (d : Nat) (Q : xV → xMem → Prop) : xP :=
  x_iload 4 <|
  x_iload 3 <|
  x_c2 (fun x y => y ≤ x) (
  x_push (vi 1) <|
  x_ret Q) <|
  x_iload 2 <|
  x_c1 (fun x => x < 0) (
  x_push (vi 1) <|
  x_ret Q) <|
  x_aload 0 <|
  x_getR 6 51 <|
  x_push (vi 40) <|
  x_iload 1 <|
  x_bin omul <|
  x_iload 4 <|
  x_bin oadd <|
  x_push (vi 0) <|
  x_iastore <|
  x_iinc 4 1 <|
  (xJ M_X6_sheet (d + 1) 77 Q)
set_option maxRecDepth 100000 in
theorem b_X6_sheet_77 {d : Nat} {Q : xV → xMem → Prop} : Snd M_X6_sheet (d + 1) 77 Q (k_X6_sheet_77 d Q) :=
  s_iload dX6_sheet_77 <|
  s_iload_n dX6_sheet_79 rfl <|
  s_icmp_ge (t := 106) dX6_sheet_80 rfl (
  s_iconst dX6_sheet_106 rfl <|
  s_ireturn dX6_sheet_107 rfl) <|
  s_iload_n dX6_sheet_83 rfl <|
  s_if_lt (t := 106) dX6_sheet_84 rfl (
  s_iconst dX6_sheet_106 rfl <|
  s_ireturn dX6_sheet_107 rfl) <|
  s_aload_n dX6_sheet_87 rfl <|
  s_getR xC6 (by decide) (fun _ _ _ => rfl) fl_X6_75 dX6_sheet_88 <|
  s_bipush dX6_sheet_91 rfl (by decide) <|
  s_iload_n dX6_sheet_93 rfl <|
  s_imul dX6_sheet_94 <|
  s_iload dX6_sheet_95 <|
  s_iadd dX6_sheet_97 <|
  s_iconst dX6_sheet_98 rfl <|
  s_iastore dX6_sheet_99 <|
  s_iinc dX6_sheet_100 (by decide) <|
  s_goto (t := 77) dX6_sheet_103 rfl <|
  s_J
-- X6_sheet: cuts [0, 34, 45, 59, 77]
def k_X6_cell_0 (d : Nat) (Q : xV → xMem → Prop) : xP :=
  x_iload 1 <|
  x_cS1 M_X6_isSheet d <|
  x_c1 (fun x => ¬ x = 0) (
  x_aload 0 <|
  x_getR 6 48 <|
  x_iload 1 <|
  x_zaload <|
  x_c1 (fun x => ¬ x = 0) (
  x_iload 2 <|
  x_i2l <|
  x_push (vl 0) <|
  x_aload 0 <|
  x_getR 6 50 <|
  x_iload 1 <|
  x_iaload <|
  x_push (vi 1) <|
  x_bin osub <|
  x_i2l <|
  x_cS3 M_X6_in d <|
  x_c1 (fun x => ¬ x = 0) (
  x_aload 0 <|
  x_getR 6 51 <|
  x_push (vi 40) <|
  x_iload 1 <|
  x_bin omul <|
  x_iload 2 <|
  x_bin oadd <|
  x_aload 0 <|
  x_getR 6 49 <|
  x_iload 1 <|
  x_iaload <|
  x_c1 (fun x => ¬ x = 0) (
  x_aload 0 <|
  x_getR 6 49 <|
  x_iload 1 <|
  x_iaload <|
  x_push (vi 1) <|
  x_c2 (fun x y => ¬ x = y) (
  x_iload 3 <|
  x_iastore <|
  x_push (vi 1) <|
  x_ret Q) <|
  x_iload 3 <|
  x_un oi2s <|
  x_iastore <|
  x_push (vi 1) <|
  x_ret Q) <|
  x_iload 3 <|
  x_un oi2b <|
  x_iastore <|
  x_push (vi 1) <|
  x_ret Q) <|
  x_push (vi (-12)) <|
  x_ret Q) <|
  x_push (vi (-11)) <|
  x_ret Q) <|
  x_push (vi (-2)) <|
  x_ret Q
set_option maxRecDepth 100000 in
theorem b_X6_cell_0 {d : Nat} {Q : xV → xMem → Prop} : Snd M_X6_cell (d + 1) 0 Q (k_X6_cell_0 d Q) :=
  s_iload_n dX6_cell_0 rfl <|
  s_cS1 ce_X6_isSheet ml_X6_306 sm_X6_isSheet dX6_cell_1 <|
  s_if_ne (t := 10) dX6_cell_4 rfl (
  s_aload_n dX6_cell_10 rfl <|
  s_getR xC6 (by decide) (fun _ _ _ => rfl) fl_X6_66 dX6_cell_11 <|
  s_iload_n dX6_cell_14 rfl <|
  s_zaload dX6_cell_15 <|
  s_if_ne (t := 22) dX6_cell_16 rfl (
  s_iload_n dX6_cell_22 rfl <|
  s_i2l dX6_cell_23 <|
  s_lconst dX6_cell_24 rfl (by decide) <|
  s_aload_n dX6_cell_25 rfl <|
  s_getR xC6 (by decide) (fun _ _ _ => rfl) fl_X6_72 dX6_cell_26 <|
  s_iload_n dX6_cell_29 rfl <|
  s_iaload dX6_cell_30 <|
  s_iconst dX6_cell_31 rfl <|
  s_isub dX6_cell_32 <|
  s_i2l dX6_cell_33 <|
  s_cS3 ce_X6_in ml_X6_88 sm_X6_in dX6_cell_34 <|
  s_if_ne (t := 43) dX6_cell_37 rfl (
  s_aload_n dX6_cell_43 rfl <|
  s_getR xC6 (by decide) (fun _ _ _ => rfl) fl_X6_75 dX6_cell_44 <|
  s_bipush dX6_cell_47 rfl (by decide) <|
  s_iload_n dX6_cell_49 rfl <|
  s_imul dX6_cell_50 <|
  s_iload_n dX6_cell_51 rfl <|
  s_iadd dX6_cell_52 <|
  s_aload_n dX6_cell_53 rfl <|
  s_getR xC6 (by decide) (fun _ _ _ => rfl) fl_X6_69 dX6_cell_54 <|
  s_iload_n dX6_cell_57 rfl <|
  s_iaload dX6_cell_58 <|
  s_if_ne (t := 67) dX6_cell_59 rfl (
  s_aload_n dX6_cell_67 rfl <|
  s_getR xC6 (by decide) (fun _ _ _ => rfl) fl_X6_69 dX6_cell_68 <|
  s_iload_n dX6_cell_71 rfl <|
  s_iaload dX6_cell_72 <|
  s_iconst dX6_cell_73 rfl <|
  s_icmp_ne (t := 82) dX6_cell_74 rfl (
  s_iload_n dX6_cell_82 rfl <|
  s_iastore dX6_cell_83 <|
  s_iconst dX6_cell_84 rfl <|
  s_ireturn dX6_cell_85 rfl) <|
  s_iload_n dX6_cell_77 rfl <|
  s_i2s dX6_cell_78 <|
  s_goto (t := 83) dX6_cell_79 rfl <|
  s_iastore dX6_cell_83 <|
  s_iconst dX6_cell_84 rfl <|
  s_ireturn dX6_cell_85 rfl) <|
  s_iload_n dX6_cell_62 rfl <|
  s_i2b dX6_cell_63 <|
  s_goto (t := 83) dX6_cell_64 rfl <|
  s_iastore dX6_cell_83 <|
  s_iconst dX6_cell_84 rfl <|
  s_ireturn dX6_cell_85 rfl) <|
  s_bipush dX6_cell_40 rfl (by decide) <|
  s_ireturn dX6_cell_42 rfl) <|
  s_bipush dX6_cell_19 rfl (by decide) <|
  s_ireturn dX6_cell_21 rfl) <|
  s_bipush dX6_cell_7 rfl (by decide) <|
  s_ireturn dX6_cell_9 rfl
-- X6_cell: cuts [0]
def k_X6_copy_0 (d : Nat) (Q : xV → xMem → Prop) : xP :=
  x_iload 1 <|
  x_cS1 M_X6_isSheet d <|
  x_c1 (fun x => x = 0) (
  x_push (vi (-2)) <|
  x_ret Q) <|
  x_iload 3 <|
  x_cS1 M_X6_isSheet d <|
  x_c1 (fun x => ¬ x = 0) (
  x_aload 0 <|
  x_getR 6 48 <|
  x_iload 1 <|
  x_zaload <|
  x_c1 (fun x => x = 0) (
  x_push (vi (-11)) <|
  x_ret Q) <|
  x_aload 0 <|
  x_getR 6 48 <|
  x_iload 3 <|
  x_zaload <|
  x_c1 (fun x => ¬ x = 0) (
  x_aload 0 <|
  x_getR 6 49 <|
  x_iload 1 <|
  x_iaload <|
  x_aload 0 <|
  x_getR 6 49 <|
  x_iload 3 <|
  x_iaload <|
  x_c2 (fun x y => x = y) (
  x_iload 5 <|
  x_c1 (fun x => x < 0) (
  x_push (vi (-12)) <|
  x_ret Q) <|
  x_iload 2 <|
  x_c1 (fun x => x < 0) (
  x_push (vi (-12)) <|
  x_ret Q) <|
  x_iload 4 <|
  x_c1 (fun x => x < 0) (
  x_push (vi (-12)) <|
  x_ret Q) <|
  x_iload 2 <|
  x_aload 0 <|
  x_getR 6 50 <|
  x_iload 1 <|
  x_iaload <|
  x_iload 5 <|
  x_bin osub <|
  x_c2 (fun x y => y < x) (
  x_push (vi (-12)) <|
  x_ret Q) <|
  x_iload 4 <|
  x_aload 0 <|
  x_getR 6 50 <|
  x_iload 3 <|
  x_iaload <|
  x_iload 5 <|
  x_bin osub <|
  x_c2 (fun x y => x ≤ y) (
  x_iload 1 <|
  x_iload 3 <|
  x_c2 (fun x y => ¬ x = y) (
  x_push (vi 0) <|
  x_istore 6 <|
  x_push (vi 0) <|
  x_istore 7 <|
  (xJ M_X6_copy (d + 1) 121 Q)) <|
  x_iload 2 <|
  x_iload 4 <|
  x_c2 (fun x y => y ≤ x) (
  x_push (vi 0) <|
  x_istore 6 <|
  x_push (vi 0) <|
  x_istore 7 <|
  (xJ M_X6_copy (d + 1) 121 Q)) <|
  x_push (vi 1) <|
  x_istore 6 <|
  x_push (vi 0) <|
  x_istore 7 <|
  (xJ M_X6_copy (d + 1) 121 Q)) <|
  x_push (vi (-12)) <|
  x_ret Q) <|
  x_push (vi (-13)) <|
  x_ret Q) <|
  x_push (vi (-11)) <|
  x_ret Q) <|
  x_push (vi (-2)) <|
  x_ret Q
set_option maxRecDepth 100000 in
theorem b_X6_copy_0 {d : Nat} {Q : xV → xMem → Prop} : Snd M_X6_copy (d + 1) 0 Q (k_X6_copy_0 d Q) :=
  s_iload_n dX6_copy_0 rfl <|
  s_cS1 ce_X6_isSheet ml_X6_306 sm_X6_isSheet dX6_copy_1 <|
  s_if_eq (t := 14) dX6_copy_4 rfl (
  s_bipush dX6_copy_14 rfl (by decide) <|
  s_ireturn dX6_copy_16 rfl) <|
  s_iload_n dX6_copy_7 rfl <|
  s_cS1 ce_X6_isSheet ml_X6_306 sm_X6_isSheet dX6_copy_8 <|
  s_if_ne (t := 17) dX6_copy_11 rfl (
  s_aload_n dX6_copy_17 rfl <|
  s_getR xC6 (by decide) (fun _ _ _ => rfl) fl_X6_66 dX6_copy_18 <|
  s_iload_n dX6_copy_21 rfl <|
  s_zaload dX6_copy_22 <|
  s_if_eq (t := 35) dX6_copy_23 rfl (
  s_bipush dX6_copy_35 rfl (by decide) <|
  s_ireturn dX6_copy_37 rfl) <|
  s_aload_n dX6_copy_26 rfl <|
  s_getR xC6 (by decide) (fun _ _ _ => rfl) fl_X6_66 dX6_copy_27 <|
  s_iload_n dX6_copy_30 rfl <|
  s_zaload dX6_copy_31 <|
  s_if_ne (t := 38) dX6_copy_32 rfl (
  s_aload_n dX6_copy_38 rfl <|
  s_getR xC6 (by decide) (fun _ _ _ => rfl) fl_X6_69 dX6_copy_39 <|
  s_iload_n dX6_copy_42 rfl <|
  s_iaload dX6_copy_43 <|
  s_aload_n dX6_copy_44 rfl <|
  s_getR xC6 (by decide) (fun _ _ _ => rfl) fl_X6_69 dX6_copy_45 <|
  s_iload_n dX6_copy_48 rfl <|
  s_iaload dX6_copy_49 <|
  s_icmp_eq (t := 56) dX6_copy_50 rfl (
  s_iload dX6_copy_56 <|
  s_if_lt (t := 97) dX6_copy_58 rfl (
  s_bipush dX6_copy_97 rfl (by decide) <|
  s_ireturn dX6_copy_99 rfl) <|
  s_iload_n dX6_copy_61 rfl <|
  s_if_lt (t := 97) dX6_copy_62 rfl (
  s_bipush dX6_copy_97 rfl (by decide) <|
  s_ireturn dX6_copy_99 rfl) <|
  s_iload dX6_copy_65 <|
  s_if_lt (t := 97) dX6_copy_67 rfl (
  s_bipush dX6_copy_97 rfl (by decide) <|
  s_ireturn dX6_copy_99 rfl) <|
  s_iload_n dX6_copy_70 rfl <|
  s_aload_n dX6_copy_71 rfl <|
  s_getR xC6 (by decide) (fun _ _ _ => rfl) fl_X6_72 dX6_copy_72 <|
  s_iload_n dX6_copy_75 rfl <|
  s_iaload dX6_copy_76 <|
  s_iload dX6_copy_77 <|
  s_isub dX6_copy_79 <|
  s_icmp_gt (t := 97) dX6_copy_80 rfl (
  s_bipush dX6_copy_97 rfl (by decide) <|
  s_ireturn dX6_copy_99 rfl) <|
  s_iload dX6_copy_83 <|
  s_aload_n dX6_copy_85 rfl <|
  s_getR xC6 (by decide) (fun _ _ _ => rfl) fl_X6_72 dX6_copy_86 <|
  s_iload_n dX6_copy_89 rfl <|
  s_iaload dX6_copy_90 <|
  s_iload dX6_copy_91 <|
  s_isub dX6_copy_93 <|
  s_icmp_le (t := 100) dX6_copy_94 rfl (
  s_iload_n dX6_copy_100 rfl <|
  s_iload_n dX6_copy_101 rfl <|
  s_icmp_ne (t := 115) dX6_copy_102 rfl (
  s_iconst dX6_copy_115 rfl <|
  s_istore dX6_copy_116 (by decide) <|
  s_iconst dX6_copy_118 rfl <|
  s_istore dX6_copy_119 (by decide) <|
  s_J) <|
  s_iload_n dX6_copy_105 rfl <|
  s_iload dX6_copy_106 <|
  s_icmp_ge (t := 115) dX6_copy_108 rfl (
  s_iconst dX6_copy_115 rfl <|
  s_istore dX6_copy_116 (by decide) <|
  s_iconst dX6_copy_118 rfl <|
  s_istore dX6_copy_119 (by decide) <|
  s_J) <|
  s_iconst dX6_copy_111 rfl <|
  s_goto (t := 116) dX6_copy_112 rfl <|
  s_istore dX6_copy_116 (by decide) <|
  s_iconst dX6_copy_118 rfl <|
  s_istore dX6_copy_119 (by decide) <|
  s_J) <|
  s_bipush dX6_copy_97 rfl (by decide) <|
  s_ireturn dX6_copy_99 rfl) <|
  s_bipush dX6_copy_53 rfl (by decide) <|
  s_ireturn dX6_copy_55 rfl) <|
  s_bipush dX6_copy_35 rfl (by decide) <|
  s_ireturn dX6_copy_37 rfl) <|
  s_bipush dX6_copy_14 rfl (by decide) <|
  s_ireturn dX6_copy_16 rfl
def k_X6_copy_121 (d : Nat) (Q : xV → xMem → Prop) : xP :=
  x_iload 7 <|
  x_iload 5 <|
  x_c2 (fun x y => y ≤ x) (
  x_iload 5 <|
  x_ret Q) <|
  x_iload 6 <|
  x_c1 (fun x => x = 0) (
  x_iload 7 <|
  (xJ M_X6_copy (d + 1) 145 Q)) <|
  x_iload 5 <|
  x_push (vi 1) <|
  x_bin osub <|
  x_iload 7 <|
  x_bin osub <|
  (xJ M_X6_copy (d + 1) 145 Q)
set_option maxRecDepth 100000 in
theorem b_X6_copy_121 {d : Nat} {Q : xV → xMem → Prop} : Snd M_X6_copy (d + 1) 121 Q (k_X6_copy_121 d Q) :=
  s_iload dX6_copy_121 <|
  s_iload dX6_copy_123 <|
  s_icmp_ge (t := 182) dX6_copy_125 rfl (
  s_iload dX6_copy_182 <|
  s_ireturn dX6_copy_184 rfl) <|
  s_iload dX6_copy_128 <|
  s_if_eq (t := 143) dX6_copy_130 rfl (
  s_iload dX6_copy_143 <|
  s_J) <|
  s_iload dX6_copy_133 <|
  s_iconst dX6_copy_135 rfl <|
  s_isub dX6_copy_136 <|
  s_iload dX6_copy_137 <|
  s_isub dX6_copy_139 <|
  s_goto (t := 145) dX6_copy_140 rfl <|
  s_J
def k_X6_copy_145 (d : Nat) (Q : xV → xMem → Prop) : xP :=
  x_istore 8 <|
  x_aload 0 <|
  x_getR 6 51 <|
  x_push (vi 40) <|
  x_iload 3 <|
  x_bin omul <|
  x_iload 4 <|
  x_bin oadd <|
  x_iload 8 <|
  x_bin oadd <|
  x_aload 0 <|
  x_getR 6 51 <|
  x_push (vi 40) <|
  x_iload 1 <|
  x_bin omul <|
  x_iload 2 <|
  x_bin oadd <|
  x_iload 8 <|
  x_bin oadd <|
  x_iaload <|
  x_iastore <|
  x_iinc 7 1 <|
  (xJ M_X6_copy (d + 1) 121 Q)
set_option maxRecDepth 100000 in
theorem b_X6_copy_145 {d : Nat} {Q : xV → xMem → Prop} : Snd M_X6_copy (d + 1) 145 Q (k_X6_copy_145 d Q) :=
  s_istore dX6_copy_145 (by decide) <|
  s_aload_n dX6_copy_147 rfl <|
  s_getR xC6 (by decide) (fun _ _ _ => rfl) fl_X6_75 dX6_copy_148 <|
  s_bipush dX6_copy_151 rfl (by decide) <|
  s_iload_n dX6_copy_153 rfl <|
  s_imul dX6_copy_154 <|
  s_iload dX6_copy_155 <|
  s_iadd dX6_copy_157 <|
  s_iload dX6_copy_158 <|
  s_iadd dX6_copy_160 <|
  s_aload_n dX6_copy_161 rfl <|
  s_getR xC6 (by decide) (fun _ _ _ => rfl) fl_X6_75 dX6_copy_162 <|
  s_bipush dX6_copy_165 rfl (by decide) <|
  s_iload_n dX6_copy_167 rfl <|
  s_imul dX6_copy_168 <|
  s_iload_n dX6_copy_169 rfl <|
  s_iadd dX6_copy_170 <|
  s_iload dX6_copy_171 <|
  s_iadd dX6_copy_173 <|
  s_iaload dX6_copy_174 <|
  s_iastore dX6_copy_175 <|
  s_iinc dX6_copy_176 (by decide) <|
  s_goto (t := 121) dX6_copy_179 rfl <|
  s_J
-- X6_copy: cuts [0, 121, 145]
def k_X6_figures_0 (d : Nat) (Q : xV → xMem → Prop) : xP :=
  x_iload 1 <|
  x_cS1 M_X6_isSheet d <|
  x_c1 (fun x => x = 0) (
  x_push (vi (-2)) <|
  x_ret Q) <|
  x_iload 2 <|
  x_i2l <|
  x_push (vl 0) <|
  x_push (vl (2)) <|
  x_cS3 M_X6_in d <|
  x_c1 (fun x => x = 0) (
  x_push (vi (-2)) <|
  x_ret Q) <|
  x_iload 4 <|
  x_i2l <|
  x_push (vl 0) <|
  x_push (vl (6)) <|
  x_cS3 M_X6_in d <|
  x_c1 (fun x => ¬ x = 0) (
  x_aload 0 <|
  x_getR 6 48 <|
  x_iload 1 <|
  x_zaload <|
  x_c1 (fun x => x = 0) (
  (xJ M_X6_figures (d + 1) 57 Q)) <|
  x_aload 0 <|
  x_getR 6 49 <|
  x_iload 1 <|
  x_iaload <|
  x_iload 2 <|
  x_c2 (fun x y => x = y) (
  (xJ M_X6_figures (d + 1) 57 Q)) <|
  x_push (vi (-13)) <|
  x_ret Q) <|
  x_push (vi (-2)) <|
  x_ret Q
set_option maxRecDepth 100000 in
theorem b_X6_figures_0 {d : Nat} {Q : xV → xMem → Prop} : Snd M_X6_figures (d + 1) 0 Q (k_X6_figures_0 d Q) :=
  s_iload_n dX6_figures_0 rfl <|
  s_cS1 ce_X6_isSheet ml_X6_306 sm_X6_isSheet dX6_figures_1 <|
  s_if_eq (t := 32) dX6_figures_4 rfl (
  s_bipush dX6_figures_32 rfl (by decide) <|
  s_ireturn dX6_figures_34 rfl) <|
  s_iload_n dX6_figures_7 rfl <|
  s_i2l dX6_figures_8 <|
  s_lconst dX6_figures_9 rfl (by decide) <|
  s_ldc2 dX6_figures_10 kl_X6_280 rfl (by decide) <|
  s_cS3 ce_X6_in ml_X6_88 sm_X6_in dX6_figures_13 <|
  s_if_eq (t := 32) dX6_figures_16 rfl (
  s_bipush dX6_figures_32 rfl (by decide) <|
  s_ireturn dX6_figures_34 rfl) <|
  s_iload dX6_figures_19 <|
  s_i2l dX6_figures_21 <|
  s_lconst dX6_figures_22 rfl (by decide) <|
  s_ldc2 dX6_figures_23 kl_X6_359 rfl (by decide) <|
  s_cS3 ce_X6_in ml_X6_88 sm_X6_in dX6_figures_26 <|
  s_if_ne (t := 35) dX6_figures_29 rfl (
  s_aload_n dX6_figures_35 rfl <|
  s_getR xC6 (by decide) (fun _ _ _ => rfl) fl_X6_66 dX6_figures_36 <|
  s_iload_n dX6_figures_39 rfl <|
  s_zaload dX6_figures_40 <|
  s_if_eq (t := 57) dX6_figures_41 rfl (
  s_J) <|
  s_aload_n dX6_figures_44 rfl <|
  s_getR xC6 (by decide) (fun _ _ _ => rfl) fl_X6_69 dX6_figures_45 <|
  s_iload_n dX6_figures_48 rfl <|
  s_iaload dX6_figures_49 <|
  s_iload_n dX6_figures_50 rfl <|
  s_icmp_eq (t := 57) dX6_figures_51 rfl (
  s_J) <|
  s_bipush dX6_figures_54 rfl (by decide) <|
  s_ireturn dX6_figures_56 rfl) <|
  s_bipush dX6_figures_32 rfl (by decide) <|
  s_ireturn dX6_figures_34 rfl
def k_X6_figures_57 (d : Nat) (Q : xV → xMem → Prop) : xP :=
  x_aload 0 <|
  x_getR 6 48 <|
  x_iload 1 <|
  x_zaload <|
  x_c1 (fun x => ¬ x = 0) (
  x_push (vi 0) <|
  x_istore 5 <|
  x_push (vi 0) <|
  x_istore 6 <|
  (xJ M_X6_figures (d + 1) 75 Q)) <|
  x_push (vi (-11)) <|
  x_ret Q
set_option maxRecDepth 100000 in
theorem b_X6_figures_57 {d : Nat} {Q : xV → xMem → Prop} : Snd M_X6_figures (d + 1) 57 Q (k_X6_figures_57 d Q) :=
  s_aload_n dX6_figures_57 rfl <|
  s_getR xC6 (by decide) (fun _ _ _ => rfl) fl_X6_66 dX6_figures_58 <|
  s_iload_n dX6_figures_61 rfl <|
  s_zaload dX6_figures_62 <|
  s_if_ne (t := 69) dX6_figures_63 rfl (
  s_iconst dX6_figures_69 rfl <|
  s_istore dX6_figures_70 (by decide) <|
  s_iconst dX6_figures_72 rfl <|
  s_istore dX6_figures_73 (by decide) <|
  s_J) <|
  s_bipush dX6_figures_66 rfl (by decide) <|
  s_ireturn dX6_figures_68 rfl
def k_X6_figures_75 (d : Nat) (Q : xV → xMem → Prop) : xP :=
  x_iload 6 <|
  x_iload 4 <|
  x_c2 (fun x y => y ≤ x) (
  x_iload 5 <|
  x_ret Q) <|
  x_iload 3 <|
  x_c1 (fun x => x < 0) (
  x_push (vi (-12)) <|
  x_ret Q) <|
  x_iload 3 <|
  x_aload 0 <|
  x_getR 6 50 <|
  x_iload 1 <|
  x_iaload <|
  x_push (vi 3) <|
  x_iload 6 <|
  x_bin omul <|
  x_bin osub <|
  x_push (vi 3) <|
  x_bin osub <|
  x_c2 (fun x y => x ≤ y) (
  x_push (vi 40) <|
  x_iload 1 <|
  x_bin omul <|
  x_iload 3 <|
  x_bin oadd <|
  x_push (vi 3) <|
  x_iload 6 <|
  x_bin omul <|
  x_bin oadd <|
  x_istore 7 <|
  x_iload 5 <|
  x_aload 0 <|
  x_aload 0 <|
  x_getR 6 51 <|
  x_iload 7 <|
  x_iaload <|
  x_aload 0 <|
  x_getR 6 51 <|
  x_iload 7 <|
  x_push (vi 1) <|
  x_bin oadd <|
  x_iaload <|
  x_aload 0 <|
  x_getR 6 51 <|
  x_iload 7 <|
  x_push (vi 2) <|
  x_bin oadd <|
  x_iaload <|
  x_cV3 M_X6_figure d 6 <|
  x_c1 (fun x => x < 0) (
  x_push (vi 0) <|
  x_bin oadd <|
  x_istore 5 <|
  x_iinc 6 1 <|
  (xJ M_X6_figures (d + 1) 75 Q)) <|
  x_push (vi 1) <|
  x_bin oadd <|
  x_istore 5 <|
  x_iinc 6 1 <|
  (xJ M_X6_figures (d + 1) 75 Q)) <|
  x_push (vi (-12)) <|
  x_ret Q
set_option maxRecDepth 100000 in
theorem b_X6_figures_75 {d : Nat} {Q : xV → xMem → Prop} : Snd M_X6_figures (d + 1) 75 Q (k_X6_figures_75 d Q) :=
  s_iload dX6_figures_75 <|
  s_iload dX6_figures_77 <|
  s_icmp_ge (t := 167) dX6_figures_79 rfl (
  s_iload dX6_figures_167 <|
  s_ireturn dX6_figures_169 rfl) <|
  s_iload_n dX6_figures_82 rfl <|
  s_if_lt (t := 103) dX6_figures_83 rfl (
  s_bipush dX6_figures_103 rfl (by decide) <|
  s_ireturn dX6_figures_105 rfl) <|
  s_iload_n dX6_figures_86 rfl <|
  s_aload_n dX6_figures_87 rfl <|
  s_getR xC6 (by decide) (fun _ _ _ => rfl) fl_X6_72 dX6_figures_88 <|
  s_iload_n dX6_figures_91 rfl <|
  s_iaload dX6_figures_92 <|
  s_iconst dX6_figures_93 rfl <|
  s_iload dX6_figures_94 <|
  s_imul dX6_figures_96 <|
  s_isub dX6_figures_97 <|
  s_iconst dX6_figures_98 rfl <|
  s_isub dX6_figures_99 <|
  s_icmp_le (t := 106) dX6_figures_100 rfl (
  s_bipush dX6_figures_106 rfl (by decide) <|
  s_iload_n dX6_figures_108 rfl <|
  s_imul dX6_figures_109 <|
  s_iload_n dX6_figures_110 rfl <|
  s_iadd dX6_figures_111 <|
  s_iconst dX6_figures_112 rfl <|
  s_iload dX6_figures_113 <|
  s_imul dX6_figures_115 <|
  s_iadd dX6_figures_116 <|
  s_istore dX6_figures_117 (by decide) <|
  s_iload dX6_figures_119 <|
  s_aload_n dX6_figures_121 rfl <|
  s_aload_n dX6_figures_122 rfl <|
  s_getR xC6 (by decide) (fun _ _ _ => rfl) fl_X6_75 dX6_figures_123 <|
  s_iload dX6_figures_126 <|
  s_iaload dX6_figures_128 <|
  s_aload_n dX6_figures_129 rfl <|
  s_getR xC6 (by decide) (fun _ _ _ => rfl) fl_X6_75 dX6_figures_130 <|
  s_iload dX6_figures_133 <|
  s_iconst dX6_figures_135 rfl <|
  s_iadd dX6_figures_136 <|
  s_iaload dX6_figures_137 <|
  s_aload_n dX6_figures_138 rfl <|
  s_getR xC6 (by decide) (fun _ _ _ => rfl) fl_X6_75 dX6_figures_139 <|
  s_iload dX6_figures_142 <|
  s_iconst dX6_figures_144 rfl <|
  s_iadd dX6_figures_145 <|
  s_iaload dX6_figures_146 <|
  s_cV3 ce_X6_figure ml_X6_390 im_X6_figure se_X6_figure xC6 dX6_figures_147 <|
  s_if_lt (t := 157) dX6_figures_150 rfl (
  s_iconst dX6_figures_157 rfl <|
  s_iadd dX6_figures_158 <|
  s_istore dX6_figures_159 (by decide) <|
  s_iinc dX6_figures_161 (by decide) <|
  s_goto (t := 75) dX6_figures_164 rfl <|
  s_J) <|
  s_iconst dX6_figures_153 rfl <|
  s_goto (t := 158) dX6_figures_154 rfl <|
  s_iadd dX6_figures_158 <|
  s_istore dX6_figures_159 (by decide) <|
  s_iinc dX6_figures_161 (by decide) <|
  s_goto (t := 75) dX6_figures_164 rfl <|
  s_J) <|
  s_bipush dX6_figures_103 rfl (by decide) <|
  s_ireturn dX6_figures_105 rfl
-- X6_figures: cuts [0, 57, 75]
def k_X6_over_0 (d : Nat) (Q : xV → xMem → Prop) : xP :=
  x_iload 0 <|
  x_c1 (fun x => ¬ x = 0) (
  x_iload 0 <|
  x_push (vi 3) <|
  x_c2 (fun x y => ¬ x = y) (
  x_iload 0 <|
  x_push (vi 4) <|
  x_c2 (fun x y => ¬ x = y) (
  x_push (vi 0) <|
  x_ret Q) <|
  x_push (vi 2) <|
  x_ret Q) <|
  x_push (vi 1) <|
  x_ret Q) <|
  x_push (vi (-1)) <|
  x_ret Q
set_option maxRecDepth 100000 in
theorem b_X6_over_0 {d : Nat} {Q : xV → xMem → Prop} : Snd M_X6_over (d + 1) 0 Q (k_X6_over_0 d Q) :=
  s_iload_n dX6_over_0 rfl <|
  s_if_ne (t := 8) dX6_over_1 rfl (
  s_iload_n dX6_over_8 rfl <|
  s_iconst dX6_over_9 rfl <|
  s_icmp_ne (t := 17) dX6_over_10 rfl (
  s_iload_n dX6_over_17 rfl <|
  s_iconst dX6_over_18 rfl <|
  s_icmp_ne (t := 26) dX6_over_19 rfl (
  s_iconst dX6_over_26 rfl <|
  s_ireturn dX6_over_27 rfl) <|
  s_iconst dX6_over_22 rfl <|
  s_goto (t := 27) dX6_over_23 rfl <|
  s_ireturn dX6_over_27 rfl) <|
  s_iconst dX6_over_13 rfl <|
  s_goto (t := 27) dX6_over_14 rfl <|
  s_ireturn dX6_over_27 rfl) <|
  s_iconst dX6_over_4 rfl <|
  s_goto (t := 27) dX6_over_5 rfl <|
  s_ireturn dX6_over_27 rfl
-- X6_over: cuts [0]
def k_X6_taken_0 (d : Nat) (Q : xV → xMem → Prop) : xP :=
  x_iload 2 <|
  x_i2l <|
  x_push (vl 0) <|
  x_push (vl (5)) <|
  x_cS3 M_X6_in d <|
  x_c1 (fun x => ¬ x = 0) (
  x_aload 0 <|
  x_iload 1 <|
  x_cV1 M_X6_isFigure d 6 <|
  x_c1 (fun x => ¬ x = 0) (
  x_aload 0 <|
  x_getR 6 8 <|
  x_iload 1 <|
  x_iaload <|
  x_istore 3 <|
  (xJ M_X6_taken (d + 1) 33 Q)) <|
  x_push (vi (-11)) <|
  x_ret Q) <|
  x_push (vi (-2)) <|
  x_ret Q
set_option maxRecDepth 100000 in
theorem b_X6_taken_0 {d : Nat} {Q : xV → xMem → Prop} : Snd M_X6_taken (d + 1) 0 Q (k_X6_taken_0 d Q) :=
  s_iload_n dX6_taken_0 rfl <|
  s_i2l dX6_taken_1 <|
  s_lconst dX6_taken_2 rfl (by decide) <|
  s_ldc2 dX6_taken_3 kl_X6_104 rfl (by decide) <|
  s_cS3 ce_X6_in ml_X6_88 sm_X6_in dX6_taken_6 <|
  s_if_ne (t := 15) dX6_taken_9 rfl (
  s_aload_n dX6_taken_15 rfl <|
  s_iload_n dX6_taken_16 rfl <|
  s_cV1 ce_X6_isFigure ml_X6_101 im_X6_isFigure se_X6_isFigure xC6 dX6_taken_17 <|
  s_if_ne (t := 26) dX6_taken_20 rfl (
  s_aload_n dX6_taken_26 rfl <|
  s_getR xC6 (by decide) (fun _ _ _ => rfl) fl_X6_26 dX6_taken_27 <|
  s_iload_n dX6_taken_30 rfl <|
  s_iaload dX6_taken_31 <|
  s_istore_n dX6_taken_32 rfl (by decide) <|
  s_J) <|
  s_bipush dX6_taken_23 rfl (by decide) <|
  s_ireturn dX6_taken_25 rfl) <|
  s_bipush dX6_taken_12 rfl (by decide) <|
  s_ireturn dX6_taken_14 rfl
def k_X6_taken_33 (d : Nat) (Q : xV → xMem → Prop) : xP :=
  x_iload 3 <|
  x_push (vi (-1)) <|
  x_c2 (fun x y => x = y) (
  (xJ M_X6_taken (d + 1) 51 Q)) <|
  x_iload 3 <|
  x_iload 2 <|
  x_c2 (fun x y => x = y) (
  (xJ M_X6_taken (d + 1) 51 Q)) <|
  x_iload 3 <|
  x_cS1 M_X6_over d <|
  x_istore 3 <|
  (xJ M_X6_taken (d + 1) 33 Q)
set_option maxRecDepth 100000 in
theorem b_X6_taken_33 {d : Nat} {Q : xV → xMem → Prop} : Snd M_X6_taken (d + 1) 33 Q (k_X6_taken_33 d Q) :=
  s_iload_n dX6_taken_33 rfl <|
  s_iconst dX6_taken_34 rfl <|
  s_icmp_eq (t := 51) dX6_taken_35 rfl (
  s_J) <|
  s_iload_n dX6_taken_38 rfl <|
  s_iload_n dX6_taken_39 rfl <|
  s_icmp_eq (t := 51) dX6_taken_40 rfl (
  s_J) <|
  s_iload_n dX6_taken_43 rfl <|
  s_cS1 ce_X6_over ml_X6_393 sm_X6_over dX6_taken_44 <|
  s_istore_n dX6_taken_47 rfl (by decide) <|
  s_goto (t := 33) dX6_taken_48 rfl <|
  s_J
def k_X6_taken_51 (d : Nat) (Q : xV → xMem → Prop) : xP :=
  x_iload 3 <|
  x_iload 2 <|
  x_c2 (fun x y => ¬ x = y) (
  x_push (vi (-13)) <|
  x_ret Q) <|
  x_aload 0 <|
  x_getR 6 9 <|
  x_push (vi 3) <|
  x_iload 1 <|
  x_bin omul <|
  x_iaload <|
  x_ret Q
set_option maxRecDepth 100000 in
theorem b_X6_taken_51 {d : Nat} {Q : xV → xMem → Prop} : Snd M_X6_taken (d + 1) 51 Q (k_X6_taken_51 d Q) :=
  s_iload_n dX6_taken_51 rfl <|
  s_iload_n dX6_taken_52 rfl <|
  s_icmp_ne (t := 67) dX6_taken_53 rfl (
  s_bipush dX6_taken_67 rfl (by decide) <|
  s_ireturn dX6_taken_69 rfl) <|
  s_aload_n dX6_taken_56 rfl <|
  s_getR xC6 (by decide) (fun _ _ _ => rfl) fl_X6_29 dX6_taken_57 <|
  s_iconst dX6_taken_60 rfl <|
  s_iload_n dX6_taken_61 rfl <|
  s_imul dX6_taken_62 <|
  s_iaload dX6_taken_63 <|
  s_goto (t := 69) dX6_taken_64 rfl <|
  s_ireturn dX6_taken_69 rfl
-- X6_taken: cuts [0, 33, 51]
