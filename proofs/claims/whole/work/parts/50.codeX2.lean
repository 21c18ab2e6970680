/-! code of methods as trees of pure instructions: printed by wip/whole/gen.py -/
def k_X2_add_0 (d : Nat) (Q : xV → xMem → Prop) : xP :=
  x_aload 0 <|
  x_getI 2 1 <|
  x_push (vi 160) <|
  x_c2 (fun x y => x < y) (
  x_aload 0 <|
  x_getR 2 0 <|
  x_aload 0 <|
  x_getI 2 1 <|
  x_iload 1 <|
  x_iastore <|
  x_aload 0 <|
  x_dup <|
  x_getI 2 1 <|
  x_push (vi 1) <|
  x_bin oadd <|
  x_putI 2 1 <|
  x_push (vi 1) <|
  x_zret Q) <|
  x_push (vi 0) <|
  x_zret Q
set_option maxRecDepth 100000 in
theorem b_X2_add_0 {d : Nat} {Q : xV → xMem → Prop} : Snd M_X2_add (d + 1) 0 Q (k_X2_add_0 d Q) :=
  s_aload_n dX2_add_0 rfl <|
  s_getI xC2 (by decide) (fun _ _ _ => rfl) fl_X2_15 dX2_add_1 <|
  s_sipush dX2_add_4 rfl (by decide) <|
  s_icmp_lt (t := 12) dX2_add_7 rfl (
  s_aload_n dX2_add_12 rfl <|
  s_getR xC2 (by decide) (fun _ _ _ => rfl) fl_X2_9 dX2_add_13 <|
  s_aload_n dX2_add_16 rfl <|
  s_getI xC2 (by decide) (fun _ _ _ => rfl) fl_X2_15 dX2_add_17 <|
  s_iload_n dX2_add_20 rfl <|
  s_iastore dX2_add_21 <|
  s_aload_n dX2_add_22 rfl <|
  s_dup dX2_add_23 <|
  s_getI xC2 (by decide) (fun _ _ _ => rfl) fl_X2_15 dX2_add_24 <|
  s_iconst dX2_add_27 rfl <|
  s_iadd dX2_add_28 <|
  s_putI xC2 (by decide) (fun _ _ _ => rfl) rfl rfl fl_X2_15 dX2_add_29 <|
  s_iconst dX2_add_32 rfl <|
  s_zreturn dX2_add_33 rfl) <|
  s_iconst dX2_add_10 rfl <|
  s_zreturn dX2_add_11 rfl
-- X2_add: cuts [0]
def k_X2_clear_0 (d : Nat) (Q : xV → xMem → Prop) : xP :=
  x_aload 0 <|
  x_push (vi 0) <|
  x_putI 2 1 <|
  x_vret Q
set_option maxRecDepth 100000 in
theorem b_X2_clear_0 {d : Nat} {Q : xV → xMem → Prop} : Snd M_X2_clear (d + 1) 0 Q (k_X2_clear_0 d Q) :=
  s_aload_n dX2_clear_0 rfl <|
  s_iconst dX2_clear_1 rfl <|
  s_putI xC2 (by decide) (fun _ _ _ => rfl) rfl rfl fl_X2_15 dX2_clear_2 <|
  s_return dX2_clear_5 rfl
-- X2_clear: cuts [0]
def k_X2_read_0 (d : Nat) (Q : xV → xMem → Prop) : xP :=
  x_aload 1 <|
  x_cV0 M_X3_clear d 3 <|
  x_aload 0 <|
  x_push (vi 0) <|
  x_putI 2 2 <|
  x_aload 0 <|
  x_cV0 M_X2_advance d 2 <|
  x_push (vi 0) <|
  x_istore 2 <|
  (xJ M_X2_read (d + 1) 15 Q)
set_option maxRecDepth 100000 in
theorem b_X2_read_0 {d : Nat} {Q : xV → xMem → Prop} : Snd M_X2_read (d + 1) 0 Q (k_X2_read_0 d Q) :=
  s_aload_n dX2_read_0 rfl <|
  s_cV0 ce_X3_clear ml_X2_19 im_X3_clear se_X3_clear xC3 dX2_read_1 <|
  s_aload_n dX2_read_4 rfl <|
  s_iconst dX2_read_5 rfl <|
  s_putI xC2 (by decide) (fun _ _ _ => rfl) rfl rfl fl_X2_24 dX2_read_6 <|
  s_aload_n dX2_read_9 rfl <|
  s_cV0 ce_X2_advance ml_X2_27 im_X2_advance se_X2_advance xC2 dX2_read_10 <|
  s_iconst dX2_read_13 rfl <|
  s_istore_n dX2_read_14 rfl (by decide) <|
  s_J
def k_X2_read_15 (d : Nat) (Q : xV → xMem → Prop) : xP :=
  x_iload 2 <|
  x_push (vi 3) <|
  x_c2 (fun x y => y ≤ x) (
  x_aload 0 <|
  x_getI 2 3 <|
  x_push (vi 256) <|
  x_c2 (fun x y => ¬ x = y) (
  x_aload 0 <|
  x_getI 2 4 <|
  x_ret Q) <|
  x_push (vi (-1)) <|
  x_ret Q) <|
  x_aload 0 <|
  x_push (vi 260) <|
  x_iload 2 <|
  x_bin oadd <|
  x_cV1 M_X2_pass d 2 <|
  x_c1 (fun x => x = 0) (
  x_aload 0 <|
  x_getI 2 4 <|
  x_ret Q) <|
  x_aload 0 <|
  x_aload 1 <|
  x_push (vi 0) <|
  x_cV2 M_X2_readE d 2 <|
  x_c1 (fun x => x = 0) (
  x_aload 0 <|
  x_getI 2 4 <|
  x_ret Q) <|
  x_aload 0 <|
  x_push (vi 59) <|
  x_cV1 M_X2_pass d 2 <|
  x_c1 (fun x => ¬ x = 0) (
  x_aload 1 <|
  x_iload 2 <|
  x_cV1 M_X3_end d 3 <|
  x_iinc 2 1 <|
  (xJ M_X2_read (d + 1) 15 Q)) <|
  x_aload 0 <|
  x_getI 2 4 <|
  x_ret Q
set_option maxRecDepth 100000 in
theorem b_X2_read_15 {d : Nat} {Q : xV → xMem → Prop} : Snd M_X2_read (d + 1) 15 Q (k_X2_read_15 d Q) :=
  s_iload_n dX2_read_15 rfl <|
  s_iconst dX2_read_16 rfl <|
  s_icmp_ge (t := 66) dX2_read_17 rfl (
  s_aload_n dX2_read_66 rfl <|
  s_getI xC2 (by decide) (fun _ _ _ => rfl) fl_X2_45 dX2_read_67 <|
  s_sipush dX2_read_70 rfl (by decide) <|
  s_icmp_ne (t := 80) dX2_read_73 rfl (
  s_aload_n dX2_read_80 rfl <|
  s_getI xC2 (by decide) (fun _ _ _ => rfl) fl_X2_38 dX2_read_81 <|
  s_ireturn dX2_read_84 rfl) <|
  s_iconst dX2_read_76 rfl <|
  s_goto (t := 84) dX2_read_77 rfl <|
  s_ireturn dX2_read_84 rfl) <|
  s_aload_n dX2_read_20 rfl <|
  s_sipush dX2_read_21 rfl (by decide) <|
  s_iload_n dX2_read_24 rfl <|
  s_iadd dX2_read_25 <|
  s_cV1 ce_X2_pass ml_X2_30 im_X2_pass se_X2_pass xC2 dX2_read_26 <|
  s_if_eq (t := 50) dX2_read_29 rfl (
  s_aload_n dX2_read_50 rfl <|
  s_getI xC2 (by decide) (fun _ _ _ => rfl) fl_X2_38 dX2_read_51 <|
  s_ireturn dX2_read_54 rfl) <|
  s_aload_n dX2_read_32 rfl <|
  s_aload_n dX2_read_33 rfl <|
  s_iconst dX2_read_34 rfl <|
  s_cV2 ce_X2_readE ml_X2_34 im_X2_readE se_X2_readE xC2 dX2_read_35 <|
  s_if_eq (t := 50) dX2_read_38 rfl (
  s_aload_n dX2_read_50 rfl <|
  s_getI xC2 (by decide) (fun _ _ _ => rfl) fl_X2_38 dX2_read_51 <|
  s_ireturn dX2_read_54 rfl) <|
  s_aload_n dX2_read_41 rfl <|
  s_bipush dX2_read_42 rfl (by decide) <|
  s_cV1 ce_X2_pass ml_X2_30 im_X2_pass se_X2_pass xC2 dX2_read_44 <|
  s_if_ne (t := 55) dX2_read_47 rfl (
  s_aload_n dX2_read_55 rfl <|
  s_iload_n dX2_read_56 rfl <|
  s_cV1 ce_X3_end ml_X2_41 im_X3_end se_X3_end xC3 dX2_read_57 <|
  s_iinc dX2_read_60 (by decide) <|
  s_goto (t := 15) dX2_read_63 rfl <|
  s_J) <|
  s_aload_n dX2_read_50 rfl <|
  s_getI xC2 (by decide) (fun _ _ _ => rfl) fl_X2_38 dX2_read_51 <|
  s_ireturn dX2_read_54 rfl
-- X2_read: cuts [0, 15]
def k_X2_readE_0 (d : Nat) (Q : xV → xMem → Prop) : xP :=
  x_aload 0 <|
  x_aload 1 <|
  x_iload 2 <|
  x_cV2 M_X2_readAnd d 2 <|
  x_c1 (fun x => ¬ x = 0) (
  x_push (vi 0) <|
  x_istore 3 <|
  (xJ M_X2_readE (d + 1) 13 Q)) <|
  x_push (vi 0) <|
  x_zret Q
set_option maxRecDepth 100000 in
theorem b_X2_readE_0 {d : Nat} {Q : xV → xMem → Prop} : Snd M_X2_readE (d + 1) 0 Q (k_X2_readE_0 d Q) :=
  s_aload_n dX2_readE_0 rfl <|
  s_aload_n dX2_readE_1 rfl <|
  s_iload_n dX2_readE_2 rfl <|
  s_cV2 ce_X2_readAnd ml_X2_48 im_X2_readAnd se_X2_readAnd xC2 dX2_readE_3 <|
  s_if_ne (t := 11) dX2_readE_6 rfl (
  s_iconst dX2_readE_11 rfl <|
  s_istore_n dX2_readE_12 rfl (by decide) <|
  s_J) <|
  s_iconst dX2_readE_9 rfl <|
  s_zreturn dX2_readE_10 rfl
def k_X2_readE_13 (d : Nat) (Q : xV → xMem → Prop) : xP :=
  x_iload 3 <|
  x_push (vi 160) <|
  x_c2 (fun x y => y ≤ x) (
  x_push (vi 1) <|
  x_zret Q) <|
  x_aload 0 <|
  x_getI 2 3 <|
  x_push (vi 263) <|
  x_c2 (fun x y => ¬ x = y) (
  x_push (vi 1) <|
  x_zret Q) <|
  x_aload 0 <|
  x_cV0 M_X2_advance d 2 <|
  x_aload 0 <|
  x_aload 1 <|
  x_iload 2 <|
  x_cV2 M_X2_readAnd d 2 <|
  x_c1 (fun x => ¬ x = 0) (
  x_aload 1 <|
  x_push (vi (-10)) <|
  x_cV1 M_X3_add d 3 <|
  x_iinc 3 1 <|
  (xJ M_X2_readE (d + 1) 13 Q)) <|
  x_push (vi 0) <|
  x_zret Q
set_option maxRecDepth 100000 in
theorem b_X2_readE_13 {d : Nat} {Q : xV → xMem → Prop} : Snd M_X2_readE (d + 1) 13 Q (k_X2_readE_13 d Q) :=
  s_iload_n dX2_readE_13 rfl <|
  s_sipush dX2_readE_14 rfl (by decide) <|
  s_icmp_ge (t := 57) dX2_readE_17 rfl (
  s_iconst dX2_readE_57 rfl <|
  s_zreturn dX2_readE_58 rfl) <|
  s_aload_n dX2_readE_20 rfl <|
  s_getI xC2 (by decide) (fun _ _ _ => rfl) fl_X2_45 dX2_readE_21 <|
  s_sipush dX2_readE_24 rfl (by decide) <|
  s_icmp_ne (t := 57) dX2_readE_27 rfl (
  s_iconst dX2_readE_57 rfl <|
  s_zreturn dX2_readE_58 rfl) <|
  s_aload_n dX2_readE_30 rfl <|
  s_cV0 ce_X2_advance ml_X2_27 im_X2_advance se_X2_advance xC2 dX2_readE_31 <|
  s_aload_n dX2_readE_34 rfl <|
  s_aload_n dX2_readE_35 rfl <|
  s_iload_n dX2_readE_36 rfl <|
  s_cV2 ce_X2_readAnd ml_X2_48 im_X2_readAnd se_X2_readAnd xC2 dX2_readE_37 <|
  s_if_ne (t := 45) dX2_readE_40 rfl (
  s_aload_n dX2_readE_45 rfl <|
  s_bipush dX2_readE_46 rfl (by decide) <|
  s_cV1 ce_X3_add ml_X2_51 im_X3_add se_X3_add xC3 dX2_readE_48 <|
  s_iinc dX2_readE_51 (by decide) <|
  s_goto (t := 13) dX2_readE_54 rfl <|
  s_J) <|
  s_iconst dX2_readE_43 rfl <|
  s_zreturn dX2_readE_44 rfl
-- X2_readE: cuts [0, 13]
def k_X2_readAnd_0 (d : Nat) (Q : xV → xMem → Prop) : xP :=
  x_aload 0 <|
  x_aload 1 <|
  x_iload 2 <|
  x_cV2 M_X2_readNot d 2 <|
  x_c1 (fun x => ¬ x = 0) (
  x_push (vi 0) <|
  x_istore 3 <|
  (xJ M_X2_readAnd (d + 1) 13 Q)) <|
  x_push (vi 0) <|
  x_zret Q
set_option maxRecDepth 100000 in
theorem b_X2_readAnd_0 {d : Nat} {Q : xV → xMem → Prop} : Snd M_X2_readAnd (d + 1) 0 Q (k_X2_readAnd_0 d Q) :=
  s_aload_n dX2_readAnd_0 rfl <|
  s_aload_n dX2_readAnd_1 rfl <|
  s_iload_n dX2_readAnd_2 rfl <|
  s_cV2 ce_X2_readNot ml_X2_54 im_X2_readNot se_X2_readNot xC2 dX2_readAnd_3 <|
  s_if_ne (t := 11) dX2_readAnd_6 rfl (
  s_iconst dX2_readAnd_11 rfl <|
  s_istore_n dX2_readAnd_12 rfl (by decide) <|
  s_J) <|
  s_iconst dX2_readAnd_9 rfl <|
  s_zreturn dX2_readAnd_10 rfl
def k_X2_readAnd_13 (d : Nat) (Q : xV → xMem → Prop) : xP :=
  x_iload 3 <|
  x_push (vi 160) <|
  x_c2 (fun x y => y ≤ x) (
  x_push (vi 1) <|
  x_zret Q) <|
  x_aload 0 <|
  x_getI 2 3 <|
  x_push (vi 264) <|
  x_c2 (fun x y => ¬ x = y) (
  x_push (vi 1) <|
  x_zret Q) <|
  x_aload 0 <|
  x_cV0 M_X2_advance d 2 <|
  x_aload 0 <|
  x_aload 1 <|
  x_iload 2 <|
  x_cV2 M_X2_readNot d 2 <|
  x_c1 (fun x => ¬ x = 0) (
  x_aload 1 <|
  x_push (vi (-11)) <|
  x_cV1 M_X3_add d 3 <|
  x_iinc 3 1 <|
  (xJ M_X2_readAnd (d + 1) 13 Q)) <|
  x_push (vi 0) <|
  x_zret Q
set_option maxRecDepth 100000 in
theorem b_X2_readAnd_13 {d : Nat} {Q : xV → xMem → Prop} : Snd M_X2_readAnd (d + 1) 13 Q (k_X2_readAnd_13 d Q) :=
  s_iload_n dX2_readAnd_13 rfl <|
  s_sipush dX2_readAnd_14 rfl (by decide) <|
  s_icmp_ge (t := 57) dX2_readAnd_17 rfl (
  s_iconst dX2_readAnd_57 rfl <|
  s_zreturn dX2_readAnd_58 rfl) <|
  s_aload_n dX2_readAnd_20 rfl <|
  s_getI xC2 (by decide) (fun _ _ _ => rfl) fl_X2_45 dX2_readAnd_21 <|
  s_sipush dX2_readAnd_24 rfl (by decide) <|
  s_icmp_ne (t := 57) dX2_readAnd_27 rfl (
  s_iconst dX2_readAnd_57 rfl <|
  s_zreturn dX2_readAnd_58 rfl) <|
  s_aload_n dX2_readAnd_30 rfl <|
  s_cV0 ce_X2_advance ml_X2_27 im_X2_advance se_X2_advance xC2 dX2_readAnd_31 <|
  s_aload_n dX2_readAnd_34 rfl <|
  s_aload_n dX2_readAnd_35 rfl <|
  s_iload_n dX2_readAnd_36 rfl <|
  s_cV2 ce_X2_readNot ml_X2_54 im_X2_readNot se_X2_readNot xC2 dX2_readAnd_37 <|
  s_if_ne (t := 45) dX2_readAnd_40 rfl (
  s_aload_n dX2_readAnd_45 rfl <|
  s_bipush dX2_readAnd_46 rfl (by decide) <|
  s_cV1 ce_X3_add ml_X2_51 im_X3_add se_X3_add xC3 dX2_readAnd_48 <|
  s_iinc dX2_readAnd_51 (by decide) <|
  s_goto (t := 13) dX2_readAnd_54 rfl <|
  s_J) <|
  s_iconst dX2_readAnd_43 rfl <|
  s_zreturn dX2_readAnd_44 rfl
-- X2_readAnd: cuts [0, 13]
def k_X2_readNot_0 (d : Nat) (Q : xV → xMem → Prop) : xP :=
  x_push (vi 0) <|
  x_istore 3 <|
  (xJ M_X2_readNot (d + 1) 2 Q)
set_option maxRecDepth 100000 in
theorem b_X2_readNot_0 {d : Nat} {Q : xV → xMem → Prop} : Snd M_X2_readNot (d + 1) 0 Q (k_X2_readNot_0 d Q) :=
  s_iconst dX2_readNot_0 rfl <|
  s_istore_n dX2_readNot_1 rfl (by decide) <|
  s_J
def k_X2_readNot_2 (d : Nat) (Q : xV → xMem → Prop) : xP :=
  x_aload 0 <|
  x_getI 2 3 <|
  x_push (vi 265) <|
  x_c2 (fun x y => ¬ x = y) (
  (xJ M_X2_readNot (d + 1) 29 Q)) <|
  x_iload 2 <|
  x_iload 3 <|
  x_bin oadd <|
  x_push (vi 5) <|
  x_c2 (fun x y => y ≤ x) (
  (xJ M_X2_readNot (d + 1) 29 Q)) <|
  x_aload 0 <|
  x_cV0 M_X2_advance d 2 <|
  x_iinc 3 1 <|
  (xJ M_X2_readNot (d + 1) 2 Q)
set_option maxRecDepth 100000 in
theorem b_X2_readNot_2 {d : Nat} {Q : xV → xMem → Prop} : Snd M_X2_readNot (d + 1) 2 Q (k_X2_readNot_2 d Q) :=
  s_aload_n dX2_readNot_2 rfl <|
  s_getI xC2 (by decide) (fun _ _ _ => rfl) fl_X2_45 dX2_readNot_3 <|
  s_sipush dX2_readNot_6 rfl (by decide) <|
  s_icmp_ne (t := 29) dX2_readNot_9 rfl (
  s_J) <|
  s_iload_n dX2_readNot_12 rfl <|
  s_iload_n dX2_readNot_13 rfl <|
  s_iadd dX2_readNot_14 <|
  s_iconst dX2_readNot_15 rfl <|
  s_icmp_ge (t := 29) dX2_readNot_16 rfl (
  s_J) <|
  s_aload_n dX2_readNot_19 rfl <|
  s_cV0 ce_X2_advance ml_X2_27 im_X2_advance se_X2_advance xC2 dX2_readNot_20 <|
  s_iinc dX2_readNot_23 (by decide) <|
  s_goto (t := 2) dX2_readNot_26 rfl <|
  s_J
def k_X2_readNot_29 (d : Nat) (Q : xV → xMem → Prop) : xP :=
  x_aload 0 <|
  x_aload 1 <|
  x_iload 2 <|
  x_iload 3 <|
  x_bin oadd <|
  x_cV2 M_X2_readComparison d 2 <|
  x_c1 (fun x => ¬ x = 0) (
  x_push (vi 0) <|
  x_istore 4 <|
  (xJ M_X2_readNot (d + 1) 45 Q)) <|
  x_push (vi 0) <|
  x_zret Q
set_option maxRecDepth 100000 in
theorem b_X2_readNot_29 {d : Nat} {Q : xV → xMem → Prop} : Snd M_X2_readNot (d + 1) 29 Q (k_X2_readNot_29 d Q) :=
  s_aload_n dX2_readNot_29 rfl <|
  s_aload_n dX2_readNot_30 rfl <|
  s_iload_n dX2_readNot_31 rfl <|
  s_iload_n dX2_readNot_32 rfl <|
  s_iadd dX2_readNot_33 <|
  s_cV2 ce_X2_readComparison ml_X2_57 im_X2_readComparison se_X2_readComparison xC2 dX2_readNot_34 <|
  s_if_ne (t := 42) dX2_readNot_37 rfl (
  s_iconst dX2_readNot_42 rfl <|
  s_istore dX2_readNot_43 (by decide) <|
  s_J) <|
  s_iconst dX2_readNot_40 rfl <|
  s_zreturn dX2_readNot_41 rfl
def k_X2_readNot_45 (d : Nat) (Q : xV → xMem → Prop) : xP :=
  x_iload 4 <|
  x_iload 3 <|
  x_c2 (fun x y => y ≤ x) (
  x_push (vi 1) <|
  x_zret Q) <|
  x_aload 1 <|
  x_push (vi (-12)) <|
  x_cV1 M_X3_add d 3 <|
  x_iinc 4 1 <|
  (xJ M_X2_readNot (d + 1) 45 Q)
set_option maxRecDepth 100000 in
theorem b_X2_readNot_45 {d : Nat} {Q : xV → xMem → Prop} : Snd M_X2_readNot (d + 1) 45 Q (k_X2_readNot_45 d Q) :=
  s_iload dX2_readNot_45 <|
  s_iload_n dX2_readNot_47 rfl <|
  s_icmp_ge (t := 63) dX2_readNot_48 rfl (
  s_iconst dX2_readNot_63 rfl <|
  s_zreturn dX2_readNot_64 rfl) <|
  s_aload_n dX2_readNot_51 rfl <|
  s_bipush dX2_readNot_52 rfl (by decide) <|
  s_cV1 ce_X3_add ml_X2_51 im_X3_add se_X3_add xC3 dX2_readNot_54 <|
  s_iinc dX2_readNot_57 (by decide) <|
  s_goto (t := 45) dX2_readNot_60 rfl <|
  s_J
-- X2_readNot: cuts [0, 2, 29, 45]
def k_X2_readComparison_0 (d : Nat) (Q : xV → xMem → Prop) : xP :=
  x_aload 0 <|
  x_aload 1 <|
  x_iload 2 <|
  x_cV2 M_X2_readSum d 2 <|
  x_c1 (fun x => ¬ x = 0) (
  x_aload 0 <|
  x_getI 2 3 <|
  x_push (vi 60) <|
  x_c2 (fun x y => x = y) (
  (xJ M_X2_readComparison (d + 1) 31 Q)) <|
  x_aload 0 <|
  x_getI 2 3 <|
  x_push (vi 61) <|
  x_c2 (fun x y => x = y) (
  (xJ M_X2_readComparison (d + 1) 31 Q)) <|
  x_push (vi 1) <|
  x_zret Q) <|
  x_push (vi 0) <|
  x_zret Q
set_option maxRecDepth 100000 in
theorem b_X2_readComparison_0 {d : Nat} {Q : xV → xMem → Prop} : Snd M_X2_readComparison (d + 1) 0 Q (k_X2_readComparison_0 d Q) :=
  s_aload_n dX2_readComparison_0 rfl <|
  s_aload_n dX2_readComparison_1 rfl <|
  s_iload_n dX2_readComparison_2 rfl <|
  s_cV2 ce_X2_readSum ml_X2_60 im_X2_readSum se_X2_readSum xC2 dX2_readComparison_3 <|
  s_if_ne (t := 11) dX2_readComparison_6 rfl (
  s_aload_n dX2_readComparison_11 rfl <|
  s_getI xC2 (by decide) (fun _ _ _ => rfl) fl_X2_45 dX2_readComparison_12 <|
  s_bipush dX2_readComparison_15 rfl (by decide) <|
  s_icmp_eq (t := 31) dX2_readComparison_17 rfl (
  s_J) <|
  s_aload_n dX2_readComparison_20 rfl <|
  s_getI xC2 (by decide) (fun _ _ _ => rfl) fl_X2_45 dX2_readComparison_21 <|
  s_bipush dX2_readComparison_24 rfl (by decide) <|
  s_icmp_eq (t := 31) dX2_readComparison_26 rfl (
  s_J) <|
  s_iconst dX2_readComparison_29 rfl <|
  s_zreturn dX2_readComparison_30 rfl) <|
  s_iconst dX2_readComparison_9 rfl <|
  s_zreturn dX2_readComparison_10 rfl
def k_X2_readComparison_31 (d : Nat) (Q : xV → xMem → Prop) : xP :=
  x_aload 0 <|
  x_getI 2 3 <|
  x_push (vi 60) <|
  x_c2 (fun x y => ¬ x = y) (
  x_push (vi (-14)) <|
  (xJ M_X2_readComparison (d + 1) 47 Q)) <|
  x_push (vi (-13)) <|
  (xJ M_X2_readComparison (d + 1) 47 Q)
set_option maxRecDepth 100000 in
theorem b_X2_readComparison_31 {d : Nat} {Q : xV → xMem → Prop} : Snd M_X2_readComparison (d + 1) 31 Q (k_X2_readComparison_31 d Q) :=
  s_aload_n dX2_readComparison_31 rfl <|
  s_getI xC2 (by decide) (fun _ _ _ => rfl) fl_X2_45 dX2_readComparison_32 <|
  s_bipush dX2_readComparison_35 rfl (by decide) <|
  s_icmp_ne (t := 45) dX2_readComparison_37 rfl (
  s_bipush dX2_readComparison_45 rfl (by decide) <|
  s_J) <|
  s_bipush dX2_readComparison_40 rfl (by decide) <|
  s_goto (t := 47) dX2_readComparison_42 rfl <|
  s_J
def k_X2_readComparison_47 (d : Nat) (Q : xV → xMem → Prop) : xP :=
  x_istore 3 <|
  x_aload 0 <|
  x_cV0 M_X2_advance d 2 <|
  x_aload 0 <|
  x_aload 1 <|
  x_iload 2 <|
  x_cV2 M_X2_readSum d 2 <|
  x_c1 (fun x => ¬ x = 0) (
  x_aload 1 <|
  x_iload 3 <|
  x_cV1 M_X3_add d 3 <|
  x_push (vi 1) <|
  x_zret Q) <|
  x_push (vi 0) <|
  x_zret Q
set_option maxRecDepth 100000 in
theorem b_X2_readComparison_47 {d : Nat} {Q : xV → xMem → Prop} : Snd M_X2_readComparison (d + 1) 47 Q (k_X2_readComparison_47 d Q) :=
  s_istore_n dX2_readComparison_47 rfl (by decide) <|
  s_aload_n dX2_readComparison_48 rfl <|
  s_cV0 ce_X2_advance ml_X2_27 im_X2_advance se_X2_advance xC2 dX2_readComparison_49 <|
  s_aload_n dX2_readComparison_52 rfl <|
  s_aload_n dX2_readComparison_53 rfl <|
  s_iload_n dX2_readComparison_54 rfl <|
  s_cV2 ce_X2_readSum ml_X2_60 im_X2_readSum se_X2_readSum xC2 dX2_readComparison_55 <|
  s_if_ne (t := 63) dX2_readComparison_58 rfl (
  s_aload_n dX2_readComparison_63 rfl <|
  s_iload_n dX2_readComparison_64 rfl <|
  s_cV1 ce_X3_add ml_X2_51 im_X3_add se_X3_add xC3 dX2_readComparison_65 <|
  s_iconst dX2_readComparison_68 rfl <|
  s_zreturn dX2_readComparison_69 rfl) <|
  s_iconst dX2_readComparison_61 rfl <|
  s_zreturn dX2_readComparison_62 rfl
-- X2_readComparison: cuts [0, 31, 47]
def k_X2_readSum_0 (d : Nat) (Q : xV → xMem → Prop) : xP :=
  x_aload 0 <|
  x_aload 1 <|
  x_iload 2 <|
  x_cV2 M_X2_readTerm d 2 <|
  x_c1 (fun x => ¬ x = 0) (
  x_push (vi 0) <|
  x_istore 3 <|
  (xJ M_X2_readSum (d + 1) 13 Q)) <|
  x_push (vi 0) <|
  x_zret Q
set_option maxRecDepth 100000 in
theorem b_X2_readSum_0 {d : Nat} {Q : xV → xMem → Prop} : Snd M_X2_readSum (d + 1) 0 Q (k_X2_readSum_0 d Q) :=
  s_aload_n dX2_readSum_0 rfl <|
  s_aload_n dX2_readSum_1 rfl <|
  s_iload_n dX2_readSum_2 rfl <|
  s_cV2 ce_X2_readTerm ml_X2_63 im_X2_readTerm se_X2_readTerm xC2 dX2_readSum_3 <|
  s_if_ne (t := 11) dX2_readSum_6 rfl (
  s_iconst dX2_readSum_11 rfl <|
  s_istore_n dX2_readSum_12 rfl (by decide) <|
  s_J) <|
  s_iconst dX2_readSum_9 rfl <|
  s_zreturn dX2_readSum_10 rfl
def k_X2_readSum_13 (d : Nat) (Q : xV → xMem → Prop) : xP :=
  x_iload 3 <|
  x_push (vi 160) <|
  x_c2 (fun x y => y ≤ x) (
  x_push (vi 1) <|
  x_zret Q) <|
  x_aload 0 <|
  x_getI 2 3 <|
  x_push (vi 43) <|
  x_c2 (fun x y => x = y) (
  (xJ M_X2_readSum (d + 1) 38 Q)) <|
  x_aload 0 <|
  x_getI 2 3 <|
  x_push (vi 45) <|
  x_c2 (fun x y => ¬ x = y) (
  x_push (vi 1) <|
  x_zret Q) <|
  (xJ M_X2_readSum (d + 1) 38 Q)
set_option maxRecDepth 100000 in
theorem b_X2_readSum_13 {d : Nat} {Q : xV → xMem → Prop} : Snd M_X2_readSum (d + 1) 13 Q (k_X2_readSum_13 d Q) :=
  s_iload_n dX2_readSum_13 rfl <|
  s_sipush dX2_readSum_14 rfl (by decide) <|
  s_icmp_ge (t := 83) dX2_readSum_17 rfl (
  s_iconst dX2_readSum_83 rfl <|
  s_zreturn dX2_readSum_84 rfl) <|
  s_aload_n dX2_readSum_20 rfl <|
  s_getI xC2 (by decide) (fun _ _ _ => rfl) fl_X2_45 dX2_readSum_21 <|
  s_bipush dX2_readSum_24 rfl (by decide) <|
  s_icmp_eq (t := 38) dX2_readSum_26 rfl (
  s_J) <|
  s_aload_n dX2_readSum_29 rfl <|
  s_getI xC2 (by decide) (fun _ _ _ => rfl) fl_X2_45 dX2_readSum_30 <|
  s_bipush dX2_readSum_33 rfl (by decide) <|
  s_icmp_ne (t := 83) dX2_readSum_35 rfl (
  s_iconst dX2_readSum_83 rfl <|
  s_zreturn dX2_readSum_84 rfl) <|
  s_J
def k_X2_readSum_38 (d : Nat) (Q : xV → xMem → Prop) : xP :=
  x_aload 0 <|
  x_getI 2 3 <|
  x_push (vi 43) <|
  x_c2 (fun x y => ¬ x = y) (
  x_push (vi (-16)) <|
  (xJ M_X2_readSum (d + 1) 54 Q)) <|
  x_push (vi (-15)) <|
  (xJ M_X2_readSum (d + 1) 54 Q)
set_option maxRecDepth 100000 in
theorem b_X2_readSum_38 {d : Nat} {Q : xV → xMem → Prop} : Snd M_X2_readSum (d + 1) 38 Q (k_X2_readSum_38 d Q) :=
  s_aload_n dX2_readSum_38 rfl <|
  s_getI xC2 (by decide) (fun _ _ _ => rfl) fl_X2_45 dX2_readSum_39 <|
  s_bipush dX2_readSum_42 rfl (by decide) <|
  s_icmp_ne (t := 52) dX2_readSum_44 rfl (
  s_bipush dX2_readSum_52 rfl (by decide) <|
  s_J) <|
  s_bipush dX2_readSum_47 rfl (by decide) <|
  s_goto (t := 54) dX2_readSum_49 rfl <|
  s_J
def k_X2_readSum_54 (d : Nat) (Q : xV → xMem → Prop) : xP :=
  x_istore 4 <|
  x_aload 0 <|
  x_cV0 M_X2_advance d 2 <|
  x_aload 0 <|
  x_aload 1 <|
  x_iload 2 <|
  x_cV2 M_X2_readTerm d 2 <|
  x_c1 (fun x => ¬ x = 0) (
  x_aload 1 <|
  x_iload 4 <|
  x_cV1 M_X3_add d 3 <|
  x_iinc 3 1 <|
  (xJ M_X2_readSum (d + 1) 13 Q)) <|
  x_push (vi 0) <|
  x_zret Q
set_option maxRecDepth 100000 in
theorem b_X2_readSum_54 {d : Nat} {Q : xV → xMem → Prop} : Snd M_X2_readSum (d + 1) 54 Q (k_X2_readSum_54 d Q) :=
  s_istore dX2_readSum_54 (by decide) <|
  s_aload_n dX2_readSum_56 rfl <|
  s_cV0 ce_X2_advance ml_X2_27 im_X2_advance se_X2_advance xC2 dX2_readSum_57 <|
  s_aload_n dX2_readSum_60 rfl <|
  s_aload_n dX2_readSum_61 rfl <|
  s_iload_n dX2_readSum_62 rfl <|
  s_cV2 ce_X2_readTerm ml_X2_63 im_X2_readTerm se_X2_readTerm xC2 dX2_readSum_63 <|
  s_if_ne (t := 71) dX2_readSum_66 rfl (
  s_aload_n dX2_readSum_71 rfl <|
  s_iload dX2_readSum_72 <|
  s_cV1 ce_X3_add ml_X2_51 im_X3_add se_X3_add xC3 dX2_readSum_74 <|
  s_iinc dX2_readSum_77 (by decide) <|
  s_goto (t := 13) dX2_readSum_80 rfl <|
  s_J) <|
  s_iconst dX2_readSum_69 rfl <|
  s_zreturn dX2_readSum_70 rfl
-- X2_readSum: cuts [0, 13, 38, 54]
def k_X2_readTerm_0 (d : Nat) (Q : xV → xMem → Prop) : xP :=
  x_aload 0 <|
  x_aload 1 <|
  x_iload 2 <|
  x_cV2 M_X2_readOne d 2 <|
  x_c1 (fun x => ¬ x = 0) (
  x_push (vi 0) <|
  x_istore 3 <|
  (xJ M_X2_readTerm (d + 1) 13 Q)) <|
  x_push (vi 0) <|
  x_zret Q
set_option maxRecDepth 100000 in
theorem b_X2_readTerm_0 {d : Nat} {Q : xV → xMem → Prop} : Snd M_X2_readTerm (d + 1) 0 Q (k_X2_readTerm_0 d Q) :=
  s_aload_n dX2_readTerm_0 rfl <|
  s_aload_n dX2_readTerm_1 rfl <|
  s_iload_n dX2_readTerm_2 rfl <|
  s_cV2 ce_X2_readOne ml_X2_66 im_X2_readOne se_X2_readOne xC2 dX2_readTerm_3 <|
  s_if_ne (t := 11) dX2_readTerm_6 rfl (
  s_iconst dX2_readTerm_11 rfl <|
  s_istore_n dX2_readTerm_12 rfl (by decide) <|
  s_J) <|
  s_iconst dX2_readTerm_9 rfl <|
  s_zreturn dX2_readTerm_10 rfl
def k_X2_readTerm_13 (d : Nat) (Q : xV → xMem → Prop) : xP :=
  x_iload 3 <|
  x_push (vi 160) <|
  x_c2 (fun x y => y ≤ x) (
  x_push (vi 1) <|
  x_zret Q) <|
  x_aload 0 <|
  x_getI 2 3 <|
  x_push (vi 42) <|
  x_c2 (fun x y => ¬ x = y) (
  x_push (vi 1) <|
  x_zret Q) <|
  x_aload 0 <|
  x_cV0 M_X2_advance d 2 <|
  x_aload 0 <|
  x_aload 1 <|
  x_iload 2 <|
  x_cV2 M_X2_readOne d 2 <|
  x_c1 (fun x => ¬ x = 0) (
  x_aload 1 <|
  x_push (vi (-17)) <|
  x_cV1 M_X3_add d 3 <|
  x_iinc 3 1 <|
  (xJ M_X2_readTerm (d + 1) 13 Q)) <|
  x_push (vi 0) <|
  x_zret Q
set_option maxRecDepth 100000 in
theorem b_X2_readTerm_13 {d : Nat} {Q : xV → xMem → Prop} : Snd M_X2_readTerm (d + 1) 13 Q (k_X2_readTerm_13 d Q) :=
  s_iload_n dX2_readTerm_13 rfl <|
  s_sipush dX2_readTerm_14 rfl (by decide) <|
  s_icmp_ge (t := 56) dX2_readTerm_17 rfl (
  s_iconst dX2_readTerm_56 rfl <|
  s_zreturn dX2_readTerm_57 rfl) <|
  s_aload_n dX2_readTerm_20 rfl <|
  s_getI xC2 (by decide) (fun _ _ _ => rfl) fl_X2_45 dX2_readTerm_21 <|
  s_bipush dX2_readTerm_24 rfl (by decide) <|
  s_icmp_ne (t := 56) dX2_readTerm_26 rfl (
  s_iconst dX2_readTerm_56 rfl <|
  s_zreturn dX2_readTerm_57 rfl) <|
  s_aload_n dX2_readTerm_29 rfl <|
  s_cV0 ce_X2_advance ml_X2_27 im_X2_advance se_X2_advance xC2 dX2_readTerm_30 <|
  s_aload_n dX2_readTerm_33 rfl <|
  s_aload_n dX2_readTerm_34 rfl <|
  s_iload_n dX2_readTerm_35 rfl <|
  s_cV2 ce_X2_readOne ml_X2_66 im_X2_readOne se_X2_readOne xC2 dX2_readTerm_36 <|
  s_if_ne (t := 44) dX2_readTerm_39 rfl (
  s_aload_n dX2_readTerm_44 rfl <|
  s_bipush dX2_readTerm_45 rfl (by decide) <|
  s_cV1 ce_X3_add ml_X2_51 im_X3_add se_X3_add xC3 dX2_readTerm_47 <|
  s_iinc dX2_readTerm_50 (by decide) <|
  s_goto (t := 13) dX2_readTerm_53 rfl <|
  s_J) <|
  s_iconst dX2_readTerm_42 rfl <|
  s_zreturn dX2_readTerm_43 rfl
-- X2_readTerm: cuts [0, 13]
def k_X2_readOne_0 (d : Nat) (Q : xV → xMem → Prop) : xP :=
  x_push (vi 0) <|
  x_istore 3 <|
  (xJ M_X2_readOne (d + 1) 2 Q)
set_option maxRecDepth 100000 in
theorem b_X2_readOne_0 {d : Nat} {Q : xV → xMem → Prop} : Snd M_X2_readOne (d + 1) 0 Q (k_X2_readOne_0 d Q) :=
  s_iconst dX2_readOne_0 rfl <|
  s_istore_n dX2_readOne_1 rfl (by decide) <|
  s_J
def k_X2_readOne_2 (d : Nat) (Q : xV → xMem → Prop) : xP :=
  x_aload 0 <|
  x_getI 2 3 <|
  x_push (vi 45) <|
  x_c2 (fun x y => ¬ x = y) (
  (xJ M_X2_readOne (d + 1) 28 Q)) <|
  x_iload 2 <|
  x_iload 3 <|
  x_bin oadd <|
  x_push (vi 5) <|
  x_c2 (fun x y => y ≤ x) (
  (xJ M_X2_readOne (d + 1) 28 Q)) <|
  x_aload 0 <|
  x_cV0 M_X2_advance d 2 <|
  x_iinc 3 1 <|
  (xJ M_X2_readOne (d + 1) 2 Q)
set_option maxRecDepth 100000 in
theorem b_X2_readOne_2 {d : Nat} {Q : xV → xMem → Prop} : Snd M_X2_readOne (d + 1) 2 Q (k_X2_readOne_2 d Q) :=
  s_aload_n dX2_readOne_2 rfl <|
  s_getI xC2 (by decide) (fun _ _ _ => rfl) fl_X2_45 dX2_readOne_3 <|
  s_bipush dX2_readOne_6 rfl (by decide) <|
  s_icmp_ne (t := 28) dX2_readOne_8 rfl (
  s_J) <|
  s_iload_n dX2_readOne_11 rfl <|
  s_iload_n dX2_readOne_12 rfl <|
  s_iadd dX2_readOne_13 <|
  s_iconst dX2_readOne_14 rfl <|
  s_icmp_ge (t := 28) dX2_readOne_15 rfl (
  s_J) <|
  s_aload_n dX2_readOne_18 rfl <|
  s_cV0 ce_X2_advance ml_X2_27 im_X2_advance se_X2_advance xC2 dX2_readOne_19 <|
  s_iinc dX2_readOne_22 (by decide) <|
  s_goto (t := 2) dX2_readOne_25 rfl <|
  s_J
def k_X2_readOne_28 (d : Nat) (Q : xV → xMem → Prop) : xP :=
  x_aload 0 <|
  x_aload 1 <|
  x_iload 2 <|
  x_iload 3 <|
  x_bin oadd <|
  x_cV2 M_X2_readOperand d 2 <|
  x_c1 (fun x => ¬ x = 0) (
  x_push (vi 0) <|
  x_istore 4 <|
  (xJ M_X2_readOne (d + 1) 44 Q)) <|
  x_push (vi 0) <|
  x_zret Q
set_option maxRecDepth 100000 in
theorem b_X2_readOne_28 {d : Nat} {Q : xV → xMem → Prop} : Snd M_X2_readOne (d + 1) 28 Q (k_X2_readOne_28 d Q) :=
  s_aload_n dX2_readOne_28 rfl <|
  s_aload_n dX2_readOne_29 rfl <|
  s_iload_n dX2_readOne_30 rfl <|
  s_iload_n dX2_readOne_31 rfl <|
  s_iadd dX2_readOne_32 <|
  s_cV2 ce_X2_readOperand ml_X2_69 im_X2_readOperand se_X2_readOperand xC2 dX2_readOne_33 <|
  s_if_ne (t := 41) dX2_readOne_36 rfl (
  s_iconst dX2_readOne_41 rfl <|
  s_istore dX2_readOne_42 (by decide) <|
  s_J) <|
  s_iconst dX2_readOne_39 rfl <|
  s_zreturn dX2_readOne_40 rfl
def k_X2_readOne_44 (d : Nat) (Q : xV → xMem → Prop) : xP :=
  x_iload 4 <|
  x_iload 3 <|
  x_c2 (fun x y => y ≤ x) (
  x_push (vi 1) <|
  x_zret Q) <|
  x_aload 1 <|
  x_push (vi (-18)) <|
  x_cV1 M_X3_add d 3 <|
  x_iinc 4 1 <|
  (xJ M_X2_readOne (d + 1) 44 Q)
set_option maxRecDepth 100000 in
theorem b_X2_readOne_44 {d : Nat} {Q : xV → xMem → Prop} : Snd M_X2_readOne (d + 1) 44 Q (k_X2_readOne_44 d Q) :=
  s_iload dX2_readOne_44 <|
  s_iload_n dX2_readOne_46 rfl <|
  s_icmp_ge (t := 62) dX2_readOne_47 rfl (
  s_iconst dX2_readOne_62 rfl <|
  s_zreturn dX2_readOne_63 rfl) <|
  s_aload_n dX2_readOne_50 rfl <|
  s_bipush dX2_readOne_51 rfl (by decide) <|
  s_cV1 ce_X3_add ml_X2_51 im_X3_add se_X3_add xC3 dX2_readOne_53 <|
  s_iinc dX2_readOne_56 (by decide) <|
  s_goto (t := 44) dX2_readOne_59 rfl <|
  s_J
-- X2_readOne: cuts [0, 2, 28, 44]
def k_X2_readOperand_0 (d : Nat) (Q : xV → xMem → Prop) : xP :=
  x_aload 0 <|
  x_getI 2 3 <|
  x_push (vi 258) <|
  x_c2 (fun x y => ¬ x = y) (
  x_aload 0 <|
  x_getI 2 3 <|
  x_push (vi 266) <|
  x_c2 (fun x y => x < y) (
  (xJ M_X2_readOperand (d + 1) 62 Q)) <|
  x_aload 0 <|
  x_getI 2 3 <|
  x_push (vi 272) <|
  x_c2 (fun x y => y ≤ x) (
  (xJ M_X2_readOperand (d + 1) 62 Q)) <|
  x_aload 1 <|
  x_push (vi 265) <|
  x_aload 0 <|
  x_getI 2 3 <|
  x_bin osub <|
  x_cV1 M_X3_add d 3 <|
  x_aload 0 <|
  x_cV0 M_X2_advance d 2 <|
  x_push (vi 1) <|
  x_zret Q) <|
  x_aload 1 <|
  x_aload 0 <|
  x_getI 2 5 <|
  x_cV1 M_X3_add d 3 <|
  x_aload 0 <|
  x_cV0 M_X2_advance d 2 <|
  x_push (vi 1) <|
  x_zret Q
set_option maxRecDepth 100000 in
theorem b_X2_readOperand_0 {d : Nat} {Q : xV → xMem → Prop} : Snd M_X2_readOperand (d + 1) 0 Q (k_X2_readOperand_0 d Q) :=
  s_aload_n dX2_readOperand_0 rfl <|
  s_getI xC2 (by decide) (fun _ _ _ => rfl) fl_X2_45 dX2_readOperand_1 <|
  s_sipush dX2_readOperand_4 rfl (by decide) <|
  s_icmp_ne (t := 24) dX2_readOperand_7 rfl (
  s_aload_n dX2_readOperand_24 rfl <|
  s_getI xC2 (by decide) (fun _ _ _ => rfl) fl_X2_45 dX2_readOperand_25 <|
  s_sipush dX2_readOperand_28 rfl (by decide) <|
  s_icmp_lt (t := 62) dX2_readOperand_31 rfl (
  s_J) <|
  s_aload_n dX2_readOperand_34 rfl <|
  s_getI xC2 (by decide) (fun _ _ _ => rfl) fl_X2_45 dX2_readOperand_35 <|
  s_sipush dX2_readOperand_38 rfl (by decide) <|
  s_icmp_ge (t := 62) dX2_readOperand_41 rfl (
  s_J) <|
  s_aload_n dX2_readOperand_44 rfl <|
  s_sipush dX2_readOperand_45 rfl (by decide) <|
  s_aload_n dX2_readOperand_48 rfl <|
  s_getI xC2 (by decide) (fun _ _ _ => rfl) fl_X2_45 dX2_readOperand_49 <|
  s_isub dX2_readOperand_52 <|
  s_cV1 ce_X3_add ml_X2_51 im_X3_add se_X3_add xC3 dX2_readOperand_53 <|
  s_aload_n dX2_readOperand_56 rfl <|
  s_cV0 ce_X2_advance ml_X2_27 im_X2_advance se_X2_advance xC2 dX2_readOperand_57 <|
  s_iconst dX2_readOperand_60 rfl <|
  s_zreturn dX2_readOperand_61 rfl) <|
  s_aload_n dX2_readOperand_10 rfl <|
  s_aload_n dX2_readOperand_11 rfl <|
  s_getI xC2 (by decide) (fun _ _ _ => rfl) fl_X2_72 dX2_readOperand_12 <|
  s_cV1 ce_X3_add ml_X2_51 im_X3_add se_X3_add xC3 dX2_readOperand_15 <|
  s_aload_n dX2_readOperand_18 rfl <|
  s_cV0 ce_X2_advance ml_X2_27 im_X2_advance se_X2_advance xC2 dX2_readOperand_19 <|
  s_iconst dX2_readOperand_22 rfl <|
  s_zreturn dX2_readOperand_23 rfl
def k_X2_readOperand_62 (d : Nat) (Q : xV → xMem → Prop) : xP :=
  x_aload 0 <|
  x_getI 2 3 <|
  x_push (vi 40) <|
  x_c2 (fun x y => ¬ x = y) (
  x_push (vi 0) <|
  x_zret Q) <|
  x_iload 2 <|
  x_push (vi 5) <|
  x_c2 (fun x y => x < y) (
  x_aload 0 <|
  x_cV0 M_X2_advance d 2 <|
  x_aload 0 <|
  x_aload 1 <|
  x_iload 2 <|
  x_push (vi 1) <|
  x_bin oadd <|
  x_cV2 M_X2_readE d 2 <|
  x_c1 (fun x => x = 0) (
  x_push (vi 0) <|
  x_zret Q) <|
  x_aload 0 <|
  x_push (vi 41) <|
  x_cV1 M_X2_pass d 2 <|
  x_c1 (fun x => x = 0) (
  x_push (vi 0) <|
  x_zret Q) <|
  x_push (vi 1) <|
  x_zret Q) <|
  x_push (vi 0) <|
  x_zret Q
set_option maxRecDepth 100000 in
theorem b_X2_readOperand_62 {d : Nat} {Q : xV → xMem → Prop} : Snd M_X2_readOperand (d + 1) 62 Q (k_X2_readOperand_62 d Q) :=
  s_aload_n dX2_readOperand_62 rfl <|
  s_getI xC2 (by decide) (fun _ _ _ => rfl) fl_X2_45 dX2_readOperand_63 <|
  s_bipush dX2_readOperand_66 rfl (by decide) <|
  s_icmp_ne (t := 76) dX2_readOperand_68 rfl (
  s_iconst dX2_readOperand_76 rfl <|
  s_zreturn dX2_readOperand_77 rfl) <|
  s_iload_n dX2_readOperand_71 rfl <|
  s_iconst dX2_readOperand_72 rfl <|
  s_icmp_lt (t := 78) dX2_readOperand_73 rfl (
  s_aload_n dX2_readOperand_78 rfl <|
  s_cV0 ce_X2_advance ml_X2_27 im_X2_advance se_X2_advance xC2 dX2_readOperand_79 <|
  s_aload_n dX2_readOperand_82 rfl <|
  s_aload_n dX2_readOperand_83 rfl <|
  s_iload_n dX2_readOperand_84 rfl <|
  s_iconst dX2_readOperand_85 rfl <|
  s_iadd dX2_readOperand_86 <|
  s_cV2 ce_X2_readE ml_X2_34 im_X2_readE se_X2_readE xC2 dX2_readOperand_87 <|
  s_if_eq (t := 106) dX2_readOperand_90 rfl (
  s_iconst dX2_readOperand_106 rfl <|
  s_zreturn dX2_readOperand_107 rfl) <|
  s_aload_n dX2_readOperand_93 rfl <|
  s_bipush dX2_readOperand_94 rfl (by decide) <|
  s_cV1 ce_X2_pass ml_X2_30 im_X2_pass se_X2_pass xC2 dX2_readOperand_96 <|
  s_if_eq (t := 106) dX2_readOperand_99 rfl (
  s_iconst dX2_readOperand_106 rfl <|
  s_zreturn dX2_readOperand_107 rfl) <|
  s_iconst dX2_readOperand_102 rfl <|
  s_goto (t := 107) dX2_readOperand_103 rfl <|
  s_zreturn dX2_readOperand_107 rfl) <|
  s_iconst dX2_readOperand_76 rfl <|
  s_zreturn dX2_readOperand_77 rfl
-- X2_readOperand: cuts [0, 62]
def k_X2_pass_0 (d : Nat) (Q : xV → xMem → Prop) : xP :=
  x_aload 0 <|
  x_getI 2 3 <|
  x_iload 1 <|
  x_c2 (fun x y => x = y) (
  x_aload 0 <|
  x_cV0 M_X2_advance d 2 <|
  x_push (vi 1) <|
  x_zret Q) <|
  x_push (vi 0) <|
  x_zret Q
set_option maxRecDepth 100000 in
theorem b_X2_pass_0 {d : Nat} {Q : xV → xMem → Prop} : Snd M_X2_pass (d + 1) 0 Q (k_X2_pass_0 d Q) :=
  s_aload_n dX2_pass_0 rfl <|
  s_getI xC2 (by decide) (fun _ _ _ => rfl) fl_X2_45 dX2_pass_1 <|
  s_iload_n dX2_pass_4 rfl <|
  s_icmp_eq (t := 10) dX2_pass_5 rfl (
  s_aload_n dX2_pass_10 rfl <|
  s_cV0 ce_X2_advance ml_X2_27 im_X2_advance se_X2_advance xC2 dX2_pass_11 <|
  s_iconst dX2_pass_14 rfl <|
  s_zreturn dX2_pass_15 rfl) <|
  s_iconst dX2_pass_8 rfl <|
  s_zreturn dX2_pass_9 rfl
-- X2_pass: cuts [0]
def k_X2_advance_0 (d : Nat) (Q : xV → xMem → Prop) : xP :=
  x_aload 0 <|
  x_getI 2 2 <|
  x_aload 0 <|
  x_getI 2 1 <|
  x_c2 (fun x y => y ≤ x) (
  (xJ M_X2_advance (d + 1) 52 Q)) <|
  x_aload 0 <|
  x_getR 2 0 <|
  x_aload 0 <|
  x_getI 2 2 <|
  x_iaload <|
  x_push (vi 32) <|
  x_c2 (fun x y => x = y) (
  x_aload 0 <|
  x_dup <|
  x_getI 2 2 <|
  x_push (vi 1) <|
  x_bin oadd <|
  x_putI 2 2 <|
  (xJ M_X2_advance (d + 1) 0 Q)) <|
  x_aload 0 <|
  x_getR 2 0 <|
  x_aload 0 <|
  x_getI 2 2 <|
  x_iaload <|
  x_push (vi 10) <|
  x_c2 (fun x y => ¬ x = y) (
  (xJ M_X2_advance (d + 1) 52 Q)) <|
  x_aload 0 <|
  x_dup <|
  x_getI 2 2 <|
  x_push (vi 1) <|
  x_bin oadd <|
  x_putI 2 2 <|
  (xJ M_X2_advance (d + 1) 0 Q)
set_option maxRecDepth 100000 in
theorem b_X2_advance_0 {d : Nat} {Q : xV → xMem → Prop} : Snd M_X2_advance (d + 1) 0 Q (k_X2_advance_0 d Q) :=
  s_aload_n dX2_advance_0 rfl <|
  s_getI xC2 (by decide) (fun _ _ _ => rfl) fl_X2_24 dX2_advance_1 <|
  s_aload_n dX2_advance_4 rfl <|
  s_getI xC2 (by decide) (fun _ _ _ => rfl) fl_X2_15 dX2_advance_5 <|
  s_icmp_ge (t := 52) dX2_advance_8 rfl (
  s_J) <|
  s_aload_n dX2_advance_11 rfl <|
  s_getR xC2 (by decide) (fun _ _ _ => rfl) fl_X2_9 dX2_advance_12 <|
  s_aload_n dX2_advance_15 rfl <|
  s_getI xC2 (by decide) (fun _ _ _ => rfl) fl_X2_24 dX2_advance_16 <|
  s_iaload dX2_advance_19 <|
  s_bipush dX2_advance_20 rfl (by decide) <|
  s_icmp_eq (t := 39) dX2_advance_22 rfl (
  s_aload_n dX2_advance_39 rfl <|
  s_dup dX2_advance_40 <|
  s_getI xC2 (by decide) (fun _ _ _ => rfl) fl_X2_24 dX2_advance_41 <|
  s_iconst dX2_advance_44 rfl <|
  s_iadd dX2_advance_45 <|
  s_putI xC2 (by decide) (fun _ _ _ => rfl) rfl rfl fl_X2_24 dX2_advance_46 <|
  s_goto (t := 0) dX2_advance_49 rfl <|
  s_J) <|
  s_aload_n dX2_advance_25 rfl <|
  s_getR xC2 (by decide) (fun _ _ _ => rfl) fl_X2_9 dX2_advance_26 <|
  s_aload_n dX2_advance_29 rfl <|
  s_getI xC2 (by decide) (fun _ _ _ => rfl) fl_X2_24 dX2_advance_30 <|
  s_iaload dX2_advance_33 <|
  s_bipush dX2_advance_34 rfl (by decide) <|
  s_icmp_ne (t := 52) dX2_advance_36 rfl (
  s_J) <|
  s_aload_n dX2_advance_39 rfl <|
  s_dup dX2_advance_40 <|
  s_getI xC2 (by decide) (fun _ _ _ => rfl) fl_X2_24 dX2_advance_41 <|
  s_iconst dX2_advance_44 rfl <|
  s_iadd dX2_advance_45 <|
  s_putI xC2 (by decide) (fun _ _ _ => rfl) rfl rfl fl_X2_24 dX2_advance_46 <|
  s_goto (t := 0) dX2_advance_49 rfl <|
  s_J
def k_X2_advance_52 (d : Nat) (Q : xV → xMem → Prop) : xP :=
  x_aload 0 <|
  x_aload 0 <|
  x_getI 2 2 <|
  x_putI 2 4 <|
  x_aload 0 <|
  x_getI 2 2 <|
  x_aload 0 <|
  x_getI 2 1 <|
  x_c2 (fun x y => x < y) (
  x_aload 0 <|
  x_getR 2 0 <|
  x_aload 0 <|
  x_getI 2 2 <|
  x_iaload <|
  x_cS1 M_X2_isLetter d <|
  x_c1 (fun x => x = 0) (
  x_aload 0 <|
  x_getR 2 0 <|
  x_aload 0 <|
  x_getI 2 2 <|
  x_iaload <|
  x_cS1 M_X2_isDigit d <|
  x_c1 (fun x => x = 0) (
  x_aload 0 <|
  x_aload 0 <|
  x_getR 2 0 <|
  x_aload 0 <|
  x_getI 2 2 <|
  x_iaload <|
  x_cS1 M_X2_isSign d <|
  x_c1 (fun x => x = 0) (
  x_push (vi 257) <|
  x_putI 2 3 <|
  x_aload 0 <|
  x_dup <|
  x_getI 2 2 <|
  x_push (vi 1) <|
  x_bin oadd <|
  x_putI 2 2 <|
  x_vret Q) <|
  x_aload 0 <|
  x_getR 2 0 <|
  x_aload 0 <|
  x_getI 2 2 <|
  x_iaload <|
  x_putI 2 3 <|
  x_aload 0 <|
  x_dup <|
  x_getI 2 2 <|
  x_push (vi 1) <|
  x_bin oadd <|
  x_putI 2 2 <|
  x_vret Q) <|
  x_aload 0 <|
  x_cV0 M_X2_takeNumber d 2 <|
  x_vret Q) <|
  x_aload 0 <|
  x_cV0 M_X2_takeWord d 2 <|
  x_vret Q) <|
  x_aload 0 <|
  x_push (vi 256) <|
  x_putI 2 3 <|
  x_vret Q
set_option maxRecDepth 100000 in
theorem b_X2_advance_52 {d : Nat} {Q : xV → xMem → Prop} : Snd M_X2_advance (d + 1) 52 Q (k_X2_advance_52 d Q) :=
  s_aload_n dX2_advance_52 rfl <|
  s_aload_n dX2_advance_53 rfl <|
  s_getI xC2 (by decide) (fun _ _ _ => rfl) fl_X2_24 dX2_advance_54 <|
  s_putI xC2 (by decide) (fun _ _ _ => rfl) rfl rfl fl_X2_38 dX2_advance_57 <|
  s_aload_n dX2_advance_60 rfl <|
  s_getI xC2 (by decide) (fun _ _ _ => rfl) fl_X2_24 dX2_advance_61 <|
  s_aload_n dX2_advance_64 rfl <|
  s_getI xC2 (by decide) (fun _ _ _ => rfl) fl_X2_15 dX2_advance_65 <|
  s_icmp_lt (t := 81) dX2_advance_68 rfl (
  s_aload_n dX2_advance_81 rfl <|
  s_getR xC2 (by decide) (fun _ _ _ => rfl) fl_X2_9 dX2_advance_82 <|
  s_aload_n dX2_advance_85 rfl <|
  s_getI xC2 (by decide) (fun _ _ _ => rfl) fl_X2_24 dX2_advance_86 <|
  s_iaload dX2_advance_89 <|
  s_cS1 ce_X2_isLetter ml_X2_75 sm_X2_isLetter dX2_advance_90 <|
  s_if_eq (t := 103) dX2_advance_93 rfl (
  s_aload_n dX2_advance_103 rfl <|
  s_getR xC2 (by decide) (fun _ _ _ => rfl) fl_X2_9 dX2_advance_104 <|
  s_aload_n dX2_advance_107 rfl <|
  s_getI xC2 (by decide) (fun _ _ _ => rfl) fl_X2_24 dX2_advance_108 <|
  s_iaload dX2_advance_111 <|
  s_cS1 ce_X2_isDigit ml_X2_81 sm_X2_isDigit dX2_advance_112 <|
  s_if_eq (t := 125) dX2_advance_115 rfl (
  s_aload_n dX2_advance_125 rfl <|
  s_aload_n dX2_advance_126 rfl <|
  s_getR xC2 (by decide) (fun _ _ _ => rfl) fl_X2_9 dX2_advance_127 <|
  s_aload_n dX2_advance_130 rfl <|
  s_getI xC2 (by decide) (fun _ _ _ => rfl) fl_X2_24 dX2_advance_131 <|
  s_iaload dX2_advance_134 <|
  s_cS1 ce_X2_isSign ml_X2_87 sm_X2_isSign dX2_advance_135 <|
  s_if_eq (t := 153) dX2_advance_138 rfl (
  s_sipush dX2_advance_153 rfl (by decide) <|
  s_putI xC2 (by decide) (fun _ _ _ => rfl) rfl rfl fl_X2_45 dX2_advance_156 <|
  s_aload_n dX2_advance_159 rfl <|
  s_dup dX2_advance_160 <|
  s_getI xC2 (by decide) (fun _ _ _ => rfl) fl_X2_24 dX2_advance_161 <|
  s_iconst dX2_advance_164 rfl <|
  s_iadd dX2_advance_165 <|
  s_putI xC2 (by decide) (fun _ _ _ => rfl) rfl rfl fl_X2_24 dX2_advance_166 <|
  s_return dX2_advance_169 rfl) <|
  s_aload_n dX2_advance_141 rfl <|
  s_getR xC2 (by decide) (fun _ _ _ => rfl) fl_X2_9 dX2_advance_142 <|
  s_aload_n dX2_advance_145 rfl <|
  s_getI xC2 (by decide) (fun _ _ _ => rfl) fl_X2_24 dX2_advance_146 <|
  s_iaload dX2_advance_149 <|
  s_goto (t := 156) dX2_advance_150 rfl <|
  s_putI xC2 (by decide) (fun _ _ _ => rfl) rfl rfl fl_X2_45 dX2_advance_156 <|
  s_aload_n dX2_advance_159 rfl <|
  s_dup dX2_advance_160 <|
  s_getI xC2 (by decide) (fun _ _ _ => rfl) fl_X2_24 dX2_advance_161 <|
  s_iconst dX2_advance_164 rfl <|
  s_iadd dX2_advance_165 <|
  s_putI xC2 (by decide) (fun _ _ _ => rfl) rfl rfl fl_X2_24 dX2_advance_166 <|
  s_return dX2_advance_169 rfl) <|
  s_aload_n dX2_advance_118 rfl <|
  s_cV0 ce_X2_takeNumber ml_X2_84 im_X2_takeNumber se_X2_takeNumber xC2 dX2_advance_119 <|
  s_goto (t := 169) dX2_advance_122 rfl <|
  s_return dX2_advance_169 rfl) <|
  s_aload_n dX2_advance_96 rfl <|
  s_cV0 ce_X2_takeWord ml_X2_78 im_X2_takeWord se_X2_takeWord xC2 dX2_advance_97 <|
  s_goto (t := 169) dX2_advance_100 rfl <|
  s_return dX2_advance_169 rfl) <|
  s_aload_n dX2_advance_71 rfl <|
  s_sipush dX2_advance_72 rfl (by decide) <|
  s_putI xC2 (by decide) (fun _ _ _ => rfl) rfl rfl fl_X2_45 dX2_advance_75 <|
  s_goto (t := 169) dX2_advance_78 rfl <|
  s_return dX2_advance_169 rfl
-- X2_advance: cuts [0, 52]
def k_X2_takeWord_0 (d : Nat) (Q : xV → xMem → Prop) : xP :=
  x_aload 0 <|
  x_getI 2 2 <|
  x_aload 0 <|
  x_getI 2 1 <|
  x_c2 (fun x y => y ≤ x) (
  x_aload 0 <|
  x_push (vi 257) <|
  x_putI 2 3 <|
  x_push (vi 0) <|
  x_istore 1 <|
  (xJ M_X2_takeWord (d + 1) 48 Q)) <|
  x_aload 0 <|
  x_getR 2 0 <|
  x_aload 0 <|
  x_getI 2 2 <|
  x_iaload <|
  x_cS1 M_X2_isLetter d <|
  x_c1 (fun x => x = 0) (
  x_aload 0 <|
  x_push (vi 257) <|
  x_putI 2 3 <|
  x_push (vi 0) <|
  x_istore 1 <|
  (xJ M_X2_takeWord (d + 1) 48 Q)) <|
  x_aload 0 <|
  x_dup <|
  x_getI 2 2 <|
  x_push (vi 1) <|
  x_bin oadd <|
  x_putI 2 2 <|
  (xJ M_X2_takeWord (d + 1) 0 Q)
set_option maxRecDepth 100000 in
theorem b_X2_takeWord_0 {d : Nat} {Q : xV → xMem → Prop} : Snd M_X2_takeWord (d + 1) 0 Q (k_X2_takeWord_0 d Q) :=
  s_aload_n dX2_takeWord_0 rfl <|
  s_getI xC2 (by decide) (fun _ _ _ => rfl) fl_X2_24 dX2_takeWord_1 <|
  s_aload_n dX2_takeWord_4 rfl <|
  s_getI xC2 (by decide) (fun _ _ _ => rfl) fl_X2_15 dX2_takeWord_5 <|
  s_icmp_ge (t := 39) dX2_takeWord_8 rfl (
  s_aload_n dX2_takeWord_39 rfl <|
  s_sipush dX2_takeWord_40 rfl (by decide) <|
  s_putI xC2 (by decide) (fun _ _ _ => rfl) rfl rfl fl_X2_45 dX2_takeWord_43 <|
  s_iconst dX2_takeWord_46 rfl <|
  s_istore_n dX2_takeWord_47 rfl (by decide) <|
  s_J) <|
  s_aload_n dX2_takeWord_11 rfl <|
  s_getR xC2 (by decide) (fun _ _ _ => rfl) fl_X2_9 dX2_takeWord_12 <|
  s_aload_n dX2_takeWord_15 rfl <|
  s_getI xC2 (by decide) (fun _ _ _ => rfl) fl_X2_24 dX2_takeWord_16 <|
  s_iaload dX2_takeWord_19 <|
  s_cS1 ce_X2_isLetter ml_X2_75 sm_X2_isLetter dX2_takeWord_20 <|
  s_if_eq (t := 39) dX2_takeWord_23 rfl (
  s_aload_n dX2_takeWord_39 rfl <|
  s_sipush dX2_takeWord_40 rfl (by decide) <|
  s_putI xC2 (by decide) (fun _ _ _ => rfl) rfl rfl fl_X2_45 dX2_takeWord_43 <|
  s_iconst dX2_takeWord_46 rfl <|
  s_istore_n dX2_takeWord_47 rfl (by decide) <|
  s_J) <|
  s_aload_n dX2_takeWord_26 rfl <|
  s_dup dX2_takeWord_27 <|
  s_getI xC2 (by decide) (fun _ _ _ => rfl) fl_X2_24 dX2_takeWord_28 <|
  s_iconst dX2_takeWord_31 rfl <|
  s_iadd dX2_takeWord_32 <|
  s_putI xC2 (by decide) (fun _ _ _ => rfl) rfl rfl fl_X2_24 dX2_takeWord_33 <|
  s_goto (t := 0) dX2_takeWord_36 rfl <|
  s_J
def k_X2_takeWord_48 (d : Nat) (Q : xV → xMem → Prop) : xP :=
  x_iload 1 <|
  x_push (vi 12) <|
  x_c2 (fun x y => y ≤ x) (
  x_vret Q) <|
  x_aload 0 <|
  x_iload 1 <|
  x_cS1 M_X2_wordOf d <|
  x_cV1 M_X2_isHere d 2 <|
  x_c1 (fun x => x = 0) (
  x_iinc 1 1 <|
  (xJ M_X2_takeWord (d + 1) 48 Q)) <|
  x_aload 0 <|
  x_push (vi 260) <|
  x_iload 1 <|
  x_bin oadd <|
  x_putI 2 3 <|
  x_iinc 1 1 <|
  (xJ M_X2_takeWord (d + 1) 48 Q)
set_option maxRecDepth 100000 in
theorem b_X2_takeWord_48 {d : Nat} {Q : xV → xMem → Prop} : Snd M_X2_takeWord (d + 1) 48 Q (k_X2_takeWord_48 d Q) :=
  s_iload_n dX2_takeWord_48 rfl <|
  s_bipush dX2_takeWord_49 rfl (by decide) <|
  s_icmp_ge (t := 80) dX2_takeWord_51 rfl (
  s_return dX2_takeWord_80 rfl) <|
  s_aload_n dX2_takeWord_54 rfl <|
  s_iload_n dX2_takeWord_55 rfl <|
  s_cS1 ce_X2_wordOf ml_X2_90 sm_X2_wordOf dX2_takeWord_56 <|
  s_cV1 ce_X2_isHere ml_X2_94 im_X2_isHere se_X2_isHere xC2 dX2_takeWord_59 <|
  s_if_eq (t := 74) dX2_takeWord_62 rfl (
  s_iinc dX2_takeWord_74 (by decide) <|
  s_goto (t := 48) dX2_takeWord_77 rfl <|
  s_J) <|
  s_aload_n dX2_takeWord_65 rfl <|
  s_sipush dX2_takeWord_66 rfl (by decide) <|
  s_iload_n dX2_takeWord_69 rfl <|
  s_iadd dX2_takeWord_70 <|
  s_putI xC2 (by decide) (fun _ _ _ => rfl) rfl rfl fl_X2_45 dX2_takeWord_71 <|
  s_iinc dX2_takeWord_74 (by decide) <|
  s_goto (t := 48) dX2_takeWord_77 rfl <|
  s_J
-- X2_takeWord: cuts [0, 48]
def k_X2_takeNumber_0 (d : Nat) (Q : xV → xMem → Prop) : xP :=
  x_aload 0 <|
  x_push (vi 0) <|
  x_putI 2 5 <|
  (xJ M_X2_takeNumber (d + 1) 5 Q)
set_option maxRecDepth 100000 in
theorem b_X2_takeNumber_0 {d : Nat} {Q : xV → xMem → Prop} : Snd M_X2_takeNumber (d + 1) 0 Q (k_X2_takeNumber_0 d Q) :=
  s_aload_n dX2_takeNumber_0 rfl <|
  s_iconst dX2_takeNumber_1 rfl <|
  s_putI xC2 (by decide) (fun _ _ _ => rfl) rfl rfl fl_X2_72 dX2_takeNumber_2 <|
  s_J
def k_X2_takeNumber_5 (d : Nat) (Q : xV → xMem → Prop) : xP :=
  x_aload 0 <|
  x_getI 2 2 <|
  x_aload 0 <|
  x_getI 2 1 <|
  x_c2 (fun x y => y ≤ x) (
  (xJ M_X2_takeNumber (d + 1) 68 Q)) <|
  x_aload 0 <|
  x_getR 2 0 <|
  x_aload 0 <|
  x_getI 2 2 <|
  x_iaload <|
  x_cS1 M_X2_isDigit d <|
  x_c1 (fun x => x = 0) (
  (xJ M_X2_takeNumber (d + 1) 68 Q)) <|
  x_aload 0 <|
  x_aload 0 <|
  x_getI 2 5 <|
  x_push (vi 10) <|
  x_bin omul <|
  x_aload 0 <|
  x_getR 2 0 <|
  x_aload 0 <|
  x_getI 2 2 <|
  x_iaload <|
  x_bin oadd <|
  x_push (vi 48) <|
  x_bin osub <|
  x_putI 2 5 <|
  x_aload 0 <|
  x_dup <|
  x_getI 2 2 <|
  x_push (vi 1) <|
  x_bin oadd <|
  x_putI 2 2 <|
  (xJ M_X2_takeNumber (d + 1) 5 Q)
set_option maxRecDepth 100000 in
theorem b_X2_takeNumber_5 {d : Nat} {Q : xV → xMem → Prop} : Snd M_X2_takeNumber (d + 1) 5 Q (k_X2_takeNumber_5 d Q) :=
  s_aload_n dX2_takeNumber_5 rfl <|
  s_getI xC2 (by decide) (fun _ _ _ => rfl) fl_X2_24 dX2_takeNumber_6 <|
  s_aload_n dX2_takeNumber_9 rfl <|
  s_getI xC2 (by decide) (fun _ _ _ => rfl) fl_X2_15 dX2_takeNumber_10 <|
  s_icmp_ge (t := 68) dX2_takeNumber_13 rfl (
  s_J) <|
  s_aload_n dX2_takeNumber_16 rfl <|
  s_getR xC2 (by decide) (fun _ _ _ => rfl) fl_X2_9 dX2_takeNumber_17 <|
  s_aload_n dX2_takeNumber_20 rfl <|
  s_getI xC2 (by decide) (fun _ _ _ => rfl) fl_X2_24 dX2_takeNumber_21 <|
  s_iaload dX2_takeNumber_24 <|
  s_cS1 ce_X2_isDigit ml_X2_81 sm_X2_isDigit dX2_takeNumber_25 <|
  s_if_eq (t := 68) dX2_takeNumber_28 rfl (
  s_J) <|
  s_aload_n dX2_takeNumber_31 rfl <|
  s_aload_n dX2_takeNumber_32 rfl <|
  s_getI xC2 (by decide) (fun _ _ _ => rfl) fl_X2_72 dX2_takeNumber_33 <|
  s_bipush dX2_takeNumber_36 rfl (by decide) <|
  s_imul dX2_takeNumber_38 <|
  s_aload_n dX2_takeNumber_39 rfl <|
  s_getR xC2 (by decide) (fun _ _ _ => rfl) fl_X2_9 dX2_takeNumber_40 <|
  s_aload_n dX2_takeNumber_43 rfl <|
  s_getI xC2 (by decide) (fun _ _ _ => rfl) fl_X2_24 dX2_takeNumber_44 <|
  s_iaload dX2_takeNumber_47 <|
  s_iadd dX2_takeNumber_48 <|
  s_bipush dX2_takeNumber_49 rfl (by decide) <|
  s_isub dX2_takeNumber_51 <|
  s_putI xC2 (by decide) (fun _ _ _ => rfl) rfl rfl fl_X2_72 dX2_takeNumber_52 <|
  s_aload_n dX2_takeNumber_55 rfl <|
  s_dup dX2_takeNumber_56 <|
  s_getI xC2 (by decide) (fun _ _ _ => rfl) fl_X2_24 dX2_takeNumber_57 <|
  s_iconst dX2_takeNumber_60 rfl <|
  s_iadd dX2_takeNumber_61 <|
  s_putI xC2 (by decide) (fun _ _ _ => rfl) rfl rfl fl_X2_24 dX2_takeNumber_62 <|
  s_goto (t := 5) dX2_takeNumber_65 rfl <|
  s_J
def k_X2_takeNumber_68 (d : Nat) (Q : xV → xMem → Prop) : xP :=
  x_aload 0 <|
  x_aload 0 <|
  x_getI 2 2 <|
  x_aload 0 <|
  x_getI 2 4 <|
  x_bin osub <|
  x_push (vi 4) <|
  x_c2 (fun x y => x ≤ y) (
  x_push (vi 258) <|
  x_putI 2 3 <|
  x_vret Q) <|
  x_push (vi 257) <|
  x_putI 2 3 <|
  x_vret Q
set_option maxRecDepth 100000 in
theorem b_X2_takeNumber_68 {d : Nat} {Q : xV → xMem → Prop} : Snd M_X2_takeNumber (d + 1) 68 Q (k_X2_takeNumber_68 d Q) :=
  s_aload_n dX2_takeNumber_68 rfl <|
  s_aload_n dX2_takeNumber_69 rfl <|
  s_getI xC2 (by decide) (fun _ _ _ => rfl) fl_X2_24 dX2_takeNumber_70 <|
  s_aload_n dX2_takeNumber_73 rfl <|
  s_getI xC2 (by decide) (fun _ _ _ => rfl) fl_X2_38 dX2_takeNumber_74 <|
  s_isub dX2_takeNumber_77 <|
  s_iconst dX2_takeNumber_78 rfl <|
  s_icmp_le (t := 88) dX2_takeNumber_79 rfl (
  s_sipush dX2_takeNumber_88 rfl (by decide) <|
  s_putI xC2 (by decide) (fun _ _ _ => rfl) rfl rfl fl_X2_45 dX2_takeNumber_91 <|
  s_return dX2_takeNumber_94 rfl) <|
  s_sipush dX2_takeNumber_82 rfl (by decide) <|
  s_goto (t := 91) dX2_takeNumber_85 rfl <|
  s_putI xC2 (by decide) (fun _ _ _ => rfl) rfl rfl fl_X2_45 dX2_takeNumber_91 <|
  s_return dX2_takeNumber_94 rfl
-- X2_takeNumber: cuts [0, 5, 68]
def k_X2_isLetter_0 (d : Nat) (Q : xV → xMem → Prop) : xP :=
  x_iload 0 <|
  x_push (vi 97) <|
  x_c2 (fun x y => x < y) (
  x_push (vi 0) <|
  x_zret Q) <|
  x_iload 0 <|
  x_push (vi 122) <|
  x_c2 (fun x y => y < x) (
  x_push (vi 0) <|
  x_zret Q) <|
  x_push (vi 1) <|
  x_zret Q
set_option maxRecDepth 100000 in
theorem b_X2_isLetter_0 {d : Nat} {Q : xV → xMem → Prop} : Snd M_X2_isLetter (d + 1) 0 Q (k_X2_isLetter_0 d Q) :=
  s_iload_n dX2_isLetter_0 rfl <|
  s_bipush dX2_isLetter_1 rfl (by decide) <|
  s_icmp_lt (t := 16) dX2_isLetter_3 rfl (
  s_iconst dX2_isLetter_16 rfl <|
  s_zreturn dX2_isLetter_17 rfl) <|
  s_iload_n dX2_isLetter_6 rfl <|
  s_bipush dX2_isLetter_7 rfl (by decide) <|
  s_icmp_gt (t := 16) dX2_isLetter_9 rfl (
  s_iconst dX2_isLetter_16 rfl <|
  s_zreturn dX2_isLetter_17 rfl) <|
  s_iconst dX2_isLetter_12 rfl <|
  s_goto (t := 17) dX2_isLetter_13 rfl <|
  s_zreturn dX2_isLetter_17 rfl
-- X2_isLetter: cuts [0]
def k_X2_isDigit_0 (d : Nat) (Q : xV → xMem → Prop) : xP :=
  x_iload 0 <|
  x_push (vi 48) <|
  x_c2 (fun x y => x < y) (
  x_push (vi 0) <|
  x_zret Q) <|
  x_iload 0 <|
  x_push (vi 57) <|
  x_c2 (fun x y => y < x) (
  x_push (vi 0) <|
  x_zret Q) <|
  x_push (vi 1) <|
  x_zret Q
set_option maxRecDepth 100000 in
theorem b_X2_isDigit_0 {d : Nat} {Q : xV → xMem → Prop} : Snd M_X2_isDigit (d + 1) 0 Q (k_X2_isDigit_0 d Q) :=
  s_iload_n dX2_isDigit_0 rfl <|
  s_bipush dX2_isDigit_1 rfl (by decide) <|
  s_icmp_lt (t := 16) dX2_isDigit_3 rfl (
  s_iconst dX2_isDigit_16 rfl <|
  s_zreturn dX2_isDigit_17 rfl) <|
  s_iload_n dX2_isDigit_6 rfl <|
  s_bipush dX2_isDigit_7 rfl (by decide) <|
  s_icmp_gt (t := 16) dX2_isDigit_9 rfl (
  s_iconst dX2_isDigit_16 rfl <|
  s_zreturn dX2_isDigit_17 rfl) <|
  s_iconst dX2_isDigit_12 rfl <|
  s_goto (t := 17) dX2_isDigit_13 rfl <|
  s_zreturn dX2_isDigit_17 rfl
-- X2_isDigit: cuts [0]
def k_X2_isSign_0 (d : Nat) (Q : xV → xMem → Prop) : xP :=
  x_iload 0 <|
  x_tsw 40 [
  x_push (vi 1) <|
  x_zret Q,
  x_push (vi 1) <|
  x_zret Q,
  x_push (vi 1) <|
  x_zret Q,
  x_push (vi 1) <|
  x_zret Q,
  x_push (vi 0) <|
  x_zret Q,
  x_push (vi 1) <|
  x_zret Q,
  x_push (vi 0) <|
  x_zret Q,
  x_push (vi 0) <|
  x_zret Q,
  x_push (vi 0) <|
  x_zret Q,
  x_push (vi 0) <|
  x_zret Q,
  x_push (vi 0) <|
  x_zret Q,
  x_push (vi 0) <|
  x_zret Q,
  x_push (vi 0) <|
  x_zret Q,
  x_push (vi 0) <|
  x_zret Q,
  x_push (vi 0) <|
  x_zret Q,
  x_push (vi 0) <|
  x_zret Q,
  x_push (vi 0) <|
  x_zret Q,
  x_push (vi 0) <|
  x_zret Q,
  x_push (vi 0) <|
  x_zret Q,
  x_push (vi 1) <|
  x_zret Q,
  x_push (vi 1) <|
  x_zret Q,
  x_push (vi 1) <|
  x_zret Q] (
  x_push (vi 0) <|
  x_zret Q)
set_option maxRecDepth 100000 in
theorem b_X2_isSign_0 {d : Nat} {Q : xV → xMem → Prop} : Snd M_X2_isSign (d + 1) 0 Q (k_X2_isSign_0 d Q) :=
  s_iload_n dX2_isSign_0 rfl <|
  s_tsw (t := 106) (offs := [103, 103, 103, 103, 105, 103, 105, 105, 105, 105, 105, 105, 105, 105, 105, 105, 105, 105, 105, 103, 103, 103]) dX2_isSign_1 rfl rfl (
  s_iconst dX2_isSign_106 rfl <|
  s_zreturn dX2_isSign_107 rfl) ⟨⟨104, rfl, s_iconst dX2_isSign_104 rfl <|
  s_zreturn dX2_isSign_105 rfl⟩, ⟨⟨104, rfl, s_iconst dX2_isSign_104 rfl <|
  s_zreturn dX2_isSign_105 rfl⟩, ⟨⟨104, rfl, s_iconst dX2_isSign_104 rfl <|
  s_zreturn dX2_isSign_105 rfl⟩, ⟨⟨104, rfl, s_iconst dX2_isSign_104 rfl <|
  s_zreturn dX2_isSign_105 rfl⟩, ⟨⟨106, rfl, s_iconst dX2_isSign_106 rfl <|
  s_zreturn dX2_isSign_107 rfl⟩, ⟨⟨104, rfl, s_iconst dX2_isSign_104 rfl <|
  s_zreturn dX2_isSign_105 rfl⟩, ⟨⟨106, rfl, s_iconst dX2_isSign_106 rfl <|
  s_zreturn dX2_isSign_107 rfl⟩, ⟨⟨106, rfl, s_iconst dX2_isSign_106 rfl <|
  s_zreturn dX2_isSign_107 rfl⟩, ⟨⟨106, rfl, s_iconst dX2_isSign_106 rfl <|
  s_zreturn dX2_isSign_107 rfl⟩, ⟨⟨106, rfl, s_iconst dX2_isSign_106 rfl <|
  s_zreturn dX2_isSign_107 rfl⟩, ⟨⟨106, rfl, s_iconst dX2_isSign_106 rfl <|
  s_zreturn dX2_isSign_107 rfl⟩, ⟨⟨106, rfl, s_iconst dX2_isSign_106 rfl <|
  s_zreturn dX2_isSign_107 rfl⟩, ⟨⟨106, rfl, s_iconst dX2_isSign_106 rfl <|
  s_zreturn dX2_isSign_107 rfl⟩, ⟨⟨106, rfl, s_iconst dX2_isSign_106 rfl <|
  s_zreturn dX2_isSign_107 rfl⟩, ⟨⟨106, rfl, s_iconst dX2_isSign_106 rfl <|
  s_zreturn dX2_isSign_107 rfl⟩, ⟨⟨106, rfl, s_iconst dX2_isSign_106 rfl <|
  s_zreturn dX2_isSign_107 rfl⟩, ⟨⟨106, rfl, s_iconst dX2_isSign_106 rfl <|
  s_zreturn dX2_isSign_107 rfl⟩, ⟨⟨106, rfl, s_iconst dX2_isSign_106 rfl <|
  s_zreturn dX2_isSign_107 rfl⟩, ⟨⟨106, rfl, s_iconst dX2_isSign_106 rfl <|
  s_zreturn dX2_isSign_107 rfl⟩, ⟨⟨104, rfl, s_iconst dX2_isSign_104 rfl <|
  s_zreturn dX2_isSign_105 rfl⟩, ⟨⟨104, rfl, s_iconst dX2_isSign_104 rfl <|
  s_zreturn dX2_isSign_105 rfl⟩, ⟨⟨104, rfl, s_iconst dX2_isSign_104 rfl <|
  s_zreturn dX2_isSign_105 rfl⟩, trivial⟩⟩⟩⟩⟩⟩⟩⟩⟩⟩⟩⟩⟩⟩⟩⟩⟩⟩⟩⟩⟩⟩
-- X2_isSign: cuts [0]
