/-! code of methods as trees of pure instructions: printed by wip/whole/gen.py -/
def k_J0_length_8abf5_0 (d : Nat) (Q : xV → xMem → Prop) : xP :=
  x_aload 0 <|
  x_getSv <|
  x_alenS <|
  x_aload 0 <|
  x_cW0 M_J0_coder_7d493 d <|
  x_bin oshr <|
  x_ret Q
set_option maxRecDepth 100000 in
theorem b_J0_length_8abf5_0 {d : Nat} {Q : xV → xMem → Prop} : Snd M_J0_length_8abf5 (d + 1) 0 Q (k_J0_length_8abf5_0 d Q) :=
  s_aload_n dJ0_length_8abf5_0 rfl <|
  s_getSv fl_J0_9 dJ0_length_8abf5_1 <|
  s_alenS dJ0_length_8abf5_4 <|
  s_aload_n dJ0_length_8abf5_5 rfl <|
  s_cW0 ce_J0_coder_7d493 ml_J0_335 im_J0_coder_7d493 se_J0_coder_7d493 rfl dJ0_length_8abf5_6 <|
  s_ishr dJ0_length_8abf5_9 <|
  s_ireturn dJ0_length_8abf5_10 rfl
-- J0_length_8abf5: cuts [0]
def k_J0_coder_7d493_0 (d : Nat) (Q : xV → xMem → Prop) : xP :=
  x_push (vi 1) <|
  x_c1 (fun x => x = 0) (
  x_push (vi 1) <|
  x_bret Q) <|
  x_aload 0 <|
  x_getSc <|
  x_bret Q
set_option maxRecDepth 100000 in
theorem b_J0_coder_7d493_0 {d : Nat} {Q : xV → xMem → Prop} : Snd M_J0_coder_7d493 (d + 1) 0 Q (k_J0_coder_7d493_0 d Q) :=
  s_compact fl_J0_38 dJ0_coder_7d493_0 <|
  s_if_eq (t := 13) dJ0_coder_7d493_3 rfl (
  s_iconst dJ0_coder_7d493_13 rfl <|
  s_bret dJ0_coder_7d493_14 rfl (Or.inr rfl)) <|
  s_aload_n dJ0_coder_7d493_6 rfl <|
  s_getSc fl_J0_15 dJ0_coder_7d493_7 <|
  s_goto (t := 14) dJ0_coder_7d493_10 rfl <|
  s_bret dJ0_coder_7d493_14 rfl (Or.inr rfl)
-- J0_coder_7d493: cuts [0]
def k_J0_charAt_5068e_0 (d : Nat) (Q : xV → xMem → Prop) : xP :=
  x_aload 0 <|
  x_cW0 M_J0_isLatin1_aae02 d <|
  x_c1 (fun x => x = 0) (
  x_no) <|
  x_aload 0 <|
  x_getSv <|
  x_iload 1 <|
  x_cS2 M_J1_charAt_3b067 d <|
  x_bret Q
set_option maxRecDepth 100000 in
theorem b_J0_charAt_5068e_0 {d : Nat} {Q : xV → xMem → Prop} : Snd M_J0_charAt_5068e (d + 1) 0 Q (k_J0_charAt_5068e_0 d Q) :=
  s_aload_n dJ0_charAt_5068e_0 rfl <|
  s_cW0 ce_J0_isLatin1_aae02 ml_J0_492 im_J0_isLatin1_aae02 se_J0_isLatin1_aae02 rfl dJ0_charAt_5068e_1 <|
  s_if_eq (t := 16) dJ0_charAt_5068e_4 rfl (
  s_no) <|
  s_aload_n dJ0_charAt_5068e_7 rfl <|
  s_getSv fl_J0_9 dJ0_charAt_5068e_8 <|
  s_iload_n dJ0_charAt_5068e_11 rfl <|
  s_cS2 ce_J1_charAt_3b067 ml_J0_495 sm_J1_charAt_3b067 dJ0_charAt_5068e_12 <|
  s_bret dJ0_charAt_5068e_15 rfl (Or.inl rfl)
-- J0_charAt_5068e: cuts [0]
def k_J0_isLatin1_aae02_0 (d : Nat) (Q : xV → xMem → Prop) : xP :=
  x_push (vi 1) <|
  x_c1 (fun x => x = 0) (
  x_push (vi 0) <|
  x_zret Q) <|
  x_aload 0 <|
  x_getSc <|
  x_c1 (fun x => ¬ x = 0) (
  x_push (vi 0) <|
  x_zret Q) <|
  x_push (vi 1) <|
  x_zret Q
set_option maxRecDepth 100000 in
theorem b_J0_isLatin1_aae02_0 {d : Nat} {Q : xV → xMem → Prop} : Snd M_J0_isLatin1_aae02 (d + 1) 0 Q (k_J0_isLatin1_aae02_0 d Q) :=
  s_compact fl_J0_38 dJ0_isLatin1_aae02_0 <|
  s_if_eq (t := 17) dJ0_isLatin1_aae02_3 rfl (
  s_iconst dJ0_isLatin1_aae02_17 rfl <|
  s_zreturn dJ0_isLatin1_aae02_18 rfl) <|
  s_aload_n dJ0_isLatin1_aae02_6 rfl <|
  s_getSc fl_J0_15 dJ0_isLatin1_aae02_7 <|
  s_if_ne (t := 17) dJ0_isLatin1_aae02_10 rfl (
  s_iconst dJ0_isLatin1_aae02_17 rfl <|
  s_zreturn dJ0_isLatin1_aae02_18 rfl) <|
  s_iconst dJ0_isLatin1_aae02_13 rfl <|
  s_goto (t := 18) dJ0_isLatin1_aae02_14 rfl <|
  s_zreturn dJ0_isLatin1_aae02_18 rfl
-- J0_isLatin1_aae02: cuts [0]
def k_J0_checkIndex_df160_0 (d : Nat) (Q : xV → xMem → Prop) : xP :=
  x_iload 0 <|
  x_iload 1 <|
  x_sio <|
  x_cS3 M_J3_checkIndex_8e157 d <|
  x_pop <|
  x_vret Q
set_option maxRecDepth 100000 in
theorem b_J0_checkIndex_df160_0 {d : Nat} {Q : xV → xMem → Prop} : Snd M_J0_checkIndex_df160 (d + 1) 0 Q (k_J0_checkIndex_df160_0 d Q) :=
  s_iload_n dJ0_checkIndex_df160_0 rfl <|
  s_iload_n dJ0_checkIndex_df160_1 rfl <|
  s_sioobe fl_J0_1053 dJ0_checkIndex_df160_2 <|
  s_cS3 ce_J3_checkIndex_8e157 ml_J0_1059 sm_J3_checkIndex_8e157 dJ0_checkIndex_df160_5 <|
  s_pop dJ0_checkIndex_df160_8 <|
  s_return dJ0_checkIndex_df160_9 rfl
-- J0_checkIndex_df160: cuts [0]
def k_J1_charAt_3b067_0 (d : Nat) (Q : xV → xMem → Prop) : xP :=
  x_iload 1 <|
  x_aload 0 <|
  x_alenS <|
  x_cS2 M_J0_checkIndex_df160 d <|
  x_aload 0 <|
  x_iload 1 <|
  x_baloadS <|
  x_push (vi 255) <|
  x_bin oand <|
  x_i2c <|
  x_bret Q
set_option maxRecDepth 100000 in
theorem b_J1_charAt_3b067_0 {d : Nat} {Q : xV → xMem → Prop} : Snd M_J1_charAt_3b067 (d + 1) 0 Q (k_J1_charAt_3b067_0 d Q) :=
  s_iload_n dJ1_charAt_3b067_0 rfl <|
  s_aload_n dJ1_charAt_3b067_1 rfl <|
  s_alenS dJ1_charAt_3b067_2 <|
  s_cS2 ce_J0_checkIndex_df160 ml_J1_9 sm_J0_checkIndex_df160 dJ1_charAt_3b067_3 <|
  s_aload_n dJ1_charAt_3b067_6 rfl <|
  s_iload_n dJ1_charAt_3b067_7 rfl <|
  s_baloadS dJ1_charAt_3b067_8 <|
  s_sipush dJ1_charAt_3b067_9 rfl (by decide) <|
  s_iand dJ1_charAt_3b067_12 <|
  s_i2c dJ1_charAt_3b067_13 <|
  s_bret dJ1_charAt_3b067_14 rfl (Or.inl rfl)
-- J1_charAt_3b067: cuts [0]
def k_J3_checkIndex_8e157_0 (d : Nat) (Q : xV → xMem → Prop) : xP :=
  x_iload 0 <|
  x_c1 (fun x => x < 0) (
  x_no) <|
  x_iload 0 <|
  x_iload 1 <|
  x_c2 (fun x y => x < y) (
  x_iload 0 <|
  x_ret Q) <|
  x_no
set_option maxRecDepth 100000 in
theorem b_J3_checkIndex_8e157_0 {d : Nat} {Q : xV → xMem → Prop} : Snd M_J3_checkIndex_8e157 (d + 1) 0 Q (k_J3_checkIndex_8e157_0 d Q) :=
  s_iload_n dJ3_checkIndex_8e157_0 rfl <|
  s_if_lt (t := 9) dJ3_checkIndex_8e157_1 rfl (
  s_no) <|
  s_iload_n dJ3_checkIndex_8e157_4 rfl <|
  s_iload_n dJ3_checkIndex_8e157_5 rfl <|
  s_icmp_lt (t := 16) dJ3_checkIndex_8e157_6 rfl (
  s_iload_n dJ3_checkIndex_8e157_16 rfl <|
  s_ireturn dJ3_checkIndex_8e157_17 rfl) <|
  s_no
-- J3_checkIndex_8e157: cuts [0]
def k_X2_isHere_0 (d : Nat) (Q : xV → xMem → Prop) : xP :=
  x_aload 1 <|
  x_cW0 M_J0_length_8abf5 d <|
  x_aload 0 <|
  x_getI 2 2 <|
  x_aload 0 <|
  x_getI 2 4 <|
  x_bin osub <|
  x_c2 (fun x y => x = y) (
  x_push (vi 0) <|
  x_istore 2 <|
  (xJ M_X2_isHere (d + 1) 20 Q)) <|
  x_push (vi 0) <|
  x_zret Q
set_option maxRecDepth 100000 in
theorem b_X2_isHere_0 {d : Nat} {Q : xV → xMem → Prop} : Snd M_X2_isHere (d + 1) 0 Q (k_X2_isHere_0 d Q) :=
  s_aload_n dX2_isHere_0 rfl <|
  s_cW0 ce_J0_length_8abf5 ml_X2_98 im_J0_length_8abf5 se_J0_length_8abf5 rfl dX2_isHere_1 <|
  s_aload_n dX2_isHere_4 rfl <|
  s_getI xC2 (by decide) (fun _ _ _ => rfl) fl_X2_24 dX2_isHere_5 <|
  s_aload_n dX2_isHere_8 rfl <|
  s_getI xC2 (by decide) (fun _ _ _ => rfl) fl_X2_38 dX2_isHere_9 <|
  s_isub dX2_isHere_12 <|
  s_icmp_eq (t := 18) dX2_isHere_13 rfl (
  s_iconst dX2_isHere_18 rfl <|
  s_istore_n dX2_isHere_19 rfl (by decide) <|
  s_J) <|
  s_iconst dX2_isHere_16 rfl <|
  s_zreturn dX2_isHere_17 rfl
def k_X2_isHere_20 (d : Nat) (Q : xV → xMem → Prop) : xP :=
  x_iload 2 <|
  x_aload 1 <|
  x_cW0 M_J0_length_8abf5 d <|
  x_c2 (fun x y => y ≤ x) (
  x_push (vi 1) <|
  x_zret Q) <|
  x_aload 0 <|
  x_getI 2 4 <|
  x_iload 2 <|
  x_bin oadd <|
  x_aload 0 <|
  x_getI 2 1 <|
  x_c2 (fun x y => y ≤ x) (
  x_push (vi 1) <|
  x_zret Q) <|
  x_aload 1 <|
  x_iload 2 <|
  x_cW1 M_J0_charAt_5068e d <|
  x_aload 0 <|
  x_getR 2 0 <|
  x_aload 0 <|
  x_getI 2 4 <|
  x_iload 2 <|
  x_bin oadd <|
  x_iaload <|
  x_c2 (fun x y => x = y) (
  x_iinc 2 1 <|
  (xJ M_X2_isHere (d + 1) 20 Q)) <|
  x_push (vi 0) <|
  x_zret Q
set_option maxRecDepth 100000 in
theorem b_X2_isHere_20 {d : Nat} {Q : xV → xMem → Prop} : Snd M_X2_isHere (d + 1) 20 Q (k_X2_isHere_20 d Q) :=
  s_iload_n dX2_isHere_20 rfl <|
  s_aload_n dX2_isHere_21 rfl <|
  s_cW0 ce_J0_length_8abf5 ml_X2_98 im_J0_length_8abf5 se_J0_length_8abf5 rfl dX2_isHere_22 <|
  s_icmp_ge (t := 68) dX2_isHere_25 rfl (
  s_iconst dX2_isHere_68 rfl <|
  s_zreturn dX2_isHere_69 rfl) <|
  s_aload_n dX2_isHere_28 rfl <|
  s_getI xC2 (by decide) (fun _ _ _ => rfl) fl_X2_38 dX2_isHere_29 <|
  s_iload_n dX2_isHere_32 rfl <|
  s_iadd dX2_isHere_33 <|
  s_aload_n dX2_isHere_34 rfl <|
  s_getI xC2 (by decide) (fun _ _ _ => rfl) fl_X2_15 dX2_isHere_35 <|
  s_icmp_ge (t := 68) dX2_isHere_38 rfl (
  s_iconst dX2_isHere_68 rfl <|
  s_zreturn dX2_isHere_69 rfl) <|
  s_aload_n dX2_isHere_41 rfl <|
  s_iload_n dX2_isHere_42 rfl <|
  s_cW1 ce_J0_charAt_5068e ml_X2_104 im_J0_charAt_5068e se_J0_charAt_5068e rfl dX2_isHere_43 <|
  s_aload_n dX2_isHere_46 rfl <|
  s_getR xC2 (by decide) (fun _ _ _ => rfl) fl_X2_9 dX2_isHere_47 <|
  s_aload_n dX2_isHere_50 rfl <|
  s_getI xC2 (by decide) (fun _ _ _ => rfl) fl_X2_38 dX2_isHere_51 <|
  s_iload_n dX2_isHere_54 rfl <|
  s_iadd dX2_isHere_55 <|
  s_iaload dX2_isHere_56 <|
  s_icmp_eq (t := 62) dX2_isHere_57 rfl (
  s_iinc dX2_isHere_62 (by decide) <|
  s_goto (t := 20) dX2_isHere_65 rfl <|
  s_J) <|
  s_iconst dX2_isHere_60 rfl <|
  s_zreturn dX2_isHere_61 rfl
-- X2_isHere: cuts [0, 20]
