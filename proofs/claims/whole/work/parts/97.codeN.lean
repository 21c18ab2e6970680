/-! code of methods as trees of pure instructions: printed by wip/whole/gen.py -/
def k_X3_init_0 (d : Nat) (Q : xV → xMem → Prop) : xP :=
  x_aload 0 <|
  x_objinit <|
  x_aload 0 <|
  x_push (vi 160) <|
  x_newa .int <|
  x_putR 3 0 <|
  x_aload 0 <|
  x_push (vi 3) <|
  x_newa .int <|
  x_putR 3 1 <|
  x_aload 0 <|
  x_push (vi 32) <|
  x_newa .int <|
  x_putR 3 2 <|
  x_vret Q
set_option maxRecDepth 100000 in
theorem b_X3_init_0 {d : Nat} {Q : xV → xMem → Prop} : Snd M_X3_init (d + 1) 0 Q (k_X3_init_0 d Q) :=
  s_aload_n dX3_init_0 rfl <|
  s_objinit ml_X3_3 oi_im oi_cd dX3_init_1 <|
  s_aload_n dX3_init_4 rfl <|
  s_sipush dX3_init_5 rfl (by decide) <|
  s_newaI ac_int dX3_init_8 <|
  s_putR xC3 (by decide) (fun _ _ _ => rfl) (by decide) rfl rfl rfl fl_X3_9 dX3_init_10 <|
  s_aload_n dX3_init_13 rfl <|
  s_iconst dX3_init_14 rfl <|
  s_newaI ac_int dX3_init_15 <|
  s_putR xC3 (by decide) (fun _ _ _ => rfl) (by decide) rfl rfl rfl fl_X3_15 dX3_init_17 <|
  s_aload_n dX3_init_20 rfl <|
  s_bipush dX3_init_21 rfl (by decide) <|
  s_newaI ac_int dX3_init_23 <|
  s_putR xC3 (by decide) (fun _ _ _ => rfl) (by decide) rfl rfl rfl fl_X3_18 dX3_init_25 <|
  s_return dX3_init_28 rfl
-- X3_init: cuts [0]
def k_X1_init_0 (d : Nat) (Q : xV → xMem → Prop) : xP :=
  x_aload 0 <|
  x_objinit <|
  x_aload 0 <|
  x_push (vi (-1)) <|
  x_putI 1 0 <|
  x_aload 0 <|
  x_push (vi 40) <|
  x_newa .int <|
  x_putR 1 2 <|
  x_vret Q
set_option maxRecDepth 100000 in
theorem b_X1_init_0 {d : Nat} {Q : xV → xMem → Prop} : Snd M_X1_init (d + 1) 0 Q (k_X1_init_0 d Q) :=
  s_aload_n dX1_init_0 rfl <|
  s_objinit ml_X1_3 oi_im oi_cd dX1_init_1 <|
  s_aload_n dX1_init_4 rfl <|
  s_iconst dX1_init_5 rfl <|
  s_putI xC1 (by decide) (fun _ _ _ => rfl) rfl rfl fl_X1_9 dX1_init_6 <|
  s_aload_n dX1_init_9 rfl <|
  s_bipush dX1_init_10 rfl (by decide) <|
  s_newaI ac_int dX1_init_12 <|
  s_putR xC1 (by decide) (fun _ _ _ => rfl) (by decide) rfl rfl rfl fl_X1_15 dX1_init_14 <|
  s_return dX1_init_17 rfl
-- X1_init: cuts [0]
def k_X2_init_0 (d : Nat) (Q : xV → xMem → Prop) : xP :=
  x_aload 0 <|
  x_objinit <|
  x_aload 0 <|
  x_push (vi 160) <|
  x_newa .int <|
  x_putR 2 0 <|
  x_vret Q
set_option maxRecDepth 100000 in
theorem b_X2_init_0 {d : Nat} {Q : xV → xMem → Prop} : Snd M_X2_init (d + 1) 0 Q (k_X2_init_0 d Q) :=
  s_aload_n dX2_init_0 rfl <|
  s_objinit ml_X2_3 oi_im oi_cd dX2_init_1 <|
  s_aload_n dX2_init_4 rfl <|
  s_sipush dX2_init_5 rfl (by decide) <|
  s_newaI ac_int dX2_init_8 <|
  s_putR xC2 (by decide) (fun _ _ _ => rfl) (by decide) rfl rfl rfl fl_X2_9 dX2_init_10 <|
  s_return dX2_init_13 rfl
-- X2_init: cuts [0]
def k_X4_init_0 (d : Nat) (Q : xV → xMem → Prop) : xP :=
  x_aload 0 <|
  x_objinit <|
  x_aload 0 <|
  x_push (vi 1) <|
  x_putI 4 1 <|
  x_aload 0 <|
  x_push (vi 6) <|
  x_newa .int <|
  x_putR 4 5 <|
  x_aload 0 <|
  x_push (vi 6) <|
  x_newa .int <|
  x_putR 4 6 <|
  x_aload 0 <|
  x_push (vi 6) <|
  x_newa .int <|
  x_putR 4 7 <|
  x_aload 0 <|
  x_push (vi 6) <|
  x_newa .int <|
  x_putR 4 8 <|
  x_aload 0 <|
  x_push (vi 5) <|
  x_newa .int <|
  x_putR 4 9 <|
  x_aload 0 <|
  x_push (vi 5) <|
  x_newa .int <|
  x_putR 4 10 <|
  x_aload 0 <|
  x_push (vi 6) <|
  x_newa .int <|
  x_putR 4 11 <|
  x_aload 0 <|
  x_aload 1 <|
  x_putR 4 0 <|
  x_vret Q
set_option maxRecDepth 100000 in
theorem b_X4_init_0 {d : Nat} {Q : xV → xMem → Prop} : Snd M_X4_init (d + 1) 0 Q (k_X4_init_0 d Q) :=
  s_aload_n dX4_init_0 rfl <|
  s_objinit ml_X4_3 oi_im oi_cd dX4_init_1 <|
  s_aload_n dX4_init_4 rfl <|
  s_iconst dX4_init_5 rfl <|
  s_putI xC4 (by decide) (fun _ _ _ => rfl) rfl rfl fl_X4_9 dX4_init_6 <|
  s_aload_n dX4_init_9 rfl <|
  s_bipush dX4_init_10 rfl (by decide) <|
  s_newaI ac_int dX4_init_12 <|
  s_putR xC4 (by decide) (fun _ _ _ => rfl) (by decide) rfl rfl rfl fl_X4_15 dX4_init_14 <|
  s_aload_n dX4_init_17 rfl <|
  s_bipush dX4_init_18 rfl (by decide) <|
  s_newaI ac_int dX4_init_20 <|
  s_putR xC4 (by decide) (fun _ _ _ => rfl) (by decide) rfl rfl rfl fl_X4_19 dX4_init_22 <|
  s_aload_n dX4_init_25 rfl <|
  s_bipush dX4_init_26 rfl (by decide) <|
  s_newaI ac_int dX4_init_28 <|
  s_putR xC4 (by decide) (fun _ _ _ => rfl) (by decide) rfl rfl rfl fl_X4_22 dX4_init_30 <|
  s_aload_n dX4_init_33 rfl <|
  s_bipush dX4_init_34 rfl (by decide) <|
  s_newaI ac_int dX4_init_36 <|
  s_putR xC4 (by decide) (fun _ _ _ => rfl) (by decide) rfl rfl rfl fl_X4_25 dX4_init_38 <|
  s_aload_n dX4_init_41 rfl <|
  s_iconst dX4_init_42 rfl <|
  s_newaI ac_int dX4_init_43 <|
  s_putR xC4 (by decide) (fun _ _ _ => rfl) (by decide) rfl rfl rfl fl_X4_28 dX4_init_45 <|
  s_aload_n dX4_init_48 rfl <|
  s_iconst dX4_init_49 rfl <|
  s_newaI ac_int dX4_init_50 <|
  s_putR xC4 (by decide) (fun _ _ _ => rfl) (by decide) rfl rfl rfl fl_X4_31 dX4_init_52 <|
  s_aload_n dX4_init_55 rfl <|
  s_bipush dX4_init_56 rfl (by decide) <|
  s_newaI ac_int dX4_init_58 <|
  s_putR xC4 (by decide) (fun _ _ _ => rfl) (by decide) rfl rfl rfl fl_X4_34 dX4_init_60 <|
  s_aload_n dX4_init_63 rfl <|
  s_aload_n dX4_init_64 rfl <|
  s_putR xC4 (by decide) (fun _ _ _ => rfl) (by decide) rfl rfl rfl fl_X4_37 dX4_init_65 <|
  s_return dX4_init_68 rfl
-- X4_init: cuts [0]
def k_X0_init_0 (d : Nat) (Q : xV → xMem → Prop) : xP :=
  x_aload 0 <|
  x_objinit <|
  x_aload 0 <|
  x_push (vi 5) <|
  x_push (vi 6) <|
  x_mna <|
  x_putR 0 0 <|
  x_aload 0 <|
  x_push (vi 5) <|
  x_push (vi 6) <|
  x_mna <|
  x_putR 0 1 <|
  x_aload 0 <|
  x_push (vi 5) <|
  x_push (vi 6) <|
  x_mna <|
  x_putR 0 2 <|
  x_aload 0 <|
  x_push (vi 6) <|
  x_newa .int <|
  x_putR 0 3 <|
  x_aload 0 <|
  x_push (vi 6) <|
  x_newa .int <|
  x_putR 0 4 <|
  x_aload 0 <|
  x_push (vi 5) <|
  x_newa .int <|
  x_putR 0 5 <|
  x_aload 0 <|
  x_push (vi 5) <|
  x_newa .int <|
  x_putR 0 6 <|
  x_aload 0 <|
  x_push (vi 6) <|
  x_newa .int <|
  x_putR 0 7 <|
  x_vret Q
set_option maxRecDepth 100000 in
theorem b_X0_init_0 {d : Nat} {Q : xV → xMem → Prop} : Snd M_X0_init (d + 1) 0 Q (k_X0_init_0 d Q) :=
  s_aload_n dX0_init_0 rfl <|
  s_objinit ml_X0_3 oi_im oi_cd dX0_init_1 <|
  s_aload_n dX0_init_4 rfl <|
  s_iconst dX0_init_5 rfl <|
  s_bipush dX0_init_6 rfl (by decide) <|
  s_mna cl_X0_9 ac_int dX0_init_8 <|
  s_putR xC0 (by decide) (fun _ _ _ => rfl) (by decide) rfl rfl rfl fl_X0_11 dX0_init_12 <|
  s_aload_n dX0_init_15 rfl <|
  s_iconst dX0_init_16 rfl <|
  s_bipush dX0_init_17 rfl (by decide) <|
  s_mna cl_X0_9 ac_int dX0_init_19 <|
  s_putR xC0 (by decide) (fun _ _ _ => rfl) (by decide) rfl rfl rfl fl_X0_16 dX0_init_23 <|
  s_aload_n dX0_init_26 rfl <|
  s_iconst dX0_init_27 rfl <|
  s_bipush dX0_init_28 rfl (by decide) <|
  s_mna cl_X0_9 ac_int dX0_init_30 <|
  s_putR xC0 (by decide) (fun _ _ _ => rfl) (by decide) rfl rfl rfl fl_X0_19 dX0_init_34 <|
  s_aload_n dX0_init_37 rfl <|
  s_bipush dX0_init_38 rfl (by decide) <|
  s_newaI ac_int dX0_init_40 <|
  s_putR xC0 (by decide) (fun _ _ _ => rfl) (by decide) rfl rfl rfl fl_X0_22 dX0_init_42 <|
  s_aload_n dX0_init_45 rfl <|
  s_bipush dX0_init_46 rfl (by decide) <|
  s_newaI ac_int dX0_init_48 <|
  s_putR xC0 (by decide) (fun _ _ _ => rfl) (by decide) rfl rfl rfl fl_X0_26 dX0_init_50 <|
  s_aload_n dX0_init_53 rfl <|
  s_iconst dX0_init_54 rfl <|
  s_newaI ac_int dX0_init_55 <|
  s_putR xC0 (by decide) (fun _ _ _ => rfl) (by decide) rfl rfl rfl fl_X0_29 dX0_init_57 <|
  s_aload_n dX0_init_60 rfl <|
  s_iconst dX0_init_61 rfl <|
  s_newaI ac_int dX0_init_62 <|
  s_putR xC0 (by decide) (fun _ _ _ => rfl) (by decide) rfl rfl rfl fl_X0_32 dX0_init_64 <|
  s_aload_n dX0_init_67 rfl <|
  s_bipush dX0_init_68 rfl (by decide) <|
  s_newaI ac_int dX0_init_70 <|
  s_putR xC0 (by decide) (fun _ _ _ => rfl) (by decide) rfl rfl rfl fl_X0_35 dX0_init_72 <|
  s_return dX0_init_75 rfl
-- X0_init: cuts [0]
def k_X5_init_0 (d : Nat) (Q : xV → xMem → Prop) : xP :=
  x_aload 0 <|
  x_objinit <|
  x_aload 0 <|
  x_push (vi 6) <|
  x_newa (.object "CrystalByTheMinute$Text") <|
  x_putR 5 0 <|
  x_aload 0 <|
  x_new 2 <|
  x_dup <|
  x_cI0 M_X2_init d BUD_X2_init <|
  x_putR 5 2 <|
  x_aload 0 <|
  x_new 0 <|
  x_dup <|
  x_cI0 M_X0_init d BUD_X0_init <|
  x_putR 5 7 <|
  x_aload 0 <|
  x_push (vi 4) <|
  x_newa (.object "CrystalByTheMinute$Sheet") <|
  x_putR 5 8 <|
  x_push (vi 0) <|
  x_istore 1 <|
  (xJ M_X5_init (d + 1) 45 Q)
set_option maxRecDepth 100000 in
theorem b_X5_init_0 {d : Nat} {Q : xV → xMem → Prop} : Snd M_X5_init (d + 1) 0 Q (k_X5_init_0 d Q) :=
  s_aload_n dX5_init_0 rfl <|
  s_objinit ml_X5_1 oi_im oi_cd dX5_init_1 <|
  s_aload_n dX5_init_4 rfl <|
  s_bipush dX5_init_5 rfl (by decide) <|
  s_newq cl_X5_9 ao_X5_9 dX5_init_7 <|
  s_putR xC5 (by decide) (fun _ _ _ => rfl) (by decide) rfl rfl rfl fl_X5_11 dX5_init_10 <|
  s_aload_n dX5_init_13 rfl <|
  s_new xC2 (by decide) cl_X5_15 it_X2 in_X2 dX5_init_14 <|
  s_dup dX5_init_17 <|
  s_cN0 ce_X2_init rfl rfl nl_X5_17 im_X2_init dX5_init_18 <|
  s_putR xC5 (by decide) (fun _ _ _ => rfl) (by decide) rfl rfl rfl fl_X5_18 dX5_init_21 <|
  s_aload_n dX5_init_24 rfl <|
  s_new xC0 (by decide) cl_X5_22 it_X0 in_X0 dX5_init_25 <|
  s_dup dX5_init_28 <|
  s_cN0 ce_X0_init rfl rfl nl_X5_24 im_X0_init dX5_init_29 <|
  s_putR xC5 (by decide) (fun _ _ _ => rfl) (by decide) rfl rfl rfl fl_X5_25 dX5_init_32 <|
  s_aload_n dX5_init_35 rfl <|
  s_iconst dX5_init_36 rfl <|
  s_newq cl_X5_29 ao_X5_29 dX5_init_37 <|
  s_putR xC5 (by decide) (fun _ _ _ => rfl) (by decide) rfl rfl rfl fl_X5_31 dX5_init_40 <|
  s_iconst dX5_init_43 rfl <|
  s_istore_n dX5_init_44 rfl (by decide) <|
  s_J
def k_X5_init_45 (d : Nat) (Q : xV → xMem → Prop) : xP :=
  x_iload 1 <|
  x_push (vi 6) <|
  x_c2 (fun x y => y ≤ x) (
  x_push (vi 0) <|
  x_istore 1 <|
  (xJ M_X5_init (d + 1) 72 Q)) <|
  x_aload 0 <|
  x_getR 5 0 <|
  x_iload 1 <|
  x_new 3 <|
  x_dup <|
  x_cI0 M_X3_init d BUD_X3_init <|
  x_aastore 3 "CrystalByTheMinute$Text" <|
  x_iinc 1 1 <|
  (xJ M_X5_init (d + 1) 45 Q)
set_option maxRecDepth 100000 in
theorem b_X5_init_45 {d : Nat} {Q : xV → xMem → Prop} : Snd M_X5_init (d + 1) 45 Q (k_X5_init_45 d Q) :=
  s_iload_n dX5_init_45 rfl <|
  s_bipush dX5_init_46 rfl (by decide) <|
  s_icmp_ge (t := 70) dX5_init_48 rfl (
  s_iconst dX5_init_70 rfl <|
  s_istore_n dX5_init_71 rfl (by decide) <|
  s_J) <|
  s_aload_n dX5_init_51 rfl <|
  s_getR xC5 (by decide) (fun _ _ _ => rfl) fl_X5_11 dX5_init_52 <|
  s_iload_n dX5_init_55 rfl <|
  s_new xC3 (by decide) cl_X5_9 it_X3 in_X3 dX5_init_56 <|
  s_dup dX5_init_59 <|
  s_cN0 ce_X3_init rfl rfl nl_X5_35 im_X3_init dX5_init_60 <|
  s_aastore xC3 dX5_init_63 <|
  s_iinc dX5_init_64 (by decide) <|
  s_goto (t := 45) dX5_init_67 rfl <|
  s_J
def k_X5_init_72 (d : Nat) (Q : xV → xMem → Prop) : xP :=
  x_iload 1 <|
  x_push (vi 4) <|
  x_c2 (fun x y => y ≤ x) (
  x_aload 0 <|
  x_new 4 <|
  x_dup <|
  x_aload 0 <|
  x_getR 5 0 <|
  x_cI1 M_X4_init d BUD_X4_init <|
  x_putR 5 3 <|
  x_aload 0 <|
  x_new 4 <|
  x_dup <|
  x_aload 0 <|
  x_getR 5 0 <|
  x_cI1 M_X4_init d BUD_X4_init <|
  x_putR 5 4 <|
  x_aload 0 <|
  x_new 4 <|
  x_dup <|
  x_aload 0 <|
  x_getR 5 0 <|
  x_cI1 M_X4_init d BUD_X4_init <|
  x_putR 5 5 <|
  x_push (vi 0) <|
  x_istore 1 <|
  (xJ M_X5_init (d + 1) 143 Q)) <|
  x_aload 0 <|
  x_getR 5 8 <|
  x_iload 1 <|
  x_new 1 <|
  x_dup <|
  x_cI0 M_X1_init d BUD_X1_init <|
  x_aastore 1 "CrystalByTheMinute$Sheet" <|
  x_iinc 1 1 <|
  (xJ M_X5_init (d + 1) 72 Q)
set_option maxRecDepth 100000 in
theorem b_X5_init_72 {d : Nat} {Q : xV → xMem → Prop} : Snd M_X5_init (d + 1) 72 Q (k_X5_init_72 d Q) :=
  s_iload_n dX5_init_72 rfl <|
  s_iconst dX5_init_73 rfl <|
  s_icmp_ge (t := 96) dX5_init_74 rfl (
  s_aload_n dX5_init_96 rfl <|
  s_new xC4 (by decide) cl_X5_37 it_X4 in_X4 dX5_init_97 <|
  s_dup dX5_init_100 <|
  s_aload_n dX5_init_101 rfl <|
  s_getR xC5 (by decide) (fun _ _ _ => rfl) fl_X5_11 dX5_init_102 <|
  s_cI1 ce_X4_init rfl rfl ml_X5_39 im_X4_init dX5_init_105 <|
  s_putR xC5 (by decide) (fun _ _ _ => rfl) (by decide) rfl rfl rfl fl_X5_42 dX5_init_108 <|
  s_aload_n dX5_init_111 rfl <|
  s_new xC4 (by decide) cl_X5_37 it_X4 in_X4 dX5_init_112 <|
  s_dup dX5_init_115 <|
  s_aload_n dX5_init_116 rfl <|
  s_getR xC5 (by decide) (fun _ _ _ => rfl) fl_X5_11 dX5_init_117 <|
  s_cI1 ce_X4_init rfl rfl ml_X5_39 im_X4_init dX5_init_120 <|
  s_putR xC5 (by decide) (fun _ _ _ => rfl) (by decide) rfl rfl rfl fl_X5_46 dX5_init_123 <|
  s_aload_n dX5_init_126 rfl <|
  s_new xC4 (by decide) cl_X5_37 it_X4 in_X4 dX5_init_127 <|
  s_dup dX5_init_130 <|
  s_aload_n dX5_init_131 rfl <|
  s_getR xC5 (by decide) (fun _ _ _ => rfl) fl_X5_11 dX5_init_132 <|
  s_cI1 ce_X4_init rfl rfl ml_X5_39 im_X4_init dX5_init_135 <|
  s_putR xC5 (by decide) (fun _ _ _ => rfl) (by decide) rfl rfl rfl fl_X5_49 dX5_init_138 <|
  s_iconst dX5_init_141 rfl <|
  s_istore_n dX5_init_142 rfl (by decide) <|
  s_J) <|
  s_aload_n dX5_init_77 rfl <|
  s_getR xC5 (by decide) (fun _ _ _ => rfl) fl_X5_31 dX5_init_78 <|
  s_iload_n dX5_init_81 rfl <|
  s_new xC1 (by decide) cl_X5_29 it_X1 in_X1 dX5_init_82 <|
  s_dup dX5_init_85 <|
  s_cN0 ce_X1_init rfl rfl nl_X5_36 im_X1_init dX5_init_86 <|
  s_aastore xC1 dX5_init_89 <|
  s_iinc dX5_init_90 (by decide) <|
  s_goto (t := 72) dX5_init_93 rfl <|
  s_J
def k_X5_init_143 (d : Nat) (Q : xV → xMem → Prop) : xP :=
  x_iload 1 <|
  x_push (vo 2) <|
  x_cW0 M_J0_length_8abf5 d <|
  x_c2 (fun x y => y ≤ x) (
  x_aload 0 <|
  x_getR 5 2 <|
  x_aload 0 <|
  x_getR 5 0 <|
  x_push (vi 0) <|
  x_aaload <|
  x_cV1 M_X2_read d 2 <|
  x_pop <|
  x_aload 0 <|
  x_getR 5 2 <|
  x_cV0 M_X2_clear d 2 <|
  x_aload 0 <|
  x_push (vi 1) <|
  x_putI 5 1 <|
  x_vret Q) <|
  x_aload 0 <|
  x_getR 5 2 <|
  x_push (vo 2) <|
  x_iload 1 <|
  x_cW1 M_J0_charAt_5068e d <|
  x_cV1 M_X2_add d 2 <|
  x_pop <|
  x_iinc 1 1 <|
  (xJ M_X5_init (d + 1) 143 Q)
set_option maxRecDepth 100000 in
theorem b_X5_init_143 {d : Nat} {Q : xV → xMem → Prop} : Snd M_X5_init (d + 1) 143 Q (k_X5_init_143 d Q) :=
  s_iload_n dX5_init_143 rfl <|
  s_ldcs (i := 0) rfl dX5_init_144 <|
  s_cW0 ce_J0_length_8abf5 ml_X5_54 im_J0_length_8abf5 se_J0_length_8abf5 rfl dX5_init_146 <|
  s_icmp_ge (t := 172) dX5_init_149 rfl (
  s_aload_n dX5_init_172 rfl <|
  s_getR xC5 (by decide) (fun _ _ _ => rfl) fl_X5_18 dX5_init_173 <|
  s_aload_n dX5_init_176 rfl <|
  s_getR xC5 (by decide) (fun _ _ _ => rfl) fl_X5_11 dX5_init_177 <|
  s_iconst dX5_init_180 rfl <|
  s_aaload dX5_init_181 <|
  s_cV1 ce_X2_read ml_X5_68 im_X2_read se_X2_read xC2 dX5_init_182 <|
  s_pop dX5_init_185 <|
  s_aload_n dX5_init_186 rfl <|
  s_getR xC5 (by decide) (fun _ _ _ => rfl) fl_X5_18 dX5_init_187 <|
  s_cV0 ce_X2_clear ml_X5_72 im_X2_clear se_X2_clear xC2 dX5_init_190 <|
  s_aload_n dX5_init_193 rfl <|
  s_iconst dX5_init_194 rfl <|
  s_putI xC5 (by decide) (fun _ _ _ => rfl) rfl rfl fl_X5_75 dX5_init_195 <|
  s_return dX5_init_198 rfl) <|
  s_aload_n dX5_init_152 rfl <|
  s_getR xC5 (by decide) (fun _ _ _ => rfl) fl_X5_18 dX5_init_153 <|
  s_ldcs (i := 0) rfl dX5_init_156 <|
  s_iload_n dX5_init_158 rfl <|
  s_cW1 ce_J0_charAt_5068e ml_X5_60 im_J0_charAt_5068e se_J0_charAt_5068e rfl dX5_init_159 <|
  s_cV1 ce_X2_add ml_X5_64 im_X2_add se_X2_add xC2 dX5_init_162 <|
  s_pop dX5_init_165 <|
  s_iinc dX5_init_166 (by decide) <|
  s_goto (t := 143) dX5_init_169 rfl <|
  s_J
-- X5_init: cuts [0, 45, 72, 143]
def k_X6_init_0 (d : Nat) (Q : xV → xMem → Prop) : xP :=
  x_aload 0 <|
  x_objinit <|
  x_aload 0 <|
  x_push (vi 960) <|
  x_newa .int <|
  x_putR 6 1 <|
  x_aload 0 <|
  x_push (vi 6) <|
  x_newa .int <|
  x_putR 6 2 <|
  x_aload 0 <|
  x_push (vi 160) <|
  x_newa .int <|
  x_putR 6 5 <|
  x_aload 0 <|
  x_push (vi 1) <|
  x_putI 6 7 <|
  x_aload 0 <|
  x_push (vi 6) <|
  x_newa .int <|
  x_putR 6 8 <|
  x_aload 0 <|
  x_push (vi 18) <|
  x_newa .int <|
  x_putR 6 9 <|
  x_aload 0 <|
  x_push (vi 10) <|
  x_newa .int <|
  x_putR 6 11 <|
  x_aload 0 <|
  x_push (vi 30) <|
  x_newa .int <|
  x_putR 6 28 <|
  x_aload 0 <|
  x_push (vi 30) <|
  x_newa .int <|
  x_putR 6 29 <|
  x_aload 0 <|
  x_push (vi 30) <|
  x_newa .int <|
  x_putR 6 30 <|
  x_aload 0 <|
  x_push (vi 30) <|
  x_newa .boolean <|
  x_putR 6 31 <|
  x_aload 0 <|
  x_push (vi 6) <|
  x_newa .int <|
  x_putR 6 32 <|
  x_aload 0 <|
  x_push (vi 6) <|
  x_newa .int <|
  x_putR 6 40 <|
  x_aload 0 <|
  x_push (vi 6) <|
  x_newa .int <|
  x_putR 6 41 <|
  x_aload 0 <|
  x_push (vi 18) <|
  x_newa .int <|
  x_putR 6 42 <|
  x_aload 0 <|
  x_push (vi 10) <|
  x_newa .int <|
  x_putR 6 43 <|
  x_aload 0 <|
  x_push (vi (-1)) <|
  x_putI 6 44 <|
  x_aload 0 <|
  x_push (vi 4) <|
  x_newa .boolean <|
  x_putR 6 48 <|
  x_aload 0 <|
  x_push (vi 4) <|
  x_newa .int <|
  x_putR 6 49 <|
  x_aload 0 <|
  x_push (vi 4) <|
  x_newa .int <|
  x_putR 6 50 <|
  x_aload 0 <|
  x_push (vi 160) <|
  x_newa .int <|
  x_putR 6 51 <|
  x_aload 0 <|
  x_push (vi 0) <|
  x_push (vi 112) <|
  x_push (vi 114) <|
  x_push (vi 105) <|
  x_push (vi 99) <|
  x_push (vi 101) <|
  x_push (vi 115) <|
  x_push (vi 32) <|
  x_push (vi 53) <|
  x_cV9 M_X6_spell d 6 <|
  x_aload 0 <|
  x_push (vi 8) <|
  x_push (vi 32) <|
  x_push (vi 59) <|
  x_push (vi 32) <|
  x_push (vi 106) <|
  x_push (vi 111) <|
  x_push (vi 121) <|
  x_push (vi 115) <|
  x_push (vi 32) <|
  x_cV9 M_X6_spell d 6 <|
  x_aload 0 <|
  x_push (vi 16) <|
  x_push (vi 49) <|
  x_push (vi 48) <|
  x_push (vi 32) <|
  x_push (vi 59) <|
  x_push (vi 32) <|
  x_push (vi 112) <|
  x_push (vi 97) <|
  x_push (vi 121) <|
  x_cV9 M_X6_spell d 6 <|
  x_aload 0 <|
  x_push (vi 24) <|
  x_push (vi 115) <|
  x_push (vi 32) <|
  x_push (vi 119) <|
  x_push (vi 105) <|
  x_push (vi 115) <|
  x_push (vi 104) <|
  x_push (vi 101) <|
  x_push (vi 100) <|
  x_cV9 M_X6_spell d 6 <|
  x_aload 0 <|
  x_push (vi 32) <|
  x_push (vi 32) <|
  x_push (vi 42) <|
  x_push (vi 32) <|
  x_push (vi 56) <|
  x_push (vi 32) <|
  x_push (vi 59) <|
  x_push (vi 32) <|
  x_push (vi 32) <|
  x_cV9 M_X6_spell d 6 <|
  x_aload 0 <|
  x_getR 6 2 <|
  x_push (vi 0) <|
  x_push (vi 40) <|
  x_iastore <|
  x_aload 0 <|
  x_push (vi 1) <|
  x_putI 6 3 <|
  x_vret Q
set_option maxRecDepth 100000 in
theorem b_X6_init_0 {d : Nat} {Q : xV → xMem → Prop} : Snd M_X6_init (d + 1) 0 Q (k_X6_init_0 d Q) :=
  s_aload_n dX6_init_0 rfl <|
  s_objinit ml_X6_7 oi_im oi_cd dX6_init_1 <|
  s_aload_n dX6_init_4 rfl <|
  s_sipush dX6_init_5 rfl (by decide) <|
  s_newaI ac_int dX6_init_8 <|
  s_putR xC6 (by decide) (fun _ _ _ => rfl) (by decide) rfl rfl rfl fl_X6_13 dX6_init_10 <|
  s_aload_n dX6_init_13 rfl <|
  s_bipush dX6_init_14 rfl (by decide) <|
  s_newaI ac_int dX6_init_16 <|
  s_putR xC6 (by decide) (fun _ _ _ => rfl) (by decide) rfl rfl rfl fl_X6_17 dX6_init_18 <|
  s_aload_n dX6_init_21 rfl <|
  s_sipush dX6_init_22 rfl (by decide) <|
  s_newaI ac_int dX6_init_25 <|
  s_putR xC6 (by decide) (fun _ _ _ => rfl) (by decide) rfl rfl rfl fl_X6_20 dX6_init_27 <|
  s_aload_n dX6_init_30 rfl <|
  s_iconst dX6_init_31 rfl <|
  s_putI xC6 (by decide) (fun _ _ _ => rfl) rfl rfl fl_X6_23 dX6_init_32 <|
  s_aload_n dX6_init_35 rfl <|
  s_bipush dX6_init_36 rfl (by decide) <|
  s_newaI ac_int dX6_init_38 <|
  s_putR xC6 (by decide) (fun _ _ _ => rfl) (by decide) rfl rfl rfl fl_X6_26 dX6_init_40 <|
  s_aload_n dX6_init_43 rfl <|
  s_bipush dX6_init_44 rfl (by decide) <|
  s_newaI ac_int dX6_init_46 <|
  s_putR xC6 (by decide) (fun _ _ _ => rfl) (by decide) rfl rfl rfl fl_X6_29 dX6_init_48 <|
  s_aload_n dX6_init_51 rfl <|
  s_bipush dX6_init_52 rfl (by decide) <|
  s_newaI ac_int dX6_init_54 <|
  s_putR xC6 (by decide) (fun _ _ _ => rfl) (by decide) rfl rfl rfl fl_X6_32 dX6_init_56 <|
  s_aload_n dX6_init_59 rfl <|
  s_bipush dX6_init_60 rfl (by decide) <|
  s_newaI ac_int dX6_init_62 <|
  s_putR xC6 (by decide) (fun _ _ _ => rfl) (by decide) rfl rfl rfl fl_X6_35 dX6_init_64 <|
  s_aload_n dX6_init_67 rfl <|
  s_bipush dX6_init_68 rfl (by decide) <|
  s_newaI ac_int dX6_init_70 <|
  s_putR xC6 (by decide) (fun _ _ _ => rfl) (by decide) rfl rfl rfl fl_X6_38 dX6_init_72 <|
  s_aload_n dX6_init_75 rfl <|
  s_bipush dX6_init_76 rfl (by decide) <|
  s_newaI ac_int dX6_init_78 <|
  s_putR xC6 (by decide) (fun _ _ _ => rfl) (by decide) rfl rfl rfl fl_X6_41 dX6_init_80 <|
  s_aload_n dX6_init_83 rfl <|
  s_bipush dX6_init_84 rfl (by decide) <|
  s_newaZ ac_bool dX6_init_86 <|
  s_putR xC6 (by decide) (fun _ _ _ => rfl) (by decide) rfl rfl rfl fl_X6_44 dX6_init_88 <|
  s_aload_n dX6_init_91 rfl <|
  s_bipush dX6_init_92 rfl (by decide) <|
  s_newaI ac_int dX6_init_94 <|
  s_putR xC6 (by decide) (fun _ _ _ => rfl) (by decide) rfl rfl rfl fl_X6_48 dX6_init_96 <|
  s_aload_n dX6_init_99 rfl <|
  s_bipush dX6_init_100 rfl (by decide) <|
  s_newaI ac_int dX6_init_102 <|
  s_putR xC6 (by decide) (fun _ _ _ => rfl) (by decide) rfl rfl rfl fl_X6_51 dX6_init_104 <|
  s_aload_n dX6_init_107 rfl <|
  s_bipush dX6_init_108 rfl (by decide) <|
  s_newaI ac_int dX6_init_110 <|
  s_putR xC6 (by decide) (fun _ _ _ => rfl) (by decide) rfl rfl rfl fl_X6_54 dX6_init_112 <|
  s_aload_n dX6_init_115 rfl <|
  s_bipush dX6_init_116 rfl (by decide) <|
  s_newaI ac_int dX6_init_118 <|
  s_putR xC6 (by decide) (fun _ _ _ => rfl) (by decide) rfl rfl rfl fl_X6_57 dX6_init_120 <|
  s_aload_n dX6_init_123 rfl <|
  s_bipush dX6_init_124 rfl (by decide) <|
  s_newaI ac_int dX6_init_126 <|
  s_putR xC6 (by decide) (fun _ _ _ => rfl) (by decide) rfl rfl rfl fl_X6_60 dX6_init_128 <|
  s_aload_n dX6_init_131 rfl <|
  s_iconst dX6_init_132 rfl <|
  s_putI xC6 (by decide) (fun _ _ _ => rfl) rfl rfl fl_X6_63 dX6_init_133 <|
  s_aload_n dX6_init_136 rfl <|
  s_iconst dX6_init_137 rfl <|
  s_newaZ ac_bool dX6_init_138 <|
  s_putR xC6 (by decide) (fun _ _ _ => rfl) (by decide) rfl rfl rfl fl_X6_66 dX6_init_140 <|
  s_aload_n dX6_init_143 rfl <|
  s_iconst dX6_init_144 rfl <|
  s_newaI ac_int dX6_init_145 <|
  s_putR xC6 (by decide) (fun _ _ _ => rfl) (by decide) rfl rfl rfl fl_X6_69 dX6_init_147 <|
  s_aload_n dX6_init_150 rfl <|
  s_iconst dX6_init_151 rfl <|
  s_newaI ac_int dX6_init_152 <|
  s_putR xC6 (by decide) (fun _ _ _ => rfl) (by decide) rfl rfl rfl fl_X6_72 dX6_init_154 <|
  s_aload_n dX6_init_157 rfl <|
  s_sipush dX6_init_158 rfl (by decide) <|
  s_newaI ac_int dX6_init_161 <|
  s_putR xC6 (by decide) (fun _ _ _ => rfl) (by decide) rfl rfl rfl fl_X6_75 dX6_init_163 <|
  s_aload_n dX6_init_166 rfl <|
  s_iconst dX6_init_167 rfl <|
  s_bipush dX6_init_168 rfl (by decide) <|
  s_bipush dX6_init_170 rfl (by decide) <|
  s_bipush dX6_init_172 rfl (by decide) <|
  s_bipush dX6_init_174 rfl (by decide) <|
  s_bipush dX6_init_176 rfl (by decide) <|
  s_bipush dX6_init_178 rfl (by decide) <|
  s_bipush dX6_init_180 rfl (by decide) <|
  s_bipush dX6_init_182 rfl (by decide) <|
  s_cV9 ce_X6_spell ml_X6_78 im_X6_spell se_X6_spell xC6 dX6_init_184 <|
  s_aload_n dX6_init_187 rfl <|
  s_bipush dX6_init_188 rfl (by decide) <|
  s_bipush dX6_init_190 rfl (by decide) <|
  s_bipush dX6_init_192 rfl (by decide) <|
  s_bipush dX6_init_194 rfl (by decide) <|
  s_bipush dX6_init_196 rfl (by decide) <|
  s_bipush dX6_init_198 rfl (by decide) <|
  s_bipush dX6_init_200 rfl (by decide) <|
  s_bipush dX6_init_202 rfl (by decide) <|
  s_bipush dX6_init_204 rfl (by decide) <|
  s_cV9 ce_X6_spell ml_X6_78 im_X6_spell se_X6_spell xC6 dX6_init_206 <|
  s_aload_n dX6_init_209 rfl <|
  s_bipush dX6_init_210 rfl (by decide) <|
  s_bipush dX6_init_212 rfl (by decide) <|
  s_bipush dX6_init_214 rfl (by decide) <|
  s_bipush dX6_init_216 rfl (by decide) <|
  s_bipush dX6_init_218 rfl (by decide) <|
  s_bipush dX6_init_220 rfl (by decide) <|
  s_bipush dX6_init_222 rfl (by decide) <|
  s_bipush dX6_init_224 rfl (by decide) <|
  s_bipush dX6_init_226 rfl (by decide) <|
  s_cV9 ce_X6_spell ml_X6_78 im_X6_spell se_X6_spell xC6 dX6_init_228 <|
  s_aload_n dX6_init_231 rfl <|
  s_bipush dX6_init_232 rfl (by decide) <|
  s_bipush dX6_init_234 rfl (by decide) <|
  s_bipush dX6_init_236 rfl (by decide) <|
  s_bipush dX6_init_238 rfl (by decide) <|
  s_bipush dX6_init_240 rfl (by decide) <|
  s_bipush dX6_init_242 rfl (by decide) <|
  s_bipush dX6_init_244 rfl (by decide) <|
  s_bipush dX6_init_246 rfl (by decide) <|
  s_bipush dX6_init_248 rfl (by decide) <|
  s_cV9 ce_X6_spell ml_X6_78 im_X6_spell se_X6_spell xC6 dX6_init_250 <|
  s_aload_n dX6_init_253 rfl <|
  s_bipush dX6_init_254 rfl (by decide) <|
  s_bipush dX6_init_256 rfl (by decide) <|
  s_bipush dX6_init_258 rfl (by decide) <|
  s_bipush dX6_init_260 rfl (by decide) <|
  s_bipush dX6_init_262 rfl (by decide) <|
  s_bipush dX6_init_264 rfl (by decide) <|
  s_bipush dX6_init_266 rfl (by decide) <|
  s_bipush dX6_init_268 rfl (by decide) <|
  s_bipush dX6_init_270 rfl (by decide) <|
  s_cV9 ce_X6_spell ml_X6_78 im_X6_spell se_X6_spell xC6 dX6_init_272 <|
  s_aload_n dX6_init_275 rfl <|
  s_getR xC6 (by decide) (fun _ _ _ => rfl) fl_X6_17 dX6_init_276 <|
  s_iconst dX6_init_279 rfl <|
  s_bipush dX6_init_280 rfl (by decide) <|
  s_iastore dX6_init_282 <|
  s_aload_n dX6_init_283 rfl <|
  s_iconst dX6_init_284 rfl <|
  s_putI xC6 (by decide) (fun _ _ _ => rfl) rfl rfl fl_X6_82 dX6_init_285 <|
  s_return dX6_init_288 rfl
-- X6_init: cuts [0]
def k_L_law_0 (d : Nat) (Q : xV → xMem → Prop) : xP :=
  x_new 5 <|
  x_dup <|
  x_cI0 M_X5_init d BUD_X5_init <|
  x_astore 1 <|
  x_new 6 <|
  x_dup <|
  x_cI0 M_X6_init d BUD_X6_init <|
  x_astore 2 <|
  x_push (vi 0) <|
  x_istore 3 <|
  (xJ M_L_law (d + 1) 18 Q)
set_option maxRecDepth 100000 in
theorem b_L_law_0 {d : Nat} {Q : xV → xMem → Prop} : Snd M_L_law (d + 1) 0 Q (k_L_law_0 d Q) :=
  s_new xC5 (by decide) cl_L_7 it_X5 in_X5 dL_law_0 <|
  s_dup dL_law_3 <|
  s_cI0 ce_X5_init rfl rfl ml_L_9 im_X5_init dL_law_4 <|
  s_astore_n dL_law_7 rfl (by decide) <|
  s_new xC6 (by decide) cl_L_10 it_X6 in_X6 dL_law_8 <|
  s_dup dL_law_11 <|
  s_cI0 ce_X6_init rfl rfl ml_L_12 im_X6_init dL_law_12 <|
  s_astore_n dL_law_15 rfl (by decide) <|
  s_iconst dL_law_16 rfl <|
  s_istore_n dL_law_17 rfl (by decide) <|
  s_J
def k_L_law_18 (d : Nat) (Q : xV → xMem → Prop) : xP :=
  x_iload 3 <|
  x_aload 0 <|
  x_alenL <|
  x_push (vi 6) <|
  x_bin osub <|
  x_c2 (fun x y => y < x) (
  x_push (vi 1) <|
  x_zret Q) <|
  x_aload 0 <|
  x_iload 3 <|
  x_ialoadL <|
  x_push (vi 31) <|
  x_bin oand <|
  x_tsw 0 [
  x_aload 1 <|
  x_aload 0 <|
  x_iload 3 <|
  x_push (vi 1) <|
  x_bin oadd <|
  x_ialoadL <|
  x_aload 0 <|
  x_iload 3 <|
  x_push (vi 2) <|
  x_bin oadd <|
  x_ialoadL <|
  x_aload 0 <|
  x_iload 3 <|
  x_push (vi 3) <|
  x_bin oadd <|
  x_ialoadL <|
  x_cV3 M_X5_set d 5 <|
  x_aload 2 <|
  x_aload 0 <|
  x_iload 3 <|
  x_push (vi 1) <|
  x_bin oadd <|
  x_ialoadL <|
  x_aload 0 <|
  x_iload 3 <|
  x_push (vi 2) <|
  x_bin oadd <|
  x_ialoadL <|
  x_aload 0 <|
  x_iload 3 <|
  x_push (vi 3) <|
  x_bin oadd <|
  x_ialoadL <|
  x_cV3 M_X6_set d 6 <|
  x_c2 (fun x y => x = y) (
  x_iinc 3 6 <|
  (xJ M_L_law (d + 1) 18 Q)) <|
  x_push (vi 0) <|
  x_zret Q,
  x_aload 1 <|
  x_aload 0 <|
  x_iload 3 <|
  x_push (vi 1) <|
  x_bin oadd <|
  x_ialoadL <|
  x_aload 0 <|
  x_iload 3 <|
  x_push (vi 2) <|
  x_bin oadd <|
  x_ialoadL <|
  x_aload 0 <|
  x_iload 3 <|
  x_push (vi 3) <|
  x_bin oadd <|
  x_ialoadL <|
  x_cV3 M_X5_figure d 5 <|
  x_aload 2 <|
  x_aload 0 <|
  x_iload 3 <|
  x_push (vi 1) <|
  x_bin oadd <|
  x_ialoadL <|
  x_aload 0 <|
  x_iload 3 <|
  x_push (vi 2) <|
  x_bin oadd <|
  x_ialoadL <|
  x_aload 0 <|
  x_iload 3 <|
  x_push (vi 3) <|
  x_bin oadd <|
  x_ialoadL <|
  x_cV3 M_X6_figure d 6 <|
  x_c2 (fun x y => x = y) (
  x_iinc 3 6 <|
  (xJ M_L_law (d + 1) 18 Q)) <|
  x_push (vi 0) <|
  x_zret Q,
  x_aload 1 <|
  x_aload 0 <|
  x_iload 3 <|
  x_push (vi 1) <|
  x_bin oadd <|
  x_ialoadL <|
  x_aload 0 <|
  x_iload 3 <|
  x_push (vi 2) <|
  x_bin oadd <|
  x_ialoadL <|
  x_cV2 M_X5_client d 5 <|
  x_aload 2 <|
  x_aload 0 <|
  x_iload 3 <|
  x_push (vi 1) <|
  x_bin oadd <|
  x_ialoadL <|
  x_aload 0 <|
  x_iload 3 <|
  x_push (vi 2) <|
  x_bin oadd <|
  x_ialoadL <|
  x_cV2 M_X6_client d 6 <|
  x_c2 (fun x y => x = y) (
  x_iinc 3 6 <|
  (xJ M_L_law (d + 1) 18 Q)) <|
  x_push (vi 0) <|
  x_zret Q,
  x_aload 1 <|
  x_aload 0 <|
  x_iload 3 <|
  x_push (vi 1) <|
  x_bin oadd <|
  x_ialoadL <|
  x_aload 0 <|
  x_iload 3 <|
  x_push (vi 2) <|
  x_bin oadd <|
  x_ialoadL <|
  x_cV2 M_X5_told d 5 <|
  x_aload 2 <|
  x_aload 0 <|
  x_iload 3 <|
  x_push (vi 1) <|
  x_bin oadd <|
  x_ialoadL <|
  x_aload 0 <|
  x_iload 3 <|
  x_push (vi 2) <|
  x_bin oadd <|
  x_ialoadL <|
  x_cV2 M_X6_told d 6 <|
  x_c2 (fun x y => x = y) (
  x_iinc 3 6 <|
  (xJ M_L_law (d + 1) 18 Q)) <|
  x_push (vi 0) <|
  x_zret Q,
  x_aload 1 <|
  x_aload 0 <|
  x_iload 3 <|
  x_push (vi 1) <|
  x_bin oadd <|
  x_ialoadL <|
  x_aload 0 <|
  x_iload 3 <|
  x_push (vi 2) <|
  x_bin oadd <|
  x_ialoadL <|
  x_aload 0 <|
  x_iload 3 <|
  x_push (vi 3) <|
  x_bin oadd <|
  x_ialoadL <|
  x_cV3 M_X5_glad d 5 <|
  x_aload 2 <|
  x_aload 0 <|
  x_iload 3 <|
  x_push (vi 1) <|
  x_bin oadd <|
  x_ialoadL <|
  x_aload 0 <|
  x_iload 3 <|
  x_push (vi 2) <|
  x_bin oadd <|
  x_ialoadL <|
  x_aload 0 <|
  x_iload 3 <|
  x_push (vi 3) <|
  x_bin oadd <|
  x_ialoadL <|
  x_cV3 M_X6_glad d 6 <|
  x_c2 (fun x y => x = y) (
  x_iinc 3 6 <|
  (xJ M_L_law (d + 1) 18 Q)) <|
  x_push (vi 0) <|
  x_zret Q,
  x_aload 1 <|
  x_aload 0 <|
  x_iload 3 <|
  x_push (vi 1) <|
  x_bin oadd <|
  x_ialoadL <|
  x_cV1 M_X5_feed d 5 <|
  x_aload 2 <|
  x_aload 0 <|
  x_iload 3 <|
  x_push (vi 1) <|
  x_bin oadd <|
  x_ialoadL <|
  x_cV1 M_X6_feed d 6 <|
  x_c2 (fun x y => x = y) (
  x_iinc 3 6 <|
  (xJ M_L_law (d + 1) 18 Q)) <|
  x_push (vi 0) <|
  x_zret Q,
  x_aload 1 <|
  x_cV0 M_X5_text d 5 <|
  x_aload 2 <|
  x_cV0 M_X6_text d 6 <|
  x_c2 (fun x y => x = y) (
  x_iinc 3 6 <|
  (xJ M_L_law (d + 1) 18 Q)) <|
  x_push (vi 0) <|
  x_zret Q,
  x_aload 1 <|
  x_aload 0 <|
  x_iload 3 <|
  x_push (vi 1) <|
  x_bin oadd <|
  x_ialoadL <|
  x_cV1 M_X5_force d 5 <|
  x_aload 2 <|
  x_aload 0 <|
  x_iload 3 <|
  x_push (vi 1) <|
  x_bin oadd <|
  x_ialoadL <|
  x_cV1 M_X6_force d 6 <|
  x_c2 (fun x y => x = y) (
  x_iinc 3 6 <|
  (xJ M_L_law (d + 1) 18 Q)) <|
  x_push (vi 0) <|
  x_zret Q,
  x_aload 1 <|
  x_aload 0 <|
  x_iload 3 <|
  x_push (vi 1) <|
  x_bin oadd <|
  x_ialoadL <|
  x_aload 0 <|
  x_iload 3 <|
  x_push (vi 2) <|
  x_bin oadd <|
  x_ialoadL <|
  x_cV2 M_X5_show d 5 <|
  x_aload 2 <|
  x_aload 0 <|
  x_iload 3 <|
  x_push (vi 1) <|
  x_bin oadd <|
  x_ialoadL <|
  x_aload 0 <|
  x_iload 3 <|
  x_push (vi 2) <|
  x_bin oadd <|
  x_ialoadL <|
  x_cV2 M_X6_show d 6 <|
  x_c2 (fun x y => x = y) (
  x_iinc 3 6 <|
  (xJ M_L_law (d + 1) 18 Q)) <|
  x_push (vi 0) <|
  x_zret Q,
  x_aload 1 <|
  x_aload 0 <|
  x_iload 3 <|
  x_push (vi 1) <|
  x_bin oadd <|
  x_ialoadL <|
  x_cV1 M_X5_take d 5 <|
  x_aload 2 <|
  x_aload 0 <|
  x_iload 3 <|
  x_push (vi 1) <|
  x_bin oadd <|
  x_ialoadL <|
  x_cV1 M_X6_take d 6 <|
  x_c2 (fun x y => x = y) (
  x_iinc 3 6 <|
  (xJ M_L_law (d + 1) 18 Q)) <|
  x_push (vi 0) <|
  x_zret Q,
  x_aload 1 <|
  x_aload 0 <|
  x_iload 3 <|
  x_push (vi 1) <|
  x_bin oadd <|
  x_ialoadL <|
  x_aload 0 <|
  x_iload 3 <|
  x_push (vi 2) <|
  x_bin oadd <|
  x_ialoadL <|
  x_cV2 M_X5_showing d 5 <|
  x_aload 2 <|
  x_aload 0 <|
  x_iload 3 <|
  x_push (vi 1) <|
  x_bin oadd <|
  x_ialoadL <|
  x_aload 0 <|
  x_iload 3 <|
  x_push (vi 2) <|
  x_bin oadd <|
  x_ialoadL <|
  x_cV2 M_X6_showing d 6 <|
  x_c2 (fun x y => x = y) (
  x_iinc 3 6 <|
  (xJ M_L_law (d + 1) 18 Q)) <|
  x_push (vi 0) <|
  x_zret Q,
  x_aload 1 <|
  x_aload 0 <|
  x_iload 3 <|
  x_push (vi 1) <|
  x_bin oadd <|
  x_ialoadL <|
  x_cV1 M_X5_few d 5 <|
  x_aload 2 <|
  x_aload 0 <|
  x_iload 3 <|
  x_push (vi 1) <|
  x_bin oadd <|
  x_ialoadL <|
  x_cV1 M_X6_few d 6 <|
  x_c2 (fun x y => x = y) (
  x_iinc 3 6 <|
  (xJ M_L_law (d + 1) 18 Q)) <|
  x_push (vi 0) <|
  x_zret Q,
  x_aload 1 <|
  x_aload 0 <|
  x_iload 3 <|
  x_push (vi 1) <|
  x_bin oadd <|
  x_ialoadL <|
  x_cV1 M_X5_missed d 5 <|
  x_aload 2 <|
  x_aload 0 <|
  x_iload 3 <|
  x_push (vi 1) <|
  x_bin oadd <|
  x_ialoadL <|
  x_cV1 M_X6_missed d 6 <|
  x_c2 (fun x y => x = y) (
  x_iinc 3 6 <|
  (xJ M_L_law (d + 1) 18 Q)) <|
  x_push (vi 0) <|
  x_zret Q,
  x_aload 1 <|
  x_aload 0 <|
  x_iload 3 <|
  x_push (vi 1) <|
  x_bin oadd <|
  x_ialoadL <|
  x_cV1 M_X5_change d 5 <|
  x_aload 2 <|
  x_aload 0 <|
  x_iload 3 <|
  x_push (vi 1) <|
  x_bin oadd <|
  x_ialoadL <|
  x_cV1 M_X6_change d 6 <|
  x_c2 (fun x y => x = y) (
  x_iinc 3 6 <|
  (xJ M_L_law (d + 1) 18 Q)) <|
  x_push (vi 0) <|
  x_zret Q,
  x_aload 1 <|
  x_aload 0 <|
  x_iload 3 <|
  x_push (vi 1) <|
  x_bin oadd <|
  x_ialoadL <|
  x_aload 0 <|
  x_iload 3 <|
  x_push (vi 2) <|
  x_bin oadd <|
  x_ialoadL <|
  x_cV2 M_X5_raise d 5 <|
  x_aload 2 <|
  x_aload 0 <|
  x_iload 3 <|
  x_push (vi 1) <|
  x_bin oadd <|
  x_ialoadL <|
  x_aload 0 <|
  x_iload 3 <|
  x_push (vi 2) <|
  x_bin oadd <|
  x_ialoadL <|
  x_cV2 M_X6_raise d 6 <|
  x_c2 (fun x y => x = y) (
  x_iinc 3 6 <|
  (xJ M_L_law (d + 1) 18 Q)) <|
  x_push (vi 0) <|
  x_zret Q,
  x_aload 1 <|
  x_aload 0 <|
  x_iload 3 <|
  x_push (vi 1) <|
  x_bin oadd <|
  x_ialoadL <|
  x_cV1 M_X5_dear d 5 <|
  x_aload 2 <|
  x_aload 0 <|
  x_iload 3 <|
  x_push (vi 1) <|
  x_bin oadd <|
  x_ialoadL <|
  x_cV1 M_X6_dear d 6 <|
  x_c2 (fun x y => x = y) (
  x_iinc 3 6 <|
  (xJ M_L_law (d + 1) 18 Q)) <|
  x_push (vi 0) <|
  x_zret Q,
  x_aload 1 <|
  x_aload 0 <|
  x_iload 3 <|
  x_push (vi 1) <|
  x_bin oadd <|
  x_ialoadL <|
  x_aload 0 <|
  x_iload 3 <|
  x_push (vi 2) <|
  x_bin oadd <|
  x_ialoadL <|
  x_aload 0 <|
  x_iload 3 <|
  x_push (vi 3) <|
  x_bin oadd <|
  x_ialoadL <|
  x_cV3 M_X5_tells d 5 <|
  x_aload 2 <|
  x_aload 0 <|
  x_iload 3 <|
  x_push (vi 1) <|
  x_bin oadd <|
  x_ialoadL <|
  x_aload 0 <|
  x_iload 3 <|
  x_push (vi 2) <|
  x_bin oadd <|
  x_ialoadL <|
  x_aload 0 <|
  x_iload 3 <|
  x_push (vi 3) <|
  x_bin oadd <|
  x_ialoadL <|
  x_cV3 M_X6_tells d 6 <|
  x_c2 (fun x y => x = y) (
  x_iinc 3 6 <|
  (xJ M_L_law (d + 1) 18 Q)) <|
  x_push (vi 0) <|
  x_zret Q,
  x_aload 1 <|
  x_aload 0 <|
  x_iload 3 <|
  x_push (vi 1) <|
  x_bin oadd <|
  x_ialoadL <|
  x_aload 0 <|
  x_iload 3 <|
  x_push (vi 2) <|
  x_bin oadd <|
  x_ialoadL <|
  x_aload 0 <|
  x_iload 3 <|
  x_push (vi 3) <|
  x_bin oadd <|
  x_ialoadL <|
  x_cV3 M_X5_film d 5 <|
  x_aload 2 <|
  x_aload 0 <|
  x_iload 3 <|
  x_push (vi 1) <|
  x_bin oadd <|
  x_ialoadL <|
  x_aload 0 <|
  x_iload 3 <|
  x_push (vi 2) <|
  x_bin oadd <|
  x_ialoadL <|
  x_aload 0 <|
  x_iload 3 <|
  x_push (vi 3) <|
  x_bin oadd <|
  x_ialoadL <|
  x_cV3 M_X6_film d 6 <|
  x_c2 (fun x y => x = y) (
  x_iinc 3 6 <|
  (xJ M_L_law (d + 1) 18 Q)) <|
  x_push (vi 0) <|
  x_zret Q,
  x_aload 1 <|
  x_aload 0 <|
  x_iload 3 <|
  x_push (vi 1) <|
  x_bin oadd <|
  x_ialoadL <|
  x_cV1 M_X5_drawn d 5 <|
  x_aload 2 <|
  x_aload 0 <|
  x_iload 3 <|
  x_push (vi 1) <|
  x_bin oadd <|
  x_ialoadL <|
  x_cV1 M_X6_drawn d 6 <|
  x_c2 (fun x y => x = y) (
  x_iinc 3 6 <|
  (xJ M_L_law (d + 1) 18 Q)) <|
  x_push (vi 0) <|
  x_zret Q,
  x_aload 1 <|
  x_aload 0 <|
  x_iload 3 <|
  x_push (vi 1) <|
  x_bin oadd <|
  x_ialoadL <|
  x_aload 0 <|
  x_iload 3 <|
  x_push (vi 2) <|
  x_bin oadd <|
  x_ialoadL <|
  x_aload 0 <|
  x_iload 3 <|
  x_push (vi 3) <|
  x_bin oadd <|
  x_ialoadL <|
  x_aload 0 <|
  x_iload 3 <|
  x_push (vi 4) <|
  x_bin oadd <|
  x_ialoadL <|
  x_cV4 M_X5_chance d 5 <|
  x_aload 2 <|
  x_aload 0 <|
  x_iload 3 <|
  x_push (vi 1) <|
  x_bin oadd <|
  x_ialoadL <|
  x_aload 0 <|
  x_iload 3 <|
  x_push (vi 2) <|
  x_bin oadd <|
  x_ialoadL <|
  x_aload 0 <|
  x_iload 3 <|
  x_push (vi 3) <|
  x_bin oadd <|
  x_ialoadL <|
  x_aload 0 <|
  x_iload 3 <|
  x_push (vi 4) <|
  x_bin oadd <|
  x_ialoadL <|
  x_cV4 M_X6_chance d 6 <|
  x_lcmp <|
  x_c1 (fun x => x = 0) (
  x_iinc 3 6 <|
  (xJ M_L_law (d + 1) 18 Q)) <|
  x_push (vi 0) <|
  x_zret Q,
  x_aload 1 <|
  x_cV0 M_X5_image d 5 <|
  x_aload 2 <|
  x_cV0 M_X6_image d 6 <|
  x_c2 (fun x y => x = y) (
  x_iinc 3 6 <|
  (xJ M_L_law (d + 1) 18 Q)) <|
  x_push (vi 0) <|
  x_zret Q,
  x_aload 1 <|
  x_cV0 M_X5_back d 5 <|
  x_aload 2 <|
  x_cV0 M_X6_back d 6 <|
  x_c2 (fun x y => x = y) (
  x_iinc 3 6 <|
  (xJ M_L_law (d + 1) 18 Q)) <|
  x_push (vi 0) <|
  x_zret Q,
  x_aload 1 <|
  x_aload 0 <|
  x_iload 3 <|
  x_push (vi 1) <|
  x_bin oadd <|
  x_ialoadL <|
  x_cV1 M_X5_count d 5 <|
  x_aload 2 <|
  x_aload 0 <|
  x_iload 3 <|
  x_push (vi 1) <|
  x_bin oadd <|
  x_ialoadL <|
  x_cV1 M_X6_count d 6 <|
  x_c2 (fun x y => x = y) (
  x_iinc 3 6 <|
  (xJ M_L_law (d + 1) 18 Q)) <|
  x_push (vi 0) <|
  x_zret Q,
  x_aload 1 <|
  x_aload 0 <|
  x_iload 3 <|
  x_push (vi 1) <|
  x_bin oadd <|
  x_ialoadL <|
  x_aload 0 <|
  x_iload 3 <|
  x_push (vi 2) <|
  x_bin oadd <|
  x_ialoadL <|
  x_aload 0 <|
  x_iload 3 <|
  x_push (vi 3) <|
  x_bin oadd <|
  x_ialoadL <|
  x_cV3 M_X5_sheet d 5 <|
  x_aload 2 <|
  x_aload 0 <|
  x_iload 3 <|
  x_push (vi 1) <|
  x_bin oadd <|
  x_ialoadL <|
  x_aload 0 <|
  x_iload 3 <|
  x_push (vi 2) <|
  x_bin oadd <|
  x_ialoadL <|
  x_aload 0 <|
  x_iload 3 <|
  x_push (vi 3) <|
  x_bin oadd <|
  x_ialoadL <|
  x_cV3 M_X6_sheet d 6 <|
  x_c2 (fun x y => x = y) (
  x_iinc 3 6 <|
  (xJ M_L_law (d + 1) 18 Q)) <|
  x_push (vi 0) <|
  x_zret Q,
  x_aload 1 <|
  x_aload 0 <|
  x_iload 3 <|
  x_push (vi 1) <|
  x_bin oadd <|
  x_ialoadL <|
  x_aload 0 <|
  x_iload 3 <|
  x_push (vi 2) <|
  x_bin oadd <|
  x_ialoadL <|
  x_aload 0 <|
  x_iload 3 <|
  x_push (vi 3) <|
  x_bin oadd <|
  x_ialoadL <|
  x_cV3 M_X5_cell d 5 <|
  x_aload 2 <|
  x_aload 0 <|
  x_iload 3 <|
  x_push (vi 1) <|
  x_bin oadd <|
  x_ialoadL <|
  x_aload 0 <|
  x_iload 3 <|
  x_push (vi 2) <|
  x_bin oadd <|
  x_ialoadL <|
  x_aload 0 <|
  x_iload 3 <|
  x_push (vi 3) <|
  x_bin oadd <|
  x_ialoadL <|
  x_cV3 M_X6_cell d 6 <|
  x_c2 (fun x y => x = y) (
  x_iinc 3 6 <|
  (xJ M_L_law (d + 1) 18 Q)) <|
  x_push (vi 0) <|
  x_zret Q,
  x_aload 1 <|
  x_aload 0 <|
  x_iload 3 <|
  x_push (vi 1) <|
  x_bin oadd <|
  x_ialoadL <|
  x_aload 0 <|
  x_iload 3 <|
  x_push (vi 2) <|
  x_bin oadd <|
  x_ialoadL <|
  x_aload 0 <|
  x_iload 3 <|
  x_push (vi 3) <|
  x_bin oadd <|
  x_ialoadL <|
  x_aload 0 <|
  x_iload 3 <|
  x_push (vi 4) <|
  x_bin oadd <|
  x_ialoadL <|
  x_aload 0 <|
  x_iload 3 <|
  x_push (vi 5) <|
  x_bin oadd <|
  x_ialoadL <|
  x_cV5 M_X5_copy d 5 <|
  x_aload 2 <|
  x_aload 0 <|
  x_iload 3 <|
  x_push (vi 1) <|
  x_bin oadd <|
  x_ialoadL <|
  x_aload 0 <|
  x_iload 3 <|
  x_push (vi 2) <|
  x_bin oadd <|
  x_ialoadL <|
  x_aload 0 <|
  x_iload 3 <|
  x_push (vi 3) <|
  x_bin oadd <|
  x_ialoadL <|
  x_aload 0 <|
  x_iload 3 <|
  x_push (vi 4) <|
  x_bin oadd <|
  x_ialoadL <|
  x_aload 0 <|
  x_iload 3 <|
  x_push (vi 5) <|
  x_bin oadd <|
  x_ialoadL <|
  x_cV5 M_X6_copy d 6 <|
  x_c2 (fun x y => x = y) (
  x_iinc 3 6 <|
  (xJ M_L_law (d + 1) 18 Q)) <|
  x_push (vi 0) <|
  x_zret Q,
  x_aload 1 <|
  x_aload 0 <|
  x_iload 3 <|
  x_push (vi 1) <|
  x_bin oadd <|
  x_ialoadL <|
  x_aload 0 <|
  x_iload 3 <|
  x_push (vi 2) <|
  x_bin oadd <|
  x_ialoadL <|
  x_aload 0 <|
  x_iload 3 <|
  x_push (vi 3) <|
  x_bin oadd <|
  x_ialoadL <|
  x_aload 0 <|
  x_iload 3 <|
  x_push (vi 4) <|
  x_bin oadd <|
  x_ialoadL <|
  x_cV4 M_X5_figures d 5 <|
  x_aload 2 <|
  x_aload 0 <|
  x_iload 3 <|
  x_push (vi 1) <|
  x_bin oadd <|
  x_ialoadL <|
  x_aload 0 <|
  x_iload 3 <|
  x_push (vi 2) <|
  x_bin oadd <|
  x_ialoadL <|
  x_aload 0 <|
  x_iload 3 <|
  x_push (vi 3) <|
  x_bin oadd <|
  x_ialoadL <|
  x_aload 0 <|
  x_iload 3 <|
  x_push (vi 4) <|
  x_bin oadd <|
  x_ialoadL <|
  x_cV4 M_X6_figures d 6 <|
  x_c2 (fun x y => x = y) (
  x_iinc 3 6 <|
  (xJ M_L_law (d + 1) 18 Q)) <|
  x_push (vi 0) <|
  x_zret Q,
  x_aload 1 <|
  x_aload 0 <|
  x_iload 3 <|
  x_push (vi 1) <|
  x_bin oadd <|
  x_ialoadL <|
  x_aload 0 <|
  x_iload 3 <|
  x_push (vi 2) <|
  x_bin oadd <|
  x_ialoadL <|
  x_cV2 M_X5_taken d 5 <|
  x_aload 2 <|
  x_aload 0 <|
  x_iload 3 <|
  x_push (vi 1) <|
  x_bin oadd <|
  x_ialoadL <|
  x_aload 0 <|
  x_iload 3 <|
  x_push (vi 2) <|
  x_bin oadd <|
  x_ialoadL <|
  x_cV2 M_X6_taken d 6 <|
  x_c2 (fun x y => x = y) (
  x_iinc 3 6 <|
  (xJ M_L_law (d + 1) 18 Q)) <|
  x_push (vi 0) <|
  x_zret Q] (
  x_iinc 3 6 <|
  (xJ M_L_law (d + 1) 18 Q))
set_option maxRecDepth 100000 in
theorem b_L_law_18 {d : Nat} {Q : xV → xMem → Prop} : Snd M_L_law (d + 1) 18 Q (k_L_law_18 d Q) :=
  s_iload_n dL_law_18 rfl <|
  s_aload_n dL_law_19 rfl <|
  s_alenL dL_law_20 <|
  s_bipush dL_law_21 rfl (by decide) <|
  s_isub dL_law_23 <|
  s_icmp_gt (t := 1081) dL_law_24 rfl (
  s_iconst dL_law_1081 rfl <|
  s_zreturn dL_law_1082 rfl) <|
  s_aload_n dL_law_27 rfl <|
  s_iload_n dL_law_28 rfl <|
  s_ialoadL dL_law_29 <|
  s_bipush dL_law_30 rfl (by decide) <|
  s_iand dL_law_32 <|
  s_tsw (t := 1075) (offs := [127, 170, 213, 246, 279, 322, 345, 358, 381, 414, 437, 470, 493, 516, 539, 572, 595, 638, 681, 704, 758, 771, 784, 807, 850, 893, 956, 1009]) dL_law_33 rfl rfl (
  s_iinc dL_law_1075 (by decide) <|
  s_goto (t := 18) dL_law_1078 rfl <|
  s_J) ⟨⟨160, rfl, s_aload_n dL_law_160 rfl <|
  s_aload_n dL_law_161 rfl <|
  s_iload_n dL_law_162 rfl <|
  s_iconst dL_law_163 rfl <|
  s_iadd dL_law_164 <|
  s_ialoadL dL_law_165 <|
  s_aload_n dL_law_166 rfl <|
  s_iload_n dL_law_167 rfl <|
  s_iconst dL_law_168 rfl <|
  s_iadd dL_law_169 <|
  s_ialoadL dL_law_170 <|
  s_aload_n dL_law_171 rfl <|
  s_iload_n dL_law_172 rfl <|
  s_iconst dL_law_173 rfl <|
  s_iadd dL_law_174 <|
  s_ialoadL dL_law_175 <|
  s_cV3 ce_X5_set ml_L_13 im_X5_set se_X5_set xC5 dL_law_176 <|
  s_aload_n dL_law_179 rfl <|
  s_aload_n dL_law_180 rfl <|
  s_iload_n dL_law_181 rfl <|
  s_iconst dL_law_182 rfl <|
  s_iadd dL_law_183 <|
  s_ialoadL dL_law_184 <|
  s_aload_n dL_law_185 rfl <|
  s_iload_n dL_law_186 rfl <|
  s_iconst dL_law_187 rfl <|
  s_iadd dL_law_188 <|
  s_ialoadL dL_law_189 <|
  s_aload_n dL_law_190 rfl <|
  s_iload_n dL_law_191 rfl <|
  s_iconst dL_law_192 rfl <|
  s_iadd dL_law_193 <|
  s_ialoadL dL_law_194 <|
  s_cV3 ce_X6_set ml_L_17 im_X6_set se_X6_set xC6 dL_law_195 <|
  s_icmp_eq (t := 1075) dL_law_198 rfl (
  s_iinc dL_law_1075 (by decide) <|
  s_goto (t := 18) dL_law_1078 rfl <|
  s_J) <|
  s_iconst dL_law_201 rfl <|
  s_zreturn dL_law_202 rfl⟩, ⟨⟨203, rfl, s_aload_n dL_law_203 rfl <|
  s_aload_n dL_law_204 rfl <|
  s_iload_n dL_law_205 rfl <|
  s_iconst dL_law_206 rfl <|
  s_iadd dL_law_207 <|
  s_ialoadL dL_law_208 <|
  s_aload_n dL_law_209 rfl <|
  s_iload_n dL_law_210 rfl <|
  s_iconst dL_law_211 rfl <|
  s_iadd dL_law_212 <|
  s_ialoadL dL_law_213 <|
  s_aload_n dL_law_214 rfl <|
  s_iload_n dL_law_215 rfl <|
  s_iconst dL_law_216 rfl <|
  s_iadd dL_law_217 <|
  s_ialoadL dL_law_218 <|
  s_cV3 ce_X5_figure ml_L_18 im_X5_figure se_X5_figure xC5 dL_law_219 <|
  s_aload_n dL_law_222 rfl <|
  s_aload_n dL_law_223 rfl <|
  s_iload_n dL_law_224 rfl <|
  s_iconst dL_law_225 rfl <|
  s_iadd dL_law_226 <|
  s_ialoadL dL_law_227 <|
  s_aload_n dL_law_228 rfl <|
  s_iload_n dL_law_229 rfl <|
  s_iconst dL_law_230 rfl <|
  s_iadd dL_law_231 <|
  s_ialoadL dL_law_232 <|
  s_aload_n dL_law_233 rfl <|
  s_iload_n dL_law_234 rfl <|
  s_iconst dL_law_235 rfl <|
  s_iadd dL_law_236 <|
  s_ialoadL dL_law_237 <|
  s_cV3 ce_X6_figure ml_L_21 im_X6_figure se_X6_figure xC6 dL_law_238 <|
  s_icmp_eq (t := 1075) dL_law_241 rfl (
  s_iinc dL_law_1075 (by decide) <|
  s_goto (t := 18) dL_law_1078 rfl <|
  s_J) <|
  s_iconst dL_law_244 rfl <|
  s_zreturn dL_law_245 rfl⟩, ⟨⟨246, rfl, s_aload_n dL_law_246 rfl <|
  s_aload_n dL_law_247 rfl <|
  s_iload_n dL_law_248 rfl <|
  s_iconst dL_law_249 rfl <|
  s_iadd dL_law_250 <|
  s_ialoadL dL_law_251 <|
  s_aload_n dL_law_252 rfl <|
  s_iload_n dL_law_253 rfl <|
  s_iconst dL_law_254 rfl <|
  s_iadd dL_law_255 <|
  s_ialoadL dL_law_256 <|
  s_cV2 ce_X5_client ml_L_22 im_X5_client se_X5_client xC5 dL_law_257 <|
  s_aload_n dL_law_260 rfl <|
  s_aload_n dL_law_261 rfl <|
  s_iload_n dL_law_262 rfl <|
  s_iconst dL_law_263 rfl <|
  s_iadd dL_law_264 <|
  s_ialoadL dL_law_265 <|
  s_aload_n dL_law_266 rfl <|
  s_iload_n dL_law_267 rfl <|
  s_iconst dL_law_268 rfl <|
  s_iadd dL_law_269 <|
  s_ialoadL dL_law_270 <|
  s_cV2 ce_X6_client ml_L_26 im_X6_client se_X6_client xC6 dL_law_271 <|
  s_icmp_eq (t := 1075) dL_law_274 rfl (
  s_iinc dL_law_1075 (by decide) <|
  s_goto (t := 18) dL_law_1078 rfl <|
  s_J) <|
  s_iconst dL_law_277 rfl <|
  s_zreturn dL_law_278 rfl⟩, ⟨⟨279, rfl, s_aload_n dL_law_279 rfl <|
  s_aload_n dL_law_280 rfl <|
  s_iload_n dL_law_281 rfl <|
  s_iconst dL_law_282 rfl <|
  s_iadd dL_law_283 <|
  s_ialoadL dL_law_284 <|
  s_aload_n dL_law_285 rfl <|
  s_iload_n dL_law_286 rfl <|
  s_iconst dL_law_287 rfl <|
  s_iadd dL_law_288 <|
  s_ialoadL dL_law_289 <|
  s_cV2 ce_X5_told ml_L_27 im_X5_told se_X5_told xC5 dL_law_290 <|
  s_aload_n dL_law_293 rfl <|
  s_aload_n dL_law_294 rfl <|
  s_iload_n dL_law_295 rfl <|
  s_iconst dL_law_296 rfl <|
  s_iadd dL_law_297 <|
  s_ialoadL dL_law_298 <|
  s_aload_n dL_law_299 rfl <|
  s_iload_n dL_law_300 rfl <|
  s_iconst dL_law_301 rfl <|
  s_iadd dL_law_302 <|
  s_ialoadL dL_law_303 <|
  s_cV2 ce_X6_told ml_L_30 im_X6_told se_X6_told xC6 dL_law_304 <|
  s_icmp_eq (t := 1075) dL_law_307 rfl (
  s_iinc dL_law_1075 (by decide) <|
  s_goto (t := 18) dL_law_1078 rfl <|
  s_J) <|
  s_iconst dL_law_310 rfl <|
  s_zreturn dL_law_311 rfl⟩, ⟨⟨312, rfl, s_aload_n dL_law_312 rfl <|
  s_aload_n dL_law_313 rfl <|
  s_iload_n dL_law_314 rfl <|
  s_iconst dL_law_315 rfl <|
  s_iadd dL_law_316 <|
  s_ialoadL dL_law_317 <|
  s_aload_n dL_law_318 rfl <|
  s_iload_n dL_law_319 rfl <|
  s_iconst dL_law_320 rfl <|
  s_iadd dL_law_321 <|
  s_ialoadL dL_law_322 <|
  s_aload_n dL_law_323 rfl <|
  s_iload_n dL_law_324 rfl <|
  s_iconst dL_law_325 rfl <|
  s_iadd dL_law_326 <|
  s_ialoadL dL_law_327 <|
  s_cV3 ce_X5_glad ml_L_31 im_X5_glad se_X5_glad xC5 dL_law_328 <|
  s_aload_n dL_law_331 rfl <|
  s_aload_n dL_law_332 rfl <|
  s_iload_n dL_law_333 rfl <|
  s_iconst dL_law_334 rfl <|
  s_iadd dL_law_335 <|
  s_ialoadL dL_law_336 <|
  s_aload_n dL_law_337 rfl <|
  s_iload_n dL_law_338 rfl <|
  s_iconst dL_law_339 rfl <|
  s_iadd dL_law_340 <|
  s_ialoadL dL_law_341 <|
  s_aload_n dL_law_342 rfl <|
  s_iload_n dL_law_343 rfl <|
  s_iconst dL_law_344 rfl <|
  s_iadd dL_law_345 <|
  s_ialoadL dL_law_346 <|
  s_cV3 ce_X6_glad ml_L_34 im_X6_glad se_X6_glad xC6 dL_law_347 <|
  s_icmp_eq (t := 1075) dL_law_350 rfl (
  s_iinc dL_law_1075 (by decide) <|
  s_goto (t := 18) dL_law_1078 rfl <|
  s_J) <|
  s_iconst dL_law_353 rfl <|
  s_zreturn dL_law_354 rfl⟩, ⟨⟨355, rfl, s_aload_n dL_law_355 rfl <|
  s_aload_n dL_law_356 rfl <|
  s_iload_n dL_law_357 rfl <|
  s_iconst dL_law_358 rfl <|
  s_iadd dL_law_359 <|
  s_ialoadL dL_law_360 <|
  s_cV1 ce_X5_feed ml_L_35 im_X5_feed se_X5_feed xC5 dL_law_361 <|
  s_aload_n dL_law_364 rfl <|
  s_aload_n dL_law_365 rfl <|
  s_iload_n dL_law_366 rfl <|
  s_iconst dL_law_367 rfl <|
  s_iadd dL_law_368 <|
  s_ialoadL dL_law_369 <|
  s_cV1 ce_X6_feed ml_L_39 im_X6_feed se_X6_feed xC6 dL_law_370 <|
  s_icmp_eq (t := 1075) dL_law_373 rfl (
  s_iinc dL_law_1075 (by decide) <|
  s_goto (t := 18) dL_law_1078 rfl <|
  s_J) <|
  s_iconst dL_law_376 rfl <|
  s_zreturn dL_law_377 rfl⟩, ⟨⟨378, rfl, s_aload_n dL_law_378 rfl <|
  s_cV0 ce_X5_text ml_L_40 im_X5_text se_X5_text xC5 dL_law_379 <|
  s_aload_n dL_law_382 rfl <|
  s_cV0 ce_X6_text ml_L_44 im_X6_text se_X6_text xC6 dL_law_383 <|
  s_icmp_eq (t := 1075) dL_law_386 rfl (
  s_iinc dL_law_1075 (by decide) <|
  s_goto (t := 18) dL_law_1078 rfl <|
  s_J) <|
  s_iconst dL_law_389 rfl <|
  s_zreturn dL_law_390 rfl⟩, ⟨⟨391, rfl, s_aload_n dL_law_391 rfl <|
  s_aload_n dL_law_392 rfl <|
  s_iload_n dL_law_393 rfl <|
  s_iconst dL_law_394 rfl <|
  s_iadd dL_law_395 <|
  s_ialoadL dL_law_396 <|
  s_cV1 ce_X5_force ml_L_45 im_X5_force se_X5_force xC5 dL_law_397 <|
  s_aload_n dL_law_400 rfl <|
  s_aload_n dL_law_401 rfl <|
  s_iload_n dL_law_402 rfl <|
  s_iconst dL_law_403 rfl <|
  s_iadd dL_law_404 <|
  s_ialoadL dL_law_405 <|
  s_cV1 ce_X6_force ml_L_48 im_X6_force se_X6_force xC6 dL_law_406 <|
  s_icmp_eq (t := 1075) dL_law_409 rfl (
  s_iinc dL_law_1075 (by decide) <|
  s_goto (t := 18) dL_law_1078 rfl <|
  s_J) <|
  s_iconst dL_law_412 rfl <|
  s_zreturn dL_law_413 rfl⟩, ⟨⟨414, rfl, s_aload_n dL_law_414 rfl <|
  s_aload_n dL_law_415 rfl <|
  s_iload_n dL_law_416 rfl <|
  s_iconst dL_law_417 rfl <|
  s_iadd dL_law_418 <|
  s_ialoadL dL_law_419 <|
  s_aload_n dL_law_420 rfl <|
  s_iload_n dL_law_421 rfl <|
  s_iconst dL_law_422 rfl <|
  s_iadd dL_law_423 <|
  s_ialoadL dL_law_424 <|
  s_cV2 ce_X5_show ml_L_49 im_X5_show se_X5_show xC5 dL_law_425 <|
  s_aload_n dL_law_428 rfl <|
  s_aload_n dL_law_429 rfl <|
  s_iload_n dL_law_430 rfl <|
  s_iconst dL_law_431 rfl <|
  s_iadd dL_law_432 <|
  s_ialoadL dL_law_433 <|
  s_aload_n dL_law_434 rfl <|
  s_iload_n dL_law_435 rfl <|
  s_iconst dL_law_436 rfl <|
  s_iadd dL_law_437 <|
  s_ialoadL dL_law_438 <|
  s_cV2 ce_X6_show ml_L_52 im_X6_show se_X6_show xC6 dL_law_439 <|
  s_icmp_eq (t := 1075) dL_law_442 rfl (
  s_iinc dL_law_1075 (by decide) <|
  s_goto (t := 18) dL_law_1078 rfl <|
  s_J) <|
  s_iconst dL_law_445 rfl <|
  s_zreturn dL_law_446 rfl⟩, ⟨⟨447, rfl, s_aload_n dL_law_447 rfl <|
  s_aload_n dL_law_448 rfl <|
  s_iload_n dL_law_449 rfl <|
  s_iconst dL_law_450 rfl <|
  s_iadd dL_law_451 <|
  s_ialoadL dL_law_452 <|
  s_cV1 ce_X5_take ml_L_53 im_X5_take se_X5_take xC5 dL_law_453 <|
  s_aload_n dL_law_456 rfl <|
  s_aload_n dL_law_457 rfl <|
  s_iload_n dL_law_458 rfl <|
  s_iconst dL_law_459 rfl <|
  s_iadd dL_law_460 <|
  s_ialoadL dL_law_461 <|
  s_cV1 ce_X6_take ml_L_56 im_X6_take se_X6_take xC6 dL_law_462 <|
  s_icmp_eq (t := 1075) dL_law_465 rfl (
  s_iinc dL_law_1075 (by decide) <|
  s_goto (t := 18) dL_law_1078 rfl <|
  s_J) <|
  s_iconst dL_law_468 rfl <|
  s_zreturn dL_law_469 rfl⟩, ⟨⟨470, rfl, s_aload_n dL_law_470 rfl <|
  s_aload_n dL_law_471 rfl <|
  s_iload_n dL_law_472 rfl <|
  s_iconst dL_law_473 rfl <|
  s_iadd dL_law_474 <|
  s_ialoadL dL_law_475 <|
  s_aload_n dL_law_476 rfl <|
  s_iload_n dL_law_477 rfl <|
  s_iconst dL_law_478 rfl <|
  s_iadd dL_law_479 <|
  s_ialoadL dL_law_480 <|
  s_cV2 ce_X5_showing ml_L_57 im_X5_showing se_X5_showing xC5 dL_law_481 <|
  s_aload_n dL_law_484 rfl <|
  s_aload_n dL_law_485 rfl <|
  s_iload_n dL_law_486 rfl <|
  s_iconst dL_law_487 rfl <|
  s_iadd dL_law_488 <|
  s_ialoadL dL_law_489 <|
  s_aload_n dL_law_490 rfl <|
  s_iload_n dL_law_491 rfl <|
  s_iconst dL_law_492 rfl <|
  s_iadd dL_law_493 <|
  s_ialoadL dL_law_494 <|
  s_cV2 ce_X6_showing ml_L_60 im_X6_showing se_X6_showing xC6 dL_law_495 <|
  s_icmp_eq (t := 1075) dL_law_498 rfl (
  s_iinc dL_law_1075 (by decide) <|
  s_goto (t := 18) dL_law_1078 rfl <|
  s_J) <|
  s_iconst dL_law_501 rfl <|
  s_zreturn dL_law_502 rfl⟩, ⟨⟨503, rfl, s_aload_n dL_law_503 rfl <|
  s_aload_n dL_law_504 rfl <|
  s_iload_n dL_law_505 rfl <|
  s_iconst dL_law_506 rfl <|
  s_iadd dL_law_507 <|
  s_ialoadL dL_law_508 <|
  s_cV1 ce_X5_few ml_L_61 im_X5_few se_X5_few xC5 dL_law_509 <|
  s_aload_n dL_law_512 rfl <|
  s_aload_n dL_law_513 rfl <|
  s_iload_n dL_law_514 rfl <|
  s_iconst dL_law_515 rfl <|
  s_iadd dL_law_516 <|
  s_ialoadL dL_law_517 <|
  s_cV1 ce_X6_few ml_L_64 im_X6_few se_X6_few xC6 dL_law_518 <|
  s_icmp_eq (t := 1075) dL_law_521 rfl (
  s_iinc dL_law_1075 (by decide) <|
  s_goto (t := 18) dL_law_1078 rfl <|
  s_J) <|
  s_iconst dL_law_524 rfl <|
  s_zreturn dL_law_525 rfl⟩, ⟨⟨526, rfl, s_aload_n dL_law_526 rfl <|
  s_aload_n dL_law_527 rfl <|
  s_iload_n dL_law_528 rfl <|
  s_iconst dL_law_529 rfl <|
  s_iadd dL_law_530 <|
  s_ialoadL dL_law_531 <|
  s_cV1 ce_X5_missed ml_L_65 im_X5_missed se_X5_missed xC5 dL_law_532 <|
  s_aload_n dL_law_535 rfl <|
  s_aload_n dL_law_536 rfl <|
  s_iload_n dL_law_537 rfl <|
  s_iconst dL_law_538 rfl <|
  s_iadd dL_law_539 <|
  s_ialoadL dL_law_540 <|
  s_cV1 ce_X6_missed ml_L_68 im_X6_missed se_X6_missed xC6 dL_law_541 <|
  s_icmp_eq (t := 1075) dL_law_544 rfl (
  s_iinc dL_law_1075 (by decide) <|
  s_goto (t := 18) dL_law_1078 rfl <|
  s_J) <|
  s_iconst dL_law_547 rfl <|
  s_zreturn dL_law_548 rfl⟩, ⟨⟨549, rfl, s_aload_n dL_law_549 rfl <|
  s_aload_n dL_law_550 rfl <|
  s_iload_n dL_law_551 rfl <|
  s_iconst dL_law_552 rfl <|
  s_iadd dL_law_553 <|
  s_ialoadL dL_law_554 <|
  s_cV1 ce_X5_change ml_L_69 im_X5_change se_X5_change xC5 dL_law_555 <|
  s_aload_n dL_law_558 rfl <|
  s_aload_n dL_law_559 rfl <|
  s_iload_n dL_law_560 rfl <|
  s_iconst dL_law_561 rfl <|
  s_iadd dL_law_562 <|
  s_ialoadL dL_law_563 <|
  s_cV1 ce_X6_change ml_L_72 im_X6_change se_X6_change xC6 dL_law_564 <|
  s_icmp_eq (t := 1075) dL_law_567 rfl (
  s_iinc dL_law_1075 (by decide) <|
  s_goto (t := 18) dL_law_1078 rfl <|
  s_J) <|
  s_iconst dL_law_570 rfl <|
  s_zreturn dL_law_571 rfl⟩, ⟨⟨572, rfl, s_aload_n dL_law_572 rfl <|
  s_aload_n dL_law_573 rfl <|
  s_iload_n dL_law_574 rfl <|
  s_iconst dL_law_575 rfl <|
  s_iadd dL_law_576 <|
  s_ialoadL dL_law_577 <|
  s_aload_n dL_law_578 rfl <|
  s_iload_n dL_law_579 rfl <|
  s_iconst dL_law_580 rfl <|
  s_iadd dL_law_581 <|
  s_ialoadL dL_law_582 <|
  s_cV2 ce_X5_raise ml_L_73 im_X5_raise se_X5_raise xC5 dL_law_583 <|
  s_aload_n dL_law_586 rfl <|
  s_aload_n dL_law_587 rfl <|
  s_iload_n dL_law_588 rfl <|
  s_iconst dL_law_589 rfl <|
  s_iadd dL_law_590 <|
  s_ialoadL dL_law_591 <|
  s_aload_n dL_law_592 rfl <|
  s_iload_n dL_law_593 rfl <|
  s_iconst dL_law_594 rfl <|
  s_iadd dL_law_595 <|
  s_ialoadL dL_law_596 <|
  s_cV2 ce_X6_raise ml_L_76 im_X6_raise se_X6_raise xC6 dL_law_597 <|
  s_icmp_eq (t := 1075) dL_law_600 rfl (
  s_iinc dL_law_1075 (by decide) <|
  s_goto (t := 18) dL_law_1078 rfl <|
  s_J) <|
  s_iconst dL_law_603 rfl <|
  s_zreturn dL_law_604 rfl⟩, ⟨⟨605, rfl, s_aload_n dL_law_605 rfl <|
  s_aload_n dL_law_606 rfl <|
  s_iload_n dL_law_607 rfl <|
  s_iconst dL_law_608 rfl <|
  s_iadd dL_law_609 <|
  s_ialoadL dL_law_610 <|
  s_cV1 ce_X5_dear ml_L_77 im_X5_dear se_X5_dear xC5 dL_law_611 <|
  s_aload_n dL_law_614 rfl <|
  s_aload_n dL_law_615 rfl <|
  s_iload_n dL_law_616 rfl <|
  s_iconst dL_law_617 rfl <|
  s_iadd dL_law_618 <|
  s_ialoadL dL_law_619 <|
  s_cV1 ce_X6_dear ml_L_80 im_X6_dear se_X6_dear xC6 dL_law_620 <|
  s_icmp_eq (t := 1075) dL_law_623 rfl (
  s_iinc dL_law_1075 (by decide) <|
  s_goto (t := 18) dL_law_1078 rfl <|
  s_J) <|
  s_iconst dL_law_626 rfl <|
  s_zreturn dL_law_627 rfl⟩, ⟨⟨628, rfl, s_aload_n dL_law_628 rfl <|
  s_aload_n dL_law_629 rfl <|
  s_iload_n dL_law_630 rfl <|
  s_iconst dL_law_631 rfl <|
  s_iadd dL_law_632 <|
  s_ialoadL dL_law_633 <|
  s_aload_n dL_law_634 rfl <|
  s_iload_n dL_law_635 rfl <|
  s_iconst dL_law_636 rfl <|
  s_iadd dL_law_637 <|
  s_ialoadL dL_law_638 <|
  s_aload_n dL_law_639 rfl <|
  s_iload_n dL_law_640 rfl <|
  s_iconst dL_law_641 rfl <|
  s_iadd dL_law_642 <|
  s_ialoadL dL_law_643 <|
  s_cV3 ce_X5_tells ml_L_81 im_X5_tells se_X5_tells xC5 dL_law_644 <|
  s_aload_n dL_law_647 rfl <|
  s_aload_n dL_law_648 rfl <|
  s_iload_n dL_law_649 rfl <|
  s_iconst dL_law_650 rfl <|
  s_iadd dL_law_651 <|
  s_ialoadL dL_law_652 <|
  s_aload_n dL_law_653 rfl <|
  s_iload_n dL_law_654 rfl <|
  s_iconst dL_law_655 rfl <|
  s_iadd dL_law_656 <|
  s_ialoadL dL_law_657 <|
  s_aload_n dL_law_658 rfl <|
  s_iload_n dL_law_659 rfl <|
  s_iconst dL_law_660 rfl <|
  s_iadd dL_law_661 <|
  s_ialoadL dL_law_662 <|
  s_cV3 ce_X6_tells ml_L_84 im_X6_tells se_X6_tells xC6 dL_law_663 <|
  s_icmp_eq (t := 1075) dL_law_666 rfl (
  s_iinc dL_law_1075 (by decide) <|
  s_goto (t := 18) dL_law_1078 rfl <|
  s_J) <|
  s_iconst dL_law_669 rfl <|
  s_zreturn dL_law_670 rfl⟩, ⟨⟨671, rfl, s_aload_n dL_law_671 rfl <|
  s_aload_n dL_law_672 rfl <|
  s_iload_n dL_law_673 rfl <|
  s_iconst dL_law_674 rfl <|
  s_iadd dL_law_675 <|
  s_ialoadL dL_law_676 <|
  s_aload_n dL_law_677 rfl <|
  s_iload_n dL_law_678 rfl <|
  s_iconst dL_law_679 rfl <|
  s_iadd dL_law_680 <|
  s_ialoadL dL_law_681 <|
  s_aload_n dL_law_682 rfl <|
  s_iload_n dL_law_683 rfl <|
  s_iconst dL_law_684 rfl <|
  s_iadd dL_law_685 <|
  s_ialoadL dL_law_686 <|
  s_cV3 ce_X5_film ml_L_85 im_X5_film se_X5_film xC5 dL_law_687 <|
  s_aload_n dL_law_690 rfl <|
  s_aload_n dL_law_691 rfl <|
  s_iload_n dL_law_692 rfl <|
  s_iconst dL_law_693 rfl <|
  s_iadd dL_law_694 <|
  s_ialoadL dL_law_695 <|
  s_aload_n dL_law_696 rfl <|
  s_iload_n dL_law_697 rfl <|
  s_iconst dL_law_698 rfl <|
  s_iadd dL_law_699 <|
  s_ialoadL dL_law_700 <|
  s_aload_n dL_law_701 rfl <|
  s_iload_n dL_law_702 rfl <|
  s_iconst dL_law_703 rfl <|
  s_iadd dL_law_704 <|
  s_ialoadL dL_law_705 <|
  s_cV3 ce_X6_film ml_L_88 im_X6_film se_X6_film xC6 dL_law_706 <|
  s_icmp_eq (t := 1075) dL_law_709 rfl (
  s_iinc dL_law_1075 (by decide) <|
  s_goto (t := 18) dL_law_1078 rfl <|
  s_J) <|
  s_iconst dL_law_712 rfl <|
  s_zreturn dL_law_713 rfl⟩, ⟨⟨714, rfl, s_aload_n dL_law_714 rfl <|
  s_aload_n dL_law_715 rfl <|
  s_iload_n dL_law_716 rfl <|
  s_iconst dL_law_717 rfl <|
  s_iadd dL_law_718 <|
  s_ialoadL dL_law_719 <|
  s_cV1 ce_X5_drawn ml_L_89 im_X5_drawn se_X5_drawn xC5 dL_law_720 <|
  s_aload_n dL_law_723 rfl <|
  s_aload_n dL_law_724 rfl <|
  s_iload_n dL_law_725 rfl <|
  s_iconst dL_law_726 rfl <|
  s_iadd dL_law_727 <|
  s_ialoadL dL_law_728 <|
  s_cV1 ce_X6_drawn ml_L_92 im_X6_drawn se_X6_drawn xC6 dL_law_729 <|
  s_icmp_eq (t := 1075) dL_law_732 rfl (
  s_iinc dL_law_1075 (by decide) <|
  s_goto (t := 18) dL_law_1078 rfl <|
  s_J) <|
  s_iconst dL_law_735 rfl <|
  s_zreturn dL_law_736 rfl⟩, ⟨⟨737, rfl, s_aload_n dL_law_737 rfl <|
  s_aload_n dL_law_738 rfl <|
  s_iload_n dL_law_739 rfl <|
  s_iconst dL_law_740 rfl <|
  s_iadd dL_law_741 <|
  s_ialoadL dL_law_742 <|
  s_aload_n dL_law_743 rfl <|
  s_iload_n dL_law_744 rfl <|
  s_iconst dL_law_745 rfl <|
  s_iadd dL_law_746 <|
  s_ialoadL dL_law_747 <|
  s_aload_n dL_law_748 rfl <|
  s_iload_n dL_law_749 rfl <|
  s_iconst dL_law_750 rfl <|
  s_iadd dL_law_751 <|
  s_ialoadL dL_law_752 <|
  s_aload_n dL_law_753 rfl <|
  s_iload_n dL_law_754 rfl <|
  s_iconst dL_law_755 rfl <|
  s_iadd dL_law_756 <|
  s_ialoadL dL_law_757 <|
  s_cV4 ce_X5_chance ml_L_93 im_X5_chance se_X5_chance xC5 dL_law_758 <|
  s_aload_n dL_law_761 rfl <|
  s_aload_n dL_law_762 rfl <|
  s_iload_n dL_law_763 rfl <|
  s_iconst dL_law_764 rfl <|
  s_iadd dL_law_765 <|
  s_ialoadL dL_law_766 <|
  s_aload_n dL_law_767 rfl <|
  s_iload_n dL_law_768 rfl <|
  s_iconst dL_law_769 rfl <|
  s_iadd dL_law_770 <|
  s_ialoadL dL_law_771 <|
  s_aload_n dL_law_772 rfl <|
  s_iload_n dL_law_773 rfl <|
  s_iconst dL_law_774 rfl <|
  s_iadd dL_law_775 <|
  s_ialoadL dL_law_776 <|
  s_aload_n dL_law_777 rfl <|
  s_iload_n dL_law_778 rfl <|
  s_iconst dL_law_779 rfl <|
  s_iadd dL_law_780 <|
  s_ialoadL dL_law_781 <|
  s_cV4 ce_X6_chance ml_L_97 im_X6_chance se_X6_chance xC6 dL_law_782 <|
  s_lcmp dL_law_785 <|
  s_if_eq (t := 1075) dL_law_786 rfl (
  s_iinc dL_law_1075 (by decide) <|
  s_goto (t := 18) dL_law_1078 rfl <|
  s_J) <|
  s_iconst dL_law_789 rfl <|
  s_zreturn dL_law_790 rfl⟩, ⟨⟨791, rfl, s_aload_n dL_law_791 rfl <|
  s_cV0 ce_X5_image ml_L_98 im_X5_image se_X5_image xC5 dL_law_792 <|
  s_aload_n dL_law_795 rfl <|
  s_cV0 ce_X6_image ml_L_101 im_X6_image se_X6_image xC6 dL_law_796 <|
  s_icmp_eq (t := 1075) dL_law_799 rfl (
  s_iinc dL_law_1075 (by decide) <|
  s_goto (t := 18) dL_law_1078 rfl <|
  s_J) <|
  s_iconst dL_law_802 rfl <|
  s_zreturn dL_law_803 rfl⟩, ⟨⟨804, rfl, s_aload_n dL_law_804 rfl <|
  s_cV0 ce_X5_back ml_L_102 im_X5_back se_X5_back xC5 dL_law_805 <|
  s_aload_n dL_law_808 rfl <|
  s_cV0 ce_X6_back ml_L_105 im_X6_back se_X6_back xC6 dL_law_809 <|
  s_icmp_eq (t := 1075) dL_law_812 rfl (
  s_iinc dL_law_1075 (by decide) <|
  s_goto (t := 18) dL_law_1078 rfl <|
  s_J) <|
  s_iconst dL_law_815 rfl <|
  s_zreturn dL_law_816 rfl⟩, ⟨⟨817, rfl, s_aload_n dL_law_817 rfl <|
  s_aload_n dL_law_818 rfl <|
  s_iload_n dL_law_819 rfl <|
  s_iconst dL_law_820 rfl <|
  s_iadd dL_law_821 <|
  s_ialoadL dL_law_822 <|
  s_cV1 ce_X5_count ml_L_106 im_X5_count se_X5_count xC5 dL_law_823 <|
  s_aload_n dL_law_826 rfl <|
  s_aload_n dL_law_827 rfl <|
  s_iload_n dL_law_828 rfl <|
  s_iconst dL_law_829 rfl <|
  s_iadd dL_law_830 <|
  s_ialoadL dL_law_831 <|
  s_cV1 ce_X6_count ml_L_109 im_X6_count se_X6_count xC6 dL_law_832 <|
  s_icmp_eq (t := 1075) dL_law_835 rfl (
  s_iinc dL_law_1075 (by decide) <|
  s_goto (t := 18) dL_law_1078 rfl <|
  s_J) <|
  s_iconst dL_law_838 rfl <|
  s_zreturn dL_law_839 rfl⟩, ⟨⟨840, rfl, s_aload_n dL_law_840 rfl <|
  s_aload_n dL_law_841 rfl <|
  s_iload_n dL_law_842 rfl <|
  s_iconst dL_law_843 rfl <|
  s_iadd dL_law_844 <|
  s_ialoadL dL_law_845 <|
  s_aload_n dL_law_846 rfl <|
  s_iload_n dL_law_847 rfl <|
  s_iconst dL_law_848 rfl <|
  s_iadd dL_law_849 <|
  s_ialoadL dL_law_850 <|
  s_aload_n dL_law_851 rfl <|
  s_iload_n dL_law_852 rfl <|
  s_iconst dL_law_853 rfl <|
  s_iadd dL_law_854 <|
  s_ialoadL dL_law_855 <|
  s_cV3 ce_X5_sheet ml_L_110 im_X5_sheet se_X5_sheet xC5 dL_law_856 <|
  s_aload_n dL_law_859 rfl <|
  s_aload_n dL_law_860 rfl <|
  s_iload_n dL_law_861 rfl <|
  s_iconst dL_law_862 rfl <|
  s_iadd dL_law_863 <|
  s_ialoadL dL_law_864 <|
  s_aload_n dL_law_865 rfl <|
  s_iload_n dL_law_866 rfl <|
  s_iconst dL_law_867 rfl <|
  s_iadd dL_law_868 <|
  s_ialoadL dL_law_869 <|
  s_aload_n dL_law_870 rfl <|
  s_iload_n dL_law_871 rfl <|
  s_iconst dL_law_872 rfl <|
  s_iadd dL_law_873 <|
  s_ialoadL dL_law_874 <|
  s_cV3 ce_X6_sheet ml_L_113 im_X6_sheet se_X6_sheet xC6 dL_law_875 <|
  s_icmp_eq (t := 1075) dL_law_878 rfl (
  s_iinc dL_law_1075 (by decide) <|
  s_goto (t := 18) dL_law_1078 rfl <|
  s_J) <|
  s_iconst dL_law_881 rfl <|
  s_zreturn dL_law_882 rfl⟩, ⟨⟨883, rfl, s_aload_n dL_law_883 rfl <|
  s_aload_n dL_law_884 rfl <|
  s_iload_n dL_law_885 rfl <|
  s_iconst dL_law_886 rfl <|
  s_iadd dL_law_887 <|
  s_ialoadL dL_law_888 <|
  s_aload_n dL_law_889 rfl <|
  s_iload_n dL_law_890 rfl <|
  s_iconst dL_law_891 rfl <|
  s_iadd dL_law_892 <|
  s_ialoadL dL_law_893 <|
  s_aload_n dL_law_894 rfl <|
  s_iload_n dL_law_895 rfl <|
  s_iconst dL_law_896 rfl <|
  s_iadd dL_law_897 <|
  s_ialoadL dL_law_898 <|
  s_cV3 ce_X5_cell ml_L_114 im_X5_cell se_X5_cell xC5 dL_law_899 <|
  s_aload_n dL_law_902 rfl <|
  s_aload_n dL_law_903 rfl <|
  s_iload_n dL_law_904 rfl <|
  s_iconst dL_law_905 rfl <|
  s_iadd dL_law_906 <|
  s_ialoadL dL_law_907 <|
  s_aload_n dL_law_908 rfl <|
  s_iload_n dL_law_909 rfl <|
  s_iconst dL_law_910 rfl <|
  s_iadd dL_law_911 <|
  s_ialoadL dL_law_912 <|
  s_aload_n dL_law_913 rfl <|
  s_iload_n dL_law_914 rfl <|
  s_iconst dL_law_915 rfl <|
  s_iadd dL_law_916 <|
  s_ialoadL dL_law_917 <|
  s_cV3 ce_X6_cell ml_L_117 im_X6_cell se_X6_cell xC6 dL_law_918 <|
  s_icmp_eq (t := 1075) dL_law_921 rfl (
  s_iinc dL_law_1075 (by decide) <|
  s_goto (t := 18) dL_law_1078 rfl <|
  s_J) <|
  s_iconst dL_law_924 rfl <|
  s_zreturn dL_law_925 rfl⟩, ⟨⟨926, rfl, s_aload_n dL_law_926 rfl <|
  s_aload_n dL_law_927 rfl <|
  s_iload_n dL_law_928 rfl <|
  s_iconst dL_law_929 rfl <|
  s_iadd dL_law_930 <|
  s_ialoadL dL_law_931 <|
  s_aload_n dL_law_932 rfl <|
  s_iload_n dL_law_933 rfl <|
  s_iconst dL_law_934 rfl <|
  s_iadd dL_law_935 <|
  s_ialoadL dL_law_936 <|
  s_aload_n dL_law_937 rfl <|
  s_iload_n dL_law_938 rfl <|
  s_iconst dL_law_939 rfl <|
  s_iadd dL_law_940 <|
  s_ialoadL dL_law_941 <|
  s_aload_n dL_law_942 rfl <|
  s_iload_n dL_law_943 rfl <|
  s_iconst dL_law_944 rfl <|
  s_iadd dL_law_945 <|
  s_ialoadL dL_law_946 <|
  s_aload_n dL_law_947 rfl <|
  s_iload_n dL_law_948 rfl <|
  s_iconst dL_law_949 rfl <|
  s_iadd dL_law_950 <|
  s_ialoadL dL_law_951 <|
  s_cV5 ce_X5_copy ml_L_118 im_X5_copy se_X5_copy xC5 dL_law_952 <|
  s_aload_n dL_law_955 rfl <|
  s_aload_n dL_law_956 rfl <|
  s_iload_n dL_law_957 rfl <|
  s_iconst dL_law_958 rfl <|
  s_iadd dL_law_959 <|
  s_ialoadL dL_law_960 <|
  s_aload_n dL_law_961 rfl <|
  s_iload_n dL_law_962 rfl <|
  s_iconst dL_law_963 rfl <|
  s_iadd dL_law_964 <|
  s_ialoadL dL_law_965 <|
  s_aload_n dL_law_966 rfl <|
  s_iload_n dL_law_967 rfl <|
  s_iconst dL_law_968 rfl <|
  s_iadd dL_law_969 <|
  s_ialoadL dL_law_970 <|
  s_aload_n dL_law_971 rfl <|
  s_iload_n dL_law_972 rfl <|
  s_iconst dL_law_973 rfl <|
  s_iadd dL_law_974 <|
  s_ialoadL dL_law_975 <|
  s_aload_n dL_law_976 rfl <|
  s_iload_n dL_law_977 rfl <|
  s_iconst dL_law_978 rfl <|
  s_iadd dL_law_979 <|
  s_ialoadL dL_law_980 <|
  s_cV5 ce_X6_copy ml_L_122 im_X6_copy se_X6_copy xC6 dL_law_981 <|
  s_icmp_eq (t := 1075) dL_law_984 rfl (
  s_iinc dL_law_1075 (by decide) <|
  s_goto (t := 18) dL_law_1078 rfl <|
  s_J) <|
  s_iconst dL_law_987 rfl <|
  s_zreturn dL_law_988 rfl⟩, ⟨⟨989, rfl, s_aload_n dL_law_989 rfl <|
  s_aload_n dL_law_990 rfl <|
  s_iload_n dL_law_991 rfl <|
  s_iconst dL_law_992 rfl <|
  s_iadd dL_law_993 <|
  s_ialoadL dL_law_994 <|
  s_aload_n dL_law_995 rfl <|
  s_iload_n dL_law_996 rfl <|
  s_iconst dL_law_997 rfl <|
  s_iadd dL_law_998 <|
  s_ialoadL dL_law_999 <|
  s_aload_n dL_law_1000 rfl <|
  s_iload_n dL_law_1001 rfl <|
  s_iconst dL_law_1002 rfl <|
  s_iadd dL_law_1003 <|
  s_ialoadL dL_law_1004 <|
  s_aload_n dL_law_1005 rfl <|
  s_iload_n dL_law_1006 rfl <|
  s_iconst dL_law_1007 rfl <|
  s_iadd dL_law_1008 <|
  s_ialoadL dL_law_1009 <|
  s_cV4 ce_X5_figures ml_L_123 im_X5_figures se_X5_figures xC5 dL_law_1010 <|
  s_aload_n dL_law_1013 rfl <|
  s_aload_n dL_law_1014 rfl <|
  s_iload_n dL_law_1015 rfl <|
  s_iconst dL_law_1016 rfl <|
  s_iadd dL_law_1017 <|
  s_ialoadL dL_law_1018 <|
  s_aload_n dL_law_1019 rfl <|
  s_iload_n dL_law_1020 rfl <|
  s_iconst dL_law_1021 rfl <|
  s_iadd dL_law_1022 <|
  s_ialoadL dL_law_1023 <|
  s_aload_n dL_law_1024 rfl <|
  s_iload_n dL_law_1025 rfl <|
  s_iconst dL_law_1026 rfl <|
  s_iadd dL_law_1027 <|
  s_ialoadL dL_law_1028 <|
  s_aload_n dL_law_1029 rfl <|
  s_iload_n dL_law_1030 rfl <|
  s_iconst dL_law_1031 rfl <|
  s_iadd dL_law_1032 <|
  s_ialoadL dL_law_1033 <|
  s_cV4 ce_X6_figures ml_L_127 im_X6_figures se_X6_figures xC6 dL_law_1034 <|
  s_icmp_eq (t := 1075) dL_law_1037 rfl (
  s_iinc dL_law_1075 (by decide) <|
  s_goto (t := 18) dL_law_1078 rfl <|
  s_J) <|
  s_iconst dL_law_1040 rfl <|
  s_zreturn dL_law_1041 rfl⟩, ⟨⟨1042, rfl, s_aload_n dL_law_1042 rfl <|
  s_aload_n dL_law_1043 rfl <|
  s_iload_n dL_law_1044 rfl <|
  s_iconst dL_law_1045 rfl <|
  s_iadd dL_law_1046 <|
  s_ialoadL dL_law_1047 <|
  s_aload_n dL_law_1048 rfl <|
  s_iload_n dL_law_1049 rfl <|
  s_iconst dL_law_1050 rfl <|
  s_iadd dL_law_1051 <|
  s_ialoadL dL_law_1052 <|
  s_cV2 ce_X5_taken ml_L_128 im_X5_taken se_X5_taken xC5 dL_law_1053 <|
  s_aload_n dL_law_1056 rfl <|
  s_aload_n dL_law_1057 rfl <|
  s_iload_n dL_law_1058 rfl <|
  s_iconst dL_law_1059 rfl <|
  s_iadd dL_law_1060 <|
  s_ialoadL dL_law_1061 <|
  s_aload_n dL_law_1062 rfl <|
  s_iload_n dL_law_1063 rfl <|
  s_iconst dL_law_1064 rfl <|
  s_iadd dL_law_1065 <|
  s_ialoadL dL_law_1066 <|
  s_cV2 ce_X6_taken ml_L_131 im_X6_taken se_X6_taken xC6 dL_law_1067 <|
  s_icmp_eq (t := 1075) dL_law_1070 rfl (
  s_iinc dL_law_1075 (by decide) <|
  s_goto (t := 18) dL_law_1078 rfl <|
  s_J) <|
  s_iconst dL_law_1073 rfl <|
  s_zreturn dL_law_1074 rfl⟩, trivial⟩⟩⟩⟩⟩⟩⟩⟩⟩⟩⟩⟩⟩⟩⟩⟩⟩⟩⟩⟩⟩⟩⟩⟩⟩⟩⟩⟩
-- L_law: cuts [0, 18]
