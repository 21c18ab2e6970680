/-! code of methods as trees of pure instructions: printed by wip/whole/gen.py -/
def k_X5_set_0 (d : Nat) (Q : xV → xMem → Prop) : xP :=
  x_aload 0 <|
  x_getR 5 3 <|
  x_iload 1 <|
  x_iload 2 <|
  x_cV2 M_X4_has d 4 <|
  x_c1 (fun x => x = 0) (
  x_push (vi (-2)) <|
  x_ret Q) <|
  x_iload 1 <|
  x_iload 3 <|
  x_cS2 M_X5_fits d <|
  x_c1 (fun x => ¬ x = 0) (
  x_aload 0 <|
  x_getR 5 3 <|
  x_iload 1 <|
  x_iload 2 <|
  x_cV2 M_X4_property d 4 <|
  x_istore 4 <|
  x_aload 0 <|
  x_getR 5 3 <|
  x_iload 1 <|
  x_iload 2 <|
  x_iload 3 <|
  x_cV3 M_X4_alter d 4 <|
  x_iload 4 <|
  x_ret Q) <|
  x_push (vi (-2)) <|
  x_ret Q
set_option maxRecDepth 100000 in
theorem b_X5_set_0 {d : Nat} {Q : xV → xMem → Prop} : Snd M_X5_set (d + 1) 0 Q (k_X5_set_0 d Q) :=
  s_aload_n dX5_set_0 rfl <|
  s_getR xC5 (by decide) (fun _ _ _ => rfl) fl_X5_42 dX5_set_1 <|
  s_iload_n dX5_set_4 rfl <|
  s_iload_n dX5_set_5 rfl <|
  s_cV2 ce_X4_has ml_X5_79 im_X4_has se_X4_has xC4 dX5_set_6 <|
  s_if_eq (t := 20) dX5_set_9 rfl (
  s_bipush dX5_set_20 rfl (by decide) <|
  s_ireturn dX5_set_22 rfl) <|
  s_iload_n dX5_set_12 rfl <|
  s_iload_n dX5_set_13 rfl <|
  s_cS2 ce_X5_fits ml_X5_83 sm_X5_fits dX5_set_14 <|
  s_if_ne (t := 23) dX5_set_17 rfl (
  s_aload_n dX5_set_23 rfl <|
  s_getR xC5 (by decide) (fun _ _ _ => rfl) fl_X5_42 dX5_set_24 <|
  s_iload_n dX5_set_27 rfl <|
  s_iload_n dX5_set_28 rfl <|
  s_cV2 ce_X4_property ml_X5_86 im_X4_property se_X4_property xC4 dX5_set_29 <|
  s_istore dX5_set_32 (by decide) <|
  s_aload_n dX5_set_34 rfl <|
  s_getR xC5 (by decide) (fun _ _ _ => rfl) fl_X5_42 dX5_set_35 <|
  s_iload_n dX5_set_38 rfl <|
  s_iload_n dX5_set_39 rfl <|
  s_iload_n dX5_set_40 rfl <|
  s_cV3 ce_X4_alter ml_X5_90 im_X4_alter se_X4_alter xC4 dX5_set_41 <|
  s_iload dX5_set_44 <|
  s_ireturn dX5_set_46 rfl) <|
  s_bipush dX5_set_20 rfl (by decide) <|
  s_ireturn dX5_set_22 rfl
-- X5_set: cuts [0]
def k_X5_figure_0 (d : Nat) (Q : xV → xMem → Prop) : xP :=
  x_aload 0 <|
  x_getR 5 3 <|
  x_iload 1 <|
  x_iload 2 <|
  x_iload 3 <|
  x_cV3 M_X4_addFigure d 4 <|
  x_ret Q
set_option maxRecDepth 100000 in
theorem b_X5_figure_0 {d : Nat} {Q : xV → xMem → Prop} : Snd M_X5_figure (d + 1) 0 Q (k_X5_figure_0 d Q) :=
  s_aload_n dX5_figure_0 rfl <|
  s_getR xC5 (by decide) (fun _ _ _ => rfl) fl_X5_42 dX5_figure_1 <|
  s_iload_n dX5_figure_4 rfl <|
  s_iload_n dX5_figure_5 rfl <|
  s_iload_n dX5_figure_6 rfl <|
  s_cV3 ce_X4_addFigure ml_X5_94 im_X4_addFigure se_X4_addFigure xC4 dX5_figure_7 <|
  s_ireturn dX5_figure_10 rfl
-- X5_figure: cuts [0]
def k_X5_client_0 (d : Nat) (Q : xV → xMem → Prop) : xP :=
  x_iload 1 <|
  x_c1 (fun x => x < 0) (
  x_push (vi (-2)) <|
  x_ret Q) <|
  x_iload 1 <|
  x_push (vi 12) <|
  x_c2 (fun x y => y ≤ x) (
  x_push (vi (-2)) <|
  x_ret Q) <|
  x_iload 2 <|
  x_c1 (fun x => x < 0) (
  x_push (vi (-2)) <|
  x_ret Q) <|
  x_iload 2 <|
  x_push (vi 63) <|
  x_c2 (fun x y => x ≤ y) (
  x_aload 0 <|
  x_getR 5 3 <|
  x_iload 1 <|
  x_iload 2 <|
  x_cV2 M_X4_addClient d 4 <|
  x_ret Q) <|
  x_push (vi (-2)) <|
  x_ret Q
set_option maxRecDepth 100000 in
theorem b_X5_client_0 {d : Nat} {Q : xV → xMem → Prop} : Snd M_X5_client (d + 1) 0 Q (k_X5_client_0 d Q) :=
  s_iload_n dX5_client_0 rfl <|
  s_if_lt (t := 20) dX5_client_1 rfl (
  s_bipush dX5_client_20 rfl (by decide) <|
  s_ireturn dX5_client_22 rfl) <|
  s_iload_n dX5_client_4 rfl <|
  s_bipush dX5_client_5 rfl (by decide) <|
  s_icmp_ge (t := 20) dX5_client_7 rfl (
  s_bipush dX5_client_20 rfl (by decide) <|
  s_ireturn dX5_client_22 rfl) <|
  s_iload_n dX5_client_10 rfl <|
  s_if_lt (t := 20) dX5_client_11 rfl (
  s_bipush dX5_client_20 rfl (by decide) <|
  s_ireturn dX5_client_22 rfl) <|
  s_iload_n dX5_client_14 rfl <|
  s_bipush dX5_client_15 rfl (by decide) <|
  s_icmp_le (t := 23) dX5_client_17 rfl (
  s_aload_n dX5_client_23 rfl <|
  s_getR xC5 (by decide) (fun _ _ _ => rfl) fl_X5_42 dX5_client_24 <|
  s_iload_n dX5_client_27 rfl <|
  s_iload_n dX5_client_28 rfl <|
  s_cV2 ce_X4_addClient ml_X5_98 im_X4_addClient se_X4_addClient xC4 dX5_client_29 <|
  s_ireturn dX5_client_32 rfl) <|
  s_bipush dX5_client_20 rfl (by decide) <|
  s_ireturn dX5_client_22 rfl
-- X5_client: cuts [0]
def k_X5_told_0 (d : Nat) (Q : xV → xMem → Prop) : xP :=
  x_iload 2 <|
  x_c1 (fun x => x < 0) (
  (xJ M_X5_told (d + 1) 37 Q)) <|
  x_iload 2 <|
  x_push (vi 6) <|
  x_c2 (fun x y => y < x) (
  (xJ M_X5_told (d + 1) 37 Q)) <|
  x_aload 0 <|
  x_getR 5 3 <|
  x_iload 2 <|
  x_iload 1 <|
  x_cV2 M_X4_has d 4 <|
  x_c1 (fun x => x = 0) (
  x_push (vi (-2)) <|
  x_ret Q) <|
  x_aload 0 <|
  x_getR 5 3 <|
  x_iload 2 <|
  x_iload 1 <|
  x_cV2 M_X4_property d 4 <|
  x_ret Q
set_option maxRecDepth 100000 in
theorem b_X5_told_0 {d : Nat} {Q : xV → xMem → Prop} : Snd M_X5_told (d + 1) 0 Q (k_X5_told_0 d Q) :=
  s_iload_n dX5_told_0 rfl <|
  s_if_lt (t := 37) dX5_told_1 rfl (
  s_J) <|
  s_iload_n dX5_told_4 rfl <|
  s_bipush dX5_told_5 rfl (by decide) <|
  s_icmp_gt (t := 37) dX5_told_7 rfl (
  s_J) <|
  s_aload_n dX5_told_10 rfl <|
  s_getR xC5 (by decide) (fun _ _ _ => rfl) fl_X5_42 dX5_told_11 <|
  s_iload_n dX5_told_14 rfl <|
  s_iload_n dX5_told_15 rfl <|
  s_cV2 ce_X4_has ml_X5_79 im_X4_has se_X4_has xC4 dX5_told_16 <|
  s_if_eq (t := 34) dX5_told_19 rfl (
  s_bipush dX5_told_34 rfl (by decide) <|
  s_ireturn dX5_told_36 rfl) <|
  s_aload_n dX5_told_22 rfl <|
  s_getR xC5 (by decide) (fun _ _ _ => rfl) fl_X5_42 dX5_told_23 <|
  s_iload_n dX5_told_26 rfl <|
  s_iload_n dX5_told_27 rfl <|
  s_cV2 ce_X4_property ml_X5_86 im_X4_property se_X4_property xC4 dX5_told_28 <|
  s_goto (t := 36) dX5_told_31 rfl <|
  s_ireturn dX5_told_36 rfl
def k_X5_told_37 (d : Nat) (Q : xV → xMem → Prop) : xP :=
  x_aload 0 <|
  x_getR 5 3 <|
  x_iload 1 <|
  x_cV1 M_X4_hasFigure d 4 <|
  x_c1 (fun x => ¬ x = 0) (
  x_iload 2 <|
  x_push (vi 7) <|
  x_c2 (fun x y => ¬ x = y) (
  x_iload 2 <|
  x_push (vi 10) <|
  x_c2 (fun x y => x < y) (
  (xJ M_X5_told (d + 1) 91 Q)) <|
  x_iload 2 <|
  x_push (vi 22) <|
  x_c2 (fun x y => y ≤ x) (
  (xJ M_X5_told (d + 1) 91 Q)) <|
  x_aload 0 <|
  x_getR 5 3 <|
  x_iload 1 <|
  x_iload 2 <|
  x_push (vi 10) <|
  x_bin osub <|
  x_cV2 M_X4_costs d 4 <|
  x_ret Q) <|
  x_aload 0 <|
  x_getR 5 3 <|
  x_iload 1 <|
  x_cV1 M_X4_asked d 4 <|
  x_ret Q) <|
  x_push (vi (-2)) <|
  x_ret Q
set_option maxRecDepth 100000 in
theorem b_X5_told_37 {d : Nat} {Q : xV → xMem → Prop} : Snd M_X5_told (d + 1) 37 Q (k_X5_told_37 d Q) :=
  s_aload_n dX5_told_37 rfl <|
  s_getR xC5 (by decide) (fun _ _ _ => rfl) fl_X5_42 dX5_told_38 <|
  s_iload_n dX5_told_41 rfl <|
  s_cV1 ce_X4_hasFigure ml_X5_101 im_X4_hasFigure se_X4_hasFigure xC4 dX5_told_42 <|
  s_if_ne (t := 51) dX5_told_45 rfl (
  s_iload_n dX5_told_51 rfl <|
  s_bipush dX5_told_52 rfl (by decide) <|
  s_icmp_ne (t := 66) dX5_told_54 rfl (
  s_iload_n dX5_told_66 rfl <|
  s_bipush dX5_told_67 rfl (by decide) <|
  s_icmp_lt (t := 91) dX5_told_69 rfl (
  s_J) <|
  s_iload_n dX5_told_72 rfl <|
  s_bipush dX5_told_73 rfl (by decide) <|
  s_icmp_ge (t := 91) dX5_told_75 rfl (
  s_J) <|
  s_aload_n dX5_told_78 rfl <|
  s_getR xC5 (by decide) (fun _ _ _ => rfl) fl_X5_42 dX5_told_79 <|
  s_iload_n dX5_told_82 rfl <|
  s_iload_n dX5_told_83 rfl <|
  s_bipush dX5_told_84 rfl (by decide) <|
  s_isub dX5_told_86 <|
  s_cV2 ce_X4_costs ml_X5_108 im_X4_costs se_X4_costs xC4 dX5_told_87 <|
  s_ireturn dX5_told_90 rfl) <|
  s_aload_n dX5_told_57 rfl <|
  s_getR xC5 (by decide) (fun _ _ _ => rfl) fl_X5_42 dX5_told_58 <|
  s_iload_n dX5_told_61 rfl <|
  s_cV1 ce_X4_asked ml_X5_104 im_X4_asked se_X4_asked xC4 dX5_told_62 <|
  s_ireturn dX5_told_65 rfl) <|
  s_bipush dX5_told_48 rfl (by decide) <|
  s_ireturn dX5_told_50 rfl
def k_X5_told_91 (d : Nat) (Q : xV → xMem → Prop) : xP :=
  x_iload 2 <|
  x_push (vi 30) <|
  x_c2 (fun x y => x < y) (
  x_push (vi (-2)) <|
  x_ret Q) <|
  x_iload 2 <|
  x_push (vi 42) <|
  x_c2 (fun x y => y ≤ x) (
  x_push (vi (-2)) <|
  x_ret Q) <|
  x_aload 0 <|
  x_getR 5 3 <|
  x_iload 1 <|
  x_iload 2 <|
  x_push (vi 30) <|
  x_bin osub <|
  x_cV2 M_X4_appears d 4 <|
  x_c1 (fun x => x = 0) (
  x_push (vi 0) <|
  x_ret Q) <|
  x_push (vi 1) <|
  x_ret Q
set_option maxRecDepth 100000 in
theorem b_X5_told_91 {d : Nat} {Q : xV → xMem → Prop} : Snd M_X5_told (d + 1) 91 Q (k_X5_told_91 d Q) :=
  s_iload_n dX5_told_91 rfl <|
  s_bipush dX5_told_92 rfl (by decide) <|
  s_icmp_lt (t := 124) dX5_told_94 rfl (
  s_bipush dX5_told_124 rfl (by decide) <|
  s_ireturn dX5_told_126 rfl) <|
  s_iload_n dX5_told_97 rfl <|
  s_bipush dX5_told_98 rfl (by decide) <|
  s_icmp_ge (t := 124) dX5_told_100 rfl (
  s_bipush dX5_told_124 rfl (by decide) <|
  s_ireturn dX5_told_126 rfl) <|
  s_aload_n dX5_told_103 rfl <|
  s_getR xC5 (by decide) (fun _ _ _ => rfl) fl_X5_42 dX5_told_104 <|
  s_iload_n dX5_told_107 rfl <|
  s_iload_n dX5_told_108 rfl <|
  s_bipush dX5_told_109 rfl (by decide) <|
  s_isub dX5_told_111 <|
  s_cV2 ce_X4_appears ml_X5_111 im_X4_appears se_X4_appears xC4 dX5_told_112 <|
  s_if_eq (t := 122) dX5_told_115 rfl (
  s_iconst dX5_told_122 rfl <|
  s_ireturn dX5_told_123 rfl) <|
  s_iconst dX5_told_118 rfl <|
  s_goto (t := 123) dX5_told_119 rfl <|
  s_ireturn dX5_told_123 rfl
-- X5_told: cuts [0, 37, 91]
def k_X5_glad_0 (d : Nat) (Q : xV → xMem → Prop) : xP :=
  x_aload 0 <|
  x_getR 5 3 <|
  x_iload 1 <|
  x_cV1 M_X4_hasClient d 4 <|
  x_c1 (fun x => x = 0) (
  x_push (vi (-1000)) <|
  x_ret Q) <|
  x_aload 0 <|
  x_getR 5 3 <|
  x_iload 2 <|
  x_cV1 M_X4_hasFigure d 4 <|
  x_c1 (fun x => ¬ x = 0) (
  x_iload 3 <|
  x_lsw [(0, x_aload 0 <|
  x_getR 5 3 <|
  x_iload 1 <|
  x_iload 2 <|
  x_cV2 M_X4_gladness d 4 <|
  x_ret Q), (1, x_aload 0 <|
  x_getR 5 3 <|
  x_iload 1 <|
  x_iload 2 <|
  x_cV2 M_X4_payment d 4 <|
  x_ret Q)] (
  x_push (vi (-1000)) <|
  x_ret Q)) <|
  x_push (vi (-1000)) <|
  x_ret Q
set_option maxRecDepth 100000 in
theorem b_X5_glad_0 {d : Nat} {Q : xV → xMem → Prop} : Snd M_X5_glad (d + 1) 0 Q (k_X5_glad_0 d Q) :=
  s_aload_n dX5_glad_0 rfl <|
  s_getR xC5 (by decide) (fun _ _ _ => rfl) fl_X5_42 dX5_glad_1 <|
  s_iload_n dX5_glad_4 rfl <|
  s_cV1 ce_X4_hasClient ml_X5_114 im_X4_hasClient se_X4_hasClient xC4 dX5_glad_5 <|
  s_if_eq (t := 22) dX5_glad_8 rfl (
  s_sipush dX5_glad_22 rfl (by decide) <|
  s_ireturn dX5_glad_25 rfl) <|
  s_aload_n dX5_glad_11 rfl <|
  s_getR xC5 (by decide) (fun _ _ _ => rfl) fl_X5_42 dX5_glad_12 <|
  s_iload_n dX5_glad_15 rfl <|
  s_cV1 ce_X4_hasFigure ml_X5_101 im_X4_hasFigure se_X4_hasFigure xC4 dX5_glad_16 <|
  s_if_ne (t := 26) dX5_glad_19 rfl (
  s_iload_n dX5_glad_26 rfl <|
  s_lsw (t := 72) (ps := [(0, 25), (1, 35)]) dX5_glad_27 rfl rfl (
  s_sipush dX5_glad_72 rfl (by decide) <|
  s_ireturn dX5_glad_75 rfl) ⟨⟨rfl, 52, rfl, s_aload_n dX5_glad_52 rfl <|
  s_getR xC5 (by decide) (fun _ _ _ => rfl) fl_X5_42 dX5_glad_53 <|
  s_iload_n dX5_glad_56 rfl <|
  s_iload_n dX5_glad_57 rfl <|
  s_cV2 ce_X4_gladness ml_X5_117 im_X4_gladness se_X4_gladness xC4 dX5_glad_58 <|
  s_ireturn dX5_glad_61 rfl⟩, ⟨⟨rfl, 62, rfl, s_aload_n dX5_glad_62 rfl <|
  s_getR xC5 (by decide) (fun _ _ _ => rfl) fl_X5_42 dX5_glad_63 <|
  s_iload_n dX5_glad_66 rfl <|
  s_iload_n dX5_glad_67 rfl <|
  s_cV2 ce_X4_payment ml_X5_120 im_X4_payment se_X4_payment xC4 dX5_glad_68 <|
  s_ireturn dX5_glad_71 rfl⟩, trivial⟩⟩) <|
  s_sipush dX5_glad_22 rfl (by decide) <|
  s_ireturn dX5_glad_25 rfl
-- X5_glad: cuts [0]
def k_X5_feed_0 (d : Nat) (Q : xV → xMem → Prop) : xP :=
  x_iload 1 <|
  x_c1 (fun x => x < 0) (
  x_push (vi (-2)) <|
  x_ret Q) <|
  x_iload 1 <|
  x_push (vi 255) <|
  x_c2 (fun x y => x ≤ y) (
  x_aload 0 <|
  x_getR 5 2 <|
  x_iload 1 <|
  x_cV1 M_X2_add d 2 <|
  x_c1 (fun x => x = 0) (
  x_push (vi (-4)) <|
  x_ret Q) <|
  x_aload 0 <|
  x_getR 5 2 <|
  x_getI 2 1 <|
  x_ret Q) <|
  x_push (vi (-2)) <|
  x_ret Q
set_option maxRecDepth 100000 in
theorem b_X5_feed_0 {d : Nat} {Q : xV → xMem → Prop} : Snd M_X5_feed (d + 1) 0 Q (k_X5_feed_0 d Q) :=
  s_iload_n dX5_feed_0 rfl <|
  s_if_lt (t := 11) dX5_feed_1 rfl (
  s_bipush dX5_feed_11 rfl (by decide) <|
  s_ireturn dX5_feed_13 rfl) <|
  s_iload_n dX5_feed_4 rfl <|
  s_sipush dX5_feed_5 rfl (by decide) <|
  s_icmp_le (t := 14) dX5_feed_8 rfl (
  s_aload_n dX5_feed_14 rfl <|
  s_getR xC5 (by decide) (fun _ _ _ => rfl) fl_X5_18 dX5_feed_15 <|
  s_iload_n dX5_feed_18 rfl <|
  s_cV1 ce_X2_add ml_X5_64 im_X2_add se_X2_add xC2 dX5_feed_19 <|
  s_if_eq (t := 35) dX5_feed_22 rfl (
  s_bipush dX5_feed_35 rfl (by decide) <|
  s_ireturn dX5_feed_37 rfl) <|
  s_aload_n dX5_feed_25 rfl <|
  s_getR xC5 (by decide) (fun _ _ _ => rfl) fl_X5_18 dX5_feed_26 <|
  s_getI xC2 (by decide) (fun _ _ _ => rfl) fl_X5_123 dX5_feed_29 <|
  s_goto (t := 37) dX5_feed_32 rfl <|
  s_ireturn dX5_feed_37 rfl) <|
  s_bipush dX5_feed_11 rfl (by decide) <|
  s_ireturn dX5_feed_13 rfl
-- X5_feed: cuts [0]
def k_X5_text_0 (d : Nat) (Q : xV → xMem → Prop) : xP :=
  x_aload 0 <|
  x_getI 5 1 <|
  x_push (vi 6) <|
  x_c2 (fun x y => x < y) (
  x_aload 0 <|
  x_getR 5 2 <|
  x_aload 0 <|
  x_getR 5 0 <|
  x_aload 0 <|
  x_getI 5 1 <|
  x_aaload <|
  x_cV1 M_X2_read d 2 <|
  x_istore 1 <|
  x_aload 0 <|
  x_getR 5 2 <|
  x_cV0 M_X2_clear d 2 <|
  x_iload 1 <|
  x_push (vi (-1)) <|
  x_c2 (fun x y => x = y) (
  x_aload 0 <|
  x_dup <|
  x_getI 5 1 <|
  x_push (vi 1) <|
  x_bin oadd <|
  x_putI 5 1 <|
  x_aload 0 <|
  x_getI 5 1 <|
  x_push (vi 1) <|
  x_bin osub <|
  x_ret Q) <|
  x_push (vi (-100)) <|
  x_iload 1 <|
  x_bin osub <|
  x_ret Q) <|
  x_push (vi (-4)) <|
  x_ret Q
set_option maxRecDepth 100000 in
theorem b_X5_text_0 {d : Nat} {Q : xV → xMem → Prop} : Snd M_X5_text (d + 1) 0 Q (k_X5_text_0 d Q) :=
  s_aload_n dX5_text_0 rfl <|
  s_getI xC5 (by decide) (fun _ _ _ => rfl) fl_X5_75 dX5_text_1 <|
  s_bipush dX5_text_4 rfl (by decide) <|
  s_icmp_lt (t := 12) dX5_text_6 rfl (
  s_aload_n dX5_text_12 rfl <|
  s_getR xC5 (by decide) (fun _ _ _ => rfl) fl_X5_18 dX5_text_13 <|
  s_aload_n dX5_text_16 rfl <|
  s_getR xC5 (by decide) (fun _ _ _ => rfl) fl_X5_11 dX5_text_17 <|
  s_aload_n dX5_text_20 rfl <|
  s_getI xC5 (by decide) (fun _ _ _ => rfl) fl_X5_75 dX5_text_21 <|
  s_aaload dX5_text_24 <|
  s_cV1 ce_X2_read ml_X5_68 im_X2_read se_X2_read xC2 dX5_text_25 <|
  s_istore_n dX5_text_28 rfl (by decide) <|
  s_aload_n dX5_text_29 rfl <|
  s_getR xC5 (by decide) (fun _ _ _ => rfl) fl_X5_18 dX5_text_30 <|
  s_cV0 ce_X2_clear ml_X5_72 im_X2_clear se_X2_clear xC2 dX5_text_33 <|
  s_iload_n dX5_text_36 rfl <|
  s_iconst dX5_text_37 rfl <|
  s_icmp_eq (t := 46) dX5_text_38 rfl (
  s_aload_n dX5_text_46 rfl <|
  s_dup dX5_text_47 <|
  s_getI xC5 (by decide) (fun _ _ _ => rfl) fl_X5_75 dX5_text_48 <|
  s_iconst dX5_text_51 rfl <|
  s_iadd dX5_text_52 <|
  s_putI xC5 (by decide) (fun _ _ _ => rfl) rfl rfl fl_X5_75 dX5_text_53 <|
  s_aload_n dX5_text_56 rfl <|
  s_getI xC5 (by decide) (fun _ _ _ => rfl) fl_X5_75 dX5_text_57 <|
  s_iconst dX5_text_60 rfl <|
  s_isub dX5_text_61 <|
  s_ireturn dX5_text_62 rfl) <|
  s_bipush dX5_text_41 rfl (by decide) <|
  s_iload_n dX5_text_43 rfl <|
  s_isub dX5_text_44 <|
  s_ireturn dX5_text_45 rfl) <|
  s_bipush dX5_text_9 rfl (by decide) <|
  s_ireturn dX5_text_11 rfl
-- X5_text: cuts [0]
def k_X5_force_0 (d : Nat) (Q : xV → xMem → Prop) : xP :=
  x_iload 1 <|
  x_c1 (fun x => x < 0) (
  x_push (vi (-2)) <|
  x_ret Q) <|
  x_iload 1 <|
  x_aload 0 <|
  x_getI 5 1 <|
  x_c2 (fun x y => x < y) (
  x_aload 0 <|
  x_getR 5 3 <|
  x_getI 4 2 <|
  x_istore 2 <|
  x_aload 0 <|
  x_getR 5 3 <|
  x_iload 1 <|
  x_putI 4 2 <|
  x_iload 2 <|
  x_ret Q) <|
  x_push (vi (-2)) <|
  x_ret Q
set_option maxRecDepth 100000 in
theorem b_X5_force_0 {d : Nat} {Q : xV → xMem → Prop} : Snd M_X5_force (d + 1) 0 Q (k_X5_force_0 d Q) :=
  s_iload_n dX5_force_0 rfl <|
  s_if_lt (t := 12) dX5_force_1 rfl (
  s_bipush dX5_force_12 rfl (by decide) <|
  s_ireturn dX5_force_14 rfl) <|
  s_iload_n dX5_force_4 rfl <|
  s_aload_n dX5_force_5 rfl <|
  s_getI xC5 (by decide) (fun _ _ _ => rfl) fl_X5_75 dX5_force_6 <|
  s_icmp_lt (t := 15) dX5_force_9 rfl (
  s_aload_n dX5_force_15 rfl <|
  s_getR xC5 (by decide) (fun _ _ _ => rfl) fl_X5_42 dX5_force_16 <|
  s_getI xC4 (by decide) (fun _ _ _ => rfl) fl_X5_126 dX5_force_19 <|
  s_istore_n dX5_force_22 rfl (by decide) <|
  s_aload_n dX5_force_23 rfl <|
  s_getR xC5 (by decide) (fun _ _ _ => rfl) fl_X5_42 dX5_force_24 <|
  s_iload_n dX5_force_27 rfl <|
  s_putI xC4 (by decide) (fun _ _ _ => rfl) rfl rfl fl_X5_126 dX5_force_28 <|
  s_iload_n dX5_force_31 rfl <|
  s_ireturn dX5_force_32 rfl) <|
  s_bipush dX5_force_12 rfl (by decide) <|
  s_ireturn dX5_force_14 rfl
-- X5_force: cuts [0]
def k_X5_show_0 (d : Nat) (Q : xV → xMem → Prop) : xP :=
  x_aload 0 <|
  x_iload 1 <|
  x_cV1 M_X5_sheetOf d 5 <|
  x_astore 3 <|
  x_iload 2 <|
  x_push (vi 10) <|
  x_c2 (fun x y => x < y) (
  (xJ M_X5_show (d + 1) 30 Q)) <|
  x_aload 0 <|
  x_getR 5 3 <|
  x_iload 2 <|
  x_push (vi 10) <|
  x_bin osub <|
  x_cV1 M_X4_hasFigure d 4 <|
  x_c1 (fun x => x = 0) (
  (xJ M_X5_show (d + 1) 30 Q)) <|
  x_push (vi 1) <|
  (xJ M_X5_show (d + 1) 31 Q)
set_option maxRecDepth 100000 in
theorem b_X5_show_0 {d : Nat} {Q : xV → xMem → Prop} : Snd M_X5_show (d + 1) 0 Q (k_X5_show_0 d Q) :=
  s_aload_n dX5_show_0 rfl <|
  s_iload_n dX5_show_1 rfl <|
  s_cV1 ce_X5_sheetOf ml_X5_129 im_X5_sheetOf se_X5_sheetOf xC5 dX5_show_2 <|
  s_astore_n dX5_show_5 rfl (by decide) <|
  s_iload_n dX5_show_6 rfl <|
  s_bipush dX5_show_7 rfl (by decide) <|
  s_icmp_lt (t := 30) dX5_show_9 rfl (
  s_J) <|
  s_aload_n dX5_show_12 rfl <|
  s_getR xC5 (by decide) (fun _ _ _ => rfl) fl_X5_42 dX5_show_13 <|
  s_iload_n dX5_show_16 rfl <|
  s_bipush dX5_show_17 rfl (by decide) <|
  s_isub dX5_show_19 <|
  s_cV1 ce_X4_hasFigure ml_X5_101 im_X4_hasFigure se_X4_hasFigure xC4 dX5_show_20 <|
  s_if_eq (t := 30) dX5_show_23 rfl (
  s_J) <|
  s_iconst dX5_show_26 rfl <|
  s_goto (t := 31) dX5_show_27 rfl <|
  s_J
def k_X5_show_30 (d : Nat) (Q : xV → xMem → Prop) : xP :=
  x_push (vi 0) <|
  (xJ M_X5_show (d + 1) 31 Q)
set_option maxRecDepth 100000 in
theorem b_X5_show_30 {d : Nat} {Q : xV → xMem → Prop} : Snd M_X5_show (d + 1) 30 Q (k_X5_show_30 d Q) :=
  s_iconst dX5_show_30 rfl <|
  s_J
def k_X5_show_31 (d : Nat) (Q : xV → xMem → Prop) : xP :=
  x_istore 4 <|
  x_aload 3 <|
  x_null (
  x_push (vi (-100000)) <|
  x_ret Q) (
  x_iload 4 <|
  x_c1 (fun x => ¬ x = 0) (
  (xJ M_X5_show (d + 1) 51 Q)) <|
  x_iload 2 <|
  x_c1 (fun x => x < 0) (
  x_push (vi (-100000)) <|
  x_ret Q) <|
  x_iload 2 <|
  x_push (vi 2) <|
  x_c2 (fun x y => y < x) (
  x_push (vi (-100000)) <|
  x_ret Q) <|
  (xJ M_X5_show (d + 1) 51 Q))
set_option maxRecDepth 100000 in
theorem b_X5_show_31 {d : Nat} {Q : xV → xMem → Prop} : Snd M_X5_show (d + 1) 31 Q (k_X5_show_31 d Q) :=
  s_istore dX5_show_31 (by decide) <|
  s_aload_n dX5_show_33 rfl <|
  s_ifnull (t := 59) dX5_show_34 rfl (
  s_ldc dX5_show_59 kc_X5_137 rfl (by decide) <|
  s_ireturn dX5_show_61 rfl) (
  s_iload dX5_show_37 <|
  s_if_ne (t := 51) dX5_show_39 rfl (
  s_J) <|
  s_iload_n dX5_show_42 rfl <|
  s_if_lt (t := 59) dX5_show_43 rfl (
  s_ldc dX5_show_59 kc_X5_137 rfl (by decide) <|
  s_ireturn dX5_show_61 rfl) <|
  s_iload_n dX5_show_46 rfl <|
  s_iconst dX5_show_47 rfl <|
  s_icmp_gt (t := 59) dX5_show_48 rfl (
  s_ldc dX5_show_59 kc_X5_137 rfl (by decide) <|
  s_ireturn dX5_show_61 rfl) <|
  s_J)
def k_X5_show_51 (d : Nat) (Q : xV → xMem → Prop) : xP :=
  x_aload 0 <|
  x_aload 3 <|
  x_cV1 M_X5_isShowing d 5 <|
  x_c1 (fun x => ¬ x = 0) (
  x_aload 0 <|
  x_aload 3 <|
  x_cV1 M_X5_playSheet d 5 <|
  x_iload 2 <|
  x_tsw 0 [
  x_aload 0 <|
  x_getR 5 7 <|
  x_getI 0 13 <|
  x_ret Q,
  x_aload 0 <|
  x_getR 5 7 <|
  x_getI 0 14 <|
  x_ret Q,
  x_aload 0 <|
  x_getR 5 7 <|
  x_getI 0 15 <|
  x_ret Q] (
  x_aload 0 <|
  x_getR 5 7 <|
  x_getR 0 4 <|
  x_iload 2 <|
  x_push (vi 10) <|
  x_bin osub <|
  x_iaload <|
  x_ret Q)) <|
  x_push (vi (-100000)) <|
  x_ret Q
set_option maxRecDepth 100000 in
theorem b_X5_show_51 {d : Nat} {Q : xV → xMem → Prop} : Snd M_X5_show (d + 1) 51 Q (k_X5_show_51 d Q) :=
  s_aload_n dX5_show_51 rfl <|
  s_aload_n dX5_show_52 rfl <|
  s_cV1 ce_X5_isShowing ml_X5_133 im_X5_isShowing se_X5_isShowing xC5 dX5_show_53 <|
  s_if_ne (t := 62) dX5_show_56 rfl (
  s_aload_n dX5_show_62 rfl <|
  s_aload_n dX5_show_63 rfl <|
  s_cV1 ce_X5_playSheet ml_X5_138 im_X5_playSheet se_X5_playSheet xC5 dX5_show_64 <|
  s_iload_n dX5_show_67 rfl <|
  s_tsw (t := 120) (offs := [28, 36, 44]) dX5_show_68 rfl rfl (
  s_aload_n dX5_show_120 rfl <|
  s_getR xC5 (by decide) (fun _ _ _ => rfl) fl_X5_25 dX5_show_121 <|
  s_getR xC0 (by decide) (fun _ _ _ => rfl) fl_X5_151 dX5_show_124 <|
  s_iload_n dX5_show_127 rfl <|
  s_bipush dX5_show_128 rfl (by decide) <|
  s_isub dX5_show_130 <|
  s_iaload dX5_show_131 <|
  s_ireturn dX5_show_132 rfl) ⟨⟨96, rfl, s_aload_n dX5_show_96 rfl <|
  s_getR xC5 (by decide) (fun _ _ _ => rfl) fl_X5_25 dX5_show_97 <|
  s_getI xC0 (by decide) (fun _ _ _ => rfl) fl_X5_142 dX5_show_100 <|
  s_ireturn dX5_show_103 rfl⟩, ⟨⟨104, rfl, s_aload_n dX5_show_104 rfl <|
  s_getR xC5 (by decide) (fun _ _ _ => rfl) fl_X5_25 dX5_show_105 <|
  s_getI xC0 (by decide) (fun _ _ _ => rfl) fl_X5_145 dX5_show_108 <|
  s_ireturn dX5_show_111 rfl⟩, ⟨⟨112, rfl, s_aload_n dX5_show_112 rfl <|
  s_getR xC5 (by decide) (fun _ _ _ => rfl) fl_X5_25 dX5_show_113 <|
  s_getI xC0 (by decide) (fun _ _ _ => rfl) fl_X5_148 dX5_show_116 <|
  s_ireturn dX5_show_119 rfl⟩, trivial⟩⟩⟩) <|
  s_ldc dX5_show_59 kc_X5_137 rfl (by decide) <|
  s_ireturn dX5_show_61 rfl
-- X5_show: cuts [0, 30, 31, 51]
def k_X5_take_0 (d : Nat) (Q : xV → xMem → Prop) : xP :=
  x_aload 0 <|
  x_iload 1 <|
  x_cV1 M_X5_sheetOf d 5 <|
  x_astore 2 <|
  x_aload 2 <|
  x_null (
  x_push (vi (-2)) <|
  x_ret Q) (
  x_aload 2 <|
  x_getI 1 0 <|
  x_push (vi (-1)) <|
  x_c2 (fun x y => ¬ x = y) (
  x_aload 0 <|
  x_aload 2 <|
  x_cV1 M_X5_isShowing d 5 <|
  x_c1 (fun x => ¬ x = 0) (
  x_aload 0 <|
  x_aload 2 <|
  x_cV1 M_X5_playSheet d 5 <|
  x_aload 0 <|
  x_getR 5 7 <|
  x_getI 0 13 <|
  x_push (vi (-1)) <|
  x_c2 (fun x y => x = y) (
  x_aload 0 <|
  x_getR 5 7 <|
  x_getR 0 4 <|
  x_push (vi 0) <|
  x_aload 0 <|
  x_getR 5 3 <|
  x_getR 4 7 <|
  x_push (vi 0) <|
  x_aload 0 <|
  x_getR 5 3 <|
  x_getI 4 3 <|
  x_acopy <|
  x_aload 0 <|
  x_getR 5 7 <|
  x_getI 0 15 <|
  x_ret Q) <|
  x_push (vi (-3)) <|
  x_ret Q) <|
  x_push (vi (-2)) <|
  x_ret Q) <|
  x_push (vi (-11)) <|
  x_ret Q)
set_option maxRecDepth 100000 in
theorem b_X5_take_0 {d : Nat} {Q : xV → xMem → Prop} : Snd M_X5_take (d + 1) 0 Q (k_X5_take_0 d Q) :=
  s_aload_n dX5_take_0 rfl <|
  s_iload_n dX5_take_1 rfl <|
  s_cV1 ce_X5_sheetOf ml_X5_129 im_X5_sheetOf se_X5_sheetOf xC5 dX5_take_2 <|
  s_astore_n dX5_take_5 rfl (by decide) <|
  s_aload_n dX5_take_6 rfl <|
  s_ifnonnull (t := 13) dX5_take_7 rfl (
  s_aload_n dX5_take_13 rfl <|
  s_getI xC1 (by decide) (fun _ _ _ => rfl) fl_X5_155 dX5_take_14 <|
  s_iconst dX5_take_17 rfl <|
  s_icmp_ne (t := 24) dX5_take_18 rfl (
  s_aload_n dX5_take_24 rfl <|
  s_aload_n dX5_take_25 rfl <|
  s_cV1 ce_X5_isShowing ml_X5_133 im_X5_isShowing se_X5_isShowing xC5 dX5_take_26 <|
  s_if_ne (t := 35) dX5_take_29 rfl (
  s_aload_n dX5_take_35 rfl <|
  s_aload_n dX5_take_36 rfl <|
  s_cV1 ce_X5_playSheet ml_X5_138 im_X5_playSheet se_X5_playSheet xC5 dX5_take_37 <|
  s_aload_n dX5_take_40 rfl <|
  s_getR xC5 (by decide) (fun _ _ _ => rfl) fl_X5_25 dX5_take_41 <|
  s_getI xC0 (by decide) (fun _ _ _ => rfl) fl_X5_142 dX5_take_44 <|
  s_iconst dX5_take_47 rfl <|
  s_icmp_eq (t := 54) dX5_take_48 rfl (
  s_aload_n dX5_take_54 rfl <|
  s_getR xC5 (by decide) (fun _ _ _ => rfl) fl_X5_25 dX5_take_55 <|
  s_getR xC0 (by decide) (fun _ _ _ => rfl) fl_X5_151 dX5_take_58 <|
  s_iconst dX5_take_61 rfl <|
  s_aload_n dX5_take_62 rfl <|
  s_getR xC5 (by decide) (fun _ _ _ => rfl) fl_X5_42 dX5_take_63 <|
  s_getR xC4 (by decide) (fun _ _ _ => rfl) fl_X5_158 dX5_take_66 <|
  s_iconst dX5_take_69 rfl <|
  s_aload_n dX5_take_70 rfl <|
  s_getR xC5 (by decide) (fun _ _ _ => rfl) fl_X5_42 dX5_take_71 <|
  s_getI xC4 (by decide) (fun _ _ _ => rfl) fl_X5_161 dX5_take_74 <|
  s_acopy ml_X5_164 ac_nat ac_sta ac_ini dX5_take_77 <|
  s_aload_n dX5_take_80 rfl <|
  s_getR xC5 (by decide) (fun _ _ _ => rfl) fl_X5_25 dX5_take_81 <|
  s_getI xC0 (by decide) (fun _ _ _ => rfl) fl_X5_148 dX5_take_84 <|
  s_ireturn dX5_take_87 rfl) <|
  s_bipush dX5_take_51 rfl (by decide) <|
  s_ireturn dX5_take_53 rfl) <|
  s_bipush dX5_take_32 rfl (by decide) <|
  s_ireturn dX5_take_34 rfl) <|
  s_bipush dX5_take_21 rfl (by decide) <|
  s_ireturn dX5_take_23 rfl) (
  s_bipush dX5_take_10 rfl (by decide) <|
  s_ireturn dX5_take_12 rfl)
-- X5_take: cuts [0]
def k_X5_showing_0 (d : Nat) (Q : xV → xMem → Prop) : xP :=
  x_iload 1 <|
  x_c1 (fun x => x < 0) (
  x_push (vi (-100000)) <|
  x_ret Q) <|
  x_iload 1 <|
  x_push (vi 2) <|
  x_c2 (fun x y => y < x) (
  x_push (vi (-100000)) <|
  x_ret Q) <|
  x_iload 2 <|
  x_c1 (fun x => x < 0) (
  x_push (vi (-100000)) <|
  x_ret Q) <|
  x_iload 2 <|
  x_push (vi 2) <|
  x_c2 (fun x y => x ≤ y) (
  x_aload 0 <|
  x_getR 5 7 <|
  x_aload 0 <|
  x_getR 5 3 <|
  x_cV1 M_X0_look d 0 <|
  x_iload 1 <|
  x_push (vi 2) <|
  x_c2 (fun x y => ¬ x = y) (
  x_aload 0 <|
  x_getR 5 7 <|
  x_iload 1 <|
  x_c1 (fun x => ¬ x = 0) (
  x_aload 0 <|
  x_getR 5 7 <|
  x_getR 0 2 <|
  (xJ M_X5_showing (d + 1) 76 Q)) <|
  x_aload 0 <|
  x_getR 5 7 <|
  x_getR 0 1 <|
  (xJ M_X5_showing (d + 1) 76 Q)) <|
  x_aload 0 <|
  x_getR 5 7 <|
  x_aload 0 <|
  x_getR 5 3 <|
  x_cV1 M_X0_showPlainly d 0 <|
  (xJ M_X5_showing (d + 1) 82 Q)) <|
  x_push (vi (-100000)) <|
  x_ret Q
set_option maxRecDepth 100000 in
theorem b_X5_showing_0 {d : Nat} {Q : xV → xMem → Prop} : Snd M_X5_showing (d + 1) 0 Q (k_X5_showing_0 d Q) :=
  s_iload_n dX5_showing_0 rfl <|
  s_if_lt (t := 18) dX5_showing_1 rfl (
  s_ldc dX5_showing_18 kc_X5_137 rfl (by decide) <|
  s_ireturn dX5_showing_20 rfl) <|
  s_iload_n dX5_showing_4 rfl <|
  s_iconst dX5_showing_5 rfl <|
  s_icmp_gt (t := 18) dX5_showing_6 rfl (
  s_ldc dX5_showing_18 kc_X5_137 rfl (by decide) <|
  s_ireturn dX5_showing_20 rfl) <|
  s_iload_n dX5_showing_9 rfl <|
  s_if_lt (t := 18) dX5_showing_10 rfl (
  s_ldc dX5_showing_18 kc_X5_137 rfl (by decide) <|
  s_ireturn dX5_showing_20 rfl) <|
  s_iload_n dX5_showing_13 rfl <|
  s_iconst dX5_showing_14 rfl <|
  s_icmp_le (t := 21) dX5_showing_15 rfl (
  s_aload_n dX5_showing_21 rfl <|
  s_getR xC5 (by decide) (fun _ _ _ => rfl) fl_X5_25 dX5_showing_22 <|
  s_aload_n dX5_showing_25 rfl <|
  s_getR xC5 (by decide) (fun _ _ _ => rfl) fl_X5_42 dX5_showing_26 <|
  s_cV1 ce_X0_look ml_X5_170 im_X0_look se_X0_look xC0 dX5_showing_29 <|
  s_iload_n dX5_showing_32 rfl <|
  s_iconst dX5_showing_33 rfl <|
  s_icmp_ne (t := 51) dX5_showing_34 rfl (
  s_aload_n dX5_showing_51 rfl <|
  s_getR xC5 (by decide) (fun _ _ _ => rfl) fl_X5_25 dX5_showing_52 <|
  s_iload_n dX5_showing_55 rfl <|
  s_if_ne (t := 69) dX5_showing_56 rfl (
  s_aload_n dX5_showing_69 rfl <|
  s_getR xC5 (by decide) (fun _ _ _ => rfl) fl_X5_25 dX5_showing_70 <|
  s_getR xC0 (by decide) (fun _ _ _ => rfl) fl_X5_181 dX5_showing_73 <|
  s_J) <|
  s_aload_n dX5_showing_59 rfl <|
  s_getR xC5 (by decide) (fun _ _ _ => rfl) fl_X5_25 dX5_showing_60 <|
  s_getR xC0 (by decide) (fun _ _ _ => rfl) fl_X5_177 dX5_showing_63 <|
  s_goto (t := 76) dX5_showing_66 rfl <|
  s_J) <|
  s_aload_n dX5_showing_37 rfl <|
  s_getR xC5 (by decide) (fun _ _ _ => rfl) fl_X5_25 dX5_showing_38 <|
  s_aload_n dX5_showing_41 rfl <|
  s_getR xC5 (by decide) (fun _ _ _ => rfl) fl_X5_42 dX5_showing_42 <|
  s_cV1 ce_X0_showPlainly ml_X5_174 im_X0_showPlainly se_X0_showPlainly xC0 dX5_showing_45 <|
  s_goto (t := 82) dX5_showing_48 rfl <|
  s_J) <|
  s_ldc dX5_showing_18 kc_X5_137 rfl (by decide) <|
  s_ireturn dX5_showing_20 rfl
def k_X5_showing_76 (d : Nat) (Q : xV → xMem → Prop) : xP :=
  x_push (vi 63) <|
  x_cV2 M_X0_showBest d 0 <|
  x_pop <|
  (xJ M_X5_showing (d + 1) 82 Q)
set_option maxRecDepth 100000 in
theorem b_X5_showing_76 {d : Nat} {Q : xV → xMem → Prop} : Snd M_X5_showing (d + 1) 76 Q (k_X5_showing_76 d Q) :=
  s_bipush dX5_showing_76 rfl (by decide) <|
  s_cV2 ce_X0_showBest ml_X5_184 im_X0_showBest se_X0_showBest xC0 dX5_showing_78 <|
  s_pop dX5_showing_81 <|
  s_J
def k_X5_showing_82 (d : Nat) (Q : xV → xMem → Prop) : xP :=
  x_iload 2 <|
  x_c1 (fun x => ¬ x = 0) (
  x_aload 0 <|
  x_getR 5 7 <|
  x_cV0 M_X0_play d 0 <|
  x_iload 2 <|
  x_push (vi 1) <|
  x_c2 (fun x y => ¬ x = y) (
  x_aload 0 <|
  x_getR 5 7 <|
  x_getI 0 15 <|
  x_ret Q) <|
  x_aload 0 <|
  x_getR 5 7 <|
  x_getI 0 14 <|
  x_ret Q) <|
  x_aload 0 <|
  x_getR 5 7 <|
  x_cV0 M_X0_digits d 0 <|
  x_ret Q
set_option maxRecDepth 100000 in
theorem b_X5_showing_82 {d : Nat} {Q : xV → xMem → Prop} : Snd M_X5_showing (d + 1) 82 Q (k_X5_showing_82 d Q) :=
  s_iload_n dX5_showing_82 rfl <|
  s_if_ne (t := 94) dX5_showing_83 rfl (
  s_aload_n dX5_showing_94 rfl <|
  s_getR xC5 (by decide) (fun _ _ _ => rfl) fl_X5_25 dX5_showing_95 <|
  s_cV0 ce_X0_play ml_X5_191 im_X0_play se_X0_play xC0 dX5_showing_98 <|
  s_iload_n dX5_showing_101 rfl <|
  s_iconst dX5_showing_102 rfl <|
  s_icmp_ne (t := 116) dX5_showing_103 rfl (
  s_aload_n dX5_showing_116 rfl <|
  s_getR xC5 (by decide) (fun _ _ _ => rfl) fl_X5_25 dX5_showing_117 <|
  s_getI xC0 (by decide) (fun _ _ _ => rfl) fl_X5_148 dX5_showing_120 <|
  s_ireturn dX5_showing_123 rfl) <|
  s_aload_n dX5_showing_106 rfl <|
  s_getR xC5 (by decide) (fun _ _ _ => rfl) fl_X5_25 dX5_showing_107 <|
  s_getI xC0 (by decide) (fun _ _ _ => rfl) fl_X5_145 dX5_showing_110 <|
  s_goto (t := 123) dX5_showing_113 rfl <|
  s_ireturn dX5_showing_123 rfl) <|
  s_aload_n dX5_showing_86 rfl <|
  s_getR xC5 (by decide) (fun _ _ _ => rfl) fl_X5_25 dX5_showing_87 <|
  s_cV0 ce_X0_digits ml_X5_188 im_X0_digits se_X0_digits xC0 dX5_showing_90 <|
  s_ireturn dX5_showing_93 rfl
-- X5_showing: cuts [0, 76, 82]
def k_X5_few_0 (d : Nat) (Q : xV → xMem → Prop) : xP :=
  x_iload 1 <|
  x_c1 (fun x => x = 0) (
  (xJ M_X5_few (d + 1) 12 Q)) <|
  x_iload 1 <|
  x_push (vi 1) <|
  x_c2 (fun x y => x = y) (
  (xJ M_X5_few (d + 1) 12 Q)) <|
  x_push (vi (-2)) <|
  x_ret Q
set_option maxRecDepth 100000 in
theorem b_X5_few_0 {d : Nat} {Q : xV → xMem → Prop} : Snd M_X5_few (d + 1) 0 Q (k_X5_few_0 d Q) :=
  s_iload_n dX5_few_0 rfl <|
  s_if_eq (t := 12) dX5_few_1 rfl (
  s_J) <|
  s_iload_n dX5_few_4 rfl <|
  s_iconst dX5_few_5 rfl <|
  s_icmp_eq (t := 12) dX5_few_6 rfl (
  s_J) <|
  s_bipush dX5_few_9 rfl (by decide) <|
  s_ireturn dX5_few_11 rfl
def k_X5_few_12 (d : Nat) (Q : xV → xMem → Prop) : xP :=
  x_aload 0 <|
  x_aload 0 <|
  x_getR 5 3 <|
  x_cV1 M_X5_gladdestOf d 5 <|
  x_pop <|
  x_aload 0 <|
  x_getR 5 7 <|
  x_cV0 M_X0_fewestFigures d 0 <|
  x_istore 2 <|
  x_iload 1 <|
  x_c1 (fun x => ¬ x = 0) (
  x_iload 2 <|
  x_cS1 M_J6_bitCount_0f7a4 d <|
  x_ret Q) <|
  x_iload 2 <|
  x_ret Q
set_option maxRecDepth 100000 in
theorem b_X5_few_12 {d : Nat} {Q : xV → xMem → Prop} : Snd M_X5_few (d + 1) 12 Q (k_X5_few_12 d Q) :=
  s_aload_n dX5_few_12 rfl <|
  s_aload_n dX5_few_13 rfl <|
  s_getR xC5 (by decide) (fun _ _ _ => rfl) fl_X5_42 dX5_few_14 <|
  s_cV1 ce_X5_gladdestOf ml_X5_194 im_X5_gladdestOf se_X5_gladdestOf xC5 dX5_few_17 <|
  s_pop dX5_few_20 <|
  s_aload_n dX5_few_21 rfl <|
  s_getR xC5 (by decide) (fun _ _ _ => rfl) fl_X5_25 dX5_few_22 <|
  s_cV0 ce_X0_fewestFigures ml_X5_198 im_X0_fewestFigures se_X0_fewestFigures xC0 dX5_few_25 <|
  s_istore_n dX5_few_28 rfl (by decide) <|
  s_iload_n dX5_few_29 rfl <|
  s_if_ne (t := 37) dX5_few_30 rfl (
  s_iload_n dX5_few_37 rfl <|
  s_cS1 ce_J6_bitCount_0f7a4 ml_X5_201 sm_J6_bitCount_0f7a4 dX5_few_38 <|
  s_ireturn dX5_few_41 rfl) <|
  s_iload_n dX5_few_33 rfl <|
  s_goto (t := 41) dX5_few_34 rfl <|
  s_ireturn dX5_few_41 rfl
-- X5_few: cuts [0, 12]
def k_X5_missed_0 (d : Nat) (Q : xV → xMem → Prop) : xP :=
  x_iload 1 <|
  x_c1 (fun x => x = 0) (
  (xJ M_X5_missed (d + 1) 12 Q)) <|
  x_iload 1 <|
  x_push (vi 1) <|
  x_c2 (fun x y => x = y) (
  (xJ M_X5_missed (d + 1) 12 Q)) <|
  x_push (vi (-100000)) <|
  x_ret Q
set_option maxRecDepth 100000 in
theorem b_X5_missed_0 {d : Nat} {Q : xV → xMem → Prop} : Snd M_X5_missed (d + 1) 0 Q (k_X5_missed_0 d Q) :=
  s_iload_n dX5_missed_0 rfl <|
  s_if_eq (t := 12) dX5_missed_1 rfl (
  s_J) <|
  s_iload_n dX5_missed_4 rfl <|
  s_iconst dX5_missed_5 rfl <|
  s_icmp_eq (t := 12) dX5_missed_6 rfl (
  s_J) <|
  s_ldc dX5_missed_9 kc_X5_137 rfl (by decide) <|
  s_ireturn dX5_missed_11 rfl
def k_X5_missed_12 (d : Nat) (Q : xV → xMem → Prop) : xP :=
  x_aload 0 <|
  x_aload 0 <|
  x_getR 5 3 <|
  x_cV1 M_X5_gladdestOf d 5 <|
  x_istore 2 <|
  x_push (vi (-1)) <|
  x_istore 3 <|
  x_push (vi 0) <|
  x_istore 4 <|
  (xJ M_X5_missed (d + 1) 26 Q)
set_option maxRecDepth 100000 in
theorem b_X5_missed_12 {d : Nat} {Q : xV → xMem → Prop} : Snd M_X5_missed (d + 1) 12 Q (k_X5_missed_12 d Q) :=
  s_aload_n dX5_missed_12 rfl <|
  s_aload_n dX5_missed_13 rfl <|
  s_getR xC5 (by decide) (fun _ _ _ => rfl) fl_X5_42 dX5_missed_14 <|
  s_cV1 ce_X5_gladdestOf ml_X5_194 im_X5_gladdestOf se_X5_gladdestOf xC5 dX5_missed_17 <|
  s_istore_n dX5_missed_20 rfl (by decide) <|
  s_iconst dX5_missed_21 rfl <|
  s_istore_n dX5_missed_22 rfl (by decide) <|
  s_iconst dX5_missed_23 rfl <|
  s_istore dX5_missed_24 (by decide) <|
  s_J
def k_X5_missed_26 (d : Nat) (Q : xV → xMem → Prop) : xP :=
  x_iload 4 <|
  x_aload 0 <|
  x_getR 5 3 <|
  x_getI 4 3 <|
  x_c2 (fun x y => y ≤ x) (
  x_iload 1 <|
  x_c1 (fun x => ¬ x = 0) (
  x_iload 2 <|
  x_ret Q) <|
  x_iload 3 <|
  x_ret Q) <|
  x_aload 0 <|
  x_getR 5 7 <|
  x_aload 0 <|
  x_getR 5 7 <|
  x_getR 0 1 <|
  x_push (vi 63) <|
  x_push (vi 1) <|
  x_iload 4 <|
  x_bin oshl <|
  x_push (vi (-1)) <|
  x_bin oxor <|
  x_bin oand <|
  x_cV2 M_X0_showBest d 0 <|
  x_istore 5 <|
  x_iload 3 <|
  x_push (vi (-1)) <|
  x_c2 (fun x y => x = y) (
  x_iload 5 <|
  x_istore 2 <|
  x_iload 4 <|
  x_istore 3 <|
  x_iinc 4 1 <|
  (xJ M_X5_missed (d + 1) 26 Q)) <|
  x_iload 5 <|
  x_iload 2 <|
  x_c2 (fun x y => y ≤ x) (
  x_iinc 4 1 <|
  (xJ M_X5_missed (d + 1) 26 Q)) <|
  x_iload 5 <|
  x_istore 2 <|
  x_iload 4 <|
  x_istore 3 <|
  x_iinc 4 1 <|
  (xJ M_X5_missed (d + 1) 26 Q)
set_option maxRecDepth 100000 in
theorem b_X5_missed_26 {d : Nat} {Q : xV → xMem → Prop} : Snd M_X5_missed (d + 1) 26 Q (k_X5_missed_26 d Q) :=
  s_iload dX5_missed_26 <|
  s_aload_n dX5_missed_28 rfl <|
  s_getR xC5 (by decide) (fun _ _ _ => rfl) fl_X5_42 dX5_missed_29 <|
  s_getI xC4 (by decide) (fun _ _ _ => rfl) fl_X5_161 dX5_missed_32 <|
  s_icmp_ge (t := 86) dX5_missed_35 rfl (
  s_iload_n dX5_missed_86 rfl <|
  s_if_ne (t := 94) dX5_missed_87 rfl (
  s_iload_n dX5_missed_94 rfl <|
  s_ireturn dX5_missed_95 rfl) <|
  s_iload_n dX5_missed_90 rfl <|
  s_goto (t := 95) dX5_missed_91 rfl <|
  s_ireturn dX5_missed_95 rfl) <|
  s_aload_n dX5_missed_38 rfl <|
  s_getR xC5 (by decide) (fun _ _ _ => rfl) fl_X5_25 dX5_missed_39 <|
  s_aload_n dX5_missed_42 rfl <|
  s_getR xC5 (by decide) (fun _ _ _ => rfl) fl_X5_25 dX5_missed_43 <|
  s_getR xC0 (by decide) (fun _ _ _ => rfl) fl_X5_177 dX5_missed_46 <|
  s_bipush dX5_missed_49 rfl (by decide) <|
  s_iconst dX5_missed_51 rfl <|
  s_iload dX5_missed_52 <|
  s_ishl dX5_missed_54 <|
  s_iconst dX5_missed_55 rfl <|
  s_ixor dX5_missed_56 <|
  s_iand dX5_missed_57 <|
  s_cV2 ce_X0_showBest ml_X5_184 im_X0_showBest se_X0_showBest xC0 dX5_missed_58 <|
  s_istore dX5_missed_61 (by decide) <|
  s_iload_n dX5_missed_63 rfl <|
  s_iconst dX5_missed_64 rfl <|
  s_icmp_eq (t := 74) dX5_missed_65 rfl (
  s_iload dX5_missed_74 <|
  s_istore_n dX5_missed_76 rfl (by decide) <|
  s_iload dX5_missed_77 <|
  s_istore_n dX5_missed_79 rfl (by decide) <|
  s_iinc dX5_missed_80 (by decide) <|
  s_goto (t := 26) dX5_missed_83 rfl <|
  s_J) <|
  s_iload dX5_missed_68 <|
  s_iload_n dX5_missed_70 rfl <|
  s_icmp_ge (t := 80) dX5_missed_71 rfl (
  s_iinc dX5_missed_80 (by decide) <|
  s_goto (t := 26) dX5_missed_83 rfl <|
  s_J) <|
  s_iload dX5_missed_74 <|
  s_istore_n dX5_missed_76 rfl (by decide) <|
  s_iload dX5_missed_77 <|
  s_istore_n dX5_missed_79 rfl (by decide) <|
  s_iinc dX5_missed_80 (by decide) <|
  s_goto (t := 26) dX5_missed_83 rfl <|
  s_J
-- X5_missed: cuts [0, 12, 26]
def k_X5_change_0 (d : Nat) (Q : xV → xMem → Prop) : xP :=
  x_iload 1 <|
  x_c1 (fun x => x = 0) (
  (xJ M_X5_change (d + 1) 12 Q)) <|
  x_iload 1 <|
  x_push (vi 1) <|
  x_c2 (fun x y => x = y) (
  (xJ M_X5_change (d + 1) 12 Q)) <|
  x_push (vi (-100000)) <|
  x_ret Q
set_option maxRecDepth 100000 in
theorem b_X5_change_0 {d : Nat} {Q : xV → xMem → Prop} : Snd M_X5_change (d + 1) 0 Q (k_X5_change_0 d Q) :=
  s_iload_n dX5_change_0 rfl <|
  s_if_eq (t := 12) dX5_change_1 rfl (
  s_J) <|
  s_iload_n dX5_change_4 rfl <|
  s_iconst dX5_change_5 rfl <|
  s_icmp_eq (t := 12) dX5_change_6 rfl (
  s_J) <|
  s_ldc dX5_change_9 kc_X5_137 rfl (by decide) <|
  s_ireturn dX5_change_11 rfl
def k_X5_change_12 (d : Nat) (Q : xV → xMem → Prop) : xP :=
  x_aload 0 <|
  x_aload 0 <|
  x_getR 5 3 <|
  x_cV1 M_X5_gladdestOf d 5 <|
  x_istore 2 <|
  x_push (vi (-1)) <|
  x_istore 3 <|
  x_push (vi 0) <|
  x_istore 4 <|
  (xJ M_X5_change (d + 1) 26 Q)
set_option maxRecDepth 100000 in
theorem b_X5_change_12 {d : Nat} {Q : xV → xMem → Prop} : Snd M_X5_change (d + 1) 12 Q (k_X5_change_12 d Q) :=
  s_aload_n dX5_change_12 rfl <|
  s_aload_n dX5_change_13 rfl <|
  s_getR xC5 (by decide) (fun _ _ _ => rfl) fl_X5_42 dX5_change_14 <|
  s_cV1 ce_X5_gladdestOf ml_X5_194 im_X5_gladdestOf se_X5_gladdestOf xC5 dX5_change_17 <|
  s_istore_n dX5_change_20 rfl (by decide) <|
  s_iconst dX5_change_21 rfl <|
  s_istore_n dX5_change_22 rfl (by decide) <|
  s_iconst dX5_change_23 rfl <|
  s_istore dX5_change_24 (by decide) <|
  s_J
def k_X5_change_26 (d : Nat) (Q : xV → xMem → Prop) : xP :=
  x_iload 4 <|
  x_aload 0 <|
  x_getR 5 3 <|
  x_getI 4 4 <|
  x_c2 (fun x y => y ≤ x) (
  x_iload 1 <|
  x_c1 (fun x => ¬ x = 0) (
  x_iload 2 <|
  x_ret Q) <|
  x_iload 3 <|
  x_ret Q) <|
  x_iload 4 <|
  x_push (vi 1) <|
  x_bin oadd <|
  x_istore 5 <|
  (xJ M_X5_change (d + 1) 44 Q)
set_option maxRecDepth 100000 in
theorem b_X5_change_26 {d : Nat} {Q : xV → xMem → Prop} : Snd M_X5_change (d + 1) 26 Q (k_X5_change_26 d Q) :=
  s_iload dX5_change_26 <|
  s_aload_n dX5_change_28 rfl <|
  s_getR xC5 (by decide) (fun _ _ _ => rfl) fl_X5_42 dX5_change_29 <|
  s_getI xC4 (by decide) (fun _ _ _ => rfl) fl_X5_206 dX5_change_32 <|
  s_icmp_ge (t := 147) dX5_change_35 rfl (
  s_iload_n dX5_change_147 rfl <|
  s_if_ne (t := 155) dX5_change_148 rfl (
  s_iload_n dX5_change_155 rfl <|
  s_ireturn dX5_change_156 rfl) <|
  s_iload_n dX5_change_151 rfl <|
  s_goto (t := 156) dX5_change_152 rfl <|
  s_ireturn dX5_change_156 rfl) <|
  s_iload dX5_change_38 <|
  s_iconst dX5_change_40 rfl <|
  s_iadd dX5_change_41 <|
  s_istore dX5_change_42 (by decide) <|
  s_J
def k_X5_change_44 (d : Nat) (Q : xV → xMem → Prop) : xP :=
  x_iload 5 <|
  x_aload 0 <|
  x_getR 5 3 <|
  x_getI 4 4 <|
  x_c2 (fun x y => y ≤ x) (
  x_iinc 4 1 <|
  (xJ M_X5_change (d + 1) 26 Q)) <|
  x_aload 0 <|
  x_getR 5 4 <|
  x_aload 0 <|
  x_getR 5 3 <|
  x_cV1 M_X4_become d 4 <|
  x_aload 0 <|
  x_getR 5 4 <|
  x_getR 4 9 <|
  x_iload 4 <|
  x_aload 0 <|
  x_getR 5 3 <|
  x_getR 4 9 <|
  x_iload 5 <|
  x_iaload <|
  x_iastore <|
  x_aload 0 <|
  x_getR 5 4 <|
  x_getR 4 9 <|
  x_iload 5 <|
  x_aload 0 <|
  x_getR 5 3 <|
  x_getR 4 9 <|
  x_iload 4 <|
  x_iaload <|
  x_iastore <|
  x_aload 0 <|
  x_aload 0 <|
  x_getR 5 4 <|
  x_cV1 M_X5_gladdestOf d 5 <|
  x_istore 6 <|
  x_iload 6 <|
  x_iload 2 <|
  x_c2 (fun x y => x ≤ y) (
  x_iinc 5 1 <|
  (xJ M_X5_change (d + 1) 44 Q)) <|
  x_iload 6 <|
  x_istore 2 <|
  x_push (vi 10) <|
  x_iload 4 <|
  x_bin omul <|
  x_iload 5 <|
  x_bin oadd <|
  x_istore 3 <|
  x_iinc 5 1 <|
  (xJ M_X5_change (d + 1) 44 Q)
set_option maxRecDepth 100000 in
theorem b_X5_change_44 {d : Nat} {Q : xV → xMem → Prop} : Snd M_X5_change (d + 1) 44 Q (k_X5_change_44 d Q) :=
  s_iload dX5_change_44 <|
  s_aload_n dX5_change_46 rfl <|
  s_getR xC5 (by decide) (fun _ _ _ => rfl) fl_X5_42 dX5_change_47 <|
  s_getI xC4 (by decide) (fun _ _ _ => rfl) fl_X5_206 dX5_change_50 <|
  s_icmp_ge (t := 141) dX5_change_53 rfl (
  s_iinc dX5_change_141 (by decide) <|
  s_goto (t := 26) dX5_change_144 rfl <|
  s_J) <|
  s_aload_n dX5_change_56 rfl <|
  s_getR xC5 (by decide) (fun _ _ _ => rfl) fl_X5_46 dX5_change_57 <|
  s_aload_n dX5_change_60 rfl <|
  s_getR xC5 (by decide) (fun _ _ _ => rfl) fl_X5_42 dX5_change_61 <|
  s_cV1 ce_X4_become ml_X5_209 im_X4_become se_X4_become xC4 dX5_change_64 <|
  s_aload_n dX5_change_67 rfl <|
  s_getR xC5 (by decide) (fun _ _ _ => rfl) fl_X5_46 dX5_change_68 <|
  s_getR xC4 (by decide) (fun _ _ _ => rfl) fl_X5_212 dX5_change_71 <|
  s_iload dX5_change_74 <|
  s_aload_n dX5_change_76 rfl <|
  s_getR xC5 (by decide) (fun _ _ _ => rfl) fl_X5_42 dX5_change_77 <|
  s_getR xC4 (by decide) (fun _ _ _ => rfl) fl_X5_212 dX5_change_80 <|
  s_iload dX5_change_83 <|
  s_iaload dX5_change_85 <|
  s_iastore dX5_change_86 <|
  s_aload_n dX5_change_87 rfl <|
  s_getR xC5 (by decide) (fun _ _ _ => rfl) fl_X5_46 dX5_change_88 <|
  s_getR xC4 (by decide) (fun _ _ _ => rfl) fl_X5_212 dX5_change_91 <|
  s_iload dX5_change_94 <|
  s_aload_n dX5_change_96 rfl <|
  s_getR xC5 (by decide) (fun _ _ _ => rfl) fl_X5_42 dX5_change_97 <|
  s_getR xC4 (by decide) (fun _ _ _ => rfl) fl_X5_212 dX5_change_100 <|
  s_iload dX5_change_103 <|
  s_iaload dX5_change_105 <|
  s_iastore dX5_change_106 <|
  s_aload_n dX5_change_107 rfl <|
  s_aload_n dX5_change_108 rfl <|
  s_getR xC5 (by decide) (fun _ _ _ => rfl) fl_X5_46 dX5_change_109 <|
  s_cV1 ce_X5_gladdestOf ml_X5_194 im_X5_gladdestOf se_X5_gladdestOf xC5 dX5_change_112 <|
  s_istore dX5_change_115 (by decide) <|
  s_iload dX5_change_117 <|
  s_iload_n dX5_change_119 rfl <|
  s_icmp_le (t := 135) dX5_change_120 rfl (
  s_iinc dX5_change_135 (by decide) <|
  s_goto (t := 44) dX5_change_138 rfl <|
  s_J) <|
  s_iload dX5_change_123 <|
  s_istore_n dX5_change_125 rfl (by decide) <|
  s_bipush dX5_change_126 rfl (by decide) <|
  s_iload dX5_change_128 <|
  s_imul dX5_change_130 <|
  s_iload dX5_change_131 <|
  s_iadd dX5_change_133 <|
  s_istore_n dX5_change_134 rfl (by decide) <|
  s_iinc dX5_change_135 (by decide) <|
  s_goto (t := 44) dX5_change_138 rfl <|
  s_J
-- X5_change: cuts [0, 12, 26, 44]
def k_X5_raise_0 (d : Nat) (Q : xV → xMem → Prop) : xP :=
  x_iload 1 <|
  x_c1 (fun x => x < 0) (
  x_push (vi (-100000)) <|
  x_ret Q) <|
  x_iload 1 <|
  x_push (vi 1000) <|
  x_c2 (fun x y => y ≤ x) (
  x_push (vi (-100000)) <|
  x_ret Q) <|
  x_iload 2 <|
  x_c1 (fun x => x = 0) (
  (xJ M_X5_raise (d + 1) 23 Q)) <|
  x_iload 2 <|
  x_push (vi 1) <|
  x_c2 (fun x y => x = y) (
  (xJ M_X5_raise (d + 1) 23 Q)) <|
  x_push (vi (-100000)) <|
  x_ret Q
set_option maxRecDepth 100000 in
theorem b_X5_raise_0 {d : Nat} {Q : xV → xMem → Prop} : Snd M_X5_raise (d + 1) 0 Q (k_X5_raise_0 d Q) :=
  s_iload_n dX5_raise_0 rfl <|
  s_if_lt (t := 20) dX5_raise_1 rfl (
  s_ldc dX5_raise_20 kc_X5_137 rfl (by decide) <|
  s_ireturn dX5_raise_22 rfl) <|
  s_iload_n dX5_raise_4 rfl <|
  s_sipush dX5_raise_5 rfl (by decide) <|
  s_icmp_ge (t := 20) dX5_raise_8 rfl (
  s_ldc dX5_raise_20 kc_X5_137 rfl (by decide) <|
  s_ireturn dX5_raise_22 rfl) <|
  s_iload_n dX5_raise_11 rfl <|
  s_if_eq (t := 23) dX5_raise_12 rfl (
  s_J) <|
  s_iload_n dX5_raise_15 rfl <|
  s_iconst dX5_raise_16 rfl <|
  s_icmp_eq (t := 23) dX5_raise_17 rfl (
  s_J) <|
  s_ldc dX5_raise_20 kc_X5_137 rfl (by decide) <|
  s_ireturn dX5_raise_22 rfl
def k_X5_raise_23 (d : Nat) (Q : xV → xMem → Prop) : xP :=
  x_aload 0 <|
  x_aload 0 <|
  x_getR 5 3 <|
  x_cV1 M_X5_gladdestOf d 5 <|
  x_istore 3 <|
  x_push (vi (-1)) <|
  x_istore 4 <|
  x_push (vi 0) <|
  x_istore 5 <|
  (xJ M_X5_raise (d + 1) 38 Q)
set_option maxRecDepth 100000 in
theorem b_X5_raise_23 {d : Nat} {Q : xV → xMem → Prop} : Snd M_X5_raise (d + 1) 23 Q (k_X5_raise_23 d Q) :=
  s_aload_n dX5_raise_23 rfl <|
  s_aload_n dX5_raise_24 rfl <|
  s_getR xC5 (by decide) (fun _ _ _ => rfl) fl_X5_42 dX5_raise_25 <|
  s_cV1 ce_X5_gladdestOf ml_X5_194 im_X5_gladdestOf se_X5_gladdestOf xC5 dX5_raise_28 <|
  s_istore_n dX5_raise_31 rfl (by decide) <|
  s_iconst dX5_raise_32 rfl <|
  s_istore dX5_raise_33 (by decide) <|
  s_iconst dX5_raise_35 rfl <|
  s_istore dX5_raise_36 (by decide) <|
  s_J
def k_X5_raise_38 (d : Nat) (Q : xV → xMem → Prop) : xP :=
  x_iload 5 <|
  x_aload 0 <|
  x_getR 5 3 <|
  x_getI 4 3 <|
  x_c2 (fun x y => y ≤ x) (
  x_iload 2 <|
  x_c1 (fun x => ¬ x = 0) (
  x_iload 3 <|
  x_ret Q) <|
  x_iload 4 <|
  x_ret Q) <|
  x_aload 0 <|
  x_getR 5 4 <|
  x_aload 0 <|
  x_getR 5 3 <|
  x_cV1 M_X4_become d 4 <|
  x_aload 0 <|
  x_getR 5 4 <|
  x_getR 4 7 <|
  x_iload 5 <|
  x_aload 0 <|
  x_getR 5 3 <|
  x_getR 4 7 <|
  x_iload 5 <|
  x_iaload <|
  x_iload 1 <|
  x_bin oadd <|
  x_push (vi 999) <|
  x_mm min <|
  x_iastore <|
  x_aload 0 <|
  x_aload 0 <|
  x_getR 5 4 <|
  x_cV1 M_X5_gladdestOf d 5 <|
  x_istore 6 <|
  x_iload 6 <|
  x_iload 3 <|
  x_c2 (fun x y => x ≤ y) (
  x_iinc 5 1 <|
  (xJ M_X5_raise (d + 1) 38 Q)) <|
  x_iload 6 <|
  x_istore 3 <|
  x_iload 5 <|
  x_istore 4 <|
  x_iinc 5 1 <|
  (xJ M_X5_raise (d + 1) 38 Q)
set_option maxRecDepth 100000 in
theorem b_X5_raise_38 {d : Nat} {Q : xV → xMem → Prop} : Snd M_X5_raise (d + 1) 38 Q (k_X5_raise_38 d Q) :=
  s_iload dX5_raise_38 <|
  s_aload_n dX5_raise_40 rfl <|
  s_getR xC5 (by decide) (fun _ _ _ => rfl) fl_X5_42 dX5_raise_41 <|
  s_getI xC4 (by decide) (fun _ _ _ => rfl) fl_X5_161 dX5_raise_44 <|
  s_icmp_ge (t := 118) dX5_raise_47 rfl (
  s_iload_n dX5_raise_118 rfl <|
  s_if_ne (t := 127) dX5_raise_119 rfl (
  s_iload_n dX5_raise_127 rfl <|
  s_ireturn dX5_raise_128 rfl) <|
  s_iload dX5_raise_122 <|
  s_goto (t := 128) dX5_raise_124 rfl <|
  s_ireturn dX5_raise_128 rfl) <|
  s_aload_n dX5_raise_50 rfl <|
  s_getR xC5 (by decide) (fun _ _ _ => rfl) fl_X5_46 dX5_raise_51 <|
  s_aload_n dX5_raise_54 rfl <|
  s_getR xC5 (by decide) (fun _ _ _ => rfl) fl_X5_42 dX5_raise_55 <|
  s_cV1 ce_X4_become ml_X5_209 im_X4_become se_X4_become xC4 dX5_raise_58 <|
  s_aload_n dX5_raise_61 rfl <|
  s_getR xC5 (by decide) (fun _ _ _ => rfl) fl_X5_46 dX5_raise_62 <|
  s_getR xC4 (by decide) (fun _ _ _ => rfl) fl_X5_158 dX5_raise_65 <|
  s_iload dX5_raise_68 <|
  s_aload_n dX5_raise_70 rfl <|
  s_getR xC5 (by decide) (fun _ _ _ => rfl) fl_X5_42 dX5_raise_71 <|
  s_getR xC4 (by decide) (fun _ _ _ => rfl) fl_X5_158 dX5_raise_74 <|
  s_iload dX5_raise_77 <|
  s_iaload dX5_raise_79 <|
  s_iload_n dX5_raise_80 rfl <|
  s_iadd dX5_raise_81 <|
  s_sipush dX5_raise_82 rfl (by decide) <|
  s_mmin mm_min_X5_215 dX5_raise_85 <|
  s_iastore dX5_raise_88 <|
  s_aload_n dX5_raise_89 rfl <|
  s_aload_n dX5_raise_90 rfl <|
  s_getR xC5 (by decide) (fun _ _ _ => rfl) fl_X5_46 dX5_raise_91 <|
  s_cV1 ce_X5_gladdestOf ml_X5_194 im_X5_gladdestOf se_X5_gladdestOf xC5 dX5_raise_94 <|
  s_istore dX5_raise_97 (by decide) <|
  s_iload dX5_raise_99 <|
  s_iload_n dX5_raise_101 rfl <|
  s_icmp_le (t := 112) dX5_raise_102 rfl (
  s_iinc dX5_raise_112 (by decide) <|
  s_goto (t := 38) dX5_raise_115 rfl <|
  s_J) <|
  s_iload dX5_raise_105 <|
  s_istore_n dX5_raise_107 rfl (by decide) <|
  s_iload dX5_raise_108 <|
  s_istore dX5_raise_110 (by decide) <|
  s_iinc dX5_raise_112 (by decide) <|
  s_goto (t := 38) dX5_raise_115 rfl <|
  s_J
-- X5_raise: cuts [0, 23, 38]
def k_X5_dear_0 (d : Nat) (Q : xV → xMem → Prop) : xP :=
  x_iload 1 <|
  x_c1 (fun x => x = 0) (
  x_push (vi (-1)) <|
  x_istore 2 <|
  x_push (vi 1) <|
  x_istore 3 <|
  x_push (vi 1) <|
  x_istore 4 <|
  (xJ M_X5_dear (d + 1) 19 Q)) <|
  x_iload 1 <|
  x_push (vi 1) <|
  x_c2 (fun x y => x = y) (
  x_push (vi (-1)) <|
  x_istore 2 <|
  x_push (vi 1) <|
  x_istore 3 <|
  x_push (vi 1) <|
  x_istore 4 <|
  (xJ M_X5_dear (d + 1) 19 Q)) <|
  x_push (vi (-100000)) <|
  x_ret Q
set_option maxRecDepth 100000 in
theorem b_X5_dear_0 {d : Nat} {Q : xV → xMem → Prop} : Snd M_X5_dear (d + 1) 0 Q (k_X5_dear_0 d Q) :=
  s_iload_n dX5_dear_0 rfl <|
  s_if_eq (t := 12) dX5_dear_1 rfl (
  s_iconst dX5_dear_12 rfl <|
  s_istore_n dX5_dear_13 rfl (by decide) <|
  s_iconst dX5_dear_14 rfl <|
  s_istore_n dX5_dear_15 rfl (by decide) <|
  s_iconst dX5_dear_16 rfl <|
  s_istore dX5_dear_17 (by decide) <|
  s_J) <|
  s_iload_n dX5_dear_4 rfl <|
  s_iconst dX5_dear_5 rfl <|
  s_icmp_eq (t := 12) dX5_dear_6 rfl (
  s_iconst dX5_dear_12 rfl <|
  s_istore_n dX5_dear_13 rfl (by decide) <|
  s_iconst dX5_dear_14 rfl <|
  s_istore_n dX5_dear_15 rfl (by decide) <|
  s_iconst dX5_dear_16 rfl <|
  s_istore dX5_dear_17 (by decide) <|
  s_J) <|
  s_ldc dX5_dear_9 kc_X5_137 rfl (by decide) <|
  s_ireturn dX5_dear_11 rfl
def k_X5_dear_19 (d : Nat) (Q : xV → xMem → Prop) : xP :=
  x_iload 4 <|
  x_push (vi 10) <|
  x_c2 (fun x y => y ≤ x) (
  x_iload 1 <|
  x_c1 (fun x => ¬ x = 0) (
  x_iload 2 <|
  x_ret Q) <|
  x_iload 3 <|
  x_ret Q) <|
  x_aload 0 <|
  x_getR 5 4 <|
  x_aload 0 <|
  x_getR 5 3 <|
  x_cV1 M_X4_become d 4 <|
  x_aload 0 <|
  x_getR 5 4 <|
  x_iload 4 <|
  x_putI 4 1 <|
  x_aload 0 <|
  x_getR 5 7 <|
  x_aload 0 <|
  x_getR 5 4 <|
  x_cV1 M_X0_look d 0 <|
  x_aload 0 <|
  x_getR 5 7 <|
  x_aload 0 <|
  x_getR 5 7 <|
  x_getR 0 2 <|
  x_push (vi 63) <|
  x_cV2 M_X0_showBest d 0 <|
  x_istore 5 <|
  x_iload 5 <|
  x_iload 2 <|
  x_c2 (fun x y => x ≤ y) (
  x_iinc 4 1 <|
  (xJ M_X5_dear (d + 1) 19 Q)) <|
  x_iload 5 <|
  x_istore 2 <|
  x_iload 4 <|
  x_istore 3 <|
  x_iinc 4 1 <|
  (xJ M_X5_dear (d + 1) 19 Q)
set_option maxRecDepth 100000 in
theorem b_X5_dear_19 {d : Nat} {Q : xV → xMem → Prop} : Snd M_X5_dear (d + 1) 19 Q (k_X5_dear_19 d Q) :=
  s_iload dX5_dear_19 <|
  s_bipush dX5_dear_21 rfl (by decide) <|
  s_icmp_ge (t := 93) dX5_dear_23 rfl (
  s_iload_n dX5_dear_93 rfl <|
  s_if_ne (t := 101) dX5_dear_94 rfl (
  s_iload_n dX5_dear_101 rfl <|
  s_ireturn dX5_dear_102 rfl) <|
  s_iload_n dX5_dear_97 rfl <|
  s_goto (t := 102) dX5_dear_98 rfl <|
  s_ireturn dX5_dear_102 rfl) <|
  s_aload_n dX5_dear_26 rfl <|
  s_getR xC5 (by decide) (fun _ _ _ => rfl) fl_X5_46 dX5_dear_27 <|
  s_aload_n dX5_dear_30 rfl <|
  s_getR xC5 (by decide) (fun _ _ _ => rfl) fl_X5_42 dX5_dear_31 <|
  s_cV1 ce_X4_become ml_X5_209 im_X4_become se_X4_become xC4 dX5_dear_34 <|
  s_aload_n dX5_dear_37 rfl <|
  s_getR xC5 (by decide) (fun _ _ _ => rfl) fl_X5_46 dX5_dear_38 <|
  s_iload dX5_dear_41 <|
  s_putI xC4 (by decide) (fun _ _ _ => rfl) rfl rfl fl_X5_220 dX5_dear_43 <|
  s_aload_n dX5_dear_46 rfl <|
  s_getR xC5 (by decide) (fun _ _ _ => rfl) fl_X5_25 dX5_dear_47 <|
  s_aload_n dX5_dear_50 rfl <|
  s_getR xC5 (by decide) (fun _ _ _ => rfl) fl_X5_46 dX5_dear_51 <|
  s_cV1 ce_X0_look ml_X5_170 im_X0_look se_X0_look xC0 dX5_dear_54 <|
  s_aload_n dX5_dear_57 rfl <|
  s_getR xC5 (by decide) (fun _ _ _ => rfl) fl_X5_25 dX5_dear_58 <|
  s_aload_n dX5_dear_61 rfl <|
  s_getR xC5 (by decide) (fun _ _ _ => rfl) fl_X5_25 dX5_dear_62 <|
  s_getR xC0 (by decide) (fun _ _ _ => rfl) fl_X5_181 dX5_dear_65 <|
  s_bipush dX5_dear_68 rfl (by decide) <|
  s_cV2 ce_X0_showBest ml_X5_184 im_X0_showBest se_X0_showBest xC0 dX5_dear_70 <|
  s_istore dX5_dear_73 (by decide) <|
  s_iload dX5_dear_75 <|
  s_iload_n dX5_dear_77 rfl <|
  s_icmp_le (t := 87) dX5_dear_78 rfl (
  s_iinc dX5_dear_87 (by decide) <|
  s_goto (t := 19) dX5_dear_90 rfl <|
  s_J) <|
  s_iload dX5_dear_81 <|
  s_istore_n dX5_dear_83 rfl (by decide) <|
  s_iload dX5_dear_84 <|
  s_istore_n dX5_dear_86 rfl (by decide) <|
  s_iinc dX5_dear_87 (by decide) <|
  s_goto (t := 19) dX5_dear_90 rfl <|
  s_J
-- X5_dear: cuts [0, 19]
def k_X5_tells_0 (d : Nat) (Q : xV → xMem → Prop) : xP :=
  x_aload 0 <|
  x_iload 1 <|
  x_cV1 M_X5_sheetOf d 5 <|
  x_astore 4 <|
  x_aload 4 <|
  x_null (
  x_push (vi (-2)) <|
  x_ret Q) (
  x_aload 0 <|
  x_getR 5 3 <|
  x_iload 2 <|
  x_cV1 M_X4_hasFigure d 4 <|
  x_c1 (fun x => x = 0) (
  x_push (vi (-2)) <|
  x_ret Q) <|
  x_iload 3 <|
  x_c1 (fun x => x < 0) (
  x_push (vi (-2)) <|
  x_ret Q) <|
  x_iload 3 <|
  x_push (vi 6) <|
  x_c2 (fun x y => x ≤ y) (
  x_aload 4 <|
  x_getI 1 0 <|
  x_push (vi (-1)) <|
  x_c2 (fun x y => ¬ x = y) (
  x_aload 4 <|
  x_getI 1 1 <|
  x_push (vi 12) <|
  x_c2 (fun x y => x ≤ y) (
  x_iload 3 <|
  x_tsw 0 [
  x_aload 0 <|
  x_getR 5 3 <|
  x_iload 2 <|
  x_aload 4 <|
  x_cV2 M_X4_firstOtherwise d 4 <|
  x_ret Q,
  x_aload 0 <|
  x_aload 4 <|
  x_iload 2 <|
  x_cV2 M_X5_kindsTold d 5 <|
  x_ret Q,
  x_aload 0 <|
  x_aload 4 <|
  x_iload 2 <|
  x_cV2 M_X5_numbersTold d 5 <|
  x_ret Q,
  x_aload 0 <|
  x_aload 4 <|
  x_iload 2 <|
  x_cV2 M_X5_ratesTold d 5 <|
  x_ret Q,
  x_aload 0 <|
  x_aload 4 <|
  x_iload 2 <|
  x_cV2 M_X5_textsTold d 5 <|
  x_ret Q] (
  x_aload 0 <|
  x_aload 4 <|
  x_iload 2 <|
  x_iload 3 <|
  x_push (vi 6) <|
  x_c2 (fun x y => ¬ x = y) (
  x_push (vi 0) <|
  x_cV3 M_X5_meansTold d 5 <|
  x_ret Q) <|
  x_push (vi 1) <|
  x_cV3 M_X5_meansTold d 5 <|
  x_ret Q)) <|
  x_push (vi (-2)) <|
  x_ret Q) <|
  x_push (vi (-11)) <|
  x_ret Q) <|
  x_push (vi (-2)) <|
  x_ret Q)
set_option maxRecDepth 100000 in
theorem b_X5_tells_0 {d : Nat} {Q : xV → xMem → Prop} : Snd M_X5_tells (d + 1) 0 Q (k_X5_tells_0 d Q) :=
  s_aload_n dX5_tells_0 rfl <|
  s_iload_n dX5_tells_1 rfl <|
  s_cV1 ce_X5_sheetOf ml_X5_129 im_X5_sheetOf se_X5_sheetOf xC5 dX5_tells_2 <|
  s_astore dX5_tells_5 (by decide) <|
  s_aload dX5_tells_7 <|
  s_ifnull (t := 33) dX5_tells_9 rfl (
  s_bipush dX5_tells_33 rfl (by decide) <|
  s_ireturn dX5_tells_35 rfl) (
  s_aload_n dX5_tells_12 rfl <|
  s_getR xC5 (by decide) (fun _ _ _ => rfl) fl_X5_42 dX5_tells_13 <|
  s_iload_n dX5_tells_16 rfl <|
  s_cV1 ce_X4_hasFigure ml_X5_101 im_X4_hasFigure se_X4_hasFigure xC4 dX5_tells_17 <|
  s_if_eq (t := 33) dX5_tells_20 rfl (
  s_bipush dX5_tells_33 rfl (by decide) <|
  s_ireturn dX5_tells_35 rfl) <|
  s_iload_n dX5_tells_23 rfl <|
  s_if_lt (t := 33) dX5_tells_24 rfl (
  s_bipush dX5_tells_33 rfl (by decide) <|
  s_ireturn dX5_tells_35 rfl) <|
  s_iload_n dX5_tells_27 rfl <|
  s_bipush dX5_tells_28 rfl (by decide) <|
  s_icmp_le (t := 36) dX5_tells_30 rfl (
  s_aload dX5_tells_36 <|
  s_getI xC1 (by decide) (fun _ _ _ => rfl) fl_X5_155 dX5_tells_38 <|
  s_iconst dX5_tells_41 rfl <|
  s_icmp_ne (t := 48) dX5_tells_42 rfl (
  s_aload dX5_tells_48 <|
  s_getI xC1 (by decide) (fun _ _ _ => rfl) fl_X5_223 dX5_tells_50 <|
  s_bipush dX5_tells_53 rfl (by decide) <|
  s_icmp_le (t := 61) dX5_tells_55 rfl (
  s_iload_n dX5_tells_61 rfl <|
  s_tsw (t := 139) (offs := [34, 45, 53, 61, 69]) dX5_tells_62 rfl rfl (
  s_aload_n dX5_tells_139 rfl <|
  s_aload dX5_tells_140 <|
  s_iload_n dX5_tells_142 rfl <|
  s_iload_n dX5_tells_143 rfl <|
  s_bipush dX5_tells_144 rfl (by decide) <|
  s_icmp_ne (t := 153) dX5_tells_146 rfl (
  s_iconst dX5_tells_153 rfl <|
  s_cV3 ce_X5_meansTold ml_X5_241 im_X5_meansTold se_X5_meansTold xC5 dX5_tells_154 <|
  s_ireturn dX5_tells_157 rfl) <|
  s_iconst dX5_tells_149 rfl <|
  s_goto (t := 154) dX5_tells_150 rfl <|
  s_cV3 ce_X5_meansTold ml_X5_241 im_X5_meansTold se_X5_meansTold xC5 dX5_tells_154 <|
  s_ireturn dX5_tells_157 rfl) ⟨⟨96, rfl, s_aload_n dX5_tells_96 rfl <|
  s_getR xC5 (by decide) (fun _ _ _ => rfl) fl_X5_42 dX5_tells_97 <|
  s_iload_n dX5_tells_100 rfl <|
  s_aload dX5_tells_101 <|
  s_cV2 ce_X4_firstOtherwise ml_X5_224 im_X4_firstOtherwise se_X4_firstOtherwise xC4 dX5_tells_103 <|
  s_ireturn dX5_tells_106 rfl⟩, ⟨⟨107, rfl, s_aload_n dX5_tells_107 rfl <|
  s_aload dX5_tells_108 <|
  s_iload_n dX5_tells_110 rfl <|
  s_cV2 ce_X5_kindsTold ml_X5_228 im_X5_kindsTold se_X5_kindsTold xC5 dX5_tells_111 <|
  s_ireturn dX5_tells_114 rfl⟩, ⟨⟨115, rfl, s_aload_n dX5_tells_115 rfl <|
  s_aload dX5_tells_116 <|
  s_iload_n dX5_tells_118 rfl <|
  s_cV2 ce_X5_numbersTold ml_X5_232 im_X5_numbersTold se_X5_numbersTold xC5 dX5_tells_119 <|
  s_ireturn dX5_tells_122 rfl⟩, ⟨⟨123, rfl, s_aload_n dX5_tells_123 rfl <|
  s_aload dX5_tells_124 <|
  s_iload_n dX5_tells_126 rfl <|
  s_cV2 ce_X5_ratesTold ml_X5_235 im_X5_ratesTold se_X5_ratesTold xC5 dX5_tells_127 <|
  s_ireturn dX5_tells_130 rfl⟩, ⟨⟨131, rfl, s_aload_n dX5_tells_131 rfl <|
  s_aload dX5_tells_132 <|
  s_iload_n dX5_tells_134 rfl <|
  s_cV2 ce_X5_textsTold ml_X5_238 im_X5_textsTold se_X5_textsTold xC5 dX5_tells_135 <|
  s_ireturn dX5_tells_138 rfl⟩, trivial⟩⟩⟩⟩⟩) <|
  s_bipush dX5_tells_58 rfl (by decide) <|
  s_ireturn dX5_tells_60 rfl) <|
  s_bipush dX5_tells_45 rfl (by decide) <|
  s_ireturn dX5_tells_47 rfl) <|
  s_bipush dX5_tells_33 rfl (by decide) <|
  s_ireturn dX5_tells_35 rfl)
-- X5_tells: cuts [0]
def k_X5_film_0 (d : Nat) (Q : xV → xMem → Prop) : xP :=
  x_aload 0 <|
  x_iload 1 <|
  x_cV1 M_X5_sheetOf d 5 <|
  x_astore 4 <|
  x_aload 4 <|
  x_null (
  x_push (vi (-2)) <|
  x_ret Q) (
  x_aload 0 <|
  x_getR 5 3 <|
  x_iload 2 <|
  x_cV1 M_X4_hasFigure d 4 <|
  x_c1 (fun x => x = 0) (
  x_push (vi (-2)) <|
  x_ret Q) <|
  x_iload 3 <|
  x_c1 (fun x => x < 0) (
  x_push (vi (-2)) <|
  x_ret Q) <|
  x_iload 3 <|
  x_push (vi 12) <|
  x_c2 (fun x y => x ≤ y) (
  x_aload 4 <|
  x_push (vi 1) <|
  x_iload 3 <|
  x_cV2 M_X1_become d 1 <|
  x_push (vi 0) <|
  x_istore 5 <|
  (xJ M_X5_film (d + 1) 46 Q)) <|
  x_push (vi (-2)) <|
  x_ret Q)
set_option maxRecDepth 100000 in
theorem b_X5_film_0 {d : Nat} {Q : xV → xMem → Prop} : Snd M_X5_film (d + 1) 0 Q (k_X5_film_0 d Q) :=
  s_aload_n dX5_film_0 rfl <|
  s_iload_n dX5_film_1 rfl <|
  s_cV1 ce_X5_sheetOf ml_X5_129 im_X5_sheetOf se_X5_sheetOf xC5 dX5_film_2 <|
  s_astore dX5_film_5 (by decide) <|
  s_aload dX5_film_7 <|
  s_ifnull (t := 33) dX5_film_9 rfl (
  s_bipush dX5_film_33 rfl (by decide) <|
  s_ireturn dX5_film_35 rfl) (
  s_aload_n dX5_film_12 rfl <|
  s_getR xC5 (by decide) (fun _ _ _ => rfl) fl_X5_42 dX5_film_13 <|
  s_iload_n dX5_film_16 rfl <|
  s_cV1 ce_X4_hasFigure ml_X5_101 im_X4_hasFigure se_X4_hasFigure xC4 dX5_film_17 <|
  s_if_eq (t := 33) dX5_film_20 rfl (
  s_bipush dX5_film_33 rfl (by decide) <|
  s_ireturn dX5_film_35 rfl) <|
  s_iload_n dX5_film_23 rfl <|
  s_if_lt (t := 33) dX5_film_24 rfl (
  s_bipush dX5_film_33 rfl (by decide) <|
  s_ireturn dX5_film_35 rfl) <|
  s_iload_n dX5_film_27 rfl <|
  s_bipush dX5_film_28 rfl (by decide) <|
  s_icmp_le (t := 36) dX5_film_30 rfl (
  s_aload dX5_film_36 <|
  s_iconst dX5_film_38 rfl <|
  s_iload_n dX5_film_39 rfl <|
  s_cV2 ce_X1_become ml_X5_245 im_X1_become se_X1_become xC1 dX5_film_40 <|
  s_iconst dX5_film_43 rfl <|
  s_istore dX5_film_44 (by decide) <|
  s_J) <|
  s_bipush dX5_film_33 rfl (by decide) <|
  s_ireturn dX5_film_35 rfl)
def k_X5_film_46 (d : Nat) (Q : xV → xMem → Prop) : xP :=
  x_iload 5 <|
  x_iload 3 <|
  x_c2 (fun x y => y ≤ x) (
  x_iload 3 <|
  x_ret Q) <|
  x_aload 4 <|
  x_iload 5 <|
  x_aload 0 <|
  x_getR 5 3 <|
  x_iload 2 <|
  x_iload 5 <|
  x_cV2 M_X4_costs d 4 <|
  x_cV2 M_X1_put d 1 <|
  x_iinc 5 1 <|
  (xJ M_X5_film (d + 1) 46 Q)
set_option maxRecDepth 100000 in
theorem b_X5_film_46 {d : Nat} {Q : xV → xMem → Prop} : Snd M_X5_film (d + 1) 46 Q (k_X5_film_46 d Q) :=
  s_iload dX5_film_46 <|
  s_iload_n dX5_film_48 rfl <|
  s_icmp_ge (t := 75) dX5_film_49 rfl (
  s_iload_n dX5_film_75 rfl <|
  s_ireturn dX5_film_76 rfl) <|
  s_aload dX5_film_52 <|
  s_iload dX5_film_54 <|
  s_aload_n dX5_film_56 rfl <|
  s_getR xC5 (by decide) (fun _ _ _ => rfl) fl_X5_42 dX5_film_57 <|
  s_iload_n dX5_film_60 rfl <|
  s_iload dX5_film_61 <|
  s_cV2 ce_X4_costs ml_X5_108 im_X4_costs se_X4_costs xC4 dX5_film_63 <|
  s_cV2 ce_X1_put ml_X5_248 im_X1_put se_X1_put xC1 dX5_film_66 <|
  s_iinc dX5_film_69 (by decide) <|
  s_goto (t := 46) dX5_film_72 rfl <|
  s_J
-- X5_film: cuts [0, 46]
def k_X5_drawn_0 (d : Nat) (Q : xV → xMem → Prop) : xP :=
  x_aload 0 <|
  x_getR 5 4 <|
  x_aload 0 <|
  x_getR 5 3 <|
  x_cV1 M_X4_become d 4 <|
  x_aload 0 <|
  x_iload 1 <|
  x_cV1 M_X5_plainJoyDrawn d 5 <|
  x_ret Q
set_option maxRecDepth 100000 in
theorem b_X5_drawn_0 {d : Nat} {Q : xV → xMem → Prop} : Snd M_X5_drawn (d + 1) 0 Q (k_X5_drawn_0 d Q) :=
  s_aload_n dX5_drawn_0 rfl <|
  s_getR xC5 (by decide) (fun _ _ _ => rfl) fl_X5_46 dX5_drawn_1 <|
  s_aload_n dX5_drawn_4 rfl <|
  s_getR xC5 (by decide) (fun _ _ _ => rfl) fl_X5_42 dX5_drawn_5 <|
  s_cV1 ce_X4_become ml_X5_209 im_X4_become se_X4_become xC4 dX5_drawn_8 <|
  s_aload_n dX5_drawn_11 rfl <|
  s_iload_n dX5_drawn_12 rfl <|
  s_cV1 ce_X5_plainJoyDrawn ml_X5_251 im_X5_plainJoyDrawn se_X5_plainJoyDrawn xC5 dX5_drawn_13 <|
  s_ireturn dX5_drawn_16 rfl
-- X5_drawn: cuts [0]
def k_X5_chance_0 (d : Nat) (Q : xV → xMem → Prop) : xP :=
  x_iload 2 <|
  x_push (vi 1) <|
  x_c2 (fun x y => x < y) (
  x_push (vl (-4611686018427387904)) <|
  x_lret Q) <|
  x_iload 2 <|
  x_push (vi 20) <|
  x_c2 (fun x y => y < x) (
  x_push (vl (-4611686018427387904)) <|
  x_lret Q) <|
  x_iload 3 <|
  x_c1 (fun x => x < 0) (
  x_push (vl (-4611686018427387904)) <|
  x_lret Q) <|
  x_iload 3 <|
  x_push (vi 1000) <|
  x_c2 (fun x y => y ≤ x) (
  x_push (vl (-4611686018427387904)) <|
  x_lret Q) <|
  x_iload 4 <|
  x_c1 (fun x => x = 0) (
  (xJ M_X5_chance (d + 1) 37 Q)) <|
  x_iload 4 <|
  x_push (vi 1) <|
  x_c2 (fun x y => x = y) (
  (xJ M_X5_chance (d + 1) 37 Q)) <|
  x_push (vl (-4611686018427387904)) <|
  x_lret Q
set_option maxRecDepth 100000 in
theorem b_X5_chance_0 {d : Nat} {Q : xV → xMem → Prop} : Snd M_X5_chance (d + 1) 0 Q (k_X5_chance_0 d Q) :=
  s_iload_n dX5_chance_0 rfl <|
  s_iconst dX5_chance_1 rfl <|
  s_icmp_lt (t := 33) dX5_chance_2 rfl (
  s_ldc2 dX5_chance_33 kl_X5_254 rfl (by decide) <|
  s_lreturn dX5_chance_36 rfl) <|
  s_iload_n dX5_chance_5 rfl <|
  s_bipush dX5_chance_6 rfl (by decide) <|
  s_icmp_gt (t := 33) dX5_chance_8 rfl (
  s_ldc2 dX5_chance_33 kl_X5_254 rfl (by decide) <|
  s_lreturn dX5_chance_36 rfl) <|
  s_iload_n dX5_chance_11 rfl <|
  s_if_lt (t := 33) dX5_chance_12 rfl (
  s_ldc2 dX5_chance_33 kl_X5_254 rfl (by decide) <|
  s_lreturn dX5_chance_36 rfl) <|
  s_iload_n dX5_chance_15 rfl <|
  s_sipush dX5_chance_16 rfl (by decide) <|
  s_icmp_ge (t := 33) dX5_chance_19 rfl (
  s_ldc2 dX5_chance_33 kl_X5_254 rfl (by decide) <|
  s_lreturn dX5_chance_36 rfl) <|
  s_iload dX5_chance_22 <|
  s_if_eq (t := 37) dX5_chance_24 rfl (
  s_J) <|
  s_iload dX5_chance_27 <|
  s_iconst dX5_chance_29 rfl <|
  s_icmp_eq (t := 37) dX5_chance_30 rfl (
  s_J) <|
  s_ldc2 dX5_chance_33 kl_X5_254 rfl (by decide) <|
  s_lreturn dX5_chance_36 rfl
def k_X5_chance_37 (d : Nat) (Q : xV → xMem → Prop) : xP :=
  x_aload 0 <|
  x_getR 5 4 <|
  x_aload 0 <|
  x_getR 5 3 <|
  x_cV1 M_X4_become d 4 <|
  x_push (vi 0) <|
  x_istore 5 <|
  x_push (vi 0) <|
  x_istore 6 <|
  (xJ M_X5_chance (d + 1) 54 Q)
set_option maxRecDepth 100000 in
theorem b_X5_chance_37 {d : Nat} {Q : xV → xMem → Prop} : Snd M_X5_chance (d + 1) 37 Q (k_X5_chance_37 d Q) :=
  s_aload_n dX5_chance_37 rfl <|
  s_getR xC5 (by decide) (fun _ _ _ => rfl) fl_X5_46 dX5_chance_38 <|
  s_aload_n dX5_chance_41 rfl <|
  s_getR xC5 (by decide) (fun _ _ _ => rfl) fl_X5_42 dX5_chance_42 <|
  s_cV1 ce_X4_become ml_X5_209 im_X4_become se_X4_become xC4 dX5_chance_45 <|
  s_iconst dX5_chance_48 rfl <|
  s_istore dX5_chance_49 (by decide) <|
  s_iconst dX5_chance_51 rfl <|
  s_istore dX5_chance_52 (by decide) <|
  s_J
def k_X5_chance_54 (d : Nat) (Q : xV → xMem → Prop) : xP :=
  x_iload 6 <|
  x_iload 2 <|
  x_c2 (fun x y => y ≤ x) (
  x_iload 5 <|
  x_iload 2 <|
  x_cS2 M_X5_commonDivisor d <|
  x_istore 6 <|
  x_iload 4 <|
  x_c1 (fun x => ¬ x = 0) (
  x_iload 2 <|
  x_iload 6 <|
  x_div odiv <|
  x_i2l <|
  x_lret Q) <|
  x_iload 5 <|
  x_iload 6 <|
  x_div odiv <|
  x_i2l <|
  x_lret Q) <|
  x_aload 0 <|
  x_iload 1 <|
  x_iload 6 <|
  x_bin oadd <|
  x_cV1 M_X5_plainJoyDrawn d 5 <|
  x_iload 3 <|
  x_c2 (fun x y => x < y) (
  x_iinc 6 1 <|
  (xJ M_X5_chance (d + 1) 54 Q)) <|
  x_iinc 5 1 <|
  x_iinc 6 1 <|
  (xJ M_X5_chance (d + 1) 54 Q)
set_option maxRecDepth 100000 in
theorem b_X5_chance_54 {d : Nat} {Q : xV → xMem → Prop} : Snd M_X5_chance (d + 1) 54 Q (k_X5_chance_54 d Q) :=
  s_iload dX5_chance_54 <|
  s_iload_n dX5_chance_56 rfl <|
  s_icmp_ge (t := 81) dX5_chance_57 rfl (
  s_iload dX5_chance_81 <|
  s_iload_n dX5_chance_83 rfl <|
  s_cS2 ce_X5_commonDivisor ml_X5_256 sm_X5_commonDivisor dX5_chance_84 <|
  s_istore dX5_chance_87 (by decide) <|
  s_iload dX5_chance_89 <|
  s_if_ne (t := 103) dX5_chance_91 rfl (
  s_iload_n dX5_chance_103 rfl <|
  s_iload dX5_chance_104 <|
  s_idiv dX5_chance_106 <|
  s_i2l dX5_chance_107 <|
  s_lreturn dX5_chance_108 rfl) <|
  s_iload dX5_chance_94 <|
  s_iload dX5_chance_96 <|
  s_idiv dX5_chance_98 <|
  s_i2l dX5_chance_99 <|
  s_goto (t := 108) dX5_chance_100 rfl <|
  s_lreturn dX5_chance_108 rfl) <|
  s_aload_n dX5_chance_60 rfl <|
  s_iload_n dX5_chance_61 rfl <|
  s_iload dX5_chance_62 <|
  s_iadd dX5_chance_64 <|
  s_cV1 ce_X5_plainJoyDrawn ml_X5_251 im_X5_plainJoyDrawn se_X5_plainJoyDrawn xC5 dX5_chance_65 <|
  s_iload_n dX5_chance_68 rfl <|
  s_icmp_lt (t := 75) dX5_chance_69 rfl (
  s_iinc dX5_chance_75 (by decide) <|
  s_goto (t := 54) dX5_chance_78 rfl <|
  s_J) <|
  s_iinc dX5_chance_72 (by decide) <|
  s_iinc dX5_chance_75 (by decide) <|
  s_goto (t := 54) dX5_chance_78 rfl <|
  s_J
-- X5_chance: cuts [0, 37, 54]
def k_X5_image_0 (d : Nat) (Q : xV → xMem → Prop) : xP :=
  x_aload 0 <|
  x_getR 5 5 <|
  x_aload 0 <|
  x_getR 5 3 <|
  x_cV1 M_X4_become d 4 <|
  x_aload 0 <|
  x_push (vi 1) <|
  x_putZ 5 6 <|
  x_aload 0 <|
  x_getR 5 3 <|
  x_getI 4 3 <|
  x_ret Q
set_option maxRecDepth 100000 in
theorem b_X5_image_0 {d : Nat} {Q : xV → xMem → Prop} : Snd M_X5_image (d + 1) 0 Q (k_X5_image_0 d Q) :=
  s_aload_n dX5_image_0 rfl <|
  s_getR xC5 (by decide) (fun _ _ _ => rfl) fl_X5_49 dX5_image_1 <|
  s_aload_n dX5_image_4 rfl <|
  s_getR xC5 (by decide) (fun _ _ _ => rfl) fl_X5_42 dX5_image_5 <|
  s_cV1 ce_X4_become ml_X5_209 im_X4_become se_X4_become xC4 dX5_image_8 <|
  s_aload_n dX5_image_11 rfl <|
  s_iconst dX5_image_12 rfl <|
  s_putZ xC5 (by decide) (fun _ _ _ => rfl) rfl rfl fl_X5_259 dX5_image_13 <|
  s_aload_n dX5_image_16 rfl <|
  s_getR xC5 (by decide) (fun _ _ _ => rfl) fl_X5_42 dX5_image_17 <|
  s_getI xC4 (by decide) (fun _ _ _ => rfl) fl_X5_161 dX5_image_20 <|
  s_ireturn dX5_image_23 rfl
-- X5_image: cuts [0]
def k_X5_back_0 (d : Nat) (Q : xV → xMem → Prop) : xP :=
  x_aload 0 <|
  x_getI 5 6 <|
  x_c1 (fun x => ¬ x = 0) (
  x_aload 0 <|
  x_getR 5 3 <|
  x_aload 0 <|
  x_getR 5 5 <|
  x_cV1 M_X4_become d 4 <|
  x_aload 0 <|
  x_getR 5 3 <|
  x_getI 4 3 <|
  x_ret Q) <|
  x_push (vi (-3)) <|
  x_ret Q
set_option maxRecDepth 100000 in
theorem b_X5_back_0 {d : Nat} {Q : xV → xMem → Prop} : Snd M_X5_back (d + 1) 0 Q (k_X5_back_0 d Q) :=
  s_aload_n dX5_back_0 rfl <|
  s_getI xC5 (by decide) (fun _ _ _ => rfl) fl_X5_259 dX5_back_1 <|
  s_if_ne (t := 10) dX5_back_4 rfl (
  s_aload_n dX5_back_10 rfl <|
  s_getR xC5 (by decide) (fun _ _ _ => rfl) fl_X5_42 dX5_back_11 <|
  s_aload_n dX5_back_14 rfl <|
  s_getR xC5 (by decide) (fun _ _ _ => rfl) fl_X5_49 dX5_back_15 <|
  s_cV1 ce_X4_become ml_X5_209 im_X4_become se_X4_become xC4 dX5_back_18 <|
  s_aload_n dX5_back_21 rfl <|
  s_getR xC5 (by decide) (fun _ _ _ => rfl) fl_X5_42 dX5_back_22 <|
  s_getI xC4 (by decide) (fun _ _ _ => rfl) fl_X5_161 dX5_back_25 <|
  s_ireturn dX5_back_28 rfl) <|
  s_bipush dX5_back_7 rfl (by decide) <|
  s_ireturn dX5_back_9 rfl
-- X5_back: cuts [0]
def k_X5_count_0 (d : Nat) (Q : xV → xMem → Prop) : xP :=
  x_iload 1 <|
  x_tsw 0 [
  x_aload 0 <|
  x_getR 5 3 <|
  x_getI 4 3 <|
  x_ret Q,
  x_aload 0 <|
  x_getR 5 3 <|
  x_getI 4 4 <|
  x_ret Q,
  x_aload 0 <|
  x_getR 5 3 <|
  x_cV0 M_X4_meansOfAll d 4 <|
  x_ret Q,
  x_aload 0 <|
  x_getI 5 1 <|
  x_ret Q,
  x_aload 0 <|
  x_getR 5 2 <|
  x_getI 2 1 <|
  x_ret Q,
  x_aload 0 <|
  x_getR 5 3 <|
  x_getI 4 2 <|
  x_ret Q] (
  x_push (vi (-2)) <|
  x_ret Q)
set_option maxRecDepth 100000 in
theorem b_X5_count_0 {d : Nat} {Q : xV → xMem → Prop} : Snd M_X5_count (d + 1) 0 Q (k_X5_count_0 d Q) :=
  s_iload_n dX5_count_0 rfl <|
  s_tsw (t := 85) (offs := [39, 47, 55, 63, 68, 76]) dX5_count_1 rfl rfl (
  s_bipush dX5_count_85 rfl (by decide) <|
  s_ireturn dX5_count_87 rfl) ⟨⟨40, rfl, s_aload_n dX5_count_40 rfl <|
  s_getR xC5 (by decide) (fun _ _ _ => rfl) fl_X5_42 dX5_count_41 <|
  s_getI xC4 (by decide) (fun _ _ _ => rfl) fl_X5_161 dX5_count_44 <|
  s_ireturn dX5_count_47 rfl⟩, ⟨⟨48, rfl, s_aload_n dX5_count_48 rfl <|
  s_getR xC5 (by decide) (fun _ _ _ => rfl) fl_X5_42 dX5_count_49 <|
  s_getI xC4 (by decide) (fun _ _ _ => rfl) fl_X5_206 dX5_count_52 <|
  s_ireturn dX5_count_55 rfl⟩, ⟨⟨56, rfl, s_aload_n dX5_count_56 rfl <|
  s_getR xC5 (by decide) (fun _ _ _ => rfl) fl_X5_42 dX5_count_57 <|
  s_cV0 ce_X4_meansOfAll ml_X5_263 im_X4_meansOfAll se_X4_meansOfAll xC4 dX5_count_60 <|
  s_ireturn dX5_count_63 rfl⟩, ⟨⟨64, rfl, s_aload_n dX5_count_64 rfl <|
  s_getI xC5 (by decide) (fun _ _ _ => rfl) fl_X5_75 dX5_count_65 <|
  s_ireturn dX5_count_68 rfl⟩, ⟨⟨69, rfl, s_aload_n dX5_count_69 rfl <|
  s_getR xC5 (by decide) (fun _ _ _ => rfl) fl_X5_18 dX5_count_70 <|
  s_getI xC2 (by decide) (fun _ _ _ => rfl) fl_X5_123 dX5_count_73 <|
  s_ireturn dX5_count_76 rfl⟩, ⟨⟨77, rfl, s_aload_n dX5_count_77 rfl <|
  s_getR xC5 (by decide) (fun _ _ _ => rfl) fl_X5_42 dX5_count_78 <|
  s_getI xC4 (by decide) (fun _ _ _ => rfl) fl_X5_126 dX5_count_81 <|
  s_ireturn dX5_count_84 rfl⟩, trivial⟩⟩⟩⟩⟩⟩
-- X5_count: cuts [0]
def k_X5_sheet_0 (d : Nat) (Q : xV → xMem → Prop) : xP :=
  x_aload 0 <|
  x_iload 1 <|
  x_cV1 M_X5_sheetOf d 5 <|
  x_astore 4 <|
  x_aload 4 <|
  x_null (
  x_push (vi (-2)) <|
  x_ret Q) (
  x_iload 2 <|
  x_push (vi (-1)) <|
  x_c2 (fun x y => x < y) (
  x_push (vi (-2)) <|
  x_ret Q) <|
  x_iload 2 <|
  x_push (vi 2) <|
  x_c2 (fun x y => x ≤ y) (
  x_iload 2 <|
  x_push (vi (-1)) <|
  x_c2 (fun x y => ¬ x = y) (
  x_iload 3 <|
  x_push (vi 40) <|
  x_c2 (fun x y => x ≤ y) (
  x_iload 3 <|
  x_c1 (fun x => 0 ≤ x) (
  x_aload 4 <|
  x_iload 2 <|
  x_iload 3 <|
  x_cV2 M_X1_become d 1 <|
  x_push (vi 1) <|
  x_ret Q) <|
  x_push (vi (-14)) <|
  x_ret Q) <|
  x_push (vi (-2)) <|
  x_ret Q) <|
  x_aload 4 <|
  x_push (vi (-1)) <|
  x_push (vi 0) <|
  x_cV2 M_X1_become d 1 <|
  x_push (vi 1) <|
  x_ret Q) <|
  x_push (vi (-2)) <|
  x_ret Q)
set_option maxRecDepth 100000 in
theorem b_X5_sheet_0 {d : Nat} {Q : xV → xMem → Prop} : Snd M_X5_sheet (d + 1) 0 Q (k_X5_sheet_0 d Q) :=
  s_aload_n dX5_sheet_0 rfl <|
  s_iload_n dX5_sheet_1 rfl <|
  s_cV1 ce_X5_sheetOf ml_X5_129 im_X5_sheetOf se_X5_sheetOf xC5 dX5_sheet_2 <|
  s_astore dX5_sheet_5 (by decide) <|
  s_aload dX5_sheet_7 <|
  s_ifnull (t := 22) dX5_sheet_9 rfl (
  s_bipush dX5_sheet_22 rfl (by decide) <|
  s_ireturn dX5_sheet_24 rfl) (
  s_iload_n dX5_sheet_12 rfl <|
  s_iconst dX5_sheet_13 rfl <|
  s_icmp_lt (t := 22) dX5_sheet_14 rfl (
  s_bipush dX5_sheet_22 rfl (by decide) <|
  s_ireturn dX5_sheet_24 rfl) <|
  s_iload_n dX5_sheet_17 rfl <|
  s_iconst dX5_sheet_18 rfl <|
  s_icmp_le (t := 25) dX5_sheet_19 rfl (
  s_iload_n dX5_sheet_25 rfl <|
  s_iconst dX5_sheet_26 rfl <|
  s_icmp_ne (t := 39) dX5_sheet_27 rfl (
  s_iload_n dX5_sheet_39 rfl <|
  s_bipush dX5_sheet_40 rfl (by decide) <|
  s_icmp_le (t := 48) dX5_sheet_42 rfl (
  s_iload_n dX5_sheet_48 rfl <|
  s_if_ge (t := 55) dX5_sheet_49 rfl (
  s_aload dX5_sheet_55 <|
  s_iload_n dX5_sheet_57 rfl <|
  s_iload_n dX5_sheet_58 rfl <|
  s_cV2 ce_X1_become ml_X5_245 im_X1_become se_X1_become xC1 dX5_sheet_59 <|
  s_iconst dX5_sheet_62 rfl <|
  s_ireturn dX5_sheet_63 rfl) <|
  s_bipush dX5_sheet_52 rfl (by decide) <|
  s_ireturn dX5_sheet_54 rfl) <|
  s_bipush dX5_sheet_45 rfl (by decide) <|
  s_ireturn dX5_sheet_47 rfl) <|
  s_aload dX5_sheet_30 <|
  s_iconst dX5_sheet_32 rfl <|
  s_iconst dX5_sheet_33 rfl <|
  s_cV2 ce_X1_become ml_X5_245 im_X1_become se_X1_become xC1 dX5_sheet_34 <|
  s_iconst dX5_sheet_37 rfl <|
  s_ireturn dX5_sheet_38 rfl) <|
  s_bipush dX5_sheet_22 rfl (by decide) <|
  s_ireturn dX5_sheet_24 rfl)
-- X5_sheet: cuts [0]
def k_X5_cell_0 (d : Nat) (Q : xV → xMem → Prop) : xP :=
  x_aload 0 <|
  x_iload 1 <|
  x_cV1 M_X5_sheetOf d 5 <|
  x_astore 4 <|
  x_aload 4 <|
  x_null (
  x_push (vi (-2)) <|
  x_ret Q) (
  x_aload 4 <|
  x_getI 1 0 <|
  x_push (vi (-1)) <|
  x_c2 (fun x y => ¬ x = y) (
  x_aload 4 <|
  x_iload 2 <|
  x_push (vi 1) <|
  x_cV2 M_X1_holds d 1 <|
  x_c1 (fun x => ¬ x = 0) (
  x_aload 4 <|
  x_iload 2 <|
  x_iload 3 <|
  x_cV2 M_X1_put d 1 <|
  x_push (vi 1) <|
  x_ret Q) <|
  x_push (vi (-12)) <|
  x_ret Q) <|
  x_push (vi (-11)) <|
  x_ret Q)
set_option maxRecDepth 100000 in
theorem b_X5_cell_0 {d : Nat} {Q : xV → xMem → Prop} : Snd M_X5_cell (d + 1) 0 Q (k_X5_cell_0 d Q) :=
  s_aload_n dX5_cell_0 rfl <|
  s_iload_n dX5_cell_1 rfl <|
  s_cV1 ce_X5_sheetOf ml_X5_129 im_X5_sheetOf se_X5_sheetOf xC5 dX5_cell_2 <|
  s_astore dX5_cell_5 (by decide) <|
  s_aload dX5_cell_7 <|
  s_ifnonnull (t := 15) dX5_cell_9 rfl (
  s_aload dX5_cell_15 <|
  s_getI xC1 (by decide) (fun _ _ _ => rfl) fl_X5_155 dX5_cell_17 <|
  s_iconst dX5_cell_20 rfl <|
  s_icmp_ne (t := 27) dX5_cell_21 rfl (
  s_aload dX5_cell_27 <|
  s_iload_n dX5_cell_29 rfl <|
  s_iconst dX5_cell_30 rfl <|
  s_cV2 ce_X1_holds ml_X5_266 im_X1_holds se_X1_holds xC1 dX5_cell_31 <|
  s_if_ne (t := 40) dX5_cell_34 rfl (
  s_aload dX5_cell_40 <|
  s_iload_n dX5_cell_42 rfl <|
  s_iload_n dX5_cell_43 rfl <|
  s_cV2 ce_X1_put ml_X5_248 im_X1_put se_X1_put xC1 dX5_cell_44 <|
  s_iconst dX5_cell_47 rfl <|
  s_ireturn dX5_cell_48 rfl) <|
  s_bipush dX5_cell_37 rfl (by decide) <|
  s_ireturn dX5_cell_39 rfl) <|
  s_bipush dX5_cell_24 rfl (by decide) <|
  s_ireturn dX5_cell_26 rfl) (
  s_bipush dX5_cell_12 rfl (by decide) <|
  s_ireturn dX5_cell_14 rfl)
-- X5_cell: cuts [0]
def k_X5_copy_0 (d : Nat) (Q : xV → xMem → Prop) : xP :=
  x_aload 0 <|
  x_iload 1 <|
  x_cV1 M_X5_sheetOf d 5 <|
  x_astore 6 <|
  x_aload 0 <|
  x_iload 3 <|
  x_cV1 M_X5_sheetOf d 5 <|
  x_astore 7 <|
  x_aload 6 <|
  x_null (
  x_push (vi (-2)) <|
  x_ret Q) (
  x_aload 7 <|
  x_null (
  x_push (vi (-2)) <|
  x_ret Q) (
  x_aload 6 <|
  x_getI 1 0 <|
  x_push (vi (-1)) <|
  x_c2 (fun x y => x = y) (
  x_push (vi (-11)) <|
  x_ret Q) <|
  x_aload 7 <|
  x_getI 1 0 <|
  x_push (vi (-1)) <|
  x_c2 (fun x y => ¬ x = y) (
  x_aload 6 <|
  x_getI 1 0 <|
  x_aload 7 <|
  x_getI 1 0 <|
  x_c2 (fun x y => x = y) (
  x_aload 6 <|
  x_iload 2 <|
  x_iload 5 <|
  x_cV2 M_X1_holds d 1 <|
  x_c1 (fun x => x = 0) (
  x_push (vi (-12)) <|
  x_ret Q) <|
  x_aload 7 <|
  x_iload 4 <|
  x_iload 5 <|
  x_cV2 M_X1_holds d 1 <|
  x_c1 (fun x => ¬ x = 0) (
  x_aload 6 <|
  x_getR 1 2 <|
  x_iload 2 <|
  x_aload 7 <|
  x_getR 1 2 <|
  x_iload 4 <|
  x_iload 5 <|
  x_acopy <|
  x_iload 5 <|
  x_ret Q) <|
  x_push (vi (-12)) <|
  x_ret Q) <|
  x_push (vi (-13)) <|
  x_ret Q) <|
  x_push (vi (-11)) <|
  x_ret Q))
set_option maxRecDepth 100000 in
theorem b_X5_copy_0 {d : Nat} {Q : xV → xMem → Prop} : Snd M_X5_copy (d + 1) 0 Q (k_X5_copy_0 d Q) :=
  s_aload_n dX5_copy_0 rfl <|
  s_iload_n dX5_copy_1 rfl <|
  s_cV1 ce_X5_sheetOf ml_X5_129 im_X5_sheetOf se_X5_sheetOf xC5 dX5_copy_2 <|
  s_astore dX5_copy_5 (by decide) <|
  s_aload_n dX5_copy_7 rfl <|
  s_iload_n dX5_copy_8 rfl <|
  s_cV1 ce_X5_sheetOf ml_X5_129 im_X5_sheetOf se_X5_sheetOf xC5 dX5_copy_9 <|
  s_astore dX5_copy_12 (by decide) <|
  s_aload dX5_copy_14 <|
  s_ifnull (t := 24) dX5_copy_16 rfl (
  s_bipush dX5_copy_24 rfl (by decide) <|
  s_ireturn dX5_copy_26 rfl) (
  s_aload dX5_copy_19 <|
  s_ifnonnull (t := 27) dX5_copy_21 rfl (
  s_aload dX5_copy_27 <|
  s_getI xC1 (by decide) (fun _ _ _ => rfl) fl_X5_155 dX5_copy_29 <|
  s_iconst dX5_copy_32 rfl <|
  s_icmp_eq (t := 45) dX5_copy_33 rfl (
  s_bipush dX5_copy_45 rfl (by decide) <|
  s_ireturn dX5_copy_47 rfl) <|
  s_aload dX5_copy_36 <|
  s_getI xC1 (by decide) (fun _ _ _ => rfl) fl_X5_155 dX5_copy_38 <|
  s_iconst dX5_copy_41 rfl <|
  s_icmp_ne (t := 48) dX5_copy_42 rfl (
  s_aload dX5_copy_48 <|
  s_getI xC1 (by decide) (fun _ _ _ => rfl) fl_X5_155 dX5_copy_50 <|
  s_aload dX5_copy_53 <|
  s_getI xC1 (by decide) (fun _ _ _ => rfl) fl_X5_155 dX5_copy_55 <|
  s_icmp_eq (t := 64) dX5_copy_58 rfl (
  s_aload dX5_copy_64 <|
  s_iload_n dX5_copy_66 rfl <|
  s_iload dX5_copy_67 <|
  s_cV2 ce_X1_holds ml_X5_266 im_X1_holds se_X1_holds xC1 dX5_copy_69 <|
  s_if_eq (t := 87) dX5_copy_72 rfl (
  s_bipush dX5_copy_87 rfl (by decide) <|
  s_ireturn dX5_copy_89 rfl) <|
  s_aload dX5_copy_75 <|
  s_iload dX5_copy_77 <|
  s_iload dX5_copy_79 <|
  s_cV2 ce_X1_holds ml_X5_266 im_X1_holds se_X1_holds xC1 dX5_copy_81 <|
  s_if_ne (t := 90) dX5_copy_84 rfl (
  s_aload dX5_copy_90 <|
  s_getR xC1 (by decide) (fun _ _ _ => rfl) fl_X5_269 dX5_copy_92 <|
  s_iload_n dX5_copy_95 rfl <|
  s_aload dX5_copy_96 <|
  s_getR xC1 (by decide) (fun _ _ _ => rfl) fl_X5_269 dX5_copy_98 <|
  s_iload dX5_copy_101 <|
  s_iload dX5_copy_103 <|
  s_acopy ml_X5_164 ac_nat ac_sta ac_ini dX5_copy_105 <|
  s_iload dX5_copy_108 <|
  s_ireturn dX5_copy_110 rfl) <|
  s_bipush dX5_copy_87 rfl (by decide) <|
  s_ireturn dX5_copy_89 rfl) <|
  s_bipush dX5_copy_61 rfl (by decide) <|
  s_ireturn dX5_copy_63 rfl) <|
  s_bipush dX5_copy_45 rfl (by decide) <|
  s_ireturn dX5_copy_47 rfl) (
  s_bipush dX5_copy_24 rfl (by decide) <|
  s_ireturn dX5_copy_26 rfl))
-- X5_copy: cuts [0]
def k_X5_figures_0 (d : Nat) (Q : xV → xMem → Prop) : xP :=
  x_aload 0 <|
  x_iload 1 <|
  x_cV1 M_X5_sheetOf d 5 <|
  x_astore 5 <|
  x_aload 5 <|
  x_null (
  x_push (vi (-2)) <|
  x_ret Q) (
  x_iload 2 <|
  x_c1 (fun x => x < 0) (
  x_push (vi (-2)) <|
  x_ret Q) <|
  x_iload 2 <|
  x_push (vi 2) <|
  x_c2 (fun x y => y < x) (
  x_push (vi (-2)) <|
  x_ret Q) <|
  x_iload 4 <|
  x_c1 (fun x => x < 0) (
  x_push (vi (-2)) <|
  x_ret Q) <|
  x_iload 4 <|
  x_push (vi 6) <|
  x_c2 (fun x y => x ≤ y) (
  x_aload 5 <|
  x_getI 1 0 <|
  x_push (vi (-1)) <|
  x_c2 (fun x y => x = y) (
  (xJ M_X5_figures (d + 1) 57 Q)) <|
  x_aload 5 <|
  x_getI 1 0 <|
  x_iload 2 <|
  x_c2 (fun x y => x = y) (
  (xJ M_X5_figures (d + 1) 57 Q)) <|
  x_push (vi (-13)) <|
  x_ret Q) <|
  x_push (vi (-2)) <|
  x_ret Q)
set_option maxRecDepth 100000 in
theorem b_X5_figures_0 {d : Nat} {Q : xV → xMem → Prop} : Snd M_X5_figures (d + 1) 0 Q (k_X5_figures_0 d Q) :=
  s_aload_n dX5_figures_0 rfl <|
  s_iload_n dX5_figures_1 rfl <|
  s_cV1 ce_X5_sheetOf ml_X5_129 im_X5_sheetOf se_X5_sheetOf xC5 dX5_figures_2 <|
  s_astore dX5_figures_5 (by decide) <|
  s_aload dX5_figures_7 <|
  s_ifnull (t := 33) dX5_figures_9 rfl (
  s_bipush dX5_figures_33 rfl (by decide) <|
  s_ireturn dX5_figures_35 rfl) (
  s_iload_n dX5_figures_12 rfl <|
  s_if_lt (t := 33) dX5_figures_13 rfl (
  s_bipush dX5_figures_33 rfl (by decide) <|
  s_ireturn dX5_figures_35 rfl) <|
  s_iload_n dX5_figures_16 rfl <|
  s_iconst dX5_figures_17 rfl <|
  s_icmp_gt (t := 33) dX5_figures_18 rfl (
  s_bipush dX5_figures_33 rfl (by decide) <|
  s_ireturn dX5_figures_35 rfl) <|
  s_iload dX5_figures_21 <|
  s_if_lt (t := 33) dX5_figures_23 rfl (
  s_bipush dX5_figures_33 rfl (by decide) <|
  s_ireturn dX5_figures_35 rfl) <|
  s_iload dX5_figures_26 <|
  s_bipush dX5_figures_28 rfl (by decide) <|
  s_icmp_le (t := 36) dX5_figures_30 rfl (
  s_aload dX5_figures_36 <|
  s_getI xC1 (by decide) (fun _ _ _ => rfl) fl_X5_155 dX5_figures_38 <|
  s_iconst dX5_figures_41 rfl <|
  s_icmp_eq (t := 57) dX5_figures_42 rfl (
  s_J) <|
  s_aload dX5_figures_45 <|
  s_getI xC1 (by decide) (fun _ _ _ => rfl) fl_X5_155 dX5_figures_47 <|
  s_iload_n dX5_figures_50 rfl <|
  s_icmp_eq (t := 57) dX5_figures_51 rfl (
  s_J) <|
  s_bipush dX5_figures_54 rfl (by decide) <|
  s_ireturn dX5_figures_56 rfl) <|
  s_bipush dX5_figures_33 rfl (by decide) <|
  s_ireturn dX5_figures_35 rfl)
def k_X5_figures_57 (d : Nat) (Q : xV → xMem → Prop) : xP :=
  x_aload 5 <|
  x_getI 1 0 <|
  x_push (vi (-1)) <|
  x_c2 (fun x y => ¬ x = y) (
  x_push (vi 0) <|
  x_istore 6 <|
  x_push (vi 0) <|
  x_istore 7 <|
  (xJ M_X5_figures (d + 1) 75 Q)) <|
  x_push (vi (-11)) <|
  x_ret Q
set_option maxRecDepth 100000 in
theorem b_X5_figures_57 {d : Nat} {Q : xV → xMem → Prop} : Snd M_X5_figures (d + 1) 57 Q (k_X5_figures_57 d Q) :=
  s_aload dX5_figures_57 <|
  s_getI xC1 (by decide) (fun _ _ _ => rfl) fl_X5_155 dX5_figures_59 <|
  s_iconst dX5_figures_62 rfl <|
  s_icmp_ne (t := 69) dX5_figures_63 rfl (
  s_iconst dX5_figures_69 rfl <|
  s_istore dX5_figures_70 (by decide) <|
  s_iconst dX5_figures_72 rfl <|
  s_istore dX5_figures_73 (by decide) <|
  s_J) <|
  s_bipush dX5_figures_66 rfl (by decide) <|
  s_ireturn dX5_figures_68 rfl
def k_X5_figures_75 (d : Nat) (Q : xV → xMem → Prop) : xP :=
  x_iload 7 <|
  x_iload 4 <|
  x_c2 (fun x y => y ≤ x) (
  x_iload 6 <|
  x_ret Q) <|
  x_iload 3 <|
  x_push (vi 3) <|
  x_iload 7 <|
  x_bin omul <|
  x_bin oadd <|
  x_istore 8 <|
  x_aload 5 <|
  x_iload 8 <|
  x_push (vi 3) <|
  x_cV2 M_X1_holds d 1 <|
  x_c1 (fun x => ¬ x = 0) (
  x_aload 0 <|
  x_getR 5 3 <|
  x_aload 5 <|
  x_getR 1 2 <|
  x_iload 8 <|
  x_iaload <|
  x_aload 5 <|
  x_getR 1 2 <|
  x_iload 8 <|
  x_push (vi 1) <|
  x_bin oadd <|
  x_iaload <|
  x_aload 5 <|
  x_getR 1 2 <|
  x_iload 8 <|
  x_push (vi 2) <|
  x_bin oadd <|
  x_iaload <|
  x_cV3 M_X4_addFigure d 4 <|
  x_c1 (fun x => x < 0) (
  x_iinc 7 1 <|
  (xJ M_X5_figures (d + 1) 75 Q)) <|
  x_iinc 6 1 <|
  x_iinc 7 1 <|
  (xJ M_X5_figures (d + 1) 75 Q)) <|
  x_push (vi (-12)) <|
  x_ret Q
set_option maxRecDepth 100000 in
theorem b_X5_figures_75 {d : Nat} {Q : xV → xMem → Prop} : Snd M_X5_figures (d + 1) 75 Q (k_X5_figures_75 d Q) :=
  s_iload dX5_figures_75 <|
  s_iload dX5_figures_77 <|
  s_icmp_ge (t := 151) dX5_figures_79 rfl (
  s_iload dX5_figures_151 <|
  s_ireturn dX5_figures_153 rfl) <|
  s_iload_n dX5_figures_82 rfl <|
  s_iconst dX5_figures_83 rfl <|
  s_iload dX5_figures_84 <|
  s_imul dX5_figures_86 <|
  s_iadd dX5_figures_87 <|
  s_istore dX5_figures_88 (by decide) <|
  s_aload dX5_figures_90 <|
  s_iload dX5_figures_92 <|
  s_iconst dX5_figures_94 rfl <|
  s_cV2 ce_X1_holds ml_X5_266 im_X1_holds se_X1_holds xC1 dX5_figures_95 <|
  s_if_ne (t := 104) dX5_figures_98 rfl (
  s_aload_n dX5_figures_104 rfl <|
  s_getR xC5 (by decide) (fun _ _ _ => rfl) fl_X5_42 dX5_figures_105 <|
  s_aload dX5_figures_108 <|
  s_getR xC1 (by decide) (fun _ _ _ => rfl) fl_X5_269 dX5_figures_110 <|
  s_iload dX5_figures_113 <|
  s_iaload dX5_figures_115 <|
  s_aload dX5_figures_116 <|
  s_getR xC1 (by decide) (fun _ _ _ => rfl) fl_X5_269 dX5_figures_118 <|
  s_iload dX5_figures_121 <|
  s_iconst dX5_figures_123 rfl <|
  s_iadd dX5_figures_124 <|
  s_iaload dX5_figures_125 <|
  s_aload dX5_figures_126 <|
  s_getR xC1 (by decide) (fun _ _ _ => rfl) fl_X5_269 dX5_figures_128 <|
  s_iload dX5_figures_131 <|
  s_iconst dX5_figures_133 rfl <|
  s_iadd dX5_figures_134 <|
  s_iaload dX5_figures_135 <|
  s_cV3 ce_X4_addFigure ml_X5_94 im_X4_addFigure se_X4_addFigure xC4 dX5_figures_136 <|
  s_if_lt (t := 145) dX5_figures_139 rfl (
  s_iinc dX5_figures_145 (by decide) <|
  s_goto (t := 75) dX5_figures_148 rfl <|
  s_J) <|
  s_iinc dX5_figures_142 (by decide) <|
  s_iinc dX5_figures_145 (by decide) <|
  s_goto (t := 75) dX5_figures_148 rfl <|
  s_J) <|
  s_bipush dX5_figures_101 rfl (by decide) <|
  s_ireturn dX5_figures_103 rfl
-- X5_figures: cuts [0, 57, 75]
def k_X5_taken_0 (d : Nat) (Q : xV → xMem → Prop) : xP :=
  x_iload 2 <|
  x_c1 (fun x => x < 0) (
  x_push (vi (-2)) <|
  x_ret Q) <|
  x_iload 2 <|
  x_push (vi 6) <|
  x_c2 (fun x y => x < y) (
  x_aload 0 <|
  x_getR 5 3 <|
  x_iload 1 <|
  x_cV1 M_X4_hasFigure d 4 <|
  x_c1 (fun x => ¬ x = 0) (
  x_aload 0 <|
  x_getR 5 3 <|
  x_getR 4 5 <|
  x_iload 1 <|
  x_iaload <|
  x_iload 2 <|
  x_cS2 M_X5_isUnder d <|
  x_c1 (fun x => x = 0) (
  x_push (vi (-13)) <|
  x_ret Q) <|
  x_aload 0 <|
  x_getR 5 3 <|
  x_getR 4 6 <|
  x_iload 1 <|
  x_iaload <|
  x_ret Q) <|
  x_push (vi (-11)) <|
  x_ret Q) <|
  x_push (vi (-2)) <|
  x_ret Q
set_option maxRecDepth 100000 in
theorem b_X5_taken_0 {d : Nat} {Q : xV → xMem → Prop} : Snd M_X5_taken (d + 1) 0 Q (k_X5_taken_0 d Q) :=
  s_iload_n dX5_taken_0 rfl <|
  s_if_lt (t := 10) dX5_taken_1 rfl (
  s_bipush dX5_taken_10 rfl (by decide) <|
  s_ireturn dX5_taken_12 rfl) <|
  s_iload_n dX5_taken_4 rfl <|
  s_bipush dX5_taken_5 rfl (by decide) <|
  s_icmp_lt (t := 13) dX5_taken_7 rfl (
  s_aload_n dX5_taken_13 rfl <|
  s_getR xC5 (by decide) (fun _ _ _ => rfl) fl_X5_42 dX5_taken_14 <|
  s_iload_n dX5_taken_17 rfl <|
  s_cV1 ce_X4_hasFigure ml_X5_101 im_X4_hasFigure se_X4_hasFigure xC4 dX5_taken_18 <|
  s_if_ne (t := 27) dX5_taken_21 rfl (
  s_aload_n dX5_taken_27 rfl <|
  s_getR xC5 (by decide) (fun _ _ _ => rfl) fl_X5_42 dX5_taken_28 <|
  s_getR xC4 (by decide) (fun _ _ _ => rfl) fl_X5_272 dX5_taken_31 <|
  s_iload_n dX5_taken_34 rfl <|
  s_iaload dX5_taken_35 <|
  s_iload_n dX5_taken_36 rfl <|
  s_cS2 ce_X5_isUnder ml_X5_275 sm_X5_isUnder dX5_taken_37 <|
  s_if_eq (t := 55) dX5_taken_40 rfl (
  s_bipush dX5_taken_55 rfl (by decide) <|
  s_ireturn dX5_taken_57 rfl) <|
  s_aload_n dX5_taken_43 rfl <|
  s_getR xC5 (by decide) (fun _ _ _ => rfl) fl_X5_42 dX5_taken_44 <|
  s_getR xC4 (by decide) (fun _ _ _ => rfl) fl_X5_278 dX5_taken_47 <|
  s_iload_n dX5_taken_50 rfl <|
  s_iaload dX5_taken_51 <|
  s_goto (t := 57) dX5_taken_52 rfl <|
  s_ireturn dX5_taken_57 rfl) <|
  s_bipush dX5_taken_24 rfl (by decide) <|
  s_ireturn dX5_taken_26 rfl) <|
  s_bipush dX5_taken_10 rfl (by decide) <|
  s_ireturn dX5_taken_12 rfl
-- X5_taken: cuts [0]
def k_X5_sheetOf_0 (d : Nat) (Q : xV → xMem → Prop) : xP :=
  x_iload 1 <|
  x_c1 (fun x => x < 0) (
  x_push vn <|
  x_aret Q) <|
  x_iload 1 <|
  x_push (vi 4) <|
  x_c2 (fun x y => x < y) (
  x_aload 0 <|
  x_getR 5 8 <|
  x_iload 1 <|
  x_aaload <|
  x_aret Q) <|
  x_push vn <|
  x_aret Q
set_option maxRecDepth 100000 in
theorem b_X5_sheetOf_0 {d : Nat} {Q : xV → xMem → Prop} : Snd M_X5_sheetOf (d + 1) 0 Q (k_X5_sheetOf_0 d Q) :=
  s_iload_n dX5_sheetOf_0 rfl <|
  s_if_lt (t := 9) dX5_sheetOf_1 rfl (
  s_aconst_null dX5_sheetOf_9 <|
  s_goto (t := 19) dX5_sheetOf_10 rfl <|
  s_areturn dX5_sheetOf_19 rfl (by first | exact Or.inl ⟨_, rfl⟩ | exact Or.inr ⟨_, rfl⟩)) <|
  s_iload_n dX5_sheetOf_4 rfl <|
  s_iconst dX5_sheetOf_5 rfl <|
  s_icmp_lt (t := 13) dX5_sheetOf_6 rfl (
  s_aload_n dX5_sheetOf_13 rfl <|
  s_getR xC5 (by decide) (fun _ _ _ => rfl) fl_X5_31 dX5_sheetOf_14 <|
  s_iload_n dX5_sheetOf_17 rfl <|
  s_aaload dX5_sheetOf_18 <|
  s_areturn dX5_sheetOf_19 rfl (by first | exact Or.inl ⟨_, rfl⟩ | exact Or.inr ⟨_, rfl⟩)) <|
  s_aconst_null dX5_sheetOf_9 <|
  s_goto (t := 19) dX5_sheetOf_10 rfl <|
  s_areturn dX5_sheetOf_19 rfl (by first | exact Or.inl ⟨_, rfl⟩ | exact Or.inr ⟨_, rfl⟩)
-- X5_sheetOf: cuts [0]
def k_X5_fits_0 (d : Nat) (Q : xV → xMem → Prop) : xP :=
  x_iload 0 <|
  x_tsw 0 [
  x_iload 1 <|
  x_push (vi 1) <|
  x_c2 (fun x y => x < y) (
  x_push (vi 0) <|
  x_zret Q) <|
  x_iload 1 <|
  x_push (vi 10) <|
  x_c2 (fun x y => y ≤ x) (
  x_push (vi 0) <|
  x_zret Q) <|
  x_push (vi 1) <|
  x_zret Q,
  x_iload 1 <|
  x_c1 (fun x => x < 0) (
  x_push (vi 0) <|
  x_zret Q) <|
  x_iload 1 <|
  x_push (vi 10) <|
  x_c2 (fun x y => y ≤ x) (
  x_push (vi 0) <|
  x_zret Q) <|
  x_push (vi 1) <|
  x_zret Q,
  x_iload 1 <|
  x_c1 (fun x => x < 0) (
  x_push (vi 0) <|
  x_zret Q) <|
  x_iload 1 <|
  x_push (vi 1000) <|
  x_c2 (fun x y => y ≤ x) (
  x_push (vi 0) <|
  x_zret Q) <|
  x_push (vi 1) <|
  x_zret Q,
  x_iload 1 <|
  x_c1 (fun x => x < 0) (
  x_push (vi 0) <|
  x_zret Q) <|
  x_iload 1 <|
  x_push (vi 4095) <|
  x_c2 (fun x y => y < x) (
  x_push (vi 0) <|
  x_zret Q) <|
  x_push (vi 1) <|
  x_zret Q,
  x_iload 1 <|
  x_c1 (fun x => x < 0) (
  x_push (vi 0) <|
  x_zret Q) <|
  x_iload 1 <|
  x_push (vi 12) <|
  x_c2 (fun x y => y ≤ x) (
  x_push (vi 0) <|
  x_zret Q) <|
  x_push (vi 1) <|
  x_zret Q,
  x_iload 1 <|
  x_c1 (fun x => x < 0) (
  x_push (vi 0) <|
  x_zret Q) <|
  x_iload 1 <|
  x_push (vi 63) <|
  x_c2 (fun x y => y < x) (
  x_push (vi 0) <|
  x_zret Q) <|
  x_push (vi 1) <|
  x_zret Q] (
  x_push (vi 0) <|
  x_zret Q)
set_option maxRecDepth 100000 in
theorem b_X5_fits_0 {d : Nat} {Q : xV → xMem → Prop} : Snd M_X5_fits (d + 1) 0 Q (k_X5_fits_0 d Q) :=
  s_iload_n dX5_fits_0 rfl <|
  s_tsw (t := 139) (offs := [39, 56, 72, 89, 106, 122]) dX5_fits_1 rfl rfl (
  s_iconst dX5_fits_139 rfl <|
  s_zreturn dX5_fits_140 rfl) ⟨⟨40, rfl, s_iload_n dX5_fits_40 rfl <|
  s_iconst dX5_fits_41 rfl <|
  s_icmp_lt (t := 55) dX5_fits_42 rfl (
  s_iconst dX5_fits_55 rfl <|
  s_zreturn dX5_fits_56 rfl) <|
  s_iload_n dX5_fits_45 rfl <|
  s_bipush dX5_fits_46 rfl (by decide) <|
  s_icmp_ge (t := 55) dX5_fits_48 rfl (
  s_iconst dX5_fits_55 rfl <|
  s_zreturn dX5_fits_56 rfl) <|
  s_iconst dX5_fits_51 rfl <|
  s_goto (t := 56) dX5_fits_52 rfl <|
  s_zreturn dX5_fits_56 rfl⟩, ⟨⟨57, rfl, s_iload_n dX5_fits_57 rfl <|
  s_if_lt (t := 71) dX5_fits_58 rfl (
  s_iconst dX5_fits_71 rfl <|
  s_zreturn dX5_fits_72 rfl) <|
  s_iload_n dX5_fits_61 rfl <|
  s_bipush dX5_fits_62 rfl (by decide) <|
  s_icmp_ge (t := 71) dX5_fits_64 rfl (
  s_iconst dX5_fits_71 rfl <|
  s_zreturn dX5_fits_72 rfl) <|
  s_iconst dX5_fits_67 rfl <|
  s_goto (t := 72) dX5_fits_68 rfl <|
  s_zreturn dX5_fits_72 rfl⟩, ⟨⟨73, rfl, s_iload_n dX5_fits_73 rfl <|
  s_if_lt (t := 88) dX5_fits_74 rfl (
  s_iconst dX5_fits_88 rfl <|
  s_zreturn dX5_fits_89 rfl) <|
  s_iload_n dX5_fits_77 rfl <|
  s_sipush dX5_fits_78 rfl (by decide) <|
  s_icmp_ge (t := 88) dX5_fits_81 rfl (
  s_iconst dX5_fits_88 rfl <|
  s_zreturn dX5_fits_89 rfl) <|
  s_iconst dX5_fits_84 rfl <|
  s_goto (t := 89) dX5_fits_85 rfl <|
  s_zreturn dX5_fits_89 rfl⟩, ⟨⟨90, rfl, s_iload_n dX5_fits_90 rfl <|
  s_if_lt (t := 105) dX5_fits_91 rfl (
  s_iconst dX5_fits_105 rfl <|
  s_zreturn dX5_fits_106 rfl) <|
  s_iload_n dX5_fits_94 rfl <|
  s_sipush dX5_fits_95 rfl (by decide) <|
  s_icmp_gt (t := 105) dX5_fits_98 rfl (
  s_iconst dX5_fits_105 rfl <|
  s_zreturn dX5_fits_106 rfl) <|
  s_iconst dX5_fits_101 rfl <|
  s_goto (t := 106) dX5_fits_102 rfl <|
  s_zreturn dX5_fits_106 rfl⟩, ⟨⟨107, rfl, s_iload_n dX5_fits_107 rfl <|
  s_if_lt (t := 121) dX5_fits_108 rfl (
  s_iconst dX5_fits_121 rfl <|
  s_zreturn dX5_fits_122 rfl) <|
  s_iload_n dX5_fits_111 rfl <|
  s_bipush dX5_fits_112 rfl (by decide) <|
  s_icmp_ge (t := 121) dX5_fits_114 rfl (
  s_iconst dX5_fits_121 rfl <|
  s_zreturn dX5_fits_122 rfl) <|
  s_iconst dX5_fits_117 rfl <|
  s_goto (t := 122) dX5_fits_118 rfl <|
  s_zreturn dX5_fits_122 rfl⟩, ⟨⟨123, rfl, s_iload_n dX5_fits_123 rfl <|
  s_if_lt (t := 137) dX5_fits_124 rfl (
  s_iconst dX5_fits_137 rfl <|
  s_zreturn dX5_fits_138 rfl) <|
  s_iload_n dX5_fits_127 rfl <|
  s_bipush dX5_fits_128 rfl (by decide) <|
  s_icmp_gt (t := 137) dX5_fits_130 rfl (
  s_iconst dX5_fits_137 rfl <|
  s_zreturn dX5_fits_138 rfl) <|
  s_iconst dX5_fits_133 rfl <|
  s_goto (t := 138) dX5_fits_134 rfl <|
  s_zreturn dX5_fits_138 rfl⟩, trivial⟩⟩⟩⟩⟩⟩
-- X5_fits: cuts [0]
def k_X5_isUnder_0 (d : Nat) (Q : xV → xMem → Prop) : xP :=
  x_iload 0 <|
  x_istore 2 <|
  x_push (vi 0) <|
  x_istore 3 <|
  (xJ M_X5_isUnder (d + 1) 4 Q)
set_option maxRecDepth 100000 in
theorem b_X5_isUnder_0 {d : Nat} {Q : xV → xMem → Prop} : Snd M_X5_isUnder (d + 1) 0 Q (k_X5_isUnder_0 d Q) :=
  s_iload_n dX5_isUnder_0 rfl <|
  s_istore_n dX5_isUnder_1 rfl (by decide) <|
  s_iconst dX5_isUnder_2 rfl <|
  s_istore_n dX5_isUnder_3 rfl (by decide) <|
  s_J
def k_X5_isUnder_4 (d : Nat) (Q : xV → xMem → Prop) : xP :=
  x_iload 3 <|
  x_push (vi 6) <|
  x_c2 (fun x y => y ≤ x) (
  x_push (vi 0) <|
  x_zret Q) <|
  x_iload 2 <|
  x_c1 (fun x => x < 0) (
  x_push (vi 0) <|
  x_zret Q) <|
  x_iload 2 <|
  x_push (vi 6) <|
  x_c2 (fun x y => y ≤ x) (
  x_push (vi 0) <|
  x_zret Q) <|
  x_iload 2 <|
  x_iload 1 <|
  x_c2 (fun x y => ¬ x = y) (
  x_push (vo 1) <|
  x_iload 2 <|
  x_ialoadK <|
  x_istore 2 <|
  x_iinc 3 1 <|
  (xJ M_X5_isUnder (d + 1) 4 Q)) <|
  x_push (vi 1) <|
  x_zret Q
set_option maxRecDepth 100000 in
theorem b_X5_isUnder_4 {d : Nat} {Q : xV → xMem → Prop} : Snd M_X5_isUnder (d + 1) 4 Q (k_X5_isUnder_4 d Q) :=
  s_iload_n dX5_isUnder_4 rfl <|
  s_bipush dX5_isUnder_5 rfl (by decide) <|
  s_icmp_ge (t := 39) dX5_isUnder_7 rfl (
  s_iconst dX5_isUnder_39 rfl <|
  s_zreturn dX5_isUnder_40 rfl) <|
  s_iload_n dX5_isUnder_10 rfl <|
  s_if_lt (t := 39) dX5_isUnder_11 rfl (
  s_iconst dX5_isUnder_39 rfl <|
  s_zreturn dX5_isUnder_40 rfl) <|
  s_iload_n dX5_isUnder_14 rfl <|
  s_bipush dX5_isUnder_15 rfl (by decide) <|
  s_icmp_ge (t := 39) dX5_isUnder_17 rfl (
  s_iconst dX5_isUnder_39 rfl <|
  s_zreturn dX5_isUnder_40 rfl) <|
  s_iload_n dX5_isUnder_20 rfl <|
  s_iload_n dX5_isUnder_21 rfl <|
  s_icmp_ne (t := 27) dX5_isUnder_22 rfl (
  s_kindAbove fl_X5_281 dX5_isUnder_27 <|
  s_iload_n dX5_isUnder_30 rfl <|
  s_ialoadK dX5_isUnder_31 <|
  s_istore_n dX5_isUnder_32 rfl (by decide) <|
  s_iinc dX5_isUnder_33 (by decide) <|
  s_goto (t := 4) dX5_isUnder_36 rfl <|
  s_J) <|
  s_iconst dX5_isUnder_25 rfl <|
  s_zreturn dX5_isUnder_26 rfl
-- X5_isUnder: cuts [0, 4]
def k_X5_isShowing_0 (d : Nat) (Q : xV → xMem → Prop) : xP :=
  x_aload 1 <|
  x_getI 1 0 <|
  x_push (vi (-1)) <|
  x_c2 (fun x y => x = y) (
  x_push (vi 0) <|
  x_zret Q) <|
  x_aload 1 <|
  x_getI 1 1 <|
  x_aload 0 <|
  x_getR 5 3 <|
  x_getI 4 4 <|
  x_c2 (fun x y => x = y) (
  x_push (vi 0) <|
  x_istore 2 <|
  (xJ M_X5_isShowing (d + 1) 26 Q)) <|
  x_push (vi 0) <|
  x_zret Q
set_option maxRecDepth 100000 in
theorem b_X5_isShowing_0 {d : Nat} {Q : xV → xMem → Prop} : Snd M_X5_isShowing (d + 1) 0 Q (k_X5_isShowing_0 d Q) :=
  s_aload_n dX5_isShowing_0 rfl <|
  s_getI xC1 (by decide) (fun _ _ _ => rfl) fl_X5_155 dX5_isShowing_1 <|
  s_iconst dX5_isShowing_4 rfl <|
  s_icmp_eq (t := 22) dX5_isShowing_5 rfl (
  s_iconst dX5_isShowing_22 rfl <|
  s_zreturn dX5_isShowing_23 rfl) <|
  s_aload_n dX5_isShowing_8 rfl <|
  s_getI xC1 (by decide) (fun _ _ _ => rfl) fl_X5_223 dX5_isShowing_9 <|
  s_aload_n dX5_isShowing_12 rfl <|
  s_getR xC5 (by decide) (fun _ _ _ => rfl) fl_X5_42 dX5_isShowing_13 <|
  s_getI xC4 (by decide) (fun _ _ _ => rfl) fl_X5_206 dX5_isShowing_16 <|
  s_icmp_eq (t := 24) dX5_isShowing_19 rfl (
  s_iconst dX5_isShowing_24 rfl <|
  s_istore_n dX5_isShowing_25 rfl (by decide) <|
  s_J) <|
  s_iconst dX5_isShowing_22 rfl <|
  s_zreturn dX5_isShowing_23 rfl
def k_X5_isShowing_26 (d : Nat) (Q : xV → xMem → Prop) : xP :=
  x_iload 2 <|
  x_aload 1 <|
  x_getI 1 1 <|
  x_c2 (fun x y => y ≤ x) (
  x_push (vi 1) <|
  x_zret Q) <|
  x_aload 1 <|
  x_getR 1 2 <|
  x_iload 2 <|
  x_iaload <|
  x_push (vi (-1)) <|
  x_c2 (fun x y => x = y) (
  x_iinc 2 1 <|
  (xJ M_X5_isShowing (d + 1) 26 Q)) <|
  x_aload 0 <|
  x_getR 5 3 <|
  x_aload 1 <|
  x_getR 1 2 <|
  x_iload 2 <|
  x_iaload <|
  x_cV1 M_X4_hasFigure d 4 <|
  x_c1 (fun x => ¬ x = 0) (
  x_iinc 2 1 <|
  (xJ M_X5_isShowing (d + 1) 26 Q)) <|
  x_push (vi 0) <|
  x_zret Q
set_option maxRecDepth 100000 in
theorem b_X5_isShowing_26 {d : Nat} {Q : xV → xMem → Prop} : Snd M_X5_isShowing (d + 1) 26 Q (k_X5_isShowing_26 d Q) :=
  s_iload_n dX5_isShowing_26 rfl <|
  s_aload_n dX5_isShowing_27 rfl <|
  s_getI xC1 (by decide) (fun _ _ _ => rfl) fl_X5_223 dX5_isShowing_28 <|
  s_icmp_ge (t := 68) dX5_isShowing_31 rfl (
  s_iconst dX5_isShowing_68 rfl <|
  s_zreturn dX5_isShowing_69 rfl) <|
  s_aload_n dX5_isShowing_34 rfl <|
  s_getR xC1 (by decide) (fun _ _ _ => rfl) fl_X5_269 dX5_isShowing_35 <|
  s_iload_n dX5_isShowing_38 rfl <|
  s_iaload dX5_isShowing_39 <|
  s_iconst dX5_isShowing_40 rfl <|
  s_icmp_eq (t := 62) dX5_isShowing_41 rfl (
  s_iinc dX5_isShowing_62 (by decide) <|
  s_goto (t := 26) dX5_isShowing_65 rfl <|
  s_J) <|
  s_aload_n dX5_isShowing_44 rfl <|
  s_getR xC5 (by decide) (fun _ _ _ => rfl) fl_X5_42 dX5_isShowing_45 <|
  s_aload_n dX5_isShowing_48 rfl <|
  s_getR xC1 (by decide) (fun _ _ _ => rfl) fl_X5_269 dX5_isShowing_49 <|
  s_iload_n dX5_isShowing_52 rfl <|
  s_iaload dX5_isShowing_53 <|
  s_cV1 ce_X4_hasFigure ml_X5_101 im_X4_hasFigure se_X4_hasFigure xC4 dX5_isShowing_54 <|
  s_if_ne (t := 62) dX5_isShowing_57 rfl (
  s_iinc dX5_isShowing_62 (by decide) <|
  s_goto (t := 26) dX5_isShowing_65 rfl <|
  s_J) <|
  s_iconst dX5_isShowing_60 rfl <|
  s_zreturn dX5_isShowing_61 rfl
-- X5_isShowing: cuts [0, 26]
def k_X5_playSheet_0 (d : Nat) (Q : xV → xMem → Prop) : xP :=
  x_aload 0 <|
  x_getR 5 7 <|
  x_aload 0 <|
  x_getR 5 3 <|
  x_cV1 M_X0_look d 0 <|
  x_aload 1 <|
  x_getR 1 2 <|
  x_push (vi 0) <|
  x_aload 0 <|
  x_getR 5 7 <|
  x_getR 0 5 <|
  x_push (vi 0) <|
  x_aload 0 <|
  x_getR 5 3 <|
  x_getI 4 4 <|
  x_acopy <|
  x_aload 0 <|
  x_getR 5 7 <|
  x_cV0 M_X0_play d 0 <|
  x_vret Q
set_option maxRecDepth 100000 in
theorem b_X5_playSheet_0 {d : Nat} {Q : xV → xMem → Prop} : Snd M_X5_playSheet (d + 1) 0 Q (k_X5_playSheet_0 d Q) :=
  s_aload_n dX5_playSheet_0 rfl <|
  s_getR xC5 (by decide) (fun _ _ _ => rfl) fl_X5_25 dX5_playSheet_1 <|
  s_aload_n dX5_playSheet_4 rfl <|
  s_getR xC5 (by decide) (fun _ _ _ => rfl) fl_X5_42 dX5_playSheet_5 <|
  s_cV1 ce_X0_look ml_X5_170 im_X0_look se_X0_look xC0 dX5_playSheet_8 <|
  s_aload_n dX5_playSheet_11 rfl <|
  s_getR xC1 (by decide) (fun _ _ _ => rfl) fl_X5_269 dX5_playSheet_12 <|
  s_iconst dX5_playSheet_15 rfl <|
  s_aload_n dX5_playSheet_16 rfl <|
  s_getR xC5 (by decide) (fun _ _ _ => rfl) fl_X5_25 dX5_playSheet_17 <|
  s_getR xC0 (by decide) (fun _ _ _ => rfl) fl_X5_284 dX5_playSheet_20 <|
  s_iconst dX5_playSheet_23 rfl <|
  s_aload_n dX5_playSheet_24 rfl <|
  s_getR xC5 (by decide) (fun _ _ _ => rfl) fl_X5_42 dX5_playSheet_25 <|
  s_getI xC4 (by decide) (fun _ _ _ => rfl) fl_X5_206 dX5_playSheet_28 <|
  s_acopy ml_X5_164 ac_nat ac_sta ac_ini dX5_playSheet_31 <|
  s_aload_n dX5_playSheet_34 rfl <|
  s_getR xC5 (by decide) (fun _ _ _ => rfl) fl_X5_25 dX5_playSheet_35 <|
  s_cV0 ce_X0_play ml_X5_191 im_X0_play se_X0_play xC0 dX5_playSheet_38 <|
  s_return dX5_playSheet_41 rfl
-- X5_playSheet: cuts [0]
def k_X5_gladdestOf_0 (d : Nat) (Q : xV → xMem → Prop) : xP :=
  x_aload 0 <|
  x_getR 5 7 <|
  x_aload 1 <|
  x_cV1 M_X0_look d 0 <|
  x_aload 0 <|
  x_getR 5 7 <|
  x_aload 0 <|
  x_getR 5 7 <|
  x_getR 0 1 <|
  x_push (vi 63) <|
  x_cV2 M_X0_showBest d 0 <|
  x_ret Q
set_option maxRecDepth 100000 in
theorem b_X5_gladdestOf_0 {d : Nat} {Q : xV → xMem → Prop} : Snd M_X5_gladdestOf (d + 1) 0 Q (k_X5_gladdestOf_0 d Q) :=
  s_aload_n dX5_gladdestOf_0 rfl <|
  s_getR xC5 (by decide) (fun _ _ _ => rfl) fl_X5_25 dX5_gladdestOf_1 <|
  s_aload_n dX5_gladdestOf_4 rfl <|
  s_cV1 ce_X0_look ml_X5_170 im_X0_look se_X0_look xC0 dX5_gladdestOf_5 <|
  s_aload_n dX5_gladdestOf_8 rfl <|
  s_getR xC5 (by decide) (fun _ _ _ => rfl) fl_X5_25 dX5_gladdestOf_9 <|
  s_aload_n dX5_gladdestOf_12 rfl <|
  s_getR xC5 (by decide) (fun _ _ _ => rfl) fl_X5_25 dX5_gladdestOf_13 <|
  s_getR xC0 (by decide) (fun _ _ _ => rfl) fl_X5_177 dX5_gladdestOf_16 <|
  s_bipush dX5_gladdestOf_19 rfl (by decide) <|
  s_cV2 ce_X0_showBest ml_X5_184 im_X0_showBest se_X0_showBest xC0 dX5_gladdestOf_21 <|
  s_ireturn dX5_gladdestOf_24 rfl
-- X5_gladdestOf: cuts [0]
def k_X5_plainJoyDrawn_0 (d : Nat) (Q : xV → xMem → Prop) : xP :=
  x_iload 1 <|
  x_istore 2 <|
  x_push (vi 0) <|
  x_istore 3 <|
  (xJ M_X5_plainJoyDrawn (d + 1) 4 Q)
set_option maxRecDepth 100000 in
theorem b_X5_plainJoyDrawn_0 {d : Nat} {Q : xV → xMem → Prop} : Snd M_X5_plainJoyDrawn (d + 1) 0 Q (k_X5_plainJoyDrawn_0 d Q) :=
  s_iload_n dX5_plainJoyDrawn_0 rfl <|
  s_istore_n dX5_plainJoyDrawn_1 rfl (by decide) <|
  s_iconst dX5_plainJoyDrawn_2 rfl <|
  s_istore_n dX5_plainJoyDrawn_3 rfl (by decide) <|
  s_J
def k_X5_plainJoyDrawn_4 (d : Nat) (Q : xV → xMem → Prop) : xP :=
  x_iload 3 <|
  x_aload 0 <|
  x_getR 5 4 <|
  x_getI 4 3 <|
  x_c2 (fun x y => y ≤ x) (
  x_aload 0 <|
  x_getR 5 7 <|
  x_aload 0 <|
  x_getR 5 4 <|
  x_cV1 M_X0_look d 0 <|
  x_aload 0 <|
  x_getR 5 7 <|
  x_aload 0 <|
  x_getR 5 4 <|
  x_cV1 M_X0_showPlainly d 0 <|
  x_aload 0 <|
  x_getR 5 7 <|
  x_cV0 M_X0_play d 0 <|
  x_aload 0 <|
  x_getR 5 7 <|
  x_getI 0 14 <|
  x_ret Q) <|
  x_iload 2 <|
  x_push (vi (1103515245)) <|
  x_bin omul <|
  x_push (vi 12345) <|
  x_bin oadd <|
  x_istore 2 <|
  x_aload 0 <|
  x_getR 5 4 <|
  x_getR 4 7 <|
  x_iload 3 <|
  x_iload 2 <|
  x_push (vi 9) <|
  x_bin oushr <|
  x_push (vi 100) <|
  x_div orem <|
  x_iastore <|
  x_iinc 3 1 <|
  (xJ M_X5_plainJoyDrawn (d + 1) 4 Q)
set_option maxRecDepth 100000 in
theorem b_X5_plainJoyDrawn_4 {d : Nat} {Q : xV → xMem → Prop} : Snd M_X5_plainJoyDrawn (d + 1) 4 Q (k_X5_plainJoyDrawn_4 d Q) :=
  s_iload_n dX5_plainJoyDrawn_4 rfl <|
  s_aload_n dX5_plainJoyDrawn_5 rfl <|
  s_getR xC5 (by decide) (fun _ _ _ => rfl) fl_X5_46 dX5_plainJoyDrawn_6 <|
  s_getI xC4 (by decide) (fun _ _ _ => rfl) fl_X5_161 dX5_plainJoyDrawn_9 <|
  s_icmp_ge (t := 47) dX5_plainJoyDrawn_12 rfl (
  s_aload_n dX5_plainJoyDrawn_47 rfl <|
  s_getR xC5 (by decide) (fun _ _ _ => rfl) fl_X5_25 dX5_plainJoyDrawn_48 <|
  s_aload_n dX5_plainJoyDrawn_51 rfl <|
  s_getR xC5 (by decide) (fun _ _ _ => rfl) fl_X5_46 dX5_plainJoyDrawn_52 <|
  s_cV1 ce_X0_look ml_X5_170 im_X0_look se_X0_look xC0 dX5_plainJoyDrawn_55 <|
  s_aload_n dX5_plainJoyDrawn_58 rfl <|
  s_getR xC5 (by decide) (fun _ _ _ => rfl) fl_X5_25 dX5_plainJoyDrawn_59 <|
  s_aload_n dX5_plainJoyDrawn_62 rfl <|
  s_getR xC5 (by decide) (fun _ _ _ => rfl) fl_X5_46 dX5_plainJoyDrawn_63 <|
  s_cV1 ce_X0_showPlainly ml_X5_174 im_X0_showPlainly se_X0_showPlainly xC0 dX5_plainJoyDrawn_66 <|
  s_aload_n dX5_plainJoyDrawn_69 rfl <|
  s_getR xC5 (by decide) (fun _ _ _ => rfl) fl_X5_25 dX5_plainJoyDrawn_70 <|
  s_cV0 ce_X0_play ml_X5_191 im_X0_play se_X0_play xC0 dX5_plainJoyDrawn_73 <|
  s_aload_n dX5_plainJoyDrawn_76 rfl <|
  s_getR xC5 (by decide) (fun _ _ _ => rfl) fl_X5_25 dX5_plainJoyDrawn_77 <|
  s_getI xC0 (by decide) (fun _ _ _ => rfl) fl_X5_145 dX5_plainJoyDrawn_80 <|
  s_ireturn dX5_plainJoyDrawn_83 rfl) <|
  s_iload_n dX5_plainJoyDrawn_15 rfl <|
  s_ldc_w dX5_plainJoyDrawn_16 kc_X5_287 rfl (by decide) <|
  s_imul dX5_plainJoyDrawn_19 <|
  s_sipush dX5_plainJoyDrawn_20 rfl (by decide) <|
  s_iadd dX5_plainJoyDrawn_23 <|
  s_istore_n dX5_plainJoyDrawn_24 rfl (by decide) <|
  s_aload_n dX5_plainJoyDrawn_25 rfl <|
  s_getR xC5 (by decide) (fun _ _ _ => rfl) fl_X5_46 dX5_plainJoyDrawn_26 <|
  s_getR xC4 (by decide) (fun _ _ _ => rfl) fl_X5_158 dX5_plainJoyDrawn_29 <|
  s_iload_n dX5_plainJoyDrawn_32 rfl <|
  s_iload_n dX5_plainJoyDrawn_33 rfl <|
  s_bipush dX5_plainJoyDrawn_34 rfl (by decide) <|
  s_iushr dX5_plainJoyDrawn_36 <|
  s_bipush dX5_plainJoyDrawn_37 rfl (by decide) <|
  s_irem dX5_plainJoyDrawn_39 <|
  s_iastore dX5_plainJoyDrawn_40 <|
  s_iinc dX5_plainJoyDrawn_41 (by decide) <|
  s_goto (t := 4) dX5_plainJoyDrawn_44 rfl <|
  s_J
-- X5_plainJoyDrawn: cuts [0, 4]
def k_X5_commonDivisor_0 (d : Nat) (Q : xV → xMem → Prop) : xP :=
  x_iload 1 <|
  x_istore 2 <|
  (xJ M_X5_commonDivisor (d + 1) 2 Q)
set_option maxRecDepth 100000 in
theorem b_X5_commonDivisor_0 {d : Nat} {Q : xV → xMem → Prop} : Snd M_X5_commonDivisor (d + 1) 0 Q (k_X5_commonDivisor_0 d Q) :=
  s_iload_n dX5_commonDivisor_0 rfl <|
  s_istore_n dX5_commonDivisor_1 rfl (by decide) <|
  s_J
def k_X5_commonDivisor_2 (d : Nat) (Q : xV → xMem → Prop) : xP :=
  x_iload 2 <|
  x_push (vi 1) <|
  x_c2 (fun x y => x ≤ y) (
  x_push (vi 1) <|
  x_ret Q) <|
  x_iload 1 <|
  x_iload 2 <|
  x_div orem <|
  x_c1 (fun x => ¬ x = 0) (
  x_iinc 2 (-1) <|
  (xJ M_X5_commonDivisor (d + 1) 2 Q)) <|
  x_iload 0 <|
  x_iload 2 <|
  x_div orem <|
  x_c1 (fun x => ¬ x = 0) (
  x_iinc 2 (-1) <|
  (xJ M_X5_commonDivisor (d + 1) 2 Q)) <|
  x_iload 2 <|
  x_ret Q
set_option maxRecDepth 100000 in
theorem b_X5_commonDivisor_2 {d : Nat} {Q : xV → xMem → Prop} : Snd M_X5_commonDivisor (d + 1) 2 Q (k_X5_commonDivisor_2 d Q) :=
  s_iload_n dX5_commonDivisor_2 rfl <|
  s_iconst dX5_commonDivisor_3 rfl <|
  s_icmp_le (t := 27) dX5_commonDivisor_4 rfl (
  s_iconst dX5_commonDivisor_27 rfl <|
  s_ireturn dX5_commonDivisor_28 rfl) <|
  s_iload_n dX5_commonDivisor_7 rfl <|
  s_iload_n dX5_commonDivisor_8 rfl <|
  s_irem dX5_commonDivisor_9 <|
  s_if_ne (t := 21) dX5_commonDivisor_10 rfl (
  s_iinc dX5_commonDivisor_21 (by decide) <|
  s_goto (t := 2) dX5_commonDivisor_24 rfl <|
  s_J) <|
  s_iload_n dX5_commonDivisor_13 rfl <|
  s_iload_n dX5_commonDivisor_14 rfl <|
  s_irem dX5_commonDivisor_15 <|
  s_if_ne (t := 21) dX5_commonDivisor_16 rfl (
  s_iinc dX5_commonDivisor_21 (by decide) <|
  s_goto (t := 2) dX5_commonDivisor_24 rfl <|
  s_J) <|
  s_iload_n dX5_commonDivisor_19 rfl <|
  s_ireturn dX5_commonDivisor_20 rfl
-- X5_commonDivisor: cuts [0, 2]
def k_X5_kindsTold_0 (d : Nat) (Q : xV → xMem → Prop) : xP :=
  x_push (vi 0) <|
  x_istore 3 <|
  x_aload 0 <|
  x_getR 5 4 <|
  x_aload 0 <|
  x_getR 5 3 <|
  x_cV1 M_X4_become d 4 <|
  x_push (vi 0) <|
  x_istore 4 <|
  (xJ M_X5_kindsTold (d + 1) 16 Q)
set_option maxRecDepth 100000 in
theorem b_X5_kindsTold_0 {d : Nat} {Q : xV → xMem → Prop} : Snd M_X5_kindsTold (d + 1) 0 Q (k_X5_kindsTold_0 d Q) :=
  s_iconst dX5_kindsTold_0 rfl <|
  s_istore_n dX5_kindsTold_1 rfl (by decide) <|
  s_aload_n dX5_kindsTold_2 rfl <|
  s_getR xC5 (by decide) (fun _ _ _ => rfl) fl_X5_46 dX5_kindsTold_3 <|
  s_aload_n dX5_kindsTold_6 rfl <|
  s_getR xC5 (by decide) (fun _ _ _ => rfl) fl_X5_42 dX5_kindsTold_7 <|
  s_cV1 ce_X4_become ml_X5_209 im_X4_become se_X4_become xC4 dX5_kindsTold_10 <|
  s_iconst dX5_kindsTold_13 rfl <|
  s_istore dX5_kindsTold_14 (by decide) <|
  s_J
def k_X5_kindsTold_16 (d : Nat) (Q : xV → xMem → Prop) : xP :=
  x_iload 4 <|
  x_push (vi 6) <|
  x_c2 (fun x y => y ≤ x) (
  x_iload 3 <|
  x_ret Q) <|
  x_aload 0 <|
  x_getR 5 4 <|
  x_getR 4 5 <|
  x_iload 2 <|
  x_iload 4 <|
  x_iastore <|
  x_iload 3 <|
  x_aload 0 <|
  x_getR 5 4 <|
  x_iload 2 <|
  x_aload 1 <|
  x_cV2 M_X4_firstOtherwise d 4 <|
  x_push (vi (-1)) <|
  x_c2 (fun x y => ¬ x = y) (
  x_push (vi 0) <|
  x_bin oor <|
  x_istore 3 <|
  x_iinc 4 1 <|
  (xJ M_X5_kindsTold (d + 1) 16 Q)) <|
  x_push (vi 1) <|
  x_iload 4 <|
  x_bin oshl <|
  x_bin oor <|
  x_istore 3 <|
  x_iinc 4 1 <|
  (xJ M_X5_kindsTold (d + 1) 16 Q)
set_option maxRecDepth 100000 in
theorem b_X5_kindsTold_16 {d : Nat} {Q : xV → xMem → Prop} : Snd M_X5_kindsTold (d + 1) 16 Q (k_X5_kindsTold_16 d Q) :=
  s_iload dX5_kindsTold_16 <|
  s_bipush dX5_kindsTold_18 rfl (by decide) <|
  s_icmp_ge (t := 64) dX5_kindsTold_20 rfl (
  s_iload_n dX5_kindsTold_64 rfl <|
  s_ireturn dX5_kindsTold_65 rfl) <|
  s_aload_n dX5_kindsTold_23 rfl <|
  s_getR xC5 (by decide) (fun _ _ _ => rfl) fl_X5_46 dX5_kindsTold_24 <|
  s_getR xC4 (by decide) (fun _ _ _ => rfl) fl_X5_272 dX5_kindsTold_27 <|
  s_iload_n dX5_kindsTold_30 rfl <|
  s_iload dX5_kindsTold_31 <|
  s_iastore dX5_kindsTold_33 <|
  s_iload_n dX5_kindsTold_34 rfl <|
  s_aload_n dX5_kindsTold_35 rfl <|
  s_getR xC5 (by decide) (fun _ _ _ => rfl) fl_X5_46 dX5_kindsTold_36 <|
  s_iload_n dX5_kindsTold_39 rfl <|
  s_aload_n dX5_kindsTold_40 rfl <|
  s_cV2 ce_X4_firstOtherwise ml_X5_224 im_X4_firstOtherwise se_X4_firstOtherwise xC4 dX5_kindsTold_41 <|
  s_iconst dX5_kindsTold_44 rfl <|
  s_icmp_ne (t := 55) dX5_kindsTold_45 rfl (
  s_iconst dX5_kindsTold_55 rfl <|
  s_ior dX5_kindsTold_56 <|
  s_istore_n dX5_kindsTold_57 rfl (by decide) <|
  s_iinc dX5_kindsTold_58 (by decide) <|
  s_goto (t := 16) dX5_kindsTold_61 rfl <|
  s_J) <|
  s_iconst dX5_kindsTold_48 rfl <|
  s_iload dX5_kindsTold_49 <|
  s_ishl dX5_kindsTold_51 <|
  s_goto (t := 56) dX5_kindsTold_52 rfl <|
  s_ior dX5_kindsTold_56 <|
  s_istore_n dX5_kindsTold_57 rfl (by decide) <|
  s_iinc dX5_kindsTold_58 (by decide) <|
  s_goto (t := 16) dX5_kindsTold_61 rfl <|
  s_J
-- X5_kindsTold: cuts [0, 16]
def k_X5_numbersTold_0 (d : Nat) (Q : xV → xMem → Prop) : xP :=
  x_push (vi 0) <|
  x_istore 3 <|
  x_aload 0 <|
  x_getR 5 4 <|
  x_aload 0 <|
  x_getR 5 3 <|
  x_cV1 M_X4_become d 4 <|
  x_push (vi 0) <|
  x_istore 4 <|
  (xJ M_X5_numbersTold (d + 1) 16 Q)
set_option maxRecDepth 100000 in
theorem b_X5_numbersTold_0 {d : Nat} {Q : xV → xMem → Prop} : Snd M_X5_numbersTold (d + 1) 0 Q (k_X5_numbersTold_0 d Q) :=
  s_iconst dX5_numbersTold_0 rfl <|
  s_istore_n dX5_numbersTold_1 rfl (by decide) <|
  s_aload_n dX5_numbersTold_2 rfl <|
  s_getR xC5 (by decide) (fun _ _ _ => rfl) fl_X5_46 dX5_numbersTold_3 <|
  s_aload_n dX5_numbersTold_6 rfl <|
  s_getR xC5 (by decide) (fun _ _ _ => rfl) fl_X5_42 dX5_numbersTold_7 <|
  s_cV1 ce_X4_become ml_X5_209 im_X4_become se_X4_become xC4 dX5_numbersTold_10 <|
  s_iconst dX5_numbersTold_13 rfl <|
  s_istore dX5_numbersTold_14 (by decide) <|
  s_J
def k_X5_numbersTold_16 (d : Nat) (Q : xV → xMem → Prop) : xP :=
  x_iload 4 <|
  x_push (vi 10) <|
  x_c2 (fun x y => y ≤ x) (
  x_iload 3 <|
  x_ret Q) <|
  x_aload 0 <|
  x_getR 5 4 <|
  x_getR 4 6 <|
  x_iload 2 <|
  x_iload 4 <|
  x_iastore <|
  x_iload 3 <|
  x_aload 0 <|
  x_getR 5 4 <|
  x_iload 2 <|
  x_aload 1 <|
  x_cV2 M_X4_firstOtherwise d 4 <|
  x_push (vi (-1)) <|
  x_c2 (fun x y => ¬ x = y) (
  x_push (vi 0) <|
  x_bin oor <|
  x_istore 3 <|
  x_iinc 4 1 <|
  (xJ M_X5_numbersTold (d + 1) 16 Q)) <|
  x_push (vi 1) <|
  x_iload 4 <|
  x_bin oshl <|
  x_bin oor <|
  x_istore 3 <|
  x_iinc 4 1 <|
  (xJ M_X5_numbersTold (d + 1) 16 Q)
set_option maxRecDepth 100000 in
theorem b_X5_numbersTold_16 {d : Nat} {Q : xV → xMem → Prop} : Snd M_X5_numbersTold (d + 1) 16 Q (k_X5_numbersTold_16 d Q) :=
  s_iload dX5_numbersTold_16 <|
  s_bipush dX5_numbersTold_18 rfl (by decide) <|
  s_icmp_ge (t := 64) dX5_numbersTold_20 rfl (
  s_iload_n dX5_numbersTold_64 rfl <|
  s_ireturn dX5_numbersTold_65 rfl) <|
  s_aload_n dX5_numbersTold_23 rfl <|
  s_getR xC5 (by decide) (fun _ _ _ => rfl) fl_X5_46 dX5_numbersTold_24 <|
  s_getR xC4 (by decide) (fun _ _ _ => rfl) fl_X5_278 dX5_numbersTold_27 <|
  s_iload_n dX5_numbersTold_30 rfl <|
  s_iload dX5_numbersTold_31 <|
  s_iastore dX5_numbersTold_33 <|
  s_iload_n dX5_numbersTold_34 rfl <|
  s_aload_n dX5_numbersTold_35 rfl <|
  s_getR xC5 (by decide) (fun _ _ _ => rfl) fl_X5_46 dX5_numbersTold_36 <|
  s_iload_n dX5_numbersTold_39 rfl <|
  s_aload_n dX5_numbersTold_40 rfl <|
  s_cV2 ce_X4_firstOtherwise ml_X5_224 im_X4_firstOtherwise se_X4_firstOtherwise xC4 dX5_numbersTold_41 <|
  s_iconst dX5_numbersTold_44 rfl <|
  s_icmp_ne (t := 55) dX5_numbersTold_45 rfl (
  s_iconst dX5_numbersTold_55 rfl <|
  s_ior dX5_numbersTold_56 <|
  s_istore_n dX5_numbersTold_57 rfl (by decide) <|
  s_iinc dX5_numbersTold_58 (by decide) <|
  s_goto (t := 16) dX5_numbersTold_61 rfl <|
  s_J) <|
  s_iconst dX5_numbersTold_48 rfl <|
  s_iload dX5_numbersTold_49 <|
  s_ishl dX5_numbersTold_51 <|
  s_goto (t := 56) dX5_numbersTold_52 rfl <|
  s_ior dX5_numbersTold_56 <|
  s_istore_n dX5_numbersTold_57 rfl (by decide) <|
  s_iinc dX5_numbersTold_58 (by decide) <|
  s_goto (t := 16) dX5_numbersTold_61 rfl <|
  s_J
-- X5_numbersTold: cuts [0, 16]
def k_X5_ratesTold_0 (d : Nat) (Q : xV → xMem → Prop) : xP :=
  x_push (vi 0) <|
  x_istore 3 <|
  x_aload 0 <|
  x_getR 5 4 <|
  x_aload 0 <|
  x_getR 5 3 <|
  x_cV1 M_X4_become d 4 <|
  x_push (vi 1) <|
  x_istore 4 <|
  (xJ M_X5_ratesTold (d + 1) 16 Q)
set_option maxRecDepth 100000 in
theorem b_X5_ratesTold_0 {d : Nat} {Q : xV → xMem → Prop} : Snd M_X5_ratesTold (d + 1) 0 Q (k_X5_ratesTold_0 d Q) :=
  s_iconst dX5_ratesTold_0 rfl <|
  s_istore_n dX5_ratesTold_1 rfl (by decide) <|
  s_aload_n dX5_ratesTold_2 rfl <|
  s_getR xC5 (by decide) (fun _ _ _ => rfl) fl_X5_46 dX5_ratesTold_3 <|
  s_aload_n dX5_ratesTold_6 rfl <|
  s_getR xC5 (by decide) (fun _ _ _ => rfl) fl_X5_42 dX5_ratesTold_7 <|
  s_cV1 ce_X4_become ml_X5_209 im_X4_become se_X4_become xC4 dX5_ratesTold_10 <|
  s_iconst dX5_ratesTold_13 rfl <|
  s_istore dX5_ratesTold_14 (by decide) <|
  s_J
def k_X5_ratesTold_16 (d : Nat) (Q : xV → xMem → Prop) : xP :=
  x_iload 4 <|
  x_push (vi 10) <|
  x_c2 (fun x y => y ≤ x) (
  x_iload 3 <|
  x_ret Q) <|
  x_aload 0 <|
  x_getR 5 4 <|
  x_iload 4 <|
  x_putI 4 1 <|
  x_iload 3 <|
  x_aload 0 <|
  x_getR 5 4 <|
  x_iload 2 <|
  x_aload 1 <|
  x_cV2 M_X4_firstOtherwise d 4 <|
  x_push (vi (-1)) <|
  x_c2 (fun x y => ¬ x = y) (
  x_push (vi 0) <|
  x_bin oor <|
  x_istore 3 <|
  x_iinc 4 1 <|
  (xJ M_X5_ratesTold (d + 1) 16 Q)) <|
  x_push (vi 1) <|
  x_iload 4 <|
  x_bin oshl <|
  x_bin oor <|
  x_istore 3 <|
  x_iinc 4 1 <|
  (xJ M_X5_ratesTold (d + 1) 16 Q)
set_option maxRecDepth 100000 in
theorem b_X5_ratesTold_16 {d : Nat} {Q : xV → xMem → Prop} : Snd M_X5_ratesTold (d + 1) 16 Q (k_X5_ratesTold_16 d Q) :=
  s_iload dX5_ratesTold_16 <|
  s_bipush dX5_ratesTold_18 rfl (by decide) <|
  s_icmp_ge (t := 62) dX5_ratesTold_20 rfl (
  s_iload_n dX5_ratesTold_62 rfl <|
  s_ireturn dX5_ratesTold_63 rfl) <|
  s_aload_n dX5_ratesTold_23 rfl <|
  s_getR xC5 (by decide) (fun _ _ _ => rfl) fl_X5_46 dX5_ratesTold_24 <|
  s_iload dX5_ratesTold_27 <|
  s_putI xC4 (by decide) (fun _ _ _ => rfl) rfl rfl fl_X5_220 dX5_ratesTold_29 <|
  s_iload_n dX5_ratesTold_32 rfl <|
  s_aload_n dX5_ratesTold_33 rfl <|
  s_getR xC5 (by decide) (fun _ _ _ => rfl) fl_X5_46 dX5_ratesTold_34 <|
  s_iload_n dX5_ratesTold_37 rfl <|
  s_aload_n dX5_ratesTold_38 rfl <|
  s_cV2 ce_X4_firstOtherwise ml_X5_224 im_X4_firstOtherwise se_X4_firstOtherwise xC4 dX5_ratesTold_39 <|
  s_iconst dX5_ratesTold_42 rfl <|
  s_icmp_ne (t := 53) dX5_ratesTold_43 rfl (
  s_iconst dX5_ratesTold_53 rfl <|
  s_ior dX5_ratesTold_54 <|
  s_istore_n dX5_ratesTold_55 rfl (by decide) <|
  s_iinc dX5_ratesTold_56 (by decide) <|
  s_goto (t := 16) dX5_ratesTold_59 rfl <|
  s_J) <|
  s_iconst dX5_ratesTold_46 rfl <|
  s_iload dX5_ratesTold_47 <|
  s_ishl dX5_ratesTold_49 <|
  s_goto (t := 54) dX5_ratesTold_50 rfl <|
  s_ior dX5_ratesTold_54 <|
  s_istore_n dX5_ratesTold_55 rfl (by decide) <|
  s_iinc dX5_ratesTold_56 (by decide) <|
  s_goto (t := 16) dX5_ratesTold_59 rfl <|
  s_J
-- X5_ratesTold: cuts [0, 16]
def k_X5_textsTold_0 (d : Nat) (Q : xV → xMem → Prop) : xP :=
  x_push (vi 0) <|
  x_istore 3 <|
  x_aload 0 <|
  x_getR 5 4 <|
  x_aload 0 <|
  x_getR 5 3 <|
  x_cV1 M_X4_become d 4 <|
  x_push (vi 0) <|
  x_istore 4 <|
  (xJ M_X5_textsTold (d + 1) 16 Q)
set_option maxRecDepth 100000 in
theorem b_X5_textsTold_0 {d : Nat} {Q : xV → xMem → Prop} : Snd M_X5_textsTold (d + 1) 0 Q (k_X5_textsTold_0 d Q) :=
  s_iconst dX5_textsTold_0 rfl <|
  s_istore_n dX5_textsTold_1 rfl (by decide) <|
  s_aload_n dX5_textsTold_2 rfl <|
  s_getR xC5 (by decide) (fun _ _ _ => rfl) fl_X5_46 dX5_textsTold_3 <|
  s_aload_n dX5_textsTold_6 rfl <|
  s_getR xC5 (by decide) (fun _ _ _ => rfl) fl_X5_42 dX5_textsTold_7 <|
  s_cV1 ce_X4_become ml_X5_209 im_X4_become se_X4_become xC4 dX5_textsTold_10 <|
  s_iconst dX5_textsTold_13 rfl <|
  s_istore dX5_textsTold_14 (by decide) <|
  s_J
def k_X5_textsTold_16 (d : Nat) (Q : xV → xMem → Prop) : xP :=
  x_iload 4 <|
  x_aload 0 <|
  x_getI 5 1 <|
  x_c2 (fun x y => y ≤ x) (
  x_iload 3 <|
  x_ret Q) <|
  x_aload 0 <|
  x_getR 5 4 <|
  x_iload 4 <|
  x_putI 4 2 <|
  x_iload 3 <|
  x_aload 0 <|
  x_getR 5 4 <|
  x_iload 2 <|
  x_aload 1 <|
  x_cV2 M_X4_firstOtherwise d 4 <|
  x_push (vi (-1)) <|
  x_c2 (fun x y => ¬ x = y) (
  x_push (vi 0) <|
  x_bin oor <|
  x_istore 3 <|
  x_iinc 4 1 <|
  (xJ M_X5_textsTold (d + 1) 16 Q)) <|
  x_push (vi 1) <|
  x_iload 4 <|
  x_bin oshl <|
  x_bin oor <|
  x_istore 3 <|
  x_iinc 4 1 <|
  (xJ M_X5_textsTold (d + 1) 16 Q)
set_option maxRecDepth 100000 in
theorem b_X5_textsTold_16 {d : Nat} {Q : xV → xMem → Prop} : Snd M_X5_textsTold (d + 1) 16 Q (k_X5_textsTold_16 d Q) :=
  s_iload dX5_textsTold_16 <|
  s_aload_n dX5_textsTold_18 rfl <|
  s_getI xC5 (by decide) (fun _ _ _ => rfl) fl_X5_75 dX5_textsTold_19 <|
  s_icmp_ge (t := 64) dX5_textsTold_22 rfl (
  s_iload_n dX5_textsTold_64 rfl <|
  s_ireturn dX5_textsTold_65 rfl) <|
  s_aload_n dX5_textsTold_25 rfl <|
  s_getR xC5 (by decide) (fun _ _ _ => rfl) fl_X5_46 dX5_textsTold_26 <|
  s_iload dX5_textsTold_29 <|
  s_putI xC4 (by decide) (fun _ _ _ => rfl) rfl rfl fl_X5_126 dX5_textsTold_31 <|
  s_iload_n dX5_textsTold_34 rfl <|
  s_aload_n dX5_textsTold_35 rfl <|
  s_getR xC5 (by decide) (fun _ _ _ => rfl) fl_X5_46 dX5_textsTold_36 <|
  s_iload_n dX5_textsTold_39 rfl <|
  s_aload_n dX5_textsTold_40 rfl <|
  s_cV2 ce_X4_firstOtherwise ml_X5_224 im_X4_firstOtherwise se_X4_firstOtherwise xC4 dX5_textsTold_41 <|
  s_iconst dX5_textsTold_44 rfl <|
  s_icmp_ne (t := 55) dX5_textsTold_45 rfl (
  s_iconst dX5_textsTold_55 rfl <|
  s_ior dX5_textsTold_56 <|
  s_istore_n dX5_textsTold_57 rfl (by decide) <|
  s_iinc dX5_textsTold_58 (by decide) <|
  s_goto (t := 16) dX5_textsTold_61 rfl <|
  s_J) <|
  s_iconst dX5_textsTold_48 rfl <|
  s_iload dX5_textsTold_49 <|
  s_ishl dX5_textsTold_51 <|
  s_goto (t := 56) dX5_textsTold_52 rfl <|
  s_ior dX5_textsTold_56 <|
  s_istore_n dX5_textsTold_57 rfl (by decide) <|
  s_iinc dX5_textsTold_58 (by decide) <|
  s_goto (t := 16) dX5_textsTold_61 rfl <|
  s_J
-- X5_textsTold: cuts [0, 16]
def k_X5_meansTold_0 (d : Nat) (Q : xV → xMem → Prop) : xP :=
  x_aload 0 <|
  x_getR 5 0 <|
  x_aload 0 <|
  x_getR 5 3 <|
  x_getI 4 2 <|
  x_aaload <|
  x_cV0 M_X3_pricesLookAtMeans d 3 <|
  x_c1 (fun x => ¬ x = 0) (
  x_push (vi 0) <|
  x_istore 4 <|
  x_push (vi (-1)) <|
  x_istore 5 <|
  x_aload 0 <|
  x_getR 5 4 <|
  x_aload 0 <|
  x_getR 5 3 <|
  x_cV1 M_X4_become d 4 <|
  x_push (vi 0) <|
  x_istore 6 <|
  (xJ M_X5_meansTold (d + 1) 88 Q)) <|
  x_aload 0 <|
  x_getR 5 3 <|
  x_iload 2 <|
  x_aload 1 <|
  x_cV2 M_X4_firstOtherwise d 4 <|
  x_push (vi (-1)) <|
  x_c2 (fun x y => ¬ x = y) (
  x_push (vi 0) <|
  (xJ M_X5_meansTold (d + 1) 36 Q)) <|
  x_push (vi 1) <|
  (xJ M_X5_meansTold (d + 1) 36 Q)
set_option maxRecDepth 100000 in
theorem b_X5_meansTold_0 {d : Nat} {Q : xV → xMem → Prop} : Snd M_X5_meansTold (d + 1) 0 Q (k_X5_meansTold_0 d Q) :=
  s_aload_n dX5_meansTold_0 rfl <|
  s_getR xC5 (by decide) (fun _ _ _ => rfl) fl_X5_11 dX5_meansTold_1 <|
  s_aload_n dX5_meansTold_4 rfl <|
  s_getR xC5 (by decide) (fun _ _ _ => rfl) fl_X5_42 dX5_meansTold_5 <|
  s_getI xC4 (by decide) (fun _ _ _ => rfl) fl_X5_126 dX5_meansTold_8 <|
  s_aaload dX5_meansTold_11 <|
  s_cV0 ce_X3_pricesLookAtMeans ml_X5_288 im_X3_pricesLookAtMeans se_X3_pricesLookAtMeans xC3 dX5_meansTold_12 <|
  s_if_ne (t := 68) dX5_meansTold_15 rfl (
  s_iconst dX5_meansTold_68 rfl <|
  s_istore dX5_meansTold_69 (by decide) <|
  s_iconst dX5_meansTold_71 rfl <|
  s_istore dX5_meansTold_72 (by decide) <|
  s_aload_n dX5_meansTold_74 rfl <|
  s_getR xC5 (by decide) (fun _ _ _ => rfl) fl_X5_46 dX5_meansTold_75 <|
  s_aload_n dX5_meansTold_78 rfl <|
  s_getR xC5 (by decide) (fun _ _ _ => rfl) fl_X5_42 dX5_meansTold_79 <|
  s_cV1 ce_X4_become ml_X5_209 im_X4_become se_X4_become xC4 dX5_meansTold_82 <|
  s_iconst dX5_meansTold_85 rfl <|
  s_istore dX5_meansTold_86 (by decide) <|
  s_J) <|
  s_aload_n dX5_meansTold_18 rfl <|
  s_getR xC5 (by decide) (fun _ _ _ => rfl) fl_X5_42 dX5_meansTold_19 <|
  s_iload_n dX5_meansTold_22 rfl <|
  s_aload_n dX5_meansTold_23 rfl <|
  s_cV2 ce_X4_firstOtherwise ml_X5_224 im_X4_firstOtherwise se_X4_firstOtherwise xC4 dX5_meansTold_24 <|
  s_iconst dX5_meansTold_27 rfl <|
  s_icmp_ne (t := 35) dX5_meansTold_28 rfl (
  s_iconst dX5_meansTold_35 rfl <|
  s_J) <|
  s_iconst dX5_meansTold_31 rfl <|
  s_goto (t := 36) dX5_meansTold_32 rfl <|
  s_J
def k_X5_meansTold_36 (d : Nat) (Q : xV → xMem → Prop) : xP :=
  x_istore 4 <|
  x_iload 3 <|
  x_c1 (fun x => x = 0) (
  x_iload 4 <|
  x_c1 (fun x => x = 0) (
  x_push (vi 0) <|
  x_ret Q) <|
  x_push (vi 1000) <|
  x_ret Q) <|
  x_iload 4 <|
  x_c1 (fun x => x = 0) (
  x_push (vi (-1)) <|
  x_ret Q) <|
  x_push (vi 0) <|
  x_ret Q
set_option maxRecDepth 100000 in
theorem b_X5_meansTold_36 {d : Nat} {Q : xV → xMem → Prop} : Snd M_X5_meansTold (d + 1) 36 Q (k_X5_meansTold_36 d Q) :=
  s_istore dX5_meansTold_36 (by decide) <|
  s_iload_n dX5_meansTold_38 rfl <|
  s_if_eq (t := 55) dX5_meansTold_39 rfl (
  s_iload dX5_meansTold_55 <|
  s_if_eq (t := 66) dX5_meansTold_57 rfl (
  s_iconst dX5_meansTold_66 rfl <|
  s_ireturn dX5_meansTold_67 rfl) <|
  s_sipush dX5_meansTold_60 rfl (by decide) <|
  s_goto (t := 67) dX5_meansTold_63 rfl <|
  s_ireturn dX5_meansTold_67 rfl) <|
  s_iload dX5_meansTold_42 <|
  s_if_eq (t := 51) dX5_meansTold_44 rfl (
  s_iconst dX5_meansTold_51 rfl <|
  s_goto (t := 67) dX5_meansTold_52 rfl <|
  s_ireturn dX5_meansTold_67 rfl) <|
  s_iconst dX5_meansTold_47 rfl <|
  s_goto (t := 67) dX5_meansTold_48 rfl <|
  s_ireturn dX5_meansTold_67 rfl
def k_X5_meansTold_88 (d : Nat) (Q : xV → xMem → Prop) : xP :=
  x_iload 6 <|
  x_push (vi 1000) <|
  x_c2 (fun x y => y ≤ x) (
  x_iload 3 <|
  x_c1 (fun x => x = 0) (
  x_iload 4 <|
  x_ret Q) <|
  x_iload 5 <|
  x_ret Q) <|
  x_aload 0 <|
  x_getR 5 4 <|
  x_getR 4 7 <|
  x_iload 2 <|
  x_iload 6 <|
  x_iastore <|
  x_aload 0 <|
  x_getR 5 4 <|
  x_iload 2 <|
  x_aload 1 <|
  x_cV2 M_X4_firstOtherwise d 4 <|
  x_push (vi (-1)) <|
  x_c2 (fun x y => ¬ x = y) (
  x_iinc 6 1 <|
  (xJ M_X5_meansTold (d + 1) 88 Q)) <|
  x_iinc 4 1 <|
  x_iload 5 <|
  x_push (vi (-1)) <|
  x_c2 (fun x y => ¬ x = y) (
  x_iload 5 <|
  x_istore 5 <|
  x_iinc 6 1 <|
  (xJ M_X5_meansTold (d + 1) 88 Q)) <|
  x_iload 6 <|
  x_istore 5 <|
  x_iinc 6 1 <|
  (xJ M_X5_meansTold (d + 1) 88 Q)
set_option maxRecDepth 100000 in
theorem b_X5_meansTold_88 {d : Nat} {Q : xV → xMem → Prop} : Snd M_X5_meansTold (d + 1) 88 Q (k_X5_meansTold_88 d Q) :=
  s_iload dX5_meansTold_88 <|
  s_sipush dX5_meansTold_90 rfl (by decide) <|
  s_icmp_ge (t := 144) dX5_meansTold_93 rfl (
  s_iload_n dX5_meansTold_144 rfl <|
  s_if_eq (t := 153) dX5_meansTold_145 rfl (
  s_iload dX5_meansTold_153 <|
  s_ireturn dX5_meansTold_155 rfl) <|
  s_iload dX5_meansTold_148 <|
  s_goto (t := 155) dX5_meansTold_150 rfl <|
  s_ireturn dX5_meansTold_155 rfl) <|
  s_aload_n dX5_meansTold_96 rfl <|
  s_getR xC5 (by decide) (fun _ _ _ => rfl) fl_X5_46 dX5_meansTold_97 <|
  s_getR xC4 (by decide) (fun _ _ _ => rfl) fl_X5_158 dX5_meansTold_100 <|
  s_iload_n dX5_meansTold_103 rfl <|
  s_iload dX5_meansTold_104 <|
  s_iastore dX5_meansTold_106 <|
  s_aload_n dX5_meansTold_107 rfl <|
  s_getR xC5 (by decide) (fun _ _ _ => rfl) fl_X5_46 dX5_meansTold_108 <|
  s_iload_n dX5_meansTold_111 rfl <|
  s_aload_n dX5_meansTold_112 rfl <|
  s_cV2 ce_X4_firstOtherwise ml_X5_224 im_X4_firstOtherwise se_X4_firstOtherwise xC4 dX5_meansTold_113 <|
  s_iconst dX5_meansTold_116 rfl <|
  s_icmp_ne (t := 138) dX5_meansTold_117 rfl (
  s_iinc dX5_meansTold_138 (by decide) <|
  s_goto (t := 88) dX5_meansTold_141 rfl <|
  s_J) <|
  s_iinc dX5_meansTold_120 (by decide) <|
  s_iload dX5_meansTold_123 <|
  s_iconst dX5_meansTold_125 rfl <|
  s_icmp_ne (t := 134) dX5_meansTold_126 rfl (
  s_iload dX5_meansTold_134 <|
  s_istore dX5_meansTold_136 (by decide) <|
  s_iinc dX5_meansTold_138 (by decide) <|
  s_goto (t := 88) dX5_meansTold_141 rfl <|
  s_J) <|
  s_iload dX5_meansTold_129 <|
  s_goto (t := 136) dX5_meansTold_131 rfl <|
  s_istore dX5_meansTold_136 (by decide) <|
  s_iinc dX5_meansTold_138 (by decide) <|
  s_goto (t := 88) dX5_meansTold_141 rfl <|
  s_J
-- X5_meansTold: cuts [0, 36, 88]
