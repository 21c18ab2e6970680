/-! decode rows, as the task prints them -/
theorem dX5_init_0 : decode cX5_init 0 = .ok (.aload_n 0, 1) := by decide +kernel
theorem dX5_init_1 : decode cX5_init 1 = .ok (.invokespecial 1, 3) := by decide +kernel
theorem dX5_init_4 : decode cX5_init 4 = .ok (.aload_n 0, 1) := by decide +kernel
theorem dX5_init_5 : decode cX5_init 5 = .ok (.bipush 6, 2) := by decide +kernel
theorem dX5_init_7 : decode cX5_init 7 = .ok (.anewarray 9, 3) := by decide +kernel
theorem dX5_init_10 : decode cX5_init 10 = .ok (.putfield 11, 3) := by decide +kernel
theorem dX5_init_13 : decode cX5_init 13 = .ok (.aload_n 0, 1) := by decide +kernel
theorem dX5_init_14 : decode cX5_init 14 = .ok (.new 15, 3) := by decide +kernel
theorem dX5_init_17 : decode cX5_init 17 = .ok (.dup, 1) := by decide +kernel
theorem dX5_init_18 : decode cX5_init 18 = .ok (.invokespecial 17, 3) := by decide +kernel
theorem dX5_init_21 : decode cX5_init 21 = .ok (.putfield 18, 3) := by decide +kernel
theorem dX5_init_24 : decode cX5_init 24 = .ok (.aload_n 0, 1) := by decide +kernel
theorem dX5_init_25 : decode cX5_init 25 = .ok (.new 22, 3) := by decide +kernel
theorem dX5_init_28 : decode cX5_init 28 = .ok (.dup, 1) := by decide +kernel
theorem dX5_init_29 : decode cX5_init 29 = .ok (.invokespecial 24, 3) := by decide +kernel
theorem dX5_init_32 : decode cX5_init 32 = .ok (.putfield 25, 3) := by decide +kernel
theorem dX5_init_35 : decode cX5_init 35 = .ok (.aload_n 0, 1) := by decide +kernel
theorem dX5_init_36 : decode cX5_init 36 = .ok (.iconst 4, 1) := by decide +kernel
theorem dX5_init_37 : decode cX5_init 37 = .ok (.anewarray 29, 3) := by decide +kernel
theorem dX5_init_40 : decode cX5_init 40 = .ok (.putfield 31, 3) := by decide +kernel
theorem dX5_init_43 : decode cX5_init 43 = .ok (.iconst 0, 1) := by decide +kernel
theorem dX5_init_44 : decode cX5_init 44 = .ok (.istore_n 1, 1) := by decide +kernel
theorem dX5_init_45 : decode cX5_init 45 = .ok (.iload_n 1, 1) := by decide +kernel
theorem dX5_init_46 : decode cX5_init 46 = .ok (.bipush 6, 2) := by decide +kernel
theorem dX5_init_48 : decode cX5_init 48 = .ok (.if_icmp .ge 22, 3) := by decide +kernel
theorem dX5_init_51 : decode cX5_init 51 = .ok (.aload_n 0, 1) := by decide +kernel
theorem dX5_init_52 : decode cX5_init 52 = .ok (.getfield 11, 3) := by decide +kernel
theorem dX5_init_55 : decode cX5_init 55 = .ok (.iload_n 1, 1) := by decide +kernel
theorem dX5_init_56 : decode cX5_init 56 = .ok (.new 9, 3) := by decide +kernel
theorem dX5_init_59 : decode cX5_init 59 = .ok (.dup, 1) := by decide +kernel
theorem dX5_init_60 : decode cX5_init 60 = .ok (.invokespecial 35, 3) := by decide +kernel
theorem dX5_init_63 : decode cX5_init 63 = .ok (.aastore, 1) := by decide +kernel
theorem dX5_init_64 : decode cX5_init 64 = .ok (.iinc 1 1, 3) := by decide +kernel
theorem dX5_init_67 : decode cX5_init 67 = .ok (.goto (-22), 3) := by decide +kernel
theorem dX5_init_70 : decode cX5_init 70 = .ok (.iconst 0, 1) := by decide +kernel
theorem dX5_init_71 : decode cX5_init 71 = .ok (.istore_n 1, 1) := by decide +kernel
theorem dX5_init_72 : decode cX5_init 72 = .ok (.iload_n 1, 1) := by decide +kernel
theorem dX5_init_73 : decode cX5_init 73 = .ok (.iconst 4, 1) := by decide +kernel
theorem dX5_init_74 : decode cX5_init 74 = .ok (.if_icmp .ge 22, 3) := by decide +kernel
theorem dX5_init_77 : decode cX5_init 77 = .ok (.aload_n 0, 1) := by decide +kernel
theorem dX5_init_78 : decode cX5_init 78 = .ok (.getfield 31, 3) := by decide +kernel
theorem dX5_init_81 : decode cX5_init 81 = .ok (.iload_n 1, 1) := by decide +kernel
theorem dX5_init_82 : decode cX5_init 82 = .ok (.new 29, 3) := by decide +kernel
theorem dX5_init_85 : decode cX5_init 85 = .ok (.dup, 1) := by decide +kernel
theorem dX5_init_86 : decode cX5_init 86 = .ok (.invokespecial 36, 3) := by decide +kernel
theorem dX5_init_89 : decode cX5_init 89 = .ok (.aastore, 1) := by decide +kernel
theorem dX5_init_90 : decode cX5_init 90 = .ok (.iinc 1 1, 3) := by decide +kernel
theorem dX5_init_93 : decode cX5_init 93 = .ok (.goto (-21), 3) := by decide +kernel
theorem dX5_init_96 : decode cX5_init 96 = .ok (.aload_n 0, 1) := by decide +kernel
theorem dX5_init_97 : decode cX5_init 97 = .ok (.new 37, 3) := by decide +kernel
theorem dX5_init_100 : decode cX5_init 100 = .ok (.dup, 1) := by decide +kernel
theorem dX5_init_101 : decode cX5_init 101 = .ok (.aload_n 0, 1) := by decide +kernel
theorem dX5_init_102 : decode cX5_init 102 = .ok (.getfield 11, 3) := by decide +kernel
theorem dX5_init_105 : decode cX5_init 105 = .ok (.invokespecial 39, 3) := by decide +kernel
theorem dX5_init_108 : decode cX5_init 108 = .ok (.putfield 42, 3) := by decide +kernel
theorem dX5_init_111 : decode cX5_init 111 = .ok (.aload_n 0, 1) := by decide +kernel
theorem dX5_init_112 : decode cX5_init 112 = .ok (.new 37, 3) := by decide +kernel
theorem dX5_init_115 : decode cX5_init 115 = .ok (.dup, 1) := by decide +kernel
theorem dX5_init_116 : decode cX5_init 116 = .ok (.aload_n 0, 1) := by decide +kernel
theorem dX5_init_117 : decode cX5_init 117 = .ok (.getfield 11, 3) := by decide +kernel
theorem dX5_init_120 : decode cX5_init 120 = .ok (.invokespecial 39, 3) := by decide +kernel
theorem dX5_init_123 : decode cX5_init 123 = .ok (.putfield 46, 3) := by decide +kernel
theorem dX5_init_126 : decode cX5_init 126 = .ok (.aload_n 0, 1) := by decide +kernel
theorem dX5_init_127 : decode cX5_init 127 = .ok (.new 37, 3) := by decide +kernel
theorem dX5_init_130 : decode cX5_init 130 = .ok (.dup, 1) := by decide +kernel
theorem dX5_init_131 : decode cX5_init 131 = .ok (.aload_n 0, 1) := by decide +kernel
theorem dX5_init_132 : decode cX5_init 132 = .ok (.getfield 11, 3) := by decide +kernel
theorem dX5_init_135 : decode cX5_init 135 = .ok (.invokespecial 39, 3) := by decide +kernel
theorem dX5_init_138 : decode cX5_init 138 = .ok (.putfield 49, 3) := by decide +kernel
theorem dX5_init_141 : decode cX5_init 141 = .ok (.iconst 0, 1) := by decide +kernel
theorem dX5_init_142 : decode cX5_init 142 = .ok (.istore_n 1, 1) := by decide +kernel
theorem dX5_init_143 : decode cX5_init 143 = .ok (.iload_n 1, 1) := by decide +kernel
theorem dX5_init_144 : decode cX5_init 144 = .ok (.ldc 52, 2) := by decide +kernel
theorem dX5_init_146 : decode cX5_init 146 = .ok (.invokevirtual 54, 3) := by decide +kernel
theorem dX5_init_149 : decode cX5_init 149 = .ok (.if_icmp .ge 23, 3) := by decide +kernel
theorem dX5_init_152 : decode cX5_init 152 = .ok (.aload_n 0, 1) := by decide +kernel
theorem dX5_init_153 : decode cX5_init 153 = .ok (.getfield 18, 3) := by decide +kernel
theorem dX5_init_156 : decode cX5_init 156 = .ok (.ldc 52, 2) := by decide +kernel
theorem dX5_init_158 : decode cX5_init 158 = .ok (.iload_n 1, 1) := by decide +kernel
theorem dX5_init_159 : decode cX5_init 159 = .ok (.invokevirtual 60, 3) := by decide +kernel
theorem dX5_init_162 : decode cX5_init 162 = .ok (.invokevirtual 64, 3) := by decide +kernel
theorem dX5_init_165 : decode cX5_init 165 = .ok (.pop, 1) := by decide +kernel
theorem dX5_init_166 : decode cX5_init 166 = .ok (.iinc 1 1, 3) := by decide +kernel
theorem dX5_init_169 : decode cX5_init 169 = .ok (.goto (-26), 3) := by decide +kernel
theorem dX5_init_172 : decode cX5_init 172 = .ok (.aload_n 0, 1) := by decide +kernel
theorem dX5_init_173 : decode cX5_init 173 = .ok (.getfield 18, 3) := by decide +kernel
theorem dX5_init_176 : decode cX5_init 176 = .ok (.aload_n 0, 1) := by decide +kernel
theorem dX5_init_177 : decode cX5_init 177 = .ok (.getfield 11, 3) := by decide +kernel
theorem dX5_init_180 : decode cX5_init 180 = .ok (.iconst 0, 1) := by decide +kernel
theorem dX5_init_181 : decode cX5_init 181 = .ok (.aaload, 1) := by decide +kernel
theorem dX5_init_182 : decode cX5_init 182 = .ok (.invokevirtual 68, 3) := by decide +kernel
theorem dX5_init_185 : decode cX5_init 185 = .ok (.pop, 1) := by decide +kernel
theorem dX5_init_186 : decode cX5_init 186 = .ok (.aload_n 0, 1) := by decide +kernel
theorem dX5_init_187 : decode cX5_init 187 = .ok (.getfield 18, 3) := by decide +kernel
theorem dX5_init_190 : decode cX5_init 190 = .ok (.invokevirtual 72, 3) := by decide +kernel
theorem dX5_init_193 : decode cX5_init 193 = .ok (.aload_n 0, 1) := by decide +kernel
theorem dX5_init_194 : decode cX5_init 194 = .ok (.iconst 1, 1) := by decide +kernel
theorem dX5_init_195 : decode cX5_init 195 = .ok (.putfield 75, 3) := by decide +kernel
theorem dX5_init_198 : decode cX5_init 198 = .ok (.return_, 1) := by decide +kernel
theorem dX5_set_0 : decode cX5_set 0 = .ok (.aload_n 0, 1) := by decide +kernel
theorem dX5_set_1 : decode cX5_set 1 = .ok (.getfield 42, 3) := by decide +kernel
theorem dX5_set_4 : decode cX5_set 4 = .ok (.iload_n 1, 1) := by decide +kernel
theorem dX5_set_5 : decode cX5_set 5 = .ok (.iload_n 2, 1) := by decide +kernel
theorem dX5_set_6 : decode cX5_set 6 = .ok (.invokevirtual 79, 3) := by decide +kernel
theorem dX5_set_9 : decode cX5_set 9 = .ok (.ifCond .eq 11, 3) := by decide +kernel
theorem dX5_set_12 : decode cX5_set 12 = .ok (.iload_n 1, 1) := by decide +kernel
theorem dX5_set_13 : decode cX5_set 13 = .ok (.iload_n 3, 1) := by decide +kernel
theorem dX5_set_14 : decode cX5_set 14 = .ok (.invokestatic 83, 3) := by decide +kernel
theorem dX5_set_17 : decode cX5_set 17 = .ok (.ifCond .ne 6, 3) := by decide +kernel
theorem dX5_set_20 : decode cX5_set 20 = .ok (.bipush (-2), 2) := by decide +kernel
theorem dX5_set_22 : decode cX5_set 22 = .ok (.ireturn, 1) := by decide +kernel
theorem dX5_set_23 : decode cX5_set 23 = .ok (.aload_n 0, 1) := by decide +kernel
theorem dX5_set_24 : decode cX5_set 24 = .ok (.getfield 42, 3) := by decide +kernel
theorem dX5_set_27 : decode cX5_set 27 = .ok (.iload_n 1, 1) := by decide +kernel
theorem dX5_set_28 : decode cX5_set 28 = .ok (.iload_n 2, 1) := by decide +kernel
theorem dX5_set_29 : decode cX5_set 29 = .ok (.invokevirtual 86, 3) := by decide +kernel
theorem dX5_set_32 : decode cX5_set 32 = .ok (.istore 4, 2) := by decide +kernel
theorem dX5_set_34 : decode cX5_set 34 = .ok (.aload_n 0, 1) := by decide +kernel
theorem dX5_set_35 : decode cX5_set 35 = .ok (.getfield 42, 3) := by decide +kernel
theorem dX5_set_38 : decode cX5_set 38 = .ok (.iload_n 1, 1) := by decide +kernel
theorem dX5_set_39 : decode cX5_set 39 = .ok (.iload_n 2, 1) := by decide +kernel
theorem dX5_set_40 : decode cX5_set 40 = .ok (.iload_n 3, 1) := by decide +kernel
theorem dX5_set_41 : decode cX5_set 41 = .ok (.invokevirtual 90, 3) := by decide +kernel
theorem dX5_set_44 : decode cX5_set 44 = .ok (.iload 4, 2) := by decide +kernel
theorem dX5_set_46 : decode cX5_set 46 = .ok (.ireturn, 1) := by decide +kernel
theorem dX5_figure_0 : decode cX5_figure 0 = .ok (.aload_n 0, 1) := by decide +kernel
theorem dX5_figure_1 : decode cX5_figure 1 = .ok (.getfield 42, 3) := by decide +kernel
theorem dX5_figure_4 : decode cX5_figure 4 = .ok (.iload_n 1, 1) := by decide +kernel
theorem dX5_figure_5 : decode cX5_figure 5 = .ok (.iload_n 2, 1) := by decide +kernel
theorem dX5_figure_6 : decode cX5_figure 6 = .ok (.iload_n 3, 1) := by decide +kernel
theorem dX5_figure_7 : decode cX5_figure 7 = .ok (.invokevirtual 94, 3) := by decide +kernel
theorem dX5_figure_10 : decode cX5_figure 10 = .ok (.ireturn, 1) := by decide +kernel
theorem dX5_client_0 : decode cX5_client 0 = .ok (.iload_n 1, 1) := by decide +kernel
theorem dX5_client_1 : decode cX5_client 1 = .ok (.ifCond .lt 19, 3) := by decide +kernel
theorem dX5_client_4 : decode cX5_client 4 = .ok (.iload_n 1, 1) := by decide +kernel
theorem dX5_client_5 : decode cX5_client 5 = .ok (.bipush 12, 2) := by decide +kernel
theorem dX5_client_7 : decode cX5_client 7 = .ok (.if_icmp .ge 13, 3) := by decide +kernel
theorem dX5_client_10 : decode cX5_client 10 = .ok (.iload_n 2, 1) := by decide +kernel
theorem dX5_client_11 : decode cX5_client 11 = .ok (.ifCond .lt 9, 3) := by decide +kernel
theorem dX5_client_14 : decode cX5_client 14 = .ok (.iload_n 2, 1) := by decide +kernel
theorem dX5_client_15 : decode cX5_client 15 = .ok (.bipush 63, 2) := by decide +kernel
theorem dX5_client_17 : decode cX5_client 17 = .ok (.if_icmp .le 6, 3) := by decide +kernel
theorem dX5_client_20 : decode cX5_client 20 = .ok (.bipush (-2), 2) := by decide +kernel
theorem dX5_client_22 : decode cX5_client 22 = .ok (.ireturn, 1) := by decide +kernel
theorem dX5_client_23 : decode cX5_client 23 = .ok (.aload_n 0, 1) := by decide +kernel
theorem dX5_client_24 : decode cX5_client 24 = .ok (.getfield 42, 3) := by decide +kernel
theorem dX5_client_27 : decode cX5_client 27 = .ok (.iload_n 1, 1) := by decide +kernel
theorem dX5_client_28 : decode cX5_client 28 = .ok (.iload_n 2, 1) := by decide +kernel
theorem dX5_client_29 : decode cX5_client 29 = .ok (.invokevirtual 98, 3) := by decide +kernel
theorem dX5_client_32 : decode cX5_client 32 = .ok (.ireturn, 1) := by decide +kernel
theorem dX5_told_0 : decode cX5_told 0 = .ok (.iload_n 2, 1) := by decide +kernel
theorem dX5_told_1 : decode cX5_told 1 = .ok (.ifCond .lt 36, 3) := by decide +kernel
theorem dX5_told_4 : decode cX5_told 4 = .ok (.iload_n 2, 1) := by decide +kernel
theorem dX5_told_5 : decode cX5_told 5 = .ok (.bipush 6, 2) := by decide +kernel
theorem dX5_told_7 : decode cX5_told 7 = .ok (.if_icmp .gt 30, 3) := by decide +kernel
theorem dX5_told_10 : decode cX5_told 10 = .ok (.aload_n 0, 1) := by decide +kernel
theorem dX5_told_11 : decode cX5_told 11 = .ok (.getfield 42, 3) := by decide +kernel
theorem dX5_told_14 : decode cX5_told 14 = .ok (.iload_n 2, 1) := by decide +kernel
theorem dX5_told_15 : decode cX5_told 15 = .ok (.iload_n 1, 1) := by decide +kernel
theorem dX5_told_16 : decode cX5_told 16 = .ok (.invokevirtual 79, 3) := by decide +kernel
theorem dX5_told_19 : decode cX5_told 19 = .ok (.ifCond .eq 15, 3) := by decide +kernel
theorem dX5_told_22 : decode cX5_told 22 = .ok (.aload_n 0, 1) := by decide +kernel
theorem dX5_told_23 : decode cX5_told 23 = .ok (.getfield 42, 3) := by decide +kernel
theorem dX5_told_26 : decode cX5_told 26 = .ok (.iload_n 2, 1) := by decide +kernel
theorem dX5_told_27 : decode cX5_told 27 = .ok (.iload_n 1, 1) := by decide +kernel
theorem dX5_told_28 : decode cX5_told 28 = .ok (.invokevirtual 86, 3) := by decide +kernel
theorem dX5_told_31 : decode cX5_told 31 = .ok (.goto 5, 3) := by decide +kernel
theorem dX5_told_34 : decode cX5_told 34 = .ok (.bipush (-2), 2) := by decide +kernel
theorem dX5_told_36 : decode cX5_told 36 = .ok (.ireturn, 1) := by decide +kernel
theorem dX5_told_37 : decode cX5_told 37 = .ok (.aload_n 0, 1) := by decide +kernel
theorem dX5_told_38 : decode cX5_told 38 = .ok (.getfield 42, 3) := by decide +kernel
theorem dX5_told_41 : decode cX5_told 41 = .ok (.iload_n 1, 1) := by decide +kernel
theorem dX5_told_42 : decode cX5_told 42 = .ok (.invokevirtual 101, 3) := by decide +kernel
theorem dX5_told_45 : decode cX5_told 45 = .ok (.ifCond .ne 6, 3) := by decide +kernel
theorem dX5_told_48 : decode cX5_told 48 = .ok (.bipush (-2), 2) := by decide +kernel
theorem dX5_told_50 : decode cX5_told 50 = .ok (.ireturn, 1) := by decide +kernel
theorem dX5_told_51 : decode cX5_told 51 = .ok (.iload_n 2, 1) := by decide +kernel
theorem dX5_told_52 : decode cX5_told 52 = .ok (.bipush 7, 2) := by decide +kernel
theorem dX5_told_54 : decode cX5_told 54 = .ok (.if_icmp .ne 12, 3) := by decide +kernel
theorem dX5_told_57 : decode cX5_told 57 = .ok (.aload_n 0, 1) := by decide +kernel
theorem dX5_told_58 : decode cX5_told 58 = .ok (.getfield 42, 3) := by decide +kernel
theorem dX5_told_61 : decode cX5_told 61 = .ok (.iload_n 1, 1) := by decide +kernel
theorem dX5_told_62 : decode cX5_told 62 = .ok (.invokevirtual 104, 3) := by decide +kernel
theorem dX5_told_65 : decode cX5_told 65 = .ok (.ireturn, 1) := by decide +kernel
theorem dX5_told_66 : decode cX5_told 66 = .ok (.iload_n 2, 1) := by decide +kernel
theorem dX5_told_67 : decode cX5_told 67 = .ok (.bipush 10, 2) := by decide +kernel
theorem dX5_told_69 : decode cX5_told 69 = .ok (.if_icmp .lt 22, 3) := by decide +kernel
theorem dX5_told_72 : decode cX5_told 72 = .ok (.iload_n 2, 1) := by decide +kernel
theorem dX5_told_73 : decode cX5_told 73 = .ok (.bipush 22, 2) := by decide +kernel
theorem dX5_told_75 : decode cX5_told 75 = .ok (.if_icmp .ge 16, 3) := by decide +kernel
theorem dX5_told_78 : decode cX5_told 78 = .ok (.aload_n 0, 1) := by decide +kernel
theorem dX5_told_79 : decode cX5_told 79 = .ok (.getfield 42, 3) := by decide +kernel
theorem dX5_told_82 : decode cX5_told 82 = .ok (.iload_n 1, 1) := by decide +kernel
theorem dX5_told_83 : decode cX5_told 83 = .ok (.iload_n 2, 1) := by decide +kernel
theorem dX5_told_84 : decode cX5_told 84 = .ok (.bipush 10, 2) := by decide +kernel
theorem dX5_told_86 : decode cX5_told 86 = .ok (.isub, 1) := by decide +kernel
theorem dX5_told_87 : decode cX5_told 87 = .ok (.invokevirtual 108, 3) := by decide +kernel
theorem dX5_told_90 : decode cX5_told 90 = .ok (.ireturn, 1) := by decide +kernel
theorem dX5_told_91 : decode cX5_told 91 = .ok (.iload_n 2, 1) := by decide +kernel
theorem dX5_told_92 : decode cX5_told 92 = .ok (.bipush 30, 2) := by decide +kernel
theorem dX5_told_94 : decode cX5_told 94 = .ok (.if_icmp .lt 30, 3) := by decide +kernel
theorem dX5_told_97 : decode cX5_told 97 = .ok (.iload_n 2, 1) := by decide +kernel
theorem dX5_told_98 : decode cX5_told 98 = .ok (.bipush 42, 2) := by decide +kernel
theorem dX5_told_100 : decode cX5_told 100 = .ok (.if_icmp .ge 24, 3) := by decide +kernel
theorem dX5_told_103 : decode cX5_told 103 = .ok (.aload_n 0, 1) := by decide +kernel
theorem dX5_told_104 : decode cX5_told 104 = .ok (.getfield 42, 3) := by decide +kernel
theorem dX5_told_107 : decode cX5_told 107 = .ok (.iload_n 1, 1) := by decide +kernel
theorem dX5_told_108 : decode cX5_told 108 = .ok (.iload_n 2, 1) := by decide +kernel
theorem dX5_told_109 : decode cX5_told 109 = .ok (.bipush 30, 2) := by decide +kernel
theorem dX5_told_111 : decode cX5_told 111 = .ok (.isub, 1) := by decide +kernel
theorem dX5_told_112 : decode cX5_told 112 = .ok (.invokevirtual 111, 3) := by decide +kernel
theorem dX5_told_115 : decode cX5_told 115 = .ok (.ifCond .eq 7, 3) := by decide +kernel
theorem dX5_told_118 : decode cX5_told 118 = .ok (.iconst 1, 1) := by decide +kernel
theorem dX5_told_119 : decode cX5_told 119 = .ok (.goto 4, 3) := by decide +kernel
theorem dX5_told_122 : decode cX5_told 122 = .ok (.iconst 0, 1) := by decide +kernel
theorem dX5_told_123 : decode cX5_told 123 = .ok (.ireturn, 1) := by decide +kernel
theorem dX5_told_124 : decode cX5_told 124 = .ok (.bipush (-2), 2) := by decide +kernel
theorem dX5_told_126 : decode cX5_told 126 = .ok (.ireturn, 1) := by decide +kernel
theorem dX5_glad_0 : decode cX5_glad 0 = .ok (.aload_n 0, 1) := by decide +kernel
theorem dX5_glad_1 : decode cX5_glad 1 = .ok (.getfield 42, 3) := by decide +kernel
theorem dX5_glad_4 : decode cX5_glad 4 = .ok (.iload_n 1, 1) := by decide +kernel
theorem dX5_glad_5 : decode cX5_glad 5 = .ok (.invokevirtual 114, 3) := by decide +kernel
theorem dX5_glad_8 : decode cX5_glad 8 = .ok (.ifCond .eq 14, 3) := by decide +kernel
theorem dX5_glad_11 : decode cX5_glad 11 = .ok (.aload_n 0, 1) := by decide +kernel
theorem dX5_glad_12 : decode cX5_glad 12 = .ok (.getfield 42, 3) := by decide +kernel
theorem dX5_glad_15 : decode cX5_glad 15 = .ok (.iload_n 2, 1) := by decide +kernel
theorem dX5_glad_16 : decode cX5_glad 16 = .ok (.invokevirtual 101, 3) := by decide +kernel
theorem dX5_glad_19 : decode cX5_glad 19 = .ok (.ifCond .ne 7, 3) := by decide +kernel
theorem dX5_glad_22 : decode cX5_glad 22 = .ok (.sipush (-1000), 3) := by decide +kernel
theorem dX5_glad_25 : decode cX5_glad 25 = .ok (.ireturn, 1) := by decide +kernel
theorem dX5_glad_26 : decode cX5_glad 26 = .ok (.iload_n 3, 1) := by decide +kernel
theorem dX5_glad_27 : decode cX5_glad 27 = .ok (.lookupswitch 45 #[(0, 25), (1, 35)], 25) := by decide +kernel
theorem dX5_glad_52 : decode cX5_glad 52 = .ok (.aload_n 0, 1) := by decide +kernel
theorem dX5_glad_53 : decode cX5_glad 53 = .ok (.getfield 42, 3) := by decide +kernel
theorem dX5_glad_56 : decode cX5_glad 56 = .ok (.iload_n 1, 1) := by decide +kernel
theorem dX5_glad_57 : decode cX5_glad 57 = .ok (.iload_n 2, 1) := by decide +kernel
theorem dX5_glad_58 : decode cX5_glad 58 = .ok (.invokevirtual 117, 3) := by decide +kernel
theorem dX5_glad_61 : decode cX5_glad 61 = .ok (.ireturn, 1) := by decide +kernel
theorem dX5_glad_62 : decode cX5_glad 62 = .ok (.aload_n 0, 1) := by decide +kernel
theorem dX5_glad_63 : decode cX5_glad 63 = .ok (.getfield 42, 3) := by decide +kernel
theorem dX5_glad_66 : decode cX5_glad 66 = .ok (.iload_n 1, 1) := by decide +kernel
theorem dX5_glad_67 : decode cX5_glad 67 = .ok (.iload_n 2, 1) := by decide +kernel
theorem dX5_glad_68 : decode cX5_glad 68 = .ok (.invokevirtual 120, 3) := by decide +kernel
theorem dX5_glad_71 : decode cX5_glad 71 = .ok (.ireturn, 1) := by decide +kernel
theorem dX5_glad_72 : decode cX5_glad 72 = .ok (.sipush (-1000), 3) := by decide +kernel
theorem dX5_glad_75 : decode cX5_glad 75 = .ok (.ireturn, 1) := by decide +kernel
theorem dX5_feed_0 : decode cX5_feed 0 = .ok (.iload_n 1, 1) := by decide +kernel
theorem dX5_feed_1 : decode cX5_feed 1 = .ok (.ifCond .lt 10, 3) := by decide +kernel
theorem dX5_feed_4 : decode cX5_feed 4 = .ok (.iload_n 1, 1) := by decide +kernel
theorem dX5_feed_5 : decode cX5_feed 5 = .ok (.sipush 255, 3) := by decide +kernel
theorem dX5_feed_8 : decode cX5_feed 8 = .ok (.if_icmp .le 6, 3) := by decide +kernel
theorem dX5_feed_11 : decode cX5_feed 11 = .ok (.bipush (-2), 2) := by decide +kernel
theorem dX5_feed_13 : decode cX5_feed 13 = .ok (.ireturn, 1) := by decide +kernel
theorem dX5_feed_14 : decode cX5_feed 14 = .ok (.aload_n 0, 1) := by decide +kernel
theorem dX5_feed_15 : decode cX5_feed 15 = .ok (.getfield 18, 3) := by decide +kernel
theorem dX5_feed_18 : decode cX5_feed 18 = .ok (.iload_n 1, 1) := by decide +kernel
theorem dX5_feed_19 : decode cX5_feed 19 = .ok (.invokevirtual 64, 3) := by decide +kernel
theorem dX5_feed_22 : decode cX5_feed 22 = .ok (.ifCond .eq 13, 3) := by decide +kernel
theorem dX5_feed_25 : decode cX5_feed 25 = .ok (.aload_n 0, 1) := by decide +kernel
theorem dX5_feed_26 : decode cX5_feed 26 = .ok (.getfield 18, 3) := by decide +kernel
theorem dX5_feed_29 : decode cX5_feed 29 = .ok (.getfield 123, 3) := by decide +kernel
theorem dX5_feed_32 : decode cX5_feed 32 = .ok (.goto 5, 3) := by decide +kernel
theorem dX5_feed_35 : decode cX5_feed 35 = .ok (.bipush (-4), 2) := by decide +kernel
theorem dX5_feed_37 : decode cX5_feed 37 = .ok (.ireturn, 1) := by decide +kernel
theorem dX5_text_0 : decode cX5_text 0 = .ok (.aload_n 0, 1) := by decide +kernel
theorem dX5_text_1 : decode cX5_text 1 = .ok (.getfield 75, 3) := by decide +kernel
theorem dX5_text_4 : decode cX5_text 4 = .ok (.bipush 6, 2) := by decide +kernel
theorem dX5_text_6 : decode cX5_text 6 = .ok (.if_icmp .lt 6, 3) := by decide +kernel
theorem dX5_text_9 : decode cX5_text 9 = .ok (.bipush (-4), 2) := by decide +kernel
theorem dX5_text_11 : decode cX5_text 11 = .ok (.ireturn, 1) := by decide +kernel
theorem dX5_text_12 : decode cX5_text 12 = .ok (.aload_n 0, 1) := by decide +kernel
theorem dX5_text_13 : decode cX5_text 13 = .ok (.getfield 18, 3) := by decide +kernel
theorem dX5_text_16 : decode cX5_text 16 = .ok (.aload_n 0, 1) := by decide +kernel
theorem dX5_text_17 : decode cX5_text 17 = .ok (.getfield 11, 3) := by decide +kernel
theorem dX5_text_20 : decode cX5_text 20 = .ok (.aload_n 0, 1) := by decide +kernel
theorem dX5_text_21 : decode cX5_text 21 = .ok (.getfield 75, 3) := by decide +kernel
theorem dX5_text_24 : decode cX5_text 24 = .ok (.aaload, 1) := by decide +kernel
theorem dX5_text_25 : decode cX5_text 25 = .ok (.invokevirtual 68, 3) := by decide +kernel
theorem dX5_text_28 : decode cX5_text 28 = .ok (.istore_n 1, 1) := by decide +kernel
theorem dX5_text_29 : decode cX5_text 29 = .ok (.aload_n 0, 1) := by decide +kernel
theorem dX5_text_30 : decode cX5_text 30 = .ok (.getfield 18, 3) := by decide +kernel
theorem dX5_text_33 : decode cX5_text 33 = .ok (.invokevirtual 72, 3) := by decide +kernel
theorem dX5_text_36 : decode cX5_text 36 = .ok (.iload_n 1, 1) := by decide +kernel
theorem dX5_text_37 : decode cX5_text 37 = .ok (.iconst (-1), 1) := by decide +kernel
theorem dX5_text_38 : decode cX5_text 38 = .ok (.if_icmp .eq 8, 3) := by decide +kernel
theorem dX5_text_41 : decode cX5_text 41 = .ok (.bipush (-100), 2) := by decide +kernel
theorem dX5_text_43 : decode cX5_text 43 = .ok (.iload_n 1, 1) := by decide +kernel
theorem dX5_text_44 : decode cX5_text 44 = .ok (.isub, 1) := by decide +kernel
theorem dX5_text_45 : decode cX5_text 45 = .ok (.ireturn, 1) := by decide +kernel
theorem dX5_text_46 : decode cX5_text 46 = .ok (.aload_n 0, 1) := by decide +kernel
theorem dX5_text_47 : decode cX5_text 47 = .ok (.dup, 1) := by decide +kernel
theorem dX5_text_48 : decode cX5_text 48 = .ok (.getfield 75, 3) := by decide +kernel
theorem dX5_text_51 : decode cX5_text 51 = .ok (.iconst 1, 1) := by decide +kernel
theorem dX5_text_52 : decode cX5_text 52 = .ok (.iadd, 1) := by decide +kernel
theorem dX5_text_53 : decode cX5_text 53 = .ok (.putfield 75, 3) := by decide +kernel
theorem dX5_text_56 : decode cX5_text 56 = .ok (.aload_n 0, 1) := by decide +kernel
theorem dX5_text_57 : decode cX5_text 57 = .ok (.getfield 75, 3) := by decide +kernel
theorem dX5_text_60 : decode cX5_text 60 = .ok (.iconst 1, 1) := by decide +kernel
theorem dX5_text_61 : decode cX5_text 61 = .ok (.isub, 1) := by decide +kernel
theorem dX5_text_62 : decode cX5_text 62 = .ok (.ireturn, 1) := by decide +kernel
theorem dX5_force_0 : decode cX5_force 0 = .ok (.iload_n 1, 1) := by decide +kernel
theorem dX5_force_1 : decode cX5_force 1 = .ok (.ifCond .lt 11, 3) := by decide +kernel
theorem dX5_force_4 : decode cX5_force 4 = .ok (.iload_n 1, 1) := by decide +kernel
theorem dX5_force_5 : decode cX5_force 5 = .ok (.aload_n 0, 1) := by decide +kernel
theorem dX5_force_6 : decode cX5_force 6 = .ok (.getfield 75, 3) := by decide +kernel
theorem dX5_force_9 : decode cX5_force 9 = .ok (.if_icmp .lt 6, 3) := by decide +kernel
theorem dX5_force_12 : decode cX5_force 12 = .ok (.bipush (-2), 2) := by decide +kernel
theorem dX5_force_14 : decode cX5_force 14 = .ok (.ireturn, 1) := by decide +kernel
theorem dX5_force_15 : decode cX5_force 15 = .ok (.aload_n 0, 1) := by decide +kernel
theorem dX5_force_16 : decode cX5_force 16 = .ok (.getfield 42, 3) := by decide +kernel
theorem dX5_force_19 : decode cX5_force 19 = .ok (.getfield 126, 3) := by decide +kernel
theorem dX5_force_22 : decode cX5_force 22 = .ok (.istore_n 2, 1) := by decide +kernel
theorem dX5_force_23 : decode cX5_force 23 = .ok (.aload_n 0, 1) := by decide +kernel
theorem dX5_force_24 : decode cX5_force 24 = .ok (.getfield 42, 3) := by decide +kernel
theorem dX5_force_27 : decode cX5_force 27 = .ok (.iload_n 1, 1) := by decide +kernel
theorem dX5_force_28 : decode cX5_force 28 = .ok (.putfield 126, 3) := by decide +kernel
theorem dX5_force_31 : decode cX5_force 31 = .ok (.iload_n 2, 1) := by decide +kernel
theorem dX5_force_32 : decode cX5_force 32 = .ok (.ireturn, 1) := by decide +kernel
theorem dX5_show_0 : decode cX5_show 0 = .ok (.aload_n 0, 1) := by decide +kernel
theorem dX5_show_1 : decode cX5_show 1 = .ok (.iload_n 1, 1) := by decide +kernel
theorem dX5_show_2 : decode cX5_show 2 = .ok (.invokevirtual 129, 3) := by decide +kernel
theorem dX5_show_5 : decode cX5_show 5 = .ok (.astore_n 3, 1) := by decide +kernel
theorem dX5_show_6 : decode cX5_show 6 = .ok (.iload_n 2, 1) := by decide +kernel
theorem dX5_show_7 : decode cX5_show 7 = .ok (.bipush 10, 2) := by decide +kernel
theorem dX5_show_9 : decode cX5_show 9 = .ok (.if_icmp .lt 21, 3) := by decide +kernel
theorem dX5_show_12 : decode cX5_show 12 = .ok (.aload_n 0, 1) := by decide +kernel
theorem dX5_show_13 : decode cX5_show 13 = .ok (.getfield 42, 3) := by decide +kernel
theorem dX5_show_16 : decode cX5_show 16 = .ok (.iload_n 2, 1) := by decide +kernel
theorem dX5_show_17 : decode cX5_show 17 = .ok (.bipush 10, 2) := by decide +kernel
theorem dX5_show_19 : decode cX5_show 19 = .ok (.isub, 1) := by decide +kernel
theorem dX5_show_20 : decode cX5_show 20 = .ok (.invokevirtual 101, 3) := by decide +kernel
theorem dX5_show_23 : decode cX5_show 23 = .ok (.ifCond .eq 7, 3) := by decide +kernel
theorem dX5_show_26 : decode cX5_show 26 = .ok (.iconst 1, 1) := by decide +kernel
theorem dX5_show_27 : decode cX5_show 27 = .ok (.goto 4, 3) := by decide +kernel
theorem dX5_show_30 : decode cX5_show 30 = .ok (.iconst 0, 1) := by decide +kernel
theorem dX5_show_31 : decode cX5_show 31 = .ok (.istore 4, 2) := by decide +kernel
theorem dX5_show_33 : decode cX5_show 33 = .ok (.aload_n 3, 1) := by decide +kernel
theorem dX5_show_34 : decode cX5_show 34 = .ok (.ifnull 25, 3) := by decide +kernel
theorem dX5_show_37 : decode cX5_show 37 = .ok (.iload 4, 2) := by decide +kernel
theorem dX5_show_39 : decode cX5_show 39 = .ok (.ifCond .ne 12, 3) := by decide +kernel
theorem dX5_show_42 : decode cX5_show 42 = .ok (.iload_n 2, 1) := by decide +kernel
theorem dX5_show_43 : decode cX5_show 43 = .ok (.ifCond .lt 16, 3) := by decide +kernel
theorem dX5_show_46 : decode cX5_show 46 = .ok (.iload_n 2, 1) := by decide +kernel
theorem dX5_show_47 : decode cX5_show 47 = .ok (.iconst 2, 1) := by decide +kernel
theorem dX5_show_48 : decode cX5_show 48 = .ok (.if_icmp .gt 11, 3) := by decide +kernel
theorem dX5_show_51 : decode cX5_show 51 = .ok (.aload_n 0, 1) := by decide +kernel
theorem dX5_show_52 : decode cX5_show 52 = .ok (.aload_n 3, 1) := by decide +kernel
theorem dX5_show_53 : decode cX5_show 53 = .ok (.invokevirtual 133, 3) := by decide +kernel
theorem dX5_show_56 : decode cX5_show 56 = .ok (.ifCond .ne 6, 3) := by decide +kernel
theorem dX5_show_59 : decode cX5_show 59 = .ok (.ldc 137, 2) := by decide +kernel
theorem dX5_show_61 : decode cX5_show 61 = .ok (.ireturn, 1) := by decide +kernel
theorem dX5_show_62 : decode cX5_show 62 = .ok (.aload_n 0, 1) := by decide +kernel
theorem dX5_show_63 : decode cX5_show 63 = .ok (.aload_n 3, 1) := by decide +kernel
theorem dX5_show_64 : decode cX5_show 64 = .ok (.invokevirtual 138, 3) := by decide +kernel
theorem dX5_show_67 : decode cX5_show 67 = .ok (.iload_n 2, 1) := by decide +kernel
theorem dX5_show_68 : decode cX5_show 68 = .ok (.tableswitch 52 0 2 #[28, 36, 44], 28) := by decide +kernel
theorem dX5_show_96 : decode cX5_show 96 = .ok (.aload_n 0, 1) := by decide +kernel
theorem dX5_show_97 : decode cX5_show 97 = .ok (.getfield 25, 3) := by decide +kernel
theorem dX5_show_100 : decode cX5_show 100 = .ok (.getfield 142, 3) := by decide +kernel
theorem dX5_show_103 : decode cX5_show 103 = .ok (.ireturn, 1) := by decide +kernel
theorem dX5_show_104 : decode cX5_show 104 = .ok (.aload_n 0, 1) := by decide +kernel
theorem dX5_show_105 : decode cX5_show 105 = .ok (.getfield 25, 3) := by decide +kernel
theorem dX5_show_108 : decode cX5_show 108 = .ok (.getfield 145, 3) := by decide +kernel
theorem dX5_show_111 : decode cX5_show 111 = .ok (.ireturn, 1) := by decide +kernel
theorem dX5_show_112 : decode cX5_show 112 = .ok (.aload_n 0, 1) := by decide +kernel
theorem dX5_show_113 : decode cX5_show 113 = .ok (.getfield 25, 3) := by decide +kernel
theorem dX5_show_116 : decode cX5_show 116 = .ok (.getfield 148, 3) := by decide +kernel
theorem dX5_show_119 : decode cX5_show 119 = .ok (.ireturn, 1) := by decide +kernel
theorem dX5_show_120 : decode cX5_show 120 = .ok (.aload_n 0, 1) := by decide +kernel
theorem dX5_show_121 : decode cX5_show 121 = .ok (.getfield 25, 3) := by decide +kernel
theorem dX5_show_124 : decode cX5_show 124 = .ok (.getfield 151, 3) := by decide +kernel
theorem dX5_show_127 : decode cX5_show 127 = .ok (.iload_n 2, 1) := by decide +kernel
theorem dX5_show_128 : decode cX5_show 128 = .ok (.bipush 10, 2) := by decide +kernel
theorem dX5_show_130 : decode cX5_show 130 = .ok (.isub, 1) := by decide +kernel
theorem dX5_show_131 : decode cX5_show 131 = .ok (.iaload, 1) := by decide +kernel
theorem dX5_show_132 : decode cX5_show 132 = .ok (.ireturn, 1) := by decide +kernel
theorem dX5_take_0 : decode cX5_take 0 = .ok (.aload_n 0, 1) := by decide +kernel
theorem dX5_take_1 : decode cX5_take 1 = .ok (.iload_n 1, 1) := by decide +kernel
theorem dX5_take_2 : decode cX5_take 2 = .ok (.invokevirtual 129, 3) := by decide +kernel
theorem dX5_take_5 : decode cX5_take 5 = .ok (.astore_n 2, 1) := by decide +kernel
theorem dX5_take_6 : decode cX5_take 6 = .ok (.aload_n 2, 1) := by decide +kernel
theorem dX5_take_7 : decode cX5_take 7 = .ok (.ifnonnull 6, 3) := by decide +kernel
theorem dX5_take_10 : decode cX5_take 10 = .ok (.bipush (-2), 2) := by decide +kernel
theorem dX5_take_12 : decode cX5_take 12 = .ok (.ireturn, 1) := by decide +kernel
theorem dX5_take_13 : decode cX5_take 13 = .ok (.aload_n 2, 1) := by decide +kernel
theorem dX5_take_14 : decode cX5_take 14 = .ok (.getfield 155, 3) := by decide +kernel
theorem dX5_take_17 : decode cX5_take 17 = .ok (.iconst (-1), 1) := by decide +kernel
theorem dX5_take_18 : decode cX5_take 18 = .ok (.if_icmp .ne 6, 3) := by decide +kernel
theorem dX5_take_21 : decode cX5_take 21 = .ok (.bipush (-11), 2) := by decide +kernel
theorem dX5_take_23 : decode cX5_take 23 = .ok (.ireturn, 1) := by decide +kernel
theorem dX5_take_24 : decode cX5_take 24 = .ok (.aload_n 0, 1) := by decide +kernel
theorem dX5_take_25 : decode cX5_take 25 = .ok (.aload_n 2, 1) := by decide +kernel
theorem dX5_take_26 : decode cX5_take 26 = .ok (.invokevirtual 133, 3) := by decide +kernel
theorem dX5_take_29 : decode cX5_take 29 = .ok (.ifCond .ne 6, 3) := by decide +kernel
theorem dX5_take_32 : decode cX5_take 32 = .ok (.bipush (-2), 2) := by decide +kernel
theorem dX5_take_34 : decode cX5_take 34 = .ok (.ireturn, 1) := by decide +kernel
theorem dX5_take_35 : decode cX5_take 35 = .ok (.aload_n 0, 1) := by decide +kernel
theorem dX5_take_36 : decode cX5_take 36 = .ok (.aload_n 2, 1) := by decide +kernel
theorem dX5_take_37 : decode cX5_take 37 = .ok (.invokevirtual 138, 3) := by decide +kernel
theorem dX5_take_40 : decode cX5_take 40 = .ok (.aload_n 0, 1) := by decide +kernel
theorem dX5_take_41 : decode cX5_take 41 = .ok (.getfield 25, 3) := by decide +kernel
theorem dX5_take_44 : decode cX5_take 44 = .ok (.getfield 142, 3) := by decide +kernel
theorem dX5_take_47 : decode cX5_take 47 = .ok (.iconst (-1), 1) := by decide +kernel
theorem dX5_take_48 : decode cX5_take 48 = .ok (.if_icmp .eq 6, 3) := by decide +kernel
theorem dX5_take_51 : decode cX5_take 51 = .ok (.bipush (-3), 2) := by decide +kernel
theorem dX5_take_53 : decode cX5_take 53 = .ok (.ireturn, 1) := by decide +kernel
theorem dX5_take_54 : decode cX5_take 54 = .ok (.aload_n 0, 1) := by decide +kernel
theorem dX5_take_55 : decode cX5_take 55 = .ok (.getfield 25, 3) := by decide +kernel
theorem dX5_take_58 : decode cX5_take 58 = .ok (.getfield 151, 3) := by decide +kernel
theorem dX5_take_61 : decode cX5_take 61 = .ok (.iconst 0, 1) := by decide +kernel
theorem dX5_take_62 : decode cX5_take 62 = .ok (.aload_n 0, 1) := by decide +kernel
theorem dX5_take_63 : decode cX5_take 63 = .ok (.getfield 42, 3) := by decide +kernel
theorem dX5_take_66 : decode cX5_take 66 = .ok (.getfield 158, 3) := by decide +kernel
theorem dX5_take_69 : decode cX5_take 69 = .ok (.iconst 0, 1) := by decide +kernel
theorem dX5_take_70 : decode cX5_take 70 = .ok (.aload_n 0, 1) := by decide +kernel
theorem dX5_take_71 : decode cX5_take 71 = .ok (.getfield 42, 3) := by decide +kernel
theorem dX5_take_74 : decode cX5_take 74 = .ok (.getfield 161, 3) := by decide +kernel
theorem dX5_take_77 : decode cX5_take 77 = .ok (.invokestatic 164, 3) := by decide +kernel
theorem dX5_take_80 : decode cX5_take 80 = .ok (.aload_n 0, 1) := by decide +kernel
theorem dX5_take_81 : decode cX5_take 81 = .ok (.getfield 25, 3) := by decide +kernel
theorem dX5_take_84 : decode cX5_take 84 = .ok (.getfield 148, 3) := by decide +kernel
theorem dX5_take_87 : decode cX5_take 87 = .ok (.ireturn, 1) := by decide +kernel
theorem dX5_showing_0 : decode cX5_showing 0 = .ok (.iload_n 1, 1) := by decide +kernel
theorem dX5_showing_1 : decode cX5_showing 1 = .ok (.ifCond .lt 17, 3) := by decide +kernel
theorem dX5_showing_4 : decode cX5_showing 4 = .ok (.iload_n 1, 1) := by decide +kernel
theorem dX5_showing_5 : decode cX5_showing 5 = .ok (.iconst 2, 1) := by decide +kernel
theorem dX5_showing_6 : decode cX5_showing 6 = .ok (.if_icmp .gt 12, 3) := by decide +kernel
theorem dX5_showing_9 : decode cX5_showing 9 = .ok (.iload_n 2, 1) := by decide +kernel
theorem dX5_showing_10 : decode cX5_showing 10 = .ok (.ifCond .lt 8, 3) := by decide +kernel
theorem dX5_showing_13 : decode cX5_showing 13 = .ok (.iload_n 2, 1) := by decide +kernel
theorem dX5_showing_14 : decode cX5_showing 14 = .ok (.iconst 2, 1) := by decide +kernel
theorem dX5_showing_15 : decode cX5_showing 15 = .ok (.if_icmp .le 6, 3) := by decide +kernel
theorem dX5_showing_18 : decode cX5_showing 18 = .ok (.ldc 137, 2) := by decide +kernel
theorem dX5_showing_20 : decode cX5_showing 20 = .ok (.ireturn, 1) := by decide +kernel
theorem dX5_showing_21 : decode cX5_showing 21 = .ok (.aload_n 0, 1) := by decide +kernel
theorem dX5_showing_22 : decode cX5_showing 22 = .ok (.getfield 25, 3) := by decide +kernel
theorem dX5_showing_25 : decode cX5_showing 25 = .ok (.aload_n 0, 1) := by decide +kernel
theorem dX5_showing_26 : decode cX5_showing 26 = .ok (.getfield 42, 3) := by decide +kernel
theorem dX5_showing_29 : decode cX5_showing 29 = .ok (.invokevirtual 170, 3) := by decide +kernel
theorem dX5_showing_32 : decode cX5_showing 32 = .ok (.iload_n 1, 1) := by decide +kernel
theorem dX5_showing_33 : decode cX5_showing 33 = .ok (.iconst 2, 1) := by decide +kernel
theorem dX5_showing_34 : decode cX5_showing 34 = .ok (.if_icmp .ne 17, 3) := by decide +kernel
theorem dX5_showing_37 : decode cX5_showing 37 = .ok (.aload_n 0, 1) := by decide +kernel
theorem dX5_showing_38 : decode cX5_showing 38 = .ok (.getfield 25, 3) := by decide +kernel
theorem dX5_showing_41 : decode cX5_showing 41 = .ok (.aload_n 0, 1) := by decide +kernel
theorem dX5_showing_42 : decode cX5_showing 42 = .ok (.getfield 42, 3) := by decide +kernel
theorem dX5_showing_45 : decode cX5_showing 45 = .ok (.invokevirtual 174, 3) := by decide +kernel
theorem dX5_showing_48 : decode cX5_showing 48 = .ok (.goto 34, 3) := by decide +kernel
theorem dX5_showing_51 : decode cX5_showing 51 = .ok (.aload_n 0, 1) := by decide +kernel
theorem dX5_showing_52 : decode cX5_showing 52 = .ok (.getfield 25, 3) := by decide +kernel
theorem dX5_showing_55 : decode cX5_showing 55 = .ok (.iload_n 1, 1) := by decide +kernel
theorem dX5_showing_56 : decode cX5_showing 56 = .ok (.ifCond .ne 13, 3) := by decide +kernel
theorem dX5_showing_59 : decode cX5_showing 59 = .ok (.aload_n 0, 1) := by decide +kernel
theorem dX5_showing_60 : decode cX5_showing 60 = .ok (.getfield 25, 3) := by decide +kernel
theorem dX5_showing_63 : decode cX5_showing 63 = .ok (.getfield 177, 3) := by decide +kernel
theorem dX5_showing_66 : decode cX5_showing 66 = .ok (.goto 10, 3) := by decide +kernel
theorem dX5_showing_69 : decode cX5_showing 69 = .ok (.aload_n 0, 1) := by decide +kernel
theorem dX5_showing_70 : decode cX5_showing 70 = .ok (.getfield 25, 3) := by decide +kernel
theorem dX5_showing_73 : decode cX5_showing 73 = .ok (.getfield 181, 3) := by decide +kernel
theorem dX5_showing_76 : decode cX5_showing 76 = .ok (.bipush 63, 2) := by decide +kernel
theorem dX5_showing_78 : decode cX5_showing 78 = .ok (.invokevirtual 184, 3) := by decide +kernel
theorem dX5_showing_81 : decode cX5_showing 81 = .ok (.pop, 1) := by decide +kernel
theorem dX5_showing_82 : decode cX5_showing 82 = .ok (.iload_n 2, 1) := by decide +kernel
theorem dX5_showing_83 : decode cX5_showing 83 = .ok (.ifCond .ne 11, 3) := by decide +kernel
theorem dX5_showing_86 : decode cX5_showing 86 = .ok (.aload_n 0, 1) := by decide +kernel
theorem dX5_showing_87 : decode cX5_showing 87 = .ok (.getfield 25, 3) := by decide +kernel
theorem dX5_showing_90 : decode cX5_showing 90 = .ok (.invokevirtual 188, 3) := by decide +kernel
theorem dX5_showing_93 : decode cX5_showing 93 = .ok (.ireturn, 1) := by decide +kernel
theorem dX5_showing_94 : decode cX5_showing 94 = .ok (.aload_n 0, 1) := by decide +kernel
theorem dX5_showing_95 : decode cX5_showing 95 = .ok (.getfield 25, 3) := by decide +kernel
theorem dX5_showing_98 : decode cX5_showing 98 = .ok (.invokevirtual 191, 3) := by decide +kernel
theorem dX5_showing_101 : decode cX5_showing 101 = .ok (.iload_n 2, 1) := by decide +kernel
theorem dX5_showing_102 : decode cX5_showing 102 = .ok (.iconst 1, 1) := by decide +kernel
theorem dX5_showing_103 : decode cX5_showing 103 = .ok (.if_icmp .ne 13, 3) := by decide +kernel
theorem dX5_showing_106 : decode cX5_showing 106 = .ok (.aload_n 0, 1) := by decide +kernel
theorem dX5_showing_107 : decode cX5_showing 107 = .ok (.getfield 25, 3) := by decide +kernel
theorem dX5_showing_110 : decode cX5_showing 110 = .ok (.getfield 145, 3) := by decide +kernel
theorem dX5_showing_113 : decode cX5_showing 113 = .ok (.goto 10, 3) := by decide +kernel
theorem dX5_showing_116 : decode cX5_showing 116 = .ok (.aload_n 0, 1) := by decide +kernel
theorem dX5_showing_117 : decode cX5_showing 117 = .ok (.getfield 25, 3) := by decide +kernel
theorem dX5_showing_120 : decode cX5_showing 120 = .ok (.getfield 148, 3) := by decide +kernel
theorem dX5_showing_123 : decode cX5_showing 123 = .ok (.ireturn, 1) := by decide +kernel
theorem dX5_few_0 : decode cX5_few 0 = .ok (.iload_n 1, 1) := by decide +kernel
theorem dX5_few_1 : decode cX5_few 1 = .ok (.ifCond .eq 11, 3) := by decide +kernel
theorem dX5_few_4 : decode cX5_few 4 = .ok (.iload_n 1, 1) := by decide +kernel
theorem dX5_few_5 : decode cX5_few 5 = .ok (.iconst 1, 1) := by decide +kernel
theorem dX5_few_6 : decode cX5_few 6 = .ok (.if_icmp .eq 6, 3) := by decide +kernel
theorem dX5_few_9 : decode cX5_few 9 = .ok (.bipush (-2), 2) := by decide +kernel
theorem dX5_few_11 : decode cX5_few 11 = .ok (.ireturn, 1) := by decide +kernel
theorem dX5_few_12 : decode cX5_few 12 = .ok (.aload_n 0, 1) := by decide +kernel
theorem dX5_few_13 : decode cX5_few 13 = .ok (.aload_n 0, 1) := by decide +kernel
theorem dX5_few_14 : decode cX5_few 14 = .ok (.getfield 42, 3) := by decide +kernel
theorem dX5_few_17 : decode cX5_few 17 = .ok (.invokevirtual 194, 3) := by decide +kernel
theorem dX5_few_20 : decode cX5_few 20 = .ok (.pop, 1) := by decide +kernel
theorem dX5_few_21 : decode cX5_few 21 = .ok (.aload_n 0, 1) := by decide +kernel
theorem dX5_few_22 : decode cX5_few 22 = .ok (.getfield 25, 3) := by decide +kernel
theorem dX5_few_25 : decode cX5_few 25 = .ok (.invokevirtual 198, 3) := by decide +kernel
theorem dX5_few_28 : decode cX5_few 28 = .ok (.istore_n 2, 1) := by decide +kernel
theorem dX5_few_29 : decode cX5_few 29 = .ok (.iload_n 1, 1) := by decide +kernel
theorem dX5_few_30 : decode cX5_few 30 = .ok (.ifCond .ne 7, 3) := by decide +kernel
theorem dX5_few_33 : decode cX5_few 33 = .ok (.iload_n 2, 1) := by decide +kernel
theorem dX5_few_34 : decode cX5_few 34 = .ok (.goto 7, 3) := by decide +kernel
theorem dX5_few_37 : decode cX5_few 37 = .ok (.iload_n 2, 1) := by decide +kernel
theorem dX5_few_38 : decode cX5_few 38 = .ok (.invokestatic 201, 3) := by decide +kernel
theorem dX5_few_41 : decode cX5_few 41 = .ok (.ireturn, 1) := by decide +kernel
theorem dX5_missed_0 : decode cX5_missed 0 = .ok (.iload_n 1, 1) := by decide +kernel
theorem dX5_missed_1 : decode cX5_missed 1 = .ok (.ifCond .eq 11, 3) := by decide +kernel
theorem dX5_missed_4 : decode cX5_missed 4 = .ok (.iload_n 1, 1) := by decide +kernel
theorem dX5_missed_5 : decode cX5_missed 5 = .ok (.iconst 1, 1) := by decide +kernel
theorem dX5_missed_6 : decode cX5_missed 6 = .ok (.if_icmp .eq 6, 3) := by decide +kernel
theorem dX5_missed_9 : decode cX5_missed 9 = .ok (.ldc 137, 2) := by decide +kernel
theorem dX5_missed_11 : decode cX5_missed 11 = .ok (.ireturn, 1) := by decide +kernel
theorem dX5_missed_12 : decode cX5_missed 12 = .ok (.aload_n 0, 1) := by decide +kernel
theorem dX5_missed_13 : decode cX5_missed 13 = .ok (.aload_n 0, 1) := by decide +kernel
theorem dX5_missed_14 : decode cX5_missed 14 = .ok (.getfield 42, 3) := by decide +kernel
theorem dX5_missed_17 : decode cX5_missed 17 = .ok (.invokevirtual 194, 3) := by decide +kernel
theorem dX5_missed_20 : decode cX5_missed 20 = .ok (.istore_n 2, 1) := by decide +kernel
theorem dX5_missed_21 : decode cX5_missed 21 = .ok (.iconst (-1), 1) := by decide +kernel
theorem dX5_missed_22 : decode cX5_missed 22 = .ok (.istore_n 3, 1) := by decide +kernel
theorem dX5_missed_23 : decode cX5_missed 23 = .ok (.iconst 0, 1) := by decide +kernel
theorem dX5_missed_24 : decode cX5_missed 24 = .ok (.istore 4, 2) := by decide +kernel
theorem dX5_missed_26 : decode cX5_missed 26 = .ok (.iload 4, 2) := by decide +kernel
theorem dX5_missed_28 : decode cX5_missed 28 = .ok (.aload_n 0, 1) := by decide +kernel
theorem dX5_missed_29 : decode cX5_missed 29 = .ok (.getfield 42, 3) := by decide +kernel
theorem dX5_missed_32 : decode cX5_missed 32 = .ok (.getfield 161, 3) := by decide +kernel
theorem dX5_missed_35 : decode cX5_missed 35 = .ok (.if_icmp .ge 51, 3) := by decide +kernel
theorem dX5_missed_38 : decode cX5_missed 38 = .ok (.aload_n 0, 1) := by decide +kernel
theorem dX5_missed_39 : decode cX5_missed 39 = .ok (.getfield 25, 3) := by decide +kernel
theorem dX5_missed_42 : decode cX5_missed 42 = .ok (.aload_n 0, 1) := by decide +kernel
theorem dX5_missed_43 : decode cX5_missed 43 = .ok (.getfield 25, 3) := by decide +kernel
theorem dX5_missed_46 : decode cX5_missed 46 = .ok (.getfield 177, 3) := by decide +kernel
theorem dX5_missed_49 : decode cX5_missed 49 = .ok (.bipush 63, 2) := by decide +kernel
theorem dX5_missed_51 : decode cX5_missed 51 = .ok (.iconst 1, 1) := by decide +kernel
theorem dX5_missed_52 : decode cX5_missed 52 = .ok (.iload 4, 2) := by decide +kernel
theorem dX5_missed_54 : decode cX5_missed 54 = .ok (.ishl, 1) := by decide +kernel
theorem dX5_missed_55 : decode cX5_missed 55 = .ok (.iconst (-1), 1) := by decide +kernel
theorem dX5_missed_56 : decode cX5_missed 56 = .ok (.ixor, 1) := by decide +kernel
theorem dX5_missed_57 : decode cX5_missed 57 = .ok (.iand, 1) := by decide +kernel
theorem dX5_missed_58 : decode cX5_missed 58 = .ok (.invokevirtual 184, 3) := by decide +kernel
theorem dX5_missed_61 : decode cX5_missed 61 = .ok (.istore 5, 2) := by decide +kernel
theorem dX5_missed_63 : decode cX5_missed 63 = .ok (.iload_n 3, 1) := by decide +kernel
theorem dX5_missed_64 : decode cX5_missed 64 = .ok (.iconst (-1), 1) := by decide +kernel
theorem dX5_missed_65 : decode cX5_missed 65 = .ok (.if_icmp .eq 9, 3) := by decide +kernel
theorem dX5_missed_68 : decode cX5_missed 68 = .ok (.iload 5, 2) := by decide +kernel
theorem dX5_missed_70 : decode cX5_missed 70 = .ok (.iload_n 2, 1) := by decide +kernel
theorem dX5_missed_71 : decode cX5_missed 71 = .ok (.if_icmp .ge 9, 3) := by decide +kernel
theorem dX5_missed_74 : decode cX5_missed 74 = .ok (.iload 5, 2) := by decide +kernel
theorem dX5_missed_76 : decode cX5_missed 76 = .ok (.istore_n 2, 1) := by decide +kernel
theorem dX5_missed_77 : decode cX5_missed 77 = .ok (.iload 4, 2) := by decide +kernel
theorem dX5_missed_79 : decode cX5_missed 79 = .ok (.istore_n 3, 1) := by decide +kernel
theorem dX5_missed_80 : decode cX5_missed 80 = .ok (.iinc 4 1, 3) := by decide +kernel
theorem dX5_missed_83 : decode cX5_missed 83 = .ok (.goto (-57), 3) := by decide +kernel
theorem dX5_missed_86 : decode cX5_missed 86 = .ok (.iload_n 1, 1) := by decide +kernel
theorem dX5_missed_87 : decode cX5_missed 87 = .ok (.ifCond .ne 7, 3) := by decide +kernel
theorem dX5_missed_90 : decode cX5_missed 90 = .ok (.iload_n 3, 1) := by decide +kernel
theorem dX5_missed_91 : decode cX5_missed 91 = .ok (.goto 4, 3) := by decide +kernel
theorem dX5_missed_94 : decode cX5_missed 94 = .ok (.iload_n 2, 1) := by decide +kernel
theorem dX5_missed_95 : decode cX5_missed 95 = .ok (.ireturn, 1) := by decide +kernel
theorem dX5_change_0 : decode cX5_change 0 = .ok (.iload_n 1, 1) := by decide +kernel
theorem dX5_change_1 : decode cX5_change 1 = .ok (.ifCond .eq 11, 3) := by decide +kernel
theorem dX5_change_4 : decode cX5_change 4 = .ok (.iload_n 1, 1) := by decide +kernel
theorem dX5_change_5 : decode cX5_change 5 = .ok (.iconst 1, 1) := by decide +kernel
theorem dX5_change_6 : decode cX5_change 6 = .ok (.if_icmp .eq 6, 3) := by decide +kernel
theorem dX5_change_9 : decode cX5_change 9 = .ok (.ldc 137, 2) := by decide +kernel
theorem dX5_change_11 : decode cX5_change 11 = .ok (.ireturn, 1) := by decide +kernel
theorem dX5_change_12 : decode cX5_change 12 = .ok (.aload_n 0, 1) := by decide +kernel
theorem dX5_change_13 : decode cX5_change 13 = .ok (.aload_n 0, 1) := by decide +kernel
theorem dX5_change_14 : decode cX5_change 14 = .ok (.getfield 42, 3) := by decide +kernel
theorem dX5_change_17 : decode cX5_change 17 = .ok (.invokevirtual 194, 3) := by decide +kernel
theorem dX5_change_20 : decode cX5_change 20 = .ok (.istore_n 2, 1) := by decide +kernel
theorem dX5_change_21 : decode cX5_change 21 = .ok (.iconst (-1), 1) := by decide +kernel
theorem dX5_change_22 : decode cX5_change 22 = .ok (.istore_n 3, 1) := by decide +kernel
theorem dX5_change_23 : decode cX5_change 23 = .ok (.iconst 0, 1) := by decide +kernel
theorem dX5_change_24 : decode cX5_change 24 = .ok (.istore 4, 2) := by decide +kernel
theorem dX5_change_26 : decode cX5_change 26 = .ok (.iload 4, 2) := by decide +kernel
theorem dX5_change_28 : decode cX5_change 28 = .ok (.aload_n 0, 1) := by decide +kernel
theorem dX5_change_29 : decode cX5_change 29 = .ok (.getfield 42, 3) := by decide +kernel
theorem dX5_change_32 : decode cX5_change 32 = .ok (.getfield 206, 3) := by decide +kernel
theorem dX5_change_35 : decode cX5_change 35 = .ok (.if_icmp .ge 112, 3) := by decide +kernel
theorem dX5_change_38 : decode cX5_change 38 = .ok (.iload 4, 2) := by decide +kernel
theorem dX5_change_40 : decode cX5_change 40 = .ok (.iconst 1, 1) := by decide +kernel
theorem dX5_change_41 : decode cX5_change 41 = .ok (.iadd, 1) := by decide +kernel
theorem dX5_change_42 : decode cX5_change 42 = .ok (.istore 5, 2) := by decide +kernel
theorem dX5_change_44 : decode cX5_change 44 = .ok (.iload 5, 2) := by decide +kernel
theorem dX5_change_46 : decode cX5_change 46 = .ok (.aload_n 0, 1) := by decide +kernel
theorem dX5_change_47 : decode cX5_change 47 = .ok (.getfield 42, 3) := by decide +kernel
theorem dX5_change_50 : decode cX5_change 50 = .ok (.getfield 206, 3) := by decide +kernel
theorem dX5_change_53 : decode cX5_change 53 = .ok (.if_icmp .ge 88, 3) := by decide +kernel
theorem dX5_change_56 : decode cX5_change 56 = .ok (.aload_n 0, 1) := by decide +kernel
theorem dX5_change_57 : decode cX5_change 57 = .ok (.getfield 46, 3) := by decide +kernel
theorem dX5_change_60 : decode cX5_change 60 = .ok (.aload_n 0, 1) := by decide +kernel
theorem dX5_change_61 : decode cX5_change 61 = .ok (.getfield 42, 3) := by decide +kernel
theorem dX5_change_64 : decode cX5_change 64 = .ok (.invokevirtual 209, 3) := by decide +kernel
theorem dX5_change_67 : decode cX5_change 67 = .ok (.aload_n 0, 1) := by decide +kernel
theorem dX5_change_68 : decode cX5_change 68 = .ok (.getfield 46, 3) := by decide +kernel
theorem dX5_change_71 : decode cX5_change 71 = .ok (.getfield 212, 3) := by decide +kernel
theorem dX5_change_74 : decode cX5_change 74 = .ok (.iload 4, 2) := by decide +kernel
theorem dX5_change_76 : decode cX5_change 76 = .ok (.aload_n 0, 1) := by decide +kernel
theorem dX5_change_77 : decode cX5_change 77 = .ok (.getfield 42, 3) := by decide +kernel
theorem dX5_change_80 : decode cX5_change 80 = .ok (.getfield 212, 3) := by decide +kernel
theorem dX5_change_83 : decode cX5_change 83 = .ok (.iload 5, 2) := by decide +kernel
theorem dX5_change_85 : decode cX5_change 85 = .ok (.iaload, 1) := by decide +kernel
theorem dX5_change_86 : decode cX5_change 86 = .ok (.iastore, 1) := by decide +kernel
theorem dX5_change_87 : decode cX5_change 87 = .ok (.aload_n 0, 1) := by decide +kernel
theorem dX5_change_88 : decode cX5_change 88 = .ok (.getfield 46, 3) := by decide +kernel
theorem dX5_change_91 : decode cX5_change 91 = .ok (.getfield 212, 3) := by decide +kernel
theorem dX5_change_94 : decode cX5_change 94 = .ok (.iload 5, 2) := by decide +kernel
theorem dX5_change_96 : decode cX5_change 96 = .ok (.aload_n 0, 1) := by decide +kernel
theorem dX5_change_97 : decode cX5_change 97 = .ok (.getfield 42, 3) := by decide +kernel
theorem dX5_change_100 : decode cX5_change 100 = .ok (.getfield 212, 3) := by decide +kernel
theorem dX5_change_103 : decode cX5_change 103 = .ok (.iload 4, 2) := by decide +kernel
theorem dX5_change_105 : decode cX5_change 105 = .ok (.iaload, 1) := by decide +kernel
theorem dX5_change_106 : decode cX5_change 106 = .ok (.iastore, 1) := by decide +kernel
theorem dX5_change_107 : decode cX5_change 107 = .ok (.aload_n 0, 1) := by decide +kernel
theorem dX5_change_108 : decode cX5_change 108 = .ok (.aload_n 0, 1) := by decide +kernel
theorem dX5_change_109 : decode cX5_change 109 = .ok (.getfield 46, 3) := by decide +kernel
theorem dX5_change_112 : decode cX5_change 112 = .ok (.invokevirtual 194, 3) := by decide +kernel
theorem dX5_change_115 : decode cX5_change 115 = .ok (.istore 6, 2) := by decide +kernel
theorem dX5_change_117 : decode cX5_change 117 = .ok (.iload 6, 2) := by decide +kernel
theorem dX5_change_119 : decode cX5_change 119 = .ok (.iload_n 2, 1) := by decide +kernel
theorem dX5_change_120 : decode cX5_change 120 = .ok (.if_icmp .le 15, 3) := by decide +kernel
theorem dX5_change_123 : decode cX5_change 123 = .ok (.iload 6, 2) := by decide +kernel
theorem dX5_change_125 : decode cX5_change 125 = .ok (.istore_n 2, 1) := by decide +kernel
theorem dX5_change_126 : decode cX5_change 126 = .ok (.bipush 10, 2) := by decide +kernel
theorem dX5_change_128 : decode cX5_change 128 = .ok (.iload 4, 2) := by decide +kernel
theorem dX5_change_130 : decode cX5_change 130 = .ok (.imul, 1) := by decide +kernel
theorem dX5_change_131 : decode cX5_change 131 = .ok (.iload 5, 2) := by decide +kernel
theorem dX5_change_133 : decode cX5_change 133 = .ok (.iadd, 1) := by decide +kernel
theorem dX5_change_134 : decode cX5_change 134 = .ok (.istore_n 3, 1) := by decide +kernel
theorem dX5_change_135 : decode cX5_change 135 = .ok (.iinc 5 1, 3) := by decide +kernel
theorem dX5_change_138 : decode cX5_change 138 = .ok (.goto (-94), 3) := by decide +kernel
theorem dX5_change_141 : decode cX5_change 141 = .ok (.iinc 4 1, 3) := by decide +kernel
theorem dX5_change_144 : decode cX5_change 144 = .ok (.goto (-118), 3) := by decide +kernel
theorem dX5_change_147 : decode cX5_change 147 = .ok (.iload_n 1, 1) := by decide +kernel
theorem dX5_change_148 : decode cX5_change 148 = .ok (.ifCond .ne 7, 3) := by decide +kernel
theorem dX5_change_151 : decode cX5_change 151 = .ok (.iload_n 3, 1) := by decide +kernel
theorem dX5_change_152 : decode cX5_change 152 = .ok (.goto 4, 3) := by decide +kernel
theorem dX5_change_155 : decode cX5_change 155 = .ok (.iload_n 2, 1) := by decide +kernel
theorem dX5_change_156 : decode cX5_change 156 = .ok (.ireturn, 1) := by decide +kernel
theorem dX5_raise_0 : decode cX5_raise 0 = .ok (.iload_n 1, 1) := by decide +kernel
theorem dX5_raise_1 : decode cX5_raise 1 = .ok (.ifCond .lt 19, 3) := by decide +kernel
theorem dX5_raise_4 : decode cX5_raise 4 = .ok (.iload_n 1, 1) := by decide +kernel
theorem dX5_raise_5 : decode cX5_raise 5 = .ok (.sipush 1000, 3) := by decide +kernel
theorem dX5_raise_8 : decode cX5_raise 8 = .ok (.if_icmp .ge 12, 3) := by decide +kernel
theorem dX5_raise_11 : decode cX5_raise 11 = .ok (.iload_n 2, 1) := by decide +kernel
theorem dX5_raise_12 : decode cX5_raise 12 = .ok (.ifCond .eq 11, 3) := by decide +kernel
theorem dX5_raise_15 : decode cX5_raise 15 = .ok (.iload_n 2, 1) := by decide +kernel
theorem dX5_raise_16 : decode cX5_raise 16 = .ok (.iconst 1, 1) := by decide +kernel
theorem dX5_raise_17 : decode cX5_raise 17 = .ok (.if_icmp .eq 6, 3) := by decide +kernel
theorem dX5_raise_20 : decode cX5_raise 20 = .ok (.ldc 137, 2) := by decide +kernel
theorem dX5_raise_22 : decode cX5_raise 22 = .ok (.ireturn, 1) := by decide +kernel
theorem dX5_raise_23 : decode cX5_raise 23 = .ok (.aload_n 0, 1) := by decide +kernel
theorem dX5_raise_24 : decode cX5_raise 24 = .ok (.aload_n 0, 1) := by decide +kernel
theorem dX5_raise_25 : decode cX5_raise 25 = .ok (.getfield 42, 3) := by decide +kernel
theorem dX5_raise_28 : decode cX5_raise 28 = .ok (.invokevirtual 194, 3) := by decide +kernel
theorem dX5_raise_31 : decode cX5_raise 31 = .ok (.istore_n 3, 1) := by decide +kernel
theorem dX5_raise_32 : decode cX5_raise 32 = .ok (.iconst (-1), 1) := by decide +kernel
theorem dX5_raise_33 : decode cX5_raise 33 = .ok (.istore 4, 2) := by decide +kernel
theorem dX5_raise_35 : decode cX5_raise 35 = .ok (.iconst 0, 1) := by decide +kernel
theorem dX5_raise_36 : decode cX5_raise 36 = .ok (.istore 5, 2) := by decide +kernel
theorem dX5_raise_38 : decode cX5_raise 38 = .ok (.iload 5, 2) := by decide +kernel
theorem dX5_raise_40 : decode cX5_raise 40 = .ok (.aload_n 0, 1) := by decide +kernel
theorem dX5_raise_41 : decode cX5_raise 41 = .ok (.getfield 42, 3) := by decide +kernel
theorem dX5_raise_44 : decode cX5_raise 44 = .ok (.getfield 161, 3) := by decide +kernel
theorem dX5_raise_47 : decode cX5_raise 47 = .ok (.if_icmp .ge 71, 3) := by decide +kernel
theorem dX5_raise_50 : decode cX5_raise 50 = .ok (.aload_n 0, 1) := by decide +kernel
theorem dX5_raise_51 : decode cX5_raise 51 = .ok (.getfield 46, 3) := by decide +kernel
theorem dX5_raise_54 : decode cX5_raise 54 = .ok (.aload_n 0, 1) := by decide +kernel
theorem dX5_raise_55 : decode cX5_raise 55 = .ok (.getfield 42, 3) := by decide +kernel
theorem dX5_raise_58 : decode cX5_raise 58 = .ok (.invokevirtual 209, 3) := by decide +kernel
theorem dX5_raise_61 : decode cX5_raise 61 = .ok (.aload_n 0, 1) := by decide +kernel
theorem dX5_raise_62 : decode cX5_raise 62 = .ok (.getfield 46, 3) := by decide +kernel
theorem dX5_raise_65 : decode cX5_raise 65 = .ok (.getfield 158, 3) := by decide +kernel
theorem dX5_raise_68 : decode cX5_raise 68 = .ok (.iload 5, 2) := by decide +kernel
theorem dX5_raise_70 : decode cX5_raise 70 = .ok (.aload_n 0, 1) := by decide +kernel
theorem dX5_raise_71 : decode cX5_raise 71 = .ok (.getfield 42, 3) := by decide +kernel
theorem dX5_raise_74 : decode cX5_raise 74 = .ok (.getfield 158, 3) := by decide +kernel
theorem dX5_raise_77 : decode cX5_raise 77 = .ok (.iload 5, 2) := by decide +kernel
theorem dX5_raise_79 : decode cX5_raise 79 = .ok (.iaload, 1) := by decide +kernel
theorem dX5_raise_80 : decode cX5_raise 80 = .ok (.iload_n 1, 1) := by decide +kernel
theorem dX5_raise_81 : decode cX5_raise 81 = .ok (.iadd, 1) := by decide +kernel
theorem dX5_raise_82 : decode cX5_raise 82 = .ok (.sipush 999, 3) := by decide +kernel
theorem dX5_raise_85 : decode cX5_raise 85 = .ok (.invokestatic 215, 3) := by decide +kernel
theorem dX5_raise_88 : decode cX5_raise 88 = .ok (.iastore, 1) := by decide +kernel
theorem dX5_raise_89 : decode cX5_raise 89 = .ok (.aload_n 0, 1) := by decide +kernel
theorem dX5_raise_90 : decode cX5_raise 90 = .ok (.aload_n 0, 1) := by decide +kernel
theorem dX5_raise_91 : decode cX5_raise 91 = .ok (.getfield 46, 3) := by decide +kernel
theorem dX5_raise_94 : decode cX5_raise 94 = .ok (.invokevirtual 194, 3) := by decide +kernel
theorem dX5_raise_97 : decode cX5_raise 97 = .ok (.istore 6, 2) := by decide +kernel
theorem dX5_raise_99 : decode cX5_raise 99 = .ok (.iload 6, 2) := by decide +kernel
theorem dX5_raise_101 : decode cX5_raise 101 = .ok (.iload_n 3, 1) := by decide +kernel
theorem dX5_raise_102 : decode cX5_raise 102 = .ok (.if_icmp .le 10, 3) := by decide +kernel
theorem dX5_raise_105 : decode cX5_raise 105 = .ok (.iload 6, 2) := by decide +kernel
theorem dX5_raise_107 : decode cX5_raise 107 = .ok (.istore_n 3, 1) := by decide +kernel
theorem dX5_raise_108 : decode cX5_raise 108 = .ok (.iload 5, 2) := by decide +kernel
theorem dX5_raise_110 : decode cX5_raise 110 = .ok (.istore 4, 2) := by decide +kernel
theorem dX5_raise_112 : decode cX5_raise 112 = .ok (.iinc 5 1, 3) := by decide +kernel
theorem dX5_raise_115 : decode cX5_raise 115 = .ok (.goto (-77), 3) := by decide +kernel
theorem dX5_raise_118 : decode cX5_raise 118 = .ok (.iload_n 2, 1) := by decide +kernel
theorem dX5_raise_119 : decode cX5_raise 119 = .ok (.ifCond .ne 8, 3) := by decide +kernel
theorem dX5_raise_122 : decode cX5_raise 122 = .ok (.iload 4, 2) := by decide +kernel
theorem dX5_raise_124 : decode cX5_raise 124 = .ok (.goto 4, 3) := by decide +kernel
theorem dX5_raise_127 : decode cX5_raise 127 = .ok (.iload_n 3, 1) := by decide +kernel
theorem dX5_raise_128 : decode cX5_raise 128 = .ok (.ireturn, 1) := by decide +kernel
theorem dX5_dear_0 : decode cX5_dear 0 = .ok (.iload_n 1, 1) := by decide +kernel
theorem dX5_dear_1 : decode cX5_dear 1 = .ok (.ifCond .eq 11, 3) := by decide +kernel
theorem dX5_dear_4 : decode cX5_dear 4 = .ok (.iload_n 1, 1) := by decide +kernel
theorem dX5_dear_5 : decode cX5_dear 5 = .ok (.iconst 1, 1) := by decide +kernel
theorem dX5_dear_6 : decode cX5_dear 6 = .ok (.if_icmp .eq 6, 3) := by decide +kernel
theorem dX5_dear_9 : decode cX5_dear 9 = .ok (.ldc 137, 2) := by decide +kernel
theorem dX5_dear_11 : decode cX5_dear 11 = .ok (.ireturn, 1) := by decide +kernel
theorem dX5_dear_12 : decode cX5_dear 12 = .ok (.iconst (-1), 1) := by decide +kernel
theorem dX5_dear_13 : decode cX5_dear 13 = .ok (.istore_n 2, 1) := by decide +kernel
theorem dX5_dear_14 : decode cX5_dear 14 = .ok (.iconst 1, 1) := by decide +kernel
theorem dX5_dear_15 : decode cX5_dear 15 = .ok (.istore_n 3, 1) := by decide +kernel
theorem dX5_dear_16 : decode cX5_dear 16 = .ok (.iconst 1, 1) := by decide +kernel
theorem dX5_dear_17 : decode cX5_dear 17 = .ok (.istore 4, 2) := by decide +kernel
theorem dX5_dear_19 : decode cX5_dear 19 = .ok (.iload 4, 2) := by decide +kernel
theorem dX5_dear_21 : decode cX5_dear 21 = .ok (.bipush 10, 2) := by decide +kernel
theorem dX5_dear_23 : decode cX5_dear 23 = .ok (.if_icmp .ge 70, 3) := by decide +kernel
theorem dX5_dear_26 : decode cX5_dear 26 = .ok (.aload_n 0, 1) := by decide +kernel
theorem dX5_dear_27 : decode cX5_dear 27 = .ok (.getfield 46, 3) := by decide +kernel
theorem dX5_dear_30 : decode cX5_dear 30 = .ok (.aload_n 0, 1) := by decide +kernel
theorem dX5_dear_31 : decode cX5_dear 31 = .ok (.getfield 42, 3) := by decide +kernel
theorem dX5_dear_34 : decode cX5_dear 34 = .ok (.invokevirtual 209, 3) := by decide +kernel
theorem dX5_dear_37 : decode cX5_dear 37 = .ok (.aload_n 0, 1) := by decide +kernel
theorem dX5_dear_38 : decode cX5_dear 38 = .ok (.getfield 46, 3) := by decide +kernel
theorem dX5_dear_41 : decode cX5_dear 41 = .ok (.iload 4, 2) := by decide +kernel
theorem dX5_dear_43 : decode cX5_dear 43 = .ok (.putfield 220, 3) := by decide +kernel
theorem dX5_dear_46 : decode cX5_dear 46 = .ok (.aload_n 0, 1) := by decide +kernel
theorem dX5_dear_47 : decode cX5_dear 47 = .ok (.getfield 25, 3) := by decide +kernel
theorem dX5_dear_50 : decode cX5_dear 50 = .ok (.aload_n 0, 1) := by decide +kernel
theorem dX5_dear_51 : decode cX5_dear 51 = .ok (.getfield 46, 3) := by decide +kernel
theorem dX5_dear_54 : decode cX5_dear 54 = .ok (.invokevirtual 170, 3) := by decide +kernel
theorem dX5_dear_57 : decode cX5_dear 57 = .ok (.aload_n 0, 1) := by decide +kernel
theorem dX5_dear_58 : decode cX5_dear 58 = .ok (.getfield 25, 3) := by decide +kernel
theorem dX5_dear_61 : decode cX5_dear 61 = .ok (.aload_n 0, 1) := by decide +kernel
theorem dX5_dear_62 : decode cX5_dear 62 = .ok (.getfield 25, 3) := by decide +kernel
theorem dX5_dear_65 : decode cX5_dear 65 = .ok (.getfield 181, 3) := by decide +kernel
theorem dX5_dear_68 : decode cX5_dear 68 = .ok (.bipush 63, 2) := by decide +kernel
theorem dX5_dear_70 : decode cX5_dear 70 = .ok (.invokevirtual 184, 3) := by decide +kernel
theorem dX5_dear_73 : decode cX5_dear 73 = .ok (.istore 5, 2) := by decide +kernel
theorem dX5_dear_75 : decode cX5_dear 75 = .ok (.iload 5, 2) := by decide +kernel
theorem dX5_dear_77 : decode cX5_dear 77 = .ok (.iload_n 2, 1) := by decide +kernel
theorem dX5_dear_78 : decode cX5_dear 78 = .ok (.if_icmp .le 9, 3) := by decide +kernel
theorem dX5_dear_81 : decode cX5_dear 81 = .ok (.iload 5, 2) := by decide +kernel
theorem dX5_dear_83 : decode cX5_dear 83 = .ok (.istore_n 2, 1) := by decide +kernel
theorem dX5_dear_84 : decode cX5_dear 84 = .ok (.iload 4, 2) := by decide +kernel
theorem dX5_dear_86 : decode cX5_dear 86 = .ok (.istore_n 3, 1) := by decide +kernel
theorem dX5_dear_87 : decode cX5_dear 87 = .ok (.iinc 4 1, 3) := by decide +kernel
theorem dX5_dear_90 : decode cX5_dear 90 = .ok (.goto (-71), 3) := by decide +kernel
theorem dX5_dear_93 : decode cX5_dear 93 = .ok (.iload_n 1, 1) := by decide +kernel
theorem dX5_dear_94 : decode cX5_dear 94 = .ok (.ifCond .ne 7, 3) := by decide +kernel
theorem dX5_dear_97 : decode cX5_dear 97 = .ok (.iload_n 3, 1) := by decide +kernel
theorem dX5_dear_98 : decode cX5_dear 98 = .ok (.goto 4, 3) := by decide +kernel
theorem dX5_dear_101 : decode cX5_dear 101 = .ok (.iload_n 2, 1) := by decide +kernel
theorem dX5_dear_102 : decode cX5_dear 102 = .ok (.ireturn, 1) := by decide +kernel
theorem dX5_tells_0 : decode cX5_tells 0 = .ok (.aload_n 0, 1) := by decide +kernel
theorem dX5_tells_1 : decode cX5_tells 1 = .ok (.iload_n 1, 1) := by decide +kernel
theorem dX5_tells_2 : decode cX5_tells 2 = .ok (.invokevirtual 129, 3) := by decide +kernel
theorem dX5_tells_5 : decode cX5_tells 5 = .ok (.astore 4, 2) := by decide +kernel
theorem dX5_tells_7 : decode cX5_tells 7 = .ok (.aload 4, 2) := by decide +kernel
theorem dX5_tells_9 : decode cX5_tells 9 = .ok (.ifnull 24, 3) := by decide +kernel
theorem dX5_tells_12 : decode cX5_tells 12 = .ok (.aload_n 0, 1) := by decide +kernel
theorem dX5_tells_13 : decode cX5_tells 13 = .ok (.getfield 42, 3) := by decide +kernel
theorem dX5_tells_16 : decode cX5_tells 16 = .ok (.iload_n 2, 1) := by decide +kernel
theorem dX5_tells_17 : decode cX5_tells 17 = .ok (.invokevirtual 101, 3) := by decide +kernel
theorem dX5_tells_20 : decode cX5_tells 20 = .ok (.ifCond .eq 13, 3) := by decide +kernel
theorem dX5_tells_23 : decode cX5_tells 23 = .ok (.iload_n 3, 1) := by decide +kernel
theorem dX5_tells_24 : decode cX5_tells 24 = .ok (.ifCond .lt 9, 3) := by decide +kernel
theorem dX5_tells_27 : decode cX5_tells 27 = .ok (.iload_n 3, 1) := by decide +kernel
theorem dX5_tells_28 : decode cX5_tells 28 = .ok (.bipush 6, 2) := by decide +kernel
theorem dX5_tells_30 : decode cX5_tells 30 = .ok (.if_icmp .le 6, 3) := by decide +kernel
theorem dX5_tells_33 : decode cX5_tells 33 = .ok (.bipush (-2), 2) := by decide +kernel
theorem dX5_tells_35 : decode cX5_tells 35 = .ok (.ireturn, 1) := by decide +kernel
theorem dX5_tells_36 : decode cX5_tells 36 = .ok (.aload 4, 2) := by decide +kernel
theorem dX5_tells_38 : decode cX5_tells 38 = .ok (.getfield 155, 3) := by decide +kernel
theorem dX5_tells_41 : decode cX5_tells 41 = .ok (.iconst (-1), 1) := by decide +kernel
theorem dX5_tells_42 : decode cX5_tells 42 = .ok (.if_icmp .ne 6, 3) := by decide +kernel
theorem dX5_tells_45 : decode cX5_tells 45 = .ok (.bipush (-11), 2) := by decide +kernel
theorem dX5_tells_47 : decode cX5_tells 47 = .ok (.ireturn, 1) := by decide +kernel
theorem dX5_tells_48 : decode cX5_tells 48 = .ok (.aload 4, 2) := by decide +kernel
theorem dX5_tells_50 : decode cX5_tells 50 = .ok (.getfield 223, 3) := by decide +kernel
theorem dX5_tells_53 : decode cX5_tells 53 = .ok (.bipush 12, 2) := by decide +kernel
theorem dX5_tells_55 : decode cX5_tells 55 = .ok (.if_icmp .le 6, 3) := by decide +kernel
theorem dX5_tells_58 : decode cX5_tells 58 = .ok (.bipush (-2), 2) := by decide +kernel
theorem dX5_tells_60 : decode cX5_tells 60 = .ok (.ireturn, 1) := by decide +kernel
theorem dX5_tells_61 : decode cX5_tells 61 = .ok (.iload_n 3, 1) := by decide +kernel
theorem dX5_tells_62 : decode cX5_tells 62 = .ok (.tableswitch 77 0 4 #[34, 45, 53, 61, 69], 34) := by decide +kernel
theorem dX5_tells_96 : decode cX5_tells 96 = .ok (.aload_n 0, 1) := by decide +kernel
theorem dX5_tells_97 : decode cX5_tells 97 = .ok (.getfield 42, 3) := by decide +kernel
theorem dX5_tells_100 : decode cX5_tells 100 = .ok (.iload_n 2, 1) := by decide +kernel
theorem dX5_tells_101 : decode cX5_tells 101 = .ok (.aload 4, 2) := by decide +kernel
theorem dX5_tells_103 : decode cX5_tells 103 = .ok (.invokevirtual 224, 3) := by decide +kernel
theorem dX5_tells_106 : decode cX5_tells 106 = .ok (.ireturn, 1) := by decide +kernel
theorem dX5_tells_107 : decode cX5_tells 107 = .ok (.aload_n 0, 1) := by decide +kernel
theorem dX5_tells_108 : decode cX5_tells 108 = .ok (.aload 4, 2) := by decide +kernel
theorem dX5_tells_110 : decode cX5_tells 110 = .ok (.iload_n 2, 1) := by decide +kernel
theorem dX5_tells_111 : decode cX5_tells 111 = .ok (.invokevirtual 228, 3) := by decide +kernel
theorem dX5_tells_114 : decode cX5_tells 114 = .ok (.ireturn, 1) := by decide +kernel
theorem dX5_tells_115 : decode cX5_tells 115 = .ok (.aload_n 0, 1) := by decide +kernel
theorem dX5_tells_116 : decode cX5_tells 116 = .ok (.aload 4, 2) := by decide +kernel
theorem dX5_tells_118 : decode cX5_tells 118 = .ok (.iload_n 2, 1) := by decide +kernel
theorem dX5_tells_119 : decode cX5_tells 119 = .ok (.invokevirtual 232, 3) := by decide +kernel
theorem dX5_tells_122 : decode cX5_tells 122 = .ok (.ireturn, 1) := by decide +kernel
theorem dX5_tells_123 : decode cX5_tells 123 = .ok (.aload_n 0, 1) := by decide +kernel
theorem dX5_tells_124 : decode cX5_tells 124 = .ok (.aload 4, 2) := by decide +kernel
theorem dX5_tells_126 : decode cX5_tells 126 = .ok (.iload_n 2, 1) := by decide +kernel
theorem dX5_tells_127 : decode cX5_tells 127 = .ok (.invokevirtual 235, 3) := by decide +kernel
theorem dX5_tells_130 : decode cX5_tells 130 = .ok (.ireturn, 1) := by decide +kernel
theorem dX5_tells_131 : decode cX5_tells 131 = .ok (.aload_n 0, 1) := by decide +kernel
theorem dX5_tells_132 : decode cX5_tells 132 = .ok (.aload 4, 2) := by decide +kernel
theorem dX5_tells_134 : decode cX5_tells 134 = .ok (.iload_n 2, 1) := by decide +kernel
theorem dX5_tells_135 : decode cX5_tells 135 = .ok (.invokevirtual 238, 3) := by decide +kernel
theorem dX5_tells_138 : decode cX5_tells 138 = .ok (.ireturn, 1) := by decide +kernel
theorem dX5_tells_139 : decode cX5_tells 139 = .ok (.aload_n 0, 1) := by decide +kernel
theorem dX5_tells_140 : decode cX5_tells 140 = .ok (.aload 4, 2) := by decide +kernel
theorem dX5_tells_142 : decode cX5_tells 142 = .ok (.iload_n 2, 1) := by decide +kernel
theorem dX5_tells_143 : decode cX5_tells 143 = .ok (.iload_n 3, 1) := by decide +kernel
theorem dX5_tells_144 : decode cX5_tells 144 = .ok (.bipush 6, 2) := by decide +kernel
theorem dX5_tells_146 : decode cX5_tells 146 = .ok (.if_icmp .ne 7, 3) := by decide +kernel
theorem dX5_tells_149 : decode cX5_tells 149 = .ok (.iconst 1, 1) := by decide +kernel
theorem dX5_tells_150 : decode cX5_tells 150 = .ok (.goto 4, 3) := by decide +kernel
theorem dX5_tells_153 : decode cX5_tells 153 = .ok (.iconst 0, 1) := by decide +kernel
theorem dX5_tells_154 : decode cX5_tells 154 = .ok (.invokevirtual 241, 3) := by decide +kernel
theorem dX5_tells_157 : decode cX5_tells 157 = .ok (.ireturn, 1) := by decide +kernel
theorem dX5_film_0 : decode cX5_film 0 = .ok (.aload_n 0, 1) := by decide +kernel
theorem dX5_film_1 : decode cX5_film 1 = .ok (.iload_n 1, 1) := by decide +kernel
theorem dX5_film_2 : decode cX5_film 2 = .ok (.invokevirtual 129, 3) := by decide +kernel
theorem dX5_film_5 : decode cX5_film 5 = .ok (.astore 4, 2) := by decide +kernel
theorem dX5_film_7 : decode cX5_film 7 = .ok (.aload 4, 2) := by decide +kernel
theorem dX5_film_9 : decode cX5_film 9 = .ok (.ifnull 24, 3) := by decide +kernel
theorem dX5_film_12 : decode cX5_film 12 = .ok (.aload_n 0, 1) := by decide +kernel
theorem dX5_film_13 : decode cX5_film 13 = .ok (.getfield 42, 3) := by decide +kernel
theorem dX5_film_16 : decode cX5_film 16 = .ok (.iload_n 2, 1) := by decide +kernel
theorem dX5_film_17 : decode cX5_film 17 = .ok (.invokevirtual 101, 3) := by decide +kernel
theorem dX5_film_20 : decode cX5_film 20 = .ok (.ifCond .eq 13, 3) := by decide +kernel
theorem dX5_film_23 : decode cX5_film 23 = .ok (.iload_n 3, 1) := by decide +kernel
theorem dX5_film_24 : decode cX5_film 24 = .ok (.ifCond .lt 9, 3) := by decide +kernel
theorem dX5_film_27 : decode cX5_film 27 = .ok (.iload_n 3, 1) := by decide +kernel
theorem dX5_film_28 : decode cX5_film 28 = .ok (.bipush 12, 2) := by decide +kernel
theorem dX5_film_30 : decode cX5_film 30 = .ok (.if_icmp .le 6, 3) := by decide +kernel
theorem dX5_film_33 : decode cX5_film 33 = .ok (.bipush (-2), 2) := by decide +kernel
theorem dX5_film_35 : decode cX5_film 35 = .ok (.ireturn, 1) := by decide +kernel
theorem dX5_film_36 : decode cX5_film 36 = .ok (.aload 4, 2) := by decide +kernel
theorem dX5_film_38 : decode cX5_film 38 = .ok (.iconst 1, 1) := by decide +kernel
theorem dX5_film_39 : decode cX5_film 39 = .ok (.iload_n 3, 1) := by decide +kernel
theorem dX5_film_40 : decode cX5_film 40 = .ok (.invokevirtual 245, 3) := by decide +kernel
theorem dX5_film_43 : decode cX5_film 43 = .ok (.iconst 0, 1) := by decide +kernel
theorem dX5_film_44 : decode cX5_film 44 = .ok (.istore 5, 2) := by decide +kernel
theorem dX5_film_46 : decode cX5_film 46 = .ok (.iload 5, 2) := by decide +kernel
theorem dX5_film_48 : decode cX5_film 48 = .ok (.iload_n 3, 1) := by decide +kernel
theorem dX5_film_49 : decode cX5_film 49 = .ok (.if_icmp .ge 26, 3) := by decide +kernel
theorem dX5_film_52 : decode cX5_film 52 = .ok (.aload 4, 2) := by decide +kernel
theorem dX5_film_54 : decode cX5_film 54 = .ok (.iload 5, 2) := by decide +kernel
theorem dX5_film_56 : decode cX5_film 56 = .ok (.aload_n 0, 1) := by decide +kernel
theorem dX5_film_57 : decode cX5_film 57 = .ok (.getfield 42, 3) := by decide +kernel
theorem dX5_film_60 : decode cX5_film 60 = .ok (.iload_n 2, 1) := by decide +kernel
theorem dX5_film_61 : decode cX5_film 61 = .ok (.iload 5, 2) := by decide +kernel
theorem dX5_film_63 : decode cX5_film 63 = .ok (.invokevirtual 108, 3) := by decide +kernel
theorem dX5_film_66 : decode cX5_film 66 = .ok (.invokevirtual 248, 3) := by decide +kernel
theorem dX5_film_69 : decode cX5_film 69 = .ok (.iinc 5 1, 3) := by decide +kernel
theorem dX5_film_72 : decode cX5_film 72 = .ok (.goto (-26), 3) := by decide +kernel
theorem dX5_film_75 : decode cX5_film 75 = .ok (.iload_n 3, 1) := by decide +kernel
theorem dX5_film_76 : decode cX5_film 76 = .ok (.ireturn, 1) := by decide +kernel
theorem dX5_drawn_0 : decode cX5_drawn 0 = .ok (.aload_n 0, 1) := by decide +kernel
theorem dX5_drawn_1 : decode cX5_drawn 1 = .ok (.getfield 46, 3) := by decide +kernel
theorem dX5_drawn_4 : decode cX5_drawn 4 = .ok (.aload_n 0, 1) := by decide +kernel
theorem dX5_drawn_5 : decode cX5_drawn 5 = .ok (.getfield 42, 3) := by decide +kernel
theorem dX5_drawn_8 : decode cX5_drawn 8 = .ok (.invokevirtual 209, 3) := by decide +kernel
theorem dX5_drawn_11 : decode cX5_drawn 11 = .ok (.aload_n 0, 1) := by decide +kernel
theorem dX5_drawn_12 : decode cX5_drawn 12 = .ok (.iload_n 1, 1) := by decide +kernel
theorem dX5_drawn_13 : decode cX5_drawn 13 = .ok (.invokevirtual 251, 3) := by decide +kernel
theorem dX5_drawn_16 : decode cX5_drawn 16 = .ok (.ireturn, 1) := by decide +kernel
theorem dX5_chance_0 : decode cX5_chance 0 = .ok (.iload_n 2, 1) := by decide +kernel
theorem dX5_chance_1 : decode cX5_chance 1 = .ok (.iconst 1, 1) := by decide +kernel
theorem dX5_chance_2 : decode cX5_chance 2 = .ok (.if_icmp .lt 31, 3) := by decide +kernel
theorem dX5_chance_5 : decode cX5_chance 5 = .ok (.iload_n 2, 1) := by decide +kernel
theorem dX5_chance_6 : decode cX5_chance 6 = .ok (.bipush 20, 2) := by decide +kernel
theorem dX5_chance_8 : decode cX5_chance 8 = .ok (.if_icmp .gt 25, 3) := by decide +kernel
theorem dX5_chance_11 : decode cX5_chance 11 = .ok (.iload_n 3, 1) := by decide +kernel
theorem dX5_chance_12 : decode cX5_chance 12 = .ok (.ifCond .lt 21, 3) := by decide +kernel
theorem dX5_chance_15 : decode cX5_chance 15 = .ok (.iload_n 3, 1) := by decide +kernel
theorem dX5_chance_16 : decode cX5_chance 16 = .ok (.sipush 1000, 3) := by decide +kernel
theorem dX5_chance_19 : decode cX5_chance 19 = .ok (.if_icmp .ge 14, 3) := by decide +kernel
theorem dX5_chance_22 : decode cX5_chance 22 = .ok (.iload 4, 2) := by decide +kernel
theorem dX5_chance_24 : decode cX5_chance 24 = .ok (.ifCond .eq 13, 3) := by decide +kernel
theorem dX5_chance_27 : decode cX5_chance 27 = .ok (.iload 4, 2) := by decide +kernel
theorem dX5_chance_29 : decode cX5_chance 29 = .ok (.iconst 1, 1) := by decide +kernel
theorem dX5_chance_30 : decode cX5_chance 30 = .ok (.if_icmp .eq 7, 3) := by decide +kernel
theorem dX5_chance_33 : decode cX5_chance 33 = .ok (.ldc2_w 254, 3) := by decide +kernel
theorem dX5_chance_36 : decode cX5_chance 36 = .ok (.lreturn, 1) := by decide +kernel
theorem dX5_chance_37 : decode cX5_chance 37 = .ok (.aload_n 0, 1) := by decide +kernel
theorem dX5_chance_38 : decode cX5_chance 38 = .ok (.getfield 46, 3) := by decide +kernel
theorem dX5_chance_41 : decode cX5_chance 41 = .ok (.aload_n 0, 1) := by decide +kernel
theorem dX5_chance_42 : decode cX5_chance 42 = .ok (.getfield 42, 3) := by decide +kernel
theorem dX5_chance_45 : decode cX5_chance 45 = .ok (.invokevirtual 209, 3) := by decide +kernel
theorem dX5_chance_48 : decode cX5_chance 48 = .ok (.iconst 0, 1) := by decide +kernel
theorem dX5_chance_49 : decode cX5_chance 49 = .ok (.istore 5, 2) := by decide +kernel
theorem dX5_chance_51 : decode cX5_chance 51 = .ok (.iconst 0, 1) := by decide +kernel
theorem dX5_chance_52 : decode cX5_chance 52 = .ok (.istore 6, 2) := by decide +kernel
theorem dX5_chance_54 : decode cX5_chance 54 = .ok (.iload 6, 2) := by decide +kernel
theorem dX5_chance_56 : decode cX5_chance 56 = .ok (.iload_n 2, 1) := by decide +kernel
theorem dX5_chance_57 : decode cX5_chance 57 = .ok (.if_icmp .ge 24, 3) := by decide +kernel
theorem dX5_chance_60 : decode cX5_chance 60 = .ok (.aload_n 0, 1) := by decide +kernel
theorem dX5_chance_61 : decode cX5_chance 61 = .ok (.iload_n 1, 1) := by decide +kernel
theorem dX5_chance_62 : decode cX5_chance 62 = .ok (.iload 6, 2) := by decide +kernel
theorem dX5_chance_64 : decode cX5_chance 64 = .ok (.iadd, 1) := by decide +kernel
theorem dX5_chance_65 : decode cX5_chance 65 = .ok (.invokevirtual 251, 3) := by decide +kernel
theorem dX5_chance_68 : decode cX5_chance 68 = .ok (.iload_n 3, 1) := by decide +kernel
theorem dX5_chance_69 : decode cX5_chance 69 = .ok (.if_icmp .lt 6, 3) := by decide +kernel
theorem dX5_chance_72 : decode cX5_chance 72 = .ok (.iinc 5 1, 3) := by decide +kernel
theorem dX5_chance_75 : decode cX5_chance 75 = .ok (.iinc 6 1, 3) := by decide +kernel
theorem dX5_chance_78 : decode cX5_chance 78 = .ok (.goto (-24), 3) := by decide +kernel
theorem dX5_chance_81 : decode cX5_chance 81 = .ok (.iload 5, 2) := by decide +kernel
theorem dX5_chance_83 : decode cX5_chance 83 = .ok (.iload_n 2, 1) := by decide +kernel
theorem dX5_chance_84 : decode cX5_chance 84 = .ok (.invokestatic 256, 3) := by decide +kernel
theorem dX5_chance_87 : decode cX5_chance 87 = .ok (.istore 6, 2) := by decide +kernel
theorem dX5_chance_89 : decode cX5_chance 89 = .ok (.iload 4, 2) := by decide +kernel
theorem dX5_chance_91 : decode cX5_chance 91 = .ok (.ifCond .ne 12, 3) := by decide +kernel
theorem dX5_chance_94 : decode cX5_chance 94 = .ok (.iload 5, 2) := by decide +kernel
theorem dX5_chance_96 : decode cX5_chance 96 = .ok (.iload 6, 2) := by decide +kernel
theorem dX5_chance_98 : decode cX5_chance 98 = .ok (.idiv, 1) := by decide +kernel
theorem dX5_chance_99 : decode cX5_chance 99 = .ok (.i2l, 1) := by decide +kernel
theorem dX5_chance_100 : decode cX5_chance 100 = .ok (.goto 8, 3) := by decide +kernel
theorem dX5_chance_103 : decode cX5_chance 103 = .ok (.iload_n 2, 1) := by decide +kernel
theorem dX5_chance_104 : decode cX5_chance 104 = .ok (.iload 6, 2) := by decide +kernel
theorem dX5_chance_106 : decode cX5_chance 106 = .ok (.idiv, 1) := by decide +kernel
theorem dX5_chance_107 : decode cX5_chance 107 = .ok (.i2l, 1) := by decide +kernel
theorem dX5_chance_108 : decode cX5_chance 108 = .ok (.lreturn, 1) := by decide +kernel
theorem dX5_image_0 : decode cX5_image 0 = .ok (.aload_n 0, 1) := by decide +kernel
theorem dX5_image_1 : decode cX5_image 1 = .ok (.getfield 49, 3) := by decide +kernel
theorem dX5_image_4 : decode cX5_image 4 = .ok (.aload_n 0, 1) := by decide +kernel
theorem dX5_image_5 : decode cX5_image 5 = .ok (.getfield 42, 3) := by decide +kernel
theorem dX5_image_8 : decode cX5_image 8 = .ok (.invokevirtual 209, 3) := by decide +kernel
theorem dX5_image_11 : decode cX5_image 11 = .ok (.aload_n 0, 1) := by decide +kernel
theorem dX5_image_12 : decode cX5_image 12 = .ok (.iconst 1, 1) := by decide +kernel
theorem dX5_image_13 : decode cX5_image 13 = .ok (.putfield 259, 3) := by decide +kernel
theorem dX5_image_16 : decode cX5_image 16 = .ok (.aload_n 0, 1) := by decide +kernel
theorem dX5_image_17 : decode cX5_image 17 = .ok (.getfield 42, 3) := by decide +kernel
theorem dX5_image_20 : decode cX5_image 20 = .ok (.getfield 161, 3) := by decide +kernel
theorem dX5_image_23 : decode cX5_image 23 = .ok (.ireturn, 1) := by decide +kernel
theorem dX5_back_0 : decode cX5_back 0 = .ok (.aload_n 0, 1) := by decide +kernel
theorem dX5_back_1 : decode cX5_back 1 = .ok (.getfield 259, 3) := by decide +kernel
theorem dX5_back_4 : decode cX5_back 4 = .ok (.ifCond .ne 6, 3) := by decide +kernel
theorem dX5_back_7 : decode cX5_back 7 = .ok (.bipush (-3), 2) := by decide +kernel
theorem dX5_back_9 : decode cX5_back 9 = .ok (.ireturn, 1) := by decide +kernel
theorem dX5_back_10 : decode cX5_back 10 = .ok (.aload_n 0, 1) := by decide +kernel
theorem dX5_back_11 : decode cX5_back 11 = .ok (.getfield 42, 3) := by decide +kernel
theorem dX5_back_14 : decode cX5_back 14 = .ok (.aload_n 0, 1) := by decide +kernel
theorem dX5_back_15 : decode cX5_back 15 = .ok (.getfield 49, 3) := by decide +kernel
theorem dX5_back_18 : decode cX5_back 18 = .ok (.invokevirtual 209, 3) := by decide +kernel
theorem dX5_back_21 : decode cX5_back 21 = .ok (.aload_n 0, 1) := by decide +kernel
theorem dX5_back_22 : decode cX5_back 22 = .ok (.getfield 42, 3) := by decide +kernel
theorem dX5_back_25 : decode cX5_back 25 = .ok (.getfield 161, 3) := by decide +kernel
theorem dX5_back_28 : decode cX5_back 28 = .ok (.ireturn, 1) := by decide +kernel
theorem dX5_count_0 : decode cX5_count 0 = .ok (.iload_n 1, 1) := by decide +kernel
theorem dX5_count_1 : decode cX5_count 1 = .ok (.tableswitch 84 0 5 #[39, 47, 55, 63, 68, 76], 39) := by decide +kernel
theorem dX5_count_40 : decode cX5_count 40 = .ok (.aload_n 0, 1) := by decide +kernel
theorem dX5_count_41 : decode cX5_count 41 = .ok (.getfield 42, 3) := by decide +kernel
theorem dX5_count_44 : decode cX5_count 44 = .ok (.getfield 161, 3) := by decide +kernel
theorem dX5_count_47 : decode cX5_count 47 = .ok (.ireturn, 1) := by decide +kernel
theorem dX5_count_48 : decode cX5_count 48 = .ok (.aload_n 0, 1) := by decide +kernel
theorem dX5_count_49 : decode cX5_count 49 = .ok (.getfield 42, 3) := by decide +kernel
theorem dX5_count_52 : decode cX5_count 52 = .ok (.getfield 206, 3) := by decide +kernel
theorem dX5_count_55 : decode cX5_count 55 = .ok (.ireturn, 1) := by decide +kernel
theorem dX5_count_56 : decode cX5_count 56 = .ok (.aload_n 0, 1) := by decide +kernel
theorem dX5_count_57 : decode cX5_count 57 = .ok (.getfield 42, 3) := by decide +kernel
theorem dX5_count_60 : decode cX5_count 60 = .ok (.invokevirtual 263, 3) := by decide +kernel
theorem dX5_count_63 : decode cX5_count 63 = .ok (.ireturn, 1) := by decide +kernel
theorem dX5_count_64 : decode cX5_count 64 = .ok (.aload_n 0, 1) := by decide +kernel
theorem dX5_count_65 : decode cX5_count 65 = .ok (.getfield 75, 3) := by decide +kernel
theorem dX5_count_68 : decode cX5_count 68 = .ok (.ireturn, 1) := by decide +kernel
theorem dX5_count_69 : decode cX5_count 69 = .ok (.aload_n 0, 1) := by decide +kernel
theorem dX5_count_70 : decode cX5_count 70 = .ok (.getfield 18, 3) := by decide +kernel
theorem dX5_count_73 : decode cX5_count 73 = .ok (.getfield 123, 3) := by decide +kernel
theorem dX5_count_76 : decode cX5_count 76 = .ok (.ireturn, 1) := by decide +kernel
theorem dX5_count_77 : decode cX5_count 77 = .ok (.aload_n 0, 1) := by decide +kernel
theorem dX5_count_78 : decode cX5_count 78 = .ok (.getfield 42, 3) := by decide +kernel
theorem dX5_count_81 : decode cX5_count 81 = .ok (.getfield 126, 3) := by decide +kernel
theorem dX5_count_84 : decode cX5_count 84 = .ok (.ireturn, 1) := by decide +kernel
theorem dX5_count_85 : decode cX5_count 85 = .ok (.bipush (-2), 2) := by decide +kernel
theorem dX5_count_87 : decode cX5_count 87 = .ok (.ireturn, 1) := by decide +kernel
theorem dX5_sheet_0 : decode cX5_sheet 0 = .ok (.aload_n 0, 1) := by decide +kernel
theorem dX5_sheet_1 : decode cX5_sheet 1 = .ok (.iload_n 1, 1) := by decide +kernel
theorem dX5_sheet_2 : decode cX5_sheet 2 = .ok (.invokevirtual 129, 3) := by decide +kernel
theorem dX5_sheet_5 : decode cX5_sheet 5 = .ok (.astore 4, 2) := by decide +kernel
theorem dX5_sheet_7 : decode cX5_sheet 7 = .ok (.aload 4, 2) := by decide +kernel
theorem dX5_sheet_9 : decode cX5_sheet 9 = .ok (.ifnull 13, 3) := by decide +kernel
theorem dX5_sheet_12 : decode cX5_sheet 12 = .ok (.iload_n 2, 1) := by decide +kernel
theorem dX5_sheet_13 : decode cX5_sheet 13 = .ok (.iconst (-1), 1) := by decide +kernel
theorem dX5_sheet_14 : decode cX5_sheet 14 = .ok (.if_icmp .lt 8, 3) := by decide +kernel
theorem dX5_sheet_17 : decode cX5_sheet 17 = .ok (.iload_n 2, 1) := by decide +kernel
theorem dX5_sheet_18 : decode cX5_sheet 18 = .ok (.iconst 2, 1) := by decide +kernel
theorem dX5_sheet_19 : decode cX5_sheet 19 = .ok (.if_icmp .le 6, 3) := by decide +kernel
theorem dX5_sheet_22 : decode cX5_sheet 22 = .ok (.bipush (-2), 2) := by decide +kernel
theorem dX5_sheet_24 : decode cX5_sheet 24 = .ok (.ireturn, 1) := by decide +kernel
theorem dX5_sheet_25 : decode cX5_sheet 25 = .ok (.iload_n 2, 1) := by decide +kernel
theorem dX5_sheet_26 : decode cX5_sheet 26 = .ok (.iconst (-1), 1) := by decide +kernel
theorem dX5_sheet_27 : decode cX5_sheet 27 = .ok (.if_icmp .ne 12, 3) := by decide +kernel
theorem dX5_sheet_30 : decode cX5_sheet 30 = .ok (.aload 4, 2) := by decide +kernel
theorem dX5_sheet_32 : decode cX5_sheet 32 = .ok (.iconst (-1), 1) := by decide +kernel
theorem dX5_sheet_33 : decode cX5_sheet 33 = .ok (.iconst 0, 1) := by decide +kernel
theorem dX5_sheet_34 : decode cX5_sheet 34 = .ok (.invokevirtual 245, 3) := by decide +kernel
theorem dX5_sheet_37 : decode cX5_sheet 37 = .ok (.iconst 1, 1) := by decide +kernel
theorem dX5_sheet_38 : decode cX5_sheet 38 = .ok (.ireturn, 1) := by decide +kernel
theorem dX5_sheet_39 : decode cX5_sheet 39 = .ok (.iload_n 3, 1) := by decide +kernel
theorem dX5_sheet_40 : decode cX5_sheet 40 = .ok (.bipush 40, 2) := by decide +kernel
theorem dX5_sheet_42 : decode cX5_sheet 42 = .ok (.if_icmp .le 6, 3) := by decide +kernel
theorem dX5_sheet_45 : decode cX5_sheet 45 = .ok (.bipush (-2), 2) := by decide +kernel
theorem dX5_sheet_47 : decode cX5_sheet 47 = .ok (.ireturn, 1) := by decide +kernel
theorem dX5_sheet_48 : decode cX5_sheet 48 = .ok (.iload_n 3, 1) := by decide +kernel
theorem dX5_sheet_49 : decode cX5_sheet 49 = .ok (.ifCond .ge 6, 3) := by decide +kernel
theorem dX5_sheet_52 : decode cX5_sheet 52 = .ok (.bipush (-14), 2) := by decide +kernel
theorem dX5_sheet_54 : decode cX5_sheet 54 = .ok (.ireturn, 1) := by decide +kernel
theorem dX5_sheet_55 : decode cX5_sheet 55 = .ok (.aload 4, 2) := by decide +kernel
theorem dX5_sheet_57 : decode cX5_sheet 57 = .ok (.iload_n 2, 1) := by decide +kernel
theorem dX5_sheet_58 : decode cX5_sheet 58 = .ok (.iload_n 3, 1) := by decide +kernel
theorem dX5_sheet_59 : decode cX5_sheet 59 = .ok (.invokevirtual 245, 3) := by decide +kernel
theorem dX5_sheet_62 : decode cX5_sheet 62 = .ok (.iconst 1, 1) := by decide +kernel
theorem dX5_sheet_63 : decode cX5_sheet 63 = .ok (.ireturn, 1) := by decide +kernel
theorem dX5_cell_0 : decode cX5_cell 0 = .ok (.aload_n 0, 1) := by decide +kernel
theorem dX5_cell_1 : decode cX5_cell 1 = .ok (.iload_n 1, 1) := by decide +kernel
theorem dX5_cell_2 : decode cX5_cell 2 = .ok (.invokevirtual 129, 3) := by decide +kernel
theorem dX5_cell_5 : decode cX5_cell 5 = .ok (.astore 4, 2) := by decide +kernel
theorem dX5_cell_7 : decode cX5_cell 7 = .ok (.aload 4, 2) := by decide +kernel
theorem dX5_cell_9 : decode cX5_cell 9 = .ok (.ifnonnull 6, 3) := by decide +kernel
theorem dX5_cell_12 : decode cX5_cell 12 = .ok (.bipush (-2), 2) := by decide +kernel
theorem dX5_cell_14 : decode cX5_cell 14 = .ok (.ireturn, 1) := by decide +kernel
theorem dX5_cell_15 : decode cX5_cell 15 = .ok (.aload 4, 2) := by decide +kernel
theorem dX5_cell_17 : decode cX5_cell 17 = .ok (.getfield 155, 3) := by decide +kernel
theorem dX5_cell_20 : decode cX5_cell 20 = .ok (.iconst (-1), 1) := by decide +kernel
theorem dX5_cell_21 : decode cX5_cell 21 = .ok (.if_icmp .ne 6, 3) := by decide +kernel
theorem dX5_cell_24 : decode cX5_cell 24 = .ok (.bipush (-11), 2) := by decide +kernel
theorem dX5_cell_26 : decode cX5_cell 26 = .ok (.ireturn, 1) := by decide +kernel
theorem dX5_cell_27 : decode cX5_cell 27 = .ok (.aload 4, 2) := by decide +kernel
theorem dX5_cell_29 : decode cX5_cell 29 = .ok (.iload_n 2, 1) := by decide +kernel
theorem dX5_cell_30 : decode cX5_cell 30 = .ok (.iconst 1, 1) := by decide +kernel
theorem dX5_cell_31 : decode cX5_cell 31 = .ok (.invokevirtual 266, 3) := by decide +kernel
theorem dX5_cell_34 : decode cX5_cell 34 = .ok (.ifCond .ne 6, 3) := by decide +kernel
theorem dX5_cell_37 : decode cX5_cell 37 = .ok (.bipush (-12), 2) := by decide +kernel
theorem dX5_cell_39 : decode cX5_cell 39 = .ok (.ireturn, 1) := by decide +kernel
theorem dX5_cell_40 : decode cX5_cell 40 = .ok (.aload 4, 2) := by decide +kernel
theorem dX5_cell_42 : decode cX5_cell 42 = .ok (.iload_n 2, 1) := by decide +kernel
theorem dX5_cell_43 : decode cX5_cell 43 = .ok (.iload_n 3, 1) := by decide +kernel
theorem dX5_cell_44 : decode cX5_cell 44 = .ok (.invokevirtual 248, 3) := by decide +kernel
theorem dX5_cell_47 : decode cX5_cell 47 = .ok (.iconst 1, 1) := by decide +kernel
theorem dX5_cell_48 : decode cX5_cell 48 = .ok (.ireturn, 1) := by decide +kernel
theorem dX5_copy_0 : decode cX5_copy 0 = .ok (.aload_n 0, 1) := by decide +kernel
theorem dX5_copy_1 : decode cX5_copy 1 = .ok (.iload_n 1, 1) := by decide +kernel
theorem dX5_copy_2 : decode cX5_copy 2 = .ok (.invokevirtual 129, 3) := by decide +kernel
theorem dX5_copy_5 : decode cX5_copy 5 = .ok (.astore 6, 2) := by decide +kernel
theorem dX5_copy_7 : decode cX5_copy 7 = .ok (.aload_n 0, 1) := by decide +kernel
theorem dX5_copy_8 : decode cX5_copy 8 = .ok (.iload_n 3, 1) := by decide +kernel
theorem dX5_copy_9 : decode cX5_copy 9 = .ok (.invokevirtual 129, 3) := by decide +kernel
theorem dX5_copy_12 : decode cX5_copy 12 = .ok (.astore 7, 2) := by decide +kernel
theorem dX5_copy_14 : decode cX5_copy 14 = .ok (.aload 6, 2) := by decide +kernel
theorem dX5_copy_16 : decode cX5_copy 16 = .ok (.ifnull 8, 3) := by decide +kernel
theorem dX5_copy_19 : decode cX5_copy 19 = .ok (.aload 7, 2) := by decide +kernel
theorem dX5_copy_21 : decode cX5_copy 21 = .ok (.ifnonnull 6, 3) := by decide +kernel
theorem dX5_copy_24 : decode cX5_copy 24 = .ok (.bipush (-2), 2) := by decide +kernel
theorem dX5_copy_26 : decode cX5_copy 26 = .ok (.ireturn, 1) := by decide +kernel
theorem dX5_copy_27 : decode cX5_copy 27 = .ok (.aload 6, 2) := by decide +kernel
theorem dX5_copy_29 : decode cX5_copy 29 = .ok (.getfield 155, 3) := by decide +kernel
theorem dX5_copy_32 : decode cX5_copy 32 = .ok (.iconst (-1), 1) := by decide +kernel
theorem dX5_copy_33 : decode cX5_copy 33 = .ok (.if_icmp .eq 12, 3) := by decide +kernel
theorem dX5_copy_36 : decode cX5_copy 36 = .ok (.aload 7, 2) := by decide +kernel
theorem dX5_copy_38 : decode cX5_copy 38 = .ok (.getfield 155, 3) := by decide +kernel
theorem dX5_copy_41 : decode cX5_copy 41 = .ok (.iconst (-1), 1) := by decide +kernel
theorem dX5_copy_42 : decode cX5_copy 42 = .ok (.if_icmp .ne 6, 3) := by decide +kernel
theorem dX5_copy_45 : decode cX5_copy 45 = .ok (.bipush (-11), 2) := by decide +kernel
theorem dX5_copy_47 : decode cX5_copy 47 = .ok (.ireturn, 1) := by decide +kernel
theorem dX5_copy_48 : decode cX5_copy 48 = .ok (.aload 6, 2) := by decide +kernel
theorem dX5_copy_50 : decode cX5_copy 50 = .ok (.getfield 155, 3) := by decide +kernel
theorem dX5_copy_53 : decode cX5_copy 53 = .ok (.aload 7, 2) := by decide +kernel
theorem dX5_copy_55 : decode cX5_copy 55 = .ok (.getfield 155, 3) := by decide +kernel
theorem dX5_copy_58 : decode cX5_copy 58 = .ok (.if_icmp .eq 6, 3) := by decide +kernel
theorem dX5_copy_61 : decode cX5_copy 61 = .ok (.bipush (-13), 2) := by decide +kernel
theorem dX5_copy_63 : decode cX5_copy 63 = .ok (.ireturn, 1) := by decide +kernel
theorem dX5_copy_64 : decode cX5_copy 64 = .ok (.aload 6, 2) := by decide +kernel
theorem dX5_copy_66 : decode cX5_copy 66 = .ok (.iload_n 2, 1) := by decide +kernel
theorem dX5_copy_67 : decode cX5_copy 67 = .ok (.iload 5, 2) := by decide +kernel
theorem dX5_copy_69 : decode cX5_copy 69 = .ok (.invokevirtual 266, 3) := by decide +kernel
theorem dX5_copy_72 : decode cX5_copy 72 = .ok (.ifCond .eq 15, 3) := by decide +kernel
theorem dX5_copy_75 : decode cX5_copy 75 = .ok (.aload 7, 2) := by decide +kernel
theorem dX5_copy_77 : decode cX5_copy 77 = .ok (.iload 4, 2) := by decide +kernel
theorem dX5_copy_79 : decode cX5_copy 79 = .ok (.iload 5, 2) := by decide +kernel
theorem dX5_copy_81 : decode cX5_copy 81 = .ok (.invokevirtual 266, 3) := by decide +kernel
theorem dX5_copy_84 : decode cX5_copy 84 = .ok (.ifCond .ne 6, 3) := by decide +kernel
theorem dX5_copy_87 : decode cX5_copy 87 = .ok (.bipush (-12), 2) := by decide +kernel
theorem dX5_copy_89 : decode cX5_copy 89 = .ok (.ireturn, 1) := by decide +kernel
theorem dX5_copy_90 : decode cX5_copy 90 = .ok (.aload 6, 2) := by decide +kernel
theorem dX5_copy_92 : decode cX5_copy 92 = .ok (.getfield 269, 3) := by decide +kernel
theorem dX5_copy_95 : decode cX5_copy 95 = .ok (.iload_n 2, 1) := by decide +kernel
theorem dX5_copy_96 : decode cX5_copy 96 = .ok (.aload 7, 2) := by decide +kernel
theorem dX5_copy_98 : decode cX5_copy 98 = .ok (.getfield 269, 3) := by decide +kernel
theorem dX5_copy_101 : decode cX5_copy 101 = .ok (.iload 4, 2) := by decide +kernel
theorem dX5_copy_103 : decode cX5_copy 103 = .ok (.iload 5, 2) := by decide +kernel
theorem dX5_copy_105 : decode cX5_copy 105 = .ok (.invokestatic 164, 3) := by decide +kernel
theorem dX5_copy_108 : decode cX5_copy 108 = .ok (.iload 5, 2) := by decide +kernel
theorem dX5_copy_110 : decode cX5_copy 110 = .ok (.ireturn, 1) := by decide +kernel
theorem dX5_figures_0 : decode cX5_figures 0 = .ok (.aload_n 0, 1) := by decide +kernel
theorem dX5_figures_1 : decode cX5_figures 1 = .ok (.iload_n 1, 1) := by decide +kernel
theorem dX5_figures_2 : decode cX5_figures 2 = .ok (.invokevirtual 129, 3) := by decide +kernel
theorem dX5_figures_5 : decode cX5_figures 5 = .ok (.astore 5, 2) := by decide +kernel
theorem dX5_figures_7 : decode cX5_figures 7 = .ok (.aload 5, 2) := by decide +kernel
theorem dX5_figures_9 : decode cX5_figures 9 = .ok (.ifnull 24, 3) := by decide +kernel
theorem dX5_figures_12 : decode cX5_figures 12 = .ok (.iload_n 2, 1) := by decide +kernel
theorem dX5_figures_13 : decode cX5_figures 13 = .ok (.ifCond .lt 20, 3) := by decide +kernel
theorem dX5_figures_16 : decode cX5_figures 16 = .ok (.iload_n 2, 1) := by decide +kernel
theorem dX5_figures_17 : decode cX5_figures 17 = .ok (.iconst 2, 1) := by decide +kernel
theorem dX5_figures_18 : decode cX5_figures 18 = .ok (.if_icmp .gt 15, 3) := by decide +kernel
theorem dX5_figures_21 : decode cX5_figures 21 = .ok (.iload 4, 2) := by decide +kernel
theorem dX5_figures_23 : decode cX5_figures 23 = .ok (.ifCond .lt 10, 3) := by decide +kernel
theorem dX5_figures_26 : decode cX5_figures 26 = .ok (.iload 4, 2) := by decide +kernel
theorem dX5_figures_28 : decode cX5_figures 28 = .ok (.bipush 6, 2) := by decide +kernel
theorem dX5_figures_30 : decode cX5_figures 30 = .ok (.if_icmp .le 6, 3) := by decide +kernel
theorem dX5_figures_33 : decode cX5_figures 33 = .ok (.bipush (-2), 2) := by decide +kernel
theorem dX5_figures_35 : decode cX5_figures 35 = .ok (.ireturn, 1) := by decide +kernel
theorem dX5_figures_36 : decode cX5_figures 36 = .ok (.aload 5, 2) := by decide +kernel
theorem dX5_figures_38 : decode cX5_figures 38 = .ok (.getfield 155, 3) := by decide +kernel
theorem dX5_figures_41 : decode cX5_figures 41 = .ok (.iconst (-1), 1) := by decide +kernel
theorem dX5_figures_42 : decode cX5_figures 42 = .ok (.if_icmp .eq 15, 3) := by decide +kernel
theorem dX5_figures_45 : decode cX5_figures 45 = .ok (.aload 5, 2) := by decide +kernel
theorem dX5_figures_47 : decode cX5_figures 47 = .ok (.getfield 155, 3) := by decide +kernel
theorem dX5_figures_50 : decode cX5_figures 50 = .ok (.iload_n 2, 1) := by decide +kernel
theorem dX5_figures_51 : decode cX5_figures 51 = .ok (.if_icmp .eq 6, 3) := by decide +kernel
theorem dX5_figures_54 : decode cX5_figures 54 = .ok (.bipush (-13), 2) := by decide +kernel
theorem dX5_figures_56 : decode cX5_figures 56 = .ok (.ireturn, 1) := by decide +kernel
theorem dX5_figures_57 : decode cX5_figures 57 = .ok (.aload 5, 2) := by decide +kernel
theorem dX5_figures_59 : decode cX5_figures 59 = .ok (.getfield 155, 3) := by decide +kernel
theorem dX5_figures_62 : decode cX5_figures 62 = .ok (.iconst (-1), 1) := by decide +kernel
theorem dX5_figures_63 : decode cX5_figures 63 = .ok (.if_icmp .ne 6, 3) := by decide +kernel
theorem dX5_figures_66 : decode cX5_figures 66 = .ok (.bipush (-11), 2) := by decide +kernel
theorem dX5_figures_68 : decode cX5_figures 68 = .ok (.ireturn, 1) := by decide +kernel
theorem dX5_figures_69 : decode cX5_figures 69 = .ok (.iconst 0, 1) := by decide +kernel
theorem dX5_figures_70 : decode cX5_figures 70 = .ok (.istore 6, 2) := by decide +kernel
theorem dX5_figures_72 : decode cX5_figures 72 = .ok (.iconst 0, 1) := by decide +kernel
theorem dX5_figures_73 : decode cX5_figures 73 = .ok (.istore 7, 2) := by decide +kernel
theorem dX5_figures_75 : decode cX5_figures 75 = .ok (.iload 7, 2) := by decide +kernel
theorem dX5_figures_77 : decode cX5_figures 77 = .ok (.iload 4, 2) := by decide +kernel
theorem dX5_figures_79 : decode cX5_figures 79 = .ok (.if_icmp .ge 72, 3) := by decide +kernel
theorem dX5_figures_82 : decode cX5_figures 82 = .ok (.iload_n 3, 1) := by decide +kernel
theorem dX5_figures_83 : decode cX5_figures 83 = .ok (.iconst 3, 1) := by decide +kernel
theorem dX5_figures_84 : decode cX5_figures 84 = .ok (.iload 7, 2) := by decide +kernel
theorem dX5_figures_86 : decode cX5_figures 86 = .ok (.imul, 1) := by decide +kernel
theorem dX5_figures_87 : decode cX5_figures 87 = .ok (.iadd, 1) := by decide +kernel
theorem dX5_figures_88 : decode cX5_figures 88 = .ok (.istore 8, 2) := by decide +kernel
theorem dX5_figures_90 : decode cX5_figures 90 = .ok (.aload 5, 2) := by decide +kernel
theorem dX5_figures_92 : decode cX5_figures 92 = .ok (.iload 8, 2) := by decide +kernel
theorem dX5_figures_94 : decode cX5_figures 94 = .ok (.iconst 3, 1) := by decide +kernel
theorem dX5_figures_95 : decode cX5_figures 95 = .ok (.invokevirtual 266, 3) := by decide +kernel
theorem dX5_figures_98 : decode cX5_figures 98 = .ok (.ifCond .ne 6, 3) := by decide +kernel
theorem dX5_figures_101 : decode cX5_figures 101 = .ok (.bipush (-12), 2) := by decide +kernel
theorem dX5_figures_103 : decode cX5_figures 103 = .ok (.ireturn, 1) := by decide +kernel
theorem dX5_figures_104 : decode cX5_figures 104 = .ok (.aload_n 0, 1) := by decide +kernel
theorem dX5_figures_105 : decode cX5_figures 105 = .ok (.getfield 42, 3) := by decide +kernel
theorem dX5_figures_108 : decode cX5_figures 108 = .ok (.aload 5, 2) := by decide +kernel
theorem dX5_figures_110 : decode cX5_figures 110 = .ok (.getfield 269, 3) := by decide +kernel
theorem dX5_figures_113 : decode cX5_figures 113 = .ok (.iload 8, 2) := by decide +kernel
theorem dX5_figures_115 : decode cX5_figures 115 = .ok (.iaload, 1) := by decide +kernel
theorem dX5_figures_116 : decode cX5_figures 116 = .ok (.aload 5, 2) := by decide +kernel
theorem dX5_figures_118 : decode cX5_figures 118 = .ok (.getfield 269, 3) := by decide +kernel
theorem dX5_figures_121 : decode cX5_figures 121 = .ok (.iload 8, 2) := by decide +kernel
theorem dX5_figures_123 : decode cX5_figures 123 = .ok (.iconst 1, 1) := by decide +kernel
theorem dX5_figures_124 : decode cX5_figures 124 = .ok (.iadd, 1) := by decide +kernel
theorem dX5_figures_125 : decode cX5_figures 125 = .ok (.iaload, 1) := by decide +kernel
theorem dX5_figures_126 : decode cX5_figures 126 = .ok (.aload 5, 2) := by decide +kernel
theorem dX5_figures_128 : decode cX5_figures 128 = .ok (.getfield 269, 3) := by decide +kernel
theorem dX5_figures_131 : decode cX5_figures 131 = .ok (.iload 8, 2) := by decide +kernel
theorem dX5_figures_133 : decode cX5_figures 133 = .ok (.iconst 2, 1) := by decide +kernel
theorem dX5_figures_134 : decode cX5_figures 134 = .ok (.iadd, 1) := by decide +kernel
theorem dX5_figures_135 : decode cX5_figures 135 = .ok (.iaload, 1) := by decide +kernel
theorem dX5_figures_136 : decode cX5_figures 136 = .ok (.invokevirtual 94, 3) := by decide +kernel
theorem dX5_figures_139 : decode cX5_figures 139 = .ok (.ifCond .lt 6, 3) := by decide +kernel
theorem dX5_figures_142 : decode cX5_figures 142 = .ok (.iinc 6 1, 3) := by decide +kernel
theorem dX5_figures_145 : decode cX5_figures 145 = .ok (.iinc 7 1, 3) := by decide +kernel
theorem dX5_figures_148 : decode cX5_figures 148 = .ok (.goto (-73), 3) := by decide +kernel
theorem dX5_figures_151 : decode cX5_figures 151 = .ok (.iload 6, 2) := by decide +kernel
theorem dX5_figures_153 : decode cX5_figures 153 = .ok (.ireturn, 1) := by decide +kernel
theorem dX5_taken_0 : decode cX5_taken 0 = .ok (.iload_n 2, 1) := by decide +kernel
theorem dX5_taken_1 : decode cX5_taken 1 = .ok (.ifCond .lt 9, 3) := by decide +kernel
theorem dX5_taken_4 : decode cX5_taken 4 = .ok (.iload_n 2, 1) := by decide +kernel
theorem dX5_taken_5 : decode cX5_taken 5 = .ok (.bipush 6, 2) := by decide +kernel
theorem dX5_taken_7 : decode cX5_taken 7 = .ok (.if_icmp .lt 6, 3) := by decide +kernel
theorem dX5_taken_10 : decode cX5_taken 10 = .ok (.bipush (-2), 2) := by decide +kernel
theorem dX5_taken_12 : decode cX5_taken 12 = .ok (.ireturn, 1) := by decide +kernel
theorem dX5_taken_13 : decode cX5_taken 13 = .ok (.aload_n 0, 1) := by decide +kernel
theorem dX5_taken_14 : decode cX5_taken 14 = .ok (.getfield 42, 3) := by decide +kernel
theorem dX5_taken_17 : decode cX5_taken 17 = .ok (.iload_n 1, 1) := by decide +kernel
theorem dX5_taken_18 : decode cX5_taken 18 = .ok (.invokevirtual 101, 3) := by decide +kernel
theorem dX5_taken_21 : decode cX5_taken 21 = .ok (.ifCond .ne 6, 3) := by decide +kernel
theorem dX5_taken_24 : decode cX5_taken 24 = .ok (.bipush (-11), 2) := by decide +kernel
theorem dX5_taken_26 : decode cX5_taken 26 = .ok (.ireturn, 1) := by decide +kernel
theorem dX5_taken_27 : decode cX5_taken 27 = .ok (.aload_n 0, 1) := by decide +kernel
theorem dX5_taken_28 : decode cX5_taken 28 = .ok (.getfield 42, 3) := by decide +kernel
theorem dX5_taken_31 : decode cX5_taken 31 = .ok (.getfield 272, 3) := by decide +kernel
theorem dX5_taken_34 : decode cX5_taken 34 = .ok (.iload_n 1, 1) := by decide +kernel
theorem dX5_taken_35 : decode cX5_taken 35 = .ok (.iaload, 1) := by decide +kernel
theorem dX5_taken_36 : decode cX5_taken 36 = .ok (.iload_n 2, 1) := by decide +kernel
theorem dX5_taken_37 : decode cX5_taken 37 = .ok (.invokestatic 275, 3) := by decide +kernel
theorem dX5_taken_40 : decode cX5_taken 40 = .ok (.ifCond .eq 15, 3) := by decide +kernel
theorem dX5_taken_43 : decode cX5_taken 43 = .ok (.aload_n 0, 1) := by decide +kernel
theorem dX5_taken_44 : decode cX5_taken 44 = .ok (.getfield 42, 3) := by decide +kernel
theorem dX5_taken_47 : decode cX5_taken 47 = .ok (.getfield 278, 3) := by decide +kernel
theorem dX5_taken_50 : decode cX5_taken 50 = .ok (.iload_n 1, 1) := by decide +kernel
theorem dX5_taken_51 : decode cX5_taken 51 = .ok (.iaload, 1) := by decide +kernel
theorem dX5_taken_52 : decode cX5_taken 52 = .ok (.goto 5, 3) := by decide +kernel
theorem dX5_taken_55 : decode cX5_taken 55 = .ok (.bipush (-13), 2) := by decide +kernel
theorem dX5_taken_57 : decode cX5_taken 57 = .ok (.ireturn, 1) := by decide +kernel
theorem dX5_sheetOf_0 : decode cX5_sheetOf 0 = .ok (.iload_n 1, 1) := by decide +kernel
theorem dX5_sheetOf_1 : decode cX5_sheetOf 1 = .ok (.ifCond .lt 8, 3) := by decide +kernel
theorem dX5_sheetOf_4 : decode cX5_sheetOf 4 = .ok (.iload_n 1, 1) := by decide +kernel
theorem dX5_sheetOf_5 : decode cX5_sheetOf 5 = .ok (.iconst 4, 1) := by decide +kernel
theorem dX5_sheetOf_6 : decode cX5_sheetOf 6 = .ok (.if_icmp .lt 7, 3) := by decide +kernel
theorem dX5_sheetOf_9 : decode cX5_sheetOf 9 = .ok (.aconst_null, 1) := by decide +kernel
theorem dX5_sheetOf_10 : decode cX5_sheetOf 10 = .ok (.goto 9, 3) := by decide +kernel
theorem dX5_sheetOf_13 : decode cX5_sheetOf 13 = .ok (.aload_n 0, 1) := by decide +kernel
theorem dX5_sheetOf_14 : decode cX5_sheetOf 14 = .ok (.getfield 31, 3) := by decide +kernel
theorem dX5_sheetOf_17 : decode cX5_sheetOf 17 = .ok (.iload_n 1, 1) := by decide +kernel
theorem dX5_sheetOf_18 : decode cX5_sheetOf 18 = .ok (.aaload, 1) := by decide +kernel
theorem dX5_sheetOf_19 : decode cX5_sheetOf 19 = .ok (.areturn, 1) := by decide +kernel
theorem dX5_fits_0 : decode cX5_fits 0 = .ok (.iload_n 0, 1) := by decide +kernel
theorem dX5_fits_1 : decode cX5_fits 1 = .ok (.tableswitch 138 0 5 #[39, 56, 72, 89, 106, 122], 39) := by decide +kernel
theorem dX5_fits_40 : decode cX5_fits 40 = .ok (.iload_n 1, 1) := by decide +kernel
theorem dX5_fits_41 : decode cX5_fits 41 = .ok (.iconst 1, 1) := by decide +kernel
theorem dX5_fits_42 : decode cX5_fits 42 = .ok (.if_icmp .lt 13, 3) := by decide +kernel
theorem dX5_fits_45 : decode cX5_fits 45 = .ok (.iload_n 1, 1) := by decide +kernel
theorem dX5_fits_46 : decode cX5_fits 46 = .ok (.bipush 10, 2) := by decide +kernel
theorem dX5_fits_48 : decode cX5_fits 48 = .ok (.if_icmp .ge 7, 3) := by decide +kernel
theorem dX5_fits_51 : decode cX5_fits 51 = .ok (.iconst 1, 1) := by decide +kernel
theorem dX5_fits_52 : decode cX5_fits 52 = .ok (.goto 4, 3) := by decide +kernel
theorem dX5_fits_55 : decode cX5_fits 55 = .ok (.iconst 0, 1) := by decide +kernel
theorem dX5_fits_56 : decode cX5_fits 56 = .ok (.ireturn, 1) := by decide +kernel
theorem dX5_fits_57 : decode cX5_fits 57 = .ok (.iload_n 1, 1) := by decide +kernel
theorem dX5_fits_58 : decode cX5_fits 58 = .ok (.ifCond .lt 13, 3) := by decide +kernel
theorem dX5_fits_61 : decode cX5_fits 61 = .ok (.iload_n 1, 1) := by decide +kernel
theorem dX5_fits_62 : decode cX5_fits 62 = .ok (.bipush 10, 2) := by decide +kernel
theorem dX5_fits_64 : decode cX5_fits 64 = .ok (.if_icmp .ge 7, 3) := by decide +kernel
theorem dX5_fits_67 : decode cX5_fits 67 = .ok (.iconst 1, 1) := by decide +kernel
theorem dX5_fits_68 : decode cX5_fits 68 = .ok (.goto 4, 3) := by decide +kernel
theorem dX5_fits_71 : decode cX5_fits 71 = .ok (.iconst 0, 1) := by decide +kernel
theorem dX5_fits_72 : decode cX5_fits 72 = .ok (.ireturn, 1) := by decide +kernel
theorem dX5_fits_73 : decode cX5_fits 73 = .ok (.iload_n 1, 1) := by decide +kernel
theorem dX5_fits_74 : decode cX5_fits 74 = .ok (.ifCond .lt 14, 3) := by decide +kernel
theorem dX5_fits_77 : decode cX5_fits 77 = .ok (.iload_n 1, 1) := by decide +kernel
theorem dX5_fits_78 : decode cX5_fits 78 = .ok (.sipush 1000, 3) := by decide +kernel
theorem dX5_fits_81 : decode cX5_fits 81 = .ok (.if_icmp .ge 7, 3) := by decide +kernel
theorem dX5_fits_84 : decode cX5_fits 84 = .ok (.iconst 1, 1) := by decide +kernel
theorem dX5_fits_85 : decode cX5_fits 85 = .ok (.goto 4, 3) := by decide +kernel
theorem dX5_fits_88 : decode cX5_fits 88 = .ok (.iconst 0, 1) := by decide +kernel
theorem dX5_fits_89 : decode cX5_fits 89 = .ok (.ireturn, 1) := by decide +kernel
theorem dX5_fits_90 : decode cX5_fits 90 = .ok (.iload_n 1, 1) := by decide +kernel
theorem dX5_fits_91 : decode cX5_fits 91 = .ok (.ifCond .lt 14, 3) := by decide +kernel
theorem dX5_fits_94 : decode cX5_fits 94 = .ok (.iload_n 1, 1) := by decide +kernel
theorem dX5_fits_95 : decode cX5_fits 95 = .ok (.sipush 4095, 3) := by decide +kernel
theorem dX5_fits_98 : decode cX5_fits 98 = .ok (.if_icmp .gt 7, 3) := by decide +kernel
theorem dX5_fits_101 : decode cX5_fits 101 = .ok (.iconst 1, 1) := by decide +kernel
theorem dX5_fits_102 : decode cX5_fits 102 = .ok (.goto 4, 3) := by decide +kernel
theorem dX5_fits_105 : decode cX5_fits 105 = .ok (.iconst 0, 1) := by decide +kernel
theorem dX5_fits_106 : decode cX5_fits 106 = .ok (.ireturn, 1) := by decide +kernel
theorem dX5_fits_107 : decode cX5_fits 107 = .ok (.iload_n 1, 1) := by decide +kernel
theorem dX5_fits_108 : decode cX5_fits 108 = .ok (.ifCond .lt 13, 3) := by decide +kernel
theorem dX5_fits_111 : decode cX5_fits 111 = .ok (.iload_n 1, 1) := by decide +kernel
theorem dX5_fits_112 : decode cX5_fits 112 = .ok (.bipush 12, 2) := by decide +kernel
theorem dX5_fits_114 : decode cX5_fits 114 = .ok (.if_icmp .ge 7, 3) := by decide +kernel
theorem dX5_fits_117 : decode cX5_fits 117 = .ok (.iconst 1, 1) := by decide +kernel
theorem dX5_fits_118 : decode cX5_fits 118 = .ok (.goto 4, 3) := by decide +kernel
theorem dX5_fits_121 : decode cX5_fits 121 = .ok (.iconst 0, 1) := by decide +kernel
theorem dX5_fits_122 : decode cX5_fits 122 = .ok (.ireturn, 1) := by decide +kernel
theorem dX5_fits_123 : decode cX5_fits 123 = .ok (.iload_n 1, 1) := by decide +kernel
theorem dX5_fits_124 : decode cX5_fits 124 = .ok (.ifCond .lt 13, 3) := by decide +kernel
theorem dX5_fits_127 : decode cX5_fits 127 = .ok (.iload_n 1, 1) := by decide +kernel
theorem dX5_fits_128 : decode cX5_fits 128 = .ok (.bipush 63, 2) := by decide +kernel
theorem dX5_fits_130 : decode cX5_fits 130 = .ok (.if_icmp .gt 7, 3) := by decide +kernel
theorem dX5_fits_133 : decode cX5_fits 133 = .ok (.iconst 1, 1) := by decide +kernel
theorem dX5_fits_134 : decode cX5_fits 134 = .ok (.goto 4, 3) := by decide +kernel
theorem dX5_fits_137 : decode cX5_fits 137 = .ok (.iconst 0, 1) := by decide +kernel
theorem dX5_fits_138 : decode cX5_fits 138 = .ok (.ireturn, 1) := by decide +kernel
theorem dX5_fits_139 : decode cX5_fits 139 = .ok (.iconst 0, 1) := by decide +kernel
theorem dX5_fits_140 : decode cX5_fits 140 = .ok (.ireturn, 1) := by decide +kernel
theorem dX5_isUnder_0 : decode cX5_isUnder 0 = .ok (.iload_n 0, 1) := by decide +kernel
theorem dX5_isUnder_1 : decode cX5_isUnder 1 = .ok (.istore_n 2, 1) := by decide +kernel
theorem dX5_isUnder_2 : decode cX5_isUnder 2 = .ok (.iconst 0, 1) := by decide +kernel
theorem dX5_isUnder_3 : decode cX5_isUnder 3 = .ok (.istore_n 3, 1) := by decide +kernel
theorem dX5_isUnder_4 : decode cX5_isUnder 4 = .ok (.iload_n 3, 1) := by decide +kernel
theorem dX5_isUnder_5 : decode cX5_isUnder 5 = .ok (.bipush 6, 2) := by decide +kernel
theorem dX5_isUnder_7 : decode cX5_isUnder 7 = .ok (.if_icmp .ge 32, 3) := by decide +kernel
theorem dX5_isUnder_10 : decode cX5_isUnder 10 = .ok (.iload_n 2, 1) := by decide +kernel
theorem dX5_isUnder_11 : decode cX5_isUnder 11 = .ok (.ifCond .lt 28, 3) := by decide +kernel
theorem dX5_isUnder_14 : decode cX5_isUnder 14 = .ok (.iload_n 2, 1) := by decide +kernel
theorem dX5_isUnder_15 : decode cX5_isUnder 15 = .ok (.bipush 6, 2) := by decide +kernel
theorem dX5_isUnder_17 : decode cX5_isUnder 17 = .ok (.if_icmp .ge 22, 3) := by decide +kernel
theorem dX5_isUnder_20 : decode cX5_isUnder 20 = .ok (.iload_n 2, 1) := by decide +kernel
theorem dX5_isUnder_21 : decode cX5_isUnder 21 = .ok (.iload_n 1, 1) := by decide +kernel
theorem dX5_isUnder_22 : decode cX5_isUnder 22 = .ok (.if_icmp .ne 5, 3) := by decide +kernel
theorem dX5_isUnder_25 : decode cX5_isUnder 25 = .ok (.iconst 1, 1) := by decide +kernel
theorem dX5_isUnder_26 : decode cX5_isUnder 26 = .ok (.ireturn, 1) := by decide +kernel
theorem dX5_isUnder_27 : decode cX5_isUnder 27 = .ok (.getstatic 281, 3) := by decide +kernel
theorem dX5_isUnder_30 : decode cX5_isUnder 30 = .ok (.iload_n 2, 1) := by decide +kernel
theorem dX5_isUnder_31 : decode cX5_isUnder 31 = .ok (.iaload, 1) := by decide +kernel
theorem dX5_isUnder_32 : decode cX5_isUnder 32 = .ok (.istore_n 2, 1) := by decide +kernel
theorem dX5_isUnder_33 : decode cX5_isUnder 33 = .ok (.iinc 3 1, 3) := by decide +kernel
theorem dX5_isUnder_36 : decode cX5_isUnder 36 = .ok (.goto (-32), 3) := by decide +kernel
theorem dX5_isUnder_39 : decode cX5_isUnder 39 = .ok (.iconst 0, 1) := by decide +kernel
theorem dX5_isUnder_40 : decode cX5_isUnder 40 = .ok (.ireturn, 1) := by decide +kernel
theorem dX5_isShowing_0 : decode cX5_isShowing 0 = .ok (.aload_n 1, 1) := by decide +kernel
theorem dX5_isShowing_1 : decode cX5_isShowing 1 = .ok (.getfield 155, 3) := by decide +kernel
theorem dX5_isShowing_4 : decode cX5_isShowing 4 = .ok (.iconst (-1), 1) := by decide +kernel
theorem dX5_isShowing_5 : decode cX5_isShowing 5 = .ok (.if_icmp .eq 17, 3) := by decide +kernel
theorem dX5_isShowing_8 : decode cX5_isShowing 8 = .ok (.aload_n 1, 1) := by decide +kernel
theorem dX5_isShowing_9 : decode cX5_isShowing 9 = .ok (.getfield 223, 3) := by decide +kernel
theorem dX5_isShowing_12 : decode cX5_isShowing 12 = .ok (.aload_n 0, 1) := by decide +kernel
theorem dX5_isShowing_13 : decode cX5_isShowing 13 = .ok (.getfield 42, 3) := by decide +kernel
theorem dX5_isShowing_16 : decode cX5_isShowing 16 = .ok (.getfield 206, 3) := by decide +kernel
theorem dX5_isShowing_19 : decode cX5_isShowing 19 = .ok (.if_icmp .eq 5, 3) := by decide +kernel
theorem dX5_isShowing_22 : decode cX5_isShowing 22 = .ok (.iconst 0, 1) := by decide +kernel
theorem dX5_isShowing_23 : decode cX5_isShowing 23 = .ok (.ireturn, 1) := by decide +kernel
theorem dX5_isShowing_24 : decode cX5_isShowing 24 = .ok (.iconst 0, 1) := by decide +kernel
theorem dX5_isShowing_25 : decode cX5_isShowing 25 = .ok (.istore_n 2, 1) := by decide +kernel
theorem dX5_isShowing_26 : decode cX5_isShowing 26 = .ok (.iload_n 2, 1) := by decide +kernel
theorem dX5_isShowing_27 : decode cX5_isShowing 27 = .ok (.aload_n 1, 1) := by decide +kernel
theorem dX5_isShowing_28 : decode cX5_isShowing 28 = .ok (.getfield 223, 3) := by decide +kernel
theorem dX5_isShowing_31 : decode cX5_isShowing 31 = .ok (.if_icmp .ge 37, 3) := by decide +kernel
theorem dX5_isShowing_34 : decode cX5_isShowing 34 = .ok (.aload_n 1, 1) := by decide +kernel
theorem dX5_isShowing_35 : decode cX5_isShowing 35 = .ok (.getfield 269, 3) := by decide +kernel
theorem dX5_isShowing_38 : decode cX5_isShowing 38 = .ok (.iload_n 2, 1) := by decide +kernel
theorem dX5_isShowing_39 : decode cX5_isShowing 39 = .ok (.iaload, 1) := by decide +kernel
theorem dX5_isShowing_40 : decode cX5_isShowing 40 = .ok (.iconst (-1), 1) := by decide +kernel
theorem dX5_isShowing_41 : decode cX5_isShowing 41 = .ok (.if_icmp .eq 21, 3) := by decide +kernel
theorem dX5_isShowing_44 : decode cX5_isShowing 44 = .ok (.aload_n 0, 1) := by decide +kernel
theorem dX5_isShowing_45 : decode cX5_isShowing 45 = .ok (.getfield 42, 3) := by decide +kernel
theorem dX5_isShowing_48 : decode cX5_isShowing 48 = .ok (.aload_n 1, 1) := by decide +kernel
theorem dX5_isShowing_49 : decode cX5_isShowing 49 = .ok (.getfield 269, 3) := by decide +kernel
theorem dX5_isShowing_52 : decode cX5_isShowing 52 = .ok (.iload_n 2, 1) := by decide +kernel
theorem dX5_isShowing_53 : decode cX5_isShowing 53 = .ok (.iaload, 1) := by decide +kernel
theorem dX5_isShowing_54 : decode cX5_isShowing 54 = .ok (.invokevirtual 101, 3) := by decide +kernel
theorem dX5_isShowing_57 : decode cX5_isShowing 57 = .ok (.ifCond .ne 5, 3) := by decide +kernel
theorem dX5_isShowing_60 : decode cX5_isShowing 60 = .ok (.iconst 0, 1) := by decide +kernel
theorem dX5_isShowing_61 : decode cX5_isShowing 61 = .ok (.ireturn, 1) := by decide +kernel
theorem dX5_isShowing_62 : decode cX5_isShowing 62 = .ok (.iinc 2 1, 3) := by decide +kernel
theorem dX5_isShowing_65 : decode cX5_isShowing 65 = .ok (.goto (-39), 3) := by decide +kernel
theorem dX5_isShowing_68 : decode cX5_isShowing 68 = .ok (.iconst 1, 1) := by decide +kernel
theorem dX5_isShowing_69 : decode cX5_isShowing 69 = .ok (.ireturn, 1) := by decide +kernel
theorem dX5_playSheet_0 : decode cX5_playSheet 0 = .ok (.aload_n 0, 1) := by decide +kernel
theorem dX5_playSheet_1 : decode cX5_playSheet 1 = .ok (.getfield 25, 3) := by decide +kernel
theorem dX5_playSheet_4 : decode cX5_playSheet 4 = .ok (.aload_n 0, 1) := by decide +kernel
theorem dX5_playSheet_5 : decode cX5_playSheet 5 = .ok (.getfield 42, 3) := by decide +kernel
theorem dX5_playSheet_8 : decode cX5_playSheet 8 = .ok (.invokevirtual 170, 3) := by decide +kernel
theorem dX5_playSheet_11 : decode cX5_playSheet 11 = .ok (.aload_n 1, 1) := by decide +kernel
theorem dX5_playSheet_12 : decode cX5_playSheet 12 = .ok (.getfield 269, 3) := by decide +kernel
theorem dX5_playSheet_15 : decode cX5_playSheet 15 = .ok (.iconst 0, 1) := by decide +kernel
theorem dX5_playSheet_16 : decode cX5_playSheet 16 = .ok (.aload_n 0, 1) := by decide +kernel
theorem dX5_playSheet_17 : decode cX5_playSheet 17 = .ok (.getfield 25, 3) := by decide +kernel
theorem dX5_playSheet_20 : decode cX5_playSheet 20 = .ok (.getfield 284, 3) := by decide +kernel
theorem dX5_playSheet_23 : decode cX5_playSheet 23 = .ok (.iconst 0, 1) := by decide +kernel
theorem dX5_playSheet_24 : decode cX5_playSheet 24 = .ok (.aload_n 0, 1) := by decide +kernel
theorem dX5_playSheet_25 : decode cX5_playSheet 25 = .ok (.getfield 42, 3) := by decide +kernel
theorem dX5_playSheet_28 : decode cX5_playSheet 28 = .ok (.getfield 206, 3) := by decide +kernel
theorem dX5_playSheet_31 : decode cX5_playSheet 31 = .ok (.invokestatic 164, 3) := by decide +kernel
theorem dX5_playSheet_34 : decode cX5_playSheet 34 = .ok (.aload_n 0, 1) := by decide +kernel
theorem dX5_playSheet_35 : decode cX5_playSheet 35 = .ok (.getfield 25, 3) := by decide +kernel
theorem dX5_playSheet_38 : decode cX5_playSheet 38 = .ok (.invokevirtual 191, 3) := by decide +kernel
theorem dX5_playSheet_41 : decode cX5_playSheet 41 = .ok (.return_, 1) := by decide +kernel
theorem dX5_gladdestOf_0 : decode cX5_gladdestOf 0 = .ok (.aload_n 0, 1) := by decide +kernel
theorem dX5_gladdestOf_1 : decode cX5_gladdestOf 1 = .ok (.getfield 25, 3) := by decide +kernel
theorem dX5_gladdestOf_4 : decode cX5_gladdestOf 4 = .ok (.aload_n 1, 1) := by decide +kernel
theorem dX5_gladdestOf_5 : decode cX5_gladdestOf 5 = .ok (.invokevirtual 170, 3) := by decide +kernel
theorem dX5_gladdestOf_8 : decode cX5_gladdestOf 8 = .ok (.aload_n 0, 1) := by decide +kernel
theorem dX5_gladdestOf_9 : decode cX5_gladdestOf 9 = .ok (.getfield 25, 3) := by decide +kernel
theorem dX5_gladdestOf_12 : decode cX5_gladdestOf 12 = .ok (.aload_n 0, 1) := by decide +kernel
theorem dX5_gladdestOf_13 : decode cX5_gladdestOf 13 = .ok (.getfield 25, 3) := by decide +kernel
theorem dX5_gladdestOf_16 : decode cX5_gladdestOf 16 = .ok (.getfield 177, 3) := by decide +kernel
theorem dX5_gladdestOf_19 : decode cX5_gladdestOf 19 = .ok (.bipush 63, 2) := by decide +kernel
theorem dX5_gladdestOf_21 : decode cX5_gladdestOf 21 = .ok (.invokevirtual 184, 3) := by decide +kernel
theorem dX5_gladdestOf_24 : decode cX5_gladdestOf 24 = .ok (.ireturn, 1) := by decide +kernel
theorem dX5_plainJoyDrawn_0 : decode cX5_plainJoyDrawn 0 = .ok (.iload_n 1, 1) := by decide +kernel
theorem dX5_plainJoyDrawn_1 : decode cX5_plainJoyDrawn 1 = .ok (.istore_n 2, 1) := by decide +kernel
theorem dX5_plainJoyDrawn_2 : decode cX5_plainJoyDrawn 2 = .ok (.iconst 0, 1) := by decide +kernel
theorem dX5_plainJoyDrawn_3 : decode cX5_plainJoyDrawn 3 = .ok (.istore_n 3, 1) := by decide +kernel
theorem dX5_plainJoyDrawn_4 : decode cX5_plainJoyDrawn 4 = .ok (.iload_n 3, 1) := by decide +kernel
theorem dX5_plainJoyDrawn_5 : decode cX5_plainJoyDrawn 5 = .ok (.aload_n 0, 1) := by decide +kernel
theorem dX5_plainJoyDrawn_6 : decode cX5_plainJoyDrawn 6 = .ok (.getfield 46, 3) := by decide +kernel
theorem dX5_plainJoyDrawn_9 : decode cX5_plainJoyDrawn 9 = .ok (.getfield 161, 3) := by decide +kernel
theorem dX5_plainJoyDrawn_12 : decode cX5_plainJoyDrawn 12 = .ok (.if_icmp .ge 35, 3) := by decide +kernel
theorem dX5_plainJoyDrawn_15 : decode cX5_plainJoyDrawn 15 = .ok (.iload_n 2, 1) := by decide +kernel
theorem dX5_plainJoyDrawn_16 : decode cX5_plainJoyDrawn 16 = .ok (.ldc_w 287, 3) := by decide +kernel
theorem dX5_plainJoyDrawn_19 : decode cX5_plainJoyDrawn 19 = .ok (.imul, 1) := by decide +kernel
theorem dX5_plainJoyDrawn_20 : decode cX5_plainJoyDrawn 20 = .ok (.sipush 12345, 3) := by decide +kernel
theorem dX5_plainJoyDrawn_23 : decode cX5_plainJoyDrawn 23 = .ok (.iadd, 1) := by decide +kernel
theorem dX5_plainJoyDrawn_24 : decode cX5_plainJoyDrawn 24 = .ok (.istore_n 2, 1) := by decide +kernel
theorem dX5_plainJoyDrawn_25 : decode cX5_plainJoyDrawn 25 = .ok (.aload_n 0, 1) := by decide +kernel
theorem dX5_plainJoyDrawn_26 : decode cX5_plainJoyDrawn 26 = .ok (.getfield 46, 3) := by decide +kernel
theorem dX5_plainJoyDrawn_29 : decode cX5_plainJoyDrawn 29 = .ok (.getfield 158, 3) := by decide +kernel
theorem dX5_plainJoyDrawn_32 : decode cX5_plainJoyDrawn 32 = .ok (.iload_n 3, 1) := by decide +kernel
theorem dX5_plainJoyDrawn_33 : decode cX5_plainJoyDrawn 33 = .ok (.iload_n 2, 1) := by decide +kernel
theorem dX5_plainJoyDrawn_34 : decode cX5_plainJoyDrawn 34 = .ok (.bipush 9, 2) := by decide +kernel
theorem dX5_plainJoyDrawn_36 : decode cX5_plainJoyDrawn 36 = .ok (.iushr, 1) := by decide +kernel
theorem dX5_plainJoyDrawn_37 : decode cX5_plainJoyDrawn 37 = .ok (.bipush 100, 2) := by decide +kernel
theorem dX5_plainJoyDrawn_39 : decode cX5_plainJoyDrawn 39 = .ok (.irem, 1) := by decide +kernel
theorem dX5_plainJoyDrawn_40 : decode cX5_plainJoyDrawn 40 = .ok (.iastore, 1) := by decide +kernel
theorem dX5_plainJoyDrawn_41 : decode cX5_plainJoyDrawn 41 = .ok (.iinc 3 1, 3) := by decide +kernel
theorem dX5_plainJoyDrawn_44 : decode cX5_plainJoyDrawn 44 = .ok (.goto (-40), 3) := by decide +kernel
theorem dX5_plainJoyDrawn_47 : decode cX5_plainJoyDrawn 47 = .ok (.aload_n 0, 1) := by decide +kernel
theorem dX5_plainJoyDrawn_48 : decode cX5_plainJoyDrawn 48 = .ok (.getfield 25, 3) := by decide +kernel
theorem dX5_plainJoyDrawn_51 : decode cX5_plainJoyDrawn 51 = .ok (.aload_n 0, 1) := by decide +kernel
theorem dX5_plainJoyDrawn_52 : decode cX5_plainJoyDrawn 52 = .ok (.getfield 46, 3) := by decide +kernel
theorem dX5_plainJoyDrawn_55 : decode cX5_plainJoyDrawn 55 = .ok (.invokevirtual 170, 3) := by decide +kernel
theorem dX5_plainJoyDrawn_58 : decode cX5_plainJoyDrawn 58 = .ok (.aload_n 0, 1) := by decide +kernel
theorem dX5_plainJoyDrawn_59 : decode cX5_plainJoyDrawn 59 = .ok (.getfield 25, 3) := by decide +kernel
theorem dX5_plainJoyDrawn_62 : decode cX5_plainJoyDrawn 62 = .ok (.aload_n 0, 1) := by decide +kernel
theorem dX5_plainJoyDrawn_63 : decode cX5_plainJoyDrawn 63 = .ok (.getfield 46, 3) := by decide +kernel
theorem dX5_plainJoyDrawn_66 : decode cX5_plainJoyDrawn 66 = .ok (.invokevirtual 174, 3) := by decide +kernel
theorem dX5_plainJoyDrawn_69 : decode cX5_plainJoyDrawn 69 = .ok (.aload_n 0, 1) := by decide +kernel
theorem dX5_plainJoyDrawn_70 : decode cX5_plainJoyDrawn 70 = .ok (.getfield 25, 3) := by decide +kernel
theorem dX5_plainJoyDrawn_73 : decode cX5_plainJoyDrawn 73 = .ok (.invokevirtual 191, 3) := by decide +kernel
theorem dX5_plainJoyDrawn_76 : decode cX5_plainJoyDrawn 76 = .ok (.aload_n 0, 1) := by decide +kernel
theorem dX5_plainJoyDrawn_77 : decode cX5_plainJoyDrawn 77 = .ok (.getfield 25, 3) := by decide +kernel
theorem dX5_plainJoyDrawn_80 : decode cX5_plainJoyDrawn 80 = .ok (.getfield 145, 3) := by decide +kernel
theorem dX5_plainJoyDrawn_83 : decode cX5_plainJoyDrawn 83 = .ok (.ireturn, 1) := by decide +kernel
theorem dX5_commonDivisor_0 : decode cX5_commonDivisor 0 = .ok (.iload_n 1, 1) := by decide +kernel
theorem dX5_commonDivisor_1 : decode cX5_commonDivisor 1 = .ok (.istore_n 2, 1) := by decide +kernel
theorem dX5_commonDivisor_2 : decode cX5_commonDivisor 2 = .ok (.iload_n 2, 1) := by decide +kernel
theorem dX5_commonDivisor_3 : decode cX5_commonDivisor 3 = .ok (.iconst 1, 1) := by decide +kernel
theorem dX5_commonDivisor_4 : decode cX5_commonDivisor 4 = .ok (.if_icmp .le 23, 3) := by decide +kernel
theorem dX5_commonDivisor_7 : decode cX5_commonDivisor 7 = .ok (.iload_n 1, 1) := by decide +kernel
theorem dX5_commonDivisor_8 : decode cX5_commonDivisor 8 = .ok (.iload_n 2, 1) := by decide +kernel
theorem dX5_commonDivisor_9 : decode cX5_commonDivisor 9 = .ok (.irem, 1) := by decide +kernel
theorem dX5_commonDivisor_10 : decode cX5_commonDivisor 10 = .ok (.ifCond .ne 11, 3) := by decide +kernel
theorem dX5_commonDivisor_13 : decode cX5_commonDivisor 13 = .ok (.iload_n 0, 1) := by decide +kernel
theorem dX5_commonDivisor_14 : decode cX5_commonDivisor 14 = .ok (.iload_n 2, 1) := by decide +kernel
theorem dX5_commonDivisor_15 : decode cX5_commonDivisor 15 = .ok (.irem, 1) := by decide +kernel
theorem dX5_commonDivisor_16 : decode cX5_commonDivisor 16 = .ok (.ifCond .ne 5, 3) := by decide +kernel
theorem dX5_commonDivisor_19 : decode cX5_commonDivisor 19 = .ok (.iload_n 2, 1) := by decide +kernel
theorem dX5_commonDivisor_20 : decode cX5_commonDivisor 20 = .ok (.ireturn, 1) := by decide +kernel
theorem dX5_commonDivisor_21 : decode cX5_commonDivisor 21 = .ok (.iinc 2 (-1), 3) := by decide +kernel
theorem dX5_commonDivisor_24 : decode cX5_commonDivisor 24 = .ok (.goto (-22), 3) := by decide +kernel
theorem dX5_commonDivisor_27 : decode cX5_commonDivisor 27 = .ok (.iconst 1, 1) := by decide +kernel
theorem dX5_commonDivisor_28 : decode cX5_commonDivisor 28 = .ok (.ireturn, 1) := by decide +kernel
theorem dX5_kindsTold_0 : decode cX5_kindsTold 0 = .ok (.iconst 0, 1) := by decide +kernel
theorem dX5_kindsTold_1 : decode cX5_kindsTold 1 = .ok (.istore_n 3, 1) := by decide +kernel
theorem dX5_kindsTold_2 : decode cX5_kindsTold 2 = .ok (.aload_n 0, 1) := by decide +kernel
theorem dX5_kindsTold_3 : decode cX5_kindsTold 3 = .ok (.getfield 46, 3) := by decide +kernel
theorem dX5_kindsTold_6 : decode cX5_kindsTold 6 = .ok (.aload_n 0, 1) := by decide +kernel
theorem dX5_kindsTold_7 : decode cX5_kindsTold 7 = .ok (.getfield 42, 3) := by decide +kernel
theorem dX5_kindsTold_10 : decode cX5_kindsTold 10 = .ok (.invokevirtual 209, 3) := by decide +kernel
theorem dX5_kindsTold_13 : decode cX5_kindsTold 13 = .ok (.iconst 0, 1) := by decide +kernel
theorem dX5_kindsTold_14 : decode cX5_kindsTold 14 = .ok (.istore 4, 2) := by decide +kernel
theorem dX5_kindsTold_16 : decode cX5_kindsTold 16 = .ok (.iload 4, 2) := by decide +kernel
theorem dX5_kindsTold_18 : decode cX5_kindsTold 18 = .ok (.bipush 6, 2) := by decide +kernel
theorem dX5_kindsTold_20 : decode cX5_kindsTold 20 = .ok (.if_icmp .ge 44, 3) := by decide +kernel
theorem dX5_kindsTold_23 : decode cX5_kindsTold 23 = .ok (.aload_n 0, 1) := by decide +kernel
theorem dX5_kindsTold_24 : decode cX5_kindsTold 24 = .ok (.getfield 46, 3) := by decide +kernel
theorem dX5_kindsTold_27 : decode cX5_kindsTold 27 = .ok (.getfield 272, 3) := by decide +kernel
theorem dX5_kindsTold_30 : decode cX5_kindsTold 30 = .ok (.iload_n 2, 1) := by decide +kernel
theorem dX5_kindsTold_31 : decode cX5_kindsTold 31 = .ok (.iload 4, 2) := by decide +kernel
theorem dX5_kindsTold_33 : decode cX5_kindsTold 33 = .ok (.iastore, 1) := by decide +kernel
theorem dX5_kindsTold_34 : decode cX5_kindsTold 34 = .ok (.iload_n 3, 1) := by decide +kernel
theorem dX5_kindsTold_35 : decode cX5_kindsTold 35 = .ok (.aload_n 0, 1) := by decide +kernel
theorem dX5_kindsTold_36 : decode cX5_kindsTold 36 = .ok (.getfield 46, 3) := by decide +kernel
theorem dX5_kindsTold_39 : decode cX5_kindsTold 39 = .ok (.iload_n 2, 1) := by decide +kernel
theorem dX5_kindsTold_40 : decode cX5_kindsTold 40 = .ok (.aload_n 1, 1) := by decide +kernel
theorem dX5_kindsTold_41 : decode cX5_kindsTold 41 = .ok (.invokevirtual 224, 3) := by decide +kernel
theorem dX5_kindsTold_44 : decode cX5_kindsTold 44 = .ok (.iconst (-1), 1) := by decide +kernel
theorem dX5_kindsTold_45 : decode cX5_kindsTold 45 = .ok (.if_icmp .ne 10, 3) := by decide +kernel
theorem dX5_kindsTold_48 : decode cX5_kindsTold 48 = .ok (.iconst 1, 1) := by decide +kernel
theorem dX5_kindsTold_49 : decode cX5_kindsTold 49 = .ok (.iload 4, 2) := by decide +kernel
theorem dX5_kindsTold_51 : decode cX5_kindsTold 51 = .ok (.ishl, 1) := by decide +kernel
theorem dX5_kindsTold_52 : decode cX5_kindsTold 52 = .ok (.goto 4, 3) := by decide +kernel
theorem dX5_kindsTold_55 : decode cX5_kindsTold 55 = .ok (.iconst 0, 1) := by decide +kernel
theorem dX5_kindsTold_56 : decode cX5_kindsTold 56 = .ok (.ior, 1) := by decide +kernel
theorem dX5_kindsTold_57 : decode cX5_kindsTold 57 = .ok (.istore_n 3, 1) := by decide +kernel
theorem dX5_kindsTold_58 : decode cX5_kindsTold 58 = .ok (.iinc 4 1, 3) := by decide +kernel
theorem dX5_kindsTold_61 : decode cX5_kindsTold 61 = .ok (.goto (-45), 3) := by decide +kernel
theorem dX5_kindsTold_64 : decode cX5_kindsTold 64 = .ok (.iload_n 3, 1) := by decide +kernel
theorem dX5_kindsTold_65 : decode cX5_kindsTold 65 = .ok (.ireturn, 1) := by decide +kernel
theorem dX5_numbersTold_0 : decode cX5_numbersTold 0 = .ok (.iconst 0, 1) := by decide +kernel
theorem dX5_numbersTold_1 : decode cX5_numbersTold 1 = .ok (.istore_n 3, 1) := by decide +kernel
theorem dX5_numbersTold_2 : decode cX5_numbersTold 2 = .ok (.aload_n 0, 1) := by decide +kernel
theorem dX5_numbersTold_3 : decode cX5_numbersTold 3 = .ok (.getfield 46, 3) := by decide +kernel
theorem dX5_numbersTold_6 : decode cX5_numbersTold 6 = .ok (.aload_n 0, 1) := by decide +kernel
theorem dX5_numbersTold_7 : decode cX5_numbersTold 7 = .ok (.getfield 42, 3) := by decide +kernel
theorem dX5_numbersTold_10 : decode cX5_numbersTold 10 = .ok (.invokevirtual 209, 3) := by decide +kernel
theorem dX5_numbersTold_13 : decode cX5_numbersTold 13 = .ok (.iconst 0, 1) := by decide +kernel
theorem dX5_numbersTold_14 : decode cX5_numbersTold 14 = .ok (.istore 4, 2) := by decide +kernel
theorem dX5_numbersTold_16 : decode cX5_numbersTold 16 = .ok (.iload 4, 2) := by decide +kernel
theorem dX5_numbersTold_18 : decode cX5_numbersTold 18 = .ok (.bipush 10, 2) := by decide +kernel
theorem dX5_numbersTold_20 : decode cX5_numbersTold 20 = .ok (.if_icmp .ge 44, 3) := by decide +kernel
theorem dX5_numbersTold_23 : decode cX5_numbersTold 23 = .ok (.aload_n 0, 1) := by decide +kernel
theorem dX5_numbersTold_24 : decode cX5_numbersTold 24 = .ok (.getfield 46, 3) := by decide +kernel
theorem dX5_numbersTold_27 : decode cX5_numbersTold 27 = .ok (.getfield 278, 3) := by decide +kernel
theorem dX5_numbersTold_30 : decode cX5_numbersTold 30 = .ok (.iload_n 2, 1) := by decide +kernel
theorem dX5_numbersTold_31 : decode cX5_numbersTold 31 = .ok (.iload 4, 2) := by decide +kernel
theorem dX5_numbersTold_33 : decode cX5_numbersTold 33 = .ok (.iastore, 1) := by decide +kernel
theorem dX5_numbersTold_34 : decode cX5_numbersTold 34 = .ok (.iload_n 3, 1) := by decide +kernel
theorem dX5_numbersTold_35 : decode cX5_numbersTold 35 = .ok (.aload_n 0, 1) := by decide +kernel
theorem dX5_numbersTold_36 : decode cX5_numbersTold 36 = .ok (.getfield 46, 3) := by decide +kernel
theorem dX5_numbersTold_39 : decode cX5_numbersTold 39 = .ok (.iload_n 2, 1) := by decide +kernel
theorem dX5_numbersTold_40 : decode cX5_numbersTold 40 = .ok (.aload_n 1, 1) := by decide +kernel
theorem dX5_numbersTold_41 : decode cX5_numbersTold 41 = .ok (.invokevirtual 224, 3) := by decide +kernel
theorem dX5_numbersTold_44 : decode cX5_numbersTold 44 = .ok (.iconst (-1), 1) := by decide +kernel
theorem dX5_numbersTold_45 : decode cX5_numbersTold 45 = .ok (.if_icmp .ne 10, 3) := by decide +kernel
theorem dX5_numbersTold_48 : decode cX5_numbersTold 48 = .ok (.iconst 1, 1) := by decide +kernel
theorem dX5_numbersTold_49 : decode cX5_numbersTold 49 = .ok (.iload 4, 2) := by decide +kernel
theorem dX5_numbersTold_51 : decode cX5_numbersTold 51 = .ok (.ishl, 1) := by decide +kernel
theorem dX5_numbersTold_52 : decode cX5_numbersTold 52 = .ok (.goto 4, 3) := by decide +kernel
theorem dX5_numbersTold_55 : decode cX5_numbersTold 55 = .ok (.iconst 0, 1) := by decide +kernel
theorem dX5_numbersTold_56 : decode cX5_numbersTold 56 = .ok (.ior, 1) := by decide +kernel
theorem dX5_numbersTold_57 : decode cX5_numbersTold 57 = .ok (.istore_n 3, 1) := by decide +kernel
theorem dX5_numbersTold_58 : decode cX5_numbersTold 58 = .ok (.iinc 4 1, 3) := by decide +kernel
theorem dX5_numbersTold_61 : decode cX5_numbersTold 61 = .ok (.goto (-45), 3) := by decide +kernel
theorem dX5_numbersTold_64 : decode cX5_numbersTold 64 = .ok (.iload_n 3, 1) := by decide +kernel
theorem dX5_numbersTold_65 : decode cX5_numbersTold 65 = .ok (.ireturn, 1) := by decide +kernel
theorem dX5_ratesTold_0 : decode cX5_ratesTold 0 = .ok (.iconst 0, 1) := by decide +kernel
theorem dX5_ratesTold_1 : decode cX5_ratesTold 1 = .ok (.istore_n 3, 1) := by decide +kernel
theorem dX5_ratesTold_2 : decode cX5_ratesTold 2 = .ok (.aload_n 0, 1) := by decide +kernel
theorem dX5_ratesTold_3 : decode cX5_ratesTold 3 = .ok (.getfield 46, 3) := by decide +kernel
theorem dX5_ratesTold_6 : decode cX5_ratesTold 6 = .ok (.aload_n 0, 1) := by decide +kernel
theorem dX5_ratesTold_7 : decode cX5_ratesTold 7 = .ok (.getfield 42, 3) := by decide +kernel
theorem dX5_ratesTold_10 : decode cX5_ratesTold 10 = .ok (.invokevirtual 209, 3) := by decide +kernel
theorem dX5_ratesTold_13 : decode cX5_ratesTold 13 = .ok (.iconst 1, 1) := by decide +kernel
theorem dX5_ratesTold_14 : decode cX5_ratesTold 14 = .ok (.istore 4, 2) := by decide +kernel
theorem dX5_ratesTold_16 : decode cX5_ratesTold 16 = .ok (.iload 4, 2) := by decide +kernel
theorem dX5_ratesTold_18 : decode cX5_ratesTold 18 = .ok (.bipush 10, 2) := by decide +kernel
theorem dX5_ratesTold_20 : decode cX5_ratesTold 20 = .ok (.if_icmp .ge 42, 3) := by decide +kernel
theorem dX5_ratesTold_23 : decode cX5_ratesTold 23 = .ok (.aload_n 0, 1) := by decide +kernel
theorem dX5_ratesTold_24 : decode cX5_ratesTold 24 = .ok (.getfield 46, 3) := by decide +kernel
theorem dX5_ratesTold_27 : decode cX5_ratesTold 27 = .ok (.iload 4, 2) := by decide +kernel
theorem dX5_ratesTold_29 : decode cX5_ratesTold 29 = .ok (.putfield 220, 3) := by decide +kernel
theorem dX5_ratesTold_32 : decode cX5_ratesTold 32 = .ok (.iload_n 3, 1) := by decide +kernel
theorem dX5_ratesTold_33 : decode cX5_ratesTold 33 = .ok (.aload_n 0, 1) := by decide +kernel
theorem dX5_ratesTold_34 : decode cX5_ratesTold 34 = .ok (.getfield 46, 3) := by decide +kernel
theorem dX5_ratesTold_37 : decode cX5_ratesTold 37 = .ok (.iload_n 2, 1) := by decide +kernel
theorem dX5_ratesTold_38 : decode cX5_ratesTold 38 = .ok (.aload_n 1, 1) := by decide +kernel
theorem dX5_ratesTold_39 : decode cX5_ratesTold 39 = .ok (.invokevirtual 224, 3) := by decide +kernel
theorem dX5_ratesTold_42 : decode cX5_ratesTold 42 = .ok (.iconst (-1), 1) := by decide +kernel
theorem dX5_ratesTold_43 : decode cX5_ratesTold 43 = .ok (.if_icmp .ne 10, 3) := by decide +kernel
theorem dX5_ratesTold_46 : decode cX5_ratesTold 46 = .ok (.iconst 1, 1) := by decide +kernel
theorem dX5_ratesTold_47 : decode cX5_ratesTold 47 = .ok (.iload 4, 2) := by decide +kernel
theorem dX5_ratesTold_49 : decode cX5_ratesTold 49 = .ok (.ishl, 1) := by decide +kernel
theorem dX5_ratesTold_50 : decode cX5_ratesTold 50 = .ok (.goto 4, 3) := by decide +kernel
theorem dX5_ratesTold_53 : decode cX5_ratesTold 53 = .ok (.iconst 0, 1) := by decide +kernel
theorem dX5_ratesTold_54 : decode cX5_ratesTold 54 = .ok (.ior, 1) := by decide +kernel
theorem dX5_ratesTold_55 : decode cX5_ratesTold 55 = .ok (.istore_n 3, 1) := by decide +kernel
theorem dX5_ratesTold_56 : decode cX5_ratesTold 56 = .ok (.iinc 4 1, 3) := by decide +kernel
theorem dX5_ratesTold_59 : decode cX5_ratesTold 59 = .ok (.goto (-43), 3) := by decide +kernel
theorem dX5_ratesTold_62 : decode cX5_ratesTold 62 = .ok (.iload_n 3, 1) := by decide +kernel
theorem dX5_ratesTold_63 : decode cX5_ratesTold 63 = .ok (.ireturn, 1) := by decide +kernel
theorem dX5_textsTold_0 : decode cX5_textsTold 0 = .ok (.iconst 0, 1) := by decide +kernel
theorem dX5_textsTold_1 : decode cX5_textsTold 1 = .ok (.istore_n 3, 1) := by decide +kernel
theorem dX5_textsTold_2 : decode cX5_textsTold 2 = .ok (.aload_n 0, 1) := by decide +kernel
theorem dX5_textsTold_3 : decode cX5_textsTold 3 = .ok (.getfield 46, 3) := by decide +kernel
theorem dX5_textsTold_6 : decode cX5_textsTold 6 = .ok (.aload_n 0, 1) := by decide +kernel
theorem dX5_textsTold_7 : decode cX5_textsTold 7 = .ok (.getfield 42, 3) := by decide +kernel
theorem dX5_textsTold_10 : decode cX5_textsTold 10 = .ok (.invokevirtual 209, 3) := by decide +kernel
theorem dX5_textsTold_13 : decode cX5_textsTold 13 = .ok (.iconst 0, 1) := by decide +kernel
theorem dX5_textsTold_14 : decode cX5_textsTold 14 = .ok (.istore 4, 2) := by decide +kernel
theorem dX5_textsTold_16 : decode cX5_textsTold 16 = .ok (.iload 4, 2) := by decide +kernel
theorem dX5_textsTold_18 : decode cX5_textsTold 18 = .ok (.aload_n 0, 1) := by decide +kernel
theorem dX5_textsTold_19 : decode cX5_textsTold 19 = .ok (.getfield 75, 3) := by decide +kernel
theorem dX5_textsTold_22 : decode cX5_textsTold 22 = .ok (.if_icmp .ge 42, 3) := by decide +kernel
theorem dX5_textsTold_25 : decode cX5_textsTold 25 = .ok (.aload_n 0, 1) := by decide +kernel
theorem dX5_textsTold_26 : decode cX5_textsTold 26 = .ok (.getfield 46, 3) := by decide +kernel
theorem dX5_textsTold_29 : decode cX5_textsTold 29 = .ok (.iload 4, 2) := by decide +kernel
theorem dX5_textsTold_31 : decode cX5_textsTold 31 = .ok (.putfield 126, 3) := by decide +kernel
theorem dX5_textsTold_34 : decode cX5_textsTold 34 = .ok (.iload_n 3, 1) := by decide +kernel
theorem dX5_textsTold_35 : decode cX5_textsTold 35 = .ok (.aload_n 0, 1) := by decide +kernel
theorem dX5_textsTold_36 : decode cX5_textsTold 36 = .ok (.getfield 46, 3) := by decide +kernel
theorem dX5_textsTold_39 : decode cX5_textsTold 39 = .ok (.iload_n 2, 1) := by decide +kernel
theorem dX5_textsTold_40 : decode cX5_textsTold 40 = .ok (.aload_n 1, 1) := by decide +kernel
theorem dX5_textsTold_41 : decode cX5_textsTold 41 = .ok (.invokevirtual 224, 3) := by decide +kernel
theorem dX5_textsTold_44 : decode cX5_textsTold 44 = .ok (.iconst (-1), 1) := by decide +kernel
theorem dX5_textsTold_45 : decode cX5_textsTold 45 = .ok (.if_icmp .ne 10, 3) := by decide +kernel
theorem dX5_textsTold_48 : decode cX5_textsTold 48 = .ok (.iconst 1, 1) := by decide +kernel
theorem dX5_textsTold_49 : decode cX5_textsTold 49 = .ok (.iload 4, 2) := by decide +kernel
theorem dX5_textsTold_51 : decode cX5_textsTold 51 = .ok (.ishl, 1) := by decide +kernel
theorem dX5_textsTold_52 : decode cX5_textsTold 52 = .ok (.goto 4, 3) := by decide +kernel
theorem dX5_textsTold_55 : decode cX5_textsTold 55 = .ok (.iconst 0, 1) := by decide +kernel
theorem dX5_textsTold_56 : decode cX5_textsTold 56 = .ok (.ior, 1) := by decide +kernel
theorem dX5_textsTold_57 : decode cX5_textsTold 57 = .ok (.istore_n 3, 1) := by decide +kernel
theorem dX5_textsTold_58 : decode cX5_textsTold 58 = .ok (.iinc 4 1, 3) := by decide +kernel
theorem dX5_textsTold_61 : decode cX5_textsTold 61 = .ok (.goto (-45), 3) := by decide +kernel
theorem dX5_textsTold_64 : decode cX5_textsTold 64 = .ok (.iload_n 3, 1) := by decide +kernel
theorem dX5_textsTold_65 : decode cX5_textsTold 65 = .ok (.ireturn, 1) := by decide +kernel
theorem dX5_meansTold_0 : decode cX5_meansTold 0 = .ok (.aload_n 0, 1) := by decide +kernel
theorem dX5_meansTold_1 : decode cX5_meansTold 1 = .ok (.getfield 11, 3) := by decide +kernel
theorem dX5_meansTold_4 : decode cX5_meansTold 4 = .ok (.aload_n 0, 1) := by decide +kernel
theorem dX5_meansTold_5 : decode cX5_meansTold 5 = .ok (.getfield 42, 3) := by decide +kernel
theorem dX5_meansTold_8 : decode cX5_meansTold 8 = .ok (.getfield 126, 3) := by decide +kernel
theorem dX5_meansTold_11 : decode cX5_meansTold 11 = .ok (.aaload, 1) := by decide +kernel
theorem dX5_meansTold_12 : decode cX5_meansTold 12 = .ok (.invokevirtual 288, 3) := by decide +kernel
theorem dX5_meansTold_15 : decode cX5_meansTold 15 = .ok (.ifCond .ne 53, 3) := by decide +kernel
theorem dX5_meansTold_18 : decode cX5_meansTold 18 = .ok (.aload_n 0, 1) := by decide +kernel
theorem dX5_meansTold_19 : decode cX5_meansTold 19 = .ok (.getfield 42, 3) := by decide +kernel
theorem dX5_meansTold_22 : decode cX5_meansTold 22 = .ok (.iload_n 2, 1) := by decide +kernel
theorem dX5_meansTold_23 : decode cX5_meansTold 23 = .ok (.aload_n 1, 1) := by decide +kernel
theorem dX5_meansTold_24 : decode cX5_meansTold 24 = .ok (.invokevirtual 224, 3) := by decide +kernel
theorem dX5_meansTold_27 : decode cX5_meansTold 27 = .ok (.iconst (-1), 1) := by decide +kernel
theorem dX5_meansTold_28 : decode cX5_meansTold 28 = .ok (.if_icmp .ne 7, 3) := by decide +kernel
theorem dX5_meansTold_31 : decode cX5_meansTold 31 = .ok (.iconst 1, 1) := by decide +kernel
theorem dX5_meansTold_32 : decode cX5_meansTold 32 = .ok (.goto 4, 3) := by decide +kernel
theorem dX5_meansTold_35 : decode cX5_meansTold 35 = .ok (.iconst 0, 1) := by decide +kernel
theorem dX5_meansTold_36 : decode cX5_meansTold 36 = .ok (.istore 4, 2) := by decide +kernel
theorem dX5_meansTold_38 : decode cX5_meansTold 38 = .ok (.iload_n 3, 1) := by decide +kernel
theorem dX5_meansTold_39 : decode cX5_meansTold 39 = .ok (.ifCond .eq 16, 3) := by decide +kernel
theorem dX5_meansTold_42 : decode cX5_meansTold 42 = .ok (.iload 4, 2) := by decide +kernel
theorem dX5_meansTold_44 : decode cX5_meansTold 44 = .ok (.ifCond .eq 7, 3) := by decide +kernel
theorem dX5_meansTold_47 : decode cX5_meansTold 47 = .ok (.iconst 0, 1) := by decide +kernel
theorem dX5_meansTold_48 : decode cX5_meansTold 48 = .ok (.goto 19, 3) := by decide +kernel
theorem dX5_meansTold_51 : decode cX5_meansTold 51 = .ok (.iconst (-1), 1) := by decide +kernel
theorem dX5_meansTold_52 : decode cX5_meansTold 52 = .ok (.goto 15, 3) := by decide +kernel
theorem dX5_meansTold_55 : decode cX5_meansTold 55 = .ok (.iload 4, 2) := by decide +kernel
theorem dX5_meansTold_57 : decode cX5_meansTold 57 = .ok (.ifCond .eq 9, 3) := by decide +kernel
theorem dX5_meansTold_60 : decode cX5_meansTold 60 = .ok (.sipush 1000, 3) := by decide +kernel
theorem dX5_meansTold_63 : decode cX5_meansTold 63 = .ok (.goto 4, 3) := by decide +kernel
theorem dX5_meansTold_66 : decode cX5_meansTold 66 = .ok (.iconst 0, 1) := by decide +kernel
theorem dX5_meansTold_67 : decode cX5_meansTold 67 = .ok (.ireturn, 1) := by decide +kernel
theorem dX5_meansTold_68 : decode cX5_meansTold 68 = .ok (.iconst 0, 1) := by decide +kernel
theorem dX5_meansTold_69 : decode cX5_meansTold 69 = .ok (.istore 4, 2) := by decide +kernel
theorem dX5_meansTold_71 : decode cX5_meansTold 71 = .ok (.iconst (-1), 1) := by decide +kernel
theorem dX5_meansTold_72 : decode cX5_meansTold 72 = .ok (.istore 5, 2) := by decide +kernel
theorem dX5_meansTold_74 : decode cX5_meansTold 74 = .ok (.aload_n 0, 1) := by decide +kernel
theorem dX5_meansTold_75 : decode cX5_meansTold 75 = .ok (.getfield 46, 3) := by decide +kernel
theorem dX5_meansTold_78 : decode cX5_meansTold 78 = .ok (.aload_n 0, 1) := by decide +kernel
theorem dX5_meansTold_79 : decode cX5_meansTold 79 = .ok (.getfield 42, 3) := by decide +kernel
theorem dX5_meansTold_82 : decode cX5_meansTold 82 = .ok (.invokevirtual 209, 3) := by decide +kernel
theorem dX5_meansTold_85 : decode cX5_meansTold 85 = .ok (.iconst 0, 1) := by decide +kernel
theorem dX5_meansTold_86 : decode cX5_meansTold 86 = .ok (.istore 6, 2) := by decide +kernel
theorem dX5_meansTold_88 : decode cX5_meansTold 88 = .ok (.iload 6, 2) := by decide +kernel
theorem dX5_meansTold_90 : decode cX5_meansTold 90 = .ok (.sipush 1000, 3) := by decide +kernel
theorem dX5_meansTold_93 : decode cX5_meansTold 93 = .ok (.if_icmp .ge 51, 3) := by decide +kernel
theorem dX5_meansTold_96 : decode cX5_meansTold 96 = .ok (.aload_n 0, 1) := by decide +kernel
theorem dX5_meansTold_97 : decode cX5_meansTold 97 = .ok (.getfield 46, 3) := by decide +kernel
theorem dX5_meansTold_100 : decode cX5_meansTold 100 = .ok (.getfield 158, 3) := by decide +kernel
theorem dX5_meansTold_103 : decode cX5_meansTold 103 = .ok (.iload_n 2, 1) := by decide +kernel
theorem dX5_meansTold_104 : decode cX5_meansTold 104 = .ok (.iload 6, 2) := by decide +kernel
theorem dX5_meansTold_106 : decode cX5_meansTold 106 = .ok (.iastore, 1) := by decide +kernel
theorem dX5_meansTold_107 : decode cX5_meansTold 107 = .ok (.aload_n 0, 1) := by decide +kernel
theorem dX5_meansTold_108 : decode cX5_meansTold 108 = .ok (.getfield 46, 3) := by decide +kernel
theorem dX5_meansTold_111 : decode cX5_meansTold 111 = .ok (.iload_n 2, 1) := by decide +kernel
theorem dX5_meansTold_112 : decode cX5_meansTold 112 = .ok (.aload_n 1, 1) := by decide +kernel
theorem dX5_meansTold_113 : decode cX5_meansTold 113 = .ok (.invokevirtual 224, 3) := by decide +kernel
theorem dX5_meansTold_116 : decode cX5_meansTold 116 = .ok (.iconst (-1), 1) := by decide +kernel
theorem dX5_meansTold_117 : decode cX5_meansTold 117 = .ok (.if_icmp .ne 21, 3) := by decide +kernel
theorem dX5_meansTold_120 : decode cX5_meansTold 120 = .ok (.iinc 4 1, 3) := by decide +kernel
theorem dX5_meansTold_123 : decode cX5_meansTold 123 = .ok (.iload 5, 2) := by decide +kernel
theorem dX5_meansTold_125 : decode cX5_meansTold 125 = .ok (.iconst (-1), 1) := by decide +kernel
theorem dX5_meansTold_126 : decode cX5_meansTold 126 = .ok (.if_icmp .ne 8, 3) := by decide +kernel
theorem dX5_meansTold_129 : decode cX5_meansTold 129 = .ok (.iload 6, 2) := by decide +kernel
theorem dX5_meansTold_131 : decode cX5_meansTold 131 = .ok (.goto 5, 3) := by decide +kernel
theorem dX5_meansTold_134 : decode cX5_meansTold 134 = .ok (.iload 5, 2) := by decide +kernel
theorem dX5_meansTold_136 : decode cX5_meansTold 136 = .ok (.istore 5, 2) := by decide +kernel
theorem dX5_meansTold_138 : decode cX5_meansTold 138 = .ok (.iinc 6 1, 3) := by decide +kernel
theorem dX5_meansTold_141 : decode cX5_meansTold 141 = .ok (.goto (-53), 3) := by decide +kernel
theorem dX5_meansTold_144 : decode cX5_meansTold 144 = .ok (.iload_n 3, 1) := by decide +kernel
theorem dX5_meansTold_145 : decode cX5_meansTold 145 = .ok (.ifCond .eq 8, 3) := by decide +kernel
theorem dX5_meansTold_148 : decode cX5_meansTold 148 = .ok (.iload 5, 2) := by decide +kernel
theorem dX5_meansTold_150 : decode cX5_meansTold 150 = .ok (.goto 5, 3) := by decide +kernel
theorem dX5_meansTold_153 : decode cX5_meansTold 153 = .ok (.iload 4, 2) := by decide +kernel
theorem dX5_meansTold_155 : decode cX5_meansTold 155 = .ok (.ireturn, 1) := by decide +kernel
