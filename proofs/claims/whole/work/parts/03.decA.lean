/-! decode rows, as the task prints them -/
theorem dX0_init_0 : decode cX0_init 0 = .ok (.aload_n 0, 1) := by decide +kernel
theorem dX0_init_1 : decode cX0_init 1 = .ok (.invokespecial 3, 3) := by decide +kernel
theorem dX0_init_4 : decode cX0_init 4 = .ok (.aload_n 0, 1) := by decide +kernel
theorem dX0_init_5 : decode cX0_init 5 = .ok (.iconst 5, 1) := by decide +kernel
theorem dX0_init_6 : decode cX0_init 6 = .ok (.bipush 6, 2) := by decide +kernel
theorem dX0_init_8 : decode cX0_init 8 = .ok (.multianewarray 9 2, 4) := by decide +kernel
theorem dX0_init_12 : decode cX0_init 12 = .ok (.putfield 11, 3) := by decide +kernel
theorem dX0_init_15 : decode cX0_init 15 = .ok (.aload_n 0, 1) := by decide +kernel
theorem dX0_init_16 : decode cX0_init 16 = .ok (.iconst 5, 1) := by decide +kernel
theorem dX0_init_17 : decode cX0_init 17 = .ok (.bipush 6, 2) := by decide +kernel
theorem dX0_init_19 : decode cX0_init 19 = .ok (.multianewarray 9 2, 4) := by decide +kernel
theorem dX0_init_23 : decode cX0_init 23 = .ok (.putfield 16, 3) := by decide +kernel
theorem dX0_init_26 : decode cX0_init 26 = .ok (.aload_n 0, 1) := by decide +kernel
theorem dX0_init_27 : decode cX0_init 27 = .ok (.iconst 5, 1) := by decide +kernel
theorem dX0_init_28 : decode cX0_init 28 = .ok (.bipush 6, 2) := by decide +kernel
theorem dX0_init_30 : decode cX0_init 30 = .ok (.multianewarray 9 2, 4) := by decide +kernel
theorem dX0_init_34 : decode cX0_init 34 = .ok (.putfield 19, 3) := by decide +kernel
theorem dX0_init_37 : decode cX0_init 37 = .ok (.aload_n 0, 1) := by decide +kernel
theorem dX0_init_38 : decode cX0_init 38 = .ok (.bipush 6, 2) := by decide +kernel
theorem dX0_init_40 : decode cX0_init 40 = .ok (.newarray .int, 2) := by decide +kernel
theorem dX0_init_42 : decode cX0_init 42 = .ok (.putfield 22, 3) := by decide +kernel
theorem dX0_init_45 : decode cX0_init 45 = .ok (.aload_n 0, 1) := by decide +kernel
theorem dX0_init_46 : decode cX0_init 46 = .ok (.bipush 6, 2) := by decide +kernel
theorem dX0_init_48 : decode cX0_init 48 = .ok (.newarray .int, 2) := by decide +kernel
theorem dX0_init_50 : decode cX0_init 50 = .ok (.putfield 26, 3) := by decide +kernel
theorem dX0_init_53 : decode cX0_init 53 = .ok (.aload_n 0, 1) := by decide +kernel
theorem dX0_init_54 : decode cX0_init 54 = .ok (.iconst 5, 1) := by decide +kernel
theorem dX0_init_55 : decode cX0_init 55 = .ok (.newarray .int, 2) := by decide +kernel
theorem dX0_init_57 : decode cX0_init 57 = .ok (.putfield 29, 3) := by decide +kernel
theorem dX0_init_60 : decode cX0_init 60 = .ok (.aload_n 0, 1) := by decide +kernel
theorem dX0_init_61 : decode cX0_init 61 = .ok (.iconst 5, 1) := by decide +kernel
theorem dX0_init_62 : decode cX0_init 62 = .ok (.newarray .int, 2) := by decide +kernel
theorem dX0_init_64 : decode cX0_init 64 = .ok (.putfield 32, 3) := by decide +kernel
theorem dX0_init_67 : decode cX0_init 67 = .ok (.aload_n 0, 1) := by decide +kernel
theorem dX0_init_68 : decode cX0_init 68 = .ok (.bipush 6, 2) := by decide +kernel
theorem dX0_init_70 : decode cX0_init 70 = .ok (.newarray .int, 2) := by decide +kernel
theorem dX0_init_72 : decode cX0_init 72 = .ok (.putfield 35, 3) := by decide +kernel
theorem dX0_init_75 : decode cX0_init 75 = .ok (.return_, 1) := by decide +kernel
theorem dX0_look_0 : decode cX0_look 0 = .ok (.aload_n 0, 1) := by decide +kernel
theorem dX0_look_1 : decode cX0_look 1 = .ok (.aload_n 1, 1) := by decide +kernel
theorem dX0_look_2 : decode cX0_look 2 = .ok (.getfield 38, 3) := by decide +kernel
theorem dX0_look_5 : decode cX0_look 5 = .ok (.putfield 44, 3) := by decide +kernel
theorem dX0_look_8 : decode cX0_look 8 = .ok (.aload_n 0, 1) := by decide +kernel
theorem dX0_look_9 : decode cX0_look 9 = .ok (.aload_n 1, 1) := by decide +kernel
theorem dX0_look_10 : decode cX0_look 10 = .ok (.getfield 45, 3) := by decide +kernel
theorem dX0_look_13 : decode cX0_look 13 = .ok (.putfield 48, 3) := by decide +kernel
theorem dX0_look_16 : decode cX0_look 16 = .ok (.aload_n 1, 1) := by decide +kernel
theorem dX0_look_17 : decode cX0_look 17 = .ok (.getfield 49, 3) := by decide +kernel
theorem dX0_look_20 : decode cX0_look 20 = .ok (.iconst 0, 1) := by decide +kernel
theorem dX0_look_21 : decode cX0_look 21 = .ok (.aload_n 0, 1) := by decide +kernel
theorem dX0_look_22 : decode cX0_look 22 = .ok (.getfield 22, 3) := by decide +kernel
theorem dX0_look_25 : decode cX0_look 25 = .ok (.iconst 0, 1) := by decide +kernel
theorem dX0_look_26 : decode cX0_look 26 = .ok (.bipush 6, 2) := by decide +kernel
theorem dX0_look_28 : decode cX0_look 28 = .ok (.invokestatic 50, 3) := by decide +kernel
theorem dX0_look_31 : decode cX0_look 31 = .ok (.iconst 0, 1) := by decide +kernel
theorem dX0_look_32 : decode cX0_look 32 = .ok (.istore_n 2, 1) := by decide +kernel
theorem dX0_look_33 : decode cX0_look 33 = .ok (.iload_n 2, 1) := by decide +kernel
theorem dX0_look_34 : decode cX0_look 34 = .ok (.aload_n 0, 1) := by decide +kernel
theorem dX0_look_35 : decode cX0_look 35 = .ok (.getfield 48, 3) := by decide +kernel
theorem dX0_look_38 : decode cX0_look 38 = .ok (.if_icmp .ge 104, 3) := by decide +kernel
theorem dX0_look_41 : decode cX0_look 41 = .ok (.iconst 0, 1) := by decide +kernel
theorem dX0_look_42 : decode cX0_look 42 = .ok (.istore_n 3, 1) := by decide +kernel
theorem dX0_look_43 : decode cX0_look 43 = .ok (.iload_n 3, 1) := by decide +kernel
theorem dX0_look_44 : decode cX0_look 44 = .ok (.aload_n 0, 1) := by decide +kernel
theorem dX0_look_45 : decode cX0_look 45 = .ok (.getfield 44, 3) := by decide +kernel
theorem dX0_look_48 : decode cX0_look 48 = .ok (.if_icmp .ge 88, 3) := by decide +kernel
theorem dX0_look_51 : decode cX0_look 51 = .ok (.aload_n 0, 1) := by decide +kernel
theorem dX0_look_52 : decode cX0_look 52 = .ok (.getfield 11, 3) := by decide +kernel
theorem dX0_look_55 : decode cX0_look 55 = .ok (.iload_n 2, 1) := by decide +kernel
theorem dX0_look_56 : decode cX0_look 56 = .ok (.aaload, 1) := by decide +kernel
theorem dX0_look_57 : decode cX0_look 57 = .ok (.iload_n 3, 1) := by decide +kernel
theorem dX0_look_58 : decode cX0_look 58 = .ok (.iconst (-1), 1) := by decide +kernel
theorem dX0_look_59 : decode cX0_look 59 = .ok (.iastore, 1) := by decide +kernel
theorem dX0_look_60 : decode cX0_look 60 = .ok (.aload_n 1, 1) := by decide +kernel
theorem dX0_look_61 : decode cX0_look 61 = .ok (.iload_n 3, 1) := by decide +kernel
theorem dX0_look_62 : decode cX0_look 62 = .ok (.aload_n 1, 1) := by decide +kernel
theorem dX0_look_63 : decode cX0_look 63 = .ok (.getfield 56, 3) := by decide +kernel
theorem dX0_look_66 : decode cX0_look 66 = .ok (.iload_n 2, 1) := by decide +kernel
theorem dX0_look_67 : decode cX0_look 67 = .ok (.iaload, 1) := by decide +kernel
theorem dX0_look_68 : decode cX0_look 68 = .ok (.invokevirtual 59, 3) := by decide +kernel
theorem dX0_look_71 : decode cX0_look 71 = .ok (.ifCond .eq 59, 3) := by decide +kernel
theorem dX0_look_74 : decode cX0_look 74 = .ok (.aload_n 0, 1) := by decide +kernel
theorem dX0_look_75 : decode cX0_look 75 = .ok (.getfield 11, 3) := by decide +kernel
theorem dX0_look_78 : decode cX0_look 78 = .ok (.iload_n 2, 1) := by decide +kernel
theorem dX0_look_79 : decode cX0_look 79 = .ok (.aaload, 1) := by decide +kernel
theorem dX0_look_80 : decode cX0_look 80 = .ok (.iload_n 3, 1) := by decide +kernel
theorem dX0_look_81 : decode cX0_look 81 = .ok (.aload_n 1, 1) := by decide +kernel
theorem dX0_look_82 : decode cX0_look 82 = .ok (.iload_n 3, 1) := by decide +kernel
theorem dX0_look_83 : decode cX0_look 83 = .ok (.aload_n 1, 1) := by decide +kernel
theorem dX0_look_84 : decode cX0_look 84 = .ok (.getfield 56, 3) := by decide +kernel
theorem dX0_look_87 : decode cX0_look 87 = .ok (.iload_n 2, 1) := by decide +kernel
theorem dX0_look_88 : decode cX0_look 88 = .ok (.iaload, 1) := by decide +kernel
theorem dX0_look_89 : decode cX0_look 89 = .ok (.invokevirtual 63, 3) := by decide +kernel
theorem dX0_look_92 : decode cX0_look 92 = .ok (.iastore, 1) := by decide +kernel
theorem dX0_look_93 : decode cX0_look 93 = .ok (.aload_n 0, 1) := by decide +kernel
theorem dX0_look_94 : decode cX0_look 94 = .ok (.getfield 16, 3) := by decide +kernel
theorem dX0_look_97 : decode cX0_look 97 = .ok (.iload_n 2, 1) := by decide +kernel
theorem dX0_look_98 : decode cX0_look 98 = .ok (.aaload, 1) := by decide +kernel
theorem dX0_look_99 : decode cX0_look 99 = .ok (.iload_n 3, 1) := by decide +kernel
theorem dX0_look_100 : decode cX0_look 100 = .ok (.aload_n 1, 1) := by decide +kernel
theorem dX0_look_101 : decode cX0_look 101 = .ok (.iload_n 2, 1) := by decide +kernel
theorem dX0_look_102 : decode cX0_look 102 = .ok (.iload_n 3, 1) := by decide +kernel
theorem dX0_look_103 : decode cX0_look 103 = .ok (.invokevirtual 67, 3) := by decide +kernel
theorem dX0_look_106 : decode cX0_look 106 = .ok (.iastore, 1) := by decide +kernel
theorem dX0_look_107 : decode cX0_look 107 = .ok (.aload_n 0, 1) := by decide +kernel
theorem dX0_look_108 : decode cX0_look 108 = .ok (.getfield 19, 3) := by decide +kernel
theorem dX0_look_111 : decode cX0_look 111 = .ok (.iload_n 2, 1) := by decide +kernel
theorem dX0_look_112 : decode cX0_look 112 = .ok (.aaload, 1) := by decide +kernel
theorem dX0_look_113 : decode cX0_look 113 = .ok (.iload_n 3, 1) := by decide +kernel
theorem dX0_look_114 : decode cX0_look 114 = .ok (.aload_n 0, 1) := by decide +kernel
theorem dX0_look_115 : decode cX0_look 115 = .ok (.getfield 11, 3) := by decide +kernel
theorem dX0_look_118 : decode cX0_look 118 = .ok (.iload_n 2, 1) := by decide +kernel
theorem dX0_look_119 : decode cX0_look 119 = .ok (.aaload, 1) := by decide +kernel
theorem dX0_look_120 : decode cX0_look 120 = .ok (.iload_n 3, 1) := by decide +kernel
theorem dX0_look_121 : decode cX0_look 121 = .ok (.iaload, 1) := by decide +kernel
theorem dX0_look_122 : decode cX0_look 122 = .ok (.aload_n 1, 1) := by decide +kernel
theorem dX0_look_123 : decode cX0_look 123 = .ok (.iload_n 2, 1) := by decide +kernel
theorem dX0_look_124 : decode cX0_look 124 = .ok (.iload_n 3, 1) := by decide +kernel
theorem dX0_look_125 : decode cX0_look 125 = .ok (.invokevirtual 70, 3) := by decide +kernel
theorem dX0_look_128 : decode cX0_look 128 = .ok (.iadd, 1) := by decide +kernel
theorem dX0_look_129 : decode cX0_look 129 = .ok (.iastore, 1) := by decide +kernel
theorem dX0_look_130 : decode cX0_look 130 = .ok (.iinc 3 1, 3) := by decide +kernel
theorem dX0_look_133 : decode cX0_look 133 = .ok (.goto (-90), 3) := by decide +kernel
theorem dX0_look_136 : decode cX0_look 136 = .ok (.iinc 2 1, 3) := by decide +kernel
theorem dX0_look_139 : decode cX0_look 139 = .ok (.goto (-106), 3) := by decide +kernel
theorem dX0_look_142 : decode cX0_look 142 = .ok (.return_, 1) := by decide +kernel
theorem dX0_fillPurses_0 : decode cX0_fillPurses 0 = .ok (.aload_n 0, 1) := by decide +kernel
theorem dX0_fillPurses_1 : decode cX0_fillPurses 1 = .ok (.getfield 22, 3) := by decide +kernel
theorem dX0_fillPurses_4 : decode cX0_fillPurses 4 = .ok (.iconst 0, 1) := by decide +kernel
theorem dX0_fillPurses_5 : decode cX0_fillPurses 5 = .ok (.aload_n 0, 1) := by decide +kernel
theorem dX0_fillPurses_6 : decode cX0_fillPurses 6 = .ok (.getfield 26, 3) := by decide +kernel
theorem dX0_fillPurses_9 : decode cX0_fillPurses 9 = .ok (.iconst 0, 1) := by decide +kernel
theorem dX0_fillPurses_10 : decode cX0_fillPurses 10 = .ok (.bipush 6, 2) := by decide +kernel
theorem dX0_fillPurses_12 : decode cX0_fillPurses 12 = .ok (.invokestatic 50, 3) := by decide +kernel
theorem dX0_fillPurses_15 : decode cX0_fillPurses 15 = .ok (.return_, 1) := by decide +kernel
theorem dX0_canBe_0 : decode cX0_canBe 0 = .ok (.aload_n 0, 1) := by decide +kernel
theorem dX0_canBe_1 : decode cX0_canBe 1 = .ok (.getfield 11, 3) := by decide +kernel
theorem dX0_canBe_4 : decode cX0_canBe 4 = .ok (.iload_n 1, 1) := by decide +kernel
theorem dX0_canBe_5 : decode cX0_canBe 5 = .ok (.aaload, 1) := by decide +kernel
theorem dX0_canBe_6 : decode cX0_canBe 6 = .ok (.iload_n 2, 1) := by decide +kernel
theorem dX0_canBe_7 : decode cX0_canBe 7 = .ok (.iaload, 1) := by decide +kernel
theorem dX0_canBe_8 : decode cX0_canBe 8 = .ok (.iconst (-1), 1) := by decide +kernel
theorem dX0_canBe_9 : decode cX0_canBe 9 = .ok (.if_icmp .eq 24, 3) := by decide +kernel
theorem dX0_canBe_12 : decode cX0_canBe 12 = .ok (.aload_n 0, 1) := by decide +kernel
theorem dX0_canBe_13 : decode cX0_canBe 13 = .ok (.getfield 11, 3) := by decide +kernel
theorem dX0_canBe_16 : decode cX0_canBe 16 = .ok (.iload_n 1, 1) := by decide +kernel
theorem dX0_canBe_17 : decode cX0_canBe 17 = .ok (.aaload, 1) := by decide +kernel
theorem dX0_canBe_18 : decode cX0_canBe 18 = .ok (.iload_n 2, 1) := by decide +kernel
theorem dX0_canBe_19 : decode cX0_canBe 19 = .ok (.iaload, 1) := by decide +kernel
theorem dX0_canBe_20 : decode cX0_canBe 20 = .ok (.aload_n 0, 1) := by decide +kernel
theorem dX0_canBe_21 : decode cX0_canBe 21 = .ok (.getfield 26, 3) := by decide +kernel
theorem dX0_canBe_24 : decode cX0_canBe 24 = .ok (.iload_n 2, 1) := by decide +kernel
theorem dX0_canBe_25 : decode cX0_canBe 25 = .ok (.iaload, 1) := by decide +kernel
theorem dX0_canBe_26 : decode cX0_canBe 26 = .ok (.if_icmp .gt 7, 3) := by decide +kernel
theorem dX0_canBe_29 : decode cX0_canBe 29 = .ok (.iconst 1, 1) := by decide +kernel
theorem dX0_canBe_30 : decode cX0_canBe 30 = .ok (.goto 4, 3) := by decide +kernel
theorem dX0_canBe_33 : decode cX0_canBe 33 = .ok (.iconst 0, 1) := by decide +kernel
theorem dX0_canBe_34 : decode cX0_canBe 34 = .ok (.ireturn, 1) := by decide +kernel
theorem dX0_play_0 : decode cX0_play 0 = .ok (.aload_n 0, 1) := by decide +kernel
theorem dX0_play_1 : decode cX0_play 1 = .ok (.invokevirtual 73, 3) := by decide +kernel
theorem dX0_play_4 : decode cX0_play 4 = .ok (.aload_n 0, 1) := by decide +kernel
theorem dX0_play_5 : decode cX0_play 5 = .ok (.iconst (-1), 1) := by decide +kernel
theorem dX0_play_6 : decode cX0_play 6 = .ok (.putfield 76, 3) := by decide +kernel
theorem dX0_play_9 : decode cX0_play 9 = .ok (.aload_n 0, 1) := by decide +kernel
theorem dX0_play_10 : decode cX0_play 10 = .ok (.iconst 0, 1) := by decide +kernel
theorem dX0_play_11 : decode cX0_play 11 = .ok (.putfield 79, 3) := by decide +kernel
theorem dX0_play_14 : decode cX0_play 14 = .ok (.aload_n 0, 1) := by decide +kernel
theorem dX0_play_15 : decode cX0_play 15 = .ok (.iconst 0, 1) := by decide +kernel
theorem dX0_play_16 : decode cX0_play 16 = .ok (.putfield 82, 3) := by decide +kernel
theorem dX0_play_19 : decode cX0_play 19 = .ok (.iconst 0, 1) := by decide +kernel
theorem dX0_play_20 : decode cX0_play 20 = .ok (.istore_n 1, 1) := by decide +kernel
theorem dX0_play_21 : decode cX0_play 21 = .ok (.iload_n 1, 1) := by decide +kernel
theorem dX0_play_22 : decode cX0_play 22 = .ok (.aload_n 0, 1) := by decide +kernel
theorem dX0_play_23 : decode cX0_play 23 = .ok (.getfield 48, 3) := by decide +kernel
theorem dX0_play_26 : decode cX0_play 26 = .ok (.if_icmp .ge 99, 3) := by decide +kernel
theorem dX0_play_29 : decode cX0_play 29 = .ok (.aload_n 0, 1) := by decide +kernel
theorem dX0_play_30 : decode cX0_play 30 = .ok (.getfield 29, 3) := by decide +kernel
theorem dX0_play_33 : decode cX0_play 33 = .ok (.iload_n 1, 1) := by decide +kernel
theorem dX0_play_34 : decode cX0_play 34 = .ok (.iaload, 1) := by decide +kernel
theorem dX0_play_35 : decode cX0_play 35 = .ok (.istore_n 2, 1) := by decide +kernel
theorem dX0_play_36 : decode cX0_play 36 = .ok (.iload_n 2, 1) := by decide +kernel
theorem dX0_play_37 : decode cX0_play 37 = .ok (.ifCond .lt 82, 3) := by decide +kernel
theorem dX0_play_40 : decode cX0_play 40 = .ok (.iload_n 2, 1) := by decide +kernel
theorem dX0_play_41 : decode cX0_play 41 = .ok (.aload_n 0, 1) := by decide +kernel
theorem dX0_play_42 : decode cX0_play 42 = .ok (.getfield 44, 3) := by decide +kernel
theorem dX0_play_45 : decode cX0_play 45 = .ok (.if_icmp .lt 6, 3) := by decide +kernel
theorem dX0_play_48 : decode cX0_play 48 = .ok (.goto 71, 3) := by decide +kernel
theorem dX0_play_51 : decode cX0_play 51 = .ok (.aload_n 0, 1) := by decide +kernel
theorem dX0_play_52 : decode cX0_play 52 = .ok (.iload_n 1, 1) := by decide +kernel
theorem dX0_play_53 : decode cX0_play 53 = .ok (.iload_n 2, 1) := by decide +kernel
theorem dX0_play_54 : decode cX0_play 54 = .ok (.invokevirtual 85, 3) := by decide +kernel
theorem dX0_play_57 : decode cX0_play 57 = .ok (.ifCond .ne 11, 3) := by decide +kernel
theorem dX0_play_60 : decode cX0_play 60 = .ok (.aload_n 0, 1) := by decide +kernel
theorem dX0_play_61 : decode cX0_play 61 = .ok (.iload_n 1, 1) := by decide +kernel
theorem dX0_play_62 : decode cX0_play 62 = .ok (.putfield 76, 3) := by decide +kernel
theorem dX0_play_65 : decode cX0_play 65 = .ok (.goto 60, 3) := by decide +kernel
theorem dX0_play_68 : decode cX0_play 68 = .ok (.aload_n 0, 1) := by decide +kernel
theorem dX0_play_69 : decode cX0_play 69 = .ok (.getfield 26, 3) := by decide +kernel
theorem dX0_play_72 : decode cX0_play 72 = .ok (.iload_n 2, 1) := by decide +kernel
theorem dX0_play_73 : decode cX0_play 73 = .ok (.dup2, 1) := by decide +kernel
theorem dX0_play_74 : decode cX0_play 74 = .ok (.iaload, 1) := by decide +kernel
theorem dX0_play_75 : decode cX0_play 75 = .ok (.aload_n 0, 1) := by decide +kernel
theorem dX0_play_76 : decode cX0_play 76 = .ok (.getfield 11, 3) := by decide +kernel
theorem dX0_play_79 : decode cX0_play 79 = .ok (.iload_n 1, 1) := by decide +kernel
theorem dX0_play_80 : decode cX0_play 80 = .ok (.aaload, 1) := by decide +kernel
theorem dX0_play_81 : decode cX0_play 81 = .ok (.iload_n 2, 1) := by decide +kernel
theorem dX0_play_82 : decode cX0_play 82 = .ok (.iaload, 1) := by decide +kernel
theorem dX0_play_83 : decode cX0_play 83 = .ok (.isub, 1) := by decide +kernel
theorem dX0_play_84 : decode cX0_play 84 = .ok (.iastore, 1) := by decide +kernel
theorem dX0_play_85 : decode cX0_play 85 = .ok (.aload_n 0, 1) := by decide +kernel
theorem dX0_play_86 : decode cX0_play 86 = .ok (.dup, 1) := by decide +kernel
theorem dX0_play_87 : decode cX0_play 87 = .ok (.getfield 79, 3) := by decide +kernel
theorem dX0_play_90 : decode cX0_play 90 = .ok (.aload_n 0, 1) := by decide +kernel
theorem dX0_play_91 : decode cX0_play 91 = .ok (.getfield 16, 3) := by decide +kernel
theorem dX0_play_94 : decode cX0_play 94 = .ok (.iload_n 1, 1) := by decide +kernel
theorem dX0_play_95 : decode cX0_play 95 = .ok (.aaload, 1) := by decide +kernel
theorem dX0_play_96 : decode cX0_play 96 = .ok (.iload_n 2, 1) := by decide +kernel
theorem dX0_play_97 : decode cX0_play 97 = .ok (.iaload, 1) := by decide +kernel
theorem dX0_play_98 : decode cX0_play 98 = .ok (.iadd, 1) := by decide +kernel
theorem dX0_play_99 : decode cX0_play 99 = .ok (.putfield 79, 3) := by decide +kernel
theorem dX0_play_102 : decode cX0_play 102 = .ok (.aload_n 0, 1) := by decide +kernel
theorem dX0_play_103 : decode cX0_play 103 = .ok (.dup, 1) := by decide +kernel
theorem dX0_play_104 : decode cX0_play 104 = .ok (.getfield 82, 3) := by decide +kernel
theorem dX0_play_107 : decode cX0_play 107 = .ok (.aload_n 0, 1) := by decide +kernel
theorem dX0_play_108 : decode cX0_play 108 = .ok (.getfield 19, 3) := by decide +kernel
theorem dX0_play_111 : decode cX0_play 111 = .ok (.iload_n 1, 1) := by decide +kernel
theorem dX0_play_112 : decode cX0_play 112 = .ok (.aaload, 1) := by decide +kernel
theorem dX0_play_113 : decode cX0_play 113 = .ok (.iload_n 2, 1) := by decide +kernel
theorem dX0_play_114 : decode cX0_play 114 = .ok (.iaload, 1) := by decide +kernel
theorem dX0_play_115 : decode cX0_play 115 = .ok (.iadd, 1) := by decide +kernel
theorem dX0_play_116 : decode cX0_play 116 = .ok (.putfield 82, 3) := by decide +kernel
theorem dX0_play_119 : decode cX0_play 119 = .ok (.iinc 1 1, 3) := by decide +kernel
theorem dX0_play_122 : decode cX0_play 122 = .ok (.goto (-101), 3) := by decide +kernel
theorem dX0_play_125 : decode cX0_play 125 = .ok (.return_, 1) := by decide +kernel
theorem dX0_digits_0 : decode cX0_digits 0 = .ok (.iconst 0, 1) := by decide +kernel
theorem dX0_digits_1 : decode cX0_digits 1 = .ok (.istore_n 1, 1) := by decide +kernel
theorem dX0_digits_2 : decode cX0_digits 2 = .ok (.iconst 0, 1) := by decide +kernel
theorem dX0_digits_3 : decode cX0_digits 3 = .ok (.istore_n 2, 1) := by decide +kernel
theorem dX0_digits_4 : decode cX0_digits 4 = .ok (.iload_n 2, 1) := by decide +kernel
theorem dX0_digits_5 : decode cX0_digits 5 = .ok (.aload_n 0, 1) := by decide +kernel
theorem dX0_digits_6 : decode cX0_digits 6 = .ok (.getfield 48, 3) := by decide +kernel
theorem dX0_digits_9 : decode cX0_digits 9 = .ok (.if_icmp .ge 23, 3) := by decide +kernel
theorem dX0_digits_12 : decode cX0_digits 12 = .ok (.iload_n 1, 1) := by decide +kernel
theorem dX0_digits_13 : decode cX0_digits 13 = .ok (.bipush 10, 2) := by decide +kernel
theorem dX0_digits_15 : decode cX0_digits 15 = .ok (.imul, 1) := by decide +kernel
theorem dX0_digits_16 : decode cX0_digits 16 = .ok (.aload_n 0, 1) := by decide +kernel
theorem dX0_digits_17 : decode cX0_digits 17 = .ok (.getfield 29, 3) := by decide +kernel
theorem dX0_digits_20 : decode cX0_digits 20 = .ok (.iload_n 2, 1) := by decide +kernel
theorem dX0_digits_21 : decode cX0_digits 21 = .ok (.iaload, 1) := by decide +kernel
theorem dX0_digits_22 : decode cX0_digits 22 = .ok (.iadd, 1) := by decide +kernel
theorem dX0_digits_23 : decode cX0_digits 23 = .ok (.iconst 1, 1) := by decide +kernel
theorem dX0_digits_24 : decode cX0_digits 24 = .ok (.iadd, 1) := by decide +kernel
theorem dX0_digits_25 : decode cX0_digits 25 = .ok (.istore_n 1, 1) := by decide +kernel
theorem dX0_digits_26 : decode cX0_digits 26 = .ok (.iinc 2 1, 3) := by decide +kernel
theorem dX0_digits_29 : decode cX0_digits 29 = .ok (.goto (-25), 3) := by decide +kernel
theorem dX0_digits_32 : decode cX0_digits 32 = .ok (.iload_n 1, 1) := by decide +kernel
theorem dX0_digits_33 : decode cX0_digits 33 = .ok (.ireturn, 1) := by decide +kernel
theorem dX0_showPlainly_0 : decode cX0_showPlainly 0 = .ok (.aload_n 0, 1) := by decide +kernel
theorem dX0_showPlainly_1 : decode cX0_showPlainly 1 = .ok (.invokevirtual 73, 3) := by decide +kernel
theorem dX0_showPlainly_4 : decode cX0_showPlainly 4 = .ok (.iconst 0, 1) := by decide +kernel
theorem dX0_showPlainly_5 : decode cX0_showPlainly 5 = .ok (.istore_n 2, 1) := by decide +kernel
theorem dX0_showPlainly_6 : decode cX0_showPlainly 6 = .ok (.iload_n 2, 1) := by decide +kernel
theorem dX0_showPlainly_7 : decode cX0_showPlainly 7 = .ok (.aload_n 0, 1) := by decide +kernel
theorem dX0_showPlainly_8 : decode cX0_showPlainly 8 = .ok (.getfield 48, 3) := by decide +kernel
theorem dX0_showPlainly_11 : decode cX0_showPlainly 11 = .ok (.if_icmp .ge 84, 3) := by decide +kernel
theorem dX0_showPlainly_14 : decode cX0_showPlainly 14 = .ok (.aload_n 0, 1) := by decide +kernel
theorem dX0_showPlainly_15 : decode cX0_showPlainly 15 = .ok (.getfield 29, 3) := by decide +kernel
theorem dX0_showPlainly_18 : decode cX0_showPlainly 18 = .ok (.iload_n 2, 1) := by decide +kernel
theorem dX0_showPlainly_19 : decode cX0_showPlainly 19 = .ok (.iconst (-1), 1) := by decide +kernel
theorem dX0_showPlainly_20 : decode cX0_showPlainly 20 = .ok (.iastore, 1) := by decide +kernel
theorem dX0_showPlainly_21 : decode cX0_showPlainly 21 = .ok (.iconst 0, 1) := by decide +kernel
theorem dX0_showPlainly_22 : decode cX0_showPlainly 22 = .ok (.istore_n 3, 1) := by decide +kernel
theorem dX0_showPlainly_23 : decode cX0_showPlainly 23 = .ok (.iload_n 3, 1) := by decide +kernel
theorem dX0_showPlainly_24 : decode cX0_showPlainly 24 = .ok (.aload_n 0, 1) := by decide +kernel
theorem dX0_showPlainly_25 : decode cX0_showPlainly 25 = .ok (.getfield 44, 3) := by decide +kernel
theorem dX0_showPlainly_28 : decode cX0_showPlainly 28 = .ok (.if_icmp .ge 61, 3) := by decide +kernel
theorem dX0_showPlainly_31 : decode cX0_showPlainly 31 = .ok (.aload_n 0, 1) := by decide +kernel
theorem dX0_showPlainly_32 : decode cX0_showPlainly 32 = .ok (.getfield 29, 3) := by decide +kernel
theorem dX0_showPlainly_35 : decode cX0_showPlainly 35 = .ok (.iload_n 2, 1) := by decide +kernel
theorem dX0_showPlainly_36 : decode cX0_showPlainly 36 = .ok (.iaload, 1) := by decide +kernel
theorem dX0_showPlainly_37 : decode cX0_showPlainly 37 = .ok (.iconst (-1), 1) := by decide +kernel
theorem dX0_showPlainly_38 : decode cX0_showPlainly 38 = .ok (.if_icmp .ne 51, 3) := by decide +kernel
theorem dX0_showPlainly_41 : decode cX0_showPlainly 41 = .ok (.aload_n 1, 1) := by decide +kernel
theorem dX0_showPlainly_42 : decode cX0_showPlainly 42 = .ok (.iload_n 2, 1) := by decide +kernel
theorem dX0_showPlainly_43 : decode cX0_showPlainly 43 = .ok (.iload_n 3, 1) := by decide +kernel
theorem dX0_showPlainly_44 : decode cX0_showPlainly 44 = .ok (.invokevirtual 88, 3) := by decide +kernel
theorem dX0_showPlainly_47 : decode cX0_showPlainly 47 = .ok (.ifCond .eq 36, 3) := by decide +kernel
theorem dX0_showPlainly_50 : decode cX0_showPlainly 50 = .ok (.aload_n 0, 1) := by decide +kernel
theorem dX0_showPlainly_51 : decode cX0_showPlainly 51 = .ok (.iload_n 2, 1) := by decide +kernel
theorem dX0_showPlainly_52 : decode cX0_showPlainly 52 = .ok (.iload_n 3, 1) := by decide +kernel
theorem dX0_showPlainly_53 : decode cX0_showPlainly 53 = .ok (.invokevirtual 85, 3) := by decide +kernel
theorem dX0_showPlainly_56 : decode cX0_showPlainly 56 = .ok (.ifCond .eq 27, 3) := by decide +kernel
theorem dX0_showPlainly_59 : decode cX0_showPlainly 59 = .ok (.aload_n 0, 1) := by decide +kernel
theorem dX0_showPlainly_60 : decode cX0_showPlainly 60 = .ok (.getfield 29, 3) := by decide +kernel
theorem dX0_showPlainly_63 : decode cX0_showPlainly 63 = .ok (.iload_n 2, 1) := by decide +kernel
theorem dX0_showPlainly_64 : decode cX0_showPlainly 64 = .ok (.iload_n 3, 1) := by decide +kernel
theorem dX0_showPlainly_65 : decode cX0_showPlainly 65 = .ok (.iastore, 1) := by decide +kernel
theorem dX0_showPlainly_66 : decode cX0_showPlainly 66 = .ok (.aload_n 0, 1) := by decide +kernel
theorem dX0_showPlainly_67 : decode cX0_showPlainly 67 = .ok (.getfield 26, 3) := by decide +kernel
theorem dX0_showPlainly_70 : decode cX0_showPlainly 70 = .ok (.iload_n 3, 1) := by decide +kernel
theorem dX0_showPlainly_71 : decode cX0_showPlainly 71 = .ok (.dup2, 1) := by decide +kernel
theorem dX0_showPlainly_72 : decode cX0_showPlainly 72 = .ok (.iaload, 1) := by decide +kernel
theorem dX0_showPlainly_73 : decode cX0_showPlainly 73 = .ok (.aload_n 0, 1) := by decide +kernel
theorem dX0_showPlainly_74 : decode cX0_showPlainly 74 = .ok (.getfield 11, 3) := by decide +kernel
theorem dX0_showPlainly_77 : decode cX0_showPlainly 77 = .ok (.iload_n 2, 1) := by decide +kernel
theorem dX0_showPlainly_78 : decode cX0_showPlainly 78 = .ok (.aaload, 1) := by decide +kernel
theorem dX0_showPlainly_79 : decode cX0_showPlainly 79 = .ok (.iload_n 3, 1) := by decide +kernel
theorem dX0_showPlainly_80 : decode cX0_showPlainly 80 = .ok (.iaload, 1) := by decide +kernel
theorem dX0_showPlainly_81 : decode cX0_showPlainly 81 = .ok (.isub, 1) := by decide +kernel
theorem dX0_showPlainly_82 : decode cX0_showPlainly 82 = .ok (.iastore, 1) := by decide +kernel
theorem dX0_showPlainly_83 : decode cX0_showPlainly 83 = .ok (.iinc 3 1, 3) := by decide +kernel
theorem dX0_showPlainly_86 : decode cX0_showPlainly 86 = .ok (.goto (-63), 3) := by decide +kernel
theorem dX0_showPlainly_89 : decode cX0_showPlainly 89 = .ok (.iinc 2 1, 3) := by decide +kernel
theorem dX0_showPlainly_92 : decode cX0_showPlainly 92 = .ok (.goto (-86), 3) := by decide +kernel
theorem dX0_showPlainly_95 : decode cX0_showPlainly 95 = .ok (.return_, 1) := by decide +kernel
theorem dX0_showBest_0 : decode cX0_showBest 0 = .ok (.aload_n 0, 1) := by decide +kernel
theorem dX0_showBest_1 : decode cX0_showBest 1 = .ok (.iload_n 2, 1) := by decide +kernel
theorem dX0_showBest_2 : decode cX0_showBest 2 = .ok (.putfield 91, 3) := by decide +kernel
theorem dX0_showBest_5 : decode cX0_showBest 5 = .ok (.aload_n 0, 1) := by decide +kernel
theorem dX0_showBest_6 : decode cX0_showBest 6 = .ok (.invokevirtual 73, 3) := by decide +kernel
theorem dX0_showBest_9 : decode cX0_showBest 9 = .ok (.aload_n 0, 1) := by decide +kernel
theorem dX0_showBest_10 : decode cX0_showBest 10 = .ok (.aload_n 1, 1) := by decide +kernel
theorem dX0_showBest_11 : decode cX0_showBest 11 = .ok (.invokevirtual 94, 3) := by decide +kernel
theorem dX0_showBest_14 : decode cX0_showBest 14 = .ok (.iconst 0, 1) := by decide +kernel
theorem dX0_showBest_15 : decode cX0_showBest 15 = .ok (.istore_n 3, 1) := by decide +kernel
theorem dX0_showBest_16 : decode cX0_showBest 16 = .ok (.iload_n 3, 1) := by decide +kernel
theorem dX0_showBest_17 : decode cX0_showBest 17 = .ok (.iconst 5, 1) := by decide +kernel
theorem dX0_showBest_18 : decode cX0_showBest 18 = .ok (.if_icmp .ge 16, 3) := by decide +kernel
theorem dX0_showBest_21 : decode cX0_showBest 21 = .ok (.aload_n 0, 1) := by decide +kernel
theorem dX0_showBest_22 : decode cX0_showBest 22 = .ok (.getfield 29, 3) := by decide +kernel
theorem dX0_showBest_25 : decode cX0_showBest 25 = .ok (.iload_n 3, 1) := by decide +kernel
theorem dX0_showBest_26 : decode cX0_showBest 26 = .ok (.iconst (-1), 1) := by decide +kernel
theorem dX0_showBest_27 : decode cX0_showBest 27 = .ok (.iastore, 1) := by decide +kernel
theorem dX0_showBest_28 : decode cX0_showBest 28 = .ok (.iinc 3 1, 3) := by decide +kernel
theorem dX0_showBest_31 : decode cX0_showBest 31 = .ok (.goto (-15), 3) := by decide +kernel
theorem dX0_showBest_34 : decode cX0_showBest 34 = .ok (.aload_n 0, 1) := by decide +kernel
theorem dX0_showBest_35 : decode cX0_showBest 35 = .ok (.iconst 0, 1) := by decide +kernel
theorem dX0_showBest_36 : decode cX0_showBest 36 = .ok (.putfield 98, 3) := by decide +kernel
theorem dX0_showBest_39 : decode cX0_showBest 39 = .ok (.aload_n 0, 1) := by decide +kernel
theorem dX0_showBest_40 : decode cX0_showBest 40 = .ok (.aload_n 1, 1) := by decide +kernel
theorem dX0_showBest_41 : decode cX0_showBest 41 = .ok (.iconst 0, 1) := by decide +kernel
theorem dX0_showBest_42 : decode cX0_showBest 42 = .ok (.iconst 0, 1) := by decide +kernel
theorem dX0_showBest_43 : decode cX0_showBest 43 = .ok (.invokestatic 101, 3) := by decide +kernel
theorem dX0_showBest_46 : decode cX0_showBest 46 = .ok (.aload_n 0, 1) := by decide +kernel
theorem dX0_showBest_47 : decode cX0_showBest 47 = .ok (.getfield 98, 3) := by decide +kernel
theorem dX0_showBest_50 : decode cX0_showBest 50 = .ok (.ireturn, 1) := by decide +kernel
theorem dX0_isAllowed_0 : decode cX0_isAllowed 0 = .ok (.aload_n 0, 1) := by decide +kernel
theorem dX0_isAllowed_1 : decode cX0_isAllowed 1 = .ok (.getfield 91, 3) := by decide +kernel
theorem dX0_isAllowed_4 : decode cX0_isAllowed 4 = .ok (.iload_n 2, 1) := by decide +kernel
theorem dX0_isAllowed_5 : decode cX0_isAllowed 5 = .ok (.ishr, 1) := by decide +kernel
theorem dX0_isAllowed_6 : decode cX0_isAllowed 6 = .ok (.iconst 1, 1) := by decide +kernel
theorem dX0_isAllowed_7 : decode cX0_isAllowed 7 = .ok (.iand, 1) := by decide +kernel
theorem dX0_isAllowed_8 : decode cX0_isAllowed 8 = .ok (.iconst 1, 1) := by decide +kernel
theorem dX0_isAllowed_9 : decode cX0_isAllowed 9 = .ok (.if_icmp .ne 16, 3) := by decide +kernel
theorem dX0_isAllowed_12 : decode cX0_isAllowed 12 = .ok (.aload_n 0, 1) := by decide +kernel
theorem dX0_isAllowed_13 : decode cX0_isAllowed 13 = .ok (.iload_n 1, 1) := by decide +kernel
theorem dX0_isAllowed_14 : decode cX0_isAllowed 14 = .ok (.iload_n 2, 1) := by decide +kernel
theorem dX0_isAllowed_15 : decode cX0_isAllowed 15 = .ok (.invokevirtual 85, 3) := by decide +kernel
theorem dX0_isAllowed_18 : decode cX0_isAllowed 18 = .ok (.ifCond .eq 7, 3) := by decide +kernel
theorem dX0_isAllowed_21 : decode cX0_isAllowed 21 = .ok (.iconst 1, 1) := by decide +kernel
theorem dX0_isAllowed_22 : decode cX0_isAllowed 22 = .ok (.goto 4, 3) := by decide +kernel
theorem dX0_isAllowed_25 : decode cX0_isAllowed 25 = .ok (.iconst 0, 1) := by decide +kernel
theorem dX0_isAllowed_26 : decode cX0_isAllowed 26 = .ok (.ireturn, 1) := by decide +kernel
theorem dX0_hopeFor_0 : decode cX0_hopeFor 0 = .ok (.aload_n 0, 1) := by decide +kernel
theorem dX0_hopeFor_1 : decode cX0_hopeFor 1 = .ok (.getfield 35, 3) := by decide +kernel
theorem dX0_hopeFor_4 : decode cX0_hopeFor 4 = .ok (.aload_n 0, 1) := by decide +kernel
theorem dX0_hopeFor_5 : decode cX0_hopeFor 5 = .ok (.getfield 48, 3) := by decide +kernel
theorem dX0_hopeFor_8 : decode cX0_hopeFor 8 = .ok (.iconst 0, 1) := by decide +kernel
theorem dX0_hopeFor_9 : decode cX0_hopeFor 9 = .ok (.iastore, 1) := by decide +kernel
theorem dX0_hopeFor_10 : decode cX0_hopeFor 10 = .ok (.aload_n 0, 1) := by decide +kernel
theorem dX0_hopeFor_11 : decode cX0_hopeFor 11 = .ok (.getfield 48, 3) := by decide +kernel
theorem dX0_hopeFor_14 : decode cX0_hopeFor 14 = .ok (.iconst 1, 1) := by decide +kernel
theorem dX0_hopeFor_15 : decode cX0_hopeFor 15 = .ok (.isub, 1) := by decide +kernel
theorem dX0_hopeFor_16 : decode cX0_hopeFor 16 = .ok (.istore_n 2, 1) := by decide +kernel
theorem dX0_hopeFor_17 : decode cX0_hopeFor 17 = .ok (.iload_n 2, 1) := by decide +kernel
theorem dX0_hopeFor_18 : decode cX0_hopeFor 18 = .ok (.ifCond .lt 66, 3) := by decide +kernel
theorem dX0_hopeFor_21 : decode cX0_hopeFor 21 = .ok (.iconst 0, 1) := by decide +kernel
theorem dX0_hopeFor_22 : decode cX0_hopeFor 22 = .ok (.istore_n 3, 1) := by decide +kernel
theorem dX0_hopeFor_23 : decode cX0_hopeFor 23 = .ok (.iconst 0, 1) := by decide +kernel
theorem dX0_hopeFor_24 : decode cX0_hopeFor 24 = .ok (.istore 4, 2) := by decide +kernel
theorem dX0_hopeFor_26 : decode cX0_hopeFor 26 = .ok (.iload 4, 2) := by decide +kernel
theorem dX0_hopeFor_28 : decode cX0_hopeFor 28 = .ok (.aload_n 0, 1) := by decide +kernel
theorem dX0_hopeFor_29 : decode cX0_hopeFor 29 = .ok (.getfield 44, 3) := by decide +kernel
theorem dX0_hopeFor_32 : decode cX0_hopeFor 32 = .ok (.if_icmp .ge 30, 3) := by decide +kernel
theorem dX0_hopeFor_35 : decode cX0_hopeFor 35 = .ok (.aload_n 0, 1) := by decide +kernel
theorem dX0_hopeFor_36 : decode cX0_hopeFor 36 = .ok (.iload_n 2, 1) := by decide +kernel
theorem dX0_hopeFor_37 : decode cX0_hopeFor 37 = .ok (.iload 4, 2) := by decide +kernel
theorem dX0_hopeFor_39 : decode cX0_hopeFor 39 = .ok (.invokevirtual 105, 3) := by decide +kernel
theorem dX0_hopeFor_42 : decode cX0_hopeFor 42 = .ok (.ifCond .eq 14, 3) := by decide +kernel
theorem dX0_hopeFor_45 : decode cX0_hopeFor 45 = .ok (.iload_n 3, 1) := by decide +kernel
theorem dX0_hopeFor_46 : decode cX0_hopeFor 46 = .ok (.aload_n 1, 1) := by decide +kernel
theorem dX0_hopeFor_47 : decode cX0_hopeFor 47 = .ok (.iload_n 2, 1) := by decide +kernel
theorem dX0_hopeFor_48 : decode cX0_hopeFor 48 = .ok (.aaload, 1) := by decide +kernel
theorem dX0_hopeFor_49 : decode cX0_hopeFor 49 = .ok (.iload 4, 2) := by decide +kernel
theorem dX0_hopeFor_51 : decode cX0_hopeFor 51 = .ok (.iaload, 1) := by decide +kernel
theorem dX0_hopeFor_52 : decode cX0_hopeFor 52 = .ok (.invokestatic 108, 3) := by decide +kernel
theorem dX0_hopeFor_55 : decode cX0_hopeFor 55 = .ok (.istore_n 3, 1) := by decide +kernel
theorem dX0_hopeFor_56 : decode cX0_hopeFor 56 = .ok (.iinc 4 1, 3) := by decide +kernel
theorem dX0_hopeFor_59 : decode cX0_hopeFor 59 = .ok (.goto (-33), 3) := by decide +kernel
theorem dX0_hopeFor_62 : decode cX0_hopeFor 62 = .ok (.aload_n 0, 1) := by decide +kernel
theorem dX0_hopeFor_63 : decode cX0_hopeFor 63 = .ok (.getfield 35, 3) := by decide +kernel
theorem dX0_hopeFor_66 : decode cX0_hopeFor 66 = .ok (.iload_n 2, 1) := by decide +kernel
theorem dX0_hopeFor_67 : decode cX0_hopeFor 67 = .ok (.aload_n 0, 1) := by decide +kernel
theorem dX0_hopeFor_68 : decode cX0_hopeFor 68 = .ok (.getfield 35, 3) := by decide +kernel
theorem dX0_hopeFor_71 : decode cX0_hopeFor 71 = .ok (.iload_n 2, 1) := by decide +kernel
theorem dX0_hopeFor_72 : decode cX0_hopeFor 72 = .ok (.iconst 1, 1) := by decide +kernel
theorem dX0_hopeFor_73 : decode cX0_hopeFor 73 = .ok (.iadd, 1) := by decide +kernel
theorem dX0_hopeFor_74 : decode cX0_hopeFor 74 = .ok (.iaload, 1) := by decide +kernel
theorem dX0_hopeFor_75 : decode cX0_hopeFor 75 = .ok (.iload_n 3, 1) := by decide +kernel
theorem dX0_hopeFor_76 : decode cX0_hopeFor 76 = .ok (.iadd, 1) := by decide +kernel
theorem dX0_hopeFor_77 : decode cX0_hopeFor 77 = .ok (.iastore, 1) := by decide +kernel
theorem dX0_hopeFor_78 : decode cX0_hopeFor 78 = .ok (.iinc 2 (-1), 3) := by decide +kernel
theorem dX0_hopeFor_81 : decode cX0_hopeFor 81 = .ok (.goto (-64), 3) := by decide +kernel
theorem dX0_hopeFor_84 : decode cX0_hopeFor 84 = .ok (.return_, 1) := by decide +kernel
theorem dX0_search_0 : decode cX0_search 0 = .ok (.iload_n 2, 1) := by decide +kernel
theorem dX0_search_1 : decode cX0_search 1 = .ok (.aload_n 0, 1) := by decide +kernel
theorem dX0_search_2 : decode cX0_search 2 = .ok (.getfield 48, 3) := by decide +kernel
theorem dX0_search_5 : decode cX0_search 5 = .ok (.if_icmp .lt 34, 3) := by decide +kernel
theorem dX0_search_8 : decode cX0_search 8 = .ok (.iload_n 3, 1) := by decide +kernel
theorem dX0_search_9 : decode cX0_search 9 = .ok (.aload_n 0, 1) := by decide +kernel
theorem dX0_search_10 : decode cX0_search 10 = .ok (.getfield 98, 3) := by decide +kernel
theorem dX0_search_13 : decode cX0_search 13 = .ok (.if_icmp .le 25, 3) := by decide +kernel
theorem dX0_search_16 : decode cX0_search 16 = .ok (.aload_n 0, 1) := by decide +kernel
theorem dX0_search_17 : decode cX0_search 17 = .ok (.iload_n 3, 1) := by decide +kernel
theorem dX0_search_18 : decode cX0_search 18 = .ok (.putfield 98, 3) := by decide +kernel
theorem dX0_search_21 : decode cX0_search 21 = .ok (.aload_n 0, 1) := by decide +kernel
theorem dX0_search_22 : decode cX0_search 22 = .ok (.getfield 32, 3) := by decide +kernel
theorem dX0_search_25 : decode cX0_search 25 = .ok (.iconst 0, 1) := by decide +kernel
theorem dX0_search_26 : decode cX0_search 26 = .ok (.aload_n 0, 1) := by decide +kernel
theorem dX0_search_27 : decode cX0_search 27 = .ok (.getfield 29, 3) := by decide +kernel
theorem dX0_search_30 : decode cX0_search 30 = .ok (.iconst 0, 1) := by decide +kernel
theorem dX0_search_31 : decode cX0_search 31 = .ok (.aload_n 0, 1) := by decide +kernel
theorem dX0_search_32 : decode cX0_search 32 = .ok (.getfield 48, 3) := by decide +kernel
theorem dX0_search_35 : decode cX0_search 35 = .ok (.invokestatic 50, 3) := by decide +kernel
theorem dX0_search_38 : decode cX0_search 38 = .ok (.return_, 1) := by decide +kernel
theorem dX0_search_39 : decode cX0_search 39 = .ok (.iload_n 3, 1) := by decide +kernel
theorem dX0_search_40 : decode cX0_search 40 = .ok (.aload_n 0, 1) := by decide +kernel
theorem dX0_search_41 : decode cX0_search 41 = .ok (.getfield 35, 3) := by decide +kernel
theorem dX0_search_44 : decode cX0_search 44 = .ok (.iload_n 2, 1) := by decide +kernel
theorem dX0_search_45 : decode cX0_search 45 = .ok (.iaload, 1) := by decide +kernel
theorem dX0_search_46 : decode cX0_search 46 = .ok (.iadd, 1) := by decide +kernel
theorem dX0_search_47 : decode cX0_search 47 = .ok (.aload_n 0, 1) := by decide +kernel
theorem dX0_search_48 : decode cX0_search 48 = .ok (.getfield 98, 3) := by decide +kernel
theorem dX0_search_51 : decode cX0_search 51 = .ok (.if_icmp .gt 4, 3) := by decide +kernel
theorem dX0_search_54 : decode cX0_search 54 = .ok (.return_, 1) := by decide +kernel
theorem dX0_search_55 : decode cX0_search 55 = .ok (.aload_n 0, 1) := by decide +kernel
theorem dX0_search_56 : decode cX0_search 56 = .ok (.getfield 32, 3) := by decide +kernel
theorem dX0_search_59 : decode cX0_search 59 = .ok (.iload_n 2, 1) := by decide +kernel
theorem dX0_search_60 : decode cX0_search 60 = .ok (.iconst (-1), 1) := by decide +kernel
theorem dX0_search_61 : decode cX0_search 61 = .ok (.iastore, 1) := by decide +kernel
theorem dX0_search_62 : decode cX0_search 62 = .ok (.aload_n 0, 1) := by decide +kernel
theorem dX0_search_63 : decode cX0_search 63 = .ok (.aload_n 1, 1) := by decide +kernel
theorem dX0_search_64 : decode cX0_search 64 = .ok (.iload_n 2, 1) := by decide +kernel
theorem dX0_search_65 : decode cX0_search 65 = .ok (.iconst 1, 1) := by decide +kernel
theorem dX0_search_66 : decode cX0_search 66 = .ok (.iadd, 1) := by decide +kernel
theorem dX0_search_67 : decode cX0_search 67 = .ok (.iload_n 3, 1) := by decide +kernel
theorem dX0_search_68 : decode cX0_search 68 = .ok (.invokestatic 101, 3) := by decide +kernel
theorem dX0_search_71 : decode cX0_search 71 = .ok (.iconst 0, 1) := by decide +kernel
theorem dX0_search_72 : decode cX0_search 72 = .ok (.istore 4, 2) := by decide +kernel
theorem dX0_search_74 : decode cX0_search 74 = .ok (.iload 4, 2) := by decide +kernel
theorem dX0_search_76 : decode cX0_search 76 = .ok (.aload_n 0, 1) := by decide +kernel
theorem dX0_search_77 : decode cX0_search 77 = .ok (.getfield 44, 3) := by decide +kernel
theorem dX0_search_80 : decode cX0_search 80 = .ok (.if_icmp .ge 81, 3) := by decide +kernel
theorem dX0_search_83 : decode cX0_search 83 = .ok (.aload_n 0, 1) := by decide +kernel
theorem dX0_search_84 : decode cX0_search 84 = .ok (.iload_n 2, 1) := by decide +kernel
theorem dX0_search_85 : decode cX0_search 85 = .ok (.iload 4, 2) := by decide +kernel
theorem dX0_search_87 : decode cX0_search 87 = .ok (.invokevirtual 105, 3) := by decide +kernel
theorem dX0_search_90 : decode cX0_search 90 = .ok (.ifCond .eq 65, 3) := by decide +kernel
theorem dX0_search_93 : decode cX0_search 93 = .ok (.aload_n 0, 1) := by decide +kernel
theorem dX0_search_94 : decode cX0_search 94 = .ok (.getfield 32, 3) := by decide +kernel
theorem dX0_search_97 : decode cX0_search 97 = .ok (.iload_n 2, 1) := by decide +kernel
theorem dX0_search_98 : decode cX0_search 98 = .ok (.iload 4, 2) := by decide +kernel
theorem dX0_search_100 : decode cX0_search 100 = .ok (.iastore, 1) := by decide +kernel
theorem dX0_search_101 : decode cX0_search 101 = .ok (.aload_n 0, 1) := by decide +kernel
theorem dX0_search_102 : decode cX0_search 102 = .ok (.getfield 26, 3) := by decide +kernel
theorem dX0_search_105 : decode cX0_search 105 = .ok (.iload 4, 2) := by decide +kernel
theorem dX0_search_107 : decode cX0_search 107 = .ok (.dup2, 1) := by decide +kernel
theorem dX0_search_108 : decode cX0_search 108 = .ok (.iaload, 1) := by decide +kernel
theorem dX0_search_109 : decode cX0_search 109 = .ok (.aload_n 0, 1) := by decide +kernel
theorem dX0_search_110 : decode cX0_search 110 = .ok (.getfield 11, 3) := by decide +kernel
theorem dX0_search_113 : decode cX0_search 113 = .ok (.iload_n 2, 1) := by decide +kernel
theorem dX0_search_114 : decode cX0_search 114 = .ok (.aaload, 1) := by decide +kernel
theorem dX0_search_115 : decode cX0_search 115 = .ok (.iload 4, 2) := by decide +kernel
theorem dX0_search_117 : decode cX0_search 117 = .ok (.iaload, 1) := by decide +kernel
theorem dX0_search_118 : decode cX0_search 118 = .ok (.isub, 1) := by decide +kernel
theorem dX0_search_119 : decode cX0_search 119 = .ok (.iastore, 1) := by decide +kernel
theorem dX0_search_120 : decode cX0_search 120 = .ok (.aload_n 0, 1) := by decide +kernel
theorem dX0_search_121 : decode cX0_search 121 = .ok (.aload_n 1, 1) := by decide +kernel
theorem dX0_search_122 : decode cX0_search 122 = .ok (.iload_n 2, 1) := by decide +kernel
theorem dX0_search_123 : decode cX0_search 123 = .ok (.iconst 1, 1) := by decide +kernel
theorem dX0_search_124 : decode cX0_search 124 = .ok (.iadd, 1) := by decide +kernel
theorem dX0_search_125 : decode cX0_search 125 = .ok (.iload_n 3, 1) := by decide +kernel
theorem dX0_search_126 : decode cX0_search 126 = .ok (.aload_n 1, 1) := by decide +kernel
theorem dX0_search_127 : decode cX0_search 127 = .ok (.iload_n 2, 1) := by decide +kernel
theorem dX0_search_128 : decode cX0_search 128 = .ok (.aaload, 1) := by decide +kernel
theorem dX0_search_129 : decode cX0_search 129 = .ok (.iload 4, 2) := by decide +kernel
theorem dX0_search_131 : decode cX0_search 131 = .ok (.iaload, 1) := by decide +kernel
theorem dX0_search_132 : decode cX0_search 132 = .ok (.iadd, 1) := by decide +kernel
theorem dX0_search_133 : decode cX0_search 133 = .ok (.invokestatic 101, 3) := by decide +kernel
theorem dX0_search_136 : decode cX0_search 136 = .ok (.aload_n 0, 1) := by decide +kernel
theorem dX0_search_137 : decode cX0_search 137 = .ok (.getfield 26, 3) := by decide +kernel
theorem dX0_search_140 : decode cX0_search 140 = .ok (.iload 4, 2) := by decide +kernel
theorem dX0_search_142 : decode cX0_search 142 = .ok (.dup2, 1) := by decide +kernel
theorem dX0_search_143 : decode cX0_search 143 = .ok (.iaload, 1) := by decide +kernel
theorem dX0_search_144 : decode cX0_search 144 = .ok (.aload_n 0, 1) := by decide +kernel
theorem dX0_search_145 : decode cX0_search 145 = .ok (.getfield 11, 3) := by decide +kernel
theorem dX0_search_148 : decode cX0_search 148 = .ok (.iload_n 2, 1) := by decide +kernel
theorem dX0_search_149 : decode cX0_search 149 = .ok (.aaload, 1) := by decide +kernel
theorem dX0_search_150 : decode cX0_search 150 = .ok (.iload 4, 2) := by decide +kernel
theorem dX0_search_152 : decode cX0_search 152 = .ok (.iaload, 1) := by decide +kernel
theorem dX0_search_153 : decode cX0_search 153 = .ok (.iadd, 1) := by decide +kernel
theorem dX0_search_154 : decode cX0_search 154 = .ok (.iastore, 1) := by decide +kernel
theorem dX0_search_155 : decode cX0_search 155 = .ok (.iinc 4 1, 3) := by decide +kernel
theorem dX0_search_158 : decode cX0_search 158 = .ok (.goto (-84), 3) := by decide +kernel
theorem dX0_search_161 : decode cX0_search 161 = .ok (.return_, 1) := by decide +kernel
theorem dX0_fewestFigures_0 : decode cX0_fewestFigures 0 = .ok (.aload_n 0, 1) := by decide +kernel
theorem dX0_fewestFigures_1 : decode cX0_fewestFigures 1 = .ok (.bipush 63, 2) := by decide +kernel
theorem dX0_fewestFigures_3 : decode cX0_fewestFigures 3 = .ok (.putfield 113, 3) := by decide +kernel
theorem dX0_fewestFigures_6 : decode cX0_fewestFigures 6 = .ok (.aload_n 0, 1) := by decide +kernel
theorem dX0_fewestFigures_7 : decode cX0_fewestFigures 7 = .ok (.invokevirtual 73, 3) := by decide +kernel
theorem dX0_fewestFigures_10 : decode cX0_fewestFigures 10 = .ok (.aload_n 0, 1) := by decide +kernel
theorem dX0_fewestFigures_11 : decode cX0_fewestFigures 11 = .ok (.iconst 0, 1) := by decide +kernel
theorem dX0_fewestFigures_12 : decode cX0_fewestFigures 12 = .ok (.iconst 0, 1) := by decide +kernel
theorem dX0_fewestFigures_13 : decode cX0_fewestFigures 13 = .ok (.iconst 0, 1) := by decide +kernel
theorem dX0_fewestFigures_14 : decode cX0_fewestFigures 14 = .ok (.invokestatic 116, 3) := by decide +kernel
theorem dX0_fewestFigures_17 : decode cX0_fewestFigures 17 = .ok (.aload_n 0, 1) := by decide +kernel
theorem dX0_fewestFigures_18 : decode cX0_fewestFigures 18 = .ok (.getfield 113, 3) := by decide +kernel
theorem dX0_fewestFigures_21 : decode cX0_fewestFigures 21 = .ok (.ireturn, 1) := by decide +kernel
theorem dX0_searchFewest_0 : decode cX0_searchFewest 0 = .ok (.iload_n 2, 1) := by decide +kernel
theorem dX0_searchFewest_1 : decode cX0_searchFewest 1 = .ok (.aload_n 0, 1) := by decide +kernel
theorem dX0_searchFewest_2 : decode cX0_searchFewest 2 = .ok (.getfield 35, 3) := by decide +kernel
theorem dX0_searchFewest_5 : decode cX0_searchFewest 5 = .ok (.iload_n 1, 1) := by decide +kernel
theorem dX0_searchFewest_6 : decode cX0_searchFewest 6 = .ok (.iaload, 1) := by decide +kernel
theorem dX0_searchFewest_7 : decode cX0_searchFewest 7 = .ok (.iadd, 1) := by decide +kernel
theorem dX0_searchFewest_8 : decode cX0_searchFewest 8 = .ok (.aload_n 0, 1) := by decide +kernel
theorem dX0_searchFewest_9 : decode cX0_searchFewest 9 = .ok (.getfield 98, 3) := by decide +kernel
theorem dX0_searchFewest_12 : decode cX0_searchFewest 12 = .ok (.if_icmp .lt 17, 3) := by decide +kernel
theorem dX0_searchFewest_15 : decode cX0_searchFewest 15 = .ok (.iload_n 3, 1) := by decide +kernel
theorem dX0_searchFewest_16 : decode cX0_searchFewest 16 = .ok (.invokestatic 120, 3) := by decide +kernel
theorem dX0_searchFewest_19 : decode cX0_searchFewest 19 = .ok (.aload_n 0, 1) := by decide +kernel
theorem dX0_searchFewest_20 : decode cX0_searchFewest 20 = .ok (.getfield 113, 3) := by decide +kernel
theorem dX0_searchFewest_23 : decode cX0_searchFewest 23 = .ok (.invokestatic 120, 3) := by decide +kernel
theorem dX0_searchFewest_26 : decode cX0_searchFewest 26 = .ok (.if_icmp .le 4, 3) := by decide +kernel
theorem dX0_searchFewest_29 : decode cX0_searchFewest 29 = .ok (.return_, 1) := by decide +kernel
theorem dX0_searchFewest_30 : decode cX0_searchFewest 30 = .ok (.iload_n 1, 1) := by decide +kernel
theorem dX0_searchFewest_31 : decode cX0_searchFewest 31 = .ok (.aload_n 0, 1) := by decide +kernel
theorem dX0_searchFewest_32 : decode cX0_searchFewest 32 = .ok (.getfield 48, 3) := by decide +kernel
theorem dX0_searchFewest_35 : decode cX0_searchFewest 35 = .ok (.if_icmp .lt 31, 3) := by decide +kernel
theorem dX0_searchFewest_38 : decode cX0_searchFewest 38 = .ok (.iload_n 3, 1) := by decide +kernel
theorem dX0_searchFewest_39 : decode cX0_searchFewest 39 = .ok (.aload_n 0, 1) := by decide +kernel
theorem dX0_searchFewest_40 : decode cX0_searchFewest 40 = .ok (.getfield 113, 3) := by decide +kernel
theorem dX0_searchFewest_43 : decode cX0_searchFewest 43 = .ok (.if_icmp .lt 17, 3) := by decide +kernel
theorem dX0_searchFewest_46 : decode cX0_searchFewest 46 = .ok (.iload_n 3, 1) := by decide +kernel
theorem dX0_searchFewest_47 : decode cX0_searchFewest 47 = .ok (.invokestatic 120, 3) := by decide +kernel
theorem dX0_searchFewest_50 : decode cX0_searchFewest 50 = .ok (.aload_n 0, 1) := by decide +kernel
theorem dX0_searchFewest_51 : decode cX0_searchFewest 51 = .ok (.getfield 113, 3) := by decide +kernel
theorem dX0_searchFewest_54 : decode cX0_searchFewest 54 = .ok (.invokestatic 120, 3) := by decide +kernel
theorem dX0_searchFewest_57 : decode cX0_searchFewest 57 = .ok (.if_icmp .ge 8, 3) := by decide +kernel
theorem dX0_searchFewest_60 : decode cX0_searchFewest 60 = .ok (.aload_n 0, 1) := by decide +kernel
theorem dX0_searchFewest_61 : decode cX0_searchFewest 61 = .ok (.iload_n 3, 1) := by decide +kernel
theorem dX0_searchFewest_62 : decode cX0_searchFewest 62 = .ok (.putfield 113, 3) := by decide +kernel
theorem dX0_searchFewest_65 : decode cX0_searchFewest 65 = .ok (.return_, 1) := by decide +kernel
theorem dX0_searchFewest_66 : decode cX0_searchFewest 66 = .ok (.aload_n 0, 1) := by decide +kernel
theorem dX0_searchFewest_67 : decode cX0_searchFewest 67 = .ok (.iload_n 1, 1) := by decide +kernel
theorem dX0_searchFewest_68 : decode cX0_searchFewest 68 = .ok (.iconst 1, 1) := by decide +kernel
theorem dX0_searchFewest_69 : decode cX0_searchFewest 69 = .ok (.iadd, 1) := by decide +kernel
theorem dX0_searchFewest_70 : decode cX0_searchFewest 70 = .ok (.iload_n 2, 1) := by decide +kernel
theorem dX0_searchFewest_71 : decode cX0_searchFewest 71 = .ok (.iload_n 3, 1) := by decide +kernel
theorem dX0_searchFewest_72 : decode cX0_searchFewest 72 = .ok (.invokestatic 116, 3) := by decide +kernel
theorem dX0_searchFewest_75 : decode cX0_searchFewest 75 = .ok (.iconst 0, 1) := by decide +kernel
theorem dX0_searchFewest_76 : decode cX0_searchFewest 76 = .ok (.istore 4, 2) := by decide +kernel
theorem dX0_searchFewest_78 : decode cX0_searchFewest 78 = .ok (.iload 4, 2) := by decide +kernel
theorem dX0_searchFewest_80 : decode cX0_searchFewest 80 = .ok (.aload_n 0, 1) := by decide +kernel
theorem dX0_searchFewest_81 : decode cX0_searchFewest 81 = .ok (.getfield 44, 3) := by decide +kernel
theorem dX0_searchFewest_84 : decode cX0_searchFewest 84 = .ok (.if_icmp .ge 81, 3) := by decide +kernel
theorem dX0_searchFewest_87 : decode cX0_searchFewest 87 = .ok (.aload_n 0, 1) := by decide +kernel
theorem dX0_searchFewest_88 : decode cX0_searchFewest 88 = .ok (.iload_n 1, 1) := by decide +kernel
theorem dX0_searchFewest_89 : decode cX0_searchFewest 89 = .ok (.iload 4, 2) := by decide +kernel
theorem dX0_searchFewest_91 : decode cX0_searchFewest 91 = .ok (.invokevirtual 105, 3) := by decide +kernel
theorem dX0_searchFewest_94 : decode cX0_searchFewest 94 = .ok (.ifCond .eq 65, 3) := by decide +kernel
theorem dX0_searchFewest_97 : decode cX0_searchFewest 97 = .ok (.aload_n 0, 1) := by decide +kernel
theorem dX0_searchFewest_98 : decode cX0_searchFewest 98 = .ok (.getfield 26, 3) := by decide +kernel
theorem dX0_searchFewest_101 : decode cX0_searchFewest 101 = .ok (.iload 4, 2) := by decide +kernel
theorem dX0_searchFewest_103 : decode cX0_searchFewest 103 = .ok (.dup2, 1) := by decide +kernel
theorem dX0_searchFewest_104 : decode cX0_searchFewest 104 = .ok (.iaload, 1) := by decide +kernel
theorem dX0_searchFewest_105 : decode cX0_searchFewest 105 = .ok (.aload_n 0, 1) := by decide +kernel
theorem dX0_searchFewest_106 : decode cX0_searchFewest 106 = .ok (.getfield 11, 3) := by decide +kernel
theorem dX0_searchFewest_109 : decode cX0_searchFewest 109 = .ok (.iload_n 1, 1) := by decide +kernel
theorem dX0_searchFewest_110 : decode cX0_searchFewest 110 = .ok (.aaload, 1) := by decide +kernel
theorem dX0_searchFewest_111 : decode cX0_searchFewest 111 = .ok (.iload 4, 2) := by decide +kernel
theorem dX0_searchFewest_113 : decode cX0_searchFewest 113 = .ok (.iaload, 1) := by decide +kernel
theorem dX0_searchFewest_114 : decode cX0_searchFewest 114 = .ok (.isub, 1) := by decide +kernel
theorem dX0_searchFewest_115 : decode cX0_searchFewest 115 = .ok (.iastore, 1) := by decide +kernel
theorem dX0_searchFewest_116 : decode cX0_searchFewest 116 = .ok (.aload_n 0, 1) := by decide +kernel
theorem dX0_searchFewest_117 : decode cX0_searchFewest 117 = .ok (.iload_n 1, 1) := by decide +kernel
theorem dX0_searchFewest_118 : decode cX0_searchFewest 118 = .ok (.iconst 1, 1) := by decide +kernel
theorem dX0_searchFewest_119 : decode cX0_searchFewest 119 = .ok (.iadd, 1) := by decide +kernel
theorem dX0_searchFewest_120 : decode cX0_searchFewest 120 = .ok (.iload_n 2, 1) := by decide +kernel
theorem dX0_searchFewest_121 : decode cX0_searchFewest 121 = .ok (.aload_n 0, 1) := by decide +kernel
theorem dX0_searchFewest_122 : decode cX0_searchFewest 122 = .ok (.getfield 16, 3) := by decide +kernel
theorem dX0_searchFewest_125 : decode cX0_searchFewest 125 = .ok (.iload_n 1, 1) := by decide +kernel
theorem dX0_searchFewest_126 : decode cX0_searchFewest 126 = .ok (.aaload, 1) := by decide +kernel
theorem dX0_searchFewest_127 : decode cX0_searchFewest 127 = .ok (.iload 4, 2) := by decide +kernel
theorem dX0_searchFewest_129 : decode cX0_searchFewest 129 = .ok (.iaload, 1) := by decide +kernel
theorem dX0_searchFewest_130 : decode cX0_searchFewest 130 = .ok (.iadd, 1) := by decide +kernel
theorem dX0_searchFewest_131 : decode cX0_searchFewest 131 = .ok (.iload_n 3, 1) := by decide +kernel
theorem dX0_searchFewest_132 : decode cX0_searchFewest 132 = .ok (.iconst 1, 1) := by decide +kernel
theorem dX0_searchFewest_133 : decode cX0_searchFewest 133 = .ok (.iload 4, 2) := by decide +kernel
theorem dX0_searchFewest_135 : decode cX0_searchFewest 135 = .ok (.ishl, 1) := by decide +kernel
theorem dX0_searchFewest_136 : decode cX0_searchFewest 136 = .ok (.ior, 1) := by decide +kernel
theorem dX0_searchFewest_137 : decode cX0_searchFewest 137 = .ok (.invokestatic 116, 3) := by decide +kernel
theorem dX0_searchFewest_140 : decode cX0_searchFewest 140 = .ok (.aload_n 0, 1) := by decide +kernel
theorem dX0_searchFewest_141 : decode cX0_searchFewest 141 = .ok (.getfield 26, 3) := by decide +kernel
theorem dX0_searchFewest_144 : decode cX0_searchFewest 144 = .ok (.iload 4, 2) := by decide +kernel
theorem dX0_searchFewest_146 : decode cX0_searchFewest 146 = .ok (.dup2, 1) := by decide +kernel
theorem dX0_searchFewest_147 : decode cX0_searchFewest 147 = .ok (.iaload, 1) := by decide +kernel
theorem dX0_searchFewest_148 : decode cX0_searchFewest 148 = .ok (.aload_n 0, 1) := by decide +kernel
theorem dX0_searchFewest_149 : decode cX0_searchFewest 149 = .ok (.getfield 11, 3) := by decide +kernel
theorem dX0_searchFewest_152 : decode cX0_searchFewest 152 = .ok (.iload_n 1, 1) := by decide +kernel
theorem dX0_searchFewest_153 : decode cX0_searchFewest 153 = .ok (.aaload, 1) := by decide +kernel
theorem dX0_searchFewest_154 : decode cX0_searchFewest 154 = .ok (.iload 4, 2) := by decide +kernel
theorem dX0_searchFewest_156 : decode cX0_searchFewest 156 = .ok (.iaload, 1) := by decide +kernel
theorem dX0_searchFewest_157 : decode cX0_searchFewest 157 = .ok (.iadd, 1) := by decide +kernel
theorem dX0_searchFewest_158 : decode cX0_searchFewest 158 = .ok (.iastore, 1) := by decide +kernel
theorem dX0_searchFewest_159 : decode cX0_searchFewest 159 = .ok (.iinc 4 1, 3) := by decide +kernel
theorem dX0_searchFewest_162 : decode cX0_searchFewest 162 = .ok (.goto (-84), 3) := by decide +kernel
theorem dX0_searchFewest_165 : decode cX0_searchFewest 165 = .ok (.return_, 1) := by decide +kernel
theorem dX1_init_0 : decode cX1_init 0 = .ok (.aload_n 0, 1) := by decide +kernel
theorem dX1_init_1 : decode cX1_init 1 = .ok (.invokespecial 3, 3) := by decide +kernel
theorem dX1_init_4 : decode cX1_init 4 = .ok (.aload_n 0, 1) := by decide +kernel
theorem dX1_init_5 : decode cX1_init 5 = .ok (.iconst (-1), 1) := by decide +kernel
theorem dX1_init_6 : decode cX1_init 6 = .ok (.putfield 9, 3) := by decide +kernel
theorem dX1_init_9 : decode cX1_init 9 = .ok (.aload_n 0, 1) := by decide +kernel
theorem dX1_init_10 : decode cX1_init 10 = .ok (.bipush 40, 2) := by decide +kernel
theorem dX1_init_12 : decode cX1_init 12 = .ok (.newarray .int, 2) := by decide +kernel
theorem dX1_init_14 : decode cX1_init 14 = .ok (.putfield 15, 3) := by decide +kernel
theorem dX1_init_17 : decode cX1_init 17 = .ok (.return_, 1) := by decide +kernel
theorem dX1_become_0 : decode cX1_become 0 = .ok (.aload_n 0, 1) := by decide +kernel
theorem dX1_become_1 : decode cX1_become 1 = .ok (.iload_n 1, 1) := by decide +kernel
theorem dX1_become_2 : decode cX1_become 2 = .ok (.putfield 9, 3) := by decide +kernel
theorem dX1_become_5 : decode cX1_become 5 = .ok (.aload_n 0, 1) := by decide +kernel
theorem dX1_become_6 : decode cX1_become 6 = .ok (.iload_n 2, 1) := by decide +kernel
theorem dX1_become_7 : decode cX1_become 7 = .ok (.putfield 19, 3) := by decide +kernel
theorem dX1_become_10 : decode cX1_become 10 = .ok (.iconst 0, 1) := by decide +kernel
theorem dX1_become_11 : decode cX1_become 11 = .ok (.istore_n 3, 1) := by decide +kernel
theorem dX1_become_12 : decode cX1_become 12 = .ok (.iload_n 3, 1) := by decide +kernel
theorem dX1_become_13 : decode cX1_become 13 = .ok (.bipush 40, 2) := by decide +kernel
theorem dX1_become_15 : decode cX1_become 15 = .ok (.if_icmp .ge 16, 3) := by decide +kernel
theorem dX1_become_18 : decode cX1_become 18 = .ok (.aload_n 0, 1) := by decide +kernel
theorem dX1_become_19 : decode cX1_become 19 = .ok (.getfield 15, 3) := by decide +kernel
theorem dX1_become_22 : decode cX1_become 22 = .ok (.iload_n 3, 1) := by decide +kernel
theorem dX1_become_23 : decode cX1_become 23 = .ok (.iconst 0, 1) := by decide +kernel
theorem dX1_become_24 : decode cX1_become 24 = .ok (.iastore, 1) := by decide +kernel
theorem dX1_become_25 : decode cX1_become 25 = .ok (.iinc 3 1, 3) := by decide +kernel
theorem dX1_become_28 : decode cX1_become 28 = .ok (.goto (-16), 3) := by decide +kernel
theorem dX1_become_31 : decode cX1_become 31 = .ok (.return_, 1) := by decide +kernel
theorem dX1_holds_0 : decode cX1_holds 0 = .ok (.iload_n 1, 1) := by decide +kernel
theorem dX1_holds_1 : decode cX1_holds 1 = .ok (.ifCond .lt 29, 3) := by decide +kernel
theorem dX1_holds_4 : decode cX1_holds 4 = .ok (.iload_n 2, 1) := by decide +kernel
theorem dX1_holds_5 : decode cX1_holds 5 = .ok (.ifCond .lt 25, 3) := by decide +kernel
theorem dX1_holds_8 : decode cX1_holds 8 = .ok (.iload_n 2, 1) := by decide +kernel
theorem dX1_holds_9 : decode cX1_holds 9 = .ok (.aload_n 0, 1) := by decide +kernel
theorem dX1_holds_10 : decode cX1_holds 10 = .ok (.getfield 19, 3) := by decide +kernel
theorem dX1_holds_13 : decode cX1_holds 13 = .ok (.if_icmp .gt 17, 3) := by decide +kernel
theorem dX1_holds_16 : decode cX1_holds 16 = .ok (.iload_n 1, 1) := by decide +kernel
theorem dX1_holds_17 : decode cX1_holds 17 = .ok (.aload_n 0, 1) := by decide +kernel
theorem dX1_holds_18 : decode cX1_holds 18 = .ok (.getfield 19, 3) := by decide +kernel
theorem dX1_holds_21 : decode cX1_holds 21 = .ok (.iload_n 2, 1) := by decide +kernel
theorem dX1_holds_22 : decode cX1_holds 22 = .ok (.isub, 1) := by decide +kernel
theorem dX1_holds_23 : decode cX1_holds 23 = .ok (.if_icmp .gt 7, 3) := by decide +kernel
theorem dX1_holds_26 : decode cX1_holds 26 = .ok (.iconst 1, 1) := by decide +kernel
theorem dX1_holds_27 : decode cX1_holds 27 = .ok (.goto 4, 3) := by decide +kernel
theorem dX1_holds_30 : decode cX1_holds 30 = .ok (.iconst 0, 1) := by decide +kernel
theorem dX1_holds_31 : decode cX1_holds 31 = .ok (.ireturn, 1) := by decide +kernel
theorem dX1_put_0 : decode cX1_put 0 = .ok (.aload_n 0, 1) := by decide +kernel
theorem dX1_put_1 : decode cX1_put 1 = .ok (.iload_n 1, 1) := by decide +kernel
theorem dX1_put_2 : decode cX1_put 2 = .ok (.iconst 1, 1) := by decide +kernel
theorem dX1_put_3 : decode cX1_put 3 = .ok (.invokevirtual 22, 3) := by decide +kernel
theorem dX1_put_6 : decode cX1_put 6 = .ok (.ifCond .ne 4, 3) := by decide +kernel
theorem dX1_put_9 : decode cX1_put 9 = .ok (.return_, 1) := by decide +kernel
theorem dX1_put_10 : decode cX1_put 10 = .ok (.aload_n 0, 1) := by decide +kernel
theorem dX1_put_11 : decode cX1_put 11 = .ok (.getfield 15, 3) := by decide +kernel
theorem dX1_put_14 : decode cX1_put 14 = .ok (.iload_n 1, 1) := by decide +kernel
theorem dX1_put_15 : decode cX1_put 15 = .ok (.aload_n 0, 1) := by decide +kernel
theorem dX1_put_16 : decode cX1_put 16 = .ok (.getfield 9, 3) := by decide +kernel
theorem dX1_put_19 : decode cX1_put 19 = .ok (.ifCond .ne 8, 3) := by decide +kernel
theorem dX1_put_22 : decode cX1_put 22 = .ok (.iload_n 2, 1) := by decide +kernel
theorem dX1_put_23 : decode cX1_put 23 = .ok (.i2b, 1) := by decide +kernel
theorem dX1_put_24 : decode cX1_put 24 = .ok (.goto 17, 3) := by decide +kernel
theorem dX1_put_27 : decode cX1_put 27 = .ok (.aload_n 0, 1) := by decide +kernel
theorem dX1_put_28 : decode cX1_put 28 = .ok (.getfield 9, 3) := by decide +kernel
theorem dX1_put_31 : decode cX1_put 31 = .ok (.iconst 1, 1) := by decide +kernel
theorem dX1_put_32 : decode cX1_put 32 = .ok (.if_icmp .ne 8, 3) := by decide +kernel
theorem dX1_put_35 : decode cX1_put 35 = .ok (.iload_n 2, 1) := by decide +kernel
theorem dX1_put_36 : decode cX1_put 36 = .ok (.i2s, 1) := by decide +kernel
theorem dX1_put_37 : decode cX1_put 37 = .ok (.goto 4, 3) := by decide +kernel
theorem dX1_put_40 : decode cX1_put 40 = .ok (.iload_n 2, 1) := by decide +kernel
theorem dX1_put_41 : decode cX1_put 41 = .ok (.iastore, 1) := by decide +kernel
theorem dX1_put_42 : decode cX1_put 42 = .ok (.return_, 1) := by decide +kernel
theorem dX2_init_0 : decode cX2_init 0 = .ok (.aload_n 0, 1) := by decide +kernel
theorem dX2_init_1 : decode cX2_init 1 = .ok (.invokespecial 3, 3) := by decide +kernel
theorem dX2_init_4 : decode cX2_init 4 = .ok (.aload_n 0, 1) := by decide +kernel
theorem dX2_init_5 : decode cX2_init 5 = .ok (.sipush 160, 3) := by decide +kernel
theorem dX2_init_8 : decode cX2_init 8 = .ok (.newarray .int, 2) := by decide +kernel
theorem dX2_init_10 : decode cX2_init 10 = .ok (.putfield 9, 3) := by decide +kernel
theorem dX2_init_13 : decode cX2_init 13 = .ok (.return_, 1) := by decide +kernel
theorem dX2_add_0 : decode cX2_add 0 = .ok (.aload_n 0, 1) := by decide +kernel
theorem dX2_add_1 : decode cX2_add 1 = .ok (.getfield 15, 3) := by decide +kernel
theorem dX2_add_4 : decode cX2_add 4 = .ok (.sipush 160, 3) := by decide +kernel
theorem dX2_add_7 : decode cX2_add 7 = .ok (.if_icmp .lt 5, 3) := by decide +kernel
theorem dX2_add_10 : decode cX2_add 10 = .ok (.iconst 0, 1) := by decide +kernel
theorem dX2_add_11 : decode cX2_add 11 = .ok (.ireturn, 1) := by decide +kernel
theorem dX2_add_12 : decode cX2_add 12 = .ok (.aload_n 0, 1) := by decide +kernel
theorem dX2_add_13 : decode cX2_add 13 = .ok (.getfield 9, 3) := by decide +kernel
theorem dX2_add_16 : decode cX2_add 16 = .ok (.aload_n 0, 1) := by decide +kernel
theorem dX2_add_17 : decode cX2_add 17 = .ok (.getfield 15, 3) := by decide +kernel
theorem dX2_add_20 : decode cX2_add 20 = .ok (.iload_n 1, 1) := by decide +kernel
theorem dX2_add_21 : decode cX2_add 21 = .ok (.iastore, 1) := by decide +kernel
theorem dX2_add_22 : decode cX2_add 22 = .ok (.aload_n 0, 1) := by decide +kernel
theorem dX2_add_23 : decode cX2_add 23 = .ok (.dup, 1) := by decide +kernel
theorem dX2_add_24 : decode cX2_add 24 = .ok (.getfield 15, 3) := by decide +kernel
theorem dX2_add_27 : decode cX2_add 27 = .ok (.iconst 1, 1) := by decide +kernel
theorem dX2_add_28 : decode cX2_add 28 = .ok (.iadd, 1) := by decide +kernel
theorem dX2_add_29 : decode cX2_add 29 = .ok (.putfield 15, 3) := by decide +kernel
theorem dX2_add_32 : decode cX2_add 32 = .ok (.iconst 1, 1) := by decide +kernel
theorem dX2_add_33 : decode cX2_add 33 = .ok (.ireturn, 1) := by decide +kernel
theorem dX2_clear_0 : decode cX2_clear 0 = .ok (.aload_n 0, 1) := by decide +kernel
theorem dX2_clear_1 : decode cX2_clear 1 = .ok (.iconst 0, 1) := by decide +kernel
theorem dX2_clear_2 : decode cX2_clear 2 = .ok (.putfield 15, 3) := by decide +kernel
theorem dX2_clear_5 : decode cX2_clear 5 = .ok (.return_, 1) := by decide +kernel
theorem dX2_read_0 : decode cX2_read 0 = .ok (.aload_n 1, 1) := by decide +kernel
theorem dX2_read_1 : decode cX2_read 1 = .ok (.invokevirtual 19, 3) := by decide +kernel
theorem dX2_read_4 : decode cX2_read 4 = .ok (.aload_n 0, 1) := by decide +kernel
theorem dX2_read_5 : decode cX2_read 5 = .ok (.iconst 0, 1) := by decide +kernel
theorem dX2_read_6 : decode cX2_read 6 = .ok (.putfield 24, 3) := by decide +kernel
theorem dX2_read_9 : decode cX2_read 9 = .ok (.aload_n 0, 1) := by decide +kernel
theorem dX2_read_10 : decode cX2_read 10 = .ok (.invokevirtual 27, 3) := by decide +kernel
theorem dX2_read_13 : decode cX2_read 13 = .ok (.iconst 0, 1) := by decide +kernel
theorem dX2_read_14 : decode cX2_read 14 = .ok (.istore_n 2, 1) := by decide +kernel
theorem dX2_read_15 : decode cX2_read 15 = .ok (.iload_n 2, 1) := by decide +kernel
theorem dX2_read_16 : decode cX2_read 16 = .ok (.iconst 3, 1) := by decide +kernel
theorem dX2_read_17 : decode cX2_read 17 = .ok (.if_icmp .ge 49, 3) := by decide +kernel
theorem dX2_read_20 : decode cX2_read 20 = .ok (.aload_n 0, 1) := by decide +kernel
theorem dX2_read_21 : decode cX2_read 21 = .ok (.sipush 260, 3) := by decide +kernel
theorem dX2_read_24 : decode cX2_read 24 = .ok (.iload_n 2, 1) := by decide +kernel
theorem dX2_read_25 : decode cX2_read 25 = .ok (.iadd, 1) := by decide +kernel
theorem dX2_read_26 : decode cX2_read 26 = .ok (.invokevirtual 30, 3) := by decide +kernel
theorem dX2_read_29 : decode cX2_read 29 = .ok (.ifCond .eq 21, 3) := by decide +kernel
theorem dX2_read_32 : decode cX2_read 32 = .ok (.aload_n 0, 1) := by decide +kernel
theorem dX2_read_33 : decode cX2_read 33 = .ok (.aload_n 1, 1) := by decide +kernel
theorem dX2_read_34 : decode cX2_read 34 = .ok (.iconst 0, 1) := by decide +kernel
theorem dX2_read_35 : decode cX2_read 35 = .ok (.invokevirtual 34, 3) := by decide +kernel
theorem dX2_read_38 : decode cX2_read 38 = .ok (.ifCond .eq 12, 3) := by decide +kernel
theorem dX2_read_41 : decode cX2_read 41 = .ok (.aload_n 0, 1) := by decide +kernel
theorem dX2_read_42 : decode cX2_read 42 = .ok (.bipush 59, 2) := by decide +kernel
theorem dX2_read_44 : decode cX2_read 44 = .ok (.invokevirtual 30, 3) := by decide +kernel
theorem dX2_read_47 : decode cX2_read 47 = .ok (.ifCond .ne 8, 3) := by decide +kernel
theorem dX2_read_50 : decode cX2_read 50 = .ok (.aload_n 0, 1) := by decide +kernel
theorem dX2_read_51 : decode cX2_read 51 = .ok (.getfield 38, 3) := by decide +kernel
theorem dX2_read_54 : decode cX2_read 54 = .ok (.ireturn, 1) := by decide +kernel
theorem dX2_read_55 : decode cX2_read 55 = .ok (.aload_n 1, 1) := by decide +kernel
theorem dX2_read_56 : decode cX2_read 56 = .ok (.iload_n 2, 1) := by decide +kernel
theorem dX2_read_57 : decode cX2_read 57 = .ok (.invokevirtual 41, 3) := by decide +kernel
theorem dX2_read_60 : decode cX2_read 60 = .ok (.iinc 2 1, 3) := by decide +kernel
theorem dX2_read_63 : decode cX2_read 63 = .ok (.goto (-48), 3) := by decide +kernel
theorem dX2_read_66 : decode cX2_read 66 = .ok (.aload_n 0, 1) := by decide +kernel
theorem dX2_read_67 : decode cX2_read 67 = .ok (.getfield 45, 3) := by decide +kernel
theorem dX2_read_70 : decode cX2_read 70 = .ok (.sipush 256, 3) := by decide +kernel
theorem dX2_read_73 : decode cX2_read 73 = .ok (.if_icmp .ne 7, 3) := by decide +kernel
theorem dX2_read_76 : decode cX2_read 76 = .ok (.iconst (-1), 1) := by decide +kernel
theorem dX2_read_77 : decode cX2_read 77 = .ok (.goto 7, 3) := by decide +kernel
theorem dX2_read_80 : decode cX2_read 80 = .ok (.aload_n 0, 1) := by decide +kernel
theorem dX2_read_81 : decode cX2_read 81 = .ok (.getfield 38, 3) := by decide +kernel
theorem dX2_read_84 : decode cX2_read 84 = .ok (.ireturn, 1) := by decide +kernel
theorem dX2_pass_0 : decode cX2_pass 0 = .ok (.aload_n 0, 1) := by decide +kernel
theorem dX2_pass_1 : decode cX2_pass 1 = .ok (.getfield 45, 3) := by decide +kernel
theorem dX2_pass_4 : decode cX2_pass 4 = .ok (.iload_n 1, 1) := by decide +kernel
theorem dX2_pass_5 : decode cX2_pass 5 = .ok (.if_icmp .eq 5, 3) := by decide +kernel
theorem dX2_pass_8 : decode cX2_pass 8 = .ok (.iconst 0, 1) := by decide +kernel
theorem dX2_pass_9 : decode cX2_pass 9 = .ok (.ireturn, 1) := by decide +kernel
theorem dX2_pass_10 : decode cX2_pass 10 = .ok (.aload_n 0, 1) := by decide +kernel
theorem dX2_pass_11 : decode cX2_pass 11 = .ok (.invokevirtual 27, 3) := by decide +kernel
theorem dX2_pass_14 : decode cX2_pass 14 = .ok (.iconst 1, 1) := by decide +kernel
theorem dX2_pass_15 : decode cX2_pass 15 = .ok (.ireturn, 1) := by decide +kernel
theorem dX2_readE_0 : decode cX2_readE 0 = .ok (.aload_n 0, 1) := by decide +kernel
theorem dX2_readE_1 : decode cX2_readE 1 = .ok (.aload_n 1, 1) := by decide +kernel
theorem dX2_readE_2 : decode cX2_readE 2 = .ok (.iload_n 2, 1) := by decide +kernel
theorem dX2_readE_3 : decode cX2_readE 3 = .ok (.invokevirtual 48, 3) := by decide +kernel
theorem dX2_readE_6 : decode cX2_readE 6 = .ok (.ifCond .ne 5, 3) := by decide +kernel
theorem dX2_readE_9 : decode cX2_readE 9 = .ok (.iconst 0, 1) := by decide +kernel
theorem dX2_readE_10 : decode cX2_readE 10 = .ok (.ireturn, 1) := by decide +kernel
theorem dX2_readE_11 : decode cX2_readE 11 = .ok (.iconst 0, 1) := by decide +kernel
theorem dX2_readE_12 : decode cX2_readE 12 = .ok (.istore_n 3, 1) := by decide +kernel
theorem dX2_readE_13 : decode cX2_readE 13 = .ok (.iload_n 3, 1) := by decide +kernel
theorem dX2_readE_14 : decode cX2_readE 14 = .ok (.sipush 160, 3) := by decide +kernel
theorem dX2_readE_17 : decode cX2_readE 17 = .ok (.if_icmp .ge 40, 3) := by decide +kernel
theorem dX2_readE_20 : decode cX2_readE 20 = .ok (.aload_n 0, 1) := by decide +kernel
theorem dX2_readE_21 : decode cX2_readE 21 = .ok (.getfield 45, 3) := by decide +kernel
theorem dX2_readE_24 : decode cX2_readE 24 = .ok (.sipush 263, 3) := by decide +kernel
theorem dX2_readE_27 : decode cX2_readE 27 = .ok (.if_icmp .ne 30, 3) := by decide +kernel
theorem dX2_readE_30 : decode cX2_readE 30 = .ok (.aload_n 0, 1) := by decide +kernel
theorem dX2_readE_31 : decode cX2_readE 31 = .ok (.invokevirtual 27, 3) := by decide +kernel
theorem dX2_readE_34 : decode cX2_readE 34 = .ok (.aload_n 0, 1) := by decide +kernel
theorem dX2_readE_35 : decode cX2_readE 35 = .ok (.aload_n 1, 1) := by decide +kernel
theorem dX2_readE_36 : decode cX2_readE 36 = .ok (.iload_n 2, 1) := by decide +kernel
theorem dX2_readE_37 : decode cX2_readE 37 = .ok (.invokevirtual 48, 3) := by decide +kernel
theorem dX2_readE_40 : decode cX2_readE 40 = .ok (.ifCond .ne 5, 3) := by decide +kernel
theorem dX2_readE_43 : decode cX2_readE 43 = .ok (.iconst 0, 1) := by decide +kernel
theorem dX2_readE_44 : decode cX2_readE 44 = .ok (.ireturn, 1) := by decide +kernel
theorem dX2_readE_45 : decode cX2_readE 45 = .ok (.aload_n 1, 1) := by decide +kernel
theorem dX2_readE_46 : decode cX2_readE 46 = .ok (.bipush (-10), 2) := by decide +kernel
theorem dX2_readE_48 : decode cX2_readE 48 = .ok (.invokevirtual 51, 3) := by decide +kernel
theorem dX2_readE_51 : decode cX2_readE 51 = .ok (.iinc 3 1, 3) := by decide +kernel
theorem dX2_readE_54 : decode cX2_readE 54 = .ok (.goto (-41), 3) := by decide +kernel
theorem dX2_readE_57 : decode cX2_readE 57 = .ok (.iconst 1, 1) := by decide +kernel
theorem dX2_readE_58 : decode cX2_readE 58 = .ok (.ireturn, 1) := by decide +kernel
theorem dX2_readAnd_0 : decode cX2_readAnd 0 = .ok (.aload_n 0, 1) := by decide +kernel
theorem dX2_readAnd_1 : decode cX2_readAnd 1 = .ok (.aload_n 1, 1) := by decide +kernel
theorem dX2_readAnd_2 : decode cX2_readAnd 2 = .ok (.iload_n 2, 1) := by decide +kernel
theorem dX2_readAnd_3 : decode cX2_readAnd 3 = .ok (.invokevirtual 54, 3) := by decide +kernel
theorem dX2_readAnd_6 : decode cX2_readAnd 6 = .ok (.ifCond .ne 5, 3) := by decide +kernel
theorem dX2_readAnd_9 : decode cX2_readAnd 9 = .ok (.iconst 0, 1) := by decide +kernel
theorem dX2_readAnd_10 : decode cX2_readAnd 10 = .ok (.ireturn, 1) := by decide +kernel
theorem dX2_readAnd_11 : decode cX2_readAnd 11 = .ok (.iconst 0, 1) := by decide +kernel
theorem dX2_readAnd_12 : decode cX2_readAnd 12 = .ok (.istore_n 3, 1) := by decide +kernel
theorem dX2_readAnd_13 : decode cX2_readAnd 13 = .ok (.iload_n 3, 1) := by decide +kernel
theorem dX2_readAnd_14 : decode cX2_readAnd 14 = .ok (.sipush 160, 3) := by decide +kernel
theorem dX2_readAnd_17 : decode cX2_readAnd 17 = .ok (.if_icmp .ge 40, 3) := by decide +kernel
theorem dX2_readAnd_20 : decode cX2_readAnd 20 = .ok (.aload_n 0, 1) := by decide +kernel
theorem dX2_readAnd_21 : decode cX2_readAnd 21 = .ok (.getfield 45, 3) := by decide +kernel
theorem dX2_readAnd_24 : decode cX2_readAnd 24 = .ok (.sipush 264, 3) := by decide +kernel
theorem dX2_readAnd_27 : decode cX2_readAnd 27 = .ok (.if_icmp .ne 30, 3) := by decide +kernel
theorem dX2_readAnd_30 : decode cX2_readAnd 30 = .ok (.aload_n 0, 1) := by decide +kernel
theorem dX2_readAnd_31 : decode cX2_readAnd 31 = .ok (.invokevirtual 27, 3) := by decide +kernel
theorem dX2_readAnd_34 : decode cX2_readAnd 34 = .ok (.aload_n 0, 1) := by decide +kernel
theorem dX2_readAnd_35 : decode cX2_readAnd 35 = .ok (.aload_n 1, 1) := by decide +kernel
theorem dX2_readAnd_36 : decode cX2_readAnd 36 = .ok (.iload_n 2, 1) := by decide +kernel
theorem dX2_readAnd_37 : decode cX2_readAnd 37 = .ok (.invokevirtual 54, 3) := by decide +kernel
theorem dX2_readAnd_40 : decode cX2_readAnd 40 = .ok (.ifCond .ne 5, 3) := by decide +kernel
theorem dX2_readAnd_43 : decode cX2_readAnd 43 = .ok (.iconst 0, 1) := by decide +kernel
theorem dX2_readAnd_44 : decode cX2_readAnd 44 = .ok (.ireturn, 1) := by decide +kernel
theorem dX2_readAnd_45 : decode cX2_readAnd 45 = .ok (.aload_n 1, 1) := by decide +kernel
theorem dX2_readAnd_46 : decode cX2_readAnd 46 = .ok (.bipush (-11), 2) := by decide +kernel
theorem dX2_readAnd_48 : decode cX2_readAnd 48 = .ok (.invokevirtual 51, 3) := by decide +kernel
theorem dX2_readAnd_51 : decode cX2_readAnd 51 = .ok (.iinc 3 1, 3) := by decide +kernel
theorem dX2_readAnd_54 : decode cX2_readAnd 54 = .ok (.goto (-41), 3) := by decide +kernel
theorem dX2_readAnd_57 : decode cX2_readAnd 57 = .ok (.iconst 1, 1) := by decide +kernel
theorem dX2_readAnd_58 : decode cX2_readAnd 58 = .ok (.ireturn, 1) := by decide +kernel
theorem dX2_readNot_0 : decode cX2_readNot 0 = .ok (.iconst 0, 1) := by decide +kernel
theorem dX2_readNot_1 : decode cX2_readNot 1 = .ok (.istore_n 3, 1) := by decide +kernel
theorem dX2_readNot_2 : decode cX2_readNot 2 = .ok (.aload_n 0, 1) := by decide +kernel
theorem dX2_readNot_3 : decode cX2_readNot 3 = .ok (.getfield 45, 3) := by decide +kernel
theorem dX2_readNot_6 : decode cX2_readNot 6 = .ok (.sipush 265, 3) := by decide +kernel
theorem dX2_readNot_9 : decode cX2_readNot 9 = .ok (.if_icmp .ne 20, 3) := by decide +kernel
theorem dX2_readNot_12 : decode cX2_readNot 12 = .ok (.iload_n 2, 1) := by decide +kernel
theorem dX2_readNot_13 : decode cX2_readNot 13 = .ok (.iload_n 3, 1) := by decide +kernel
theorem dX2_readNot_14 : decode cX2_readNot 14 = .ok (.iadd, 1) := by decide +kernel
theorem dX2_readNot_15 : decode cX2_readNot 15 = .ok (.iconst 5, 1) := by decide +kernel
theorem dX2_readNot_16 : decode cX2_readNot 16 = .ok (.if_icmp .ge 13, 3) := by decide +kernel
theorem dX2_readNot_19 : decode cX2_readNot 19 = .ok (.aload_n 0, 1) := by decide +kernel
theorem dX2_readNot_20 : decode cX2_readNot 20 = .ok (.invokevirtual 27, 3) := by decide +kernel
theorem dX2_readNot_23 : decode cX2_readNot 23 = .ok (.iinc 3 1, 3) := by decide +kernel
theorem dX2_readNot_26 : decode cX2_readNot 26 = .ok (.goto (-24), 3) := by decide +kernel
theorem dX2_readNot_29 : decode cX2_readNot 29 = .ok (.aload_n 0, 1) := by decide +kernel
theorem dX2_readNot_30 : decode cX2_readNot 30 = .ok (.aload_n 1, 1) := by decide +kernel
theorem dX2_readNot_31 : decode cX2_readNot 31 = .ok (.iload_n 2, 1) := by decide +kernel
theorem dX2_readNot_32 : decode cX2_readNot 32 = .ok (.iload_n 3, 1) := by decide +kernel
theorem dX2_readNot_33 : decode cX2_readNot 33 = .ok (.iadd, 1) := by decide +kernel
theorem dX2_readNot_34 : decode cX2_readNot 34 = .ok (.invokevirtual 57, 3) := by decide +kernel
theorem dX2_readNot_37 : decode cX2_readNot 37 = .ok (.ifCond .ne 5, 3) := by decide +kernel
theorem dX2_readNot_40 : decode cX2_readNot 40 = .ok (.iconst 0, 1) := by decide +kernel
theorem dX2_readNot_41 : decode cX2_readNot 41 = .ok (.ireturn, 1) := by decide +kernel
theorem dX2_readNot_42 : decode cX2_readNot 42 = .ok (.iconst 0, 1) := by decide +kernel
theorem dX2_readNot_43 : decode cX2_readNot 43 = .ok (.istore 4, 2) := by decide +kernel
theorem dX2_readNot_45 : decode cX2_readNot 45 = .ok (.iload 4, 2) := by decide +kernel
theorem dX2_readNot_47 : decode cX2_readNot 47 = .ok (.iload_n 3, 1) := by decide +kernel
theorem dX2_readNot_48 : decode cX2_readNot 48 = .ok (.if_icmp .ge 15, 3) := by decide +kernel
theorem dX2_readNot_51 : decode cX2_readNot 51 = .ok (.aload_n 1, 1) := by decide +kernel
theorem dX2_readNot_52 : decode cX2_readNot 52 = .ok (.bipush (-12), 2) := by decide +kernel
theorem dX2_readNot_54 : decode cX2_readNot 54 = .ok (.invokevirtual 51, 3) := by decide +kernel
theorem dX2_readNot_57 : decode cX2_readNot 57 = .ok (.iinc 4 1, 3) := by decide +kernel
theorem dX2_readNot_60 : decode cX2_readNot 60 = .ok (.goto (-15), 3) := by decide +kernel
theorem dX2_readNot_63 : decode cX2_readNot 63 = .ok (.iconst 1, 1) := by decide +kernel
theorem dX2_readNot_64 : decode cX2_readNot 64 = .ok (.ireturn, 1) := by decide +kernel
theorem dX2_readComparison_0 : decode cX2_readComparison 0 = .ok (.aload_n 0, 1) := by decide +kernel
theorem dX2_readComparison_1 : decode cX2_readComparison 1 = .ok (.aload_n 1, 1) := by decide +kernel
theorem dX2_readComparison_2 : decode cX2_readComparison 2 = .ok (.iload_n 2, 1) := by decide +kernel
theorem dX2_readComparison_3 : decode cX2_readComparison 3 = .ok (.invokevirtual 60, 3) := by decide +kernel
theorem dX2_readComparison_6 : decode cX2_readComparison 6 = .ok (.ifCond .ne 5, 3) := by decide +kernel
theorem dX2_readComparison_9 : decode cX2_readComparison 9 = .ok (.iconst 0, 1) := by decide +kernel
theorem dX2_readComparison_10 : decode cX2_readComparison 10 = .ok (.ireturn, 1) := by decide +kernel
theorem dX2_readComparison_11 : decode cX2_readComparison 11 = .ok (.aload_n 0, 1) := by decide +kernel
theorem dX2_readComparison_12 : decode cX2_readComparison 12 = .ok (.getfield 45, 3) := by decide +kernel
theorem dX2_readComparison_15 : decode cX2_readComparison 15 = .ok (.bipush 60, 2) := by decide +kernel
theorem dX2_readComparison_17 : decode cX2_readComparison 17 = .ok (.if_icmp .eq 14, 3) := by decide +kernel
theorem dX2_readComparison_20 : decode cX2_readComparison 20 = .ok (.aload_n 0, 1) := by decide +kernel
theorem dX2_readComparison_21 : decode cX2_readComparison 21 = .ok (.getfield 45, 3) := by decide +kernel
theorem dX2_readComparison_24 : decode cX2_readComparison 24 = .ok (.bipush 61, 2) := by decide +kernel
theorem dX2_readComparison_26 : decode cX2_readComparison 26 = .ok (.if_icmp .eq 5, 3) := by decide +kernel
theorem dX2_readComparison_29 : decode cX2_readComparison 29 = .ok (.iconst 1, 1) := by decide +kernel
theorem dX2_readComparison_30 : decode cX2_readComparison 30 = .ok (.ireturn, 1) := by decide +kernel
theorem dX2_readComparison_31 : decode cX2_readComparison 31 = .ok (.aload_n 0, 1) := by decide +kernel
theorem dX2_readComparison_32 : decode cX2_readComparison 32 = .ok (.getfield 45, 3) := by decide +kernel
theorem dX2_readComparison_35 : decode cX2_readComparison 35 = .ok (.bipush 60, 2) := by decide +kernel
theorem dX2_readComparison_37 : decode cX2_readComparison 37 = .ok (.if_icmp .ne 8, 3) := by decide +kernel
theorem dX2_readComparison_40 : decode cX2_readComparison 40 = .ok (.bipush (-13), 2) := by decide +kernel
theorem dX2_readComparison_42 : decode cX2_readComparison 42 = .ok (.goto 5, 3) := by decide +kernel
theorem dX2_readComparison_45 : decode cX2_readComparison 45 = .ok (.bipush (-14), 2) := by decide +kernel
theorem dX2_readComparison_47 : decode cX2_readComparison 47 = .ok (.istore_n 3, 1) := by decide +kernel
theorem dX2_readComparison_48 : decode cX2_readComparison 48 = .ok (.aload_n 0, 1) := by decide +kernel
theorem dX2_readComparison_49 : decode cX2_readComparison 49 = .ok (.invokevirtual 27, 3) := by decide +kernel
theorem dX2_readComparison_52 : decode cX2_readComparison 52 = .ok (.aload_n 0, 1) := by decide +kernel
theorem dX2_readComparison_53 : decode cX2_readComparison 53 = .ok (.aload_n 1, 1) := by decide +kernel
theorem dX2_readComparison_54 : decode cX2_readComparison 54 = .ok (.iload_n 2, 1) := by decide +kernel
theorem dX2_readComparison_55 : decode cX2_readComparison 55 = .ok (.invokevirtual 60, 3) := by decide +kernel
theorem dX2_readComparison_58 : decode cX2_readComparison 58 = .ok (.ifCond .ne 5, 3) := by decide +kernel
theorem dX2_readComparison_61 : decode cX2_readComparison 61 = .ok (.iconst 0, 1) := by decide +kernel
theorem dX2_readComparison_62 : decode cX2_readComparison 62 = .ok (.ireturn, 1) := by decide +kernel
theorem dX2_readComparison_63 : decode cX2_readComparison 63 = .ok (.aload_n 1, 1) := by decide +kernel
theorem dX2_readComparison_64 : decode cX2_readComparison 64 = .ok (.iload_n 3, 1) := by decide +kernel
theorem dX2_readComparison_65 : decode cX2_readComparison 65 = .ok (.invokevirtual 51, 3) := by decide +kernel
theorem dX2_readComparison_68 : decode cX2_readComparison 68 = .ok (.iconst 1, 1) := by decide +kernel
theorem dX2_readComparison_69 : decode cX2_readComparison 69 = .ok (.ireturn, 1) := by decide +kernel
theorem dX2_readSum_0 : decode cX2_readSum 0 = .ok (.aload_n 0, 1) := by decide +kernel
theorem dX2_readSum_1 : decode cX2_readSum 1 = .ok (.aload_n 1, 1) := by decide +kernel
theorem dX2_readSum_2 : decode cX2_readSum 2 = .ok (.iload_n 2, 1) := by decide +kernel
theorem dX2_readSum_3 : decode cX2_readSum 3 = .ok (.invokevirtual 63, 3) := by decide +kernel
theorem dX2_readSum_6 : decode cX2_readSum 6 = .ok (.ifCond .ne 5, 3) := by decide +kernel
theorem dX2_readSum_9 : decode cX2_readSum 9 = .ok (.iconst 0, 1) := by decide +kernel
theorem dX2_readSum_10 : decode cX2_readSum 10 = .ok (.ireturn, 1) := by decide +kernel
theorem dX2_readSum_11 : decode cX2_readSum 11 = .ok (.iconst 0, 1) := by decide +kernel
theorem dX2_readSum_12 : decode cX2_readSum 12 = .ok (.istore_n 3, 1) := by decide +kernel
theorem dX2_readSum_13 : decode cX2_readSum 13 = .ok (.iload_n 3, 1) := by decide +kernel
theorem dX2_readSum_14 : decode cX2_readSum 14 = .ok (.sipush 160, 3) := by decide +kernel
theorem dX2_readSum_17 : decode cX2_readSum 17 = .ok (.if_icmp .ge 66, 3) := by decide +kernel
theorem dX2_readSum_20 : decode cX2_readSum 20 = .ok (.aload_n 0, 1) := by decide +kernel
theorem dX2_readSum_21 : decode cX2_readSum 21 = .ok (.getfield 45, 3) := by decide +kernel
theorem dX2_readSum_24 : decode cX2_readSum 24 = .ok (.bipush 43, 2) := by decide +kernel
theorem dX2_readSum_26 : decode cX2_readSum 26 = .ok (.if_icmp .eq 12, 3) := by decide +kernel
theorem dX2_readSum_29 : decode cX2_readSum 29 = .ok (.aload_n 0, 1) := by decide +kernel
theorem dX2_readSum_30 : decode cX2_readSum 30 = .ok (.getfield 45, 3) := by decide +kernel
theorem dX2_readSum_33 : decode cX2_readSum 33 = .ok (.bipush 45, 2) := by decide +kernel
theorem dX2_readSum_35 : decode cX2_readSum 35 = .ok (.if_icmp .ne 48, 3) := by decide +kernel
theorem dX2_readSum_38 : decode cX2_readSum 38 = .ok (.aload_n 0, 1) := by decide +kernel
theorem dX2_readSum_39 : decode cX2_readSum 39 = .ok (.getfield 45, 3) := by decide +kernel
theorem dX2_readSum_42 : decode cX2_readSum 42 = .ok (.bipush 43, 2) := by decide +kernel
theorem dX2_readSum_44 : decode cX2_readSum 44 = .ok (.if_icmp .ne 8, 3) := by decide +kernel
theorem dX2_readSum_47 : decode cX2_readSum 47 = .ok (.bipush (-15), 2) := by decide +kernel
theorem dX2_readSum_49 : decode cX2_readSum 49 = .ok (.goto 5, 3) := by decide +kernel
theorem dX2_readSum_52 : decode cX2_readSum 52 = .ok (.bipush (-16), 2) := by decide +kernel
theorem dX2_readSum_54 : decode cX2_readSum 54 = .ok (.istore 4, 2) := by decide +kernel
theorem dX2_readSum_56 : decode cX2_readSum 56 = .ok (.aload_n 0, 1) := by decide +kernel
theorem dX2_readSum_57 : decode cX2_readSum 57 = .ok (.invokevirtual 27, 3) := by decide +kernel
theorem dX2_readSum_60 : decode cX2_readSum 60 = .ok (.aload_n 0, 1) := by decide +kernel
theorem dX2_readSum_61 : decode cX2_readSum 61 = .ok (.aload_n 1, 1) := by decide +kernel
theorem dX2_readSum_62 : decode cX2_readSum 62 = .ok (.iload_n 2, 1) := by decide +kernel
theorem dX2_readSum_63 : decode cX2_readSum 63 = .ok (.invokevirtual 63, 3) := by decide +kernel
theorem dX2_readSum_66 : decode cX2_readSum 66 = .ok (.ifCond .ne 5, 3) := by decide +kernel
theorem dX2_readSum_69 : decode cX2_readSum 69 = .ok (.iconst 0, 1) := by decide +kernel
theorem dX2_readSum_70 : decode cX2_readSum 70 = .ok (.ireturn, 1) := by decide +kernel
theorem dX2_readSum_71 : decode cX2_readSum 71 = .ok (.aload_n 1, 1) := by decide +kernel
theorem dX2_readSum_72 : decode cX2_readSum 72 = .ok (.iload 4, 2) := by decide +kernel
theorem dX2_readSum_74 : decode cX2_readSum 74 = .ok (.invokevirtual 51, 3) := by decide +kernel
theorem dX2_readSum_77 : decode cX2_readSum 77 = .ok (.iinc 3 1, 3) := by decide +kernel
theorem dX2_readSum_80 : decode cX2_readSum 80 = .ok (.goto (-67), 3) := by decide +kernel
theorem dX2_readSum_83 : decode cX2_readSum 83 = .ok (.iconst 1, 1) := by decide +kernel
theorem dX2_readSum_84 : decode cX2_readSum 84 = .ok (.ireturn, 1) := by decide +kernel
theorem dX2_readTerm_0 : decode cX2_readTerm 0 = .ok (.aload_n 0, 1) := by decide +kernel
theorem dX2_readTerm_1 : decode cX2_readTerm 1 = .ok (.aload_n 1, 1) := by decide +kernel
theorem dX2_readTerm_2 : decode cX2_readTerm 2 = .ok (.iload_n 2, 1) := by decide +kernel
theorem dX2_readTerm_3 : decode cX2_readTerm 3 = .ok (.invokevirtual 66, 3) := by decide +kernel
theorem dX2_readTerm_6 : decode cX2_readTerm 6 = .ok (.ifCond .ne 5, 3) := by decide +kernel
theorem dX2_readTerm_9 : decode cX2_readTerm 9 = .ok (.iconst 0, 1) := by decide +kernel
theorem dX2_readTerm_10 : decode cX2_readTerm 10 = .ok (.ireturn, 1) := by decide +kernel
theorem dX2_readTerm_11 : decode cX2_readTerm 11 = .ok (.iconst 0, 1) := by decide +kernel
theorem dX2_readTerm_12 : decode cX2_readTerm 12 = .ok (.istore_n 3, 1) := by decide +kernel
theorem dX2_readTerm_13 : decode cX2_readTerm 13 = .ok (.iload_n 3, 1) := by decide +kernel
theorem dX2_readTerm_14 : decode cX2_readTerm 14 = .ok (.sipush 160, 3) := by decide +kernel
theorem dX2_readTerm_17 : decode cX2_readTerm 17 = .ok (.if_icmp .ge 39, 3) := by decide +kernel
theorem dX2_readTerm_20 : decode cX2_readTerm 20 = .ok (.aload_n 0, 1) := by decide +kernel
theorem dX2_readTerm_21 : decode cX2_readTerm 21 = .ok (.getfield 45, 3) := by decide +kernel
theorem dX2_readTerm_24 : decode cX2_readTerm 24 = .ok (.bipush 42, 2) := by decide +kernel
theorem dX2_readTerm_26 : decode cX2_readTerm 26 = .ok (.if_icmp .ne 30, 3) := by decide +kernel
theorem dX2_readTerm_29 : decode cX2_readTerm 29 = .ok (.aload_n 0, 1) := by decide +kernel
theorem dX2_readTerm_30 : decode cX2_readTerm 30 = .ok (.invokevirtual 27, 3) := by decide +kernel
theorem dX2_readTerm_33 : decode cX2_readTerm 33 = .ok (.aload_n 0, 1) := by decide +kernel
theorem dX2_readTerm_34 : decode cX2_readTerm 34 = .ok (.aload_n 1, 1) := by decide +kernel
theorem dX2_readTerm_35 : decode cX2_readTerm 35 = .ok (.iload_n 2, 1) := by decide +kernel
theorem dX2_readTerm_36 : decode cX2_readTerm 36 = .ok (.invokevirtual 66, 3) := by decide +kernel
theorem dX2_readTerm_39 : decode cX2_readTerm 39 = .ok (.ifCond .ne 5, 3) := by decide +kernel
theorem dX2_readTerm_42 : decode cX2_readTerm 42 = .ok (.iconst 0, 1) := by decide +kernel
theorem dX2_readTerm_43 : decode cX2_readTerm 43 = .ok (.ireturn, 1) := by decide +kernel
theorem dX2_readTerm_44 : decode cX2_readTerm 44 = .ok (.aload_n 1, 1) := by decide +kernel
theorem dX2_readTerm_45 : decode cX2_readTerm 45 = .ok (.bipush (-17), 2) := by decide +kernel
theorem dX2_readTerm_47 : decode cX2_readTerm 47 = .ok (.invokevirtual 51, 3) := by decide +kernel
theorem dX2_readTerm_50 : decode cX2_readTerm 50 = .ok (.iinc 3 1, 3) := by decide +kernel
theorem dX2_readTerm_53 : decode cX2_readTerm 53 = .ok (.goto (-40), 3) := by decide +kernel
theorem dX2_readTerm_56 : decode cX2_readTerm 56 = .ok (.iconst 1, 1) := by decide +kernel
theorem dX2_readTerm_57 : decode cX2_readTerm 57 = .ok (.ireturn, 1) := by decide +kernel
theorem dX2_readOne_0 : decode cX2_readOne 0 = .ok (.iconst 0, 1) := by decide +kernel
theorem dX2_readOne_1 : decode cX2_readOne 1 = .ok (.istore_n 3, 1) := by decide +kernel
theorem dX2_readOne_2 : decode cX2_readOne 2 = .ok (.aload_n 0, 1) := by decide +kernel
theorem dX2_readOne_3 : decode cX2_readOne 3 = .ok (.getfield 45, 3) := by decide +kernel
theorem dX2_readOne_6 : decode cX2_readOne 6 = .ok (.bipush 45, 2) := by decide +kernel
theorem dX2_readOne_8 : decode cX2_readOne 8 = .ok (.if_icmp .ne 20, 3) := by decide +kernel
theorem dX2_readOne_11 : decode cX2_readOne 11 = .ok (.iload_n 2, 1) := by decide +kernel
theorem dX2_readOne_12 : decode cX2_readOne 12 = .ok (.iload_n 3, 1) := by decide +kernel
theorem dX2_readOne_13 : decode cX2_readOne 13 = .ok (.iadd, 1) := by decide +kernel
theorem dX2_readOne_14 : decode cX2_readOne 14 = .ok (.iconst 5, 1) := by decide +kernel
theorem dX2_readOne_15 : decode cX2_readOne 15 = .ok (.if_icmp .ge 13, 3) := by decide +kernel
theorem dX2_readOne_18 : decode cX2_readOne 18 = .ok (.aload_n 0, 1) := by decide +kernel
theorem dX2_readOne_19 : decode cX2_readOne 19 = .ok (.invokevirtual 27, 3) := by decide +kernel
theorem dX2_readOne_22 : decode cX2_readOne 22 = .ok (.iinc 3 1, 3) := by decide +kernel
theorem dX2_readOne_25 : decode cX2_readOne 25 = .ok (.goto (-23), 3) := by decide +kernel
theorem dX2_readOne_28 : decode cX2_readOne 28 = .ok (.aload_n 0, 1) := by decide +kernel
theorem dX2_readOne_29 : decode cX2_readOne 29 = .ok (.aload_n 1, 1) := by decide +kernel
theorem dX2_readOne_30 : decode cX2_readOne 30 = .ok (.iload_n 2, 1) := by decide +kernel
theorem dX2_readOne_31 : decode cX2_readOne 31 = .ok (.iload_n 3, 1) := by decide +kernel
theorem dX2_readOne_32 : decode cX2_readOne 32 = .ok (.iadd, 1) := by decide +kernel
theorem dX2_readOne_33 : decode cX2_readOne 33 = .ok (.invokevirtual 69, 3) := by decide +kernel
theorem dX2_readOne_36 : decode cX2_readOne 36 = .ok (.ifCond .ne 5, 3) := by decide +kernel
theorem dX2_readOne_39 : decode cX2_readOne 39 = .ok (.iconst 0, 1) := by decide +kernel
theorem dX2_readOne_40 : decode cX2_readOne 40 = .ok (.ireturn, 1) := by decide +kernel
theorem dX2_readOne_41 : decode cX2_readOne 41 = .ok (.iconst 0, 1) := by decide +kernel
theorem dX2_readOne_42 : decode cX2_readOne 42 = .ok (.istore 4, 2) := by decide +kernel
theorem dX2_readOne_44 : decode cX2_readOne 44 = .ok (.iload 4, 2) := by decide +kernel
theorem dX2_readOne_46 : decode cX2_readOne 46 = .ok (.iload_n 3, 1) := by decide +kernel
theorem dX2_readOne_47 : decode cX2_readOne 47 = .ok (.if_icmp .ge 15, 3) := by decide +kernel
theorem dX2_readOne_50 : decode cX2_readOne 50 = .ok (.aload_n 1, 1) := by decide +kernel
theorem dX2_readOne_51 : decode cX2_readOne 51 = .ok (.bipush (-18), 2) := by decide +kernel
theorem dX2_readOne_53 : decode cX2_readOne 53 = .ok (.invokevirtual 51, 3) := by decide +kernel
theorem dX2_readOne_56 : decode cX2_readOne 56 = .ok (.iinc 4 1, 3) := by decide +kernel
theorem dX2_readOne_59 : decode cX2_readOne 59 = .ok (.goto (-15), 3) := by decide +kernel
theorem dX2_readOne_62 : decode cX2_readOne 62 = .ok (.iconst 1, 1) := by decide +kernel
theorem dX2_readOne_63 : decode cX2_readOne 63 = .ok (.ireturn, 1) := by decide +kernel
theorem dX2_readOperand_0 : decode cX2_readOperand 0 = .ok (.aload_n 0, 1) := by decide +kernel
theorem dX2_readOperand_1 : decode cX2_readOperand 1 = .ok (.getfield 45, 3) := by decide +kernel
theorem dX2_readOperand_4 : decode cX2_readOperand 4 = .ok (.sipush 258, 3) := by decide +kernel
theorem dX2_readOperand_7 : decode cX2_readOperand 7 = .ok (.if_icmp .ne 17, 3) := by decide +kernel
theorem dX2_readOperand_10 : decode cX2_readOperand 10 = .ok (.aload_n 1, 1) := by decide +kernel
theorem dX2_readOperand_11 : decode cX2_readOperand 11 = .ok (.aload_n 0, 1) := by decide +kernel
theorem dX2_readOperand_12 : decode cX2_readOperand 12 = .ok (.getfield 72, 3) := by decide +kernel
theorem dX2_readOperand_15 : decode cX2_readOperand 15 = .ok (.invokevirtual 51, 3) := by decide +kernel
theorem dX2_readOperand_18 : decode cX2_readOperand 18 = .ok (.aload_n 0, 1) := by decide +kernel
theorem dX2_readOperand_19 : decode cX2_readOperand 19 = .ok (.invokevirtual 27, 3) := by decide +kernel
theorem dX2_readOperand_22 : decode cX2_readOperand 22 = .ok (.iconst 1, 1) := by decide +kernel
theorem dX2_readOperand_23 : decode cX2_readOperand 23 = .ok (.ireturn, 1) := by decide +kernel
theorem dX2_readOperand_24 : decode cX2_readOperand 24 = .ok (.aload_n 0, 1) := by decide +kernel
theorem dX2_readOperand_25 : decode cX2_readOperand 25 = .ok (.getfield 45, 3) := by decide +kernel
theorem dX2_readOperand_28 : decode cX2_readOperand 28 = .ok (.sipush 266, 3) := by decide +kernel
theorem dX2_readOperand_31 : decode cX2_readOperand 31 = .ok (.if_icmp .lt 31, 3) := by decide +kernel
theorem dX2_readOperand_34 : decode cX2_readOperand 34 = .ok (.aload_n 0, 1) := by decide +kernel
theorem dX2_readOperand_35 : decode cX2_readOperand 35 = .ok (.getfield 45, 3) := by decide +kernel
theorem dX2_readOperand_38 : decode cX2_readOperand 38 = .ok (.sipush 272, 3) := by decide +kernel
theorem dX2_readOperand_41 : decode cX2_readOperand 41 = .ok (.if_icmp .ge 21, 3) := by decide +kernel
theorem dX2_readOperand_44 : decode cX2_readOperand 44 = .ok (.aload_n 1, 1) := by decide +kernel
theorem dX2_readOperand_45 : decode cX2_readOperand 45 = .ok (.sipush 265, 3) := by decide +kernel
theorem dX2_readOperand_48 : decode cX2_readOperand 48 = .ok (.aload_n 0, 1) := by decide +kernel
theorem dX2_readOperand_49 : decode cX2_readOperand 49 = .ok (.getfield 45, 3) := by decide +kernel
theorem dX2_readOperand_52 : decode cX2_readOperand 52 = .ok (.isub, 1) := by decide +kernel
theorem dX2_readOperand_53 : decode cX2_readOperand 53 = .ok (.invokevirtual 51, 3) := by decide +kernel
theorem dX2_readOperand_56 : decode cX2_readOperand 56 = .ok (.aload_n 0, 1) := by decide +kernel
theorem dX2_readOperand_57 : decode cX2_readOperand 57 = .ok (.invokevirtual 27, 3) := by decide +kernel
theorem dX2_readOperand_60 : decode cX2_readOperand 60 = .ok (.iconst 1, 1) := by decide +kernel
theorem dX2_readOperand_61 : decode cX2_readOperand 61 = .ok (.ireturn, 1) := by decide +kernel
theorem dX2_readOperand_62 : decode cX2_readOperand 62 = .ok (.aload_n 0, 1) := by decide +kernel
theorem dX2_readOperand_63 : decode cX2_readOperand 63 = .ok (.getfield 45, 3) := by decide +kernel
theorem dX2_readOperand_66 : decode cX2_readOperand 66 = .ok (.bipush 40, 2) := by decide +kernel
theorem dX2_readOperand_68 : decode cX2_readOperand 68 = .ok (.if_icmp .ne 8, 3) := by decide +kernel
theorem dX2_readOperand_71 : decode cX2_readOperand 71 = .ok (.iload_n 2, 1) := by decide +kernel
theorem dX2_readOperand_72 : decode cX2_readOperand 72 = .ok (.iconst 5, 1) := by decide +kernel
theorem dX2_readOperand_73 : decode cX2_readOperand 73 = .ok (.if_icmp .lt 5, 3) := by decide +kernel
theorem dX2_readOperand_76 : decode cX2_readOperand 76 = .ok (.iconst 0, 1) := by decide +kernel
theorem dX2_readOperand_77 : decode cX2_readOperand 77 = .ok (.ireturn, 1) := by decide +kernel
theorem dX2_readOperand_78 : decode cX2_readOperand 78 = .ok (.aload_n 0, 1) := by decide +kernel
theorem dX2_readOperand_79 : decode cX2_readOperand 79 = .ok (.invokevirtual 27, 3) := by decide +kernel
theorem dX2_readOperand_82 : decode cX2_readOperand 82 = .ok (.aload_n 0, 1) := by decide +kernel
theorem dX2_readOperand_83 : decode cX2_readOperand 83 = .ok (.aload_n 1, 1) := by decide +kernel
theorem dX2_readOperand_84 : decode cX2_readOperand 84 = .ok (.iload_n 2, 1) := by decide +kernel
theorem dX2_readOperand_85 : decode cX2_readOperand 85 = .ok (.iconst 1, 1) := by decide +kernel
theorem dX2_readOperand_86 : decode cX2_readOperand 86 = .ok (.iadd, 1) := by decide +kernel
theorem dX2_readOperand_87 : decode cX2_readOperand 87 = .ok (.invokevirtual 34, 3) := by decide +kernel
theorem dX2_readOperand_90 : decode cX2_readOperand 90 = .ok (.ifCond .eq 16, 3) := by decide +kernel
theorem dX2_readOperand_93 : decode cX2_readOperand 93 = .ok (.aload_n 0, 1) := by decide +kernel
theorem dX2_readOperand_94 : decode cX2_readOperand 94 = .ok (.bipush 41, 2) := by decide +kernel
theorem dX2_readOperand_96 : decode cX2_readOperand 96 = .ok (.invokevirtual 30, 3) := by decide +kernel
theorem dX2_readOperand_99 : decode cX2_readOperand 99 = .ok (.ifCond .eq 7, 3) := by decide +kernel
theorem dX2_readOperand_102 : decode cX2_readOperand 102 = .ok (.iconst 1, 1) := by decide +kernel
theorem dX2_readOperand_103 : decode cX2_readOperand 103 = .ok (.goto 4, 3) := by decide +kernel
theorem dX2_readOperand_106 : decode cX2_readOperand 106 = .ok (.iconst 0, 1) := by decide +kernel
theorem dX2_readOperand_107 : decode cX2_readOperand 107 = .ok (.ireturn, 1) := by decide +kernel
theorem dX2_advance_0 : decode cX2_advance 0 = .ok (.aload_n 0, 1) := by decide +kernel
theorem dX2_advance_1 : decode cX2_advance 1 = .ok (.getfield 24, 3) := by decide +kernel
theorem dX2_advance_4 : decode cX2_advance 4 = .ok (.aload_n 0, 1) := by decide +kernel
theorem dX2_advance_5 : decode cX2_advance 5 = .ok (.getfield 15, 3) := by decide +kernel
theorem dX2_advance_8 : decode cX2_advance 8 = .ok (.if_icmp .ge 44, 3) := by decide +kernel
theorem dX2_advance_11 : decode cX2_advance 11 = .ok (.aload_n 0, 1) := by decide +kernel
theorem dX2_advance_12 : decode cX2_advance 12 = .ok (.getfield 9, 3) := by decide +kernel
theorem dX2_advance_15 : decode cX2_advance 15 = .ok (.aload_n 0, 1) := by decide +kernel
theorem dX2_advance_16 : decode cX2_advance 16 = .ok (.getfield 24, 3) := by decide +kernel
theorem dX2_advance_19 : decode cX2_advance 19 = .ok (.iaload, 1) := by decide +kernel
theorem dX2_advance_20 : decode cX2_advance 20 = .ok (.bipush 32, 2) := by decide +kernel
theorem dX2_advance_22 : decode cX2_advance 22 = .ok (.if_icmp .eq 17, 3) := by decide +kernel
theorem dX2_advance_25 : decode cX2_advance 25 = .ok (.aload_n 0, 1) := by decide +kernel
theorem dX2_advance_26 : decode cX2_advance 26 = .ok (.getfield 9, 3) := by decide +kernel
theorem dX2_advance_29 : decode cX2_advance 29 = .ok (.aload_n 0, 1) := by decide +kernel
theorem dX2_advance_30 : decode cX2_advance 30 = .ok (.getfield 24, 3) := by decide +kernel
theorem dX2_advance_33 : decode cX2_advance 33 = .ok (.iaload, 1) := by decide +kernel
theorem dX2_advance_34 : decode cX2_advance 34 = .ok (.bipush 10, 2) := by decide +kernel
theorem dX2_advance_36 : decode cX2_advance 36 = .ok (.if_icmp .ne 16, 3) := by decide +kernel
theorem dX2_advance_39 : decode cX2_advance 39 = .ok (.aload_n 0, 1) := by decide +kernel
theorem dX2_advance_40 : decode cX2_advance 40 = .ok (.dup, 1) := by decide +kernel
theorem dX2_advance_41 : decode cX2_advance 41 = .ok (.getfield 24, 3) := by decide +kernel
theorem dX2_advance_44 : decode cX2_advance 44 = .ok (.iconst 1, 1) := by decide +kernel
theorem dX2_advance_45 : decode cX2_advance 45 = .ok (.iadd, 1) := by decide +kernel
theorem dX2_advance_46 : decode cX2_advance 46 = .ok (.putfield 24, 3) := by decide +kernel
theorem dX2_advance_49 : decode cX2_advance 49 = .ok (.goto (-49), 3) := by decide +kernel
theorem dX2_advance_52 : decode cX2_advance 52 = .ok (.aload_n 0, 1) := by decide +kernel
theorem dX2_advance_53 : decode cX2_advance 53 = .ok (.aload_n 0, 1) := by decide +kernel
theorem dX2_advance_54 : decode cX2_advance 54 = .ok (.getfield 24, 3) := by decide +kernel
theorem dX2_advance_57 : decode cX2_advance 57 = .ok (.putfield 38, 3) := by decide +kernel
theorem dX2_advance_60 : decode cX2_advance 60 = .ok (.aload_n 0, 1) := by decide +kernel
theorem dX2_advance_61 : decode cX2_advance 61 = .ok (.getfield 24, 3) := by decide +kernel
theorem dX2_advance_64 : decode cX2_advance 64 = .ok (.aload_n 0, 1) := by decide +kernel
theorem dX2_advance_65 : decode cX2_advance 65 = .ok (.getfield 15, 3) := by decide +kernel
theorem dX2_advance_68 : decode cX2_advance 68 = .ok (.if_icmp .lt 13, 3) := by decide +kernel
theorem dX2_advance_71 : decode cX2_advance 71 = .ok (.aload_n 0, 1) := by decide +kernel
theorem dX2_advance_72 : decode cX2_advance 72 = .ok (.sipush 256, 3) := by decide +kernel
theorem dX2_advance_75 : decode cX2_advance 75 = .ok (.putfield 45, 3) := by decide +kernel
theorem dX2_advance_78 : decode cX2_advance 78 = .ok (.goto 91, 3) := by decide +kernel
theorem dX2_advance_81 : decode cX2_advance 81 = .ok (.aload_n 0, 1) := by decide +kernel
theorem dX2_advance_82 : decode cX2_advance 82 = .ok (.getfield 9, 3) := by decide +kernel
theorem dX2_advance_85 : decode cX2_advance 85 = .ok (.aload_n 0, 1) := by decide +kernel
theorem dX2_advance_86 : decode cX2_advance 86 = .ok (.getfield 24, 3) := by decide +kernel
theorem dX2_advance_89 : decode cX2_advance 89 = .ok (.iaload, 1) := by decide +kernel
theorem dX2_advance_90 : decode cX2_advance 90 = .ok (.invokestatic 75, 3) := by decide +kernel
theorem dX2_advance_93 : decode cX2_advance 93 = .ok (.ifCond .eq 10, 3) := by decide +kernel
theorem dX2_advance_96 : decode cX2_advance 96 = .ok (.aload_n 0, 1) := by decide +kernel
theorem dX2_advance_97 : decode cX2_advance 97 = .ok (.invokevirtual 78, 3) := by decide +kernel
theorem dX2_advance_100 : decode cX2_advance 100 = .ok (.goto 69, 3) := by decide +kernel
theorem dX2_advance_103 : decode cX2_advance 103 = .ok (.aload_n 0, 1) := by decide +kernel
theorem dX2_advance_104 : decode cX2_advance 104 = .ok (.getfield 9, 3) := by decide +kernel
theorem dX2_advance_107 : decode cX2_advance 107 = .ok (.aload_n 0, 1) := by decide +kernel
theorem dX2_advance_108 : decode cX2_advance 108 = .ok (.getfield 24, 3) := by decide +kernel
theorem dX2_advance_111 : decode cX2_advance 111 = .ok (.iaload, 1) := by decide +kernel
theorem dX2_advance_112 : decode cX2_advance 112 = .ok (.invokestatic 81, 3) := by decide +kernel
theorem dX2_advance_115 : decode cX2_advance 115 = .ok (.ifCond .eq 10, 3) := by decide +kernel
theorem dX2_advance_118 : decode cX2_advance 118 = .ok (.aload_n 0, 1) := by decide +kernel
theorem dX2_advance_119 : decode cX2_advance 119 = .ok (.invokevirtual 84, 3) := by decide +kernel
theorem dX2_advance_122 : decode cX2_advance 122 = .ok (.goto 47, 3) := by decide +kernel
theorem dX2_advance_125 : decode cX2_advance 125 = .ok (.aload_n 0, 1) := by decide +kernel
theorem dX2_advance_126 : decode cX2_advance 126 = .ok (.aload_n 0, 1) := by decide +kernel
theorem dX2_advance_127 : decode cX2_advance 127 = .ok (.getfield 9, 3) := by decide +kernel
theorem dX2_advance_130 : decode cX2_advance 130 = .ok (.aload_n 0, 1) := by decide +kernel
theorem dX2_advance_131 : decode cX2_advance 131 = .ok (.getfield 24, 3) := by decide +kernel
theorem dX2_advance_134 : decode cX2_advance 134 = .ok (.iaload, 1) := by decide +kernel
theorem dX2_advance_135 : decode cX2_advance 135 = .ok (.invokestatic 87, 3) := by decide +kernel
theorem dX2_advance_138 : decode cX2_advance 138 = .ok (.ifCond .eq 15, 3) := by decide +kernel
theorem dX2_advance_141 : decode cX2_advance 141 = .ok (.aload_n 0, 1) := by decide +kernel
theorem dX2_advance_142 : decode cX2_advance 142 = .ok (.getfield 9, 3) := by decide +kernel
theorem dX2_advance_145 : decode cX2_advance 145 = .ok (.aload_n 0, 1) := by decide +kernel
theorem dX2_advance_146 : decode cX2_advance 146 = .ok (.getfield 24, 3) := by decide +kernel
theorem dX2_advance_149 : decode cX2_advance 149 = .ok (.iaload, 1) := by decide +kernel
theorem dX2_advance_150 : decode cX2_advance 150 = .ok (.goto 6, 3) := by decide +kernel
theorem dX2_advance_153 : decode cX2_advance 153 = .ok (.sipush 257, 3) := by decide +kernel
theorem dX2_advance_156 : decode cX2_advance 156 = .ok (.putfield 45, 3) := by decide +kernel
theorem dX2_advance_159 : decode cX2_advance 159 = .ok (.aload_n 0, 1) := by decide +kernel
theorem dX2_advance_160 : decode cX2_advance 160 = .ok (.dup, 1) := by decide +kernel
theorem dX2_advance_161 : decode cX2_advance 161 = .ok (.getfield 24, 3) := by decide +kernel
theorem dX2_advance_164 : decode cX2_advance 164 = .ok (.iconst 1, 1) := by decide +kernel
theorem dX2_advance_165 : decode cX2_advance 165 = .ok (.iadd, 1) := by decide +kernel
theorem dX2_advance_166 : decode cX2_advance 166 = .ok (.putfield 24, 3) := by decide +kernel
theorem dX2_advance_169 : decode cX2_advance 169 = .ok (.return_, 1) := by decide +kernel
theorem dX2_takeWord_0 : decode cX2_takeWord 0 = .ok (.aload_n 0, 1) := by decide +kernel
theorem dX2_takeWord_1 : decode cX2_takeWord 1 = .ok (.getfield 24, 3) := by decide +kernel
theorem dX2_takeWord_4 : decode cX2_takeWord 4 = .ok (.aload_n 0, 1) := by decide +kernel
theorem dX2_takeWord_5 : decode cX2_takeWord 5 = .ok (.getfield 15, 3) := by decide +kernel
theorem dX2_takeWord_8 : decode cX2_takeWord 8 = .ok (.if_icmp .ge 31, 3) := by decide +kernel
theorem dX2_takeWord_11 : decode cX2_takeWord 11 = .ok (.aload_n 0, 1) := by decide +kernel
theorem dX2_takeWord_12 : decode cX2_takeWord 12 = .ok (.getfield 9, 3) := by decide +kernel
theorem dX2_takeWord_15 : decode cX2_takeWord 15 = .ok (.aload_n 0, 1) := by decide +kernel
theorem dX2_takeWord_16 : decode cX2_takeWord 16 = .ok (.getfield 24, 3) := by decide +kernel
theorem dX2_takeWord_19 : decode cX2_takeWord 19 = .ok (.iaload, 1) := by decide +kernel
theorem dX2_takeWord_20 : decode cX2_takeWord 20 = .ok (.invokestatic 75, 3) := by decide +kernel
theorem dX2_takeWord_23 : decode cX2_takeWord 23 = .ok (.ifCond .eq 16, 3) := by decide +kernel
theorem dX2_takeWord_26 : decode cX2_takeWord 26 = .ok (.aload_n 0, 1) := by decide +kernel
theorem dX2_takeWord_27 : decode cX2_takeWord 27 = .ok (.dup, 1) := by decide +kernel
theorem dX2_takeWord_28 : decode cX2_takeWord 28 = .ok (.getfield 24, 3) := by decide +kernel
theorem dX2_takeWord_31 : decode cX2_takeWord 31 = .ok (.iconst 1, 1) := by decide +kernel
theorem dX2_takeWord_32 : decode cX2_takeWord 32 = .ok (.iadd, 1) := by decide +kernel
theorem dX2_takeWord_33 : decode cX2_takeWord 33 = .ok (.putfield 24, 3) := by decide +kernel
theorem dX2_takeWord_36 : decode cX2_takeWord 36 = .ok (.goto (-36), 3) := by decide +kernel
theorem dX2_takeWord_39 : decode cX2_takeWord 39 = .ok (.aload_n 0, 1) := by decide +kernel
theorem dX2_takeWord_40 : decode cX2_takeWord 40 = .ok (.sipush 257, 3) := by decide +kernel
theorem dX2_takeWord_43 : decode cX2_takeWord 43 = .ok (.putfield 45, 3) := by decide +kernel
theorem dX2_takeWord_46 : decode cX2_takeWord 46 = .ok (.iconst 0, 1) := by decide +kernel
theorem dX2_takeWord_47 : decode cX2_takeWord 47 = .ok (.istore_n 1, 1) := by decide +kernel
theorem dX2_takeWord_48 : decode cX2_takeWord 48 = .ok (.iload_n 1, 1) := by decide +kernel
theorem dX2_takeWord_49 : decode cX2_takeWord 49 = .ok (.bipush 12, 2) := by decide +kernel
theorem dX2_takeWord_51 : decode cX2_takeWord 51 = .ok (.if_icmp .ge 29, 3) := by decide +kernel
theorem dX2_takeWord_54 : decode cX2_takeWord 54 = .ok (.aload_n 0, 1) := by decide +kernel
theorem dX2_takeWord_55 : decode cX2_takeWord 55 = .ok (.iload_n 1, 1) := by decide +kernel
theorem dX2_takeWord_56 : decode cX2_takeWord 56 = .ok (.invokestatic 90, 3) := by decide +kernel
theorem dX2_takeWord_59 : decode cX2_takeWord 59 = .ok (.invokevirtual 94, 3) := by decide +kernel
theorem dX2_takeWord_62 : decode cX2_takeWord 62 = .ok (.ifCond .eq 12, 3) := by decide +kernel
theorem dX2_takeWord_65 : decode cX2_takeWord 65 = .ok (.aload_n 0, 1) := by decide +kernel
theorem dX2_takeWord_66 : decode cX2_takeWord 66 = .ok (.sipush 260, 3) := by decide +kernel
theorem dX2_takeWord_69 : decode cX2_takeWord 69 = .ok (.iload_n 1, 1) := by decide +kernel
theorem dX2_takeWord_70 : decode cX2_takeWord 70 = .ok (.iadd, 1) := by decide +kernel
theorem dX2_takeWord_71 : decode cX2_takeWord 71 = .ok (.putfield 45, 3) := by decide +kernel
theorem dX2_takeWord_74 : decode cX2_takeWord 74 = .ok (.iinc 1 1, 3) := by decide +kernel
theorem dX2_takeWord_77 : decode cX2_takeWord 77 = .ok (.goto (-29), 3) := by decide +kernel
theorem dX2_takeWord_80 : decode cX2_takeWord 80 = .ok (.return_, 1) := by decide +kernel
theorem dX2_isHere_0 : decode cX2_isHere 0 = .ok (.aload_n 1, 1) := by decide +kernel
theorem dX2_isHere_1 : decode cX2_isHere 1 = .ok (.invokevirtual 98, 3) := by decide +kernel
theorem dX2_isHere_4 : decode cX2_isHere 4 = .ok (.aload_n 0, 1) := by decide +kernel
theorem dX2_isHere_5 : decode cX2_isHere 5 = .ok (.getfield 24, 3) := by decide +kernel
theorem dX2_isHere_8 : decode cX2_isHere 8 = .ok (.aload_n 0, 1) := by decide +kernel
theorem dX2_isHere_9 : decode cX2_isHere 9 = .ok (.getfield 38, 3) := by decide +kernel
theorem dX2_isHere_12 : decode cX2_isHere 12 = .ok (.isub, 1) := by decide +kernel
theorem dX2_isHere_13 : decode cX2_isHere 13 = .ok (.if_icmp .eq 5, 3) := by decide +kernel
theorem dX2_isHere_16 : decode cX2_isHere 16 = .ok (.iconst 0, 1) := by decide +kernel
theorem dX2_isHere_17 : decode cX2_isHere 17 = .ok (.ireturn, 1) := by decide +kernel
theorem dX2_isHere_18 : decode cX2_isHere 18 = .ok (.iconst 0, 1) := by decide +kernel
theorem dX2_isHere_19 : decode cX2_isHere 19 = .ok (.istore_n 2, 1) := by decide +kernel
theorem dX2_isHere_20 : decode cX2_isHere 20 = .ok (.iload_n 2, 1) := by decide +kernel
theorem dX2_isHere_21 : decode cX2_isHere 21 = .ok (.aload_n 1, 1) := by decide +kernel
theorem dX2_isHere_22 : decode cX2_isHere 22 = .ok (.invokevirtual 98, 3) := by decide +kernel
theorem dX2_isHere_25 : decode cX2_isHere 25 = .ok (.if_icmp .ge 43, 3) := by decide +kernel
theorem dX2_isHere_28 : decode cX2_isHere 28 = .ok (.aload_n 0, 1) := by decide +kernel
theorem dX2_isHere_29 : decode cX2_isHere 29 = .ok (.getfield 38, 3) := by decide +kernel
theorem dX2_isHere_32 : decode cX2_isHere 32 = .ok (.iload_n 2, 1) := by decide +kernel
theorem dX2_isHere_33 : decode cX2_isHere 33 = .ok (.iadd, 1) := by decide +kernel
theorem dX2_isHere_34 : decode cX2_isHere 34 = .ok (.aload_n 0, 1) := by decide +kernel
theorem dX2_isHere_35 : decode cX2_isHere 35 = .ok (.getfield 15, 3) := by decide +kernel
theorem dX2_isHere_38 : decode cX2_isHere 38 = .ok (.if_icmp .ge 30, 3) := by decide +kernel
theorem dX2_isHere_41 : decode cX2_isHere 41 = .ok (.aload_n 1, 1) := by decide +kernel
theorem dX2_isHere_42 : decode cX2_isHere 42 = .ok (.iload_n 2, 1) := by decide +kernel
theorem dX2_isHere_43 : decode cX2_isHere 43 = .ok (.invokevirtual 104, 3) := by decide +kernel
theorem dX2_isHere_46 : decode cX2_isHere 46 = .ok (.aload_n 0, 1) := by decide +kernel
theorem dX2_isHere_47 : decode cX2_isHere 47 = .ok (.getfield 9, 3) := by decide +kernel
theorem dX2_isHere_50 : decode cX2_isHere 50 = .ok (.aload_n 0, 1) := by decide +kernel
theorem dX2_isHere_51 : decode cX2_isHere 51 = .ok (.getfield 38, 3) := by decide +kernel
theorem dX2_isHere_54 : decode cX2_isHere 54 = .ok (.iload_n 2, 1) := by decide +kernel
theorem dX2_isHere_55 : decode cX2_isHere 55 = .ok (.iadd, 1) := by decide +kernel
theorem dX2_isHere_56 : decode cX2_isHere 56 = .ok (.iaload, 1) := by decide +kernel
theorem dX2_isHere_57 : decode cX2_isHere 57 = .ok (.if_icmp .eq 5, 3) := by decide +kernel
theorem dX2_isHere_60 : decode cX2_isHere 60 = .ok (.iconst 0, 1) := by decide +kernel
theorem dX2_isHere_61 : decode cX2_isHere 61 = .ok (.ireturn, 1) := by decide +kernel
theorem dX2_isHere_62 : decode cX2_isHere 62 = .ok (.iinc 2 1, 3) := by decide +kernel
theorem dX2_isHere_65 : decode cX2_isHere 65 = .ok (.goto (-45), 3) := by decide +kernel
theorem dX2_isHere_68 : decode cX2_isHere 68 = .ok (.iconst 1, 1) := by decide +kernel
theorem dX2_isHere_69 : decode cX2_isHere 69 = .ok (.ireturn, 1) := by decide +kernel
theorem dX2_takeNumber_0 : decode cX2_takeNumber 0 = .ok (.aload_n 0, 1) := by decide +kernel
theorem dX2_takeNumber_1 : decode cX2_takeNumber 1 = .ok (.iconst 0, 1) := by decide +kernel
theorem dX2_takeNumber_2 : decode cX2_takeNumber 2 = .ok (.putfield 72, 3) := by decide +kernel
theorem dX2_takeNumber_5 : decode cX2_takeNumber 5 = .ok (.aload_n 0, 1) := by decide +kernel
theorem dX2_takeNumber_6 : decode cX2_takeNumber 6 = .ok (.getfield 24, 3) := by decide +kernel
theorem dX2_takeNumber_9 : decode cX2_takeNumber 9 = .ok (.aload_n 0, 1) := by decide +kernel
theorem dX2_takeNumber_10 : decode cX2_takeNumber 10 = .ok (.getfield 15, 3) := by decide +kernel
theorem dX2_takeNumber_13 : decode cX2_takeNumber 13 = .ok (.if_icmp .ge 55, 3) := by decide +kernel
theorem dX2_takeNumber_16 : decode cX2_takeNumber 16 = .ok (.aload_n 0, 1) := by decide +kernel
theorem dX2_takeNumber_17 : decode cX2_takeNumber 17 = .ok (.getfield 9, 3) := by decide +kernel
theorem dX2_takeNumber_20 : decode cX2_takeNumber 20 = .ok (.aload_n 0, 1) := by decide +kernel
theorem dX2_takeNumber_21 : decode cX2_takeNumber 21 = .ok (.getfield 24, 3) := by decide +kernel
theorem dX2_takeNumber_24 : decode cX2_takeNumber 24 = .ok (.iaload, 1) := by decide +kernel
theorem dX2_takeNumber_25 : decode cX2_takeNumber 25 = .ok (.invokestatic 81, 3) := by decide +kernel
theorem dX2_takeNumber_28 : decode cX2_takeNumber 28 = .ok (.ifCond .eq 40, 3) := by decide +kernel
theorem dX2_takeNumber_31 : decode cX2_takeNumber 31 = .ok (.aload_n 0, 1) := by decide +kernel
theorem dX2_takeNumber_32 : decode cX2_takeNumber 32 = .ok (.aload_n 0, 1) := by decide +kernel
theorem dX2_takeNumber_33 : decode cX2_takeNumber 33 = .ok (.getfield 72, 3) := by decide +kernel
theorem dX2_takeNumber_36 : decode cX2_takeNumber 36 = .ok (.bipush 10, 2) := by decide +kernel
theorem dX2_takeNumber_38 : decode cX2_takeNumber 38 = .ok (.imul, 1) := by decide +kernel
theorem dX2_takeNumber_39 : decode cX2_takeNumber 39 = .ok (.aload_n 0, 1) := by decide +kernel
theorem dX2_takeNumber_40 : decode cX2_takeNumber 40 = .ok (.getfield 9, 3) := by decide +kernel
theorem dX2_takeNumber_43 : decode cX2_takeNumber 43 = .ok (.aload_n 0, 1) := by decide +kernel
theorem dX2_takeNumber_44 : decode cX2_takeNumber 44 = .ok (.getfield 24, 3) := by decide +kernel
theorem dX2_takeNumber_47 : decode cX2_takeNumber 47 = .ok (.iaload, 1) := by decide +kernel
theorem dX2_takeNumber_48 : decode cX2_takeNumber 48 = .ok (.iadd, 1) := by decide +kernel
theorem dX2_takeNumber_49 : decode cX2_takeNumber 49 = .ok (.bipush 48, 2) := by decide +kernel
theorem dX2_takeNumber_51 : decode cX2_takeNumber 51 = .ok (.isub, 1) := by decide +kernel
theorem dX2_takeNumber_52 : decode cX2_takeNumber 52 = .ok (.putfield 72, 3) := by decide +kernel
theorem dX2_takeNumber_55 : decode cX2_takeNumber 55 = .ok (.aload_n 0, 1) := by decide +kernel
theorem dX2_takeNumber_56 : decode cX2_takeNumber 56 = .ok (.dup, 1) := by decide +kernel
theorem dX2_takeNumber_57 : decode cX2_takeNumber 57 = .ok (.getfield 24, 3) := by decide +kernel
theorem dX2_takeNumber_60 : decode cX2_takeNumber 60 = .ok (.iconst 1, 1) := by decide +kernel
theorem dX2_takeNumber_61 : decode cX2_takeNumber 61 = .ok (.iadd, 1) := by decide +kernel
theorem dX2_takeNumber_62 : decode cX2_takeNumber 62 = .ok (.putfield 24, 3) := by decide +kernel
theorem dX2_takeNumber_65 : decode cX2_takeNumber 65 = .ok (.goto (-60), 3) := by decide +kernel
theorem dX2_takeNumber_68 : decode cX2_takeNumber 68 = .ok (.aload_n 0, 1) := by decide +kernel
theorem dX2_takeNumber_69 : decode cX2_takeNumber 69 = .ok (.aload_n 0, 1) := by decide +kernel
theorem dX2_takeNumber_70 : decode cX2_takeNumber 70 = .ok (.getfield 24, 3) := by decide +kernel
theorem dX2_takeNumber_73 : decode cX2_takeNumber 73 = .ok (.aload_n 0, 1) := by decide +kernel
theorem dX2_takeNumber_74 : decode cX2_takeNumber 74 = .ok (.getfield 38, 3) := by decide +kernel
theorem dX2_takeNumber_77 : decode cX2_takeNumber 77 = .ok (.isub, 1) := by decide +kernel
theorem dX2_takeNumber_78 : decode cX2_takeNumber 78 = .ok (.iconst 4, 1) := by decide +kernel
theorem dX2_takeNumber_79 : decode cX2_takeNumber 79 = .ok (.if_icmp .le 9, 3) := by decide +kernel
theorem dX2_takeNumber_82 : decode cX2_takeNumber 82 = .ok (.sipush 257, 3) := by decide +kernel
theorem dX2_takeNumber_85 : decode cX2_takeNumber 85 = .ok (.goto 6, 3) := by decide +kernel
theorem dX2_takeNumber_88 : decode cX2_takeNumber 88 = .ok (.sipush 258, 3) := by decide +kernel
theorem dX2_takeNumber_91 : decode cX2_takeNumber 91 = .ok (.putfield 45, 3) := by decide +kernel
theorem dX2_takeNumber_94 : decode cX2_takeNumber 94 = .ok (.return_, 1) := by decide +kernel
theorem dX2_wordOf_0 : decode cX2_wordOf 0 = .ok (.iload_n 0, 1) := by decide +kernel
theorem dX2_wordOf_1 : decode cX2_wordOf 1 = .ok (.tableswitch 92 0 10 #[59, 62, 65, 68, 71, 74, 77, 80, 83, 86, 89], 59) := by decide +kernel
theorem dX2_wordOf_60 : decode cX2_wordOf 60 = .ok (.ldc 108, 2) := by decide +kernel
theorem dX2_wordOf_62 : decode cX2_wordOf 62 = .ok (.areturn, 1) := by decide +kernel
theorem dX2_wordOf_63 : decode cX2_wordOf 63 = .ok (.ldc 110, 2) := by decide +kernel
theorem dX2_wordOf_65 : decode cX2_wordOf 65 = .ok (.areturn, 1) := by decide +kernel
theorem dX2_wordOf_66 : decode cX2_wordOf 66 = .ok (.ldc 112, 2) := by decide +kernel
theorem dX2_wordOf_68 : decode cX2_wordOf 68 = .ok (.areturn, 1) := by decide +kernel
theorem dX2_wordOf_69 : decode cX2_wordOf 69 = .ok (.ldc 114, 2) := by decide +kernel
theorem dX2_wordOf_71 : decode cX2_wordOf 71 = .ok (.areturn, 1) := by decide +kernel
theorem dX2_wordOf_72 : decode cX2_wordOf 72 = .ok (.ldc 116, 2) := by decide +kernel
theorem dX2_wordOf_74 : decode cX2_wordOf 74 = .ok (.areturn, 1) := by decide +kernel
theorem dX2_wordOf_75 : decode cX2_wordOf 75 = .ok (.ldc 118, 2) := by decide +kernel
theorem dX2_wordOf_77 : decode cX2_wordOf 77 = .ok (.areturn, 1) := by decide +kernel
theorem dX2_wordOf_78 : decode cX2_wordOf 78 = .ok (.ldc 120, 2) := by decide +kernel
theorem dX2_wordOf_80 : decode cX2_wordOf 80 = .ok (.areturn, 1) := by decide +kernel
theorem dX2_wordOf_81 : decode cX2_wordOf 81 = .ok (.ldc 122, 2) := by decide +kernel
theorem dX2_wordOf_83 : decode cX2_wordOf 83 = .ok (.areturn, 1) := by decide +kernel
theorem dX2_wordOf_84 : decode cX2_wordOf 84 = .ok (.ldc 124, 2) := by decide +kernel
theorem dX2_wordOf_86 : decode cX2_wordOf 86 = .ok (.areturn, 1) := by decide +kernel
theorem dX2_wordOf_87 : decode cX2_wordOf 87 = .ok (.ldc 126, 2) := by decide +kernel
theorem dX2_wordOf_89 : decode cX2_wordOf 89 = .ok (.areturn, 1) := by decide +kernel
theorem dX2_wordOf_90 : decode cX2_wordOf 90 = .ok (.ldc 128, 2) := by decide +kernel
theorem dX2_wordOf_92 : decode cX2_wordOf 92 = .ok (.areturn, 1) := by decide +kernel
theorem dX2_wordOf_93 : decode cX2_wordOf 93 = .ok (.ldc 130, 2) := by decide +kernel
theorem dX2_wordOf_95 : decode cX2_wordOf 95 = .ok (.areturn, 1) := by decide +kernel
theorem dX2_isLetter_0 : decode cX2_isLetter 0 = .ok (.iload_n 0, 1) := by decide +kernel
theorem dX2_isLetter_1 : decode cX2_isLetter 1 = .ok (.bipush 97, 2) := by decide +kernel
theorem dX2_isLetter_3 : decode cX2_isLetter 3 = .ok (.if_icmp .lt 13, 3) := by decide +kernel
theorem dX2_isLetter_6 : decode cX2_isLetter 6 = .ok (.iload_n 0, 1) := by decide +kernel
theorem dX2_isLetter_7 : decode cX2_isLetter 7 = .ok (.bipush 122, 2) := by decide +kernel
theorem dX2_isLetter_9 : decode cX2_isLetter 9 = .ok (.if_icmp .gt 7, 3) := by decide +kernel
theorem dX2_isLetter_12 : decode cX2_isLetter 12 = .ok (.iconst 1, 1) := by decide +kernel
theorem dX2_isLetter_13 : decode cX2_isLetter 13 = .ok (.goto 4, 3) := by decide +kernel
theorem dX2_isLetter_16 : decode cX2_isLetter 16 = .ok (.iconst 0, 1) := by decide +kernel
theorem dX2_isLetter_17 : decode cX2_isLetter 17 = .ok (.ireturn, 1) := by decide +kernel
theorem dX2_isDigit_0 : decode cX2_isDigit 0 = .ok (.iload_n 0, 1) := by decide +kernel
theorem dX2_isDigit_1 : decode cX2_isDigit 1 = .ok (.bipush 48, 2) := by decide +kernel
theorem dX2_isDigit_3 : decode cX2_isDigit 3 = .ok (.if_icmp .lt 13, 3) := by decide +kernel
theorem dX2_isDigit_6 : decode cX2_isDigit 6 = .ok (.iload_n 0, 1) := by decide +kernel
theorem dX2_isDigit_7 : decode cX2_isDigit 7 = .ok (.bipush 57, 2) := by decide +kernel
theorem dX2_isDigit_9 : decode cX2_isDigit 9 = .ok (.if_icmp .gt 7, 3) := by decide +kernel
theorem dX2_isDigit_12 : decode cX2_isDigit 12 = .ok (.iconst 1, 1) := by decide +kernel
theorem dX2_isDigit_13 : decode cX2_isDigit 13 = .ok (.goto 4, 3) := by decide +kernel
theorem dX2_isDigit_16 : decode cX2_isDigit 16 = .ok (.iconst 0, 1) := by decide +kernel
theorem dX2_isDigit_17 : decode cX2_isDigit 17 = .ok (.ireturn, 1) := by decide +kernel
theorem dX2_isSign_0 : decode cX2_isSign 0 = .ok (.iload_n 0, 1) := by decide +kernel
theorem dX2_isSign_1 : decode cX2_isSign 1 = .ok (.tableswitch 105 40 61 #[103, 103, 103, 103, 105, 103, 105, 105, 105, 105, 105, 105, 105, 105, 105, 105, 105, 105, 105, 103, 103, 103], 103) := by decide +kernel
theorem dX2_isSign_104 : decode cX2_isSign 104 = .ok (.iconst 1, 1) := by decide +kernel
theorem dX2_isSign_105 : decode cX2_isSign 105 = .ok (.ireturn, 1) := by decide +kernel
theorem dX2_isSign_106 : decode cX2_isSign 106 = .ok (.iconst 0, 1) := by decide +kernel
theorem dX2_isSign_107 : decode cX2_isSign 107 = .ok (.ireturn, 1) := by decide +kernel
theorem dX3_init_0 : decode cX3_init 0 = .ok (.aload_n 0, 1) := by decide +kernel
theorem dX3_init_1 : decode cX3_init 1 = .ok (.invokespecial 3, 3) := by decide +kernel
theorem dX3_init_4 : decode cX3_init 4 = .ok (.aload_n 0, 1) := by decide +kernel
theorem dX3_init_5 : decode cX3_init 5 = .ok (.sipush 160, 3) := by decide +kernel
theorem dX3_init_8 : decode cX3_init 8 = .ok (.newarray .int, 2) := by decide +kernel
theorem dX3_init_10 : decode cX3_init 10 = .ok (.putfield 9, 3) := by decide +kernel
theorem dX3_init_13 : decode cX3_init 13 = .ok (.aload_n 0, 1) := by decide +kernel
theorem dX3_init_14 : decode cX3_init 14 = .ok (.iconst 3, 1) := by decide +kernel
theorem dX3_init_15 : decode cX3_init 15 = .ok (.newarray .int, 2) := by decide +kernel
theorem dX3_init_17 : decode cX3_init 17 = .ok (.putfield 15, 3) := by decide +kernel
theorem dX3_init_20 : decode cX3_init 20 = .ok (.aload_n 0, 1) := by decide +kernel
theorem dX3_init_21 : decode cX3_init 21 = .ok (.bipush 32, 2) := by decide +kernel
theorem dX3_init_23 : decode cX3_init 23 = .ok (.newarray .int, 2) := by decide +kernel
theorem dX3_init_25 : decode cX3_init 25 = .ok (.putfield 18, 3) := by decide +kernel
theorem dX3_init_28 : decode cX3_init 28 = .ok (.return_, 1) := by decide +kernel
theorem dX3_clear_0 : decode cX3_clear 0 = .ok (.aload_n 0, 1) := by decide +kernel
theorem dX3_clear_1 : decode cX3_clear 1 = .ok (.iconst 0, 1) := by decide +kernel
theorem dX3_clear_2 : decode cX3_clear 2 = .ok (.putfield 21, 3) := by decide +kernel
theorem dX3_clear_5 : decode cX3_clear 5 = .ok (.iconst 0, 1) := by decide +kernel
theorem dX3_clear_6 : decode cX3_clear 6 = .ok (.istore_n 1, 1) := by decide +kernel
theorem dX3_clear_7 : decode cX3_clear 7 = .ok (.iload_n 1, 1) := by decide +kernel
theorem dX3_clear_8 : decode cX3_clear 8 = .ok (.iconst 3, 1) := by decide +kernel
theorem dX3_clear_9 : decode cX3_clear 9 = .ok (.if_icmp .ge 16, 3) := by decide +kernel
theorem dX3_clear_12 : decode cX3_clear 12 = .ok (.aload_n 0, 1) := by decide +kernel
theorem dX3_clear_13 : decode cX3_clear 13 = .ok (.getfield 15, 3) := by decide +kernel
theorem dX3_clear_16 : decode cX3_clear 16 = .ok (.iload_n 1, 1) := by decide +kernel
theorem dX3_clear_17 : decode cX3_clear 17 = .ok (.iconst 0, 1) := by decide +kernel
theorem dX3_clear_18 : decode cX3_clear 18 = .ok (.iastore, 1) := by decide +kernel
theorem dX3_clear_19 : decode cX3_clear 19 = .ok (.iinc 1 1, 3) := by decide +kernel
theorem dX3_clear_22 : decode cX3_clear 22 = .ok (.goto (-15), 3) := by decide +kernel
theorem dX3_clear_25 : decode cX3_clear 25 = .ok (.return_, 1) := by decide +kernel
theorem dX3_add_0 : decode cX3_add 0 = .ok (.aload_n 0, 1) := by decide +kernel
theorem dX3_add_1 : decode cX3_add 1 = .ok (.getfield 21, 3) := by decide +kernel
theorem dX3_add_4 : decode cX3_add 4 = .ok (.sipush 160, 3) := by decide +kernel
theorem dX3_add_7 : decode cX3_add 7 = .ok (.if_icmp .ge 23, 3) := by decide +kernel
theorem dX3_add_10 : decode cX3_add 10 = .ok (.aload_n 0, 1) := by decide +kernel
theorem dX3_add_11 : decode cX3_add 11 = .ok (.getfield 9, 3) := by decide +kernel
theorem dX3_add_14 : decode cX3_add 14 = .ok (.aload_n 0, 1) := by decide +kernel
theorem dX3_add_15 : decode cX3_add 15 = .ok (.getfield 21, 3) := by decide +kernel
theorem dX3_add_18 : decode cX3_add 18 = .ok (.iload_n 1, 1) := by decide +kernel
theorem dX3_add_19 : decode cX3_add 19 = .ok (.iastore, 1) := by decide +kernel
theorem dX3_add_20 : decode cX3_add 20 = .ok (.aload_n 0, 1) := by decide +kernel
theorem dX3_add_21 : decode cX3_add 21 = .ok (.dup, 1) := by decide +kernel
theorem dX3_add_22 : decode cX3_add 22 = .ok (.getfield 21, 3) := by decide +kernel
theorem dX3_add_25 : decode cX3_add 25 = .ok (.iconst 1, 1) := by decide +kernel
theorem dX3_add_26 : decode cX3_add 26 = .ok (.iadd, 1) := by decide +kernel
theorem dX3_add_27 : decode cX3_add 27 = .ok (.putfield 21, 3) := by decide +kernel
theorem dX3_add_30 : decode cX3_add 30 = .ok (.return_, 1) := by decide +kernel
theorem dX3_end_0 : decode cX3_end 0 = .ok (.iload_n 1, 1) := by decide +kernel
theorem dX3_end_1 : decode cX3_end 1 = .ok (.ifCond .lt 18, 3) := by decide +kernel
theorem dX3_end_4 : decode cX3_end 4 = .ok (.iload_n 1, 1) := by decide +kernel
theorem dX3_end_5 : decode cX3_end 5 = .ok (.iconst 3, 1) := by decide +kernel
theorem dX3_end_6 : decode cX3_end 6 = .ok (.if_icmp .ge 13, 3) := by decide +kernel
theorem dX3_end_9 : decode cX3_end 9 = .ok (.aload_n 0, 1) := by decide +kernel
theorem dX3_end_10 : decode cX3_end 10 = .ok (.getfield 15, 3) := by decide +kernel
theorem dX3_end_13 : decode cX3_end 13 = .ok (.iload_n 1, 1) := by decide +kernel
theorem dX3_end_14 : decode cX3_end 14 = .ok (.aload_n 0, 1) := by decide +kernel
theorem dX3_end_15 : decode cX3_end 15 = .ok (.getfield 21, 3) := by decide +kernel
theorem dX3_end_18 : decode cX3_end 18 = .ok (.iastore, 1) := by decide +kernel
theorem dX3_end_19 : decode cX3_end 19 = .ok (.return_, 1) := by decide +kernel
theorem dX3_pricesLookAtMeans_0 : decode cX3_pricesLookAtMeans 0 = .ok (.iconst 0, 1) := by decide +kernel
theorem dX3_pricesLookAtMeans_1 : decode cX3_pricesLookAtMeans 1 = .ok (.istore_n 1, 1) := by decide +kernel
theorem dX3_pricesLookAtMeans_2 : decode cX3_pricesLookAtMeans 2 = .ok (.iload_n 1, 1) := by decide +kernel
theorem dX3_pricesLookAtMeans_3 : decode cX3_pricesLookAtMeans 3 = .ok (.aload_n 0, 1) := by decide +kernel
theorem dX3_pricesLookAtMeans_4 : decode cX3_pricesLookAtMeans 4 = .ok (.getfield 15, 3) := by decide +kernel
theorem dX3_pricesLookAtMeans_7 : decode cX3_pricesLookAtMeans 7 = .ok (.iconst 0, 1) := by decide +kernel
theorem dX3_pricesLookAtMeans_8 : decode cX3_pricesLookAtMeans 8 = .ok (.iaload, 1) := by decide +kernel
theorem dX3_pricesLookAtMeans_9 : decode cX3_pricesLookAtMeans 9 = .ok (.if_icmp .ge 22, 3) := by decide +kernel
theorem dX3_pricesLookAtMeans_12 : decode cX3_pricesLookAtMeans 12 = .ok (.aload_n 0, 1) := by decide +kernel
theorem dX3_pricesLookAtMeans_13 : decode cX3_pricesLookAtMeans 13 = .ok (.getfield 9, 3) := by decide +kernel
theorem dX3_pricesLookAtMeans_16 : decode cX3_pricesLookAtMeans 16 = .ok (.iload_n 1, 1) := by decide +kernel
theorem dX3_pricesLookAtMeans_17 : decode cX3_pricesLookAtMeans 17 = .ok (.iaload, 1) := by decide +kernel
theorem dX3_pricesLookAtMeans_18 : decode cX3_pricesLookAtMeans 18 = .ok (.bipush (-3), 2) := by decide +kernel
theorem dX3_pricesLookAtMeans_20 : decode cX3_pricesLookAtMeans 20 = .ok (.if_icmp .ne 5, 3) := by decide +kernel
theorem dX3_pricesLookAtMeans_23 : decode cX3_pricesLookAtMeans 23 = .ok (.iconst 1, 1) := by decide +kernel
theorem dX3_pricesLookAtMeans_24 : decode cX3_pricesLookAtMeans 24 = .ok (.ireturn, 1) := by decide +kernel
theorem dX3_pricesLookAtMeans_25 : decode cX3_pricesLookAtMeans 25 = .ok (.iinc 1 1, 3) := by decide +kernel
theorem dX3_pricesLookAtMeans_28 : decode cX3_pricesLookAtMeans 28 = .ok (.goto (-26), 3) := by decide +kernel
theorem dX3_pricesLookAtMeans_31 : decode cX3_pricesLookAtMeans 31 = .ok (.iconst 0, 1) := by decide +kernel
theorem dX3_pricesLookAtMeans_32 : decode cX3_pricesLookAtMeans 32 = .ok (.ireturn, 1) := by decide +kernel
theorem dX3_value_0 : decode cX3_value 0 = .ok (.iload_n 1, 1) := by decide +kernel
theorem dX3_value_1 : decode cX3_value 1 = .ok (.ifCond .lt 8, 3) := by decide +kernel
theorem dX3_value_4 : decode cX3_value 4 = .ok (.iload_n 1, 1) := by decide +kernel
theorem dX3_value_5 : decode cX3_value 5 = .ok (.iconst 3, 1) := by decide +kernel
theorem dX3_value_6 : decode cX3_value 6 = .ok (.if_icmp .lt 5, 3) := by decide +kernel
theorem dX3_value_9 : decode cX3_value 9 = .ok (.iconst 0, 1) := by decide +kernel
theorem dX3_value_10 : decode cX3_value 10 = .ok (.ireturn, 1) := by decide +kernel
theorem dX3_value_11 : decode cX3_value 11 = .ok (.iconst 0, 1) := by decide +kernel
theorem dX3_value_12 : decode cX3_value 12 = .ok (.istore_n 3, 1) := by decide +kernel
theorem dX3_value_13 : decode cX3_value 13 = .ok (.iload_n 1, 1) := by decide +kernel
theorem dX3_value_14 : decode cX3_value 14 = .ok (.ifCond .ne 7, 3) := by decide +kernel
theorem dX3_value_17 : decode cX3_value 17 = .ok (.iconst 0, 1) := by decide +kernel
theorem dX3_value_18 : decode cX3_value 18 = .ok (.goto 11, 3) := by decide +kernel
theorem dX3_value_21 : decode cX3_value 21 = .ok (.aload_n 0, 1) := by decide +kernel
theorem dX3_value_22 : decode cX3_value 22 = .ok (.getfield 15, 3) := by decide +kernel
theorem dX3_value_25 : decode cX3_value 25 = .ok (.iload_n 1, 1) := by decide +kernel
theorem dX3_value_26 : decode cX3_value 26 = .ok (.iconst 1, 1) := by decide +kernel
theorem dX3_value_27 : decode cX3_value 27 = .ok (.isub, 1) := by decide +kernel
theorem dX3_value_28 : decode cX3_value 28 = .ok (.iaload, 1) := by decide +kernel
theorem dX3_value_29 : decode cX3_value 29 = .ok (.istore 4, 2) := by decide +kernel
theorem dX3_value_31 : decode cX3_value 31 = .ok (.iload 4, 2) := by decide +kernel
theorem dX3_value_33 : decode cX3_value 33 = .ok (.aload_n 0, 1) := by decide +kernel
theorem dX3_value_34 : decode cX3_value 34 = .ok (.getfield 15, 3) := by decide +kernel
theorem dX3_value_37 : decode cX3_value 37 = .ok (.iload_n 1, 1) := by decide +kernel
theorem dX3_value_38 : decode cX3_value 38 = .ok (.iaload, 1) := by decide +kernel
theorem dX3_value_39 : decode cX3_value 39 = .ok (.if_icmp .ge 164, 3) := by decide +kernel
theorem dX3_value_42 : decode cX3_value 42 = .ok (.aload_n 0, 1) := by decide +kernel
theorem dX3_value_43 : decode cX3_value 43 = .ok (.getfield 9, 3) := by decide +kernel
theorem dX3_value_46 : decode cX3_value 46 = .ok (.iload 4, 2) := by decide +kernel
theorem dX3_value_48 : decode cX3_value 48 = .ok (.iaload, 1) := by decide +kernel
theorem dX3_value_49 : decode cX3_value 49 = .ok (.istore 5, 2) := by decide +kernel
theorem dX3_value_51 : decode cX3_value 51 = .ok (.iload 5, 2) := by decide +kernel
theorem dX3_value_53 : decode cX3_value 53 = .ok (.bipush (-6), 2) := by decide +kernel
theorem dX3_value_55 : decode cX3_value 55 = .ok (.if_icmp .lt 40, 3) := by decide +kernel
theorem dX3_value_58 : decode cX3_value 58 = .ok (.iload_n 3, 1) := by decide +kernel
theorem dX3_value_59 : decode cX3_value 59 = .ok (.aload_n 0, 1) := by decide +kernel
theorem dX3_value_60 : decode cX3_value 60 = .ok (.getfield 18, 3) := by decide +kernel
theorem dX3_value_63 : decode cX3_value 63 = .ok (.arraylength, 1) := by decide +kernel
theorem dX3_value_64 : decode cX3_value 64 = .ok (.if_icmp .ge 133, 3) := by decide +kernel
theorem dX3_value_67 : decode cX3_value 67 = .ok (.aload_n 0, 1) := by decide +kernel
theorem dX3_value_68 : decode cX3_value 68 = .ok (.getfield 18, 3) := by decide +kernel
theorem dX3_value_71 : decode cX3_value 71 = .ok (.iload_n 3, 1) := by decide +kernel
theorem dX3_value_72 : decode cX3_value 72 = .ok (.iload 5, 2) := by decide +kernel
theorem dX3_value_74 : decode cX3_value 74 = .ok (.ifCond .lt 8, 3) := by decide +kernel
theorem dX3_value_77 : decode cX3_value 77 = .ok (.iload 5, 2) := by decide +kernel
theorem dX3_value_79 : decode cX3_value 79 = .ok (.goto 9, 3) := by decide +kernel
theorem dX3_value_82 : decode cX3_value 82 = .ok (.aload_n 2, 1) := by decide +kernel
theorem dX3_value_83 : decode cX3_value 83 = .ok (.iconst (-1), 1) := by decide +kernel
theorem dX3_value_84 : decode cX3_value 84 = .ok (.iload 5, 2) := by decide +kernel
theorem dX3_value_86 : decode cX3_value 86 = .ok (.isub, 1) := by decide +kernel
theorem dX3_value_87 : decode cX3_value 87 = .ok (.iaload, 1) := by decide +kernel
theorem dX3_value_88 : decode cX3_value 88 = .ok (.iastore, 1) := by decide +kernel
theorem dX3_value_89 : decode cX3_value 89 = .ok (.iinc 3 1, 3) := by decide +kernel
theorem dX3_value_92 : decode cX3_value 92 = .ok (.goto 105, 3) := by decide +kernel
theorem dX3_value_95 : decode cX3_value 95 = .ok (.iload 5, 2) := by decide +kernel
theorem dX3_value_97 : decode cX3_value 97 = .ok (.bipush (-12), 2) := by decide +kernel
theorem dX3_value_99 : decode cX3_value 99 = .ok (.if_icmp .eq 10, 3) := by decide +kernel
theorem dX3_value_102 : decode cX3_value 102 = .ok (.iload 5, 2) := by decide +kernel
theorem dX3_value_104 : decode cX3_value 104 = .ok (.bipush (-18), 2) := by decide +kernel
theorem dX3_value_106 : decode cX3_value 106 = .ok (.if_icmp .ne 54, 3) := by decide +kernel
theorem dX3_value_109 : decode cX3_value 109 = .ok (.iload_n 3, 1) := by decide +kernel
theorem dX3_value_110 : decode cX3_value 110 = .ok (.iconst 1, 1) := by decide +kernel
theorem dX3_value_111 : decode cX3_value 111 = .ok (.if_icmp .lt 86, 3) := by decide +kernel
theorem dX3_value_114 : decode cX3_value 114 = .ok (.aload_n 0, 1) := by decide +kernel
theorem dX3_value_115 : decode cX3_value 115 = .ok (.getfield 18, 3) := by decide +kernel
theorem dX3_value_118 : decode cX3_value 118 = .ok (.iload_n 3, 1) := by decide +kernel
theorem dX3_value_119 : decode cX3_value 119 = .ok (.iconst 1, 1) := by decide +kernel
theorem dX3_value_120 : decode cX3_value 120 = .ok (.isub, 1) := by decide +kernel
theorem dX3_value_121 : decode cX3_value 121 = .ok (.iload 5, 2) := by decide +kernel
theorem dX3_value_123 : decode cX3_value 123 = .ok (.bipush (-18), 2) := by decide +kernel
theorem dX3_value_125 : decode cX3_value 125 = .ok (.if_icmp .ne 15, 3) := by decide +kernel
theorem dX3_value_128 : decode cX3_value 128 = .ok (.aload_n 0, 1) := by decide +kernel
theorem dX3_value_129 : decode cX3_value 129 = .ok (.getfield 18, 3) := by decide +kernel
theorem dX3_value_132 : decode cX3_value 132 = .ok (.iload_n 3, 1) := by decide +kernel
theorem dX3_value_133 : decode cX3_value 133 = .ok (.iconst 1, 1) := by decide +kernel
theorem dX3_value_134 : decode cX3_value 134 = .ok (.isub, 1) := by decide +kernel
theorem dX3_value_135 : decode cX3_value 135 = .ok (.iaload, 1) := by decide +kernel
theorem dX3_value_136 : decode cX3_value 136 = .ok (.ineg, 1) := by decide +kernel
theorem dX3_value_137 : decode cX3_value 137 = .ok (.goto 19, 3) := by decide +kernel
theorem dX3_value_140 : decode cX3_value 140 = .ok (.aload_n 0, 1) := by decide +kernel
theorem dX3_value_141 : decode cX3_value 141 = .ok (.getfield 18, 3) := by decide +kernel
theorem dX3_value_144 : decode cX3_value 144 = .ok (.iload_n 3, 1) := by decide +kernel
theorem dX3_value_145 : decode cX3_value 145 = .ok (.iconst 1, 1) := by decide +kernel
theorem dX3_value_146 : decode cX3_value 146 = .ok (.isub, 1) := by decide +kernel
theorem dX3_value_147 : decode cX3_value 147 = .ok (.iaload, 1) := by decide +kernel
theorem dX3_value_148 : decode cX3_value 148 = .ok (.ifCond .ne 7, 3) := by decide +kernel
theorem dX3_value_151 : decode cX3_value 151 = .ok (.iconst 1, 1) := by decide +kernel
theorem dX3_value_152 : decode cX3_value 152 = .ok (.goto 4, 3) := by decide +kernel
theorem dX3_value_155 : decode cX3_value 155 = .ok (.iconst 0, 1) := by decide +kernel
theorem dX3_value_156 : decode cX3_value 156 = .ok (.iastore, 1) := by decide +kernel
theorem dX3_value_157 : decode cX3_value 157 = .ok (.goto 40, 3) := by decide +kernel
theorem dX3_value_160 : decode cX3_value 160 = .ok (.iload_n 3, 1) := by decide +kernel
theorem dX3_value_161 : decode cX3_value 161 = .ok (.iconst 2, 1) := by decide +kernel
theorem dX3_value_162 : decode cX3_value 162 = .ok (.if_icmp .lt 35, 3) := by decide +kernel
theorem dX3_value_165 : decode cX3_value 165 = .ok (.aload_n 0, 1) := by decide +kernel
theorem dX3_value_166 : decode cX3_value 166 = .ok (.getfield 18, 3) := by decide +kernel
theorem dX3_value_169 : decode cX3_value 169 = .ok (.iload_n 3, 1) := by decide +kernel
theorem dX3_value_170 : decode cX3_value 170 = .ok (.iconst 2, 1) := by decide +kernel
theorem dX3_value_171 : decode cX3_value 171 = .ok (.isub, 1) := by decide +kernel
theorem dX3_value_172 : decode cX3_value 172 = .ok (.iload 5, 2) := by decide +kernel
theorem dX3_value_174 : decode cX3_value 174 = .ok (.aload_n 0, 1) := by decide +kernel
theorem dX3_value_175 : decode cX3_value 175 = .ok (.getfield 18, 3) := by decide +kernel
theorem dX3_value_178 : decode cX3_value 178 = .ok (.iload_n 3, 1) := by decide +kernel
theorem dX3_value_179 : decode cX3_value 179 = .ok (.iconst 2, 1) := by decide +kernel
theorem dX3_value_180 : decode cX3_value 180 = .ok (.isub, 1) := by decide +kernel
theorem dX3_value_181 : decode cX3_value 181 = .ok (.iaload, 1) := by decide +kernel
theorem dX3_value_182 : decode cX3_value 182 = .ok (.aload_n 0, 1) := by decide +kernel
theorem dX3_value_183 : decode cX3_value 183 = .ok (.getfield 18, 3) := by decide +kernel
theorem dX3_value_186 : decode cX3_value 186 = .ok (.iload_n 3, 1) := by decide +kernel
theorem dX3_value_187 : decode cX3_value 187 = .ok (.iconst 1, 1) := by decide +kernel
theorem dX3_value_188 : decode cX3_value 188 = .ok (.isub, 1) := by decide +kernel
theorem dX3_value_189 : decode cX3_value 189 = .ok (.iaload, 1) := by decide +kernel
theorem dX3_value_190 : decode cX3_value 190 = .ok (.invokestatic 25, 3) := by decide +kernel
theorem dX3_value_193 : decode cX3_value 193 = .ok (.iastore, 1) := by decide +kernel
theorem dX3_value_194 : decode cX3_value 194 = .ok (.iinc 3 (-1), 3) := by decide +kernel
theorem dX3_value_197 : decode cX3_value 197 = .ok (.iinc 4 1, 3) := by decide +kernel
theorem dX3_value_200 : decode cX3_value 200 = .ok (.goto (-169), 3) := by decide +kernel
theorem dX3_value_203 : decode cX3_value 203 = .ok (.iload_n 3, 1) := by decide +kernel
theorem dX3_value_204 : decode cX3_value 204 = .ok (.iconst 1, 1) := by decide +kernel
theorem dX3_value_205 : decode cX3_value 205 = .ok (.if_icmp .lt 12, 3) := by decide +kernel
theorem dX3_value_208 : decode cX3_value 208 = .ok (.aload_n 0, 1) := by decide +kernel
theorem dX3_value_209 : decode cX3_value 209 = .ok (.getfield 18, 3) := by decide +kernel
theorem dX3_value_212 : decode cX3_value 212 = .ok (.iconst 0, 1) := by decide +kernel
theorem dX3_value_213 : decode cX3_value 213 = .ok (.iaload, 1) := by decide +kernel
theorem dX3_value_214 : decode cX3_value 214 = .ok (.goto 4, 3) := by decide +kernel
theorem dX3_value_217 : decode cX3_value 217 = .ok (.iconst 0, 1) := by decide +kernel
theorem dX3_value_218 : decode cX3_value 218 = .ok (.ireturn, 1) := by decide +kernel
theorem dX3_joined_0 : decode cX3_joined 0 = .ok (.iload_n 0, 1) := by decide +kernel
theorem dX3_joined_1 : decode cX3_joined 1 = .ok (.tableswitch 101 (-16) (-10) #[97, 93, 82, 71, 101, 57, 43], 43) := by decide +kernel
theorem dX3_joined_44 : decode cX3_joined 44 = .ok (.iload_n 1, 1) := by decide +kernel
theorem dX3_joined_45 : decode cX3_joined 45 = .ok (.ifCond .ne 7, 3) := by decide +kernel
theorem dX3_joined_48 : decode cX3_joined 48 = .ok (.iload_n 2, 1) := by decide +kernel
theorem dX3_joined_49 : decode cX3_joined 49 = .ok (.ifCond .eq 7, 3) := by decide +kernel
theorem dX3_joined_52 : decode cX3_joined 52 = .ok (.iconst 1, 1) := by decide +kernel
theorem dX3_joined_53 : decode cX3_joined 53 = .ok (.goto 4, 3) := by decide +kernel
theorem dX3_joined_56 : decode cX3_joined 56 = .ok (.iconst 0, 1) := by decide +kernel
theorem dX3_joined_57 : decode cX3_joined 57 = .ok (.ireturn, 1) := by decide +kernel
theorem dX3_joined_58 : decode cX3_joined 58 = .ok (.iload_n 1, 1) := by decide +kernel
theorem dX3_joined_59 : decode cX3_joined 59 = .ok (.ifCond .eq 11, 3) := by decide +kernel
theorem dX3_joined_62 : decode cX3_joined 62 = .ok (.iload_n 2, 1) := by decide +kernel
theorem dX3_joined_63 : decode cX3_joined 63 = .ok (.ifCond .eq 7, 3) := by decide +kernel
theorem dX3_joined_66 : decode cX3_joined 66 = .ok (.iconst 1, 1) := by decide +kernel
theorem dX3_joined_67 : decode cX3_joined 67 = .ok (.goto 4, 3) := by decide +kernel
theorem dX3_joined_70 : decode cX3_joined 70 = .ok (.iconst 0, 1) := by decide +kernel
theorem dX3_joined_71 : decode cX3_joined 71 = .ok (.ireturn, 1) := by decide +kernel
theorem dX3_joined_72 : decode cX3_joined 72 = .ok (.iload_n 1, 1) := by decide +kernel
theorem dX3_joined_73 : decode cX3_joined 73 = .ok (.iload_n 2, 1) := by decide +kernel
theorem dX3_joined_74 : decode cX3_joined 74 = .ok (.if_icmp .ge 7, 3) := by decide +kernel
theorem dX3_joined_77 : decode cX3_joined 77 = .ok (.iconst 1, 1) := by decide +kernel
theorem dX3_joined_78 : decode cX3_joined 78 = .ok (.goto 4, 3) := by decide +kernel
theorem dX3_joined_81 : decode cX3_joined 81 = .ok (.iconst 0, 1) := by decide +kernel
theorem dX3_joined_82 : decode cX3_joined 82 = .ok (.ireturn, 1) := by decide +kernel
theorem dX3_joined_83 : decode cX3_joined 83 = .ok (.iload_n 1, 1) := by decide +kernel
theorem dX3_joined_84 : decode cX3_joined 84 = .ok (.iload_n 2, 1) := by decide +kernel
theorem dX3_joined_85 : decode cX3_joined 85 = .ok (.if_icmp .ne 7, 3) := by decide +kernel
theorem dX3_joined_88 : decode cX3_joined 88 = .ok (.iconst 1, 1) := by decide +kernel
theorem dX3_joined_89 : decode cX3_joined 89 = .ok (.goto 4, 3) := by decide +kernel
theorem dX3_joined_92 : decode cX3_joined 92 = .ok (.iconst 0, 1) := by decide +kernel
theorem dX3_joined_93 : decode cX3_joined 93 = .ok (.ireturn, 1) := by decide +kernel
theorem dX3_joined_94 : decode cX3_joined 94 = .ok (.iload_n 1, 1) := by decide +kernel
theorem dX3_joined_95 : decode cX3_joined 95 = .ok (.iload_n 2, 1) := by decide +kernel
theorem dX3_joined_96 : decode cX3_joined 96 = .ok (.iadd, 1) := by decide +kernel
theorem dX3_joined_97 : decode cX3_joined 97 = .ok (.ireturn, 1) := by decide +kernel
theorem dX3_joined_98 : decode cX3_joined 98 = .ok (.iload_n 1, 1) := by decide +kernel
theorem dX3_joined_99 : decode cX3_joined 99 = .ok (.iload_n 2, 1) := by decide +kernel
theorem dX3_joined_100 : decode cX3_joined 100 = .ok (.isub, 1) := by decide +kernel
theorem dX3_joined_101 : decode cX3_joined 101 = .ok (.ireturn, 1) := by decide +kernel
theorem dX3_joined_102 : decode cX3_joined 102 = .ok (.iload_n 1, 1) := by decide +kernel
theorem dX3_joined_103 : decode cX3_joined 103 = .ok (.iload_n 2, 1) := by decide +kernel
theorem dX3_joined_104 : decode cX3_joined 104 = .ok (.imul, 1) := by decide +kernel
theorem dX3_joined_105 : decode cX3_joined 105 = .ok (.ireturn, 1) := by decide +kernel
theorem dX4_init_0 : decode cX4_init 0 = .ok (.aload_n 0, 1) := by decide +kernel
theorem dX4_init_1 : decode cX4_init 1 = .ok (.invokespecial 3, 3) := by decide +kernel
theorem dX4_init_4 : decode cX4_init 4 = .ok (.aload_n 0, 1) := by decide +kernel
theorem dX4_init_5 : decode cX4_init 5 = .ok (.iconst 1, 1) := by decide +kernel
theorem dX4_init_6 : decode cX4_init 6 = .ok (.putfield 9, 3) := by decide +kernel
theorem dX4_init_9 : decode cX4_init 9 = .ok (.aload_n 0, 1) := by decide +kernel
theorem dX4_init_10 : decode cX4_init 10 = .ok (.bipush 6, 2) := by decide +kernel
theorem dX4_init_12 : decode cX4_init 12 = .ok (.newarray .int, 2) := by decide +kernel
theorem dX4_init_14 : decode cX4_init 14 = .ok (.putfield 15, 3) := by decide +kernel
theorem dX4_init_17 : decode cX4_init 17 = .ok (.aload_n 0, 1) := by decide +kernel
theorem dX4_init_18 : decode cX4_init 18 = .ok (.bipush 6, 2) := by decide +kernel
theorem dX4_init_20 : decode cX4_init 20 = .ok (.newarray .int, 2) := by decide +kernel
theorem dX4_init_22 : decode cX4_init 22 = .ok (.putfield 19, 3) := by decide +kernel
theorem dX4_init_25 : decode cX4_init 25 = .ok (.aload_n 0, 1) := by decide +kernel
theorem dX4_init_26 : decode cX4_init 26 = .ok (.bipush 6, 2) := by decide +kernel
theorem dX4_init_28 : decode cX4_init 28 = .ok (.newarray .int, 2) := by decide +kernel
theorem dX4_init_30 : decode cX4_init 30 = .ok (.putfield 22, 3) := by decide +kernel
theorem dX4_init_33 : decode cX4_init 33 = .ok (.aload_n 0, 1) := by decide +kernel
theorem dX4_init_34 : decode cX4_init 34 = .ok (.bipush 6, 2) := by decide +kernel
theorem dX4_init_36 : decode cX4_init 36 = .ok (.newarray .int, 2) := by decide +kernel
theorem dX4_init_38 : decode cX4_init 38 = .ok (.putfield 25, 3) := by decide +kernel
theorem dX4_init_41 : decode cX4_init 41 = .ok (.aload_n 0, 1) := by decide +kernel
theorem dX4_init_42 : decode cX4_init 42 = .ok (.iconst 5, 1) := by decide +kernel
theorem dX4_init_43 : decode cX4_init 43 = .ok (.newarray .int, 2) := by decide +kernel
theorem dX4_init_45 : decode cX4_init 45 = .ok (.putfield 28, 3) := by decide +kernel
theorem dX4_init_48 : decode cX4_init 48 = .ok (.aload_n 0, 1) := by decide +kernel
theorem dX4_init_49 : decode cX4_init 49 = .ok (.iconst 5, 1) := by decide +kernel
theorem dX4_init_50 : decode cX4_init 50 = .ok (.newarray .int, 2) := by decide +kernel
theorem dX4_init_52 : decode cX4_init 52 = .ok (.putfield 31, 3) := by decide +kernel
theorem dX4_init_55 : decode cX4_init 55 = .ok (.aload_n 0, 1) := by decide +kernel
theorem dX4_init_56 : decode cX4_init 56 = .ok (.bipush 6, 2) := by decide +kernel
theorem dX4_init_58 : decode cX4_init 58 = .ok (.newarray .int, 2) := by decide +kernel
theorem dX4_init_60 : decode cX4_init 60 = .ok (.putfield 34, 3) := by decide +kernel
theorem dX4_init_63 : decode cX4_init 63 = .ok (.aload_n 0, 1) := by decide +kernel
theorem dX4_init_64 : decode cX4_init 64 = .ok (.aload_n 1, 1) := by decide +kernel
theorem dX4_init_65 : decode cX4_init 65 = .ok (.putfield 37, 3) := by decide +kernel
theorem dX4_init_68 : decode cX4_init 68 = .ok (.return_, 1) := by decide +kernel
theorem dX4_become_0 : decode cX4_become 0 = .ok (.aload_n 0, 1) := by decide +kernel
theorem dX4_become_1 : decode cX4_become 1 = .ok (.aload_n 1, 1) := by decide +kernel
theorem dX4_become_2 : decode cX4_become 2 = .ok (.getfield 9, 3) := by decide +kernel
theorem dX4_become_5 : decode cX4_become 5 = .ok (.putfield 9, 3) := by decide +kernel
theorem dX4_become_8 : decode cX4_become 8 = .ok (.aload_n 0, 1) := by decide +kernel
theorem dX4_become_9 : decode cX4_become 9 = .ok (.aload_n 1, 1) := by decide +kernel
theorem dX4_become_10 : decode cX4_become 10 = .ok (.getfield 41, 3) := by decide +kernel
theorem dX4_become_13 : decode cX4_become 13 = .ok (.putfield 41, 3) := by decide +kernel
theorem dX4_become_16 : decode cX4_become 16 = .ok (.aload_n 0, 1) := by decide +kernel
theorem dX4_become_17 : decode cX4_become 17 = .ok (.aload_n 1, 1) := by decide +kernel
theorem dX4_become_18 : decode cX4_become 18 = .ok (.getfield 44, 3) := by decide +kernel
theorem dX4_become_21 : decode cX4_become 21 = .ok (.putfield 44, 3) := by decide +kernel
theorem dX4_become_24 : decode cX4_become 24 = .ok (.aload_n 0, 1) := by decide +kernel
theorem dX4_become_25 : decode cX4_become 25 = .ok (.aload_n 1, 1) := by decide +kernel
theorem dX4_become_26 : decode cX4_become 26 = .ok (.getfield 47, 3) := by decide +kernel
theorem dX4_become_29 : decode cX4_become 29 = .ok (.putfield 47, 3) := by decide +kernel
theorem dX4_become_32 : decode cX4_become 32 = .ok (.aload_n 1, 1) := by decide +kernel
theorem dX4_become_33 : decode cX4_become 33 = .ok (.getfield 15, 3) := by decide +kernel
theorem dX4_become_36 : decode cX4_become 36 = .ok (.iconst 0, 1) := by decide +kernel
theorem dX4_become_37 : decode cX4_become 37 = .ok (.aload_n 0, 1) := by decide +kernel
theorem dX4_become_38 : decode cX4_become 38 = .ok (.getfield 15, 3) := by decide +kernel
theorem dX4_become_41 : decode cX4_become 41 = .ok (.iconst 0, 1) := by decide +kernel
theorem dX4_become_42 : decode cX4_become 42 = .ok (.bipush 6, 2) := by decide +kernel
theorem dX4_become_44 : decode cX4_become 44 = .ok (.invokestatic 50, 3) := by decide +kernel
theorem dX4_become_47 : decode cX4_become 47 = .ok (.aload_n 1, 1) := by decide +kernel
theorem dX4_become_48 : decode cX4_become 48 = .ok (.getfield 19, 3) := by decide +kernel
theorem dX4_become_51 : decode cX4_become 51 = .ok (.iconst 0, 1) := by decide +kernel
theorem dX4_become_52 : decode cX4_become 52 = .ok (.aload_n 0, 1) := by decide +kernel
theorem dX4_become_53 : decode cX4_become 53 = .ok (.getfield 19, 3) := by decide +kernel
theorem dX4_become_56 : decode cX4_become 56 = .ok (.iconst 0, 1) := by decide +kernel
theorem dX4_become_57 : decode cX4_become 57 = .ok (.bipush 6, 2) := by decide +kernel
theorem dX4_become_59 : decode cX4_become 59 = .ok (.invokestatic 50, 3) := by decide +kernel
theorem dX4_become_62 : decode cX4_become 62 = .ok (.aload_n 1, 1) := by decide +kernel
theorem dX4_become_63 : decode cX4_become 63 = .ok (.getfield 22, 3) := by decide +kernel
theorem dX4_become_66 : decode cX4_become 66 = .ok (.iconst 0, 1) := by decide +kernel
theorem dX4_become_67 : decode cX4_become 67 = .ok (.aload_n 0, 1) := by decide +kernel
theorem dX4_become_68 : decode cX4_become 68 = .ok (.getfield 22, 3) := by decide +kernel
theorem dX4_become_71 : decode cX4_become 71 = .ok (.iconst 0, 1) := by decide +kernel
theorem dX4_become_72 : decode cX4_become 72 = .ok (.bipush 6, 2) := by decide +kernel
theorem dX4_become_74 : decode cX4_become 74 = .ok (.invokestatic 50, 3) := by decide +kernel
theorem dX4_become_77 : decode cX4_become 77 = .ok (.aload_n 1, 1) := by decide +kernel
theorem dX4_become_78 : decode cX4_become 78 = .ok (.getfield 25, 3) := by decide +kernel
theorem dX4_become_81 : decode cX4_become 81 = .ok (.iconst 0, 1) := by decide +kernel
theorem dX4_become_82 : decode cX4_become 82 = .ok (.aload_n 0, 1) := by decide +kernel
theorem dX4_become_83 : decode cX4_become 83 = .ok (.getfield 25, 3) := by decide +kernel
theorem dX4_become_86 : decode cX4_become 86 = .ok (.iconst 0, 1) := by decide +kernel
theorem dX4_become_87 : decode cX4_become 87 = .ok (.bipush 6, 2) := by decide +kernel
theorem dX4_become_89 : decode cX4_become 89 = .ok (.invokestatic 50, 3) := by decide +kernel
theorem dX4_become_92 : decode cX4_become 92 = .ok (.aload_n 1, 1) := by decide +kernel
theorem dX4_become_93 : decode cX4_become 93 = .ok (.getfield 28, 3) := by decide +kernel
theorem dX4_become_96 : decode cX4_become 96 = .ok (.iconst 0, 1) := by decide +kernel
theorem dX4_become_97 : decode cX4_become 97 = .ok (.aload_n 0, 1) := by decide +kernel
theorem dX4_become_98 : decode cX4_become 98 = .ok (.getfield 28, 3) := by decide +kernel
theorem dX4_become_101 : decode cX4_become 101 = .ok (.iconst 0, 1) := by decide +kernel
theorem dX4_become_102 : decode cX4_become 102 = .ok (.iconst 5, 1) := by decide +kernel
theorem dX4_become_103 : decode cX4_become 103 = .ok (.invokestatic 50, 3) := by decide +kernel
theorem dX4_become_106 : decode cX4_become 106 = .ok (.aload_n 1, 1) := by decide +kernel
theorem dX4_become_107 : decode cX4_become 107 = .ok (.getfield 31, 3) := by decide +kernel
theorem dX4_become_110 : decode cX4_become 110 = .ok (.iconst 0, 1) := by decide +kernel
theorem dX4_become_111 : decode cX4_become 111 = .ok (.aload_n 0, 1) := by decide +kernel
theorem dX4_become_112 : decode cX4_become 112 = .ok (.getfield 31, 3) := by decide +kernel
theorem dX4_become_115 : decode cX4_become 115 = .ok (.iconst 0, 1) := by decide +kernel
theorem dX4_become_116 : decode cX4_become 116 = .ok (.iconst 5, 1) := by decide +kernel
theorem dX4_become_117 : decode cX4_become 117 = .ok (.invokestatic 50, 3) := by decide +kernel
theorem dX4_become_120 : decode cX4_become 120 = .ok (.return_, 1) := by decide +kernel
theorem dX4_hasFigure_0 : decode cX4_hasFigure 0 = .ok (.iload_n 1, 1) := by decide +kernel
theorem dX4_hasFigure_1 : decode cX4_hasFigure 1 = .ok (.ifCond .lt 15, 3) := by decide +kernel
theorem dX4_hasFigure_4 : decode cX4_hasFigure 4 = .ok (.iload_n 1, 1) := by decide +kernel
theorem dX4_hasFigure_5 : decode cX4_hasFigure 5 = .ok (.aload_n 0, 1) := by decide +kernel
theorem dX4_hasFigure_6 : decode cX4_hasFigure 6 = .ok (.getfield 44, 3) := by decide +kernel
theorem dX4_hasFigure_9 : decode cX4_hasFigure 9 = .ok (.if_icmp .ge 7, 3) := by decide +kernel
theorem dX4_hasFigure_12 : decode cX4_hasFigure 12 = .ok (.iconst 1, 1) := by decide +kernel
theorem dX4_hasFigure_13 : decode cX4_hasFigure 13 = .ok (.goto 4, 3) := by decide +kernel
theorem dX4_hasFigure_16 : decode cX4_hasFigure 16 = .ok (.iconst 0, 1) := by decide +kernel
theorem dX4_hasFigure_17 : decode cX4_hasFigure 17 = .ok (.ireturn, 1) := by decide +kernel
theorem dX4_hasClient_0 : decode cX4_hasClient 0 = .ok (.iload_n 1, 1) := by decide +kernel
theorem dX4_hasClient_1 : decode cX4_hasClient 1 = .ok (.ifCond .lt 15, 3) := by decide +kernel
theorem dX4_hasClient_4 : decode cX4_hasClient 4 = .ok (.iload_n 1, 1) := by decide +kernel
theorem dX4_hasClient_5 : decode cX4_hasClient 5 = .ok (.aload_n 0, 1) := by decide +kernel
theorem dX4_hasClient_6 : decode cX4_hasClient 6 = .ok (.getfield 47, 3) := by decide +kernel
theorem dX4_hasClient_9 : decode cX4_hasClient 9 = .ok (.if_icmp .ge 7, 3) := by decide +kernel
theorem dX4_hasClient_12 : decode cX4_hasClient 12 = .ok (.iconst 1, 1) := by decide +kernel
theorem dX4_hasClient_13 : decode cX4_hasClient 13 = .ok (.goto 4, 3) := by decide +kernel
theorem dX4_hasClient_16 : decode cX4_hasClient 16 = .ok (.iconst 0, 1) := by decide +kernel
theorem dX4_hasClient_17 : decode cX4_hasClient 17 = .ok (.ireturn, 1) := by decide +kernel
theorem dX4_has_0 : decode cX4_has 0 = .ok (.iload_n 1, 1) := by decide +kernel
theorem dX4_has_1 : decode cX4_has 1 = .ok (.tableswitch 57 0 6 #[43, 45, 45, 45, 51, 51, 45], 43) := by decide +kernel
theorem dX4_has_44 : decode cX4_has 44 = .ok (.iconst 1, 1) := by decide +kernel
theorem dX4_has_45 : decode cX4_has 45 = .ok (.ireturn, 1) := by decide +kernel
theorem dX4_has_46 : decode cX4_has 46 = .ok (.aload_n 0, 1) := by decide +kernel
theorem dX4_has_47 : decode cX4_has 47 = .ok (.iload_n 2, 1) := by decide +kernel
theorem dX4_has_48 : decode cX4_has 48 = .ok (.invokevirtual 56, 3) := by decide +kernel
theorem dX4_has_51 : decode cX4_has 51 = .ok (.ireturn, 1) := by decide +kernel
theorem dX4_has_52 : decode cX4_has 52 = .ok (.aload_n 0, 1) := by decide +kernel
theorem dX4_has_53 : decode cX4_has 53 = .ok (.iload_n 2, 1) := by decide +kernel
theorem dX4_has_54 : decode cX4_has 54 = .ok (.invokevirtual 60, 3) := by decide +kernel
theorem dX4_has_57 : decode cX4_has 57 = .ok (.ireturn, 1) := by decide +kernel
theorem dX4_has_58 : decode cX4_has 58 = .ok (.iconst 0, 1) := by decide +kernel
theorem dX4_has_59 : decode cX4_has 59 = .ok (.ireturn, 1) := by decide +kernel
theorem dX4_property_0 : decode cX4_property 0 = .ok (.aload_n 0, 1) := by decide +kernel
theorem dX4_property_1 : decode cX4_property 1 = .ok (.iload_n 1, 1) := by decide +kernel
theorem dX4_property_2 : decode cX4_property 2 = .ok (.iload_n 2, 1) := by decide +kernel
theorem dX4_property_3 : decode cX4_property 3 = .ok (.invokevirtual 63, 3) := by decide +kernel
theorem dX4_property_6 : decode cX4_property 6 = .ok (.ifCond .ne 6, 3) := by decide +kernel
theorem dX4_property_9 : decode cX4_property 9 = .ok (.bipush (-2), 2) := by decide +kernel
theorem dX4_property_11 : decode cX4_property 11 = .ok (.ireturn, 1) := by decide +kernel
theorem dX4_property_12 : decode cX4_property 12 = .ok (.iload_n 1, 1) := by decide +kernel
theorem dX4_property_13 : decode cX4_property 13 = .ok (.tableswitch 79 0 5 #[39, 44, 51, 58, 65, 72], 39) := by decide +kernel
theorem dX4_property_52 : decode cX4_property 52 = .ok (.aload_n 0, 1) := by decide +kernel
theorem dX4_property_53 : decode cX4_property 53 = .ok (.getfield 9, 3) := by decide +kernel
theorem dX4_property_56 : decode cX4_property 56 = .ok (.ireturn, 1) := by decide +kernel
theorem dX4_property_57 : decode cX4_property 57 = .ok (.aload_n 0, 1) := by decide +kernel
theorem dX4_property_58 : decode cX4_property 58 = .ok (.getfield 19, 3) := by decide +kernel
theorem dX4_property_61 : decode cX4_property 61 = .ok (.iload_n 2, 1) := by decide +kernel
theorem dX4_property_62 : decode cX4_property 62 = .ok (.iaload, 1) := by decide +kernel
theorem dX4_property_63 : decode cX4_property 63 = .ok (.ireturn, 1) := by decide +kernel
theorem dX4_property_64 : decode cX4_property 64 = .ok (.aload_n 0, 1) := by decide +kernel
theorem dX4_property_65 : decode cX4_property 65 = .ok (.getfield 22, 3) := by decide +kernel
theorem dX4_property_68 : decode cX4_property 68 = .ok (.iload_n 2, 1) := by decide +kernel
theorem dX4_property_69 : decode cX4_property 69 = .ok (.iaload, 1) := by decide +kernel
theorem dX4_property_70 : decode cX4_property 70 = .ok (.ireturn, 1) := by decide +kernel
theorem dX4_property_71 : decode cX4_property 71 = .ok (.aload_n 0, 1) := by decide +kernel
theorem dX4_property_72 : decode cX4_property 72 = .ok (.getfield 25, 3) := by decide +kernel
theorem dX4_property_75 : decode cX4_property 75 = .ok (.iload_n 2, 1) := by decide +kernel
theorem dX4_property_76 : decode cX4_property 76 = .ok (.iaload, 1) := by decide +kernel
theorem dX4_property_77 : decode cX4_property 77 = .ok (.ireturn, 1) := by decide +kernel
theorem dX4_property_78 : decode cX4_property 78 = .ok (.aload_n 0, 1) := by decide +kernel
theorem dX4_property_79 : decode cX4_property 79 = .ok (.getfield 28, 3) := by decide +kernel
theorem dX4_property_82 : decode cX4_property 82 = .ok (.iload_n 2, 1) := by decide +kernel
theorem dX4_property_83 : decode cX4_property 83 = .ok (.iaload, 1) := by decide +kernel
theorem dX4_property_84 : decode cX4_property 84 = .ok (.ireturn, 1) := by decide +kernel
theorem dX4_property_85 : decode cX4_property 85 = .ok (.aload_n 0, 1) := by decide +kernel
theorem dX4_property_86 : decode cX4_property 86 = .ok (.getfield 31, 3) := by decide +kernel
theorem dX4_property_89 : decode cX4_property 89 = .ok (.iload_n 2, 1) := by decide +kernel
theorem dX4_property_90 : decode cX4_property 90 = .ok (.iaload, 1) := by decide +kernel
theorem dX4_property_91 : decode cX4_property 91 = .ok (.ireturn, 1) := by decide +kernel
theorem dX4_property_92 : decode cX4_property 92 = .ok (.aload_n 0, 1) := by decide +kernel
theorem dX4_property_93 : decode cX4_property 93 = .ok (.getfield 15, 3) := by decide +kernel
theorem dX4_property_96 : decode cX4_property 96 = .ok (.iload_n 2, 1) := by decide +kernel
theorem dX4_property_97 : decode cX4_property 97 = .ok (.iaload, 1) := by decide +kernel
theorem dX4_property_98 : decode cX4_property 98 = .ok (.ireturn, 1) := by decide +kernel
theorem dX4_alter_0 : decode cX4_alter 0 = .ok (.aload_n 0, 1) := by decide +kernel
theorem dX4_alter_1 : decode cX4_alter 1 = .ok (.iload_n 1, 1) := by decide +kernel
theorem dX4_alter_2 : decode cX4_alter 2 = .ok (.iload_n 2, 1) := by decide +kernel
theorem dX4_alter_3 : decode cX4_alter 3 = .ok (.invokevirtual 63, 3) := by decide +kernel
theorem dX4_alter_6 : decode cX4_alter 6 = .ok (.ifCond .ne 4, 3) := by decide +kernel
theorem dX4_alter_9 : decode cX4_alter 9 = .ok (.return_, 1) := by decide +kernel
theorem dX4_alter_10 : decode cX4_alter 10 = .ok (.iload_n 1, 1) := by decide +kernel
theorem dX4_alter_11 : decode cX4_alter 11 = .ok (.tableswitch 95 0 5 #[37, 45, 55, 65, 75, 85], 37) := by decide +kernel
theorem dX4_alter_48 : decode cX4_alter 48 = .ok (.aload_n 0, 1) := by decide +kernel
theorem dX4_alter_49 : decode cX4_alter 49 = .ok (.iload_n 3, 1) := by decide +kernel
theorem dX4_alter_50 : decode cX4_alter 50 = .ok (.putfield 9, 3) := by decide +kernel
theorem dX4_alter_53 : decode cX4_alter 53 = .ok (.goto 53, 3) := by decide +kernel
theorem dX4_alter_56 : decode cX4_alter 56 = .ok (.aload_n 0, 1) := by decide +kernel
theorem dX4_alter_57 : decode cX4_alter 57 = .ok (.getfield 19, 3) := by decide +kernel
theorem dX4_alter_60 : decode cX4_alter 60 = .ok (.iload_n 2, 1) := by decide +kernel
theorem dX4_alter_61 : decode cX4_alter 61 = .ok (.iload_n 3, 1) := by decide +kernel
theorem dX4_alter_62 : decode cX4_alter 62 = .ok (.iastore, 1) := by decide +kernel
theorem dX4_alter_63 : decode cX4_alter 63 = .ok (.goto 43, 3) := by decide +kernel
theorem dX4_alter_66 : decode cX4_alter 66 = .ok (.aload_n 0, 1) := by decide +kernel
theorem dX4_alter_67 : decode cX4_alter 67 = .ok (.getfield 22, 3) := by decide +kernel
theorem dX4_alter_70 : decode cX4_alter 70 = .ok (.iload_n 2, 1) := by decide +kernel
theorem dX4_alter_71 : decode cX4_alter 71 = .ok (.iload_n 3, 1) := by decide +kernel
theorem dX4_alter_72 : decode cX4_alter 72 = .ok (.iastore, 1) := by decide +kernel
theorem dX4_alter_73 : decode cX4_alter 73 = .ok (.goto 33, 3) := by decide +kernel
theorem dX4_alter_76 : decode cX4_alter 76 = .ok (.aload_n 0, 1) := by decide +kernel
theorem dX4_alter_77 : decode cX4_alter 77 = .ok (.getfield 25, 3) := by decide +kernel
theorem dX4_alter_80 : decode cX4_alter 80 = .ok (.iload_n 2, 1) := by decide +kernel
theorem dX4_alter_81 : decode cX4_alter 81 = .ok (.iload_n 3, 1) := by decide +kernel
theorem dX4_alter_82 : decode cX4_alter 82 = .ok (.iastore, 1) := by decide +kernel
theorem dX4_alter_83 : decode cX4_alter 83 = .ok (.goto 23, 3) := by decide +kernel
theorem dX4_alter_86 : decode cX4_alter 86 = .ok (.aload_n 0, 1) := by decide +kernel
theorem dX4_alter_87 : decode cX4_alter 87 = .ok (.getfield 28, 3) := by decide +kernel
theorem dX4_alter_90 : decode cX4_alter 90 = .ok (.iload_n 2, 1) := by decide +kernel
theorem dX4_alter_91 : decode cX4_alter 91 = .ok (.iload_n 3, 1) := by decide +kernel
theorem dX4_alter_92 : decode cX4_alter 92 = .ok (.iastore, 1) := by decide +kernel
theorem dX4_alter_93 : decode cX4_alter 93 = .ok (.goto 13, 3) := by decide +kernel
theorem dX4_alter_96 : decode cX4_alter 96 = .ok (.aload_n 0, 1) := by decide +kernel
theorem dX4_alter_97 : decode cX4_alter 97 = .ok (.getfield 31, 3) := by decide +kernel
theorem dX4_alter_100 : decode cX4_alter 100 = .ok (.iload_n 2, 1) := by decide +kernel
theorem dX4_alter_101 : decode cX4_alter 101 = .ok (.iload_n 3, 1) := by decide +kernel
theorem dX4_alter_102 : decode cX4_alter 102 = .ok (.iastore, 1) := by decide +kernel
theorem dX4_alter_103 : decode cX4_alter 103 = .ok (.goto 3, 3) := by decide +kernel
theorem dX4_alter_106 : decode cX4_alter 106 = .ok (.return_, 1) := by decide +kernel
theorem dX4_addFigure_0 : decode cX4_addFigure 0 = .ok (.iload_n 1, 1) := by decide +kernel
theorem dX4_addFigure_1 : decode cX4_addFigure 1 = .ok (.ifCond .lt 30, 3) := by decide +kernel
theorem dX4_addFigure_4 : decode cX4_addFigure 4 = .ok (.iload_n 1, 1) := by decide +kernel
theorem dX4_addFigure_5 : decode cX4_addFigure 5 = .ok (.bipush 6, 2) := by decide +kernel
theorem dX4_addFigure_7 : decode cX4_addFigure 7 = .ok (.if_icmp .ge 24, 3) := by decide +kernel
theorem dX4_addFigure_10 : decode cX4_addFigure 10 = .ok (.iload_n 2, 1) := by decide +kernel
theorem dX4_addFigure_11 : decode cX4_addFigure 11 = .ok (.ifCond .lt 20, 3) := by decide +kernel
theorem dX4_addFigure_14 : decode cX4_addFigure 14 = .ok (.iload_n 2, 1) := by decide +kernel
theorem dX4_addFigure_15 : decode cX4_addFigure 15 = .ok (.bipush 10, 2) := by decide +kernel
theorem dX4_addFigure_17 : decode cX4_addFigure 17 = .ok (.if_icmp .ge 14, 3) := by decide +kernel
theorem dX4_addFigure_20 : decode cX4_addFigure 20 = .ok (.iload_n 3, 1) := by decide +kernel
theorem dX4_addFigure_21 : decode cX4_addFigure 21 = .ok (.ifCond .lt 10, 3) := by decide +kernel
theorem dX4_addFigure_24 : decode cX4_addFigure 24 = .ok (.iload_n 3, 1) := by decide +kernel
theorem dX4_addFigure_25 : decode cX4_addFigure 25 = .ok (.sipush 1000, 3) := by decide +kernel
theorem dX4_addFigure_28 : decode cX4_addFigure 28 = .ok (.if_icmp .lt 6, 3) := by decide +kernel
theorem dX4_addFigure_31 : decode cX4_addFigure 31 = .ok (.bipush (-2), 2) := by decide +kernel
theorem dX4_addFigure_33 : decode cX4_addFigure 33 = .ok (.ireturn, 1) := by decide +kernel
theorem dX4_addFigure_34 : decode cX4_addFigure 34 = .ok (.aload_n 0, 1) := by decide +kernel
theorem dX4_addFigure_35 : decode cX4_addFigure 35 = .ok (.getfield 44, 3) := by decide +kernel
theorem dX4_addFigure_38 : decode cX4_addFigure 38 = .ok (.bipush 6, 2) := by decide +kernel
theorem dX4_addFigure_40 : decode cX4_addFigure 40 = .ok (.if_icmp .lt 6, 3) := by decide +kernel
theorem dX4_addFigure_43 : decode cX4_addFigure 43 = .ok (.bipush (-4), 2) := by decide +kernel
theorem dX4_addFigure_45 : decode cX4_addFigure 45 = .ok (.ireturn, 1) := by decide +kernel
theorem dX4_addFigure_46 : decode cX4_addFigure 46 = .ok (.aload_n 0, 1) := by decide +kernel
theorem dX4_addFigure_47 : decode cX4_addFigure 47 = .ok (.getfield 44, 3) := by decide +kernel
theorem dX4_addFigure_50 : decode cX4_addFigure 50 = .ok (.istore 4, 2) := by decide +kernel
theorem dX4_addFigure_52 : decode cX4_addFigure 52 = .ok (.aload_n 0, 1) := by decide +kernel
theorem dX4_addFigure_53 : decode cX4_addFigure 53 = .ok (.getfield 15, 3) := by decide +kernel
theorem dX4_addFigure_56 : decode cX4_addFigure 56 = .ok (.iload 4, 2) := by decide +kernel
theorem dX4_addFigure_58 : decode cX4_addFigure 58 = .ok (.iload_n 1, 1) := by decide +kernel
theorem dX4_addFigure_59 : decode cX4_addFigure 59 = .ok (.iastore, 1) := by decide +kernel
theorem dX4_addFigure_60 : decode cX4_addFigure 60 = .ok (.aload_n 0, 1) := by decide +kernel
theorem dX4_addFigure_61 : decode cX4_addFigure 61 = .ok (.getfield 19, 3) := by decide +kernel
theorem dX4_addFigure_64 : decode cX4_addFigure 64 = .ok (.iload 4, 2) := by decide +kernel
theorem dX4_addFigure_66 : decode cX4_addFigure 66 = .ok (.iload_n 2, 1) := by decide +kernel
theorem dX4_addFigure_67 : decode cX4_addFigure 67 = .ok (.iastore, 1) := by decide +kernel
theorem dX4_addFigure_68 : decode cX4_addFigure 68 = .ok (.aload_n 0, 1) := by decide +kernel
theorem dX4_addFigure_69 : decode cX4_addFigure 69 = .ok (.getfield 22, 3) := by decide +kernel
theorem dX4_addFigure_72 : decode cX4_addFigure 72 = .ok (.iload 4, 2) := by decide +kernel
theorem dX4_addFigure_74 : decode cX4_addFigure 74 = .ok (.iload_n 3, 1) := by decide +kernel
theorem dX4_addFigure_75 : decode cX4_addFigure 75 = .ok (.iastore, 1) := by decide +kernel
theorem dX4_addFigure_76 : decode cX4_addFigure 76 = .ok (.aload_n 0, 1) := by decide +kernel
theorem dX4_addFigure_77 : decode cX4_addFigure 77 = .ok (.getfield 25, 3) := by decide +kernel
theorem dX4_addFigure_80 : decode cX4_addFigure 80 = .ok (.iload 4, 2) := by decide +kernel
theorem dX4_addFigure_82 : decode cX4_addFigure 82 = .ok (.sipush 4095, 3) := by decide +kernel
theorem dX4_addFigure_85 : decode cX4_addFigure 85 = .ok (.iastore, 1) := by decide +kernel
theorem dX4_addFigure_86 : decode cX4_addFigure 86 = .ok (.aload_n 0, 1) := by decide +kernel
theorem dX4_addFigure_87 : decode cX4_addFigure 87 = .ok (.dup, 1) := by decide +kernel
theorem dX4_addFigure_88 : decode cX4_addFigure 88 = .ok (.getfield 44, 3) := by decide +kernel
theorem dX4_addFigure_91 : decode cX4_addFigure 91 = .ok (.iconst 1, 1) := by decide +kernel
theorem dX4_addFigure_92 : decode cX4_addFigure 92 = .ok (.iadd, 1) := by decide +kernel
theorem dX4_addFigure_93 : decode cX4_addFigure 93 = .ok (.putfield 44, 3) := by decide +kernel
theorem dX4_addFigure_96 : decode cX4_addFigure 96 = .ok (.iload 4, 2) := by decide +kernel
theorem dX4_addFigure_98 : decode cX4_addFigure 98 = .ok (.ireturn, 1) := by decide +kernel
theorem dX4_addClient_0 : decode cX4_addClient 0 = .ok (.aload_n 0, 1) := by decide +kernel
theorem dX4_addClient_1 : decode cX4_addClient 1 = .ok (.getfield 47, 3) := by decide +kernel
theorem dX4_addClient_4 : decode cX4_addClient 4 = .ok (.iconst 5, 1) := by decide +kernel
theorem dX4_addClient_5 : decode cX4_addClient 5 = .ok (.if_icmp .lt 6, 3) := by decide +kernel
theorem dX4_addClient_8 : decode cX4_addClient 8 = .ok (.bipush (-4), 2) := by decide +kernel
theorem dX4_addClient_10 : decode cX4_addClient 10 = .ok (.ireturn, 1) := by decide +kernel
theorem dX4_addClient_11 : decode cX4_addClient 11 = .ok (.aload_n 0, 1) := by decide +kernel
theorem dX4_addClient_12 : decode cX4_addClient 12 = .ok (.getfield 47, 3) := by decide +kernel
theorem dX4_addClient_15 : decode cX4_addClient 15 = .ok (.istore_n 3, 1) := by decide +kernel
theorem dX4_addClient_16 : decode cX4_addClient 16 = .ok (.aload_n 0, 1) := by decide +kernel
theorem dX4_addClient_17 : decode cX4_addClient 17 = .ok (.getfield 28, 3) := by decide +kernel
theorem dX4_addClient_20 : decode cX4_addClient 20 = .ok (.iload_n 3, 1) := by decide +kernel
theorem dX4_addClient_21 : decode cX4_addClient 21 = .ok (.iload_n 1, 1) := by decide +kernel
theorem dX4_addClient_22 : decode cX4_addClient 22 = .ok (.iastore, 1) := by decide +kernel
theorem dX4_addClient_23 : decode cX4_addClient 23 = .ok (.aload_n 0, 1) := by decide +kernel
theorem dX4_addClient_24 : decode cX4_addClient 24 = .ok (.getfield 31, 3) := by decide +kernel
theorem dX4_addClient_27 : decode cX4_addClient 27 = .ok (.iload_n 3, 1) := by decide +kernel
theorem dX4_addClient_28 : decode cX4_addClient 28 = .ok (.iload_n 2, 1) := by decide +kernel
theorem dX4_addClient_29 : decode cX4_addClient 29 = .ok (.iastore, 1) := by decide +kernel
theorem dX4_addClient_30 : decode cX4_addClient 30 = .ok (.aload_n 0, 1) := by decide +kernel
theorem dX4_addClient_31 : decode cX4_addClient 31 = .ok (.dup, 1) := by decide +kernel
theorem dX4_addClient_32 : decode cX4_addClient 32 = .ok (.getfield 47, 3) := by decide +kernel
theorem dX4_addClient_35 : decode cX4_addClient 35 = .ok (.iconst 1, 1) := by decide +kernel
theorem dX4_addClient_36 : decode cX4_addClient 36 = .ok (.iadd, 1) := by decide +kernel
theorem dX4_addClient_37 : decode cX4_addClient 37 = .ok (.putfield 47, 3) := by decide +kernel
theorem dX4_addClient_40 : decode cX4_addClient 40 = .ok (.iload_n 3, 1) := by decide +kernel
theorem dX4_addClient_41 : decode cX4_addClient 41 = .ok (.ireturn, 1) := by decide +kernel
theorem dX4_meansOfAll_0 : decode cX4_meansOfAll 0 = .ok (.iconst 0, 1) := by decide +kernel
theorem dX4_meansOfAll_1 : decode cX4_meansOfAll 1 = .ok (.istore_n 1, 1) := by decide +kernel
theorem dX4_meansOfAll_2 : decode cX4_meansOfAll 2 = .ok (.iconst 0, 1) := by decide +kernel
theorem dX4_meansOfAll_3 : decode cX4_meansOfAll 3 = .ok (.istore_n 2, 1) := by decide +kernel
theorem dX4_meansOfAll_4 : decode cX4_meansOfAll 4 = .ok (.iload_n 2, 1) := by decide +kernel
theorem dX4_meansOfAll_5 : decode cX4_meansOfAll 5 = .ok (.aload_n 0, 1) := by decide +kernel
theorem dX4_meansOfAll_6 : decode cX4_meansOfAll 6 = .ok (.getfield 44, 3) := by decide +kernel
theorem dX4_meansOfAll_9 : decode cX4_meansOfAll 9 = .ok (.if_icmp .ge 18, 3) := by decide +kernel
theorem dX4_meansOfAll_12 : decode cX4_meansOfAll 12 = .ok (.iload_n 1, 1) := by decide +kernel
theorem dX4_meansOfAll_13 : decode cX4_meansOfAll 13 = .ok (.aload_n 0, 1) := by decide +kernel
theorem dX4_meansOfAll_14 : decode cX4_meansOfAll 14 = .ok (.getfield 22, 3) := by decide +kernel
theorem dX4_meansOfAll_17 : decode cX4_meansOfAll 17 = .ok (.iload_n 2, 1) := by decide +kernel
theorem dX4_meansOfAll_18 : decode cX4_meansOfAll 18 = .ok (.iaload, 1) := by decide +kernel
theorem dX4_meansOfAll_19 : decode cX4_meansOfAll 19 = .ok (.iadd, 1) := by decide +kernel
theorem dX4_meansOfAll_20 : decode cX4_meansOfAll 20 = .ok (.istore_n 1, 1) := by decide +kernel
theorem dX4_meansOfAll_21 : decode cX4_meansOfAll 21 = .ok (.iinc 2 1, 3) := by decide +kernel
theorem dX4_meansOfAll_24 : decode cX4_meansOfAll 24 = .ok (.goto (-20), 3) := by decide +kernel
theorem dX4_meansOfAll_27 : decode cX4_meansOfAll 27 = .ok (.iload_n 1, 1) := by decide +kernel
theorem dX4_meansOfAll_28 : decode cX4_meansOfAll 28 = .ok (.ireturn, 1) := by decide +kernel
theorem dX4_isWished_0 : decode cX4_isWished 0 = .ok (.aload_n 0, 1) := by decide +kernel
theorem dX4_isWished_1 : decode cX4_isWished 1 = .ok (.getfield 31, 3) := by decide +kernel
theorem dX4_isWished_4 : decode cX4_isWished 4 = .ok (.iload_n 1, 1) := by decide +kernel
theorem dX4_isWished_5 : decode cX4_isWished 5 = .ok (.iaload, 1) := by decide +kernel
theorem dX4_isWished_6 : decode cX4_isWished 6 = .ok (.iload_n 2, 1) := by decide +kernel
theorem dX4_isWished_7 : decode cX4_isWished 7 = .ok (.ishr, 1) := by decide +kernel
theorem dX4_isWished_8 : decode cX4_isWished 8 = .ok (.iconst 1, 1) := by decide +kernel
theorem dX4_isWished_9 : decode cX4_isWished 9 = .ok (.iand, 1) := by decide +kernel
theorem dX4_isWished_10 : decode cX4_isWished 10 = .ok (.iconst 1, 1) := by decide +kernel
theorem dX4_isWished_11 : decode cX4_isWished 11 = .ok (.if_icmp .ne 7, 3) := by decide +kernel
theorem dX4_isWished_14 : decode cX4_isWished 14 = .ok (.iconst 1, 1) := by decide +kernel
theorem dX4_isWished_15 : decode cX4_isWished 15 = .ok (.goto 4, 3) := by decide +kernel
theorem dX4_isWished_18 : decode cX4_isWished 18 = .ok (.iconst 0, 1) := by decide +kernel
theorem dX4_isWished_19 : decode cX4_isWished 19 = .ok (.ireturn, 1) := by decide +kernel
theorem dX4_asked_0 : decode cX4_asked 0 = .ok (.iconst 0, 1) := by decide +kernel
theorem dX4_asked_1 : decode cX4_asked 1 = .ok (.istore_n 2, 1) := by decide +kernel
theorem dX4_asked_2 : decode cX4_asked 2 = .ok (.iconst 0, 1) := by decide +kernel
theorem dX4_asked_3 : decode cX4_asked 3 = .ok (.istore_n 3, 1) := by decide +kernel
theorem dX4_asked_4 : decode cX4_asked 4 = .ok (.iload_n 3, 1) := by decide +kernel
theorem dX4_asked_5 : decode cX4_asked 5 = .ok (.aload_n 0, 1) := by decide +kernel
theorem dX4_asked_6 : decode cX4_asked 6 = .ok (.getfield 47, 3) := by decide +kernel
theorem dX4_asked_9 : decode cX4_asked 9 = .ok (.if_icmp .ge 22, 3) := by decide +kernel
theorem dX4_asked_12 : decode cX4_asked 12 = .ok (.iload_n 2, 1) := by decide +kernel
theorem dX4_asked_13 : decode cX4_asked 13 = .ok (.aload_n 0, 1) := by decide +kernel
theorem dX4_asked_14 : decode cX4_asked 14 = .ok (.getfield 31, 3) := by decide +kernel
theorem dX4_asked_17 : decode cX4_asked 17 = .ok (.iload_n 3, 1) := by decide +kernel
theorem dX4_asked_18 : decode cX4_asked 18 = .ok (.iaload, 1) := by decide +kernel
theorem dX4_asked_19 : decode cX4_asked 19 = .ok (.iload_n 1, 1) := by decide +kernel
theorem dX4_asked_20 : decode cX4_asked 20 = .ok (.ishr, 1) := by decide +kernel
theorem dX4_asked_21 : decode cX4_asked 21 = .ok (.iconst 1, 1) := by decide +kernel
theorem dX4_asked_22 : decode cX4_asked 22 = .ok (.iand, 1) := by decide +kernel
theorem dX4_asked_23 : decode cX4_asked 23 = .ok (.iadd, 1) := by decide +kernel
theorem dX4_asked_24 : decode cX4_asked 24 = .ok (.istore_n 2, 1) := by decide +kernel
theorem dX4_asked_25 : decode cX4_asked 25 = .ok (.iinc 3 1, 3) := by decide +kernel
theorem dX4_asked_28 : decode cX4_asked 28 = .ok (.goto (-24), 3) := by decide +kernel
theorem dX4_asked_31 : decode cX4_asked 31 = .ok (.iload_n 2, 1) := by decide +kernel
theorem dX4_asked_32 : decode cX4_asked 32 = .ok (.ireturn, 1) := by decide +kernel
theorem dX4_comers_0 : decode cX4_comers 0 = .ok (.iconst 0, 1) := by decide +kernel
theorem dX4_comers_1 : decode cX4_comers 1 = .ok (.istore_n 2, 1) := by decide +kernel
theorem dX4_comers_2 : decode cX4_comers 2 = .ok (.iconst 0, 1) := by decide +kernel
theorem dX4_comers_3 : decode cX4_comers 3 = .ok (.istore_n 3, 1) := by decide +kernel
theorem dX4_comers_4 : decode cX4_comers 4 = .ok (.iload_n 3, 1) := by decide +kernel
theorem dX4_comers_5 : decode cX4_comers 5 = .ok (.aload_n 0, 1) := by decide +kernel
theorem dX4_comers_6 : decode cX4_comers 6 = .ok (.getfield 47, 3) := by decide +kernel
theorem dX4_comers_9 : decode cX4_comers 9 = .ok (.if_icmp .ge 27, 3) := by decide +kernel
theorem dX4_comers_12 : decode cX4_comers 12 = .ok (.iload_n 2, 1) := by decide +kernel
theorem dX4_comers_13 : decode cX4_comers 13 = .ok (.aload_n 0, 1) := by decide +kernel
theorem dX4_comers_14 : decode cX4_comers 14 = .ok (.getfield 28, 3) := by decide +kernel
theorem dX4_comers_17 : decode cX4_comers 17 = .ok (.iload_n 3, 1) := by decide +kernel
theorem dX4_comers_18 : decode cX4_comers 18 = .ok (.iaload, 1) := by decide +kernel
theorem dX4_comers_19 : decode cX4_comers 19 = .ok (.iload_n 1, 1) := by decide +kernel
theorem dX4_comers_20 : decode cX4_comers 20 = .ok (.if_icmp .ne 7, 3) := by decide +kernel
theorem dX4_comers_23 : decode cX4_comers 23 = .ok (.iconst 1, 1) := by decide +kernel
theorem dX4_comers_24 : decode cX4_comers 24 = .ok (.goto 4, 3) := by decide +kernel
theorem dX4_comers_27 : decode cX4_comers 27 = .ok (.iconst 0, 1) := by decide +kernel
theorem dX4_comers_28 : decode cX4_comers 28 = .ok (.iadd, 1) := by decide +kernel
theorem dX4_comers_29 : decode cX4_comers 29 = .ok (.istore_n 2, 1) := by decide +kernel
theorem dX4_comers_30 : decode cX4_comers 30 = .ok (.iinc 3 1, 3) := by decide +kernel
theorem dX4_comers_33 : decode cX4_comers 33 = .ok (.goto (-29), 3) := by decide +kernel
theorem dX4_comers_36 : decode cX4_comers 36 = .ok (.iload_n 2, 1) := by decide +kernel
theorem dX4_comers_37 : decode cX4_comers 37 = .ok (.ireturn, 1) := by decide +kernel
theorem dX4_appears_0 : decode cX4_appears 0 = .ok (.aload_n 0, 1) := by decide +kernel
theorem dX4_appears_1 : decode cX4_appears 1 = .ok (.getfield 25, 3) := by decide +kernel
theorem dX4_appears_4 : decode cX4_appears 4 = .ok (.iload_n 1, 1) := by decide +kernel
theorem dX4_appears_5 : decode cX4_appears 5 = .ok (.iaload, 1) := by decide +kernel
theorem dX4_appears_6 : decode cX4_appears 6 = .ok (.iload_n 2, 1) := by decide +kernel
theorem dX4_appears_7 : decode cX4_appears 7 = .ok (.ishr, 1) := by decide +kernel
theorem dX4_appears_8 : decode cX4_appears 8 = .ok (.iconst 1, 1) := by decide +kernel
theorem dX4_appears_9 : decode cX4_appears 9 = .ok (.iand, 1) := by decide +kernel
theorem dX4_appears_10 : decode cX4_appears 10 = .ok (.ifCond .ne 5, 3) := by decide +kernel
theorem dX4_appears_13 : decode cX4_appears 13 = .ok (.iconst 0, 1) := by decide +kernel
theorem dX4_appears_14 : decode cX4_appears 14 = .ok (.ireturn, 1) := by decide +kernel
theorem dX4_appears_15 : decode cX4_appears 15 = .ok (.iload_n 2, 1) := by decide +kernel
theorem dX4_appears_16 : decode cX4_appears 16 = .ok (.iconst 2, 1) := by decide +kernel
theorem dX4_appears_17 : decode cX4_appears 17 = .ok (.if_icmp .lt 12, 3) := by decide +kernel
theorem dX4_appears_20 : decode cX4_appears 20 = .ok (.iload_n 2, 1) := by decide +kernel
theorem dX4_appears_21 : decode cX4_appears 21 = .ok (.iconst 5, 1) := by decide +kernel
theorem dX4_appears_22 : decode cX4_appears 22 = .ok (.if_icmp .gt 7, 3) := by decide +kernel
theorem dX4_appears_25 : decode cX4_appears 25 = .ok (.iconst 1, 1) := by decide +kernel
theorem dX4_appears_26 : decode cX4_appears 26 = .ok (.goto 4, 3) := by decide +kernel
theorem dX4_appears_29 : decode cX4_appears 29 = .ok (.iconst 0, 1) := by decide +kernel
theorem dX4_appears_30 : decode cX4_appears 30 = .ok (.istore_n 3, 1) := by decide +kernel
theorem dX4_appears_31 : decode cX4_appears 31 = .ok (.aload_n 0, 1) := by decide +kernel
theorem dX4_appears_32 : decode cX4_appears 32 = .ok (.getfield 15, 3) := by decide +kernel
theorem dX4_appears_35 : decode cX4_appears 35 = .ok (.iload_n 1, 1) := by decide +kernel
theorem dX4_appears_36 : decode cX4_appears 36 = .ok (.iaload, 1) := by decide +kernel
theorem dX4_appears_37 : decode cX4_appears 37 = .ok (.tableswitch 89 1 5 #[35, 89, 37, 57, 77], 35) := by decide +kernel
theorem dX4_appears_72 : decode cX4_appears 72 = .ok (.iload_n 3, 1) := by decide +kernel
theorem dX4_appears_73 : decode cX4_appears 73 = .ok (.ireturn, 1) := by decide +kernel
theorem dX4_appears_74 : decode cX4_appears 74 = .ok (.iload_n 3, 1) := by decide +kernel
theorem dX4_appears_75 : decode cX4_appears 75 = .ok (.ifCond .ne 13, 3) := by decide +kernel
theorem dX4_appears_78 : decode cX4_appears 78 = .ok (.iload_n 2, 1) := by decide +kernel
theorem dX4_appears_79 : decode cX4_appears 79 = .ok (.aload_n 0, 1) := by decide +kernel
theorem dX4_appears_80 : decode cX4_appears 80 = .ok (.getfield 19, 3) := by decide +kernel
theorem dX4_appears_83 : decode cX4_appears 83 = .ok (.iload_n 1, 1) := by decide +kernel
theorem dX4_appears_84 : decode cX4_appears 84 = .ok (.iaload, 1) := by decide +kernel
theorem dX4_appears_85 : decode cX4_appears 85 = .ok (.if_icmp .ne 7, 3) := by decide +kernel
theorem dX4_appears_88 : decode cX4_appears 88 = .ok (.iconst 1, 1) := by decide +kernel
theorem dX4_appears_89 : decode cX4_appears 89 = .ok (.goto 4, 3) := by decide +kernel
theorem dX4_appears_92 : decode cX4_appears 92 = .ok (.iconst 0, 1) := by decide +kernel
theorem dX4_appears_93 : decode cX4_appears 93 = .ok (.ireturn, 1) := by decide +kernel
theorem dX4_appears_94 : decode cX4_appears 94 = .ok (.iload_n 2, 1) := by decide +kernel
theorem dX4_appears_95 : decode cX4_appears 95 = .ok (.iconst 3, 1) := by decide +kernel
theorem dX4_appears_96 : decode cX4_appears 96 = .ok (.irem, 1) := by decide +kernel
theorem dX4_appears_97 : decode cX4_appears 97 = .ok (.aload_n 0, 1) := by decide +kernel
theorem dX4_appears_98 : decode cX4_appears 98 = .ok (.getfield 19, 3) := by decide +kernel
theorem dX4_appears_101 : decode cX4_appears 101 = .ok (.iload_n 1, 1) := by decide +kernel
theorem dX4_appears_102 : decode cX4_appears 102 = .ok (.iaload, 1) := by decide +kernel
theorem dX4_appears_103 : decode cX4_appears 103 = .ok (.iconst 3, 1) := by decide +kernel
theorem dX4_appears_104 : decode cX4_appears 104 = .ok (.irem, 1) := by decide +kernel
theorem dX4_appears_105 : decode cX4_appears 105 = .ok (.if_icmp .ne 7, 3) := by decide +kernel
theorem dX4_appears_108 : decode cX4_appears 108 = .ok (.iconst 1, 1) := by decide +kernel
theorem dX4_appears_109 : decode cX4_appears 109 = .ok (.goto 4, 3) := by decide +kernel
theorem dX4_appears_112 : decode cX4_appears 112 = .ok (.iconst 0, 1) := by decide +kernel
theorem dX4_appears_113 : decode cX4_appears 113 = .ok (.ireturn, 1) := by decide +kernel
theorem dX4_appears_114 : decode cX4_appears 114 = .ok (.iload_n 2, 1) := by decide +kernel
theorem dX4_appears_115 : decode cX4_appears 115 = .ok (.iconst 2, 1) := by decide +kernel
theorem dX4_appears_116 : decode cX4_appears 116 = .ok (.irem, 1) := by decide +kernel
theorem dX4_appears_117 : decode cX4_appears 117 = .ok (.ifCond .ne 7, 3) := by decide +kernel
theorem dX4_appears_120 : decode cX4_appears 120 = .ok (.iconst 1, 1) := by decide +kernel
theorem dX4_appears_121 : decode cX4_appears 121 = .ok (.goto 4, 3) := by decide +kernel
theorem dX4_appears_124 : decode cX4_appears 124 = .ok (.iconst 0, 1) := by decide +kernel
theorem dX4_appears_125 : decode cX4_appears 125 = .ok (.ireturn, 1) := by decide +kernel
theorem dX4_appears_126 : decode cX4_appears 126 = .ok (.iconst 1, 1) := by decide +kernel
theorem dX4_appears_127 : decode cX4_appears 127 = .ok (.ireturn, 1) := by decide +kernel
theorem dX4_costs_0 : decode cX4_costs 0 = .ok (.aload_n 0, 1) := by decide +kernel
theorem dX4_costs_1 : decode cX4_costs 1 = .ok (.getfield 15, 3) := by decide +kernel
theorem dX4_costs_4 : decode cX4_costs 4 = .ok (.iload_n 1, 1) := by decide +kernel
theorem dX4_costs_5 : decode cX4_costs 5 = .ok (.iaload, 1) := by decide +kernel
theorem dX4_costs_6 : decode cX4_costs 6 = .ok (.iconst 4, 1) := by decide +kernel
theorem dX4_costs_7 : decode cX4_costs 7 = .ok (.if_icmp .ne 5, 3) := by decide +kernel
theorem dX4_costs_10 : decode cX4_costs 10 = .ok (.iconst 0, 1) := by decide +kernel
theorem dX4_costs_11 : decode cX4_costs 11 = .ok (.ireturn, 1) := by decide +kernel
theorem dX4_costs_12 : decode cX4_costs 12 = .ok (.aload_n 0, 1) := by decide +kernel
theorem dX4_costs_13 : decode cX4_costs 13 = .ok (.iconst 0, 1) := by decide +kernel
theorem dX4_costs_14 : decode cX4_costs 14 = .ok (.iload_n 1, 1) := by decide +kernel
theorem dX4_costs_15 : decode cX4_costs 15 = .ok (.iload_n 2, 1) := by decide +kernel
theorem dX4_costs_16 : decode cX4_costs 16 = .ok (.iconst 0, 1) := by decide +kernel
theorem dX4_costs_17 : decode cX4_costs 17 = .ok (.invokevirtual 67, 3) := by decide +kernel
theorem dX4_costs_20 : decode cX4_costs 20 = .ok (.aload_n 0, 1) := by decide +kernel
theorem dX4_costs_21 : decode cX4_costs 21 = .ok (.getfield 9, 3) := by decide +kernel
theorem dX4_costs_24 : decode cX4_costs 24 = .ok (.imul, 1) := by decide +kernel
theorem dX4_costs_25 : decode cX4_costs 25 = .ok (.istore_n 3, 1) := by decide +kernel
theorem dX4_costs_26 : decode cX4_costs 26 = .ok (.aload_n 0, 1) := by decide +kernel
theorem dX4_costs_27 : decode cX4_costs 27 = .ok (.getfield 15, 3) := by decide +kernel
theorem dX4_costs_30 : decode cX4_costs 30 = .ok (.iload_n 1, 1) := by decide +kernel
theorem dX4_costs_31 : decode cX4_costs 31 = .ok (.iaload, 1) := by decide +kernel
theorem dX4_costs_32 : decode cX4_costs 32 = .ok (.tableswitch 73 1 5 #[36, 46, 50, 73, 67], 36) := by decide +kernel
theorem dX4_costs_68 : decode cX4_costs 68 = .ok (.iconst 2, 1) := by decide +kernel
theorem dX4_costs_69 : decode cX4_costs 69 = .ok (.iload_n 3, 1) := by decide +kernel
theorem dX4_costs_70 : decode cX4_costs 70 = .ok (.imul, 1) := by decide +kernel
theorem dX4_costs_71 : decode cX4_costs 71 = .ok (.sipush 999, 3) := by decide +kernel
theorem dX4_costs_74 : decode cX4_costs 74 = .ok (.invokestatic 71, 3) := by decide +kernel
theorem dX4_costs_77 : decode cX4_costs 77 = .ok (.ireturn, 1) := by decide +kernel
theorem dX4_costs_78 : decode cX4_costs 78 = .ok (.iload_n 3, 1) := by decide +kernel
theorem dX4_costs_79 : decode cX4_costs 79 = .ok (.iconst 2, 1) := by decide +kernel
theorem dX4_costs_80 : decode cX4_costs 80 = .ok (.idiv, 1) := by decide +kernel
theorem dX4_costs_81 : decode cX4_costs 81 = .ok (.ireturn, 1) := by decide +kernel
theorem dX4_costs_82 : decode cX4_costs 82 = .ok (.iconst 2, 1) := by decide +kernel
theorem dX4_costs_83 : decode cX4_costs 83 = .ok (.iload_n 3, 1) := by decide +kernel
theorem dX4_costs_84 : decode cX4_costs 84 = .ok (.imul, 1) := by decide +kernel
theorem dX4_costs_85 : decode cX4_costs 85 = .ok (.aload_n 0, 1) := by decide +kernel
theorem dX4_costs_86 : decode cX4_costs 86 = .ok (.getfield 19, 3) := by decide +kernel
theorem dX4_costs_89 : decode cX4_costs 89 = .ok (.iload_n 1, 1) := by decide +kernel
theorem dX4_costs_90 : decode cX4_costs 90 = .ok (.iaload, 1) := by decide +kernel
theorem dX4_costs_91 : decode cX4_costs 91 = .ok (.iadd, 1) := by decide +kernel
theorem dX4_costs_92 : decode cX4_costs 92 = .ok (.sipush 999, 3) := by decide +kernel
theorem dX4_costs_95 : decode cX4_costs 95 = .ok (.invokestatic 71, 3) := by decide +kernel
theorem dX4_costs_98 : decode cX4_costs 98 = .ok (.ireturn, 1) := by decide +kernel
theorem dX4_costs_99 : decode cX4_costs 99 = .ok (.iload_n 3, 1) := by decide +kernel
theorem dX4_costs_100 : decode cX4_costs 100 = .ok (.iconst 5, 1) := by decide +kernel
theorem dX4_costs_101 : decode cX4_costs 101 = .ok (.invokestatic 71, 3) := by decide +kernel
theorem dX4_costs_104 : decode cX4_costs 104 = .ok (.ireturn, 1) := by decide +kernel
theorem dX4_costs_105 : decode cX4_costs 105 = .ok (.iload_n 3, 1) := by decide +kernel
theorem dX4_costs_106 : decode cX4_costs 106 = .ok (.sipush 999, 3) := by decide +kernel
theorem dX4_costs_109 : decode cX4_costs 109 = .ok (.invokestatic 71, 3) := by decide +kernel
theorem dX4_costs_112 : decode cX4_costs 112 = .ok (.ireturn, 1) := by decide +kernel
theorem dX4_gladness_0 : decode cX4_gladness 0 = .ok (.aload_n 0, 1) := by decide +kernel
theorem dX4_gladness_1 : decode cX4_gladness 1 = .ok (.getfield 15, 3) := by decide +kernel
theorem dX4_gladness_4 : decode cX4_gladness 4 = .ok (.iload_n 2, 1) := by decide +kernel
theorem dX4_gladness_5 : decode cX4_gladness 5 = .ok (.iaload, 1) := by decide +kernel
theorem dX4_gladness_6 : decode cX4_gladness 6 = .ok (.iconst 5, 1) := by decide +kernel
theorem dX4_gladness_7 : decode cX4_gladness 7 = .ok (.if_icmp .ne 5, 3) := by decide +kernel
theorem dX4_gladness_10 : decode cX4_gladness 10 = .ok (.iconst 1, 1) := by decide +kernel
theorem dX4_gladness_11 : decode cX4_gladness 11 = .ok (.ireturn, 1) := by decide +kernel
theorem dX4_gladness_12 : decode cX4_gladness 12 = .ok (.aload_n 0, 1) := by decide +kernel
theorem dX4_gladness_13 : decode cX4_gladness 13 = .ok (.iload_n 1, 1) := by decide +kernel
theorem dX4_gladness_14 : decode cX4_gladness 14 = .ok (.iload_n 2, 1) := by decide +kernel
theorem dX4_gladness_15 : decode cX4_gladness 15 = .ok (.invokevirtual 77, 3) := by decide +kernel
theorem dX4_gladness_18 : decode cX4_gladness 18 = .ok (.ifCond .eq 19, 3) := by decide +kernel
theorem dX4_gladness_21 : decode cX4_gladness 21 = .ok (.aload_n 0, 1) := by decide +kernel
theorem dX4_gladness_22 : decode cX4_gladness 22 = .ok (.iconst 1, 1) := by decide +kernel
theorem dX4_gladness_23 : decode cX4_gladness 23 = .ok (.iload_n 2, 1) := by decide +kernel
theorem dX4_gladness_24 : decode cX4_gladness 24 = .ok (.aload_n 0, 1) := by decide +kernel
theorem dX4_gladness_25 : decode cX4_gladness 25 = .ok (.getfield 28, 3) := by decide +kernel
theorem dX4_gladness_28 : decode cX4_gladness 28 = .ok (.iload_n 1, 1) := by decide +kernel
theorem dX4_gladness_29 : decode cX4_gladness 29 = .ok (.iaload, 1) := by decide +kernel
theorem dX4_gladness_30 : decode cX4_gladness 30 = .ok (.iconst 1, 1) := by decide +kernel
theorem dX4_gladness_31 : decode cX4_gladness 31 = .ok (.invokevirtual 67, 3) := by decide +kernel
theorem dX4_gladness_34 : decode cX4_gladness 34 = .ok (.goto 4, 3) := by decide +kernel
theorem dX4_gladness_37 : decode cX4_gladness 37 = .ok (.iconst 0, 1) := by decide +kernel
theorem dX4_gladness_38 : decode cX4_gladness 38 = .ok (.istore_n 3, 1) := by decide +kernel
theorem dX4_gladness_39 : decode cX4_gladness 39 = .ok (.aload_n 0, 1) := by decide +kernel
theorem dX4_gladness_40 : decode cX4_gladness 40 = .ok (.getfield 15, 3) := by decide +kernel
theorem dX4_gladness_43 : decode cX4_gladness 43 = .ok (.iload_n 2, 1) := by decide +kernel
theorem dX4_gladness_44 : decode cX4_gladness 44 = .ok (.iaload, 1) := by decide +kernel
theorem dX4_gladness_45 : decode cX4_gladness 45 = .ok (.tableswitch 52 1 4 #[31, 35, 39, 45], 31) := by decide +kernel
theorem dX4_gladness_76 : decode cX4_gladness 76 = .ok (.iload_n 3, 1) := by decide +kernel
theorem dX4_gladness_77 : decode cX4_gladness 77 = .ok (.iconst 2, 1) := by decide +kernel
theorem dX4_gladness_78 : decode cX4_gladness 78 = .ok (.iadd, 1) := by decide +kernel
theorem dX4_gladness_79 : decode cX4_gladness 79 = .ok (.ireturn, 1) := by decide +kernel
theorem dX4_gladness_80 : decode cX4_gladness 80 = .ok (.iload_n 3, 1) := by decide +kernel
theorem dX4_gladness_81 : decode cX4_gladness 81 = .ok (.iconst 2, 1) := by decide +kernel
theorem dX4_gladness_82 : decode cX4_gladness 82 = .ok (.idiv, 1) := by decide +kernel
theorem dX4_gladness_83 : decode cX4_gladness 83 = .ok (.ireturn, 1) := by decide +kernel
theorem dX4_gladness_84 : decode cX4_gladness 84 = .ok (.iconst 2, 1) := by decide +kernel
theorem dX4_gladness_85 : decode cX4_gladness 85 = .ok (.iload_n 3, 1) := by decide +kernel
theorem dX4_gladness_86 : decode cX4_gladness 86 = .ok (.iconst 2, 1) := by decide +kernel
theorem dX4_gladness_87 : decode cX4_gladness 87 = .ok (.iadd, 1) := by decide +kernel
theorem dX4_gladness_88 : decode cX4_gladness 88 = .ok (.imul, 1) := by decide +kernel
theorem dX4_gladness_89 : decode cX4_gladness 89 = .ok (.ireturn, 1) := by decide +kernel
theorem dX4_gladness_90 : decode cX4_gladness 90 = .ok (.iload_n 3, 1) := by decide +kernel
theorem dX4_gladness_91 : decode cX4_gladness 91 = .ok (.iconst 2, 1) := by decide +kernel
theorem dX4_gladness_92 : decode cX4_gladness 92 = .ok (.idiv, 1) := by decide +kernel
theorem dX4_gladness_93 : decode cX4_gladness 93 = .ok (.bipush 9, 2) := by decide +kernel
theorem dX4_gladness_95 : decode cX4_gladness 95 = .ok (.isub, 1) := by decide +kernel
theorem dX4_gladness_96 : decode cX4_gladness 96 = .ok (.ireturn, 1) := by decide +kernel
theorem dX4_gladness_97 : decode cX4_gladness 97 = .ok (.iload_n 3, 1) := by decide +kernel
theorem dX4_gladness_98 : decode cX4_gladness 98 = .ok (.ireturn, 1) := by decide +kernel
theorem dX4_payment_0 : decode cX4_payment 0 = .ok (.aload_n 0, 1) := by decide +kernel
theorem dX4_payment_1 : decode cX4_payment 1 = .ok (.iconst 2, 1) := by decide +kernel
theorem dX4_payment_2 : decode cX4_payment 2 = .ok (.iload_n 2, 1) := by decide +kernel
theorem dX4_payment_3 : decode cX4_payment 3 = .ok (.aload_n 0, 1) := by decide +kernel
theorem dX4_payment_4 : decode cX4_payment 4 = .ok (.getfield 28, 3) := by decide +kernel
theorem dX4_payment_7 : decode cX4_payment 7 = .ok (.iload_n 1, 1) := by decide +kernel
theorem dX4_payment_8 : decode cX4_payment 8 = .ok (.iaload, 1) := by decide +kernel
theorem dX4_payment_9 : decode cX4_payment 9 = .ok (.aload_n 0, 1) := by decide +kernel
theorem dX4_payment_10 : decode cX4_payment 10 = .ok (.iload_n 1, 1) := by decide +kernel
theorem dX4_payment_11 : decode cX4_payment 11 = .ok (.iload_n 2, 1) := by decide +kernel
theorem dX4_payment_12 : decode cX4_payment 12 = .ok (.invokevirtual 77, 3) := by decide +kernel
theorem dX4_payment_15 : decode cX4_payment 15 = .ok (.invokevirtual 67, 3) := by decide +kernel
theorem dX4_payment_18 : decode cX4_payment 18 = .ok (.ireturn, 1) := by decide +kernel
theorem dX4_ruled_0 : decode cX4_ruled 0 = .ok (.aload_n 0, 1) := by decide +kernel
theorem dX4_ruled_1 : decode cX4_ruled 1 = .ok (.getfield 34, 3) := by decide +kernel
theorem dX4_ruled_4 : decode cX4_ruled 4 = .ok (.iconst 0, 1) := by decide +kernel
theorem dX4_ruled_5 : decode cX4_ruled 5 = .ok (.iload_n 3, 1) := by decide +kernel
theorem dX4_ruled_6 : decode cX4_ruled 6 = .ok (.iastore, 1) := by decide +kernel
theorem dX4_ruled_7 : decode cX4_ruled 7 = .ok (.aload_n 0, 1) := by decide +kernel
theorem dX4_ruled_8 : decode cX4_ruled 8 = .ok (.getfield 34, 3) := by decide +kernel
theorem dX4_ruled_11 : decode cX4_ruled 11 = .ok (.iconst 1, 1) := by decide +kernel
theorem dX4_ruled_12 : decode cX4_ruled 12 = .ok (.aload_n 0, 1) := by decide +kernel
theorem dX4_ruled_13 : decode cX4_ruled 13 = .ok (.getfield 19, 3) := by decide +kernel
theorem dX4_ruled_16 : decode cX4_ruled 16 = .ok (.iload_n 2, 1) := by decide +kernel
theorem dX4_ruled_17 : decode cX4_ruled 17 = .ok (.iaload, 1) := by decide +kernel
theorem dX4_ruled_18 : decode cX4_ruled 18 = .ok (.iastore, 1) := by decide +kernel
theorem dX4_ruled_19 : decode cX4_ruled 19 = .ok (.aload_n 0, 1) := by decide +kernel
theorem dX4_ruled_20 : decode cX4_ruled 20 = .ok (.getfield 34, 3) := by decide +kernel
theorem dX4_ruled_23 : decode cX4_ruled 23 = .ok (.iconst 2, 1) := by decide +kernel
theorem dX4_ruled_24 : decode cX4_ruled 24 = .ok (.aload_n 0, 1) := by decide +kernel
theorem dX4_ruled_25 : decode cX4_ruled 25 = .ok (.getfield 22, 3) := by decide +kernel
theorem dX4_ruled_28 : decode cX4_ruled 28 = .ok (.iload_n 2, 1) := by decide +kernel
theorem dX4_ruled_29 : decode cX4_ruled 29 = .ok (.iaload, 1) := by decide +kernel
theorem dX4_ruled_30 : decode cX4_ruled 30 = .ok (.iastore, 1) := by decide +kernel
theorem dX4_ruled_31 : decode cX4_ruled 31 = .ok (.aload_n 0, 1) := by decide +kernel
theorem dX4_ruled_32 : decode cX4_ruled 32 = .ok (.getfield 34, 3) := by decide +kernel
theorem dX4_ruled_35 : decode cX4_ruled 35 = .ok (.iconst 3, 1) := by decide +kernel
theorem dX4_ruled_36 : decode cX4_ruled 36 = .ok (.iload 4, 2) := by decide +kernel
theorem dX4_ruled_38 : decode cX4_ruled 38 = .ok (.ifCond .eq 7, 3) := by decide +kernel
theorem dX4_ruled_41 : decode cX4_ruled 41 = .ok (.iconst 1, 1) := by decide +kernel
theorem dX4_ruled_42 : decode cX4_ruled 42 = .ok (.goto 4, 3) := by decide +kernel
theorem dX4_ruled_45 : decode cX4_ruled 45 = .ok (.iconst 0, 1) := by decide +kernel
theorem dX4_ruled_46 : decode cX4_ruled 46 = .ok (.iastore, 1) := by decide +kernel
theorem dX4_ruled_47 : decode cX4_ruled 47 = .ok (.aload_n 0, 1) := by decide +kernel
theorem dX4_ruled_48 : decode cX4_ruled 48 = .ok (.getfield 34, 3) := by decide +kernel
theorem dX4_ruled_51 : decode cX4_ruled 51 = .ok (.iconst 4, 1) := by decide +kernel
theorem dX4_ruled_52 : decode cX4_ruled 52 = .ok (.aload_n 0, 1) := by decide +kernel
theorem dX4_ruled_53 : decode cX4_ruled 53 = .ok (.iload_n 2, 1) := by decide +kernel
theorem dX4_ruled_54 : decode cX4_ruled 54 = .ok (.invokevirtual 80, 3) := by decide +kernel
theorem dX4_ruled_57 : decode cX4_ruled 57 = .ok (.iastore, 1) := by decide +kernel
theorem dX4_ruled_58 : decode cX4_ruled 58 = .ok (.aload_n 0, 1) := by decide +kernel
theorem dX4_ruled_59 : decode cX4_ruled 59 = .ok (.getfield 34, 3) := by decide +kernel
theorem dX4_ruled_62 : decode cX4_ruled 62 = .ok (.iconst 5, 1) := by decide +kernel
theorem dX4_ruled_63 : decode cX4_ruled 63 = .ok (.aload_n 0, 1) := by decide +kernel
theorem dX4_ruled_64 : decode cX4_ruled 64 = .ok (.iload_n 3, 1) := by decide +kernel
theorem dX4_ruled_65 : decode cX4_ruled 65 = .ok (.invokevirtual 84, 3) := by decide +kernel
theorem dX4_ruled_68 : decode cX4_ruled 68 = .ok (.iastore, 1) := by decide +kernel
theorem dX4_ruled_69 : decode cX4_ruled 69 = .ok (.aload_n 0, 1) := by decide +kernel
theorem dX4_ruled_70 : decode cX4_ruled 70 = .ok (.getfield 37, 3) := by decide +kernel
theorem dX4_ruled_73 : decode cX4_ruled 73 = .ok (.aload_n 0, 1) := by decide +kernel
theorem dX4_ruled_74 : decode cX4_ruled 74 = .ok (.getfield 41, 3) := by decide +kernel
theorem dX4_ruled_77 : decode cX4_ruled 77 = .ok (.aaload, 1) := by decide +kernel
theorem dX4_ruled_78 : decode cX4_ruled 78 = .ok (.iload_n 1, 1) := by decide +kernel
theorem dX4_ruled_79 : decode cX4_ruled 79 = .ok (.aload_n 0, 1) := by decide +kernel
theorem dX4_ruled_80 : decode cX4_ruled 80 = .ok (.getfield 34, 3) := by decide +kernel
theorem dX4_ruled_83 : decode cX4_ruled 83 = .ok (.invokevirtual 87, 3) := by decide +kernel
theorem dX4_ruled_86 : decode cX4_ruled 86 = .ok (.istore 5, 2) := by decide +kernel
theorem dX4_ruled_88 : decode cX4_ruled 88 = .ok (.iload 5, 2) := by decide +kernel
theorem dX4_ruled_90 : decode cX4_ruled 90 = .ok (.iload_n 1, 1) := by decide +kernel
theorem dX4_ruled_91 : decode cX4_ruled 91 = .ok (.iconst 1, 1) := by decide +kernel
theorem dX4_ruled_92 : decode cX4_ruled 92 = .ok (.if_icmp .ne 8, 3) := by decide +kernel
theorem dX4_ruled_95 : decode cX4_ruled 95 = .ok (.bipush (-99), 2) := by decide +kernel
theorem dX4_ruled_97 : decode cX4_ruled 97 = .ok (.goto 4, 3) := by decide +kernel
theorem dX4_ruled_100 : decode cX4_ruled 100 = .ok (.iconst 0, 1) := by decide +kernel
theorem dX4_ruled_101 : decode cX4_ruled 101 = .ok (.invokestatic 93, 3) := by decide +kernel
theorem dX4_ruled_104 : decode cX4_ruled 104 = .ok (.bipush 99, 2) := by decide +kernel
theorem dX4_ruled_106 : decode cX4_ruled 106 = .ok (.invokestatic 71, 3) := by decide +kernel
theorem dX4_ruled_109 : decode cX4_ruled 109 = .ok (.ireturn, 1) := by decide +kernel
theorem dX4_firstOtherwise_0 : decode cX4_firstOtherwise 0 = .ok (.iconst 0, 1) := by decide +kernel
theorem dX4_firstOtherwise_1 : decode cX4_firstOtherwise 1 = .ok (.istore_n 3, 1) := by decide +kernel
theorem dX4_firstOtherwise_2 : decode cX4_firstOtherwise 2 = .ok (.iload_n 3, 1) := by decide +kernel
theorem dX4_firstOtherwise_3 : decode cX4_firstOtherwise 3 = .ok (.aload_n 2, 1) := by decide +kernel
theorem dX4_firstOtherwise_4 : decode cX4_firstOtherwise 4 = .ok (.getfield 96, 3) := by decide +kernel
theorem dX4_firstOtherwise_7 : decode cX4_firstOtherwise 7 = .ok (.if_icmp .ge 32, 3) := by decide +kernel
theorem dX4_firstOtherwise_10 : decode cX4_firstOtherwise 10 = .ok (.iload_n 3, 1) := by decide +kernel
theorem dX4_firstOtherwise_11 : decode cX4_firstOtherwise 11 = .ok (.bipush 12, 2) := by decide +kernel
theorem dX4_firstOtherwise_13 : decode cX4_firstOtherwise 13 = .ok (.if_icmp .ge 26, 3) := by decide +kernel
theorem dX4_firstOtherwise_16 : decode cX4_firstOtherwise 16 = .ok (.aload_n 2, 1) := by decide +kernel
theorem dX4_firstOtherwise_17 : decode cX4_firstOtherwise 17 = .ok (.getfield 101, 3) := by decide +kernel
theorem dX4_firstOtherwise_20 : decode cX4_firstOtherwise 20 = .ok (.iload_n 3, 1) := by decide +kernel
theorem dX4_firstOtherwise_21 : decode cX4_firstOtherwise 21 = .ok (.iaload, 1) := by decide +kernel
theorem dX4_firstOtherwise_22 : decode cX4_firstOtherwise 22 = .ok (.aload_n 0, 1) := by decide +kernel
theorem dX4_firstOtherwise_23 : decode cX4_firstOtherwise 23 = .ok (.iload_n 1, 1) := by decide +kernel
theorem dX4_firstOtherwise_24 : decode cX4_firstOtherwise 24 = .ok (.iload_n 3, 1) := by decide +kernel
theorem dX4_firstOtherwise_25 : decode cX4_firstOtherwise 25 = .ok (.invokevirtual 104, 3) := by decide +kernel
theorem dX4_firstOtherwise_28 : decode cX4_firstOtherwise 28 = .ok (.if_icmp .eq 5, 3) := by decide +kernel
theorem dX4_firstOtherwise_31 : decode cX4_firstOtherwise 31 = .ok (.iload_n 3, 1) := by decide +kernel
theorem dX4_firstOtherwise_32 : decode cX4_firstOtherwise 32 = .ok (.ireturn, 1) := by decide +kernel
theorem dX4_firstOtherwise_33 : decode cX4_firstOtherwise 33 = .ok (.iinc 3 1, 3) := by decide +kernel
theorem dX4_firstOtherwise_36 : decode cX4_firstOtherwise 36 = .ok (.goto (-34), 3) := by decide +kernel
theorem dX4_firstOtherwise_39 : decode cX4_firstOtherwise 39 = .ok (.iconst (-1), 1) := by decide +kernel
theorem dX4_firstOtherwise_40 : decode cX4_firstOtherwise 40 = .ok (.ireturn, 1) := by decide +kernel
