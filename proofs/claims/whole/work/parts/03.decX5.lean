theorem dX5_init_0 : decode cX5_init 0 = .ok (.aload_n 0, 1) := by decide +kernel
theorem dX5_init_1 : decode cX5_init 1 = .ok (.invokespecial 1, 3) := by decide +kernel
theorem dX5_init_4 : decode cX5_init 4 = .ok (.aload_n 0, 1) := by decide +kernel
theorem dX5_init_5 : decode cX5_init 5 = .ok (.bipush 6, 2) := by decide +kernel
theorem dX5_init_7 : decode cX5_init 7 = .ok (.anewarray 9, 3) := by decide +kernel
theorem dX5_init_10 : decode cX5_init 10 = .ok (.putfield 11, 3) := by decide +kernel
theorem dX5_init_13 : decode cX5_init 13 = .ok (.aload_n 0, 1) := by decide +kernel
theorem dX5_init_14 : decode cX5_init 14 = .ok (.iconst 4, 1) := by decide +kernel
theorem dX5_init_15 : decode cX5_init 15 = .ok (.anewarray 15, 3) := by decide +kernel
theorem dX5_init_18 : decode cX5_init 18 = .ok (.putfield 17, 3) := by decide +kernel
theorem dX5_init_21 : decode cX5_init 21 = .ok (.aload_n 0, 1) := by decide +kernel
theorem dX5_init_22 : decode cX5_init 22 = .ok (.new 21, 3) := by decide +kernel
theorem dX5_init_25 : decode cX5_init 25 = .ok (.dup, 1) := by decide +kernel
theorem dX5_init_26 : decode cX5_init 26 = .ok (.invokespecial 23, 3) := by decide +kernel
theorem dX5_init_29 : decode cX5_init 29 = .ok (.putfield 24, 3) := by decide +kernel
theorem dX5_init_32 : decode cX5_init 32 = .ok (.iconst 0, 1) := by decide +kernel
theorem dX5_init_33 : decode cX5_init 33 = .ok (.istore_n 1, 1) := by decide +kernel
theorem dX5_init_34 : decode cX5_init 34 = .ok (.iload_n 1, 1) := by decide +kernel
theorem dX5_init_35 : decode cX5_init 35 = .ok (.bipush 6, 2) := by decide +kernel
theorem dX5_init_37 : decode cX5_init 37 = .ok (.if_icmp .ge 23, 3) := by decide +kernel
theorem dX5_init_40 : decode cX5_init 40 = .ok (.aload_n 0, 1) := by decide +kernel
theorem dX5_init_41 : decode cX5_init 41 = .ok (.getfield 11, 3) := by decide +kernel
theorem dX5_init_44 : decode cX5_init 44 = .ok (.iload_n 1, 1) := by decide +kernel
theorem dX5_init_45 : decode cX5_init 45 = .ok (.new 9, 3) := by decide +kernel
theorem dX5_init_48 : decode cX5_init 48 = .ok (.dup, 1) := by decide +kernel
theorem dX5_init_49 : decode cX5_init 49 = .ok (.iload_n 1, 1) := by decide +kernel
theorem dX5_init_50 : decode cX5_init 50 = .ok (.invokespecial 28, 3) := by decide +kernel
theorem dX5_init_53 : decode cX5_init 53 = .ok (.aastore, 1) := by decide +kernel
theorem dX5_init_54 : decode cX5_init 54 = .ok (.iinc 1 1, 3) := by decide +kernel
theorem dX5_init_57 : decode cX5_init 57 = .ok (.goto (-23), 3) := by decide +kernel
theorem dX5_init_60 : decode cX5_init 60 = .ok (.iconst 0, 1) := by decide +kernel
theorem dX5_init_61 : decode cX5_init 61 = .ok (.istore_n 1, 1) := by decide +kernel
theorem dX5_init_62 : decode cX5_init 62 = .ok (.iload_n 1, 1) := by decide +kernel
theorem dX5_init_63 : decode cX5_init 63 = .ok (.iconst 4, 1) := by decide +kernel
theorem dX5_init_64 : decode cX5_init 64 = .ok (.if_icmp .ge 22, 3) := by decide +kernel
theorem dX5_init_67 : decode cX5_init 67 = .ok (.aload_n 0, 1) := by decide +kernel
theorem dX5_init_68 : decode cX5_init 68 = .ok (.getfield 17, 3) := by decide +kernel
theorem dX5_init_71 : decode cX5_init 71 = .ok (.iload_n 1, 1) := by decide +kernel
theorem dX5_init_72 : decode cX5_init 72 = .ok (.new 15, 3) := by decide +kernel
theorem dX5_init_75 : decode cX5_init 75 = .ok (.dup, 1) := by decide +kernel
theorem dX5_init_76 : decode cX5_init 76 = .ok (.invokespecial 31, 3) := by decide +kernel
theorem dX5_init_79 : decode cX5_init 79 = .ok (.aastore, 1) := by decide +kernel
theorem dX5_init_80 : decode cX5_init 80 = .ok (.iinc 1 1, 3) := by decide +kernel
theorem dX5_init_83 : decode cX5_init 83 = .ok (.goto (-21), 3) := by decide +kernel
theorem dX5_init_86 : decode cX5_init 86 = .ok (.iconst 0, 1) := by decide +kernel
theorem dX5_init_87 : decode cX5_init 87 = .ok (.istore_n 1, 1) := by decide +kernel
theorem dX5_init_88 : decode cX5_init 88 = .ok (.iload_n 1, 1) := by decide +kernel
theorem dX5_init_89 : decode cX5_init 89 = .ok (.ldc 32, 2) := by decide +kernel
theorem dX5_init_91 : decode cX5_init 91 = .ok (.invokevirtual 34, 3) := by decide +kernel
theorem dX5_init_94 : decode cX5_init 94 = .ok (.if_icmp .ge 23, 3) := by decide +kernel
theorem dX5_init_97 : decode cX5_init 97 = .ok (.aload_n 0, 1) := by decide +kernel
theorem dX5_init_98 : decode cX5_init 98 = .ok (.getfield 24, 3) := by decide +kernel
theorem dX5_init_101 : decode cX5_init 101 = .ok (.ldc 32, 2) := by decide +kernel
theorem dX5_init_103 : decode cX5_init 103 = .ok (.iload_n 1, 1) := by decide +kernel
theorem dX5_init_104 : decode cX5_init 104 = .ok (.invokevirtual 40, 3) := by decide +kernel
theorem dX5_init_107 : decode cX5_init 107 = .ok (.invokevirtual 44, 3) := by decide +kernel
theorem dX5_init_110 : decode cX5_init 110 = .ok (.pop, 1) := by decide +kernel
theorem dX5_init_111 : decode cX5_init 111 = .ok (.iinc 1 1, 3) := by decide +kernel
theorem dX5_init_114 : decode cX5_init 114 = .ok (.goto (-26), 3) := by decide +kernel
theorem dX5_init_117 : decode cX5_init 117 = .ok (.aload_n 0, 1) := by decide +kernel
theorem dX5_init_118 : decode cX5_init 118 = .ok (.getfield 24, 3) := by decide +kernel
theorem dX5_init_121 : decode cX5_init 121 = .ok (.aload_n 0, 1) := by decide +kernel
theorem dX5_init_122 : decode cX5_init 122 = .ok (.getfield 11, 3) := by decide +kernel
theorem dX5_init_125 : decode cX5_init 125 = .ok (.iconst 0, 1) := by decide +kernel
theorem dX5_init_126 : decode cX5_init 126 = .ok (.aaload, 1) := by decide +kernel
theorem dX5_init_127 : decode cX5_init 127 = .ok (.invokevirtual 48, 3) := by decide +kernel
theorem dX5_init_130 : decode cX5_init 130 = .ok (.pop, 1) := by decide +kernel
theorem dX5_init_131 : decode cX5_init 131 = .ok (.aload_n 0, 1) := by decide +kernel
theorem dX5_init_132 : decode cX5_init 132 = .ok (.iconst 1, 1) := by decide +kernel
theorem dX5_init_133 : decode cX5_init 133 = .ok (.putfield 52, 3) := by decide +kernel
theorem dX5_init_136 : decode cX5_init 136 = .ok (.aload_n 0, 1) := by decide +kernel
theorem dX5_init_137 : decode cX5_init 137 = .ok (.new 56, 3) := by decide +kernel
theorem dX5_init_140 : decode cX5_init 140 = .ok (.dup, 1) := by decide +kernel
theorem dX5_init_141 : decode cX5_init 141 = .ok (.aload_n 0, 1) := by decide +kernel
theorem dX5_init_142 : decode cX5_init 142 = .ok (.getfield 11, 3) := by decide +kernel
theorem dX5_init_145 : decode cX5_init 145 = .ok (.iconst 0, 1) := by decide +kernel
theorem dX5_init_146 : decode cX5_init 146 = .ok (.aaload, 1) := by decide +kernel
theorem dX5_init_147 : decode cX5_init 147 = .ok (.invokespecial 58, 3) := by decide +kernel
theorem dX5_init_150 : decode cX5_init 150 = .ok (.putfield 61, 3) := by decide +kernel
theorem dX5_init_153 : decode cX5_init 153 = .ok (.aload_n 0, 1) := by decide +kernel
theorem dX5_init_154 : decode cX5_init 154 = .ok (.new 56, 3) := by decide +kernel
theorem dX5_init_157 : decode cX5_init 157 = .ok (.dup, 1) := by decide +kernel
theorem dX5_init_158 : decode cX5_init 158 = .ok (.aload_n 0, 1) := by decide +kernel
theorem dX5_init_159 : decode cX5_init 159 = .ok (.getfield 11, 3) := by decide +kernel
theorem dX5_init_162 : decode cX5_init 162 = .ok (.iconst 0, 1) := by decide +kernel
theorem dX5_init_163 : decode cX5_init 163 = .ok (.aaload, 1) := by decide +kernel
theorem dX5_init_164 : decode cX5_init 164 = .ok (.invokespecial 58, 3) := by decide +kernel
theorem dX5_init_167 : decode cX5_init 167 = .ok (.putfield 65, 3) := by decide +kernel
theorem dX5_init_170 : decode cX5_init 170 = .ok (.aload_n 0, 1) := by decide +kernel
theorem dX5_init_171 : decode cX5_init 171 = .ok (.new 56, 3) := by decide +kernel
theorem dX5_init_174 : decode cX5_init 174 = .ok (.dup, 1) := by decide +kernel
theorem dX5_init_175 : decode cX5_init 175 = .ok (.aload_n 0, 1) := by decide +kernel
theorem dX5_init_176 : decode cX5_init 176 = .ok (.getfield 11, 3) := by decide +kernel
theorem dX5_init_179 : decode cX5_init 179 = .ok (.iconst 0, 1) := by decide +kernel
theorem dX5_init_180 : decode cX5_init 180 = .ok (.aaload, 1) := by decide +kernel
theorem dX5_init_181 : decode cX5_init 181 = .ok (.invokespecial 58, 3) := by decide +kernel
theorem dX5_init_184 : decode cX5_init 184 = .ok (.putfield 68, 3) := by decide +kernel
theorem dX5_init_187 : decode cX5_init 187 = .ok (.return_, 1) := by decide +kernel
theorem dX5_set_0 : decode cX5_set 0 = .ok (.iload_n 1, 1) := by decide +kernel
theorem dX5_set_1 : decode cX5_set 1 = .ok (.iconst 4, 1) := by decide +kernel
theorem dX5_set_2 : decode cX5_set 2 = .ok (.if_icmp .gt 20, 3) := by decide +kernel
theorem dX5_set_5 : decode cX5_set 5 = .ok (.aload_n 0, 1) := by decide +kernel
theorem dX5_set_6 : decode cX5_set 6 = .ok (.iload_n 1, 1) := by decide +kernel
theorem dX5_set_7 : decode cX5_set 7 = .ok (.iload_n 2, 1) := by decide +kernel
theorem dX5_set_8 : decode cX5_set 8 = .ok (.invokevirtual 71, 3) := by decide +kernel
theorem dX5_set_11 : decode cX5_set 11 = .ok (.ifCond .eq 11, 3) := by decide +kernel
theorem dX5_set_14 : decode cX5_set 14 = .ok (.iload_n 1, 1) := by decide +kernel
theorem dX5_set_15 : decode cX5_set 15 = .ok (.iload_n 3, 1) := by decide +kernel
theorem dX5_set_16 : decode cX5_set 16 = .ok (.invokestatic 75, 3) := by decide +kernel
theorem dX5_set_19 : decode cX5_set 19 = .ok (.ifCond .ne 7, 3) := by decide +kernel
theorem dX5_set_22 : decode cX5_set 22 = .ok (.sipush (-1000), 3) := by decide +kernel
theorem dX5_set_25 : decode cX5_set 25 = .ok (.ireturn, 1) := by decide +kernel
theorem dX5_set_26 : decode cX5_set 26 = .ok (.aload_n 0, 1) := by decide +kernel
theorem dX5_set_27 : decode cX5_set 27 = .ok (.iload_n 2, 1) := by decide +kernel
theorem dX5_set_28 : decode cX5_set 28 = .ok (.iload_n 1, 1) := by decide +kernel
theorem dX5_set_29 : decode cX5_set 29 = .ok (.invokevirtual 78, 3) := by decide +kernel
theorem dX5_set_32 : decode cX5_set 32 = .ok (.istore 4, 2) := by decide +kernel
theorem dX5_set_34 : decode cX5_set 34 = .ok (.iload_n 1, 1) := by decide +kernel
theorem dX5_set_35 : decode cX5_set 35 = .ok (.ifCond .ne 14, 3) := by decide +kernel
theorem dX5_set_38 : decode cX5_set 38 = .ok (.aload_n 0, 1) := by decide +kernel
theorem dX5_set_39 : decode cX5_set 39 = .ok (.getfield 61, 3) := by decide +kernel
theorem dX5_set_42 : decode cX5_set 42 = .ok (.iload_n 3, 1) := by decide +kernel
theorem dX5_set_43 : decode cX5_set 43 = .ok (.putfield 82, 3) := by decide +kernel
theorem dX5_set_46 : decode cX5_set 46 = .ok (.goto 35, 3) := by decide +kernel
theorem dX5_set_49 : decode cX5_set 49 = .ok (.iload_n 1, 1) := by decide +kernel
theorem dX5_set_50 : decode cX5_set 50 = .ok (.iconst 1, 1) := by decide +kernel
theorem dX5_set_51 : decode cX5_set 51 = .ok (.if_icmp .ne 16, 3) := by decide +kernel
theorem dX5_set_54 : decode cX5_set 54 = .ok (.aload_n 0, 1) := by decide +kernel
theorem dX5_set_55 : decode cX5_set 55 = .ok (.getfield 61, 3) := by decide +kernel
theorem dX5_set_58 : decode cX5_set 58 = .ok (.getfield 85, 3) := by decide +kernel
theorem dX5_set_61 : decode cX5_set 61 = .ok (.iload_n 2, 1) := by decide +kernel
theorem dX5_set_62 : decode cX5_set 62 = .ok (.iload_n 3, 1) := by decide +kernel
theorem dX5_set_63 : decode cX5_set 63 = .ok (.iastore, 1) := by decide +kernel
theorem dX5_set_64 : decode cX5_set 64 = .ok (.goto 17, 3) := by decide +kernel
theorem dX5_set_67 : decode cX5_set 67 = .ok (.aload_n 0, 1) := by decide +kernel
theorem dX5_set_68 : decode cX5_set 68 = .ok (.getfield 61, 3) := by decide +kernel
theorem dX5_set_71 : decode cX5_set 71 = .ok (.getfield 89, 3) := by decide +kernel
theorem dX5_set_74 : decode cX5_set 74 = .ok (.iload_n 2, 1) := by decide +kernel
theorem dX5_set_75 : decode cX5_set 75 = .ok (.aaload, 1) := by decide +kernel
theorem dX5_set_76 : decode cX5_set 76 = .ok (.iload_n 1, 1) := by decide +kernel
theorem dX5_set_77 : decode cX5_set 77 = .ok (.iload_n 3, 1) := by decide +kernel
theorem dX5_set_78 : decode cX5_set 78 = .ok (.invokevirtual 93, 3) := by decide +kernel
theorem dX5_set_81 : decode cX5_set 81 = .ok (.iload 4, 2) := by decide +kernel
theorem dX5_set_83 : decode cX5_set 83 = .ok (.ireturn, 1) := by decide +kernel
theorem dX5_seam_0 : decode cX5_seam 0 = .ok (.iload_n 1, 1) := by decide +kernel
theorem dX5_seam_1 : decode cX5_seam 1 = .ok (.invokestatic 99, 3) := by decide +kernel
theorem dX5_seam_4 : decode cX5_seam 4 = .ok (.ifCond .eq 17, 3) := by decide +kernel
theorem dX5_seam_7 : decode cX5_seam 7 = .ok (.iload_n 2, 1) := by decide +kernel
theorem dX5_seam_8 : decode cX5_seam 8 = .ok (.invokestatic 102, 3) := by decide +kernel
theorem dX5_seam_11 : decode cX5_seam 11 = .ok (.ifCond .eq 10, 3) := by decide +kernel
theorem dX5_seam_14 : decode cX5_seam 14 = .ok (.iload_n 3, 1) := by decide +kernel
theorem dX5_seam_15 : decode cX5_seam 15 = .ok (.invokestatic 105, 3) := by decide +kernel
theorem dX5_seam_18 : decode cX5_seam 18 = .ok (.ifCond .ne 6, 3) := by decide +kernel
theorem dX5_seam_21 : decode cX5_seam 21 = .ok (.bipush (-2), 2) := by decide +kernel
theorem dX5_seam_23 : decode cX5_seam 23 = .ok (.ireturn, 1) := by decide +kernel
theorem dX5_seam_24 : decode cX5_seam 24 = .ok (.aload_n 0, 1) := by decide +kernel
theorem dX5_seam_25 : decode cX5_seam 25 = .ok (.getfield 61, 3) := by decide +kernel
theorem dX5_seam_28 : decode cX5_seam 28 = .ok (.getfield 108, 3) := by decide +kernel
theorem dX5_seam_31 : decode cX5_seam 31 = .ok (.bipush 6, 2) := by decide +kernel
theorem dX5_seam_33 : decode cX5_seam 33 = .ok (.if_icmp .lt 6, 3) := by decide +kernel
theorem dX5_seam_36 : decode cX5_seam 36 = .ok (.bipush (-4), 2) := by decide +kernel
theorem dX5_seam_38 : decode cX5_seam 38 = .ok (.ireturn, 1) := by decide +kernel
theorem dX5_seam_39 : decode cX5_seam 39 = .ok (.aload_n 0, 1) := by decide +kernel
theorem dX5_seam_40 : decode cX5_seam 40 = .ok (.getfield 61, 3) := by decide +kernel
theorem dX5_seam_43 : decode cX5_seam 43 = .ok (.iload_n 1, 1) := by decide +kernel
theorem dX5_seam_44 : decode cX5_seam 44 = .ok (.iload_n 2, 1) := by decide +kernel
theorem dX5_seam_45 : decode cX5_seam 45 = .ok (.iload_n 3, 1) := by decide +kernel
theorem dX5_seam_46 : decode cX5_seam 46 = .ok (.bipush 100, 2) := by decide +kernel
theorem dX5_seam_48 : decode cX5_seam 48 = .ok (.idiv, 1) := by decide +kernel
theorem dX5_seam_49 : decode cX5_seam 49 = .ok (.iload_n 3, 1) := by decide +kernel
theorem dX5_seam_50 : decode cX5_seam 50 = .ok (.bipush 100, 2) := by decide +kernel
theorem dX5_seam_52 : decode cX5_seam 52 = .ok (.irem, 1) := by decide +kernel
theorem dX5_seam_53 : decode cX5_seam 53 = .ok (.invokevirtual 111, 3) := by decide +kernel
theorem dX5_seam_56 : decode cX5_seam 56 = .ok (.pop, 1) := by decide +kernel
theorem dX5_seam_57 : decode cX5_seam 57 = .ok (.aload_n 0, 1) := by decide +kernel
theorem dX5_seam_58 : decode cX5_seam 58 = .ok (.getfield 61, 3) := by decide +kernel
theorem dX5_seam_61 : decode cX5_seam 61 = .ok (.getfield 108, 3) := by decide +kernel
theorem dX5_seam_64 : decode cX5_seam 64 = .ok (.iconst 1, 1) := by decide +kernel
theorem dX5_seam_65 : decode cX5_seam 65 = .ok (.isub, 1) := by decide +kernel
theorem dX5_seam_66 : decode cX5_seam 66 = .ok (.ireturn, 1) := by decide +kernel
theorem dX5_told_0 : decode cX5_told 0 = .ok (.aload_n 0, 1) := by decide +kernel
theorem dX5_told_1 : decode cX5_told 1 = .ok (.iload_n 2, 1) := by decide +kernel
theorem dX5_told_2 : decode cX5_told 2 = .ok (.iload_n 1, 1) := by decide +kernel
theorem dX5_told_3 : decode cX5_told 3 = .ok (.invokevirtual 71, 3) := by decide +kernel
theorem dX5_told_6 : decode cX5_told 6 = .ok (.ifCond .ne 7, 3) := by decide +kernel
theorem dX5_told_9 : decode cX5_told 9 = .ok (.sipush (-1000), 3) := by decide +kernel
theorem dX5_told_12 : decode cX5_told 12 = .ok (.ireturn, 1) := by decide +kernel
theorem dX5_told_13 : decode cX5_told 13 = .ok (.iload_n 2, 1) := by decide +kernel
theorem dX5_told_14 : decode cX5_told 14 = .ok (.ifCond .ne 11, 3) := by decide +kernel
theorem dX5_told_17 : decode cX5_told 17 = .ok (.aload_n 0, 1) := by decide +kernel
theorem dX5_told_18 : decode cX5_told 18 = .ok (.getfield 61, 3) := by decide +kernel
theorem dX5_told_21 : decode cX5_told 21 = .ok (.getfield 82, 3) := by decide +kernel
theorem dX5_told_24 : decode cX5_told 24 = .ok (.ireturn, 1) := by decide +kernel
theorem dX5_told_25 : decode cX5_told 25 = .ok (.iload_n 2, 1) := by decide +kernel
theorem dX5_told_26 : decode cX5_told 26 = .ok (.iconst 1, 1) := by decide +kernel
theorem dX5_told_27 : decode cX5_told 27 = .ok (.if_icmp .ne 13, 3) := by decide +kernel
theorem dX5_told_30 : decode cX5_told 30 = .ok (.aload_n 0, 1) := by decide +kernel
theorem dX5_told_31 : decode cX5_told 31 = .ok (.getfield 61, 3) := by decide +kernel
theorem dX5_told_34 : decode cX5_told 34 = .ok (.getfield 85, 3) := by decide +kernel
theorem dX5_told_37 : decode cX5_told 37 = .ok (.iload_n 1, 1) := by decide +kernel
theorem dX5_told_38 : decode cX5_told 38 = .ok (.iaload, 1) := by decide +kernel
theorem dX5_told_39 : decode cX5_told 39 = .ok (.ireturn, 1) := by decide +kernel
theorem dX5_told_40 : decode cX5_told 40 = .ok (.iload_n 2, 1) := by decide +kernel
theorem dX5_told_41 : decode cX5_told 41 = .ok (.bipush 10, 2) := by decide +kernel
theorem dX5_told_43 : decode cX5_told 43 = .ok (.if_icmp .ge 18, 3) := by decide +kernel
theorem dX5_told_46 : decode cX5_told 46 = .ok (.aload_n 0, 1) := by decide +kernel
theorem dX5_told_47 : decode cX5_told 47 = .ok (.aload_n 0, 1) := by decide +kernel
theorem dX5_told_48 : decode cX5_told 48 = .ok (.getfield 61, 3) := by decide +kernel
theorem dX5_told_51 : decode cX5_told 51 = .ok (.getfield 89, 3) := by decide +kernel
theorem dX5_told_54 : decode cX5_told 54 = .ok (.iload_n 1, 1) := by decide +kernel
theorem dX5_told_55 : decode cX5_told 55 = .ok (.aaload, 1) := by decide +kernel
theorem dX5_told_56 : decode cX5_told 56 = .ok (.iload_n 2, 1) := by decide +kernel
theorem dX5_told_57 : decode cX5_told 57 = .ok (.invokevirtual 114, 3) := by decide +kernel
theorem dX5_told_60 : decode cX5_told 60 = .ok (.ireturn, 1) := by decide +kernel
theorem dX5_told_61 : decode cX5_told 61 = .ok (.aload_n 0, 1) := by decide +kernel
theorem dX5_told_62 : decode cX5_told 62 = .ok (.getfield 61, 3) := by decide +kernel
theorem dX5_told_65 : decode cX5_told 65 = .ok (.invokevirtual 118, 3) := by decide +kernel
theorem dX5_told_68 : decode cX5_told 68 = .ok (.iload_n 2, 1) := by decide +kernel
theorem dX5_told_69 : decode cX5_told 69 = .ok (.bipush 10, 2) := by decide +kernel
theorem dX5_told_71 : decode cX5_told 71 = .ok (.if_icmp .ne 12, 3) := by decide +kernel
theorem dX5_told_74 : decode cX5_told 74 = .ok (.aload_n 0, 1) := by decide +kernel
theorem dX5_told_75 : decode cX5_told 75 = .ok (.getfield 61, 3) := by decide +kernel
theorem dX5_told_78 : decode cX5_told 78 = .ok (.iload_n 1, 1) := by decide +kernel
theorem dX5_told_79 : decode cX5_told 79 = .ok (.invokevirtual 121, 3) := by decide +kernel
theorem dX5_told_82 : decode cX5_told 82 = .ok (.ireturn, 1) := by decide +kernel
theorem dX5_told_83 : decode cX5_told 83 = .ok (.iload_n 2, 1) := by decide +kernel
theorem dX5_told_84 : decode cX5_told 84 = .ok (.bipush 11, 2) := by decide +kernel
theorem dX5_told_86 : decode cX5_told 86 = .ok (.if_icmp .ne 17, 3) := by decide +kernel
theorem dX5_told_89 : decode cX5_told 89 = .ok (.aload_n 0, 1) := by decide +kernel
theorem dX5_told_90 : decode cX5_told 90 = .ok (.getfield 61, 3) := by decide +kernel
theorem dX5_told_93 : decode cX5_told 93 = .ok (.getfield 125, 3) := by decide +kernel
theorem dX5_told_96 : decode cX5_told 96 = .ok (.iload_n 1, 1) := by decide +kernel
theorem dX5_told_97 : decode cX5_told 97 = .ok (.ishr, 1) := by decide +kernel
theorem dX5_told_98 : decode cX5_told 98 = .ok (.iconst 1, 1) := by decide +kernel
theorem dX5_told_99 : decode cX5_told 99 = .ok (.iand, 1) := by decide +kernel
theorem dX5_told_100 : decode cX5_told 100 = .ok (.goto 12, 3) := by decide +kernel
theorem dX5_told_103 : decode cX5_told 103 = .ok (.aload_n 0, 1) := by decide +kernel
theorem dX5_told_104 : decode cX5_told 104 = .ok (.getfield 61, 3) := by decide +kernel
theorem dX5_told_107 : decode cX5_told 107 = .ok (.getfield 128, 3) := by decide +kernel
theorem dX5_told_110 : decode cX5_told 110 = .ok (.iload_n 1, 1) := by decide +kernel
theorem dX5_told_111 : decode cX5_told 111 = .ok (.iaload, 1) := by decide +kernel
theorem dX5_told_112 : decode cX5_told 112 = .ok (.ireturn, 1) := by decide +kernel
theorem dX5_feed_0 : decode cX5_feed 0 = .ok (.iload_n 1, 1) := by decide +kernel
theorem dX5_feed_1 : decode cX5_feed 1 = .ok (.ifCond .lt 10, 3) := by decide +kernel
theorem dX5_feed_4 : decode cX5_feed 4 = .ok (.iload_n 1, 1) := by decide +kernel
theorem dX5_feed_5 : decode cX5_feed 5 = .ok (.sipush 255, 3) := by decide +kernel
theorem dX5_feed_8 : decode cX5_feed 8 = .ok (.if_icmp .le 6, 3) := by decide +kernel
theorem dX5_feed_11 : decode cX5_feed 11 = .ok (.bipush (-2), 2) := by decide +kernel
theorem dX5_feed_13 : decode cX5_feed 13 = .ok (.ireturn, 1) := by decide +kernel
theorem dX5_feed_14 : decode cX5_feed 14 = .ok (.aload_n 0, 1) := by decide +kernel
theorem dX5_feed_15 : decode cX5_feed 15 = .ok (.getfield 24, 3) := by decide +kernel
theorem dX5_feed_18 : decode cX5_feed 18 = .ok (.iload_n 1, 1) := by decide +kernel
theorem dX5_feed_19 : decode cX5_feed 19 = .ok (.invokevirtual 44, 3) := by decide +kernel
theorem dX5_feed_22 : decode cX5_feed 22 = .ok (.ifCond .eq 13, 3) := by decide +kernel
theorem dX5_feed_25 : decode cX5_feed 25 = .ok (.aload_n 0, 1) := by decide +kernel
theorem dX5_feed_26 : decode cX5_feed 26 = .ok (.getfield 24, 3) := by decide +kernel
theorem dX5_feed_29 : decode cX5_feed 29 = .ok (.getfield 131, 3) := by decide +kernel
theorem dX5_feed_32 : decode cX5_feed 32 = .ok (.goto 5, 3) := by decide +kernel
theorem dX5_feed_35 : decode cX5_feed 35 = .ok (.bipush (-4), 2) := by decide +kernel
theorem dX5_feed_37 : decode cX5_feed 37 = .ok (.ireturn, 1) := by decide +kernel
theorem dX5_text_0 : decode cX5_text 0 = .ok (.aload_n 0, 1) := by decide +kernel
theorem dX5_text_1 : decode cX5_text 1 = .ok (.getfield 52, 3) := by decide +kernel
theorem dX5_text_4 : decode cX5_text 4 = .ok (.bipush 6, 2) := by decide +kernel
theorem dX5_text_6 : decode cX5_text 6 = .ok (.if_icmp .lt 6, 3) := by decide +kernel
theorem dX5_text_9 : decode cX5_text 9 = .ok (.bipush (-4), 2) := by decide +kernel
theorem dX5_text_11 : decode cX5_text 11 = .ok (.ireturn, 1) := by decide +kernel
theorem dX5_text_12 : decode cX5_text 12 = .ok (.aload_n 0, 1) := by decide +kernel
theorem dX5_text_13 : decode cX5_text 13 = .ok (.getfield 24, 3) := by decide +kernel
theorem dX5_text_16 : decode cX5_text 16 = .ok (.aload_n 0, 1) := by decide +kernel
theorem dX5_text_17 : decode cX5_text 17 = .ok (.getfield 11, 3) := by decide +kernel
theorem dX5_text_20 : decode cX5_text 20 = .ok (.aload_n 0, 1) := by decide +kernel
theorem dX5_text_21 : decode cX5_text 21 = .ok (.getfield 52, 3) := by decide +kernel
theorem dX5_text_24 : decode cX5_text 24 = .ok (.aaload, 1) := by decide +kernel
theorem dX5_text_25 : decode cX5_text 25 = .ok (.invokevirtual 48, 3) := by decide +kernel
theorem dX5_text_28 : decode cX5_text 28 = .ok (.istore_n 1, 1) := by decide +kernel
theorem dX5_text_29 : decode cX5_text 29 = .ok (.iload_n 1, 1) := by decide +kernel
theorem dX5_text_30 : decode cX5_text 30 = .ok (.iconst (-1), 1) := by decide +kernel
theorem dX5_text_31 : decode cX5_text 31 = .ok (.if_icmp .eq 8, 3) := by decide +kernel
theorem dX5_text_34 : decode cX5_text 34 = .ok (.bipush (-100), 2) := by decide +kernel
theorem dX5_text_36 : decode cX5_text 36 = .ok (.iload_n 1, 1) := by decide +kernel
theorem dX5_text_37 : decode cX5_text 37 = .ok (.isub, 1) := by decide +kernel
theorem dX5_text_38 : decode cX5_text 38 = .ok (.ireturn, 1) := by decide +kernel
theorem dX5_text_39 : decode cX5_text 39 = .ok (.aload_n 0, 1) := by decide +kernel
theorem dX5_text_40 : decode cX5_text 40 = .ok (.dup, 1) := by decide +kernel
theorem dX5_text_41 : decode cX5_text 41 = .ok (.getfield 52, 3) := by decide +kernel
theorem dX5_text_44 : decode cX5_text 44 = .ok (.iconst 1, 1) := by decide +kernel
theorem dX5_text_45 : decode cX5_text 45 = .ok (.iadd, 1) := by decide +kernel
theorem dX5_text_46 : decode cX5_text 46 = .ok (.putfield 52, 3) := by decide +kernel
theorem dX5_text_49 : decode cX5_text 49 = .ok (.aload_n 0, 1) := by decide +kernel
theorem dX5_text_50 : decode cX5_text 50 = .ok (.getfield 52, 3) := by decide +kernel
theorem dX5_text_53 : decode cX5_text 53 = .ok (.iconst 1, 1) := by decide +kernel
theorem dX5_text_54 : decode cX5_text 54 = .ok (.isub, 1) := by decide +kernel
theorem dX5_text_55 : decode cX5_text 55 = .ok (.ireturn, 1) := by decide +kernel
theorem dX5_force_0 : decode cX5_force 0 = .ok (.iload_n 1, 1) := by decide +kernel
theorem dX5_force_1 : decode cX5_force 1 = .ok (.ifCond .lt 11, 3) := by decide +kernel
theorem dX5_force_4 : decode cX5_force 4 = .ok (.iload_n 1, 1) := by decide +kernel
theorem dX5_force_5 : decode cX5_force 5 = .ok (.aload_n 0, 1) := by decide +kernel
theorem dX5_force_6 : decode cX5_force 6 = .ok (.getfield 52, 3) := by decide +kernel
theorem dX5_force_9 : decode cX5_force 9 = .ok (.if_icmp .lt 6, 3) := by decide +kernel
theorem dX5_force_12 : decode cX5_force 12 = .ok (.bipush (-2), 2) := by decide +kernel
theorem dX5_force_14 : decode cX5_force 14 = .ok (.ireturn, 1) := by decide +kernel
theorem dX5_force_15 : decode cX5_force 15 = .ok (.aload_n 0, 1) := by decide +kernel
theorem dX5_force_16 : decode cX5_force 16 = .ok (.getfield 61, 3) := by decide +kernel
theorem dX5_force_19 : decode cX5_force 19 = .ok (.getfield 134, 3) := by decide +kernel
theorem dX5_force_22 : decode cX5_force 22 = .ok (.getfield 138, 3) := by decide +kernel
theorem dX5_force_25 : decode cX5_force 25 = .ok (.istore_n 2, 1) := by decide +kernel
theorem dX5_force_26 : decode cX5_force 26 = .ok (.aload_n 0, 1) := by decide +kernel
theorem dX5_force_27 : decode cX5_force 27 = .ok (.getfield 61, 3) := by decide +kernel
theorem dX5_force_30 : decode cX5_force 30 = .ok (.aload_n 0, 1) := by decide +kernel
theorem dX5_force_31 : decode cX5_force 31 = .ok (.getfield 11, 3) := by decide +kernel
theorem dX5_force_34 : decode cX5_force 34 = .ok (.iload_n 1, 1) := by decide +kernel
theorem dX5_force_35 : decode cX5_force 35 = .ok (.aaload, 1) := by decide +kernel
theorem dX5_force_36 : decode cX5_force 36 = .ok (.putfield 134, 3) := by decide +kernel
theorem dX5_force_39 : decode cX5_force 39 = .ok (.iload_n 2, 1) := by decide +kernel
theorem dX5_force_40 : decode cX5_force 40 = .ok (.ireturn, 1) := by decide +kernel
theorem dX5_hours_0 : decode cX5_hours 0 = .ok (.iload_n 1, 1) := by decide +kernel
theorem dX5_hours_1 : decode cX5_hours 1 = .ok (.tableswitch 82 0 4 #[35, 43, 51, 66, 74], 35) := by decide +kernel
theorem dX5_hours_36 : decode cX5_hours 36 = .ok (.aload_n 0, 1) := by decide +kernel
theorem dX5_hours_37 : decode cX5_hours 37 = .ok (.getfield 61, 3) := by decide +kernel
theorem dX5_hours_40 : decode cX5_hours 40 = .ok (.invokevirtual 141, 3) := by decide +kernel
theorem dX5_hours_43 : decode cX5_hours 43 = .ok (.ireturn, 1) := by decide +kernel
theorem dX5_hours_44 : decode cX5_hours 44 = .ok (.aload_n 0, 1) := by decide +kernel
theorem dX5_hours_45 : decode cX5_hours 45 = .ok (.getfield 61, 3) := by decide +kernel
theorem dX5_hours_48 : decode cX5_hours 48 = .ok (.invokevirtual 144, 3) := by decide +kernel
theorem dX5_hours_51 : decode cX5_hours 51 = .ok (.ireturn, 1) := by decide +kernel
theorem dX5_hours_52 : decode cX5_hours 52 = .ok (.aload_n 0, 1) := by decide +kernel
theorem dX5_hours_53 : decode cX5_hours 53 = .ok (.getfield 61, 3) := by decide +kernel
theorem dX5_hours_56 : decode cX5_hours 56 = .ok (.invokevirtual 118, 3) := by decide +kernel
theorem dX5_hours_59 : decode cX5_hours 59 = .ok (.aload_n 0, 1) := by decide +kernel
theorem dX5_hours_60 : decode cX5_hours 60 = .ok (.getfield 61, 3) := by decide +kernel
theorem dX5_hours_63 : decode cX5_hours 63 = .ok (.getfield 147, 3) := by decide +kernel
theorem dX5_hours_66 : decode cX5_hours 66 = .ok (.ireturn, 1) := by decide +kernel
theorem dX5_hours_67 : decode cX5_hours 67 = .ok (.aload_n 0, 1) := by decide +kernel
theorem dX5_hours_68 : decode cX5_hours 68 = .ok (.getfield 61, 3) := by decide +kernel
theorem dX5_hours_71 : decode cX5_hours 71 = .ok (.invokevirtual 150, 3) := by decide +kernel
theorem dX5_hours_74 : decode cX5_hours 74 = .ok (.ireturn, 1) := by decide +kernel
theorem dX5_hours_75 : decode cX5_hours 75 = .ok (.aload_n 0, 1) := by decide +kernel
theorem dX5_hours_76 : decode cX5_hours 76 = .ok (.getfield 61, 3) := by decide +kernel
theorem dX5_hours_79 : decode cX5_hours 79 = .ok (.invokevirtual 153, 3) := by decide +kernel
theorem dX5_hours_82 : decode cX5_hours 82 = .ok (.ireturn, 1) := by decide +kernel
theorem dX5_hours_83 : decode cX5_hours 83 = .ok (.ldc 156, 2) := by decide +kernel
theorem dX5_hours_85 : decode cX5_hours 85 = .ok (.ireturn, 1) := by decide +kernel
theorem dX5_pass_0 : decode cX5_pass 0 = .ok (.aload_n 0, 1) := by decide +kernel
theorem dX5_pass_1 : decode cX5_pass 1 = .ok (.getfield 61, 3) := by decide +kernel
theorem dX5_pass_4 : decode cX5_pass 4 = .ok (.getfield 82, 3) := by decide +kernel
theorem dX5_pass_7 : decode cX5_pass 7 = .ok (.sipush 999, 3) := by decide +kernel
theorem dX5_pass_10 : decode cX5_pass 10 = .ok (.if_icmp .lt 8, 3) := by decide +kernel
theorem dX5_pass_13 : decode cX5_pass 13 = .ok (.bipush (-3), 2) := by decide +kernel
theorem dX5_pass_15 : decode cX5_pass 15 = .ok (.goto 10, 3) := by decide +kernel
theorem dX5_pass_18 : decode cX5_pass 18 = .ok (.aload_n 0, 1) := by decide +kernel
theorem dX5_pass_19 : decode cX5_pass 19 = .ok (.getfield 61, 3) := by decide +kernel
theorem dX5_pass_22 : decode cX5_pass 22 = .ok (.invokevirtual 157, 3) := by decide +kernel
theorem dX5_pass_25 : decode cX5_pass 25 = .ok (.ireturn, 1) := by decide +kernel
theorem dX5_run_0 : decode cX5_run 0 = .ok (.iload_n 2, 1) := by decide +kernel
theorem dX5_run_1 : decode cX5_run 1 = .ok (.ifCond .lt 12, 3) := by decide +kernel
theorem dX5_run_4 : decode cX5_run 4 = .ok (.iload_n 2, 1) := by decide +kernel
theorem dX5_run_5 : decode cX5_run 5 = .ok (.iconst 2, 1) := by decide +kernel
theorem dX5_run_6 : decode cX5_run 6 = .ok (.if_icmp .gt 7, 3) := by decide +kernel
theorem dX5_run_9 : decode cX5_run 9 = .ok (.iconst 1, 1) := by decide +kernel
theorem dX5_run_10 : decode cX5_run 10 = .ok (.goto 4, 3) := by decide +kernel
theorem dX5_run_13 : decode cX5_run 13 = .ok (.iconst 0, 1) := by decide +kernel
theorem dX5_run_14 : decode cX5_run 14 = .ok (.istore_n 3, 1) := by decide +kernel
theorem dX5_run_15 : decode cX5_run 15 = .ok (.iload_n 2, 1) := by decide +kernel
theorem dX5_run_16 : decode cX5_run 16 = .ok (.bipush 10, 2) := by decide +kernel
theorem dX5_run_18 : decode cX5_run 18 = .ok (.if_icmp .ge 7, 3) := by decide +kernel
theorem dX5_run_21 : decode cX5_run 21 = .ok (.iconst (-1), 1) := by decide +kernel
theorem dX5_run_22 : decode cX5_run 22 = .ok (.goto 7, 3) := by decide +kernel
theorem dX5_run_25 : decode cX5_run 25 = .ok (.iload_n 2, 1) := by decide +kernel
theorem dX5_run_26 : decode cX5_run 26 = .ok (.bipush 10, 2) := by decide +kernel
theorem dX5_run_28 : decode cX5_run 28 = .ok (.isub, 1) := by decide +kernel
theorem dX5_run_29 : decode cX5_run 29 = .ok (.istore 4, 2) := by decide +kernel
theorem dX5_run_31 : decode cX5_run 31 = .ok (.iload_n 1, 1) := by decide +kernel
theorem dX5_run_32 : decode cX5_run 32 = .ok (.invokestatic 160, 3) := by decide +kernel
theorem dX5_run_35 : decode cX5_run 35 = .ok (.ifCond .eq 16, 3) := by decide +kernel
theorem dX5_run_38 : decode cX5_run 38 = .ok (.iload_n 3, 1) := by decide +kernel
theorem dX5_run_39 : decode cX5_run 39 = .ok (.ifCond .ne 15, 3) := by decide +kernel
theorem dX5_run_42 : decode cX5_run 42 = .ok (.aload_n 0, 1) := by decide +kernel
theorem dX5_run_43 : decode cX5_run 43 = .ok (.iload 4, 2) := by decide +kernel
theorem dX5_run_45 : decode cX5_run 45 = .ok (.invokevirtual 163, 3) := by decide +kernel
theorem dX5_run_48 : decode cX5_run 48 = .ok (.ifCond .ne 6, 3) := by decide +kernel
theorem dX5_run_51 : decode cX5_run 51 = .ok (.ldc 166, 2) := by decide +kernel
theorem dX5_run_53 : decode cX5_run 53 = .ok (.ireturn, 1) := by decide +kernel
theorem dX5_run_54 : decode cX5_run 54 = .ok (.aload_n 0, 1) := by decide +kernel
theorem dX5_run_55 : decode cX5_run 55 = .ok (.getfield 65, 3) := by decide +kernel
theorem dX5_run_58 : decode cX5_run 58 = .ok (.aload_n 0, 1) := by decide +kernel
theorem dX5_run_59 : decode cX5_run 59 = .ok (.getfield 61, 3) := by decide +kernel
theorem dX5_run_62 : decode cX5_run 62 = .ok (.invokevirtual 167, 3) := by decide +kernel
theorem dX5_run_65 : decode cX5_run 65 = .ok (.iconst 0, 1) := by decide +kernel
theorem dX5_run_66 : decode cX5_run 66 = .ok (.istore 5, 2) := by decide +kernel
theorem dX5_run_68 : decode cX5_run 68 = .ok (.iconst (-1), 1) := by decide +kernel
theorem dX5_run_69 : decode cX5_run 69 = .ok (.istore 6, 2) := by decide +kernel
theorem dX5_run_71 : decode cX5_run 71 = .ok (.iconst 0, 1) := by decide +kernel
theorem dX5_run_72 : decode cX5_run 72 = .ok (.istore 7, 2) := by decide +kernel
theorem dX5_run_74 : decode cX5_run 74 = .ok (.iload 7, 2) := by decide +kernel
theorem dX5_run_76 : decode cX5_run 76 = .ok (.iload_n 1, 1) := by decide +kernel
theorem dX5_run_77 : decode cX5_run 77 = .ok (.if_icmp .ge 50, 3) := by decide +kernel
theorem dX5_run_80 : decode cX5_run 80 = .ok (.aload_n 0, 1) := by decide +kernel
theorem dX5_run_81 : decode cX5_run 81 = .ok (.getfield 65, 3) := by decide +kernel
theorem dX5_run_84 : decode cX5_run 84 = .ok (.invokevirtual 157, 3) := by decide +kernel
theorem dX5_run_87 : decode cX5_run 87 = .ok (.istore 8, 2) := by decide +kernel
theorem dX5_run_89 : decode cX5_run 89 = .ok (.iload 4, 2) := by decide +kernel
theorem dX5_run_91 : decode cX5_run 91 = .ok (.ifCond .lt 18, 3) := by decide +kernel
theorem dX5_run_94 : decode cX5_run 94 = .ok (.iload 8, 2) := by decide +kernel
theorem dX5_run_96 : decode cX5_run 96 = .ok (.iload 4, 2) := by decide +kernel
theorem dX5_run_98 : decode cX5_run 98 = .ok (.ishr, 1) := by decide +kernel
theorem dX5_run_99 : decode cX5_run 99 = .ok (.iconst 1, 1) := by decide +kernel
theorem dX5_run_100 : decode cX5_run 100 = .ok (.iand, 1) := by decide +kernel
theorem dX5_run_101 : decode cX5_run 101 = .ok (.iconst 1, 1) := by decide +kernel
theorem dX5_run_102 : decode cX5_run 102 = .ok (.if_icmp .ne 7, 3) := by decide +kernel
theorem dX5_run_105 : decode cX5_run 105 = .ok (.iload 7, 2) := by decide +kernel
theorem dX5_run_107 : decode cX5_run 107 = .ok (.istore 6, 2) := by decide +kernel
theorem dX5_run_109 : decode cX5_run 109 = .ok (.iload 5, 2) := by decide +kernel
theorem dX5_run_111 : decode cX5_run 111 = .ok (.aload_n 0, 1) := by decide +kernel
theorem dX5_run_112 : decode cX5_run 112 = .ok (.getfield 65, 3) := by decide +kernel
theorem dX5_run_115 : decode cX5_run 115 = .ok (.invokevirtual 141, 3) := by decide +kernel
theorem dX5_run_118 : decode cX5_run 118 = .ok (.iadd, 1) := by decide +kernel
theorem dX5_run_119 : decode cX5_run 119 = .ok (.istore 5, 2) := by decide +kernel
theorem dX5_run_121 : decode cX5_run 121 = .ok (.iinc 7 1, 3) := by decide +kernel
theorem dX5_run_124 : decode cX5_run 124 = .ok (.goto (-50), 3) := by decide +kernel
theorem dX5_run_127 : decode cX5_run 127 = .ok (.iload_n 3, 1) := by decide +kernel
theorem dX5_run_128 : decode cX5_run 128 = .ok (.ifCond .ne 6, 3) := by decide +kernel
theorem dX5_run_131 : decode cX5_run 131 = .ok (.iload 6, 2) := by decide +kernel
theorem dX5_run_133 : decode cX5_run 133 = .ok (.ireturn, 1) := by decide +kernel
theorem dX5_run_134 : decode cX5_run 134 = .ok (.iload_n 2, 1) := by decide +kernel
theorem dX5_run_135 : decode cX5_run 135 = .ok (.ifCond .ne 11, 3) := by decide +kernel
theorem dX5_run_138 : decode cX5_run 138 = .ok (.aload_n 0, 1) := by decide +kernel
theorem dX5_run_139 : decode cX5_run 139 = .ok (.getfield 65, 3) := by decide +kernel
theorem dX5_run_142 : decode cX5_run 142 = .ok (.invokevirtual 141, 3) := by decide +kernel
theorem dX5_run_145 : decode cX5_run 145 = .ok (.ireturn, 1) := by decide +kernel
theorem dX5_run_146 : decode cX5_run 146 = .ok (.iload_n 2, 1) := by decide +kernel
theorem dX5_run_147 : decode cX5_run 147 = .ok (.iconst 1, 1) := by decide +kernel
theorem dX5_run_148 : decode cX5_run 148 = .ok (.if_icmp .ne 21, 3) := by decide +kernel
theorem dX5_run_151 : decode cX5_run 151 = .ok (.aload_n 0, 1) := by decide +kernel
theorem dX5_run_152 : decode cX5_run 152 = .ok (.getfield 65, 3) := by decide +kernel
theorem dX5_run_155 : decode cX5_run 155 = .ok (.getfield 108, 3) := by decide +kernel
theorem dX5_run_158 : decode cX5_run 158 = .ok (.aload_n 0, 1) := by decide +kernel
theorem dX5_run_159 : decode cX5_run 159 = .ok (.getfield 65, 3) := by decide +kernel
theorem dX5_run_162 : decode cX5_run 162 = .ok (.invokevirtual 171, 3) := by decide +kernel
theorem dX5_run_165 : decode cX5_run 165 = .ok (.isub, 1) := by decide +kernel
theorem dX5_run_166 : decode cX5_run 166 = .ok (.goto 5, 3) := by decide +kernel
theorem dX5_run_169 : decode cX5_run 169 = .ok (.iload 5, 2) := by decide +kernel
theorem dX5_run_171 : decode cX5_run 171 = .ok (.ireturn, 1) := by decide +kernel
theorem dX5_cut_0 : decode cX5_cut 0 = .ok (.iload_n 1, 1) := by decide +kernel
theorem dX5_cut_1 : decode cX5_cut 1 = .ok (.invokestatic 99, 3) := by decide +kernel
theorem dX5_cut_4 : decode cX5_cut 4 = .ok (.ifCond .eq 17, 3) := by decide +kernel
theorem dX5_cut_7 : decode cX5_cut 7 = .ok (.iload_n 2, 1) := by decide +kernel
theorem dX5_cut_8 : decode cX5_cut 8 = .ok (.invokestatic 102, 3) := by decide +kernel
theorem dX5_cut_11 : decode cX5_cut 11 = .ok (.ifCond .eq 10, 3) := by decide +kernel
theorem dX5_cut_14 : decode cX5_cut 14 = .ok (.iload_n 3, 1) := by decide +kernel
theorem dX5_cut_15 : decode cX5_cut 15 = .ok (.invokestatic 174, 3) := by decide +kernel
theorem dX5_cut_18 : decode cX5_cut 18 = .ok (.ifCond .ne 6, 3) := by decide +kernel
theorem dX5_cut_21 : decode cX5_cut 21 = .ok (.ldc 156, 2) := by decide +kernel
theorem dX5_cut_23 : decode cX5_cut 23 = .ok (.ireturn, 1) := by decide +kernel
theorem dX5_cut_24 : decode cX5_cut 24 = .ok (.aload_n 0, 1) := by decide +kernel
theorem dX5_cut_25 : decode cX5_cut 25 = .ok (.getfield 61, 3) := by decide +kernel
theorem dX5_cut_28 : decode cX5_cut 28 = .ok (.invokevirtual 141, 3) := by decide +kernel
theorem dX5_cut_31 : decode cX5_cut 31 = .ok (.istore 4, 2) := by decide +kernel
theorem dX5_cut_33 : decode cX5_cut 33 = .ok (.iconst (-1), 1) := by decide +kernel
theorem dX5_cut_34 : decode cX5_cut 34 = .ok (.istore 5, 2) := by decide +kernel
theorem dX5_cut_36 : decode cX5_cut 36 = .ok (.aload_n 0, 1) := by decide +kernel
theorem dX5_cut_37 : decode cX5_cut 37 = .ok (.getfield 65, 3) := by decide +kernel
theorem dX5_cut_40 : decode cX5_cut 40 = .ok (.aload_n 0, 1) := by decide +kernel
theorem dX5_cut_41 : decode cX5_cut 41 = .ok (.getfield 61, 3) := by decide +kernel
theorem dX5_cut_44 : decode cX5_cut 44 = .ok (.invokevirtual 167, 3) := by decide +kernel
theorem dX5_cut_47 : decode cX5_cut 47 = .ok (.aload_n 0, 1) := by decide +kernel
theorem dX5_cut_48 : decode cX5_cut 48 = .ok (.getfield 65, 3) := by decide +kernel
theorem dX5_cut_51 : decode cX5_cut 51 = .ok (.iload_n 1, 1) := by decide +kernel
theorem dX5_cut_52 : decode cX5_cut 52 = .ok (.iload_n 2, 1) := by decide +kernel
theorem dX5_cut_53 : decode cX5_cut 53 = .ok (.iconst 0, 1) := by decide +kernel
theorem dX5_cut_54 : decode cX5_cut 54 = .ok (.iconst 0, 1) := by decide +kernel
theorem dX5_cut_55 : decode cX5_cut 55 = .ok (.invokevirtual 111, 3) := by decide +kernel
theorem dX5_cut_58 : decode cX5_cut 58 = .ok (.astore 6, 2) := by decide +kernel
theorem dX5_cut_60 : decode cX5_cut 60 = .ok (.iconst 0, 1) := by decide +kernel
theorem dX5_cut_61 : decode cX5_cut 61 = .ok (.istore 7, 2) := by decide +kernel
theorem dX5_cut_63 : decode cX5_cut 63 = .ok (.iload 7, 2) := by decide +kernel
theorem dX5_cut_65 : decode cX5_cut 65 = .ok (.bipush 16, 2) := by decide +kernel
theorem dX5_cut_67 : decode cX5_cut 67 = .ok (.if_icmp .ge 65, 3) := by decide +kernel
theorem dX5_cut_70 : decode cX5_cut 70 = .ok (.iload 7, 2) := by decide +kernel
theorem dX5_cut_72 : decode cX5_cut 72 = .ok (.istore 8, 2) := by decide +kernel
theorem dX5_cut_74 : decode cX5_cut 74 = .ok (.iload 8, 2) := by decide +kernel
theorem dX5_cut_76 : decode cX5_cut 76 = .ok (.bipush 16, 2) := by decide +kernel
theorem dX5_cut_78 : decode cX5_cut 78 = .ok (.if_icmp .ge 48, 3) := by decide +kernel
theorem dX5_cut_81 : decode cX5_cut 81 = .ok (.aload 6, 2) := by decide +kernel
theorem dX5_cut_83 : decode cX5_cut 83 = .ok (.iload 7, 2) := by decide +kernel
theorem dX5_cut_85 : decode cX5_cut 85 = .ok (.iload 8, 2) := by decide +kernel
theorem dX5_cut_87 : decode cX5_cut 87 = .ok (.invokevirtual 177, 3) := by decide +kernel
theorem dX5_cut_90 : decode cX5_cut 90 = .ok (.aload_n 0, 1) := by decide +kernel
theorem dX5_cut_91 : decode cX5_cut 91 = .ok (.getfield 65, 3) := by decide +kernel
theorem dX5_cut_94 : decode cX5_cut 94 = .ok (.invokevirtual 141, 3) := by decide +kernel
theorem dX5_cut_97 : decode cX5_cut 97 = .ok (.istore 9, 2) := by decide +kernel
theorem dX5_cut_99 : decode cX5_cut 99 = .ok (.iload 9, 2) := by decide +kernel
theorem dX5_cut_101 : decode cX5_cut 101 = .ok (.iload 4, 2) := by decide +kernel
theorem dX5_cut_103 : decode cX5_cut 103 = .ok (.if_icmp .le 17, 3) := by decide +kernel
theorem dX5_cut_106 : decode cX5_cut 106 = .ok (.iload 9, 2) := by decide +kernel
theorem dX5_cut_108 : decode cX5_cut 108 = .ok (.istore 4, 2) := by decide +kernel
theorem dX5_cut_110 : decode cX5_cut 110 = .ok (.bipush 100, 2) := by decide +kernel
theorem dX5_cut_112 : decode cX5_cut 112 = .ok (.iload 7, 2) := by decide +kernel
theorem dX5_cut_114 : decode cX5_cut 114 = .ok (.imul, 1) := by decide +kernel
theorem dX5_cut_115 : decode cX5_cut 115 = .ok (.iload 8, 2) := by decide +kernel
theorem dX5_cut_117 : decode cX5_cut 117 = .ok (.iadd, 1) := by decide +kernel
theorem dX5_cut_118 : decode cX5_cut 118 = .ok (.istore 5, 2) := by decide +kernel
theorem dX5_cut_120 : decode cX5_cut 120 = .ok (.iinc 8 1, 3) := by decide +kernel
theorem dX5_cut_123 : decode cX5_cut 123 = .ok (.goto (-49), 3) := by decide +kernel
theorem dX5_cut_126 : decode cX5_cut 126 = .ok (.iinc 7 1, 3) := by decide +kernel
theorem dX5_cut_129 : decode cX5_cut 129 = .ok (.goto (-66), 3) := by decide +kernel
theorem dX5_cut_132 : decode cX5_cut 132 = .ok (.iload_n 3, 1) := by decide +kernel
theorem dX5_cut_133 : decode cX5_cut 133 = .ok (.ifCond .ne 8, 3) := by decide +kernel
theorem dX5_cut_136 : decode cX5_cut 136 = .ok (.iload 5, 2) := by decide +kernel
theorem dX5_cut_138 : decode cX5_cut 138 = .ok (.goto 5, 3) := by decide +kernel
theorem dX5_cut_141 : decode cX5_cut 141 = .ok (.iload 4, 2) := by decide +kernel
theorem dX5_cut_143 : decode cX5_cut 143 = .ok (.ireturn, 1) := by decide +kernel
theorem dX5_unpick_0 : decode cX5_unpick 0 = .ok (.iload_n 1, 1) := by decide +kernel
theorem dX5_unpick_1 : decode cX5_unpick 1 = .ok (.invokestatic 174, 3) := by decide +kernel
theorem dX5_unpick_4 : decode cX5_unpick 4 = .ok (.ifCond .ne 6, 3) := by decide +kernel
theorem dX5_unpick_7 : decode cX5_unpick 7 = .ok (.ldc 156, 2) := by decide +kernel
theorem dX5_unpick_9 : decode cX5_unpick 9 = .ok (.ireturn, 1) := by decide +kernel
theorem dX5_unpick_10 : decode cX5_unpick 10 = .ok (.aload_n 0, 1) := by decide +kernel
theorem dX5_unpick_11 : decode cX5_unpick 11 = .ok (.getfield 61, 3) := by decide +kernel
theorem dX5_unpick_14 : decode cX5_unpick 14 = .ok (.invokevirtual 141, 3) := by decide +kernel
theorem dX5_unpick_17 : decode cX5_unpick 17 = .ok (.istore_n 2, 1) := by decide +kernel
theorem dX5_unpick_18 : decode cX5_unpick 18 = .ok (.iconst (-1), 1) := by decide +kernel
theorem dX5_unpick_19 : decode cX5_unpick 19 = .ok (.istore_n 3, 1) := by decide +kernel
theorem dX5_unpick_20 : decode cX5_unpick 20 = .ok (.aload_n 0, 1) := by decide +kernel
theorem dX5_unpick_21 : decode cX5_unpick 21 = .ok (.getfield 65, 3) := by decide +kernel
theorem dX5_unpick_24 : decode cX5_unpick 24 = .ok (.aload_n 0, 1) := by decide +kernel
theorem dX5_unpick_25 : decode cX5_unpick 25 = .ok (.getfield 61, 3) := by decide +kernel
theorem dX5_unpick_28 : decode cX5_unpick 28 = .ok (.invokevirtual 167, 3) := by decide +kernel
theorem dX5_unpick_31 : decode cX5_unpick 31 = .ok (.iconst 0, 1) := by decide +kernel
theorem dX5_unpick_32 : decode cX5_unpick 32 = .ok (.istore 4, 2) := by decide +kernel
theorem dX5_unpick_34 : decode cX5_unpick 34 = .ok (.iload 4, 2) := by decide +kernel
theorem dX5_unpick_36 : decode cX5_unpick 36 = .ok (.aload_n 0, 1) := by decide +kernel
theorem dX5_unpick_37 : decode cX5_unpick 37 = .ok (.getfield 65, 3) := by decide +kernel
theorem dX5_unpick_40 : decode cX5_unpick 40 = .ok (.getfield 108, 3) := by decide +kernel
theorem dX5_unpick_43 : decode cX5_unpick 43 = .ok (.if_icmp .ge 62, 3) := by decide +kernel
theorem dX5_unpick_46 : decode cX5_unpick 46 = .ok (.aload_n 0, 1) := by decide +kernel
theorem dX5_unpick_47 : decode cX5_unpick 47 = .ok (.getfield 65, 3) := by decide +kernel
theorem dX5_unpick_50 : decode cX5_unpick 50 = .ok (.getfield 89, 3) := by decide +kernel
theorem dX5_unpick_53 : decode cX5_unpick 53 = .ok (.iload 4, 2) := by decide +kernel
theorem dX5_unpick_55 : decode cX5_unpick 55 = .ok (.aaload, 1) := by decide +kernel
theorem dX5_unpick_56 : decode cX5_unpick 56 = .ok (.astore 5, 2) := by decide +kernel
theorem dX5_unpick_58 : decode cX5_unpick 58 = .ok (.aload 5, 2) := by decide +kernel
theorem dX5_unpick_60 : decode cX5_unpick 60 = .ok (.getfield 180, 3) := by decide +kernel
theorem dX5_unpick_63 : decode cX5_unpick 63 = .ok (.ifCond .ne 36, 3) := by decide +kernel
theorem dX5_unpick_66 : decode cX5_unpick 66 = .ok (.aload 5, 2) := by decide +kernel
theorem dX5_unpick_68 : decode cX5_unpick 68 = .ok (.iconst 1, 1) := by decide +kernel
theorem dX5_unpick_69 : decode cX5_unpick 69 = .ok (.putfield 180, 3) := by decide +kernel
theorem dX5_unpick_72 : decode cX5_unpick 72 = .ok (.aload_n 0, 1) := by decide +kernel
theorem dX5_unpick_73 : decode cX5_unpick 73 = .ok (.getfield 65, 3) := by decide +kernel
theorem dX5_unpick_76 : decode cX5_unpick 76 = .ok (.invokevirtual 141, 3) := by decide +kernel
theorem dX5_unpick_79 : decode cX5_unpick 79 = .ok (.istore 6, 2) := by decide +kernel
theorem dX5_unpick_81 : decode cX5_unpick 81 = .ok (.aload 5, 2) := by decide +kernel
theorem dX5_unpick_83 : decode cX5_unpick 83 = .ok (.iconst 0, 1) := by decide +kernel
theorem dX5_unpick_84 : decode cX5_unpick 84 = .ok (.putfield 180, 3) := by decide +kernel
theorem dX5_unpick_87 : decode cX5_unpick 87 = .ok (.iload 6, 2) := by decide +kernel
theorem dX5_unpick_89 : decode cX5_unpick 89 = .ok (.iload_n 2, 1) := by decide +kernel
theorem dX5_unpick_90 : decode cX5_unpick 90 = .ok (.if_icmp .le 9, 3) := by decide +kernel
theorem dX5_unpick_93 : decode cX5_unpick 93 = .ok (.iload 6, 2) := by decide +kernel
theorem dX5_unpick_95 : decode cX5_unpick 95 = .ok (.istore_n 2, 1) := by decide +kernel
theorem dX5_unpick_96 : decode cX5_unpick 96 = .ok (.iload 4, 2) := by decide +kernel
theorem dX5_unpick_98 : decode cX5_unpick 98 = .ok (.istore_n 3, 1) := by decide +kernel
theorem dX5_unpick_99 : decode cX5_unpick 99 = .ok (.iinc 4 1, 3) := by decide +kernel
theorem dX5_unpick_102 : decode cX5_unpick 102 = .ok (.goto (-68), 3) := by decide +kernel
theorem dX5_unpick_105 : decode cX5_unpick 105 = .ok (.iload_n 1, 1) := by decide +kernel
theorem dX5_unpick_106 : decode cX5_unpick 106 = .ok (.ifCond .ne 7, 3) := by decide +kernel
theorem dX5_unpick_109 : decode cX5_unpick 109 = .ok (.iload_n 3, 1) := by decide +kernel
theorem dX5_unpick_110 : decode cX5_unpick 110 = .ok (.goto 4, 3) := by decide +kernel
theorem dX5_unpick_113 : decode cX5_unpick 113 = .ok (.iload_n 2, 1) := by decide +kernel
theorem dX5_unpick_114 : decode cX5_unpick 114 = .ok (.ireturn, 1) := by decide +kernel
theorem dX5_thread_0 : decode cX5_thread 0 = .ok (.aload_n 0, 1) := by decide +kernel
theorem dX5_thread_1 : decode cX5_thread 1 = .ok (.iload_n 1, 1) := by decide +kernel
theorem dX5_thread_2 : decode cX5_thread 2 = .ok (.invokevirtual 163, 3) := by decide +kernel
theorem dX5_thread_5 : decode cX5_thread 5 = .ok (.ifCond .eq 17, 3) := by decide +kernel
theorem dX5_thread_8 : decode cX5_thread 8 = .ok (.iload_n 2, 1) := by decide +kernel
theorem dX5_thread_9 : decode cX5_thread 9 = .ok (.invokestatic 160, 3) := by decide +kernel
theorem dX5_thread_12 : decode cX5_thread 12 = .ok (.ifCond .eq 10, 3) := by decide +kernel
theorem dX5_thread_15 : decode cX5_thread 15 = .ok (.iload_n 3, 1) := by decide +kernel
theorem dX5_thread_16 : decode cX5_thread 16 = .ok (.invokestatic 174, 3) := by decide +kernel
theorem dX5_thread_19 : decode cX5_thread 19 = .ok (.ifCond .ne 6, 3) := by decide +kernel
theorem dX5_thread_22 : decode cX5_thread 22 = .ok (.ldc 166, 2) := by decide +kernel
theorem dX5_thread_24 : decode cX5_thread 24 = .ok (.ireturn, 1) := by decide +kernel
theorem dX5_thread_25 : decode cX5_thread 25 = .ok (.iconst 0, 1) := by decide +kernel
theorem dX5_thread_26 : decode cX5_thread 26 = .ok (.istore 4, 2) := by decide +kernel
theorem dX5_thread_28 : decode cX5_thread 28 = .ok (.iconst (-1), 1) := by decide +kernel
theorem dX5_thread_29 : decode cX5_thread 29 = .ok (.istore 5, 2) := by decide +kernel
theorem dX5_thread_31 : decode cX5_thread 31 = .ok (.iconst 0, 1) := by decide +kernel
theorem dX5_thread_32 : decode cX5_thread 32 = .ok (.istore 6, 2) := by decide +kernel
theorem dX5_thread_34 : decode cX5_thread 34 = .ok (.iload 6, 2) := by decide +kernel
theorem dX5_thread_36 : decode cX5_thread 36 = .ok (.bipush 6, 2) := by decide +kernel
theorem dX5_thread_38 : decode cX5_thread 38 = .ok (.if_icmp .ge 93, 3) := by decide +kernel
theorem dX5_thread_41 : decode cX5_thread 41 = .ok (.aload_n 0, 1) := by decide +kernel
theorem dX5_thread_42 : decode cX5_thread 42 = .ok (.getfield 65, 3) := by decide +kernel
theorem dX5_thread_45 : decode cX5_thread 45 = .ok (.aload_n 0, 1) := by decide +kernel
theorem dX5_thread_46 : decode cX5_thread 46 = .ok (.getfield 61, 3) := by decide +kernel
theorem dX5_thread_49 : decode cX5_thread 49 = .ok (.invokevirtual 167, 3) := by decide +kernel
theorem dX5_thread_52 : decode cX5_thread 52 = .ok (.aload_n 0, 1) := by decide +kernel
theorem dX5_thread_53 : decode cX5_thread 53 = .ok (.getfield 65, 3) := by decide +kernel
theorem dX5_thread_56 : decode cX5_thread 56 = .ok (.getfield 89, 3) := by decide +kernel
theorem dX5_thread_59 : decode cX5_thread 59 = .ok (.iload_n 1, 1) := by decide +kernel
theorem dX5_thread_60 : decode cX5_thread 60 = .ok (.aaload, 1) := by decide +kernel
theorem dX5_thread_61 : decode cX5_thread 61 = .ok (.iload 6, 2) := by decide +kernel
theorem dX5_thread_63 : decode cX5_thread 63 = .ok (.putfield 184, 3) := by decide +kernel
theorem dX5_thread_66 : decode cX5_thread 66 = .ok (.iconst 0, 1) := by decide +kernel
theorem dX5_thread_67 : decode cX5_thread 67 = .ok (.istore 7, 2) := by decide +kernel
theorem dX5_thread_69 : decode cX5_thread 69 = .ok (.iconst 0, 1) := by decide +kernel
theorem dX5_thread_70 : decode cX5_thread 70 = .ok (.istore 8, 2) := by decide +kernel
theorem dX5_thread_72 : decode cX5_thread 72 = .ok (.iload 8, 2) := by decide +kernel
theorem dX5_thread_74 : decode cX5_thread 74 = .ok (.iload_n 2, 1) := by decide +kernel
theorem dX5_thread_75 : decode cX5_thread 75 = .ok (.if_icmp .ge 29, 3) := by decide +kernel
theorem dX5_thread_78 : decode cX5_thread 78 = .ok (.aload_n 0, 1) := by decide +kernel
theorem dX5_thread_79 : decode cX5_thread 79 = .ok (.getfield 65, 3) := by decide +kernel
theorem dX5_thread_82 : decode cX5_thread 82 = .ok (.invokevirtual 157, 3) := by decide +kernel
theorem dX5_thread_85 : decode cX5_thread 85 = .ok (.pop, 1) := by decide +kernel
theorem dX5_thread_86 : decode cX5_thread 86 = .ok (.iload 7, 2) := by decide +kernel
theorem dX5_thread_88 : decode cX5_thread 88 = .ok (.aload_n 0, 1) := by decide +kernel
theorem dX5_thread_89 : decode cX5_thread 89 = .ok (.getfield 65, 3) := by decide +kernel
theorem dX5_thread_92 : decode cX5_thread 92 = .ok (.invokevirtual 141, 3) := by decide +kernel
theorem dX5_thread_95 : decode cX5_thread 95 = .ok (.iadd, 1) := by decide +kernel
theorem dX5_thread_96 : decode cX5_thread 96 = .ok (.istore 7, 2) := by decide +kernel
theorem dX5_thread_98 : decode cX5_thread 98 = .ok (.iinc 8 1, 3) := by decide +kernel
theorem dX5_thread_101 : decode cX5_thread 101 = .ok (.goto (-29), 3) := by decide +kernel
theorem dX5_thread_104 : decode cX5_thread 104 = .ok (.iload 5, 2) := by decide +kernel
theorem dX5_thread_106 : decode cX5_thread 106 = .ok (.iconst (-1), 1) := by decide +kernel
theorem dX5_thread_107 : decode cX5_thread 107 = .ok (.if_icmp .eq 10, 3) := by decide +kernel
theorem dX5_thread_110 : decode cX5_thread 110 = .ok (.iload 7, 2) := by decide +kernel
theorem dX5_thread_112 : decode cX5_thread 112 = .ok (.iload 4, 2) := by decide +kernel
theorem dX5_thread_114 : decode cX5_thread 114 = .ok (.if_icmp .le 11, 3) := by decide +kernel
theorem dX5_thread_117 : decode cX5_thread 117 = .ok (.iload 7, 2) := by decide +kernel
theorem dX5_thread_119 : decode cX5_thread 119 = .ok (.istore 4, 2) := by decide +kernel
theorem dX5_thread_121 : decode cX5_thread 121 = .ok (.iload 6, 2) := by decide +kernel
theorem dX5_thread_123 : decode cX5_thread 123 = .ok (.istore 5, 2) := by decide +kernel
theorem dX5_thread_125 : decode cX5_thread 125 = .ok (.iinc 6 1, 3) := by decide +kernel
theorem dX5_thread_128 : decode cX5_thread 128 = .ok (.goto (-94), 3) := by decide +kernel
theorem dX5_thread_131 : decode cX5_thread 131 = .ok (.iload_n 3, 1) := by decide +kernel
theorem dX5_thread_132 : decode cX5_thread 132 = .ok (.ifCond .ne 8, 3) := by decide +kernel
theorem dX5_thread_135 : decode cX5_thread 135 = .ok (.iload 5, 2) := by decide +kernel
theorem dX5_thread_137 : decode cX5_thread 137 = .ok (.goto 5, 3) := by decide +kernel
theorem dX5_thread_140 : decode cX5_thread 140 = .ok (.iload 4, 2) := by decide +kernel
theorem dX5_thread_142 : decode cX5_thread 142 = .ok (.ireturn, 1) := by decide +kernel
theorem dX5_move_0 : decode cX5_move 0 = .ok (.aload_n 0, 1) := by decide +kernel
theorem dX5_move_1 : decode cX5_move 1 = .ok (.iload_n 1, 1) := by decide +kernel
theorem dX5_move_2 : decode cX5_move 2 = .ok (.invokevirtual 163, 3) := by decide +kernel
theorem dX5_move_5 : decode cX5_move 5 = .ok (.ifCond .eq 10, 3) := by decide +kernel
theorem dX5_move_8 : decode cX5_move 8 = .ok (.iload_n 2, 1) := by decide +kernel
theorem dX5_move_9 : decode cX5_move 9 = .ok (.invokestatic 174, 3) := by decide +kernel
theorem dX5_move_12 : decode cX5_move 12 = .ok (.ifCond .ne 6, 3) := by decide +kernel
theorem dX5_move_15 : decode cX5_move 15 = .ok (.ldc 156, 2) := by decide +kernel
theorem dX5_move_17 : decode cX5_move 17 = .ok (.ireturn, 1) := by decide +kernel
theorem dX5_move_18 : decode cX5_move 18 = .ok (.iconst 0, 1) := by decide +kernel
theorem dX5_move_19 : decode cX5_move 19 = .ok (.istore_n 3, 1) := by decide +kernel
theorem dX5_move_20 : decode cX5_move 20 = .ok (.iconst (-1), 1) := by decide +kernel
theorem dX5_move_21 : decode cX5_move 21 = .ok (.istore 4, 2) := by decide +kernel
theorem dX5_move_23 : decode cX5_move 23 = .ok (.iconst 0, 1) := by decide +kernel
theorem dX5_move_24 : decode cX5_move 24 = .ok (.istore 5, 2) := by decide +kernel
theorem dX5_move_26 : decode cX5_move 26 = .ok (.iload 5, 2) := by decide +kernel
theorem dX5_move_28 : decode cX5_move 28 = .ok (.bipush 16, 2) := by decide +kernel
theorem dX5_move_30 : decode cX5_move 30 = .ok (.if_icmp .ge 62, 3) := by decide +kernel
theorem dX5_move_33 : decode cX5_move 33 = .ok (.aload_n 0, 1) := by decide +kernel
theorem dX5_move_34 : decode cX5_move 34 = .ok (.getfield 65, 3) := by decide +kernel
theorem dX5_move_37 : decode cX5_move 37 = .ok (.aload_n 0, 1) := by decide +kernel
theorem dX5_move_38 : decode cX5_move 38 = .ok (.getfield 61, 3) := by decide +kernel
theorem dX5_move_41 : decode cX5_move 41 = .ok (.invokevirtual 167, 3) := by decide +kernel
theorem dX5_move_44 : decode cX5_move 44 = .ok (.aload_n 0, 1) := by decide +kernel
theorem dX5_move_45 : decode cX5_move 45 = .ok (.getfield 65, 3) := by decide +kernel
theorem dX5_move_48 : decode cX5_move 48 = .ok (.getfield 89, 3) := by decide +kernel
theorem dX5_move_51 : decode cX5_move 51 = .ok (.iload_n 1, 1) := by decide +kernel
theorem dX5_move_52 : decode cX5_move 52 = .ok (.aaload, 1) := by decide +kernel
theorem dX5_move_53 : decode cX5_move 53 = .ok (.iload 5, 2) := by decide +kernel
theorem dX5_move_55 : decode cX5_move 55 = .ok (.invokevirtual 187, 3) := by decide +kernel
theorem dX5_move_58 : decode cX5_move 58 = .ok (.aload_n 0, 1) := by decide +kernel
theorem dX5_move_59 : decode cX5_move 59 = .ok (.getfield 65, 3) := by decide +kernel
theorem dX5_move_62 : decode cX5_move 62 = .ok (.invokevirtual 141, 3) := by decide +kernel
theorem dX5_move_65 : decode cX5_move 65 = .ok (.istore 6, 2) := by decide +kernel
theorem dX5_move_67 : decode cX5_move 67 = .ok (.iload 4, 2) := by decide +kernel
theorem dX5_move_69 : decode cX5_move 69 = .ok (.iconst (-1), 1) := by decide +kernel
theorem dX5_move_70 : decode cX5_move 70 = .ok (.if_icmp .eq 9, 3) := by decide +kernel
theorem dX5_move_73 : decode cX5_move 73 = .ok (.iload 6, 2) := by decide +kernel
theorem dX5_move_75 : decode cX5_move 75 = .ok (.iload_n 3, 1) := by decide +kernel
theorem dX5_move_76 : decode cX5_move 76 = .ok (.if_icmp .le 10, 3) := by decide +kernel
theorem dX5_move_79 : decode cX5_move 79 = .ok (.iload 6, 2) := by decide +kernel
theorem dX5_move_81 : decode cX5_move 81 = .ok (.istore_n 3, 1) := by decide +kernel
theorem dX5_move_82 : decode cX5_move 82 = .ok (.iload 5, 2) := by decide +kernel
theorem dX5_move_84 : decode cX5_move 84 = .ok (.istore 4, 2) := by decide +kernel
theorem dX5_move_86 : decode cX5_move 86 = .ok (.iinc 5 1, 3) := by decide +kernel
theorem dX5_move_89 : decode cX5_move 89 = .ok (.goto (-63), 3) := by decide +kernel
theorem dX5_move_92 : decode cX5_move 92 = .ok (.iload_n 2, 1) := by decide +kernel
theorem dX5_move_93 : decode cX5_move 93 = .ok (.ifCond .ne 8, 3) := by decide +kernel
theorem dX5_move_96 : decode cX5_move 96 = .ok (.iload 4, 2) := by decide +kernel
theorem dX5_move_98 : decode cX5_move 98 = .ok (.goto 4, 3) := by decide +kernel
theorem dX5_move_101 : decode cX5_move 101 = .ok (.iload_n 3, 1) := by decide +kernel
theorem dX5_move_102 : decode cX5_move 102 = .ok (.ireturn, 1) := by decide +kernel
theorem dX5_tells_0 : decode cX5_tells 0 = .ok (.iload_n 1, 1) := by decide +kernel
theorem dX5_tells_1 : decode cX5_tells 1 = .ok (.invokestatic 190, 3) := by decide +kernel
theorem dX5_tells_4 : decode cX5_tells 4 = .ok (.ifCond .eq 18, 3) := by decide +kernel
theorem dX5_tells_7 : decode cX5_tells 7 = .ok (.iload_n 2, 1) := by decide +kernel
theorem dX5_tells_8 : decode cX5_tells 8 = .ok (.invokestatic 174, 3) := by decide +kernel
theorem dX5_tells_11 : decode cX5_tells 11 = .ok (.ifCond .ne 14, 3) := by decide +kernel
theorem dX5_tells_14 : decode cX5_tells 14 = .ok (.aload_n 0, 1) := by decide +kernel
theorem dX5_tells_15 : decode cX5_tells 15 = .ok (.iload_n 2, 1) := by decide +kernel
theorem dX5_tells_16 : decode cX5_tells 16 = .ok (.invokevirtual 193, 3) := by decide +kernel
theorem dX5_tells_19 : decode cX5_tells 19 = .ok (.ifCond .ne 6, 3) := by decide +kernel
theorem dX5_tells_22 : decode cX5_tells 22 = .ok (.bipush (-2), 2) := by decide +kernel
theorem dX5_tells_24 : decode cX5_tells 24 = .ok (.ireturn, 1) := by decide +kernel
theorem dX5_tells_25 : decode cX5_tells 25 = .ok (.aload_n 0, 1) := by decide +kernel
theorem dX5_tells_26 : decode cX5_tells 26 = .ok (.getfield 17, 3) := by decide +kernel
theorem dX5_tells_29 : decode cX5_tells 29 = .ok (.iload_n 1, 1) := by decide +kernel
theorem dX5_tells_30 : decode cX5_tells 30 = .ok (.aaload, 1) := by decide +kernel
theorem dX5_tells_31 : decode cX5_tells 31 = .ok (.astore_n 3, 1) := by decide +kernel
theorem dX5_tells_32 : decode cX5_tells 32 = .ok (.aload_n 3, 1) := by decide +kernel
theorem dX5_tells_33 : decode cX5_tells 33 = .ok (.getfield 196, 3) := by decide +kernel
theorem dX5_tells_36 : decode cX5_tells 36 = .ok (.iconst (-1), 1) := by decide +kernel
theorem dX5_tells_37 : decode cX5_tells 37 = .ok (.if_icmp .ne 6, 3) := by decide +kernel
theorem dX5_tells_40 : decode cX5_tells 40 = .ok (.bipush (-11), 2) := by decide +kernel
theorem dX5_tells_42 : decode cX5_tells 42 = .ok (.ireturn, 1) := by decide +kernel
theorem dX5_tells_43 : decode cX5_tells 43 = .ok (.iload_n 2, 1) := by decide +kernel
theorem dX5_tells_44 : decode cX5_tells 44 = .ok (.ifCond .ne 20, 3) := by decide +kernel
theorem dX5_tells_47 : decode cX5_tells 47 = .ok (.aload_n 0, 1) := by decide +kernel
theorem dX5_tells_48 : decode cX5_tells 48 = .ok (.getfield 65, 3) := by decide +kernel
theorem dX5_tells_51 : decode cX5_tells 51 = .ok (.aload_n 0, 1) := by decide +kernel
theorem dX5_tells_52 : decode cX5_tells 52 = .ok (.getfield 61, 3) := by decide +kernel
theorem dX5_tells_55 : decode cX5_tells 55 = .ok (.invokevirtual 167, 3) := by decide +kernel
theorem dX5_tells_58 : decode cX5_tells 58 = .ok (.aload_n 0, 1) := by decide +kernel
theorem dX5_tells_59 : decode cX5_tells 59 = .ok (.aload_n 3, 1) := by decide +kernel
theorem dX5_tells_60 : decode cX5_tells 60 = .ok (.invokevirtual 199, 3) := by decide +kernel
theorem dX5_tells_63 : decode cX5_tells 63 = .ok (.ireturn, 1) := by decide +kernel
theorem dX5_tells_64 : decode cX5_tells 64 = .ok (.iload_n 2, 1) := by decide +kernel
theorem dX5_tells_65 : decode cX5_tells 65 = .ok (.bipush 10, 2) := by decide +kernel
theorem dX5_tells_67 : decode cX5_tells 67 = .ok (.if_icmp .ge 7, 3) := by decide +kernel
theorem dX5_tells_70 : decode cX5_tells 70 = .ok (.iconst 0, 1) := by decide +kernel
theorem dX5_tells_71 : decode cX5_tells 71 = .ok (.goto 7, 3) := by decide +kernel
theorem dX5_tells_74 : decode cX5_tells 74 = .ok (.iload_n 2, 1) := by decide +kernel
theorem dX5_tells_75 : decode cX5_tells 75 = .ok (.bipush 10, 2) := by decide +kernel
theorem dX5_tells_77 : decode cX5_tells 77 = .ok (.idiv, 1) := by decide +kernel
theorem dX5_tells_78 : decode cX5_tells 78 = .ok (.istore 4, 2) := by decide +kernel
theorem dX5_tells_80 : decode cX5_tells 80 = .ok (.iconst 0, 1) := by decide +kernel
theorem dX5_tells_81 : decode cX5_tells 81 = .ok (.istore 5, 2) := by decide +kernel
theorem dX5_tells_83 : decode cX5_tells 83 = .ok (.iconst 0, 1) := by decide +kernel
theorem dX5_tells_84 : decode cX5_tells 84 = .ok (.istore 6, 2) := by decide +kernel
theorem dX5_tells_86 : decode cX5_tells 86 = .ok (.iconst (-1), 1) := by decide +kernel
theorem dX5_tells_87 : decode cX5_tells 87 = .ok (.istore 7, 2) := by decide +kernel
theorem dX5_tells_89 : decode cX5_tells 89 = .ok (.iconst 0, 1) := by decide +kernel
theorem dX5_tells_90 : decode cX5_tells 90 = .ok (.istore 8, 2) := by decide +kernel
theorem dX5_tells_92 : decode cX5_tells 92 = .ok (.iload 8, 2) := by decide +kernel
theorem dX5_tells_94 : decode cX5_tells 94 = .ok (.aload_n 0, 1) := by decide +kernel
theorem dX5_tells_95 : decode cX5_tells 95 = .ok (.iload 4, 2) := by decide +kernel
theorem dX5_tells_97 : decode cX5_tells 97 = .ok (.invokevirtual 203, 3) := by decide +kernel
theorem dX5_tells_100 : decode cX5_tells 100 = .ok (.if_icmp .ge 79, 3) := by decide +kernel
theorem dX5_tells_103 : decode cX5_tells 103 = .ok (.aload_n 0, 1) := by decide +kernel
theorem dX5_tells_104 : decode cX5_tells 104 = .ok (.getfield 65, 3) := by decide +kernel
theorem dX5_tells_107 : decode cX5_tells 107 = .ok (.aload_n 0, 1) := by decide +kernel
theorem dX5_tells_108 : decode cX5_tells 108 = .ok (.getfield 61, 3) := by decide +kernel
theorem dX5_tells_111 : decode cX5_tells 111 = .ok (.invokevirtual 167, 3) := by decide +kernel
theorem dX5_tells_114 : decode cX5_tells 114 = .ok (.aload_n 0, 1) := by decide +kernel
theorem dX5_tells_115 : decode cX5_tells 115 = .ok (.iload 4, 2) := by decide +kernel
theorem dX5_tells_117 : decode cX5_tells 117 = .ok (.iload_n 2, 1) := by decide +kernel
theorem dX5_tells_118 : decode cX5_tells 118 = .ok (.bipush 10, 2) := by decide +kernel
theorem dX5_tells_120 : decode cX5_tells 120 = .ok (.irem, 1) := by decide +kernel
theorem dX5_tells_121 : decode cX5_tells 121 = .ok (.iload 8, 2) := by decide +kernel
theorem dX5_tells_123 : decode cX5_tells 123 = .ok (.invokevirtual 206, 3) := by decide +kernel
theorem dX5_tells_126 : decode cX5_tells 126 = .ok (.aload_n 0, 1) := by decide +kernel
theorem dX5_tells_127 : decode cX5_tells 127 = .ok (.aload_n 3, 1) := by decide +kernel
theorem dX5_tells_128 : decode cX5_tells 128 = .ok (.invokevirtual 199, 3) := by decide +kernel
theorem dX5_tells_131 : decode cX5_tells 131 = .ok (.iconst (-1), 1) := by decide +kernel
theorem dX5_tells_132 : decode cX5_tells 132 = .ok (.if_icmp .ne 41, 3) := by decide +kernel
theorem dX5_tells_135 : decode cX5_tells 135 = .ok (.iload 5, 2) := by decide +kernel
theorem dX5_tells_137 : decode cX5_tells 137 = .ok (.iload 8, 2) := by decide +kernel
theorem dX5_tells_139 : decode cX5_tells 139 = .ok (.bipush 32, 2) := by decide +kernel
theorem dX5_tells_141 : decode cX5_tells 141 = .ok (.if_icmp .ge 10, 3) := by decide +kernel
theorem dX5_tells_144 : decode cX5_tells 144 = .ok (.iconst 1, 1) := by decide +kernel
theorem dX5_tells_145 : decode cX5_tells 145 = .ok (.iload 8, 2) := by decide +kernel
theorem dX5_tells_147 : decode cX5_tells 147 = .ok (.ishl, 1) := by decide +kernel
theorem dX5_tells_148 : decode cX5_tells 148 = .ok (.goto 4, 3) := by decide +kernel
theorem dX5_tells_151 : decode cX5_tells 151 = .ok (.iconst 0, 1) := by decide +kernel
theorem dX5_tells_152 : decode cX5_tells 152 = .ok (.ior, 1) := by decide +kernel
theorem dX5_tells_153 : decode cX5_tells 153 = .ok (.istore 5, 2) := by decide +kernel
theorem dX5_tells_155 : decode cX5_tells 155 = .ok (.iinc 6 1, 3) := by decide +kernel
theorem dX5_tells_158 : decode cX5_tells 158 = .ok (.iload 7, 2) := by decide +kernel
theorem dX5_tells_160 : decode cX5_tells 160 = .ok (.iconst (-1), 1) := by decide +kernel
theorem dX5_tells_161 : decode cX5_tells 161 = .ok (.if_icmp .ne 8, 3) := by decide +kernel
theorem dX5_tells_164 : decode cX5_tells 164 = .ok (.iload 8, 2) := by decide +kernel
theorem dX5_tells_166 : decode cX5_tells 166 = .ok (.goto 5, 3) := by decide +kernel
theorem dX5_tells_169 : decode cX5_tells 169 = .ok (.iload 7, 2) := by decide +kernel
theorem dX5_tells_171 : decode cX5_tells 171 = .ok (.istore 7, 2) := by decide +kernel
theorem dX5_tells_173 : decode cX5_tells 173 = .ok (.iinc 8 1, 3) := by decide +kernel
theorem dX5_tells_176 : decode cX5_tells 176 = .ok (.goto (-84), 3) := by decide +kernel
theorem dX5_tells_179 : decode cX5_tells 179 = .ok (.iload 4, 2) := by decide +kernel
theorem dX5_tells_181 : decode cX5_tells 181 = .ok (.iconst 3, 1) := by decide +kernel
theorem dX5_tells_182 : decode cX5_tells 182 = .ok (.if_icmp .ne 6, 3) := by decide +kernel
theorem dX5_tells_185 : decode cX5_tells 185 = .ok (.iload 6, 2) := by decide +kernel
theorem dX5_tells_187 : decode cX5_tells 187 = .ok (.ireturn, 1) := by decide +kernel
theorem dX5_tells_188 : decode cX5_tells 188 = .ok (.iload 4, 2) := by decide +kernel
theorem dX5_tells_190 : decode cX5_tells 190 = .ok (.iconst 4, 1) := by decide +kernel
theorem dX5_tells_191 : decode cX5_tells 191 = .ok (.if_icmp .ne 8, 3) := by decide +kernel
theorem dX5_tells_194 : decode cX5_tells 194 = .ok (.iload 7, 2) := by decide +kernel
theorem dX5_tells_196 : decode cX5_tells 196 = .ok (.goto 5, 3) := by decide +kernel
theorem dX5_tells_199 : decode cX5_tells 199 = .ok (.iload 5, 2) := by decide +kernel
theorem dX5_tells_201 : decode cX5_tells 201 = .ok (.ireturn, 1) := by decide +kernel
theorem dX5_film_0 : decode cX5_film 0 = .ok (.iload_n 1, 1) := by decide +kernel
theorem dX5_film_1 : decode cX5_film 1 = .ok (.invokestatic 190, 3) := by decide +kernel
theorem dX5_film_4 : decode cX5_film 4 = .ok (.ifCond .eq 10, 3) := by decide +kernel
theorem dX5_film_7 : decode cX5_film 7 = .ok (.iload_n 2, 1) := by decide +kernel
theorem dX5_film_8 : decode cX5_film 8 = .ok (.invokestatic 160, 3) := by decide +kernel
theorem dX5_film_11 : decode cX5_film 11 = .ok (.ifCond .ne 6, 3) := by decide +kernel
theorem dX5_film_14 : decode cX5_film 14 = .ok (.bipush (-2), 2) := by decide +kernel
theorem dX5_film_16 : decode cX5_film 16 = .ok (.ireturn, 1) := by decide +kernel
theorem dX5_film_17 : decode cX5_film 17 = .ok (.aload_n 0, 1) := by decide +kernel
theorem dX5_film_18 : decode cX5_film 18 = .ok (.getfield 17, 3) := by decide +kernel
theorem dX5_film_21 : decode cX5_film 21 = .ok (.iload_n 1, 1) := by decide +kernel
theorem dX5_film_22 : decode cX5_film 22 = .ok (.aaload, 1) := by decide +kernel
theorem dX5_film_23 : decode cX5_film 23 = .ok (.astore_n 3, 1) := by decide +kernel
theorem dX5_film_24 : decode cX5_film 24 = .ok (.aload_n 3, 1) := by decide +kernel
theorem dX5_film_25 : decode cX5_film 25 = .ok (.iconst 2, 1) := by decide +kernel
theorem dX5_film_26 : decode cX5_film 26 = .ok (.iload_n 2, 1) := by decide +kernel
theorem dX5_film_27 : decode cX5_film 27 = .ok (.invokevirtual 210, 3) := by decide +kernel
theorem dX5_film_30 : decode cX5_film 30 = .ok (.aload_n 0, 1) := by decide +kernel
theorem dX5_film_31 : decode cX5_film 31 = .ok (.getfield 65, 3) := by decide +kernel
theorem dX5_film_34 : decode cX5_film 34 = .ok (.aload_n 0, 1) := by decide +kernel
theorem dX5_film_35 : decode cX5_film 35 = .ok (.getfield 61, 3) := by decide +kernel
theorem dX5_film_38 : decode cX5_film 38 = .ok (.invokevirtual 167, 3) := by decide +kernel
theorem dX5_film_41 : decode cX5_film 41 = .ok (.iconst 0, 1) := by decide +kernel
theorem dX5_film_42 : decode cX5_film 42 = .ok (.istore 4, 2) := by decide +kernel
theorem dX5_film_44 : decode cX5_film 44 = .ok (.iload 4, 2) := by decide +kernel
theorem dX5_film_46 : decode cX5_film 46 = .ok (.iload_n 2, 1) := by decide +kernel
theorem dX5_film_47 : decode cX5_film 47 = .ok (.if_icmp .ge 30, 3) := by decide +kernel
theorem dX5_film_50 : decode cX5_film 50 = .ok (.aload_n 3, 1) := by decide +kernel
theorem dX5_film_51 : decode cX5_film 51 = .ok (.iload 4, 2) := by decide +kernel
theorem dX5_film_53 : decode cX5_film 53 = .ok (.aload_n 0, 1) := by decide +kernel
theorem dX5_film_54 : decode cX5_film 54 = .ok (.getfield 65, 3) := by decide +kernel
theorem dX5_film_57 : decode cX5_film 57 = .ok (.invokevirtual 141, 3) := by decide +kernel
theorem dX5_film_60 : decode cX5_film 60 = .ok (.invokevirtual 213, 3) := by decide +kernel
theorem dX5_film_63 : decode cX5_film 63 = .ok (.aload_n 0, 1) := by decide +kernel
theorem dX5_film_64 : decode cX5_film 64 = .ok (.getfield 65, 3) := by decide +kernel
theorem dX5_film_67 : decode cX5_film 67 = .ok (.invokevirtual 157, 3) := by decide +kernel
theorem dX5_film_70 : decode cX5_film 70 = .ok (.pop, 1) := by decide +kernel
theorem dX5_film_71 : decode cX5_film 71 = .ok (.iinc 4 1, 3) := by decide +kernel
theorem dX5_film_74 : decode cX5_film 74 = .ok (.goto (-30), 3) := by decide +kernel
theorem dX5_film_77 : decode cX5_film 77 = .ok (.iload_n 2, 1) := by decide +kernel
theorem dX5_film_78 : decode cX5_film 78 = .ok (.ireturn, 1) := by decide +kernel
theorem dX5_drawn_0 : decode cX5_drawn 0 = .ok (.aload_n 0, 1) := by decide +kernel
theorem dX5_drawn_1 : decode cX5_drawn 1 = .ok (.getfield 65, 3) := by decide +kernel
theorem dX5_drawn_4 : decode cX5_drawn 4 = .ok (.aload_n 0, 1) := by decide +kernel
theorem dX5_drawn_5 : decode cX5_drawn 5 = .ok (.getfield 61, 3) := by decide +kernel
theorem dX5_drawn_8 : decode cX5_drawn 8 = .ok (.invokevirtual 167, 3) := by decide +kernel
theorem dX5_drawn_11 : decode cX5_drawn 11 = .ok (.aload_n 0, 1) := by decide +kernel
theorem dX5_drawn_12 : decode cX5_drawn 12 = .ok (.getfield 65, 3) := by decide +kernel
theorem dX5_drawn_15 : decode cX5_drawn 15 = .ok (.iload_n 1, 1) := by decide +kernel
theorem dX5_drawn_16 : decode cX5_drawn 16 = .ok (.invokevirtual 216, 3) := by decide +kernel
theorem dX5_drawn_19 : decode cX5_drawn 19 = .ok (.aload_n 0, 1) := by decide +kernel
theorem dX5_drawn_20 : decode cX5_drawn 20 = .ok (.getfield 65, 3) := by decide +kernel
theorem dX5_drawn_23 : decode cX5_drawn 23 = .ok (.invokevirtual 141, 3) := by decide +kernel
theorem dX5_drawn_26 : decode cX5_drawn 26 = .ok (.ireturn, 1) := by decide +kernel
theorem dX5_chance_0 : decode cX5_chance 0 = .ok (.iload_n 2, 1) := by decide +kernel
theorem dX5_chance_1 : decode cX5_chance 1 = .ok (.iconst 1, 1) := by decide +kernel
theorem dX5_chance_2 : decode cX5_chance 2 = .ok (.if_icmp .lt 16, 3) := by decide +kernel
theorem dX5_chance_5 : decode cX5_chance 5 = .ok (.iload_n 2, 1) := by decide +kernel
theorem dX5_chance_6 : decode cX5_chance 6 = .ok (.bipush 20, 2) := by decide +kernel
theorem dX5_chance_8 : decode cX5_chance 8 = .ok (.if_icmp .gt 10, 3) := by decide +kernel
theorem dX5_chance_11 : decode cX5_chance 11 = .ok (.iload_n 3, 1) := by decide +kernel
theorem dX5_chance_12 : decode cX5_chance 12 = .ok (.invokestatic 174, 3) := by decide +kernel
theorem dX5_chance_15 : decode cX5_chance 15 = .ok (.ifCond .ne 7, 3) := by decide +kernel
theorem dX5_chance_18 : decode cX5_chance 18 = .ok (.ldc2_w 219, 3) := by decide +kernel
theorem dX5_chance_21 : decode cX5_chance 21 = .ok (.lreturn, 1) := by decide +kernel
theorem dX5_chance_22 : decode cX5_chance 22 = .ok (.iconst 0, 1) := by decide +kernel
theorem dX5_chance_23 : decode cX5_chance 23 = .ok (.istore 4, 2) := by decide +kernel
theorem dX5_chance_25 : decode cX5_chance 25 = .ok (.iload_n 2, 1) := by decide +kernel
theorem dX5_chance_26 : decode cX5_chance 26 = .ok (.istore 5, 2) := by decide +kernel
theorem dX5_chance_28 : decode cX5_chance 28 = .ok (.aload_n 0, 1) := by decide +kernel
theorem dX5_chance_29 : decode cX5_chance 29 = .ok (.getfield 65, 3) := by decide +kernel
theorem dX5_chance_32 : decode cX5_chance 32 = .ok (.aload_n 0, 1) := by decide +kernel
theorem dX5_chance_33 : decode cX5_chance 33 = .ok (.getfield 61, 3) := by decide +kernel
theorem dX5_chance_36 : decode cX5_chance 36 = .ok (.invokevirtual 167, 3) := by decide +kernel
theorem dX5_chance_39 : decode cX5_chance 39 = .ok (.iconst 0, 1) := by decide +kernel
theorem dX5_chance_40 : decode cX5_chance 40 = .ok (.istore 6, 2) := by decide +kernel
theorem dX5_chance_42 : decode cX5_chance 42 = .ok (.iload 6, 2) := by decide +kernel
theorem dX5_chance_44 : decode cX5_chance 44 = .ok (.iload_n 2, 1) := by decide +kernel
theorem dX5_chance_45 : decode cX5_chance 45 = .ok (.if_icmp .ge 40, 3) := by decide +kernel
theorem dX5_chance_48 : decode cX5_chance 48 = .ok (.aload_n 0, 1) := by decide +kernel
theorem dX5_chance_49 : decode cX5_chance 49 = .ok (.getfield 65, 3) := by decide +kernel
theorem dX5_chance_52 : decode cX5_chance 52 = .ok (.iload_n 1, 1) := by decide +kernel
theorem dX5_chance_53 : decode cX5_chance 53 = .ok (.iload 6, 2) := by decide +kernel
theorem dX5_chance_55 : decode cX5_chance 55 = .ok (.iadd, 1) := by decide +kernel
theorem dX5_chance_56 : decode cX5_chance 56 = .ok (.invokevirtual 216, 3) := by decide +kernel
theorem dX5_chance_59 : decode cX5_chance 59 = .ok (.aload_n 0, 1) := by decide +kernel
theorem dX5_chance_60 : decode cX5_chance 60 = .ok (.getfield 65, 3) := by decide +kernel
theorem dX5_chance_63 : decode cX5_chance 63 = .ok (.invokevirtual 141, 3) := by decide +kernel
theorem dX5_chance_66 : decode cX5_chance 66 = .ok (.aload_n 0, 1) := by decide +kernel
theorem dX5_chance_67 : decode cX5_chance 67 = .ok (.getfield 65, 3) := by decide +kernel
theorem dX5_chance_70 : decode cX5_chance 70 = .ok (.invokevirtual 221, 3) := by decide +kernel
theorem dX5_chance_73 : decode cX5_chance 73 = .ok (.if_icmp .le 6, 3) := by decide +kernel
theorem dX5_chance_76 : decode cX5_chance 76 = .ok (.iinc 4 1, 3) := by decide +kernel
theorem dX5_chance_79 : decode cX5_chance 79 = .ok (.iinc 6 1, 3) := by decide +kernel
theorem dX5_chance_82 : decode cX5_chance 82 = .ok (.goto (-40), 3) := by decide +kernel
theorem dX5_chance_85 : decode cX5_chance 85 = .ok (.iload_n 2, 1) := by decide +kernel
theorem dX5_chance_86 : decode cX5_chance 86 = .ok (.istore 6, 2) := by decide +kernel
theorem dX5_chance_88 : decode cX5_chance 88 = .ok (.iload 6, 2) := by decide +kernel
theorem dX5_chance_90 : decode cX5_chance 90 = .ok (.iconst 1, 1) := by decide +kernel
theorem dX5_chance_91 : decode cX5_chance 91 = .ok (.if_icmp .le 39, 3) := by decide +kernel
theorem dX5_chance_94 : decode cX5_chance 94 = .ok (.iload 4, 2) := by decide +kernel
theorem dX5_chance_96 : decode cX5_chance 96 = .ok (.iload 6, 2) := by decide +kernel
theorem dX5_chance_98 : decode cX5_chance 98 = .ok (.irem, 1) := by decide +kernel
theorem dX5_chance_99 : decode cX5_chance 99 = .ok (.ifCond .ne 25, 3) := by decide +kernel
theorem dX5_chance_102 : decode cX5_chance 102 = .ok (.iload 5, 2) := by decide +kernel
theorem dX5_chance_104 : decode cX5_chance 104 = .ok (.iload 6, 2) := by decide +kernel
theorem dX5_chance_106 : decode cX5_chance 106 = .ok (.irem, 1) := by decide +kernel
theorem dX5_chance_107 : decode cX5_chance 107 = .ok (.ifCond .ne 17, 3) := by decide +kernel
theorem dX5_chance_110 : decode cX5_chance 110 = .ok (.iload 4, 2) := by decide +kernel
theorem dX5_chance_112 : decode cX5_chance 112 = .ok (.iload 6, 2) := by decide +kernel
theorem dX5_chance_114 : decode cX5_chance 114 = .ok (.idiv, 1) := by decide +kernel
theorem dX5_chance_115 : decode cX5_chance 115 = .ok (.istore 4, 2) := by decide +kernel
theorem dX5_chance_117 : decode cX5_chance 117 = .ok (.iload 5, 2) := by decide +kernel
theorem dX5_chance_119 : decode cX5_chance 119 = .ok (.iload 6, 2) := by decide +kernel
theorem dX5_chance_121 : decode cX5_chance 121 = .ok (.idiv, 1) := by decide +kernel
theorem dX5_chance_122 : decode cX5_chance 122 = .ok (.istore 5, 2) := by decide +kernel
theorem dX5_chance_124 : decode cX5_chance 124 = .ok (.iinc 6 (-1), 3) := by decide +kernel
theorem dX5_chance_127 : decode cX5_chance 127 = .ok (.goto (-39), 3) := by decide +kernel
theorem dX5_chance_130 : decode cX5_chance 130 = .ok (.iload_n 3, 1) := by decide +kernel
theorem dX5_chance_131 : decode cX5_chance 131 = .ok (.ifCond .ne 9, 3) := by decide +kernel
theorem dX5_chance_134 : decode cX5_chance 134 = .ok (.iload 4, 2) := by decide +kernel
theorem dX5_chance_136 : decode cX5_chance 136 = .ok (.i2l, 1) := by decide +kernel
theorem dX5_chance_137 : decode cX5_chance 137 = .ok (.goto 6, 3) := by decide +kernel
theorem dX5_chance_140 : decode cX5_chance 140 = .ok (.iload 5, 2) := by decide +kernel
theorem dX5_chance_142 : decode cX5_chance 142 = .ok (.i2l, 1) := by decide +kernel
theorem dX5_chance_143 : decode cX5_chance 143 = .ok (.lreturn, 1) := by decide +kernel
theorem dX5_image_0 : decode cX5_image 0 = .ok (.aload_n 0, 1) := by decide +kernel
theorem dX5_image_1 : decode cX5_image 1 = .ok (.getfield 68, 3) := by decide +kernel
theorem dX5_image_4 : decode cX5_image 4 = .ok (.aload_n 0, 1) := by decide +kernel
theorem dX5_image_5 : decode cX5_image 5 = .ok (.getfield 61, 3) := by decide +kernel
theorem dX5_image_8 : decode cX5_image 8 = .ok (.invokevirtual 167, 3) := by decide +kernel
theorem dX5_image_11 : decode cX5_image 11 = .ok (.aload_n 0, 1) := by decide +kernel
theorem dX5_image_12 : decode cX5_image 12 = .ok (.iconst 1, 1) := by decide +kernel
theorem dX5_image_13 : decode cX5_image 13 = .ok (.putfield 224, 3) := by decide +kernel
theorem dX5_image_16 : decode cX5_image 16 = .ok (.aload_n 0, 1) := by decide +kernel
theorem dX5_image_17 : decode cX5_image 17 = .ok (.getfield 68, 3) := by decide +kernel
theorem dX5_image_20 : decode cX5_image 20 = .ok (.getfield 108, 3) := by decide +kernel
theorem dX5_image_23 : decode cX5_image 23 = .ok (.ireturn, 1) := by decide +kernel
theorem dX5_back_0 : decode cX5_back 0 = .ok (.aload_n 0, 1) := by decide +kernel
theorem dX5_back_1 : decode cX5_back 1 = .ok (.getfield 224, 3) := by decide +kernel
theorem dX5_back_4 : decode cX5_back 4 = .ok (.ifCond .ne 6, 3) := by decide +kernel
theorem dX5_back_7 : decode cX5_back 7 = .ok (.bipush (-3), 2) := by decide +kernel
theorem dX5_back_9 : decode cX5_back 9 = .ok (.ireturn, 1) := by decide +kernel
theorem dX5_back_10 : decode cX5_back 10 = .ok (.aload_n 0, 1) := by decide +kernel
theorem dX5_back_11 : decode cX5_back 11 = .ok (.getfield 61, 3) := by decide +kernel
theorem dX5_back_14 : decode cX5_back 14 = .ok (.aload_n 0, 1) := by decide +kernel
theorem dX5_back_15 : decode cX5_back 15 = .ok (.getfield 68, 3) := by decide +kernel
theorem dX5_back_18 : decode cX5_back 18 = .ok (.invokevirtual 167, 3) := by decide +kernel
theorem dX5_back_21 : decode cX5_back 21 = .ok (.aload_n 0, 1) := by decide +kernel
theorem dX5_back_22 : decode cX5_back 22 = .ok (.getfield 61, 3) := by decide +kernel
theorem dX5_back_25 : decode cX5_back 25 = .ok (.getfield 108, 3) := by decide +kernel
theorem dX5_back_28 : decode cX5_back 28 = .ok (.ireturn, 1) := by decide +kernel
theorem dX5_count_0 : decode cX5_count 0 = .ok (.iload_n 1, 1) := by decide +kernel
theorem dX5_count_1 : decode cX5_count 1 = .ok (.tableswitch 101 0 5 #[39, 47, 63, 77, 82, 90], 39) := by decide +kernel
theorem dX5_count_40 : decode cX5_count 40 = .ok (.aload_n 0, 1) := by decide +kernel
theorem dX5_count_41 : decode cX5_count 41 = .ok (.getfield 61, 3) := by decide +kernel
theorem dX5_count_44 : decode cX5_count 44 = .ok (.getfield 108, 3) := by decide +kernel
theorem dX5_count_47 : decode cX5_count 47 = .ok (.ireturn, 1) := by decide +kernel
theorem dX5_count_48 : decode cX5_count 48 = .ok (.aload_n 0, 1) := by decide +kernel
theorem dX5_count_49 : decode cX5_count 49 = .ok (.getfield 61, 3) := by decide +kernel
theorem dX5_count_52 : decode cX5_count 52 = .ok (.getfield 108, 3) := by decide +kernel
theorem dX5_count_55 : decode cX5_count 55 = .ok (.aload_n 0, 1) := by decide +kernel
theorem dX5_count_56 : decode cX5_count 56 = .ok (.getfield 61, 3) := by decide +kernel
theorem dX5_count_59 : decode cX5_count 59 = .ok (.invokevirtual 171, 3) := by decide +kernel
theorem dX5_count_62 : decode cX5_count 62 = .ok (.isub, 1) := by decide +kernel
theorem dX5_count_63 : decode cX5_count 63 = .ok (.ireturn, 1) := by decide +kernel
theorem dX5_count_64 : decode cX5_count 64 = .ok (.bipush 16, 2) := by decide +kernel
theorem dX5_count_66 : decode cX5_count 66 = .ok (.aload_n 0, 1) := by decide +kernel
theorem dX5_count_67 : decode cX5_count 67 = .ok (.getfield 61, 3) := by decide +kernel
theorem dX5_count_70 : decode cX5_count 70 = .ok (.invokevirtual 144, 3) := by decide +kernel
theorem dX5_count_73 : decode cX5_count 73 = .ok (.invokestatic 227, 3) := by decide +kernel
theorem dX5_count_76 : decode cX5_count 76 = .ok (.isub, 1) := by decide +kernel
theorem dX5_count_77 : decode cX5_count 77 = .ok (.ireturn, 1) := by decide +kernel
theorem dX5_count_78 : decode cX5_count 78 = .ok (.aload_n 0, 1) := by decide +kernel
theorem dX5_count_79 : decode cX5_count 79 = .ok (.getfield 52, 3) := by decide +kernel
theorem dX5_count_82 : decode cX5_count 82 = .ok (.ireturn, 1) := by decide +kernel
theorem dX5_count_83 : decode cX5_count 83 = .ok (.aload_n 0, 1) := by decide +kernel
theorem dX5_count_84 : decode cX5_count 84 = .ok (.getfield 24, 3) := by decide +kernel
theorem dX5_count_87 : decode cX5_count 87 = .ok (.getfield 131, 3) := by decide +kernel
theorem dX5_count_90 : decode cX5_count 90 = .ok (.ireturn, 1) := by decide +kernel
theorem dX5_count_91 : decode cX5_count 91 = .ok (.aload_n 0, 1) := by decide +kernel
theorem dX5_count_92 : decode cX5_count 92 = .ok (.getfield 61, 3) := by decide +kernel
theorem dX5_count_95 : decode cX5_count 95 = .ok (.getfield 134, 3) := by decide +kernel
theorem dX5_count_98 : decode cX5_count 98 = .ok (.getfield 138, 3) := by decide +kernel
theorem dX5_count_101 : decode cX5_count 101 = .ok (.ireturn, 1) := by decide +kernel
theorem dX5_count_102 : decode cX5_count 102 = .ok (.bipush (-2), 2) := by decide +kernel
theorem dX5_count_104 : decode cX5_count 104 = .ok (.ireturn, 1) := by decide +kernel
theorem dX5_sheet_0 : decode cX5_sheet 0 = .ok (.iload_n 1, 1) := by decide +kernel
theorem dX5_sheet_1 : decode cX5_sheet 1 = .ok (.invokestatic 190, 3) := by decide +kernel
theorem dX5_sheet_4 : decode cX5_sheet 4 = .ok (.ifCond .eq 15, 3) := by decide +kernel
theorem dX5_sheet_7 : decode cX5_sheet 7 = .ok (.iload_n 2, 1) := by decide +kernel
theorem dX5_sheet_8 : decode cX5_sheet 8 = .ok (.iconst (-1), 1) := by decide +kernel
theorem dX5_sheet_9 : decode cX5_sheet 9 = .ok (.if_icmp .eq 13, 3) := by decide +kernel
theorem dX5_sheet_12 : decode cX5_sheet 12 = .ok (.iload_n 2, 1) := by decide +kernel
theorem dX5_sheet_13 : decode cX5_sheet 13 = .ok (.invokestatic 232, 3) := by decide +kernel
theorem dX5_sheet_16 : decode cX5_sheet 16 = .ok (.ifCond .ne 6, 3) := by decide +kernel
theorem dX5_sheet_19 : decode cX5_sheet 19 = .ok (.bipush (-2), 2) := by decide +kernel
theorem dX5_sheet_21 : decode cX5_sheet 21 = .ok (.ireturn, 1) := by decide +kernel
theorem dX5_sheet_22 : decode cX5_sheet 22 = .ok (.iload_n 2, 1) := by decide +kernel
theorem dX5_sheet_23 : decode cX5_sheet 23 = .ok (.iconst (-1), 1) := by decide +kernel
theorem dX5_sheet_24 : decode cX5_sheet 24 = .ok (.if_icmp .eq 12, 3) := by decide +kernel
theorem dX5_sheet_27 : decode cX5_sheet 27 = .ok (.iload_n 3, 1) := by decide +kernel
theorem dX5_sheet_28 : decode cX5_sheet 28 = .ok (.bipush 40, 2) := by decide +kernel
theorem dX5_sheet_30 : decode cX5_sheet 30 = .ok (.if_icmp .le 6, 3) := by decide +kernel
theorem dX5_sheet_33 : decode cX5_sheet 33 = .ok (.bipush (-2), 2) := by decide +kernel
theorem dX5_sheet_35 : decode cX5_sheet 35 = .ok (.ireturn, 1) := by decide +kernel
theorem dX5_sheet_36 : decode cX5_sheet 36 = .ok (.iload_n 2, 1) := by decide +kernel
theorem dX5_sheet_37 : decode cX5_sheet 37 = .ok (.iconst (-1), 1) := by decide +kernel
theorem dX5_sheet_38 : decode cX5_sheet 38 = .ok (.if_icmp .eq 10, 3) := by decide +kernel
theorem dX5_sheet_41 : decode cX5_sheet 41 = .ok (.iload_n 3, 1) := by decide +kernel
theorem dX5_sheet_42 : decode cX5_sheet 42 = .ok (.ifCond .ge 6, 3) := by decide +kernel
theorem dX5_sheet_45 : decode cX5_sheet 45 = .ok (.bipush (-14), 2) := by decide +kernel
theorem dX5_sheet_47 : decode cX5_sheet 47 = .ok (.ireturn, 1) := by decide +kernel
theorem dX5_sheet_48 : decode cX5_sheet 48 = .ok (.aload_n 0, 1) := by decide +kernel
theorem dX5_sheet_49 : decode cX5_sheet 49 = .ok (.getfield 17, 3) := by decide +kernel
theorem dX5_sheet_52 : decode cX5_sheet 52 = .ok (.iload_n 1, 1) := by decide +kernel
theorem dX5_sheet_53 : decode cX5_sheet 53 = .ok (.aaload, 1) := by decide +kernel
theorem dX5_sheet_54 : decode cX5_sheet 54 = .ok (.iload_n 2, 1) := by decide +kernel
theorem dX5_sheet_55 : decode cX5_sheet 55 = .ok (.iload_n 2, 1) := by decide +kernel
theorem dX5_sheet_56 : decode cX5_sheet 56 = .ok (.iconst (-1), 1) := by decide +kernel
theorem dX5_sheet_57 : decode cX5_sheet 57 = .ok (.if_icmp .ne 7, 3) := by decide +kernel
theorem dX5_sheet_60 : decode cX5_sheet 60 = .ok (.iconst 0, 1) := by decide +kernel
theorem dX5_sheet_61 : decode cX5_sheet 61 = .ok (.goto 4, 3) := by decide +kernel
theorem dX5_sheet_64 : decode cX5_sheet 64 = .ok (.iload_n 3, 1) := by decide +kernel
theorem dX5_sheet_65 : decode cX5_sheet 65 = .ok (.invokevirtual 210, 3) := by decide +kernel
theorem dX5_sheet_68 : decode cX5_sheet 68 = .ok (.iconst 1, 1) := by decide +kernel
theorem dX5_sheet_69 : decode cX5_sheet 69 = .ok (.ireturn, 1) := by decide +kernel
theorem dX5_cell_0 : decode cX5_cell 0 = .ok (.iload_n 1, 1) := by decide +kernel
theorem dX5_cell_1 : decode cX5_cell 1 = .ok (.invokestatic 190, 3) := by decide +kernel
theorem dX5_cell_4 : decode cX5_cell 4 = .ok (.ifCond .ne 6, 3) := by decide +kernel
theorem dX5_cell_7 : decode cX5_cell 7 = .ok (.bipush (-2), 2) := by decide +kernel
theorem dX5_cell_9 : decode cX5_cell 9 = .ok (.ireturn, 1) := by decide +kernel
theorem dX5_cell_10 : decode cX5_cell 10 = .ok (.aload_n 0, 1) := by decide +kernel
theorem dX5_cell_11 : decode cX5_cell 11 = .ok (.getfield 17, 3) := by decide +kernel
theorem dX5_cell_14 : decode cX5_cell 14 = .ok (.iload_n 1, 1) := by decide +kernel
theorem dX5_cell_15 : decode cX5_cell 15 = .ok (.aaload, 1) := by decide +kernel
theorem dX5_cell_16 : decode cX5_cell 16 = .ok (.astore 4, 2) := by decide +kernel
theorem dX5_cell_18 : decode cX5_cell 18 = .ok (.aload 4, 2) := by decide +kernel
theorem dX5_cell_20 : decode cX5_cell 20 = .ok (.getfield 196, 3) := by decide +kernel
theorem dX5_cell_23 : decode cX5_cell 23 = .ok (.iconst (-1), 1) := by decide +kernel
theorem dX5_cell_24 : decode cX5_cell 24 = .ok (.if_icmp .ne 6, 3) := by decide +kernel
theorem dX5_cell_27 : decode cX5_cell 27 = .ok (.bipush (-11), 2) := by decide +kernel
theorem dX5_cell_29 : decode cX5_cell 29 = .ok (.ireturn, 1) := by decide +kernel
theorem dX5_cell_30 : decode cX5_cell 30 = .ok (.aload 4, 2) := by decide +kernel
theorem dX5_cell_32 : decode cX5_cell 32 = .ok (.iload_n 2, 1) := by decide +kernel
theorem dX5_cell_33 : decode cX5_cell 33 = .ok (.iconst 1, 1) := by decide +kernel
theorem dX5_cell_34 : decode cX5_cell 34 = .ok (.invokevirtual 235, 3) := by decide +kernel
theorem dX5_cell_37 : decode cX5_cell 37 = .ok (.ifCond .ne 6, 3) := by decide +kernel
theorem dX5_cell_40 : decode cX5_cell 40 = .ok (.bipush (-12), 2) := by decide +kernel
theorem dX5_cell_42 : decode cX5_cell 42 = .ok (.ireturn, 1) := by decide +kernel
theorem dX5_cell_43 : decode cX5_cell 43 = .ok (.aload 4, 2) := by decide +kernel
theorem dX5_cell_45 : decode cX5_cell 45 = .ok (.iload_n 2, 1) := by decide +kernel
theorem dX5_cell_46 : decode cX5_cell 46 = .ok (.iload_n 3, 1) := by decide +kernel
theorem dX5_cell_47 : decode cX5_cell 47 = .ok (.invokevirtual 213, 3) := by decide +kernel
theorem dX5_cell_50 : decode cX5_cell 50 = .ok (.iconst 1, 1) := by decide +kernel
theorem dX5_cell_51 : decode cX5_cell 51 = .ok (.ireturn, 1) := by decide +kernel
theorem dX5_copy_0 : decode cX5_copy 0 = .ok (.iload_n 1, 1) := by decide +kernel
theorem dX5_copy_1 : decode cX5_copy 1 = .ok (.invokestatic 190, 3) := by decide +kernel
theorem dX5_copy_4 : decode cX5_copy 4 = .ok (.ifCond .eq 10, 3) := by decide +kernel
theorem dX5_copy_7 : decode cX5_copy 7 = .ok (.iload_n 3, 1) := by decide +kernel
theorem dX5_copy_8 : decode cX5_copy 8 = .ok (.invokestatic 190, 3) := by decide +kernel
theorem dX5_copy_11 : decode cX5_copy 11 = .ok (.ifCond .ne 6, 3) := by decide +kernel
theorem dX5_copy_14 : decode cX5_copy 14 = .ok (.bipush (-2), 2) := by decide +kernel
theorem dX5_copy_16 : decode cX5_copy 16 = .ok (.ireturn, 1) := by decide +kernel
theorem dX5_copy_17 : decode cX5_copy 17 = .ok (.aload_n 0, 1) := by decide +kernel
theorem dX5_copy_18 : decode cX5_copy 18 = .ok (.getfield 17, 3) := by decide +kernel
theorem dX5_copy_21 : decode cX5_copy 21 = .ok (.iload_n 1, 1) := by decide +kernel
theorem dX5_copy_22 : decode cX5_copy 22 = .ok (.aaload, 1) := by decide +kernel
theorem dX5_copy_23 : decode cX5_copy 23 = .ok (.astore 6, 2) := by decide +kernel
theorem dX5_copy_25 : decode cX5_copy 25 = .ok (.aload_n 0, 1) := by decide +kernel
theorem dX5_copy_26 : decode cX5_copy 26 = .ok (.getfield 17, 3) := by decide +kernel
theorem dX5_copy_29 : decode cX5_copy 29 = .ok (.iload_n 3, 1) := by decide +kernel
theorem dX5_copy_30 : decode cX5_copy 30 = .ok (.aaload, 1) := by decide +kernel
theorem dX5_copy_31 : decode cX5_copy 31 = .ok (.astore 7, 2) := by decide +kernel
theorem dX5_copy_33 : decode cX5_copy 33 = .ok (.aload 6, 2) := by decide +kernel
theorem dX5_copy_35 : decode cX5_copy 35 = .ok (.getfield 196, 3) := by decide +kernel
theorem dX5_copy_38 : decode cX5_copy 38 = .ok (.iconst (-1), 1) := by decide +kernel
theorem dX5_copy_39 : decode cX5_copy 39 = .ok (.if_icmp .eq 12, 3) := by decide +kernel
theorem dX5_copy_42 : decode cX5_copy 42 = .ok (.aload 7, 2) := by decide +kernel
theorem dX5_copy_44 : decode cX5_copy 44 = .ok (.getfield 196, 3) := by decide +kernel
theorem dX5_copy_47 : decode cX5_copy 47 = .ok (.iconst (-1), 1) := by decide +kernel
theorem dX5_copy_48 : decode cX5_copy 48 = .ok (.if_icmp .ne 6, 3) := by decide +kernel
theorem dX5_copy_51 : decode cX5_copy 51 = .ok (.bipush (-11), 2) := by decide +kernel
theorem dX5_copy_53 : decode cX5_copy 53 = .ok (.ireturn, 1) := by decide +kernel
theorem dX5_copy_54 : decode cX5_copy 54 = .ok (.aload 6, 2) := by decide +kernel
theorem dX5_copy_56 : decode cX5_copy 56 = .ok (.getfield 196, 3) := by decide +kernel
theorem dX5_copy_59 : decode cX5_copy 59 = .ok (.aload 7, 2) := by decide +kernel
theorem dX5_copy_61 : decode cX5_copy 61 = .ok (.getfield 196, 3) := by decide +kernel
theorem dX5_copy_64 : decode cX5_copy 64 = .ok (.if_icmp .eq 6, 3) := by decide +kernel
theorem dX5_copy_67 : decode cX5_copy 67 = .ok (.bipush (-13), 2) := by decide +kernel
theorem dX5_copy_69 : decode cX5_copy 69 = .ok (.ireturn, 1) := by decide +kernel
theorem dX5_copy_70 : decode cX5_copy 70 = .ok (.aload 6, 2) := by decide +kernel
theorem dX5_copy_72 : decode cX5_copy 72 = .ok (.iload_n 2, 1) := by decide +kernel
theorem dX5_copy_73 : decode cX5_copy 73 = .ok (.iload 5, 2) := by decide +kernel
theorem dX5_copy_75 : decode cX5_copy 75 = .ok (.invokevirtual 235, 3) := by decide +kernel
theorem dX5_copy_78 : decode cX5_copy 78 = .ok (.ifCond .eq 15, 3) := by decide +kernel
theorem dX5_copy_81 : decode cX5_copy 81 = .ok (.aload 7, 2) := by decide +kernel
theorem dX5_copy_83 : decode cX5_copy 83 = .ok (.iload 4, 2) := by decide +kernel
theorem dX5_copy_85 : decode cX5_copy 85 = .ok (.iload 5, 2) := by decide +kernel
theorem dX5_copy_87 : decode cX5_copy 87 = .ok (.invokevirtual 235, 3) := by decide +kernel
theorem dX5_copy_90 : decode cX5_copy 90 = .ok (.ifCond .ne 6, 3) := by decide +kernel
theorem dX5_copy_93 : decode cX5_copy 93 = .ok (.bipush (-12), 2) := by decide +kernel
theorem dX5_copy_95 : decode cX5_copy 95 = .ok (.ireturn, 1) := by decide +kernel
theorem dX5_copy_96 : decode cX5_copy 96 = .ok (.aload 6, 2) := by decide +kernel
theorem dX5_copy_98 : decode cX5_copy 98 = .ok (.getfield 238, 3) := by decide +kernel
theorem dX5_copy_101 : decode cX5_copy 101 = .ok (.iload_n 2, 1) := by decide +kernel
theorem dX5_copy_102 : decode cX5_copy 102 = .ok (.aload 7, 2) := by decide +kernel
theorem dX5_copy_104 : decode cX5_copy 104 = .ok (.getfield 238, 3) := by decide +kernel
theorem dX5_copy_107 : decode cX5_copy 107 = .ok (.iload 4, 2) := by decide +kernel
theorem dX5_copy_109 : decode cX5_copy 109 = .ok (.iload 5, 2) := by decide +kernel
theorem dX5_copy_111 : decode cX5_copy 111 = .ok (.invokestatic 241, 3) := by decide +kernel
theorem dX5_copy_114 : decode cX5_copy 114 = .ok (.iload 5, 2) := by decide +kernel
theorem dX5_copy_116 : decode cX5_copy 116 = .ok (.ireturn, 1) := by decide +kernel
theorem dX5_seams_0 : decode cX5_seams 0 = .ok (.iload_n 1, 1) := by decide +kernel
theorem dX5_seams_1 : decode cX5_seams 1 = .ok (.invokestatic 190, 3) := by decide +kernel
theorem dX5_seams_4 : decode cX5_seams 4 = .ok (.ifCond .eq 22, 3) := by decide +kernel
theorem dX5_seams_7 : decode cX5_seams 7 = .ok (.iload_n 2, 1) := by decide +kernel
theorem dX5_seams_8 : decode cX5_seams 8 = .ok (.invokestatic 232, 3) := by decide +kernel
theorem dX5_seams_11 : decode cX5_seams 11 = .ok (.ifCond .eq 15, 3) := by decide +kernel
theorem dX5_seams_14 : decode cX5_seams 14 = .ok (.iload 4, 2) := by decide +kernel
theorem dX5_seams_16 : decode cX5_seams 16 = .ok (.ifCond .lt 10, 3) := by decide +kernel
theorem dX5_seams_19 : decode cX5_seams 19 = .ok (.iload 4, 2) := by decide +kernel
theorem dX5_seams_21 : decode cX5_seams 21 = .ok (.bipush 6, 2) := by decide +kernel
theorem dX5_seams_23 : decode cX5_seams 23 = .ok (.if_icmp .le 6, 3) := by decide +kernel
theorem dX5_seams_26 : decode cX5_seams 26 = .ok (.bipush (-2), 2) := by decide +kernel
theorem dX5_seams_28 : decode cX5_seams 28 = .ok (.ireturn, 1) := by decide +kernel
theorem dX5_seams_29 : decode cX5_seams 29 = .ok (.aload_n 0, 1) := by decide +kernel
theorem dX5_seams_30 : decode cX5_seams 30 = .ok (.getfield 17, 3) := by decide +kernel
theorem dX5_seams_33 : decode cX5_seams 33 = .ok (.iload_n 1, 1) := by decide +kernel
theorem dX5_seams_34 : decode cX5_seams 34 = .ok (.aaload, 1) := by decide +kernel
theorem dX5_seams_35 : decode cX5_seams 35 = .ok (.astore 5, 2) := by decide +kernel
theorem dX5_seams_37 : decode cX5_seams 37 = .ok (.aload 5, 2) := by decide +kernel
theorem dX5_seams_39 : decode cX5_seams 39 = .ok (.getfield 196, 3) := by decide +kernel
theorem dX5_seams_42 : decode cX5_seams 42 = .ok (.iconst (-1), 1) := by decide +kernel
theorem dX5_seams_43 : decode cX5_seams 43 = .ok (.if_icmp .ne 6, 3) := by decide +kernel
theorem dX5_seams_46 : decode cX5_seams 46 = .ok (.bipush (-11), 2) := by decide +kernel
theorem dX5_seams_48 : decode cX5_seams 48 = .ok (.ireturn, 1) := by decide +kernel
theorem dX5_seams_49 : decode cX5_seams 49 = .ok (.aload 5, 2) := by decide +kernel
theorem dX5_seams_51 : decode cX5_seams 51 = .ok (.getfield 196, 3) := by decide +kernel
theorem dX5_seams_54 : decode cX5_seams 54 = .ok (.iload_n 2, 1) := by decide +kernel
theorem dX5_seams_55 : decode cX5_seams 55 = .ok (.if_icmp .eq 6, 3) := by decide +kernel
theorem dX5_seams_58 : decode cX5_seams 58 = .ok (.bipush (-13), 2) := by decide +kernel
theorem dX5_seams_60 : decode cX5_seams 60 = .ok (.ireturn, 1) := by decide +kernel
theorem dX5_seams_61 : decode cX5_seams 61 = .ok (.iconst 0, 1) := by decide +kernel
theorem dX5_seams_62 : decode cX5_seams 62 = .ok (.istore 6, 2) := by decide +kernel
theorem dX5_seams_64 : decode cX5_seams 64 = .ok (.iload_n 3, 1) := by decide +kernel
theorem dX5_seams_65 : decode cX5_seams 65 = .ok (.istore 7, 2) := by decide +kernel
theorem dX5_seams_67 : decode cX5_seams 67 = .ok (.iconst 0, 1) := by decide +kernel
theorem dX5_seams_68 : decode cX5_seams 68 = .ok (.istore 8, 2) := by decide +kernel
theorem dX5_seams_70 : decode cX5_seams 70 = .ok (.iload 8, 2) := by decide +kernel
theorem dX5_seams_72 : decode cX5_seams 72 = .ok (.iload 4, 2) := by decide +kernel
theorem dX5_seams_74 : decode cX5_seams 74 = .ok (.if_icmp .ge 64, 3) := by decide +kernel
theorem dX5_seams_77 : decode cX5_seams 77 = .ok (.aload 5, 2) := by decide +kernel
theorem dX5_seams_79 : decode cX5_seams 79 = .ok (.iload 7, 2) := by decide +kernel
theorem dX5_seams_81 : decode cX5_seams 81 = .ok (.iconst 3, 1) := by decide +kernel
theorem dX5_seams_82 : decode cX5_seams 82 = .ok (.invokevirtual 235, 3) := by decide +kernel
theorem dX5_seams_85 : decode cX5_seams 85 = .ok (.ifCond .ne 6, 3) := by decide +kernel
theorem dX5_seams_88 : decode cX5_seams 88 = .ok (.bipush (-12), 2) := by decide +kernel
theorem dX5_seams_90 : decode cX5_seams 90 = .ok (.ireturn, 1) := by decide +kernel
theorem dX5_seams_91 : decode cX5_seams 91 = .ok (.aload_n 0, 1) := by decide +kernel
theorem dX5_seams_92 : decode cX5_seams 92 = .ok (.aload 5, 2) := by decide +kernel
theorem dX5_seams_94 : decode cX5_seams 94 = .ok (.getfield 238, 3) := by decide +kernel
theorem dX5_seams_97 : decode cX5_seams 97 = .ok (.iload 7, 2) := by decide +kernel
theorem dX5_seams_99 : decode cX5_seams 99 = .ok (.iaload, 1) := by decide +kernel
theorem dX5_seams_100 : decode cX5_seams 100 = .ok (.aload 5, 2) := by decide +kernel
theorem dX5_seams_102 : decode cX5_seams 102 = .ok (.getfield 238, 3) := by decide +kernel
theorem dX5_seams_105 : decode cX5_seams 105 = .ok (.iload 7, 2) := by decide +kernel
theorem dX5_seams_107 : decode cX5_seams 107 = .ok (.iconst 1, 1) := by decide +kernel
theorem dX5_seams_108 : decode cX5_seams 108 = .ok (.iadd, 1) := by decide +kernel
theorem dX5_seams_109 : decode cX5_seams 109 = .ok (.iaload, 1) := by decide +kernel
theorem dX5_seams_110 : decode cX5_seams 110 = .ok (.aload 5, 2) := by decide +kernel
theorem dX5_seams_112 : decode cX5_seams 112 = .ok (.getfield 238, 3) := by decide +kernel
theorem dX5_seams_115 : decode cX5_seams 115 = .ok (.iload 7, 2) := by decide +kernel
theorem dX5_seams_117 : decode cX5_seams 117 = .ok (.iconst 2, 1) := by decide +kernel
theorem dX5_seams_118 : decode cX5_seams 118 = .ok (.iadd, 1) := by decide +kernel
theorem dX5_seams_119 : decode cX5_seams 119 = .ok (.iaload, 1) := by decide +kernel
theorem dX5_seams_120 : decode cX5_seams 120 = .ok (.invokevirtual 247, 3) := by decide +kernel
theorem dX5_seams_123 : decode cX5_seams 123 = .ok (.ifCond .lt 6, 3) := by decide +kernel
theorem dX5_seams_126 : decode cX5_seams 126 = .ok (.iinc 6 1, 3) := by decide +kernel
theorem dX5_seams_129 : decode cX5_seams 129 = .ok (.iinc 7 3, 3) := by decide +kernel
theorem dX5_seams_132 : decode cX5_seams 132 = .ok (.iinc 8 1, 3) := by decide +kernel
theorem dX5_seams_135 : decode cX5_seams 135 = .ok (.goto (-65), 3) := by decide +kernel
theorem dX5_seams_138 : decode cX5_seams 138 = .ok (.iload 6, 2) := by decide +kernel
theorem dX5_seams_140 : decode cX5_seams 140 = .ok (.ireturn, 1) := by decide +kernel
theorem dX5_taken_0 : decode cX5_taken 0 = .ok (.iload_n 2, 1) := by decide +kernel
theorem dX5_taken_1 : decode cX5_taken 1 = .ok (.invokestatic 99, 3) := by decide +kernel
theorem dX5_taken_4 : decode cX5_taken 4 = .ok (.ifCond .ne 6, 3) := by decide +kernel
theorem dX5_taken_7 : decode cX5_taken 7 = .ok (.bipush (-2), 2) := by decide +kernel
theorem dX5_taken_9 : decode cX5_taken 9 = .ok (.ireturn, 1) := by decide +kernel
theorem dX5_taken_10 : decode cX5_taken 10 = .ok (.aload_n 0, 1) := by decide +kernel
theorem dX5_taken_11 : decode cX5_taken 11 = .ok (.iload_n 1, 1) := by decide +kernel
theorem dX5_taken_12 : decode cX5_taken 12 = .ok (.invokevirtual 163, 3) := by decide +kernel
theorem dX5_taken_15 : decode cX5_taken 15 = .ok (.ifCond .ne 6, 3) := by decide +kernel
theorem dX5_taken_18 : decode cX5_taken 18 = .ok (.bipush (-11), 2) := by decide +kernel
theorem dX5_taken_20 : decode cX5_taken 20 = .ok (.ireturn, 1) := by decide +kernel
theorem dX5_taken_21 : decode cX5_taken 21 = .ok (.aload_n 0, 1) := by decide +kernel
theorem dX5_taken_22 : decode cX5_taken 22 = .ok (.getfield 61, 3) := by decide +kernel
theorem dX5_taken_25 : decode cX5_taken 25 = .ok (.getfield 89, 3) := by decide +kernel
theorem dX5_taken_28 : decode cX5_taken 28 = .ok (.iload_n 1, 1) := by decide +kernel
theorem dX5_taken_29 : decode cX5_taken 29 = .ok (.aaload, 1) := by decide +kernel
theorem dX5_taken_30 : decode cX5_taken 30 = .ok (.astore_n 3, 1) := by decide +kernel
theorem dX5_taken_31 : decode cX5_taken 31 = .ok (.aload_n 3, 1) := by decide +kernel
theorem dX5_taken_32 : decode cX5_taken 32 = .ok (.getfield 184, 3) := by decide +kernel
theorem dX5_taken_35 : decode cX5_taken 35 = .ok (.iload_n 2, 1) := by decide +kernel
theorem dX5_taken_36 : decode cX5_taken 36 = .ok (.invokestatic 251, 3) := by decide +kernel
theorem dX5_taken_39 : decode cX5_taken 39 = .ok (.ifCond .eq 10, 3) := by decide +kernel
theorem dX5_taken_42 : decode cX5_taken 42 = .ok (.aload_n 3, 1) := by decide +kernel
theorem dX5_taken_43 : decode cX5_taken 43 = .ok (.getfield 254, 3) := by decide +kernel
theorem dX5_taken_46 : decode cX5_taken 46 = .ok (.goto 5, 3) := by decide +kernel
theorem dX5_taken_49 : decode cX5_taken 49 = .ok (.bipush (-13), 2) := by decide +kernel
theorem dX5_taken_51 : decode cX5_taken 51 = .ok (.ireturn, 1) := by decide +kernel
theorem dX5_isKind_0 : decode cX5_isKind 0 = .ok (.iload_n 0, 1) := by decide +kernel
theorem dX5_isKind_1 : decode cX5_isKind 1 = .ok (.ifCond .lt 13, 3) := by decide +kernel
theorem dX5_isKind_4 : decode cX5_isKind 4 = .ok (.iload_n 0, 1) := by decide +kernel
theorem dX5_isKind_5 : decode cX5_isKind 5 = .ok (.bipush 6, 2) := by decide +kernel
theorem dX5_isKind_7 : decode cX5_isKind 7 = .ok (.if_icmp .ge 7, 3) := by decide +kernel
theorem dX5_isKind_10 : decode cX5_isKind 10 = .ok (.iconst 1, 1) := by decide +kernel
theorem dX5_isKind_11 : decode cX5_isKind 11 = .ok (.goto 4, 3) := by decide +kernel
theorem dX5_isKind_14 : decode cX5_isKind 14 = .ok (.iconst 0, 1) := by decide +kernel
theorem dX5_isKind_15 : decode cX5_isKind 15 = .ok (.ireturn, 1) := by decide +kernel
theorem dX5_isNumber_0 : decode cX5_isNumber 0 = .ok (.iload_n 0, 1) := by decide +kernel
theorem dX5_isNumber_1 : decode cX5_isNumber 1 = .ok (.ifCond .lt 13, 3) := by decide +kernel
theorem dX5_isNumber_4 : decode cX5_isNumber 4 = .ok (.iload_n 0, 1) := by decide +kernel
theorem dX5_isNumber_5 : decode cX5_isNumber 5 = .ok (.bipush 10, 2) := by decide +kernel
theorem dX5_isNumber_7 : decode cX5_isNumber 7 = .ok (.if_icmp .ge 7, 3) := by decide +kernel
theorem dX5_isNumber_10 : decode cX5_isNumber 10 = .ok (.iconst 1, 1) := by decide +kernel
theorem dX5_isNumber_11 : decode cX5_isNumber 11 = .ok (.goto 4, 3) := by decide +kernel
theorem dX5_isNumber_14 : decode cX5_isNumber 14 = .ok (.iconst 0, 1) := by decide +kernel
theorem dX5_isNumber_15 : decode cX5_isNumber 15 = .ok (.ireturn, 1) := by decide +kernel
theorem dX5_areEnds_0 : decode cX5_areEnds 0 = .ok (.iload_n 0, 1) := by decide +kernel
theorem dX5_areEnds_1 : decode cX5_areEnds 1 = .ok (.ifCond .lt 27, 3) := by decide +kernel
theorem dX5_areEnds_4 : decode cX5_areEnds 4 = .ok (.iload_n 0, 1) := by decide +kernel
theorem dX5_areEnds_5 : decode cX5_areEnds 5 = .ok (.bipush 100, 2) := by decide +kernel
theorem dX5_areEnds_7 : decode cX5_areEnds 7 = .ok (.idiv, 1) := by decide +kernel
theorem dX5_areEnds_8 : decode cX5_areEnds 8 = .ok (.iload_n 0, 1) := by decide +kernel
theorem dX5_areEnds_9 : decode cX5_areEnds 9 = .ok (.bipush 100, 2) := by decide +kernel
theorem dX5_areEnds_11 : decode cX5_areEnds 11 = .ok (.irem, 1) := by decide +kernel
theorem dX5_areEnds_12 : decode cX5_areEnds 12 = .ok (.if_icmp .gt 16, 3) := by decide +kernel
theorem dX5_areEnds_15 : decode cX5_areEnds 15 = .ok (.iload_n 0, 1) := by decide +kernel
theorem dX5_areEnds_16 : decode cX5_areEnds 16 = .ok (.bipush 100, 2) := by decide +kernel
theorem dX5_areEnds_18 : decode cX5_areEnds 18 = .ok (.irem, 1) := by decide +kernel
theorem dX5_areEnds_19 : decode cX5_areEnds 19 = .ok (.bipush 16, 2) := by decide +kernel
theorem dX5_areEnds_21 : decode cX5_areEnds 21 = .ok (.if_icmp .ge 7, 3) := by decide +kernel
theorem dX5_areEnds_24 : decode cX5_areEnds 24 = .ok (.iconst 1, 1) := by decide +kernel
theorem dX5_areEnds_25 : decode cX5_areEnds 25 = .ok (.goto 4, 3) := by decide +kernel
theorem dX5_areEnds_28 : decode cX5_areEnds 28 = .ok (.iconst 0, 1) := by decide +kernel
theorem dX5_areEnds_29 : decode cX5_areEnds 29 = .ok (.ireturn, 1) := by decide +kernel
theorem dX5_isDays_0 : decode cX5_isDays 0 = .ok (.iload_n 0, 1) := by decide +kernel
theorem dX5_isDays_1 : decode cX5_isDays 1 = .ok (.ifCond .lt 13, 3) := by decide +kernel
theorem dX5_isDays_4 : decode cX5_isDays 4 = .ok (.iload_n 0, 1) := by decide +kernel
theorem dX5_isDays_5 : decode cX5_isDays 5 = .ok (.bipush 40, 2) := by decide +kernel
theorem dX5_isDays_7 : decode cX5_isDays 7 = .ok (.if_icmp .gt 7, 3) := by decide +kernel
theorem dX5_isDays_10 : decode cX5_isDays 10 = .ok (.iconst 1, 1) := by decide +kernel
theorem dX5_isDays_11 : decode cX5_isDays 11 = .ok (.goto 4, 3) := by decide +kernel
theorem dX5_isDays_14 : decode cX5_isDays 14 = .ok (.iconst 0, 1) := by decide +kernel
theorem dX5_isDays_15 : decode cX5_isDays 15 = .ok (.ireturn, 1) := by decide +kernel
theorem dX5_isAsked_0 : decode cX5_isAsked 0 = .ok (.iload_n 0, 1) := by decide +kernel
theorem dX5_isAsked_1 : decode cX5_isAsked 1 = .ok (.ifCond .eq 8, 3) := by decide +kernel
theorem dX5_isAsked_4 : decode cX5_isAsked 4 = .ok (.iload_n 0, 1) := by decide +kernel
theorem dX5_isAsked_5 : decode cX5_isAsked 5 = .ok (.iconst 1, 1) := by decide +kernel
theorem dX5_isAsked_6 : decode cX5_isAsked 6 = .ok (.if_icmp .ne 7, 3) := by decide +kernel
theorem dX5_isAsked_9 : decode cX5_isAsked 9 = .ok (.iconst 1, 1) := by decide +kernel
theorem dX5_isAsked_10 : decode cX5_isAsked 10 = .ok (.goto 4, 3) := by decide +kernel
theorem dX5_isAsked_13 : decode cX5_isAsked 13 = .ok (.iconst 0, 1) := by decide +kernel
theorem dX5_isAsked_14 : decode cX5_isAsked 14 = .ok (.ireturn, 1) := by decide +kernel
theorem dX5_isSheet_0 : decode cX5_isSheet 0 = .ok (.iload_n 0, 1) := by decide +kernel
theorem dX5_isSheet_1 : decode cX5_isSheet 1 = .ok (.ifCond .lt 12, 3) := by decide +kernel
theorem dX5_isSheet_4 : decode cX5_isSheet 4 = .ok (.iload_n 0, 1) := by decide +kernel
theorem dX5_isSheet_5 : decode cX5_isSheet 5 = .ok (.iconst 4, 1) := by decide +kernel
theorem dX5_isSheet_6 : decode cX5_isSheet 6 = .ok (.if_icmp .ge 7, 3) := by decide +kernel
theorem dX5_isSheet_9 : decode cX5_isSheet 9 = .ok (.iconst 1, 1) := by decide +kernel
theorem dX5_isSheet_10 : decode cX5_isSheet 10 = .ok (.goto 4, 3) := by decide +kernel
theorem dX5_isSheet_13 : decode cX5_isSheet 13 = .ok (.iconst 0, 1) := by decide +kernel
theorem dX5_isSheet_14 : decode cX5_isSheet 14 = .ok (.ireturn, 1) := by decide +kernel
theorem dX5_isSort_0 : decode cX5_isSort 0 = .ok (.iload_n 0, 1) := by decide +kernel
theorem dX5_isSort_1 : decode cX5_isSort 1 = .ok (.ifCond .lt 12, 3) := by decide +kernel
theorem dX5_isSort_4 : decode cX5_isSort 4 = .ok (.iload_n 0, 1) := by decide +kernel
theorem dX5_isSort_5 : decode cX5_isSort 5 = .ok (.iconst 2, 1) := by decide +kernel
theorem dX5_isSort_6 : decode cX5_isSort 6 = .ok (.if_icmp .gt 7, 3) := by decide +kernel
theorem dX5_isSort_9 : decode cX5_isSort 9 = .ok (.iconst 1, 1) := by decide +kernel
theorem dX5_isSort_10 : decode cX5_isSort 10 = .ok (.goto 4, 3) := by decide +kernel
theorem dX5_isSort_13 : decode cX5_isSort 13 = .ok (.iconst 0, 1) := by decide +kernel
theorem dX5_isSort_14 : decode cX5_isSort 14 = .ok (.ireturn, 1) := by decide +kernel
theorem dX5_isUnder_0 : decode cX5_isUnder 0 = .ok (.iload_n 0, 1) := by decide +kernel
theorem dX5_isUnder_1 : decode cX5_isUnder 1 = .ok (.istore_n 2, 1) := by decide +kernel
theorem dX5_isUnder_2 : decode cX5_isUnder 2 = .ok (.iconst 0, 1) := by decide +kernel
theorem dX5_isUnder_3 : decode cX5_isUnder 3 = .ok (.istore_n 3, 1) := by decide +kernel
theorem dX5_isUnder_4 : decode cX5_isUnder 4 = .ok (.iload_n 3, 1) := by decide +kernel
theorem dX5_isUnder_5 : decode cX5_isUnder 5 = .ok (.bipush 6, 2) := by decide +kernel
theorem dX5_isUnder_7 : decode cX5_isUnder 7 = .ok (.if_icmp .ge 29, 3) := by decide +kernel
theorem dX5_isUnder_10 : decode cX5_isUnder 10 = .ok (.iload_n 2, 1) := by decide +kernel
theorem dX5_isUnder_11 : decode cX5_isUnder 11 = .ok (.invokestatic 99, 3) := by decide +kernel
theorem dX5_isUnder_14 : decode cX5_isUnder 14 = .ok (.ifCond .eq 22, 3) := by decide +kernel
theorem dX5_isUnder_17 : decode cX5_isUnder 17 = .ok (.iload_n 2, 1) := by decide +kernel
theorem dX5_isUnder_18 : decode cX5_isUnder 18 = .ok (.iload_n 1, 1) := by decide +kernel
theorem dX5_isUnder_19 : decode cX5_isUnder 19 = .ok (.if_icmp .ne 5, 3) := by decide +kernel
theorem dX5_isUnder_22 : decode cX5_isUnder 22 = .ok (.iconst 1, 1) := by decide +kernel
theorem dX5_isUnder_23 : decode cX5_isUnder 23 = .ok (.ireturn, 1) := by decide +kernel
theorem dX5_isUnder_24 : decode cX5_isUnder 24 = .ok (.getstatic 257, 3) := by decide +kernel
theorem dX5_isUnder_27 : decode cX5_isUnder 27 = .ok (.iload_n 2, 1) := by decide +kernel
theorem dX5_isUnder_28 : decode cX5_isUnder 28 = .ok (.iaload, 1) := by decide +kernel
theorem dX5_isUnder_29 : decode cX5_isUnder 29 = .ok (.istore_n 2, 1) := by decide +kernel
theorem dX5_isUnder_30 : decode cX5_isUnder 30 = .ok (.iinc 3 1, 3) := by decide +kernel
theorem dX5_isUnder_33 : decode cX5_isUnder 33 = .ok (.goto (-29), 3) := by decide +kernel
theorem dX5_isUnder_36 : decode cX5_isUnder 36 = .ok (.iconst 0, 1) := by decide +kernel
theorem dX5_isUnder_37 : decode cX5_isUnder 37 = .ok (.ireturn, 1) := by decide +kernel
theorem dX5_mayBecome_0 : decode cX5_mayBecome 0 = .ok (.iload_n 0, 1) := by decide +kernel
theorem dX5_mayBecome_1 : decode cX5_mayBecome 1 = .ok (.tableswitch 88 0 3 #[31, 48, 66, 71], 31) := by decide +kernel
theorem dX5_mayBecome_32 : decode cX5_mayBecome 32 = .ok (.iload_n 1, 1) := by decide +kernel
theorem dX5_mayBecome_33 : decode cX5_mayBecome 33 = .ok (.ifCond .lt 14, 3) := by decide +kernel
theorem dX5_mayBecome_36 : decode cX5_mayBecome 36 = .ok (.iload_n 1, 1) := by decide +kernel
theorem dX5_mayBecome_37 : decode cX5_mayBecome 37 = .ok (.sipush 999, 3) := by decide +kernel
theorem dX5_mayBecome_40 : decode cX5_mayBecome 40 = .ok (.if_icmp .gt 7, 3) := by decide +kernel
theorem dX5_mayBecome_43 : decode cX5_mayBecome 43 = .ok (.iconst 1, 1) := by decide +kernel
theorem dX5_mayBecome_44 : decode cX5_mayBecome 44 = .ok (.goto 4, 3) := by decide +kernel
theorem dX5_mayBecome_47 : decode cX5_mayBecome 47 = .ok (.iconst 0, 1) := by decide +kernel
theorem dX5_mayBecome_48 : decode cX5_mayBecome 48 = .ok (.ireturn, 1) := by decide +kernel
theorem dX5_mayBecome_49 : decode cX5_mayBecome 49 = .ok (.iload_n 1, 1) := by decide +kernel
theorem dX5_mayBecome_50 : decode cX5_mayBecome 50 = .ok (.bipush (-99), 2) := by decide +kernel
theorem dX5_mayBecome_52 : decode cX5_mayBecome 52 = .ok (.if_icmp .lt 13, 3) := by decide +kernel
theorem dX5_mayBecome_55 : decode cX5_mayBecome 55 = .ok (.iload_n 1, 1) := by decide +kernel
theorem dX5_mayBecome_56 : decode cX5_mayBecome 56 = .ok (.bipush 99, 2) := by decide +kernel
theorem dX5_mayBecome_58 : decode cX5_mayBecome 58 = .ok (.if_icmp .gt 7, 3) := by decide +kernel
theorem dX5_mayBecome_61 : decode cX5_mayBecome 61 = .ok (.iconst 1, 1) := by decide +kernel
theorem dX5_mayBecome_62 : decode cX5_mayBecome 62 = .ok (.goto 4, 3) := by decide +kernel
theorem dX5_mayBecome_65 : decode cX5_mayBecome 65 = .ok (.iconst 0, 1) := by decide +kernel
theorem dX5_mayBecome_66 : decode cX5_mayBecome 66 = .ok (.ireturn, 1) := by decide +kernel
theorem dX5_mayBecome_67 : decode cX5_mayBecome 67 = .ok (.iload_n 1, 1) := by decide +kernel
theorem dX5_mayBecome_68 : decode cX5_mayBecome 68 = .ok (.invokestatic 102, 3) := by decide +kernel
theorem dX5_mayBecome_71 : decode cX5_mayBecome 71 = .ok (.ireturn, 1) := by decide +kernel
theorem dX5_mayBecome_72 : decode cX5_mayBecome 72 = .ok (.iload_n 1, 1) := by decide +kernel
theorem dX5_mayBecome_73 : decode cX5_mayBecome 73 = .ok (.ifCond .lt 14, 3) := by decide +kernel
theorem dX5_mayBecome_76 : decode cX5_mayBecome 76 = .ok (.iload_n 1, 1) := by decide +kernel
theorem dX5_mayBecome_77 : decode cX5_mayBecome 77 = .ok (.sipush 9999, 3) := by decide +kernel
theorem dX5_mayBecome_80 : decode cX5_mayBecome 80 = .ok (.if_icmp .gt 7, 3) := by decide +kernel
theorem dX5_mayBecome_83 : decode cX5_mayBecome 83 = .ok (.iconst 1, 1) := by decide +kernel
theorem dX5_mayBecome_84 : decode cX5_mayBecome 84 = .ok (.goto 4, 3) := by decide +kernel
theorem dX5_mayBecome_87 : decode cX5_mayBecome 87 = .ok (.iconst 0, 1) := by decide +kernel
theorem dX5_mayBecome_88 : decode cX5_mayBecome 88 = .ok (.ireturn, 1) := by decide +kernel
theorem dX5_mayBecome_89 : decode cX5_mayBecome 89 = .ok (.iload_n 1, 1) := by decide +kernel
theorem dX5_mayBecome_90 : decode cX5_mayBecome 90 = .ok (.ifCond .eq 8, 3) := by decide +kernel
theorem dX5_mayBecome_93 : decode cX5_mayBecome 93 = .ok (.iload_n 1, 1) := by decide +kernel
theorem dX5_mayBecome_94 : decode cX5_mayBecome 94 = .ok (.iconst 1, 1) := by decide +kernel
theorem dX5_mayBecome_95 : decode cX5_mayBecome 95 = .ok (.if_icmp .ne 7, 3) := by decide +kernel
theorem dX5_mayBecome_98 : decode cX5_mayBecome 98 = .ok (.iconst 1, 1) := by decide +kernel
theorem dX5_mayBecome_99 : decode cX5_mayBecome 99 = .ok (.goto 4, 3) := by decide +kernel
theorem dX5_mayBecome_102 : decode cX5_mayBecome 102 = .ok (.iconst 0, 1) := by decide +kernel
theorem dX5_mayBecome_103 : decode cX5_mayBecome 103 = .ok (.ireturn, 1) := by decide +kernel
theorem dX5_isSeam_0 : decode cX5_isSeam 0 = .ok (.iload_n 1, 1) := by decide +kernel
theorem dX5_isSeam_1 : decode cX5_isSeam 1 = .ok (.ifCond .lt 18, 3) := by decide +kernel
theorem dX5_isSeam_4 : decode cX5_isSeam 4 = .ok (.iload_n 1, 1) := by decide +kernel
theorem dX5_isSeam_5 : decode cX5_isSeam 5 = .ok (.aload_n 0, 1) := by decide +kernel
theorem dX5_isSeam_6 : decode cX5_isSeam 6 = .ok (.getfield 61, 3) := by decide +kernel
theorem dX5_isSeam_9 : decode cX5_isSeam 9 = .ok (.getfield 108, 3) := by decide +kernel
theorem dX5_isSeam_12 : decode cX5_isSeam 12 = .ok (.if_icmp .ge 7, 3) := by decide +kernel
theorem dX5_isSeam_15 : decode cX5_isSeam 15 = .ok (.iconst 1, 1) := by decide +kernel
theorem dX5_isSeam_16 : decode cX5_isSeam 16 = .ok (.goto 4, 3) := by decide +kernel
theorem dX5_isSeam_19 : decode cX5_isSeam 19 = .ok (.iconst 0, 1) := by decide +kernel
theorem dX5_isSeam_20 : decode cX5_isSeam 20 = .ok (.ireturn, 1) := by decide +kernel
theorem dX5_isFact_0 : decode cX5_isFact 0 = .ok (.iload_n 1, 1) := by decide +kernel
theorem dX5_isFact_1 : decode cX5_isFact 1 = .ok (.ifCond .ne 5, 3) := by decide +kernel
theorem dX5_isFact_4 : decode cX5_isFact 4 = .ok (.iconst 1, 1) := by decide +kernel
theorem dX5_isFact_5 : decode cX5_isFact 5 = .ok (.ireturn, 1) := by decide +kernel
theorem dX5_isFact_6 : decode cX5_isFact 6 = .ok (.iload_n 1, 1) := by decide +kernel
theorem dX5_isFact_7 : decode cX5_isFact 7 = .ok (.iconst 1, 1) := by decide +kernel
theorem dX5_isFact_8 : decode cX5_isFact 8 = .ok (.if_icmp .eq 15, 3) := by decide +kernel
theorem dX5_isFact_11 : decode cX5_isFact 11 = .ok (.iload_n 1, 1) := by decide +kernel
theorem dX5_isFact_12 : decode cX5_isFact 12 = .ok (.bipush 10, 2) := by decide +kernel
theorem dX5_isFact_14 : decode cX5_isFact 14 = .ok (.if_icmp .lt 25, 3) := by decide +kernel
theorem dX5_isFact_17 : decode cX5_isFact 17 = .ok (.iload_n 1, 1) := by decide +kernel
theorem dX5_isFact_18 : decode cX5_isFact 18 = .ok (.bipush 12, 2) := by decide +kernel
theorem dX5_isFact_20 : decode cX5_isFact 20 = .ok (.if_icmp .gt 19, 3) := by decide +kernel
theorem dX5_isFact_23 : decode cX5_isFact 23 = .ok (.iload_n 2, 1) := by decide +kernel
theorem dX5_isFact_24 : decode cX5_isFact 24 = .ok (.ifCond .lt 13, 3) := by decide +kernel
theorem dX5_isFact_27 : decode cX5_isFact 27 = .ok (.iload_n 2, 1) := by decide +kernel
theorem dX5_isFact_28 : decode cX5_isFact 28 = .ok (.bipush 16, 2) := by decide +kernel
theorem dX5_isFact_30 : decode cX5_isFact 30 = .ok (.if_icmp .ge 7, 3) := by decide +kernel
theorem dX5_isFact_33 : decode cX5_isFact 33 = .ok (.iconst 1, 1) := by decide +kernel
theorem dX5_isFact_34 : decode cX5_isFact 34 = .ok (.goto 4, 3) := by decide +kernel
theorem dX5_isFact_37 : decode cX5_isFact 37 = .ok (.iconst 0, 1) := by decide +kernel
theorem dX5_isFact_38 : decode cX5_isFact 38 = .ok (.ireturn, 1) := by decide +kernel
theorem dX5_isFact_39 : decode cX5_isFact 39 = .ok (.iload_n 1, 1) := by decide +kernel
theorem dX5_isFact_40 : decode cX5_isFact 40 = .ok (.iconst 2, 1) := by decide +kernel
theorem dX5_isFact_41 : decode cX5_isFact 41 = .ok (.if_icmp .lt 21, 3) := by decide +kernel
theorem dX5_isFact_44 : decode cX5_isFact 44 = .ok (.iload_n 1, 1) := by decide +kernel
theorem dX5_isFact_45 : decode cX5_isFact 45 = .ok (.bipush 9, 2) := by decide +kernel
theorem dX5_isFact_47 : decode cX5_isFact 47 = .ok (.if_icmp .gt 15, 3) := by decide +kernel
theorem dX5_isFact_50 : decode cX5_isFact 50 = .ok (.aload_n 0, 1) := by decide +kernel
theorem dX5_isFact_51 : decode cX5_isFact 51 = .ok (.iload_n 2, 1) := by decide +kernel
theorem dX5_isFact_52 : decode cX5_isFact 52 = .ok (.invokevirtual 163, 3) := by decide +kernel
theorem dX5_isFact_55 : decode cX5_isFact 55 = .ok (.ifCond .eq 7, 3) := by decide +kernel
theorem dX5_isFact_58 : decode cX5_isFact 58 = .ok (.iconst 1, 1) := by decide +kernel
theorem dX5_isFact_59 : decode cX5_isFact 59 = .ok (.goto 4, 3) := by decide +kernel
theorem dX5_isFact_62 : decode cX5_isFact 62 = .ok (.iconst 0, 1) := by decide +kernel
theorem dX5_isFact_63 : decode cX5_isFact 63 = .ok (.ireturn, 1) := by decide +kernel
theorem dX5_isAskedOfSeam_0 : decode cX5_isAskedOfSeam 0 = .ok (.iload_n 1, 1) := by decide +kernel
theorem dX5_isAskedOfSeam_1 : decode cX5_isAskedOfSeam 1 = .ok (.bipush 10, 2) := by decide +kernel
theorem dX5_isAskedOfSeam_3 : decode cX5_isAskedOfSeam 3 = .ok (.if_icmp .lt 24, 3) := by decide +kernel
theorem dX5_isAskedOfSeam_6 : decode cX5_isAskedOfSeam 6 = .ok (.iload_n 1, 1) := by decide +kernel
theorem dX5_isAskedOfSeam_7 : decode cX5_isAskedOfSeam 7 = .ok (.bipush 60, 2) := by decide +kernel
theorem dX5_isAskedOfSeam_9 : decode cX5_isAskedOfSeam 9 = .ok (.if_icmp .ge 18, 3) := by decide +kernel
theorem dX5_isAskedOfSeam_12 : decode cX5_isAskedOfSeam 12 = .ok (.aload_n 0, 1) := by decide +kernel
theorem dX5_isAskedOfSeam_13 : decode cX5_isAskedOfSeam 13 = .ok (.iload_n 1, 1) := by decide +kernel
theorem dX5_isAskedOfSeam_14 : decode cX5_isAskedOfSeam 14 = .ok (.bipush 10, 2) := by decide +kernel
theorem dX5_isAskedOfSeam_16 : decode cX5_isAskedOfSeam 16 = .ok (.irem, 1) := by decide +kernel
theorem dX5_isAskedOfSeam_17 : decode cX5_isAskedOfSeam 17 = .ok (.invokevirtual 163, 3) := by decide +kernel
theorem dX5_isAskedOfSeam_20 : decode cX5_isAskedOfSeam 20 = .ok (.ifCond .eq 7, 3) := by decide +kernel
theorem dX5_isAskedOfSeam_23 : decode cX5_isAskedOfSeam 23 = .ok (.iconst 1, 1) := by decide +kernel
theorem dX5_isAskedOfSeam_24 : decode cX5_isAskedOfSeam 24 = .ok (.goto 4, 3) := by decide +kernel
theorem dX5_isAskedOfSeam_27 : decode cX5_isAskedOfSeam 27 = .ok (.iconst 0, 1) := by decide +kernel
theorem dX5_isAskedOfSeam_28 : decode cX5_isAskedOfSeam 28 = .ok (.ireturn, 1) := by decide +kernel
theorem dX5_toldOfSeam_0 : decode cX5_toldOfSeam 0 = .ok (.iload_n 2, 1) := by decide +kernel
theorem dX5_toldOfSeam_1 : decode cX5_toldOfSeam 1 = .ok (.tableswitch 97 2 8 #[43, 48, 53, 66, 71, 76, 81], 43) := by decide +kernel
theorem dX5_toldOfSeam_44 : decode cX5_toldOfSeam 44 = .ok (.aload_n 1, 1) := by decide +kernel
theorem dX5_toldOfSeam_45 : decode cX5_toldOfSeam 45 = .ok (.getfield 254, 3) := by decide +kernel
theorem dX5_toldOfSeam_48 : decode cX5_toldOfSeam 48 = .ok (.ireturn, 1) := by decide +kernel
theorem dX5_toldOfSeam_49 : decode cX5_toldOfSeam 49 = .ok (.aload_n 1, 1) := by decide +kernel
theorem dX5_toldOfSeam_50 : decode cX5_toldOfSeam 50 = .ok (.getfield 260, 3) := by decide +kernel
theorem dX5_toldOfSeam_53 : decode cX5_toldOfSeam 53 = .ok (.ireturn, 1) := by decide +kernel
theorem dX5_toldOfSeam_54 : decode cX5_toldOfSeam 54 = .ok (.aload_n 1, 1) := by decide +kernel
theorem dX5_toldOfSeam_55 : decode cX5_toldOfSeam 55 = .ok (.getfield 180, 3) := by decide +kernel
theorem dX5_toldOfSeam_58 : decode cX5_toldOfSeam 58 = .ok (.ifCond .eq 7, 3) := by decide +kernel
theorem dX5_toldOfSeam_61 : decode cX5_toldOfSeam 61 = .ok (.iconst 1, 1) := by decide +kernel
theorem dX5_toldOfSeam_62 : decode cX5_toldOfSeam 62 = .ok (.goto 4, 3) := by decide +kernel
theorem dX5_toldOfSeam_65 : decode cX5_toldOfSeam 65 = .ok (.iconst 0, 1) := by decide +kernel
theorem dX5_toldOfSeam_66 : decode cX5_toldOfSeam 66 = .ok (.ireturn, 1) := by decide +kernel
theorem dX5_toldOfSeam_67 : decode cX5_toldOfSeam 67 = .ok (.aload_n 1, 1) := by decide +kernel
theorem dX5_toldOfSeam_68 : decode cX5_toldOfSeam 68 = .ok (.getfield 184, 3) := by decide +kernel
theorem dX5_toldOfSeam_71 : decode cX5_toldOfSeam 71 = .ok (.ireturn, 1) := by decide +kernel
theorem dX5_toldOfSeam_72 : decode cX5_toldOfSeam 72 = .ok (.aload_n 1, 1) := by decide +kernel
theorem dX5_toldOfSeam_73 : decode cX5_toldOfSeam 73 = .ok (.getfield 263, 3) := by decide +kernel
theorem dX5_toldOfSeam_76 : decode cX5_toldOfSeam 76 = .ok (.ireturn, 1) := by decide +kernel
theorem dX5_toldOfSeam_77 : decode cX5_toldOfSeam 77 = .ok (.aload_n 1, 1) := by decide +kernel
theorem dX5_toldOfSeam_78 : decode cX5_toldOfSeam 78 = .ok (.getfield 266, 3) := by decide +kernel
theorem dX5_toldOfSeam_81 : decode cX5_toldOfSeam 81 = .ok (.ireturn, 1) := by decide +kernel
theorem dX5_toldOfSeam_82 : decode cX5_toldOfSeam 82 = .ok (.aload_n 0, 1) := by decide +kernel
theorem dX5_toldOfSeam_83 : decode cX5_toldOfSeam 83 = .ok (.getfield 61, 3) := by decide +kernel
theorem dX5_toldOfSeam_86 : decode cX5_toldOfSeam 86 = .ok (.aload_n 1, 1) := by decide +kernel
theorem dX5_toldOfSeam_87 : decode cX5_toldOfSeam 87 = .ok (.aload_n 0, 1) := by decide +kernel
theorem dX5_toldOfSeam_88 : decode cX5_toldOfSeam 88 = .ok (.getfield 61, 3) := by decide +kernel
theorem dX5_toldOfSeam_91 : decode cX5_toldOfSeam 91 = .ok (.invokevirtual 171, 3) := by decide +kernel
theorem dX5_toldOfSeam_94 : decode cX5_toldOfSeam 94 = .ok (.invokevirtual 269, 3) := by decide +kernel
theorem dX5_toldOfSeam_97 : decode cX5_toldOfSeam 97 = .ok (.ireturn, 1) := by decide +kernel
theorem dX5_toldOfSeam_98 : decode cX5_toldOfSeam 98 = .ok (.aload_n 0, 1) := by decide +kernel
theorem dX5_toldOfSeam_99 : decode cX5_toldOfSeam 99 = .ok (.getfield 61, 3) := by decide +kernel
theorem dX5_toldOfSeam_102 : decode cX5_toldOfSeam 102 = .ok (.aload_n 1, 1) := by decide +kernel
theorem dX5_toldOfSeam_103 : decode cX5_toldOfSeam 103 = .ok (.aload_n 0, 1) := by decide +kernel
theorem dX5_toldOfSeam_104 : decode cX5_toldOfSeam 104 = .ok (.getfield 61, 3) := by decide +kernel
theorem dX5_toldOfSeam_107 : decode cX5_toldOfSeam 107 = .ok (.invokevirtual 171, 3) := by decide +kernel
theorem dX5_toldOfSeam_110 : decode cX5_toldOfSeam 110 = .ok (.invokevirtual 272, 3) := by decide +kernel
theorem dX5_toldOfSeam_113 : decode cX5_toldOfSeam 113 = .ok (.ireturn, 1) := by decide +kernel
theorem dX5_otherwise_0 : decode cX5_otherwise 0 = .ok (.iconst 0, 1) := by decide +kernel
theorem dX5_otherwise_1 : decode cX5_otherwise 1 = .ok (.istore_n 2, 1) := by decide +kernel
theorem dX5_otherwise_2 : decode cX5_otherwise 2 = .ok (.iload_n 2, 1) := by decide +kernel
theorem dX5_otherwise_3 : decode cX5_otherwise 3 = .ok (.aload_n 1, 1) := by decide +kernel
theorem dX5_otherwise_4 : decode cX5_otherwise 4 = .ok (.getfield 275, 3) := by decide +kernel
theorem dX5_otherwise_7 : decode cX5_otherwise 7 = .ok (.if_icmp .ge 39, 3) := by decide +kernel
theorem dX5_otherwise_10 : decode cX5_otherwise 10 = .ok (.iload_n 2, 1) := by decide +kernel
theorem dX5_otherwise_11 : decode cX5_otherwise 11 = .ok (.ifCond .le 11, 3) := by decide +kernel
theorem dX5_otherwise_14 : decode cX5_otherwise 14 = .ok (.aload_n 0, 1) := by decide +kernel
theorem dX5_otherwise_15 : decode cX5_otherwise 15 = .ok (.getfield 65, 3) := by decide +kernel
theorem dX5_otherwise_18 : decode cX5_otherwise 18 = .ok (.invokevirtual 157, 3) := by decide +kernel
theorem dX5_otherwise_21 : decode cX5_otherwise 21 = .ok (.pop, 1) := by decide +kernel
theorem dX5_otherwise_22 : decode cX5_otherwise 22 = .ok (.aload_n 0, 1) := by decide +kernel
theorem dX5_otherwise_23 : decode cX5_otherwise 23 = .ok (.getfield 65, 3) := by decide +kernel
theorem dX5_otherwise_26 : decode cX5_otherwise 26 = .ok (.invokevirtual 141, 3) := by decide +kernel
theorem dX5_otherwise_29 : decode cX5_otherwise 29 = .ok (.aload_n 1, 1) := by decide +kernel
theorem dX5_otherwise_30 : decode cX5_otherwise 30 = .ok (.getfield 238, 3) := by decide +kernel
theorem dX5_otherwise_33 : decode cX5_otherwise 33 = .ok (.iload_n 2, 1) := by decide +kernel
theorem dX5_otherwise_34 : decode cX5_otherwise 34 = .ok (.iaload, 1) := by decide +kernel
theorem dX5_otherwise_35 : decode cX5_otherwise 35 = .ok (.if_icmp .eq 5, 3) := by decide +kernel
theorem dX5_otherwise_38 : decode cX5_otherwise 38 = .ok (.iload_n 2, 1) := by decide +kernel
theorem dX5_otherwise_39 : decode cX5_otherwise 39 = .ok (.ireturn, 1) := by decide +kernel
theorem dX5_otherwise_40 : decode cX5_otherwise 40 = .ok (.iinc 2 1, 3) := by decide +kernel
theorem dX5_otherwise_43 : decode cX5_otherwise 43 = .ok (.goto (-41), 3) := by decide +kernel
theorem dX5_otherwise_46 : decode cX5_otherwise 46 = .ok (.iconst (-1), 1) := by decide +kernel
theorem dX5_otherwise_47 : decode cX5_otherwise 47 = .ok (.ireturn, 1) := by decide +kernel
theorem dX5_choices_0 : decode cX5_choices 0 = .ok (.iload_n 1, 1) := by decide +kernel
theorem dX5_choices_1 : decode cX5_choices 1 = .ok (.tableswitch 53 0 5 #[39, 44, 47, 53, 53, 50], 39) := by decide +kernel
theorem dX5_choices_40 : decode cX5_choices 40 = .ok (.aload_n 0, 1) := by decide +kernel
theorem dX5_choices_41 : decode cX5_choices 41 = .ok (.getfield 52, 3) := by decide +kernel
theorem dX5_choices_44 : decode cX5_choices 44 = .ok (.ireturn, 1) := by decide +kernel
theorem dX5_choices_45 : decode cX5_choices 45 = .ok (.bipush 6, 2) := by decide +kernel
theorem dX5_choices_47 : decode cX5_choices 47 = .ok (.ireturn, 1) := by decide +kernel
theorem dX5_choices_48 : decode cX5_choices 48 = .ok (.bipush 10, 2) := by decide +kernel
theorem dX5_choices_50 : decode cX5_choices 50 = .ok (.ireturn, 1) := by decide +kernel
theorem dX5_choices_51 : decode cX5_choices 51 = .ok (.bipush 16, 2) := by decide +kernel
theorem dX5_choices_53 : decode cX5_choices 53 = .ok (.ireturn, 1) := by decide +kernel
theorem dX5_choices_54 : decode cX5_choices 54 = .ok (.bipush 100, 2) := by decide +kernel
theorem dX5_choices_56 : decode cX5_choices 56 = .ok (.ireturn, 1) := by decide +kernel
theorem dX5_choose_0 : decode cX5_choose 0 = .ok (.iload_n 1, 1) := by decide +kernel
theorem dX5_choose_1 : decode cX5_choose 1 = .ok (.ifCond .ne 19, 3) := by decide +kernel
theorem dX5_choose_4 : decode cX5_choose 4 = .ok (.aload_n 0, 1) := by decide +kernel
theorem dX5_choose_5 : decode cX5_choose 5 = .ok (.getfield 65, 3) := by decide +kernel
theorem dX5_choose_8 : decode cX5_choose 8 = .ok (.aload_n 0, 1) := by decide +kernel
theorem dX5_choose_9 : decode cX5_choose 9 = .ok (.getfield 11, 3) := by decide +kernel
theorem dX5_choose_12 : decode cX5_choose 12 = .ok (.iload_n 3, 1) := by decide +kernel
theorem dX5_choose_13 : decode cX5_choose 13 = .ok (.aaload, 1) := by decide +kernel
theorem dX5_choose_14 : decode cX5_choose 14 = .ok (.putfield 134, 3) := by decide +kernel
theorem dX5_choose_17 : decode cX5_choose 17 = .ok (.goto 79, 3) := by decide +kernel
theorem dX5_choose_20 : decode cX5_choose 20 = .ok (.iload_n 1, 1) := by decide +kernel
theorem dX5_choose_21 : decode cX5_choose 21 = .ok (.iconst 1, 1) := by decide +kernel
theorem dX5_choose_22 : decode cX5_choose 22 = .ok (.if_icmp .ne 19, 3) := by decide +kernel
theorem dX5_choose_25 : decode cX5_choose 25 = .ok (.aload_n 0, 1) := by decide +kernel
theorem dX5_choose_26 : decode cX5_choose 26 = .ok (.getfield 65, 3) := by decide +kernel
theorem dX5_choose_29 : decode cX5_choose 29 = .ok (.getfield 89, 3) := by decide +kernel
theorem dX5_choose_32 : decode cX5_choose 32 = .ok (.iload_n 2, 1) := by decide +kernel
theorem dX5_choose_33 : decode cX5_choose 33 = .ok (.aaload, 1) := by decide +kernel
theorem dX5_choose_34 : decode cX5_choose 34 = .ok (.iload_n 3, 1) := by decide +kernel
theorem dX5_choose_35 : decode cX5_choose 35 = .ok (.putfield 184, 3) := by decide +kernel
theorem dX5_choose_38 : decode cX5_choose 38 = .ok (.goto 58, 3) := by decide +kernel
theorem dX5_choose_41 : decode cX5_choose 41 = .ok (.iload_n 1, 1) := by decide +kernel
theorem dX5_choose_42 : decode cX5_choose 42 = .ok (.iconst 2, 1) := by decide +kernel
theorem dX5_choose_43 : decode cX5_choose 43 = .ok (.if_icmp .ne 19, 3) := by decide +kernel
theorem dX5_choose_46 : decode cX5_choose 46 = .ok (.aload_n 0, 1) := by decide +kernel
theorem dX5_choose_47 : decode cX5_choose 47 = .ok (.getfield 65, 3) := by decide +kernel
theorem dX5_choose_50 : decode cX5_choose 50 = .ok (.getfield 89, 3) := by decide +kernel
theorem dX5_choose_53 : decode cX5_choose 53 = .ok (.iload_n 2, 1) := by decide +kernel
theorem dX5_choose_54 : decode cX5_choose 54 = .ok (.aaload, 1) := by decide +kernel
theorem dX5_choose_55 : decode cX5_choose 55 = .ok (.iload_n 3, 1) := by decide +kernel
theorem dX5_choose_56 : decode cX5_choose 56 = .ok (.putfield 254, 3) := by decide +kernel
theorem dX5_choose_59 : decode cX5_choose 59 = .ok (.goto 37, 3) := by decide +kernel
theorem dX5_choose_62 : decode cX5_choose 62 = .ok (.iload_n 1, 1) := by decide +kernel
theorem dX5_choose_63 : decode cX5_choose 63 = .ok (.iconst 5, 1) := by decide +kernel
theorem dX5_choose_64 : decode cX5_choose 64 = .ok (.if_icmp .ne 19, 3) := by decide +kernel
theorem dX5_choose_67 : decode cX5_choose 67 = .ok (.aload_n 0, 1) := by decide +kernel
theorem dX5_choose_68 : decode cX5_choose 68 = .ok (.getfield 65, 3) := by decide +kernel
theorem dX5_choose_71 : decode cX5_choose 71 = .ok (.getfield 89, 3) := by decide +kernel
theorem dX5_choose_74 : decode cX5_choose 74 = .ok (.iload_n 2, 1) := by decide +kernel
theorem dX5_choose_75 : decode cX5_choose 75 = .ok (.aaload, 1) := by decide +kernel
theorem dX5_choose_76 : decode cX5_choose 76 = .ok (.iload_n 3, 1) := by decide +kernel
theorem dX5_choose_77 : decode cX5_choose 77 = .ok (.invokevirtual 187, 3) := by decide +kernel
theorem dX5_choose_80 : decode cX5_choose 80 = .ok (.goto 16, 3) := by decide +kernel
theorem dX5_choose_83 : decode cX5_choose 83 = .ok (.aload_n 0, 1) := by decide +kernel
theorem dX5_choose_84 : decode cX5_choose 84 = .ok (.getfield 65, 3) := by decide +kernel
theorem dX5_choose_87 : decode cX5_choose 87 = .ok (.getfield 89, 3) := by decide +kernel
theorem dX5_choose_90 : decode cX5_choose 90 = .ok (.iload_n 2, 1) := by decide +kernel
theorem dX5_choose_91 : decode cX5_choose 91 = .ok (.aaload, 1) := by decide +kernel
theorem dX5_choose_92 : decode cX5_choose 92 = .ok (.iload_n 3, 1) := by decide +kernel
theorem dX5_choose_93 : decode cX5_choose 93 = .ok (.putfield 260, 3) := by decide +kernel
theorem dX5_choose_96 : decode cX5_choose 96 = .ok (.return_, 1) := by decide +kernel
theorem dX5_bounded_0 : decode cX5_bounded 0 = .ok (.iconst 0, 1) := by decide +kernel
theorem dX5_bounded_1 : decode cX5_bounded 1 = .ok (.iload_n 1, 1) := by decide +kernel
theorem dX5_bounded_2 : decode cX5_bounded 2 = .ok (.iload_n 0, 1) := by decide +kernel
theorem dX5_bounded_3 : decode cX5_bounded 3 = .ok (.invokestatic 276, 3) := by decide +kernel
theorem dX5_bounded_6 : decode cX5_bounded 6 = .ok (.invokestatic 281, 3) := by decide +kernel
theorem dX5_bounded_9 : decode cX5_bounded 9 = .ok (.ireturn, 1) := by decide +kernel
theorem dL_law_0 : decode cL_law 0 = .ok (.new 7, 3) := by decide +kernel
theorem dL_law_3 : decode cL_law 3 = .ok (.dup, 1) := by decide +kernel
theorem dL_law_4 : decode cL_law 4 = .ok (.invokespecial 9, 3) := by decide +kernel
theorem dL_law_7 : decode cL_law 7 = .ok (.astore_n 1, 1) := by decide +kernel
theorem dL_law_8 : decode cL_law 8 = .ok (.new 10, 3) := by decide +kernel
theorem dL_law_11 : decode cL_law 11 = .ok (.dup, 1) := by decide +kernel
theorem dL_law_12 : decode cL_law 12 = .ok (.invokespecial 12, 3) := by decide +kernel
theorem dL_law_15 : decode cL_law 15 = .ok (.astore_n 2, 1) := by decide +kernel
theorem dL_law_16 : decode cL_law 16 = .ok (.iconst 0, 1) := by decide +kernel
theorem dL_law_17 : decode cL_law 17 = .ok (.istore_n 3, 1) := by decide +kernel
theorem dL_law_18 : decode cL_law 18 = .ok (.iload_n 3, 1) := by decide +kernel
theorem dL_law_19 : decode cL_law 19 = .ok (.aload_n 0, 1) := by decide +kernel
theorem dL_law_20 : decode cL_law 20 = .ok (.arraylength, 1) := by decide +kernel
theorem dL_law_21 : decode cL_law 21 = .ok (.bipush 6, 2) := by decide +kernel
theorem dL_law_23 : decode cL_law 23 = .ok (.isub, 1) := by decide +kernel
theorem dL_law_24 : decode cL_law 24 = .ok (.if_icmp .gt 936, 3) := by decide +kernel
theorem dL_law_27 : decode cL_law 27 = .ok (.aload_n 0, 1) := by decide +kernel
theorem dL_law_28 : decode cL_law 28 = .ok (.iload_n 3, 1) := by decide +kernel
theorem dL_law_29 : decode cL_law 29 = .ok (.iaload, 1) := by decide +kernel
theorem dL_law_30 : decode cL_law 30 = .ok (.bipush 31, 2) := by decide +kernel
theorem dL_law_32 : decode cL_law 32 = .ok (.iand, 1) := by decide +kernel
theorem dL_law_33 : decode cL_law 33 = .ok (.tableswitch 921 0 24 #[115, 158, 201, 234, 257, 270, 293, 316, 329, 362, 405, 428, 471, 504, 537, 570, 593, 637, 650, 663, 686, 729, 772, 835, 888], 115) := by decide +kernel
theorem dL_law_148 : decode cL_law 148 = .ok (.aload_n 1, 1) := by decide +kernel
theorem dL_law_149 : decode cL_law 149 = .ok (.aload_n 0, 1) := by decide +kernel
theorem dL_law_150 : decode cL_law 150 = .ok (.iload_n 3, 1) := by decide +kernel
theorem dL_law_151 : decode cL_law 151 = .ok (.iconst 1, 1) := by decide +kernel
theorem dL_law_152 : decode cL_law 152 = .ok (.iadd, 1) := by decide +kernel
theorem dL_law_153 : decode cL_law 153 = .ok (.iaload, 1) := by decide +kernel
theorem dL_law_154 : decode cL_law 154 = .ok (.aload_n 0, 1) := by decide +kernel
theorem dL_law_155 : decode cL_law 155 = .ok (.iload_n 3, 1) := by decide +kernel
theorem dL_law_156 : decode cL_law 156 = .ok (.iconst 2, 1) := by decide +kernel
theorem dL_law_157 : decode cL_law 157 = .ok (.iadd, 1) := by decide +kernel
theorem dL_law_158 : decode cL_law 158 = .ok (.iaload, 1) := by decide +kernel
theorem dL_law_159 : decode cL_law 159 = .ok (.aload_n 0, 1) := by decide +kernel
theorem dL_law_160 : decode cL_law 160 = .ok (.iload_n 3, 1) := by decide +kernel
theorem dL_law_161 : decode cL_law 161 = .ok (.iconst 3, 1) := by decide +kernel
theorem dL_law_162 : decode cL_law 162 = .ok (.iadd, 1) := by decide +kernel
theorem dL_law_163 : decode cL_law 163 = .ok (.iaload, 1) := by decide +kernel
theorem dL_law_164 : decode cL_law 164 = .ok (.invokevirtual 13, 3) := by decide +kernel
theorem dL_law_167 : decode cL_law 167 = .ok (.aload_n 2, 1) := by decide +kernel
theorem dL_law_168 : decode cL_law 168 = .ok (.aload_n 0, 1) := by decide +kernel
theorem dL_law_169 : decode cL_law 169 = .ok (.iload_n 3, 1) := by decide +kernel
theorem dL_law_170 : decode cL_law 170 = .ok (.iconst 1, 1) := by decide +kernel
theorem dL_law_171 : decode cL_law 171 = .ok (.iadd, 1) := by decide +kernel
theorem dL_law_172 : decode cL_law 172 = .ok (.iaload, 1) := by decide +kernel
theorem dL_law_173 : decode cL_law 173 = .ok (.aload_n 0, 1) := by decide +kernel
theorem dL_law_174 : decode cL_law 174 = .ok (.iload_n 3, 1) := by decide +kernel
theorem dL_law_175 : decode cL_law 175 = .ok (.iconst 2, 1) := by decide +kernel
theorem dL_law_176 : decode cL_law 176 = .ok (.iadd, 1) := by decide +kernel
theorem dL_law_177 : decode cL_law 177 = .ok (.iaload, 1) := by decide +kernel
theorem dL_law_178 : decode cL_law 178 = .ok (.aload_n 0, 1) := by decide +kernel
theorem dL_law_179 : decode cL_law 179 = .ok (.iload_n 3, 1) := by decide +kernel
theorem dL_law_180 : decode cL_law 180 = .ok (.iconst 3, 1) := by decide +kernel
theorem dL_law_181 : decode cL_law 181 = .ok (.iadd, 1) := by decide +kernel
theorem dL_law_182 : decode cL_law 182 = .ok (.iaload, 1) := by decide +kernel
theorem dL_law_183 : decode cL_law 183 = .ok (.invokevirtual 17, 3) := by decide +kernel
theorem dL_law_186 : decode cL_law 186 = .ok (.if_icmp .eq 768, 3) := by decide +kernel
theorem dL_law_189 : decode cL_law 189 = .ok (.iconst 0, 1) := by decide +kernel
theorem dL_law_190 : decode cL_law 190 = .ok (.ireturn, 1) := by decide +kernel
theorem dL_law_191 : decode cL_law 191 = .ok (.aload_n 1, 1) := by decide +kernel
theorem dL_law_192 : decode cL_law 192 = .ok (.aload_n 0, 1) := by decide +kernel
theorem dL_law_193 : decode cL_law 193 = .ok (.iload_n 3, 1) := by decide +kernel
theorem dL_law_194 : decode cL_law 194 = .ok (.iconst 1, 1) := by decide +kernel
theorem dL_law_195 : decode cL_law 195 = .ok (.iadd, 1) := by decide +kernel
theorem dL_law_196 : decode cL_law 196 = .ok (.iaload, 1) := by decide +kernel
theorem dL_law_197 : decode cL_law 197 = .ok (.aload_n 0, 1) := by decide +kernel
theorem dL_law_198 : decode cL_law 198 = .ok (.iload_n 3, 1) := by decide +kernel
theorem dL_law_199 : decode cL_law 199 = .ok (.iconst 2, 1) := by decide +kernel
theorem dL_law_200 : decode cL_law 200 = .ok (.iadd, 1) := by decide +kernel
theorem dL_law_201 : decode cL_law 201 = .ok (.iaload, 1) := by decide +kernel
theorem dL_law_202 : decode cL_law 202 = .ok (.aload_n 0, 1) := by decide +kernel
theorem dL_law_203 : decode cL_law 203 = .ok (.iload_n 3, 1) := by decide +kernel
theorem dL_law_204 : decode cL_law 204 = .ok (.iconst 3, 1) := by decide +kernel
theorem dL_law_205 : decode cL_law 205 = .ok (.iadd, 1) := by decide +kernel
theorem dL_law_206 : decode cL_law 206 = .ok (.iaload, 1) := by decide +kernel
theorem dL_law_207 : decode cL_law 207 = .ok (.invokevirtual 18, 3) := by decide +kernel
theorem dL_law_210 : decode cL_law 210 = .ok (.aload_n 2, 1) := by decide +kernel
theorem dL_law_211 : decode cL_law 211 = .ok (.aload_n 0, 1) := by decide +kernel
theorem dL_law_212 : decode cL_law 212 = .ok (.iload_n 3, 1) := by decide +kernel
theorem dL_law_213 : decode cL_law 213 = .ok (.iconst 1, 1) := by decide +kernel
theorem dL_law_214 : decode cL_law 214 = .ok (.iadd, 1) := by decide +kernel
theorem dL_law_215 : decode cL_law 215 = .ok (.iaload, 1) := by decide +kernel
theorem dL_law_216 : decode cL_law 216 = .ok (.aload_n 0, 1) := by decide +kernel
theorem dL_law_217 : decode cL_law 217 = .ok (.iload_n 3, 1) := by decide +kernel
theorem dL_law_218 : decode cL_law 218 = .ok (.iconst 2, 1) := by decide +kernel
theorem dL_law_219 : decode cL_law 219 = .ok (.iadd, 1) := by decide +kernel
theorem dL_law_220 : decode cL_law 220 = .ok (.iaload, 1) := by decide +kernel
theorem dL_law_221 : decode cL_law 221 = .ok (.aload_n 0, 1) := by decide +kernel
theorem dL_law_222 : decode cL_law 222 = .ok (.iload_n 3, 1) := by decide +kernel
theorem dL_law_223 : decode cL_law 223 = .ok (.iconst 3, 1) := by decide +kernel
theorem dL_law_224 : decode cL_law 224 = .ok (.iadd, 1) := by decide +kernel
theorem dL_law_225 : decode cL_law 225 = .ok (.iaload, 1) := by decide +kernel
theorem dL_law_226 : decode cL_law 226 = .ok (.invokevirtual 21, 3) := by decide +kernel
theorem dL_law_229 : decode cL_law 229 = .ok (.if_icmp .eq 725, 3) := by decide +kernel
theorem dL_law_232 : decode cL_law 232 = .ok (.iconst 0, 1) := by decide +kernel
theorem dL_law_233 : decode cL_law 233 = .ok (.ireturn, 1) := by decide +kernel
theorem dL_law_234 : decode cL_law 234 = .ok (.aload_n 1, 1) := by decide +kernel
theorem dL_law_235 : decode cL_law 235 = .ok (.aload_n 0, 1) := by decide +kernel
theorem dL_law_236 : decode cL_law 236 = .ok (.iload_n 3, 1) := by decide +kernel
theorem dL_law_237 : decode cL_law 237 = .ok (.iconst 1, 1) := by decide +kernel
theorem dL_law_238 : decode cL_law 238 = .ok (.iadd, 1) := by decide +kernel
theorem dL_law_239 : decode cL_law 239 = .ok (.iaload, 1) := by decide +kernel
theorem dL_law_240 : decode cL_law 240 = .ok (.aload_n 0, 1) := by decide +kernel
theorem dL_law_241 : decode cL_law 241 = .ok (.iload_n 3, 1) := by decide +kernel
theorem dL_law_242 : decode cL_law 242 = .ok (.iconst 2, 1) := by decide +kernel
theorem dL_law_243 : decode cL_law 243 = .ok (.iadd, 1) := by decide +kernel
theorem dL_law_244 : decode cL_law 244 = .ok (.iaload, 1) := by decide +kernel
theorem dL_law_245 : decode cL_law 245 = .ok (.invokevirtual 22, 3) := by decide +kernel
theorem dL_law_248 : decode cL_law 248 = .ok (.aload_n 2, 1) := by decide +kernel
theorem dL_law_249 : decode cL_law 249 = .ok (.aload_n 0, 1) := by decide +kernel
theorem dL_law_250 : decode cL_law 250 = .ok (.iload_n 3, 1) := by decide +kernel
theorem dL_law_251 : decode cL_law 251 = .ok (.iconst 1, 1) := by decide +kernel
theorem dL_law_252 : decode cL_law 252 = .ok (.iadd, 1) := by decide +kernel
theorem dL_law_253 : decode cL_law 253 = .ok (.iaload, 1) := by decide +kernel
theorem dL_law_254 : decode cL_law 254 = .ok (.aload_n 0, 1) := by decide +kernel
theorem dL_law_255 : decode cL_law 255 = .ok (.iload_n 3, 1) := by decide +kernel
theorem dL_law_256 : decode cL_law 256 = .ok (.iconst 2, 1) := by decide +kernel
theorem dL_law_257 : decode cL_law 257 = .ok (.iadd, 1) := by decide +kernel
theorem dL_law_258 : decode cL_law 258 = .ok (.iaload, 1) := by decide +kernel
theorem dL_law_259 : decode cL_law 259 = .ok (.invokevirtual 26, 3) := by decide +kernel
theorem dL_law_262 : decode cL_law 262 = .ok (.if_icmp .eq 692, 3) := by decide +kernel
theorem dL_law_265 : decode cL_law 265 = .ok (.iconst 0, 1) := by decide +kernel
theorem dL_law_266 : decode cL_law 266 = .ok (.ireturn, 1) := by decide +kernel
theorem dL_law_267 : decode cL_law 267 = .ok (.aload_n 1, 1) := by decide +kernel
theorem dL_law_268 : decode cL_law 268 = .ok (.aload_n 0, 1) := by decide +kernel
theorem dL_law_269 : decode cL_law 269 = .ok (.iload_n 3, 1) := by decide +kernel
theorem dL_law_270 : decode cL_law 270 = .ok (.iconst 1, 1) := by decide +kernel
theorem dL_law_271 : decode cL_law 271 = .ok (.iadd, 1) := by decide +kernel
theorem dL_law_272 : decode cL_law 272 = .ok (.iaload, 1) := by decide +kernel
theorem dL_law_273 : decode cL_law 273 = .ok (.invokevirtual 27, 3) := by decide +kernel
theorem dL_law_276 : decode cL_law 276 = .ok (.aload_n 2, 1) := by decide +kernel
theorem dL_law_277 : decode cL_law 277 = .ok (.aload_n 0, 1) := by decide +kernel
theorem dL_law_278 : decode cL_law 278 = .ok (.iload_n 3, 1) := by decide +kernel
theorem dL_law_279 : decode cL_law 279 = .ok (.iconst 1, 1) := by decide +kernel
theorem dL_law_280 : decode cL_law 280 = .ok (.iadd, 1) := by decide +kernel
theorem dL_law_281 : decode cL_law 281 = .ok (.iaload, 1) := by decide +kernel
theorem dL_law_282 : decode cL_law 282 = .ok (.invokevirtual 31, 3) := by decide +kernel
theorem dL_law_285 : decode cL_law 285 = .ok (.if_icmp .eq 669, 3) := by decide +kernel
theorem dL_law_288 : decode cL_law 288 = .ok (.iconst 0, 1) := by decide +kernel
theorem dL_law_289 : decode cL_law 289 = .ok (.ireturn, 1) := by decide +kernel
theorem dL_law_290 : decode cL_law 290 = .ok (.aload_n 1, 1) := by decide +kernel
theorem dL_law_291 : decode cL_law 291 = .ok (.invokevirtual 32, 3) := by decide +kernel
theorem dL_law_294 : decode cL_law 294 = .ok (.aload_n 2, 1) := by decide +kernel
theorem dL_law_295 : decode cL_law 295 = .ok (.invokevirtual 36, 3) := by decide +kernel
theorem dL_law_298 : decode cL_law 298 = .ok (.if_icmp .eq 656, 3) := by decide +kernel
theorem dL_law_301 : decode cL_law 301 = .ok (.iconst 0, 1) := by decide +kernel
theorem dL_law_302 : decode cL_law 302 = .ok (.ireturn, 1) := by decide +kernel
theorem dL_law_303 : decode cL_law 303 = .ok (.aload_n 1, 1) := by decide +kernel
theorem dL_law_304 : decode cL_law 304 = .ok (.aload_n 0, 1) := by decide +kernel
theorem dL_law_305 : decode cL_law 305 = .ok (.iload_n 3, 1) := by decide +kernel
theorem dL_law_306 : decode cL_law 306 = .ok (.iconst 1, 1) := by decide +kernel
theorem dL_law_307 : decode cL_law 307 = .ok (.iadd, 1) := by decide +kernel
theorem dL_law_308 : decode cL_law 308 = .ok (.iaload, 1) := by decide +kernel
theorem dL_law_309 : decode cL_law 309 = .ok (.invokevirtual 37, 3) := by decide +kernel
theorem dL_law_312 : decode cL_law 312 = .ok (.aload_n 2, 1) := by decide +kernel
theorem dL_law_313 : decode cL_law 313 = .ok (.aload_n 0, 1) := by decide +kernel
theorem dL_law_314 : decode cL_law 314 = .ok (.iload_n 3, 1) := by decide +kernel
theorem dL_law_315 : decode cL_law 315 = .ok (.iconst 1, 1) := by decide +kernel
theorem dL_law_316 : decode cL_law 316 = .ok (.iadd, 1) := by decide +kernel
theorem dL_law_317 : decode cL_law 317 = .ok (.iaload, 1) := by decide +kernel
theorem dL_law_318 : decode cL_law 318 = .ok (.invokevirtual 40, 3) := by decide +kernel
theorem dL_law_321 : decode cL_law 321 = .ok (.if_icmp .eq 633, 3) := by decide +kernel
theorem dL_law_324 : decode cL_law 324 = .ok (.iconst 0, 1) := by decide +kernel
theorem dL_law_325 : decode cL_law 325 = .ok (.ireturn, 1) := by decide +kernel
theorem dL_law_326 : decode cL_law 326 = .ok (.aload_n 1, 1) := by decide +kernel
theorem dL_law_327 : decode cL_law 327 = .ok (.aload_n 0, 1) := by decide +kernel
theorem dL_law_328 : decode cL_law 328 = .ok (.iload_n 3, 1) := by decide +kernel
theorem dL_law_329 : decode cL_law 329 = .ok (.iconst 1, 1) := by decide +kernel
theorem dL_law_330 : decode cL_law 330 = .ok (.iadd, 1) := by decide +kernel
theorem dL_law_331 : decode cL_law 331 = .ok (.iaload, 1) := by decide +kernel
theorem dL_law_332 : decode cL_law 332 = .ok (.invokevirtual 41, 3) := by decide +kernel
theorem dL_law_335 : decode cL_law 335 = .ok (.aload_n 2, 1) := by decide +kernel
theorem dL_law_336 : decode cL_law 336 = .ok (.aload_n 0, 1) := by decide +kernel
theorem dL_law_337 : decode cL_law 337 = .ok (.iload_n 3, 1) := by decide +kernel
theorem dL_law_338 : decode cL_law 338 = .ok (.iconst 1, 1) := by decide +kernel
theorem dL_law_339 : decode cL_law 339 = .ok (.iadd, 1) := by decide +kernel
theorem dL_law_340 : decode cL_law 340 = .ok (.iaload, 1) := by decide +kernel
theorem dL_law_341 : decode cL_law 341 = .ok (.invokevirtual 44, 3) := by decide +kernel
theorem dL_law_344 : decode cL_law 344 = .ok (.if_icmp .eq 610, 3) := by decide +kernel
theorem dL_law_347 : decode cL_law 347 = .ok (.iconst 0, 1) := by decide +kernel
theorem dL_law_348 : decode cL_law 348 = .ok (.ireturn, 1) := by decide +kernel
theorem dL_law_349 : decode cL_law 349 = .ok (.aload_n 1, 1) := by decide +kernel
theorem dL_law_350 : decode cL_law 350 = .ok (.invokevirtual 45, 3) := by decide +kernel
theorem dL_law_353 : decode cL_law 353 = .ok (.aload_n 2, 1) := by decide +kernel
theorem dL_law_354 : decode cL_law 354 = .ok (.invokevirtual 48, 3) := by decide +kernel
theorem dL_law_357 : decode cL_law 357 = .ok (.if_icmp .eq 597, 3) := by decide +kernel
theorem dL_law_360 : decode cL_law 360 = .ok (.iconst 0, 1) := by decide +kernel
theorem dL_law_361 : decode cL_law 361 = .ok (.ireturn, 1) := by decide +kernel
theorem dL_law_362 : decode cL_law 362 = .ok (.aload_n 1, 1) := by decide +kernel
theorem dL_law_363 : decode cL_law 363 = .ok (.aload_n 0, 1) := by decide +kernel
theorem dL_law_364 : decode cL_law 364 = .ok (.iload_n 3, 1) := by decide +kernel
theorem dL_law_365 : decode cL_law 365 = .ok (.iconst 1, 1) := by decide +kernel
theorem dL_law_366 : decode cL_law 366 = .ok (.iadd, 1) := by decide +kernel
theorem dL_law_367 : decode cL_law 367 = .ok (.iaload, 1) := by decide +kernel
theorem dL_law_368 : decode cL_law 368 = .ok (.aload_n 0, 1) := by decide +kernel
theorem dL_law_369 : decode cL_law 369 = .ok (.iload_n 3, 1) := by decide +kernel
theorem dL_law_370 : decode cL_law 370 = .ok (.iconst 2, 1) := by decide +kernel
theorem dL_law_371 : decode cL_law 371 = .ok (.iadd, 1) := by decide +kernel
theorem dL_law_372 : decode cL_law 372 = .ok (.iaload, 1) := by decide +kernel
theorem dL_law_373 : decode cL_law 373 = .ok (.invokevirtual 49, 3) := by decide +kernel
theorem dL_law_376 : decode cL_law 376 = .ok (.aload_n 2, 1) := by decide +kernel
theorem dL_law_377 : decode cL_law 377 = .ok (.aload_n 0, 1) := by decide +kernel
theorem dL_law_378 : decode cL_law 378 = .ok (.iload_n 3, 1) := by decide +kernel
theorem dL_law_379 : decode cL_law 379 = .ok (.iconst 1, 1) := by decide +kernel
theorem dL_law_380 : decode cL_law 380 = .ok (.iadd, 1) := by decide +kernel
theorem dL_law_381 : decode cL_law 381 = .ok (.iaload, 1) := by decide +kernel
theorem dL_law_382 : decode cL_law 382 = .ok (.aload_n 0, 1) := by decide +kernel
theorem dL_law_383 : decode cL_law 383 = .ok (.iload_n 3, 1) := by decide +kernel
theorem dL_law_384 : decode cL_law 384 = .ok (.iconst 2, 1) := by decide +kernel
theorem dL_law_385 : decode cL_law 385 = .ok (.iadd, 1) := by decide +kernel
theorem dL_law_386 : decode cL_law 386 = .ok (.iaload, 1) := by decide +kernel
theorem dL_law_387 : decode cL_law 387 = .ok (.invokevirtual 52, 3) := by decide +kernel
theorem dL_law_390 : decode cL_law 390 = .ok (.if_icmp .eq 564, 3) := by decide +kernel
theorem dL_law_393 : decode cL_law 393 = .ok (.iconst 0, 1) := by decide +kernel
theorem dL_law_394 : decode cL_law 394 = .ok (.ireturn, 1) := by decide +kernel
theorem dL_law_395 : decode cL_law 395 = .ok (.aload_n 1, 1) := by decide +kernel
theorem dL_law_396 : decode cL_law 396 = .ok (.aload_n 0, 1) := by decide +kernel
theorem dL_law_397 : decode cL_law 397 = .ok (.iload_n 3, 1) := by decide +kernel
theorem dL_law_398 : decode cL_law 398 = .ok (.iconst 1, 1) := by decide +kernel
theorem dL_law_399 : decode cL_law 399 = .ok (.iadd, 1) := by decide +kernel
theorem dL_law_400 : decode cL_law 400 = .ok (.iaload, 1) := by decide +kernel
theorem dL_law_401 : decode cL_law 401 = .ok (.aload_n 0, 1) := by decide +kernel
theorem dL_law_402 : decode cL_law 402 = .ok (.iload_n 3, 1) := by decide +kernel
theorem dL_law_403 : decode cL_law 403 = .ok (.iconst 2, 1) := by decide +kernel
theorem dL_law_404 : decode cL_law 404 = .ok (.iadd, 1) := by decide +kernel
theorem dL_law_405 : decode cL_law 405 = .ok (.iaload, 1) := by decide +kernel
theorem dL_law_406 : decode cL_law 406 = .ok (.aload_n 0, 1) := by decide +kernel
theorem dL_law_407 : decode cL_law 407 = .ok (.iload_n 3, 1) := by decide +kernel
theorem dL_law_408 : decode cL_law 408 = .ok (.iconst 3, 1) := by decide +kernel
theorem dL_law_409 : decode cL_law 409 = .ok (.iadd, 1) := by decide +kernel
theorem dL_law_410 : decode cL_law 410 = .ok (.iaload, 1) := by decide +kernel
theorem dL_law_411 : decode cL_law 411 = .ok (.invokevirtual 53, 3) := by decide +kernel
theorem dL_law_414 : decode cL_law 414 = .ok (.aload_n 2, 1) := by decide +kernel
theorem dL_law_415 : decode cL_law 415 = .ok (.aload_n 0, 1) := by decide +kernel
theorem dL_law_416 : decode cL_law 416 = .ok (.iload_n 3, 1) := by decide +kernel
theorem dL_law_417 : decode cL_law 417 = .ok (.iconst 1, 1) := by decide +kernel
theorem dL_law_418 : decode cL_law 418 = .ok (.iadd, 1) := by decide +kernel
theorem dL_law_419 : decode cL_law 419 = .ok (.iaload, 1) := by decide +kernel
theorem dL_law_420 : decode cL_law 420 = .ok (.aload_n 0, 1) := by decide +kernel
theorem dL_law_421 : decode cL_law 421 = .ok (.iload_n 3, 1) := by decide +kernel
theorem dL_law_422 : decode cL_law 422 = .ok (.iconst 2, 1) := by decide +kernel
theorem dL_law_423 : decode cL_law 423 = .ok (.iadd, 1) := by decide +kernel
theorem dL_law_424 : decode cL_law 424 = .ok (.iaload, 1) := by decide +kernel
theorem dL_law_425 : decode cL_law 425 = .ok (.aload_n 0, 1) := by decide +kernel
theorem dL_law_426 : decode cL_law 426 = .ok (.iload_n 3, 1) := by decide +kernel
theorem dL_law_427 : decode cL_law 427 = .ok (.iconst 3, 1) := by decide +kernel
theorem dL_law_428 : decode cL_law 428 = .ok (.iadd, 1) := by decide +kernel
theorem dL_law_429 : decode cL_law 429 = .ok (.iaload, 1) := by decide +kernel
theorem dL_law_430 : decode cL_law 430 = .ok (.invokevirtual 56, 3) := by decide +kernel
theorem dL_law_433 : decode cL_law 433 = .ok (.if_icmp .eq 521, 3) := by decide +kernel
theorem dL_law_436 : decode cL_law 436 = .ok (.iconst 0, 1) := by decide +kernel
theorem dL_law_437 : decode cL_law 437 = .ok (.ireturn, 1) := by decide +kernel
theorem dL_law_438 : decode cL_law 438 = .ok (.aload_n 1, 1) := by decide +kernel
theorem dL_law_439 : decode cL_law 439 = .ok (.aload_n 0, 1) := by decide +kernel
theorem dL_law_440 : decode cL_law 440 = .ok (.iload_n 3, 1) := by decide +kernel
theorem dL_law_441 : decode cL_law 441 = .ok (.iconst 1, 1) := by decide +kernel
theorem dL_law_442 : decode cL_law 442 = .ok (.iadd, 1) := by decide +kernel
theorem dL_law_443 : decode cL_law 443 = .ok (.iaload, 1) := by decide +kernel
theorem dL_law_444 : decode cL_law 444 = .ok (.invokevirtual 57, 3) := by decide +kernel
theorem dL_law_447 : decode cL_law 447 = .ok (.aload_n 2, 1) := by decide +kernel
theorem dL_law_448 : decode cL_law 448 = .ok (.aload_n 0, 1) := by decide +kernel
theorem dL_law_449 : decode cL_law 449 = .ok (.iload_n 3, 1) := by decide +kernel
theorem dL_law_450 : decode cL_law 450 = .ok (.iconst 1, 1) := by decide +kernel
theorem dL_law_451 : decode cL_law 451 = .ok (.iadd, 1) := by decide +kernel
theorem dL_law_452 : decode cL_law 452 = .ok (.iaload, 1) := by decide +kernel
theorem dL_law_453 : decode cL_law 453 = .ok (.invokevirtual 60, 3) := by decide +kernel
theorem dL_law_456 : decode cL_law 456 = .ok (.if_icmp .eq 498, 3) := by decide +kernel
theorem dL_law_459 : decode cL_law 459 = .ok (.iconst 0, 1) := by decide +kernel
theorem dL_law_460 : decode cL_law 460 = .ok (.ireturn, 1) := by decide +kernel
theorem dL_law_461 : decode cL_law 461 = .ok (.aload_n 1, 1) := by decide +kernel
theorem dL_law_462 : decode cL_law 462 = .ok (.aload_n 0, 1) := by decide +kernel
theorem dL_law_463 : decode cL_law 463 = .ok (.iload_n 3, 1) := by decide +kernel
theorem dL_law_464 : decode cL_law 464 = .ok (.iconst 1, 1) := by decide +kernel
theorem dL_law_465 : decode cL_law 465 = .ok (.iadd, 1) := by decide +kernel
theorem dL_law_466 : decode cL_law 466 = .ok (.iaload, 1) := by decide +kernel
theorem dL_law_467 : decode cL_law 467 = .ok (.aload_n 0, 1) := by decide +kernel
theorem dL_law_468 : decode cL_law 468 = .ok (.iload_n 3, 1) := by decide +kernel
theorem dL_law_469 : decode cL_law 469 = .ok (.iconst 2, 1) := by decide +kernel
theorem dL_law_470 : decode cL_law 470 = .ok (.iadd, 1) := by decide +kernel
theorem dL_law_471 : decode cL_law 471 = .ok (.iaload, 1) := by decide +kernel
theorem dL_law_472 : decode cL_law 472 = .ok (.aload_n 0, 1) := by decide +kernel
theorem dL_law_473 : decode cL_law 473 = .ok (.iload_n 3, 1) := by decide +kernel
theorem dL_law_474 : decode cL_law 474 = .ok (.iconst 3, 1) := by decide +kernel
theorem dL_law_475 : decode cL_law 475 = .ok (.iadd, 1) := by decide +kernel
theorem dL_law_476 : decode cL_law 476 = .ok (.iaload, 1) := by decide +kernel
theorem dL_law_477 : decode cL_law 477 = .ok (.invokevirtual 61, 3) := by decide +kernel
theorem dL_law_480 : decode cL_law 480 = .ok (.aload_n 2, 1) := by decide +kernel
theorem dL_law_481 : decode cL_law 481 = .ok (.aload_n 0, 1) := by decide +kernel
theorem dL_law_482 : decode cL_law 482 = .ok (.iload_n 3, 1) := by decide +kernel
theorem dL_law_483 : decode cL_law 483 = .ok (.iconst 1, 1) := by decide +kernel
theorem dL_law_484 : decode cL_law 484 = .ok (.iadd, 1) := by decide +kernel
theorem dL_law_485 : decode cL_law 485 = .ok (.iaload, 1) := by decide +kernel
theorem dL_law_486 : decode cL_law 486 = .ok (.aload_n 0, 1) := by decide +kernel
theorem dL_law_487 : decode cL_law 487 = .ok (.iload_n 3, 1) := by decide +kernel
theorem dL_law_488 : decode cL_law 488 = .ok (.iconst 2, 1) := by decide +kernel
theorem dL_law_489 : decode cL_law 489 = .ok (.iadd, 1) := by decide +kernel
theorem dL_law_490 : decode cL_law 490 = .ok (.iaload, 1) := by decide +kernel
theorem dL_law_491 : decode cL_law 491 = .ok (.aload_n 0, 1) := by decide +kernel
theorem dL_law_492 : decode cL_law 492 = .ok (.iload_n 3, 1) := by decide +kernel
theorem dL_law_493 : decode cL_law 493 = .ok (.iconst 3, 1) := by decide +kernel
theorem dL_law_494 : decode cL_law 494 = .ok (.iadd, 1) := by decide +kernel
theorem dL_law_495 : decode cL_law 495 = .ok (.iaload, 1) := by decide +kernel
theorem dL_law_496 : decode cL_law 496 = .ok (.invokevirtual 64, 3) := by decide +kernel
theorem dL_law_499 : decode cL_law 499 = .ok (.if_icmp .eq 455, 3) := by decide +kernel
theorem dL_law_502 : decode cL_law 502 = .ok (.iconst 0, 1) := by decide +kernel
theorem dL_law_503 : decode cL_law 503 = .ok (.ireturn, 1) := by decide +kernel
theorem dL_law_504 : decode cL_law 504 = .ok (.aload_n 1, 1) := by decide +kernel
theorem dL_law_505 : decode cL_law 505 = .ok (.aload_n 0, 1) := by decide +kernel
theorem dL_law_506 : decode cL_law 506 = .ok (.iload_n 3, 1) := by decide +kernel
theorem dL_law_507 : decode cL_law 507 = .ok (.iconst 1, 1) := by decide +kernel
theorem dL_law_508 : decode cL_law 508 = .ok (.iadd, 1) := by decide +kernel
theorem dL_law_509 : decode cL_law 509 = .ok (.iaload, 1) := by decide +kernel
theorem dL_law_510 : decode cL_law 510 = .ok (.aload_n 0, 1) := by decide +kernel
theorem dL_law_511 : decode cL_law 511 = .ok (.iload_n 3, 1) := by decide +kernel
theorem dL_law_512 : decode cL_law 512 = .ok (.iconst 2, 1) := by decide +kernel
theorem dL_law_513 : decode cL_law 513 = .ok (.iadd, 1) := by decide +kernel
theorem dL_law_514 : decode cL_law 514 = .ok (.iaload, 1) := by decide +kernel
theorem dL_law_515 : decode cL_law 515 = .ok (.invokevirtual 65, 3) := by decide +kernel
theorem dL_law_518 : decode cL_law 518 = .ok (.aload_n 2, 1) := by decide +kernel
theorem dL_law_519 : decode cL_law 519 = .ok (.aload_n 0, 1) := by decide +kernel
theorem dL_law_520 : decode cL_law 520 = .ok (.iload_n 3, 1) := by decide +kernel
theorem dL_law_521 : decode cL_law 521 = .ok (.iconst 1, 1) := by decide +kernel
theorem dL_law_522 : decode cL_law 522 = .ok (.iadd, 1) := by decide +kernel
theorem dL_law_523 : decode cL_law 523 = .ok (.iaload, 1) := by decide +kernel
theorem dL_law_524 : decode cL_law 524 = .ok (.aload_n 0, 1) := by decide +kernel
theorem dL_law_525 : decode cL_law 525 = .ok (.iload_n 3, 1) := by decide +kernel
theorem dL_law_526 : decode cL_law 526 = .ok (.iconst 2, 1) := by decide +kernel
theorem dL_law_527 : decode cL_law 527 = .ok (.iadd, 1) := by decide +kernel
theorem dL_law_528 : decode cL_law 528 = .ok (.iaload, 1) := by decide +kernel
theorem dL_law_529 : decode cL_law 529 = .ok (.invokevirtual 68, 3) := by decide +kernel
theorem dL_law_532 : decode cL_law 532 = .ok (.if_icmp .eq 422, 3) := by decide +kernel
theorem dL_law_535 : decode cL_law 535 = .ok (.iconst 0, 1) := by decide +kernel
theorem dL_law_536 : decode cL_law 536 = .ok (.ireturn, 1) := by decide +kernel
theorem dL_law_537 : decode cL_law 537 = .ok (.aload_n 1, 1) := by decide +kernel
theorem dL_law_538 : decode cL_law 538 = .ok (.aload_n 0, 1) := by decide +kernel
theorem dL_law_539 : decode cL_law 539 = .ok (.iload_n 3, 1) := by decide +kernel
theorem dL_law_540 : decode cL_law 540 = .ok (.iconst 1, 1) := by decide +kernel
theorem dL_law_541 : decode cL_law 541 = .ok (.iadd, 1) := by decide +kernel
theorem dL_law_542 : decode cL_law 542 = .ok (.iaload, 1) := by decide +kernel
theorem dL_law_543 : decode cL_law 543 = .ok (.aload_n 0, 1) := by decide +kernel
theorem dL_law_544 : decode cL_law 544 = .ok (.iload_n 3, 1) := by decide +kernel
theorem dL_law_545 : decode cL_law 545 = .ok (.iconst 2, 1) := by decide +kernel
theorem dL_law_546 : decode cL_law 546 = .ok (.iadd, 1) := by decide +kernel
theorem dL_law_547 : decode cL_law 547 = .ok (.iaload, 1) := by decide +kernel
theorem dL_law_548 : decode cL_law 548 = .ok (.invokevirtual 69, 3) := by decide +kernel
theorem dL_law_551 : decode cL_law 551 = .ok (.aload_n 2, 1) := by decide +kernel
theorem dL_law_552 : decode cL_law 552 = .ok (.aload_n 0, 1) := by decide +kernel
theorem dL_law_553 : decode cL_law 553 = .ok (.iload_n 3, 1) := by decide +kernel
theorem dL_law_554 : decode cL_law 554 = .ok (.iconst 1, 1) := by decide +kernel
theorem dL_law_555 : decode cL_law 555 = .ok (.iadd, 1) := by decide +kernel
theorem dL_law_556 : decode cL_law 556 = .ok (.iaload, 1) := by decide +kernel
theorem dL_law_557 : decode cL_law 557 = .ok (.aload_n 0, 1) := by decide +kernel
theorem dL_law_558 : decode cL_law 558 = .ok (.iload_n 3, 1) := by decide +kernel
theorem dL_law_559 : decode cL_law 559 = .ok (.iconst 2, 1) := by decide +kernel
theorem dL_law_560 : decode cL_law 560 = .ok (.iadd, 1) := by decide +kernel
theorem dL_law_561 : decode cL_law 561 = .ok (.iaload, 1) := by decide +kernel
theorem dL_law_562 : decode cL_law 562 = .ok (.invokevirtual 72, 3) := by decide +kernel
theorem dL_law_565 : decode cL_law 565 = .ok (.if_icmp .eq 389, 3) := by decide +kernel
theorem dL_law_568 : decode cL_law 568 = .ok (.iconst 0, 1) := by decide +kernel
theorem dL_law_569 : decode cL_law 569 = .ok (.ireturn, 1) := by decide +kernel
theorem dL_law_570 : decode cL_law 570 = .ok (.aload_n 1, 1) := by decide +kernel
theorem dL_law_571 : decode cL_law 571 = .ok (.aload_n 0, 1) := by decide +kernel
theorem dL_law_572 : decode cL_law 572 = .ok (.iload_n 3, 1) := by decide +kernel
theorem dL_law_573 : decode cL_law 573 = .ok (.iconst 1, 1) := by decide +kernel
theorem dL_law_574 : decode cL_law 574 = .ok (.iadd, 1) := by decide +kernel
theorem dL_law_575 : decode cL_law 575 = .ok (.iaload, 1) := by decide +kernel
theorem dL_law_576 : decode cL_law 576 = .ok (.aload_n 0, 1) := by decide +kernel
theorem dL_law_577 : decode cL_law 577 = .ok (.iload_n 3, 1) := by decide +kernel
theorem dL_law_578 : decode cL_law 578 = .ok (.iconst 2, 1) := by decide +kernel
theorem dL_law_579 : decode cL_law 579 = .ok (.iadd, 1) := by decide +kernel
theorem dL_law_580 : decode cL_law 580 = .ok (.iaload, 1) := by decide +kernel
theorem dL_law_581 : decode cL_law 581 = .ok (.invokevirtual 73, 3) := by decide +kernel
theorem dL_law_584 : decode cL_law 584 = .ok (.aload_n 2, 1) := by decide +kernel
theorem dL_law_585 : decode cL_law 585 = .ok (.aload_n 0, 1) := by decide +kernel
theorem dL_law_586 : decode cL_law 586 = .ok (.iload_n 3, 1) := by decide +kernel
theorem dL_law_587 : decode cL_law 587 = .ok (.iconst 1, 1) := by decide +kernel
theorem dL_law_588 : decode cL_law 588 = .ok (.iadd, 1) := by decide +kernel
theorem dL_law_589 : decode cL_law 589 = .ok (.iaload, 1) := by decide +kernel
theorem dL_law_590 : decode cL_law 590 = .ok (.aload_n 0, 1) := by decide +kernel
theorem dL_law_591 : decode cL_law 591 = .ok (.iload_n 3, 1) := by decide +kernel
theorem dL_law_592 : decode cL_law 592 = .ok (.iconst 2, 1) := by decide +kernel
theorem dL_law_593 : decode cL_law 593 = .ok (.iadd, 1) := by decide +kernel
theorem dL_law_594 : decode cL_law 594 = .ok (.iaload, 1) := by decide +kernel
theorem dL_law_595 : decode cL_law 595 = .ok (.invokevirtual 76, 3) := by decide +kernel
theorem dL_law_598 : decode cL_law 598 = .ok (.if_icmp .eq 356, 3) := by decide +kernel
theorem dL_law_601 : decode cL_law 601 = .ok (.iconst 0, 1) := by decide +kernel
theorem dL_law_602 : decode cL_law 602 = .ok (.ireturn, 1) := by decide +kernel
theorem dL_law_603 : decode cL_law 603 = .ok (.aload_n 1, 1) := by decide +kernel
theorem dL_law_604 : decode cL_law 604 = .ok (.aload_n 0, 1) := by decide +kernel
theorem dL_law_605 : decode cL_law 605 = .ok (.iload_n 3, 1) := by decide +kernel
theorem dL_law_606 : decode cL_law 606 = .ok (.iconst 1, 1) := by decide +kernel
theorem dL_law_607 : decode cL_law 607 = .ok (.iadd, 1) := by decide +kernel
theorem dL_law_608 : decode cL_law 608 = .ok (.iaload, 1) := by decide +kernel
theorem dL_law_609 : decode cL_law 609 = .ok (.invokevirtual 77, 3) := by decide +kernel
theorem dL_law_612 : decode cL_law 612 = .ok (.aload_n 2, 1) := by decide +kernel
theorem dL_law_613 : decode cL_law 613 = .ok (.aload_n 0, 1) := by decide +kernel
theorem dL_law_614 : decode cL_law 614 = .ok (.iload_n 3, 1) := by decide +kernel
theorem dL_law_615 : decode cL_law 615 = .ok (.iconst 1, 1) := by decide +kernel
theorem dL_law_616 : decode cL_law 616 = .ok (.iadd, 1) := by decide +kernel
theorem dL_law_617 : decode cL_law 617 = .ok (.iaload, 1) := by decide +kernel
theorem dL_law_618 : decode cL_law 618 = .ok (.invokevirtual 80, 3) := by decide +kernel
theorem dL_law_621 : decode cL_law 621 = .ok (.if_icmp .eq 333, 3) := by decide +kernel
theorem dL_law_624 : decode cL_law 624 = .ok (.iconst 0, 1) := by decide +kernel
theorem dL_law_625 : decode cL_law 625 = .ok (.ireturn, 1) := by decide +kernel
theorem dL_law_626 : decode cL_law 626 = .ok (.aload_n 1, 1) := by decide +kernel
theorem dL_law_627 : decode cL_law 627 = .ok (.aload_n 0, 1) := by decide +kernel
theorem dL_law_628 : decode cL_law 628 = .ok (.iload_n 3, 1) := by decide +kernel
theorem dL_law_629 : decode cL_law 629 = .ok (.iconst 1, 1) := by decide +kernel
theorem dL_law_630 : decode cL_law 630 = .ok (.iadd, 1) := by decide +kernel
theorem dL_law_631 : decode cL_law 631 = .ok (.iaload, 1) := by decide +kernel
theorem dL_law_632 : decode cL_law 632 = .ok (.aload_n 0, 1) := by decide +kernel
theorem dL_law_633 : decode cL_law 633 = .ok (.iload_n 3, 1) := by decide +kernel
theorem dL_law_634 : decode cL_law 634 = .ok (.iconst 2, 1) := by decide +kernel
theorem dL_law_635 : decode cL_law 635 = .ok (.iadd, 1) := by decide +kernel
theorem dL_law_636 : decode cL_law 636 = .ok (.iaload, 1) := by decide +kernel
theorem dL_law_637 : decode cL_law 637 = .ok (.aload_n 0, 1) := by decide +kernel
theorem dL_law_638 : decode cL_law 638 = .ok (.iload_n 3, 1) := by decide +kernel
theorem dL_law_639 : decode cL_law 639 = .ok (.iconst 3, 1) := by decide +kernel
theorem dL_law_640 : decode cL_law 640 = .ok (.iadd, 1) := by decide +kernel
theorem dL_law_641 : decode cL_law 641 = .ok (.iaload, 1) := by decide +kernel
theorem dL_law_642 : decode cL_law 642 = .ok (.invokevirtual 81, 3) := by decide +kernel
theorem dL_law_645 : decode cL_law 645 = .ok (.aload_n 2, 1) := by decide +kernel
theorem dL_law_646 : decode cL_law 646 = .ok (.aload_n 0, 1) := by decide +kernel
theorem dL_law_647 : decode cL_law 647 = .ok (.iload_n 3, 1) := by decide +kernel
theorem dL_law_648 : decode cL_law 648 = .ok (.iconst 1, 1) := by decide +kernel
theorem dL_law_649 : decode cL_law 649 = .ok (.iadd, 1) := by decide +kernel
theorem dL_law_650 : decode cL_law 650 = .ok (.iaload, 1) := by decide +kernel
theorem dL_law_651 : decode cL_law 651 = .ok (.aload_n 0, 1) := by decide +kernel
theorem dL_law_652 : decode cL_law 652 = .ok (.iload_n 3, 1) := by decide +kernel
theorem dL_law_653 : decode cL_law 653 = .ok (.iconst 2, 1) := by decide +kernel
theorem dL_law_654 : decode cL_law 654 = .ok (.iadd, 1) := by decide +kernel
theorem dL_law_655 : decode cL_law 655 = .ok (.iaload, 1) := by decide +kernel
theorem dL_law_656 : decode cL_law 656 = .ok (.aload_n 0, 1) := by decide +kernel
theorem dL_law_657 : decode cL_law 657 = .ok (.iload_n 3, 1) := by decide +kernel
theorem dL_law_658 : decode cL_law 658 = .ok (.iconst 3, 1) := by decide +kernel
theorem dL_law_659 : decode cL_law 659 = .ok (.iadd, 1) := by decide +kernel
theorem dL_law_660 : decode cL_law 660 = .ok (.iaload, 1) := by decide +kernel
theorem dL_law_661 : decode cL_law 661 = .ok (.invokevirtual 85, 3) := by decide +kernel
theorem dL_law_664 : decode cL_law 664 = .ok (.lcmp, 1) := by decide +kernel
theorem dL_law_665 : decode cL_law 665 = .ok (.ifCond .eq 289, 3) := by decide +kernel
theorem dL_law_668 : decode cL_law 668 = .ok (.iconst 0, 1) := by decide +kernel
theorem dL_law_669 : decode cL_law 669 = .ok (.ireturn, 1) := by decide +kernel
theorem dL_law_670 : decode cL_law 670 = .ok (.aload_n 1, 1) := by decide +kernel
theorem dL_law_671 : decode cL_law 671 = .ok (.invokevirtual 86, 3) := by decide +kernel
theorem dL_law_674 : decode cL_law 674 = .ok (.aload_n 2, 1) := by decide +kernel
theorem dL_law_675 : decode cL_law 675 = .ok (.invokevirtual 89, 3) := by decide +kernel
theorem dL_law_678 : decode cL_law 678 = .ok (.if_icmp .eq 276, 3) := by decide +kernel
theorem dL_law_681 : decode cL_law 681 = .ok (.iconst 0, 1) := by decide +kernel
theorem dL_law_682 : decode cL_law 682 = .ok (.ireturn, 1) := by decide +kernel
theorem dL_law_683 : decode cL_law 683 = .ok (.aload_n 1, 1) := by decide +kernel
theorem dL_law_684 : decode cL_law 684 = .ok (.invokevirtual 90, 3) := by decide +kernel
theorem dL_law_687 : decode cL_law 687 = .ok (.aload_n 2, 1) := by decide +kernel
theorem dL_law_688 : decode cL_law 688 = .ok (.invokevirtual 93, 3) := by decide +kernel
theorem dL_law_691 : decode cL_law 691 = .ok (.if_icmp .eq 263, 3) := by decide +kernel
theorem dL_law_694 : decode cL_law 694 = .ok (.iconst 0, 1) := by decide +kernel
theorem dL_law_695 : decode cL_law 695 = .ok (.ireturn, 1) := by decide +kernel
theorem dL_law_696 : decode cL_law 696 = .ok (.aload_n 1, 1) := by decide +kernel
theorem dL_law_697 : decode cL_law 697 = .ok (.aload_n 0, 1) := by decide +kernel
theorem dL_law_698 : decode cL_law 698 = .ok (.iload_n 3, 1) := by decide +kernel
theorem dL_law_699 : decode cL_law 699 = .ok (.iconst 1, 1) := by decide +kernel
theorem dL_law_700 : decode cL_law 700 = .ok (.iadd, 1) := by decide +kernel
theorem dL_law_701 : decode cL_law 701 = .ok (.iaload, 1) := by decide +kernel
theorem dL_law_702 : decode cL_law 702 = .ok (.invokevirtual 94, 3) := by decide +kernel
theorem dL_law_705 : decode cL_law 705 = .ok (.aload_n 2, 1) := by decide +kernel
theorem dL_law_706 : decode cL_law 706 = .ok (.aload_n 0, 1) := by decide +kernel
theorem dL_law_707 : decode cL_law 707 = .ok (.iload_n 3, 1) := by decide +kernel
theorem dL_law_708 : decode cL_law 708 = .ok (.iconst 1, 1) := by decide +kernel
theorem dL_law_709 : decode cL_law 709 = .ok (.iadd, 1) := by decide +kernel
theorem dL_law_710 : decode cL_law 710 = .ok (.iaload, 1) := by decide +kernel
theorem dL_law_711 : decode cL_law 711 = .ok (.invokevirtual 97, 3) := by decide +kernel
theorem dL_law_714 : decode cL_law 714 = .ok (.if_icmp .eq 240, 3) := by decide +kernel
theorem dL_law_717 : decode cL_law 717 = .ok (.iconst 0, 1) := by decide +kernel
theorem dL_law_718 : decode cL_law 718 = .ok (.ireturn, 1) := by decide +kernel
theorem dL_law_719 : decode cL_law 719 = .ok (.aload_n 1, 1) := by decide +kernel
theorem dL_law_720 : decode cL_law 720 = .ok (.aload_n 0, 1) := by decide +kernel
theorem dL_law_721 : decode cL_law 721 = .ok (.iload_n 3, 1) := by decide +kernel
theorem dL_law_722 : decode cL_law 722 = .ok (.iconst 1, 1) := by decide +kernel
theorem dL_law_723 : decode cL_law 723 = .ok (.iadd, 1) := by decide +kernel
theorem dL_law_724 : decode cL_law 724 = .ok (.iaload, 1) := by decide +kernel
theorem dL_law_725 : decode cL_law 725 = .ok (.aload_n 0, 1) := by decide +kernel
theorem dL_law_726 : decode cL_law 726 = .ok (.iload_n 3, 1) := by decide +kernel
theorem dL_law_727 : decode cL_law 727 = .ok (.iconst 2, 1) := by decide +kernel
theorem dL_law_728 : decode cL_law 728 = .ok (.iadd, 1) := by decide +kernel
theorem dL_law_729 : decode cL_law 729 = .ok (.iaload, 1) := by decide +kernel
theorem dL_law_730 : decode cL_law 730 = .ok (.aload_n 0, 1) := by decide +kernel
theorem dL_law_731 : decode cL_law 731 = .ok (.iload_n 3, 1) := by decide +kernel
theorem dL_law_732 : decode cL_law 732 = .ok (.iconst 3, 1) := by decide +kernel
theorem dL_law_733 : decode cL_law 733 = .ok (.iadd, 1) := by decide +kernel
theorem dL_law_734 : decode cL_law 734 = .ok (.iaload, 1) := by decide +kernel
theorem dL_law_735 : decode cL_law 735 = .ok (.invokevirtual 98, 3) := by decide +kernel
theorem dL_law_738 : decode cL_law 738 = .ok (.aload_n 2, 1) := by decide +kernel
theorem dL_law_739 : decode cL_law 739 = .ok (.aload_n 0, 1) := by decide +kernel
theorem dL_law_740 : decode cL_law 740 = .ok (.iload_n 3, 1) := by decide +kernel
theorem dL_law_741 : decode cL_law 741 = .ok (.iconst 1, 1) := by decide +kernel
theorem dL_law_742 : decode cL_law 742 = .ok (.iadd, 1) := by decide +kernel
theorem dL_law_743 : decode cL_law 743 = .ok (.iaload, 1) := by decide +kernel
theorem dL_law_744 : decode cL_law 744 = .ok (.aload_n 0, 1) := by decide +kernel
theorem dL_law_745 : decode cL_law 745 = .ok (.iload_n 3, 1) := by decide +kernel
theorem dL_law_746 : decode cL_law 746 = .ok (.iconst 2, 1) := by decide +kernel
theorem dL_law_747 : decode cL_law 747 = .ok (.iadd, 1) := by decide +kernel
theorem dL_law_748 : decode cL_law 748 = .ok (.iaload, 1) := by decide +kernel
theorem dL_law_749 : decode cL_law 749 = .ok (.aload_n 0, 1) := by decide +kernel
theorem dL_law_750 : decode cL_law 750 = .ok (.iload_n 3, 1) := by decide +kernel
theorem dL_law_751 : decode cL_law 751 = .ok (.iconst 3, 1) := by decide +kernel
theorem dL_law_752 : decode cL_law 752 = .ok (.iadd, 1) := by decide +kernel
theorem dL_law_753 : decode cL_law 753 = .ok (.iaload, 1) := by decide +kernel
theorem dL_law_754 : decode cL_law 754 = .ok (.invokevirtual 101, 3) := by decide +kernel
theorem dL_law_757 : decode cL_law 757 = .ok (.if_icmp .eq 197, 3) := by decide +kernel
theorem dL_law_760 : decode cL_law 760 = .ok (.iconst 0, 1) := by decide +kernel
theorem dL_law_761 : decode cL_law 761 = .ok (.ireturn, 1) := by decide +kernel
theorem dL_law_762 : decode cL_law 762 = .ok (.aload_n 1, 1) := by decide +kernel
theorem dL_law_763 : decode cL_law 763 = .ok (.aload_n 0, 1) := by decide +kernel
theorem dL_law_764 : decode cL_law 764 = .ok (.iload_n 3, 1) := by decide +kernel
theorem dL_law_765 : decode cL_law 765 = .ok (.iconst 1, 1) := by decide +kernel
theorem dL_law_766 : decode cL_law 766 = .ok (.iadd, 1) := by decide +kernel
theorem dL_law_767 : decode cL_law 767 = .ok (.iaload, 1) := by decide +kernel
theorem dL_law_768 : decode cL_law 768 = .ok (.aload_n 0, 1) := by decide +kernel
theorem dL_law_769 : decode cL_law 769 = .ok (.iload_n 3, 1) := by decide +kernel
theorem dL_law_770 : decode cL_law 770 = .ok (.iconst 2, 1) := by decide +kernel
theorem dL_law_771 : decode cL_law 771 = .ok (.iadd, 1) := by decide +kernel
theorem dL_law_772 : decode cL_law 772 = .ok (.iaload, 1) := by decide +kernel
theorem dL_law_773 : decode cL_law 773 = .ok (.aload_n 0, 1) := by decide +kernel
theorem dL_law_774 : decode cL_law 774 = .ok (.iload_n 3, 1) := by decide +kernel
theorem dL_law_775 : decode cL_law 775 = .ok (.iconst 3, 1) := by decide +kernel
theorem dL_law_776 : decode cL_law 776 = .ok (.iadd, 1) := by decide +kernel
theorem dL_law_777 : decode cL_law 777 = .ok (.iaload, 1) := by decide +kernel
theorem dL_law_778 : decode cL_law 778 = .ok (.invokevirtual 102, 3) := by decide +kernel
theorem dL_law_781 : decode cL_law 781 = .ok (.aload_n 2, 1) := by decide +kernel
theorem dL_law_782 : decode cL_law 782 = .ok (.aload_n 0, 1) := by decide +kernel
theorem dL_law_783 : decode cL_law 783 = .ok (.iload_n 3, 1) := by decide +kernel
theorem dL_law_784 : decode cL_law 784 = .ok (.iconst 1, 1) := by decide +kernel
theorem dL_law_785 : decode cL_law 785 = .ok (.iadd, 1) := by decide +kernel
theorem dL_law_786 : decode cL_law 786 = .ok (.iaload, 1) := by decide +kernel
theorem dL_law_787 : decode cL_law 787 = .ok (.aload_n 0, 1) := by decide +kernel
theorem dL_law_788 : decode cL_law 788 = .ok (.iload_n 3, 1) := by decide +kernel
theorem dL_law_789 : decode cL_law 789 = .ok (.iconst 2, 1) := by decide +kernel
theorem dL_law_790 : decode cL_law 790 = .ok (.iadd, 1) := by decide +kernel
theorem dL_law_791 : decode cL_law 791 = .ok (.iaload, 1) := by decide +kernel
theorem dL_law_792 : decode cL_law 792 = .ok (.aload_n 0, 1) := by decide +kernel
theorem dL_law_793 : decode cL_law 793 = .ok (.iload_n 3, 1) := by decide +kernel
theorem dL_law_794 : decode cL_law 794 = .ok (.iconst 3, 1) := by decide +kernel
theorem dL_law_795 : decode cL_law 795 = .ok (.iadd, 1) := by decide +kernel
theorem dL_law_796 : decode cL_law 796 = .ok (.iaload, 1) := by decide +kernel
theorem dL_law_797 : decode cL_law 797 = .ok (.invokevirtual 105, 3) := by decide +kernel
theorem dL_law_800 : decode cL_law 800 = .ok (.if_icmp .eq 154, 3) := by decide +kernel
theorem dL_law_803 : decode cL_law 803 = .ok (.iconst 0, 1) := by decide +kernel
theorem dL_law_804 : decode cL_law 804 = .ok (.ireturn, 1) := by decide +kernel
theorem dL_law_805 : decode cL_law 805 = .ok (.aload_n 1, 1) := by decide +kernel
theorem dL_law_806 : decode cL_law 806 = .ok (.aload_n 0, 1) := by decide +kernel
theorem dL_law_807 : decode cL_law 807 = .ok (.iload_n 3, 1) := by decide +kernel
theorem dL_law_808 : decode cL_law 808 = .ok (.iconst 1, 1) := by decide +kernel
theorem dL_law_809 : decode cL_law 809 = .ok (.iadd, 1) := by decide +kernel
theorem dL_law_810 : decode cL_law 810 = .ok (.iaload, 1) := by decide +kernel
theorem dL_law_811 : decode cL_law 811 = .ok (.aload_n 0, 1) := by decide +kernel
theorem dL_law_812 : decode cL_law 812 = .ok (.iload_n 3, 1) := by decide +kernel
theorem dL_law_813 : decode cL_law 813 = .ok (.iconst 2, 1) := by decide +kernel
theorem dL_law_814 : decode cL_law 814 = .ok (.iadd, 1) := by decide +kernel
theorem dL_law_815 : decode cL_law 815 = .ok (.iaload, 1) := by decide +kernel
theorem dL_law_816 : decode cL_law 816 = .ok (.aload_n 0, 1) := by decide +kernel
theorem dL_law_817 : decode cL_law 817 = .ok (.iload_n 3, 1) := by decide +kernel
theorem dL_law_818 : decode cL_law 818 = .ok (.iconst 3, 1) := by decide +kernel
theorem dL_law_819 : decode cL_law 819 = .ok (.iadd, 1) := by decide +kernel
theorem dL_law_820 : decode cL_law 820 = .ok (.iaload, 1) := by decide +kernel
theorem dL_law_821 : decode cL_law 821 = .ok (.aload_n 0, 1) := by decide +kernel
theorem dL_law_822 : decode cL_law 822 = .ok (.iload_n 3, 1) := by decide +kernel
theorem dL_law_823 : decode cL_law 823 = .ok (.iconst 4, 1) := by decide +kernel
theorem dL_law_824 : decode cL_law 824 = .ok (.iadd, 1) := by decide +kernel
theorem dL_law_825 : decode cL_law 825 = .ok (.iaload, 1) := by decide +kernel
theorem dL_law_826 : decode cL_law 826 = .ok (.aload_n 0, 1) := by decide +kernel
theorem dL_law_827 : decode cL_law 827 = .ok (.iload_n 3, 1) := by decide +kernel
theorem dL_law_828 : decode cL_law 828 = .ok (.iconst 5, 1) := by decide +kernel
theorem dL_law_829 : decode cL_law 829 = .ok (.iadd, 1) := by decide +kernel
theorem dL_law_830 : decode cL_law 830 = .ok (.iaload, 1) := by decide +kernel
theorem dL_law_831 : decode cL_law 831 = .ok (.invokevirtual 106, 3) := by decide +kernel
theorem dL_law_834 : decode cL_law 834 = .ok (.aload_n 2, 1) := by decide +kernel
theorem dL_law_835 : decode cL_law 835 = .ok (.aload_n 0, 1) := by decide +kernel
theorem dL_law_836 : decode cL_law 836 = .ok (.iload_n 3, 1) := by decide +kernel
theorem dL_law_837 : decode cL_law 837 = .ok (.iconst 1, 1) := by decide +kernel
theorem dL_law_838 : decode cL_law 838 = .ok (.iadd, 1) := by decide +kernel
theorem dL_law_839 : decode cL_law 839 = .ok (.iaload, 1) := by decide +kernel
theorem dL_law_840 : decode cL_law 840 = .ok (.aload_n 0, 1) := by decide +kernel
theorem dL_law_841 : decode cL_law 841 = .ok (.iload_n 3, 1) := by decide +kernel
theorem dL_law_842 : decode cL_law 842 = .ok (.iconst 2, 1) := by decide +kernel
theorem dL_law_843 : decode cL_law 843 = .ok (.iadd, 1) := by decide +kernel
theorem dL_law_844 : decode cL_law 844 = .ok (.iaload, 1) := by decide +kernel
theorem dL_law_845 : decode cL_law 845 = .ok (.aload_n 0, 1) := by decide +kernel
theorem dL_law_846 : decode cL_law 846 = .ok (.iload_n 3, 1) := by decide +kernel
theorem dL_law_847 : decode cL_law 847 = .ok (.iconst 3, 1) := by decide +kernel
theorem dL_law_848 : decode cL_law 848 = .ok (.iadd, 1) := by decide +kernel
theorem dL_law_849 : decode cL_law 849 = .ok (.iaload, 1) := by decide +kernel
theorem dL_law_850 : decode cL_law 850 = .ok (.aload_n 0, 1) := by decide +kernel
theorem dL_law_851 : decode cL_law 851 = .ok (.iload_n 3, 1) := by decide +kernel
theorem dL_law_852 : decode cL_law 852 = .ok (.iconst 4, 1) := by decide +kernel
theorem dL_law_853 : decode cL_law 853 = .ok (.iadd, 1) := by decide +kernel
theorem dL_law_854 : decode cL_law 854 = .ok (.iaload, 1) := by decide +kernel
theorem dL_law_855 : decode cL_law 855 = .ok (.aload_n 0, 1) := by decide +kernel
theorem dL_law_856 : decode cL_law 856 = .ok (.iload_n 3, 1) := by decide +kernel
theorem dL_law_857 : decode cL_law 857 = .ok (.iconst 5, 1) := by decide +kernel
theorem dL_law_858 : decode cL_law 858 = .ok (.iadd, 1) := by decide +kernel
theorem dL_law_859 : decode cL_law 859 = .ok (.iaload, 1) := by decide +kernel
theorem dL_law_860 : decode cL_law 860 = .ok (.invokevirtual 110, 3) := by decide +kernel
theorem dL_law_863 : decode cL_law 863 = .ok (.if_icmp .eq 91, 3) := by decide +kernel
theorem dL_law_866 : decode cL_law 866 = .ok (.iconst 0, 1) := by decide +kernel
theorem dL_law_867 : decode cL_law 867 = .ok (.ireturn, 1) := by decide +kernel
theorem dL_law_868 : decode cL_law 868 = .ok (.aload_n 1, 1) := by decide +kernel
theorem dL_law_869 : decode cL_law 869 = .ok (.aload_n 0, 1) := by decide +kernel
theorem dL_law_870 : decode cL_law 870 = .ok (.iload_n 3, 1) := by decide +kernel
theorem dL_law_871 : decode cL_law 871 = .ok (.iconst 1, 1) := by decide +kernel
theorem dL_law_872 : decode cL_law 872 = .ok (.iadd, 1) := by decide +kernel
theorem dL_law_873 : decode cL_law 873 = .ok (.iaload, 1) := by decide +kernel
theorem dL_law_874 : decode cL_law 874 = .ok (.aload_n 0, 1) := by decide +kernel
theorem dL_law_875 : decode cL_law 875 = .ok (.iload_n 3, 1) := by decide +kernel
theorem dL_law_876 : decode cL_law 876 = .ok (.iconst 2, 1) := by decide +kernel
theorem dL_law_877 : decode cL_law 877 = .ok (.iadd, 1) := by decide +kernel
theorem dL_law_878 : decode cL_law 878 = .ok (.iaload, 1) := by decide +kernel
theorem dL_law_879 : decode cL_law 879 = .ok (.aload_n 0, 1) := by decide +kernel
theorem dL_law_880 : decode cL_law 880 = .ok (.iload_n 3, 1) := by decide +kernel
theorem dL_law_881 : decode cL_law 881 = .ok (.iconst 3, 1) := by decide +kernel
theorem dL_law_882 : decode cL_law 882 = .ok (.iadd, 1) := by decide +kernel
theorem dL_law_883 : decode cL_law 883 = .ok (.iaload, 1) := by decide +kernel
theorem dL_law_884 : decode cL_law 884 = .ok (.aload_n 0, 1) := by decide +kernel
theorem dL_law_885 : decode cL_law 885 = .ok (.iload_n 3, 1) := by decide +kernel
theorem dL_law_886 : decode cL_law 886 = .ok (.iconst 4, 1) := by decide +kernel
theorem dL_law_887 : decode cL_law 887 = .ok (.iadd, 1) := by decide +kernel
theorem dL_law_888 : decode cL_law 888 = .ok (.iaload, 1) := by decide +kernel
theorem dL_law_889 : decode cL_law 889 = .ok (.invokevirtual 111, 3) := by decide +kernel
theorem dL_law_892 : decode cL_law 892 = .ok (.aload_n 2, 1) := by decide +kernel
theorem dL_law_893 : decode cL_law 893 = .ok (.aload_n 0, 1) := by decide +kernel
theorem dL_law_894 : decode cL_law 894 = .ok (.iload_n 3, 1) := by decide +kernel
theorem dL_law_895 : decode cL_law 895 = .ok (.iconst 1, 1) := by decide +kernel
theorem dL_law_896 : decode cL_law 896 = .ok (.iadd, 1) := by decide +kernel
theorem dL_law_897 : decode cL_law 897 = .ok (.iaload, 1) := by decide +kernel
theorem dL_law_898 : decode cL_law 898 = .ok (.aload_n 0, 1) := by decide +kernel
theorem dL_law_899 : decode cL_law 899 = .ok (.iload_n 3, 1) := by decide +kernel
theorem dL_law_900 : decode cL_law 900 = .ok (.iconst 2, 1) := by decide +kernel
theorem dL_law_901 : decode cL_law 901 = .ok (.iadd, 1) := by decide +kernel
theorem dL_law_902 : decode cL_law 902 = .ok (.iaload, 1) := by decide +kernel
theorem dL_law_903 : decode cL_law 903 = .ok (.aload_n 0, 1) := by decide +kernel
theorem dL_law_904 : decode cL_law 904 = .ok (.iload_n 3, 1) := by decide +kernel
theorem dL_law_905 : decode cL_law 905 = .ok (.iconst 3, 1) := by decide +kernel
theorem dL_law_906 : decode cL_law 906 = .ok (.iadd, 1) := by decide +kernel
theorem dL_law_907 : decode cL_law 907 = .ok (.iaload, 1) := by decide +kernel
theorem dL_law_908 : decode cL_law 908 = .ok (.aload_n 0, 1) := by decide +kernel
theorem dL_law_909 : decode cL_law 909 = .ok (.iload_n 3, 1) := by decide +kernel
theorem dL_law_910 : decode cL_law 910 = .ok (.iconst 4, 1) := by decide +kernel
theorem dL_law_911 : decode cL_law 911 = .ok (.iadd, 1) := by decide +kernel
theorem dL_law_912 : decode cL_law 912 = .ok (.iaload, 1) := by decide +kernel
theorem dL_law_913 : decode cL_law 913 = .ok (.invokevirtual 115, 3) := by decide +kernel
theorem dL_law_916 : decode cL_law 916 = .ok (.if_icmp .eq 38, 3) := by decide +kernel
theorem dL_law_919 : decode cL_law 919 = .ok (.iconst 0, 1) := by decide +kernel
theorem dL_law_920 : decode cL_law 920 = .ok (.ireturn, 1) := by decide +kernel
theorem dL_law_921 : decode cL_law 921 = .ok (.aload_n 1, 1) := by decide +kernel
theorem dL_law_922 : decode cL_law 922 = .ok (.aload_n 0, 1) := by decide +kernel
theorem dL_law_923 : decode cL_law 923 = .ok (.iload_n 3, 1) := by decide +kernel
theorem dL_law_924 : decode cL_law 924 = .ok (.iconst 1, 1) := by decide +kernel
theorem dL_law_925 : decode cL_law 925 = .ok (.iadd, 1) := by decide +kernel
theorem dL_law_926 : decode cL_law 926 = .ok (.iaload, 1) := by decide +kernel
theorem dL_law_927 : decode cL_law 927 = .ok (.aload_n 0, 1) := by decide +kernel
theorem dL_law_928 : decode cL_law 928 = .ok (.iload_n 3, 1) := by decide +kernel
theorem dL_law_929 : decode cL_law 929 = .ok (.iconst 2, 1) := by decide +kernel
theorem dL_law_930 : decode cL_law 930 = .ok (.iadd, 1) := by decide +kernel
theorem dL_law_931 : decode cL_law 931 = .ok (.iaload, 1) := by decide +kernel
theorem dL_law_932 : decode cL_law 932 = .ok (.invokevirtual 116, 3) := by decide +kernel
theorem dL_law_935 : decode cL_law 935 = .ok (.aload_n 2, 1) := by decide +kernel
theorem dL_law_936 : decode cL_law 936 = .ok (.aload_n 0, 1) := by decide +kernel
theorem dL_law_937 : decode cL_law 937 = .ok (.iload_n 3, 1) := by decide +kernel
theorem dL_law_938 : decode cL_law 938 = .ok (.iconst 1, 1) := by decide +kernel
theorem dL_law_939 : decode cL_law 939 = .ok (.iadd, 1) := by decide +kernel
theorem dL_law_940 : decode cL_law 940 = .ok (.iaload, 1) := by decide +kernel
theorem dL_law_941 : decode cL_law 941 = .ok (.aload_n 0, 1) := by decide +kernel
theorem dL_law_942 : decode cL_law 942 = .ok (.iload_n 3, 1) := by decide +kernel
theorem dL_law_943 : decode cL_law 943 = .ok (.iconst 2, 1) := by decide +kernel
theorem dL_law_944 : decode cL_law 944 = .ok (.iadd, 1) := by decide +kernel
theorem dL_law_945 : decode cL_law 945 = .ok (.iaload, 1) := by decide +kernel
theorem dL_law_946 : decode cL_law 946 = .ok (.invokevirtual 119, 3) := by decide +kernel
theorem dL_law_949 : decode cL_law 949 = .ok (.if_icmp .eq 5, 3) := by decide +kernel
theorem dL_law_952 : decode cL_law 952 = .ok (.iconst 0, 1) := by decide +kernel
theorem dL_law_953 : decode cL_law 953 = .ok (.ireturn, 1) := by decide +kernel
theorem dL_law_954 : decode cL_law 954 = .ok (.iinc 3 6, 3) := by decide +kernel
theorem dL_law_957 : decode cL_law 957 = .ok (.goto (-939), 3) := by decide +kernel
theorem dL_law_960 : decode cL_law 960 = .ok (.iconst 1, 1) := by decide +kernel
theorem dL_law_961 : decode cL_law 961 = .ok (.ireturn, 1) := by decide +kernel
