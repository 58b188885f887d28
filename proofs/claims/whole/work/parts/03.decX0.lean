theorem dX0_init_0 : decode cX0_init 0 = .ok (.aload_n 0, 1) := by decide +kernel
theorem dX0_init_1 : decode cX0_init 1 = .ok (.invokespecial 3, 3) := by decide +kernel
theorem dX0_init_4 : decode cX0_init 4 = .ok (.aload_n 0, 1) := by decide +kernel
theorem dX0_init_5 : decode cX0_init 5 = .ok (.bipush 16, 2) := by decide +kernel
theorem dX0_init_7 : decode cX0_init 7 = .ok (.newarray .int, 2) := by decide +kernel
theorem dX0_init_9 : decode cX0_init 9 = .ok (.putfield 9, 3) := by decide +kernel
theorem dX0_init_12 : decode cX0_init 12 = .ok (.aload_n 0, 1) := by decide +kernel
theorem dX0_init_13 : decode cX0_init 13 = .ok (.bipush 7, 2) := by decide +kernel
theorem dX0_init_15 : decode cX0_init 15 = .ok (.anewarray 15, 3) := by decide +kernel
theorem dX0_init_18 : decode cX0_init 18 = .ok (.putfield 17, 3) := by decide +kernel
theorem dX0_init_21 : decode cX0_init 21 = .ok (.aload_n 0, 1) := by decide +kernel
theorem dX0_init_22 : decode cX0_init 22 = .ok (.bipush 16, 2) := by decide +kernel
theorem dX0_init_24 : decode cX0_init 24 = .ok (.newarray .int, 2) := by decide +kernel
theorem dX0_init_26 : decode cX0_init 26 = .ok (.putfield 21, 3) := by decide +kernel
theorem dX0_init_29 : decode cX0_init 29 = .ok (.aload_n 0, 1) := by decide +kernel
theorem dX0_init_30 : decode cX0_init 30 = .ok (.bipush 6, 2) := by decide +kernel
theorem dX0_init_32 : decode cX0_init 32 = .ok (.newarray .int, 2) := by decide +kernel
theorem dX0_init_34 : decode cX0_init 34 = .ok (.putfield 26, 3) := by decide +kernel
theorem dX0_init_37 : decode cX0_init 37 = .ok (.aload_n 0, 1) := by decide +kernel
theorem dX0_init_38 : decode cX0_init 38 = .ok (.aload_n 1, 1) := by decide +kernel
theorem dX0_init_39 : decode cX0_init 39 = .ok (.putfield 29, 3) := by decide +kernel
theorem dX0_init_42 : decode cX0_init 42 = .ok (.iconst 0, 1) := by decide +kernel
theorem dX0_init_43 : decode cX0_init 43 = .ok (.istore_n 2, 1) := by decide +kernel
theorem dX0_init_44 : decode cX0_init 44 = .ok (.iload_n 2, 1) := by decide +kernel
theorem dX0_init_45 : decode cX0_init 45 = .ok (.aload_n 0, 1) := by decide +kernel
theorem dX0_init_46 : decode cX0_init 46 = .ok (.getfield 17, 3) := by decide +kernel
theorem dX0_init_49 : decode cX0_init 49 = .ok (.arraylength, 1) := by decide +kernel
theorem dX0_init_50 : decode cX0_init 50 = .ok (.if_icmp .ge 22, 3) := by decide +kernel
theorem dX0_init_53 : decode cX0_init 53 = .ok (.aload_n 0, 1) := by decide +kernel
theorem dX0_init_54 : decode cX0_init 54 = .ok (.getfield 17, 3) := by decide +kernel
theorem dX0_init_57 : decode cX0_init 57 = .ok (.iload_n 2, 1) := by decide +kernel
theorem dX0_init_58 : decode cX0_init 58 = .ok (.new 15, 3) := by decide +kernel
theorem dX0_init_61 : decode cX0_init 61 = .ok (.dup, 1) := by decide +kernel
theorem dX0_init_62 : decode cX0_init 62 = .ok (.invokespecial 33, 3) := by decide +kernel
theorem dX0_init_65 : decode cX0_init 65 = .ok (.aastore, 1) := by decide +kernel
theorem dX0_init_66 : decode cX0_init 66 = .ok (.iinc 2 1, 3) := by decide +kernel
theorem dX0_init_69 : decode cX0_init 69 = .ok (.goto (-25), 3) := by decide +kernel
theorem dX0_init_72 : decode cX0_init 72 = .ok (.return_, 1) := by decide +kernel
theorem dX0_become_0 : decode cX0_become 0 = .ok (.aload_n 1, 1) := by decide +kernel
theorem dX0_become_1 : decode cX0_become 1 = .ok (.getfield 9, 3) := by decide +kernel
theorem dX0_become_4 : decode cX0_become 4 = .ok (.iconst 0, 1) := by decide +kernel
theorem dX0_become_5 : decode cX0_become 5 = .ok (.aload_n 0, 1) := by decide +kernel
theorem dX0_become_6 : decode cX0_become 6 = .ok (.getfield 9, 3) := by decide +kernel
theorem dX0_become_9 : decode cX0_become 9 = .ok (.iconst 0, 1) := by decide +kernel
theorem dX0_become_10 : decode cX0_become 10 = .ok (.bipush 16, 2) := by decide +kernel
theorem dX0_become_12 : decode cX0_become 12 = .ok (.invokestatic 34, 3) := by decide +kernel
theorem dX0_become_15 : decode cX0_become 15 = .ok (.iconst 0, 1) := by decide +kernel
theorem dX0_become_16 : decode cX0_become 16 = .ok (.istore_n 2, 1) := by decide +kernel
theorem dX0_become_17 : decode cX0_become 17 = .ok (.iload_n 2, 1) := by decide +kernel
theorem dX0_become_18 : decode cX0_become 18 = .ok (.aload_n 1, 1) := by decide +kernel
theorem dX0_become_19 : decode cX0_become 19 = .ok (.getfield 40, 3) := by decide +kernel
theorem dX0_become_22 : decode cX0_become 22 = .ok (.if_icmp .ge 24, 3) := by decide +kernel
theorem dX0_become_25 : decode cX0_become 25 = .ok (.aload_n 0, 1) := by decide +kernel
theorem dX0_become_26 : decode cX0_become 26 = .ok (.getfield 17, 3) := by decide +kernel
theorem dX0_become_29 : decode cX0_become 29 = .ok (.iload_n 2, 1) := by decide +kernel
theorem dX0_become_30 : decode cX0_become 30 = .ok (.aaload, 1) := by decide +kernel
theorem dX0_become_31 : decode cX0_become 31 = .ok (.aload_n 1, 1) := by decide +kernel
theorem dX0_become_32 : decode cX0_become 32 = .ok (.getfield 17, 3) := by decide +kernel
theorem dX0_become_35 : decode cX0_become 35 = .ok (.iload_n 2, 1) := by decide +kernel
theorem dX0_become_36 : decode cX0_become 36 = .ok (.aaload, 1) := by decide +kernel
theorem dX0_become_37 : decode cX0_become 37 = .ok (.invokevirtual 44, 3) := by decide +kernel
theorem dX0_become_40 : decode cX0_become 40 = .ok (.iinc 2 1, 3) := by decide +kernel
theorem dX0_become_43 : decode cX0_become 43 = .ok (.goto (-26), 3) := by decide +kernel
theorem dX0_become_46 : decode cX0_become 46 = .ok (.aload_n 0, 1) := by decide +kernel
theorem dX0_become_47 : decode cX0_become 47 = .ok (.aload_n 1, 1) := by decide +kernel
theorem dX0_become_48 : decode cX0_become 48 = .ok (.getfield 29, 3) := by decide +kernel
theorem dX0_become_51 : decode cX0_become 51 = .ok (.putfield 29, 3) := by decide +kernel
theorem dX0_become_54 : decode cX0_become 54 = .ok (.aload_n 0, 1) := by decide +kernel
theorem dX0_become_55 : decode cX0_become 55 = .ok (.aload_n 1, 1) := by decide +kernel
theorem dX0_become_56 : decode cX0_become 56 = .ok (.getfield 48, 3) := by decide +kernel
theorem dX0_become_59 : decode cX0_become 59 = .ok (.putfield 48, 3) := by decide +kernel
theorem dX0_become_62 : decode cX0_become 62 = .ok (.aload_n 0, 1) := by decide +kernel
theorem dX0_become_63 : decode cX0_become 63 = .ok (.aload_n 1, 1) := by decide +kernel
theorem dX0_become_64 : decode cX0_become 64 = .ok (.getfield 40, 3) := by decide +kernel
theorem dX0_become_67 : decode cX0_become 67 = .ok (.putfield 40, 3) := by decide +kernel
theorem dX0_become_70 : decode cX0_become 70 = .ok (.return_, 1) := by decide +kernel
theorem dX0_add_0 : decode cX0_add 0 = .ok (.aload_n 0, 1) := by decide +kernel
theorem dX0_add_1 : decode cX0_add 1 = .ok (.getfield 17, 3) := by decide +kernel
theorem dX0_add_4 : decode cX0_add 4 = .ok (.aload_n 0, 1) := by decide +kernel
theorem dX0_add_5 : decode cX0_add 5 = .ok (.getfield 40, 3) := by decide +kernel
theorem dX0_add_8 : decode cX0_add 8 = .ok (.bipush 6, 2) := by decide +kernel
theorem dX0_add_10 : decode cX0_add 10 = .ok (.invokestatic 51, 3) := by decide +kernel
theorem dX0_add_13 : decode cX0_add 13 = .ok (.aaload, 1) := by decide +kernel
theorem dX0_add_14 : decode cX0_add 14 = .ok (.astore 5, 2) := by decide +kernel
theorem dX0_add_16 : decode cX0_add 16 = .ok (.aload 5, 2) := by decide +kernel
theorem dX0_add_18 : decode cX0_add 18 = .ok (.iload_n 1, 1) := by decide +kernel
theorem dX0_add_19 : decode cX0_add 19 = .ok (.putfield 57, 3) := by decide +kernel
theorem dX0_add_22 : decode cX0_add 22 = .ok (.aload 5, 2) := by decide +kernel
theorem dX0_add_24 : decode cX0_add 24 = .ok (.iload_n 2, 1) := by decide +kernel
theorem dX0_add_25 : decode cX0_add 25 = .ok (.putfield 60, 3) := by decide +kernel
theorem dX0_add_28 : decode cX0_add 28 = .ok (.aload 5, 2) := by decide +kernel
theorem dX0_add_30 : decode cX0_add 30 = .ok (.iconst 0, 1) := by decide +kernel
theorem dX0_add_31 : decode cX0_add 31 = .ok (.putfield 63, 3) := by decide +kernel
theorem dX0_add_34 : decode cX0_add 34 = .ok (.aload 5, 2) := by decide +kernel
theorem dX0_add_36 : decode cX0_add 36 = .ok (.iconst 0, 1) := by decide +kernel
theorem dX0_add_37 : decode cX0_add 37 = .ok (.putfield 66, 3) := by decide +kernel
theorem dX0_add_40 : decode cX0_add 40 = .ok (.aload 5, 2) := by decide +kernel
theorem dX0_add_42 : decode cX0_add 42 = .ok (.iload_n 3, 1) := by decide +kernel
theorem dX0_add_43 : decode cX0_add 43 = .ok (.iload 4, 2) := by decide +kernel
theorem dX0_add_45 : decode cX0_add 45 = .ok (.invokevirtual 70, 3) := by decide +kernel
theorem dX0_add_48 : decode cX0_add 48 = .ok (.aload_n 0, 1) := by decide +kernel
theorem dX0_add_49 : decode cX0_add 49 = .ok (.aload_n 0, 1) := by decide +kernel
theorem dX0_add_50 : decode cX0_add 50 = .ok (.getfield 40, 3) := by decide +kernel
theorem dX0_add_53 : decode cX0_add 53 = .ok (.bipush 6, 2) := by decide +kernel
theorem dX0_add_55 : decode cX0_add 55 = .ok (.invokestatic 51, 3) := by decide +kernel
theorem dX0_add_58 : decode cX0_add 58 = .ok (.iconst 1, 1) := by decide +kernel
theorem dX0_add_59 : decode cX0_add 59 = .ok (.iadd, 1) := by decide +kernel
theorem dX0_add_60 : decode cX0_add 60 = .ok (.putfield 40, 3) := by decide +kernel
theorem dX0_add_63 : decode cX0_add 63 = .ok (.aload 5, 2) := by decide +kernel
theorem dX0_add_65 : decode cX0_add 65 = .ok (.areturn, 1) := by decide +kernel
theorem dX0_whole_0 : decode cX0_whole 0 = .ok (.iconst 0, 1) := by decide +kernel
theorem dX0_whole_1 : decode cX0_whole 1 = .ok (.istore_n 1, 1) := by decide +kernel
theorem dX0_whole_2 : decode cX0_whole 2 = .ok (.iconst 0, 1) := by decide +kernel
theorem dX0_whole_3 : decode cX0_whole 3 = .ok (.istore_n 2, 1) := by decide +kernel
theorem dX0_whole_4 : decode cX0_whole 4 = .ok (.iload_n 2, 1) := by decide +kernel
theorem dX0_whole_5 : decode cX0_whole 5 = .ok (.aload_n 0, 1) := by decide +kernel
theorem dX0_whole_6 : decode cX0_whole 6 = .ok (.getfield 40, 3) := by decide +kernel
theorem dX0_whole_9 : decode cX0_whole 9 = .ok (.if_icmp .ge 29, 3) := by decide +kernel
theorem dX0_whole_12 : decode cX0_whole 12 = .ok (.iload_n 1, 1) := by decide +kernel
theorem dX0_whole_13 : decode cX0_whole 13 = .ok (.aload_n 0, 1) := by decide +kernel
theorem dX0_whole_14 : decode cX0_whole 14 = .ok (.getfield 17, 3) := by decide +kernel
theorem dX0_whole_17 : decode cX0_whole 17 = .ok (.iload_n 2, 1) := by decide +kernel
theorem dX0_whole_18 : decode cX0_whole 18 = .ok (.aaload, 1) := by decide +kernel
theorem dX0_whole_19 : decode cX0_whole 19 = .ok (.getfield 66, 3) := by decide +kernel
theorem dX0_whole_22 : decode cX0_whole 22 = .ok (.ifCond .eq 7, 3) := by decide +kernel
theorem dX0_whole_25 : decode cX0_whole 25 = .ok (.iconst 0, 1) := by decide +kernel
theorem dX0_whole_26 : decode cX0_whole 26 = .ok (.goto 4, 3) := by decide +kernel
theorem dX0_whole_29 : decode cX0_whole 29 = .ok (.iconst 1, 1) := by decide +kernel
theorem dX0_whole_30 : decode cX0_whole 30 = .ok (.iadd, 1) := by decide +kernel
theorem dX0_whole_31 : decode cX0_whole 31 = .ok (.istore_n 1, 1) := by decide +kernel
theorem dX0_whole_32 : decode cX0_whole 32 = .ok (.iinc 2 1, 3) := by decide +kernel
theorem dX0_whole_35 : decode cX0_whole 35 = .ok (.goto (-31), 3) := by decide +kernel
theorem dX0_whole_38 : decode cX0_whole 38 = .ok (.iload_n 1, 1) := by decide +kernel
theorem dX0_whole_39 : decode cX0_whole 39 = .ok (.ireturn, 1) := by decide +kernel
theorem dX0_goneHours_0 : decode cX0_goneHours 0 = .ok (.iconst 0, 1) := by decide +kernel
theorem dX0_goneHours_1 : decode cX0_goneHours 1 = .ok (.istore_n 1, 1) := by decide +kernel
theorem dX0_goneHours_2 : decode cX0_goneHours 2 = .ok (.iconst 0, 1) := by decide +kernel
theorem dX0_goneHours_3 : decode cX0_goneHours 3 = .ok (.istore_n 2, 1) := by decide +kernel
theorem dX0_goneHours_4 : decode cX0_goneHours 4 = .ok (.iload_n 2, 1) := by decide +kernel
theorem dX0_goneHours_5 : decode cX0_goneHours 5 = .ok (.aload_n 0, 1) := by decide +kernel
theorem dX0_goneHours_6 : decode cX0_goneHours 6 = .ok (.getfield 40, 3) := by decide +kernel
theorem dX0_goneHours_9 : decode cX0_goneHours 9 = .ok (.if_icmp .ge 37, 3) := by decide +kernel
theorem dX0_goneHours_12 : decode cX0_goneHours 12 = .ok (.iload_n 1, 1) := by decide +kernel
theorem dX0_goneHours_13 : decode cX0_goneHours 13 = .ok (.aload_n 0, 1) := by decide +kernel
theorem dX0_goneHours_14 : decode cX0_goneHours 14 = .ok (.getfield 17, 3) := by decide +kernel
theorem dX0_goneHours_17 : decode cX0_goneHours 17 = .ok (.iload_n 2, 1) := by decide +kernel
theorem dX0_goneHours_18 : decode cX0_goneHours 18 = .ok (.aaload, 1) := by decide +kernel
theorem dX0_goneHours_19 : decode cX0_goneHours 19 = .ok (.getfield 66, 3) := by decide +kernel
theorem dX0_goneHours_22 : decode cX0_goneHours 22 = .ok (.ifCond .eq 7, 3) := by decide +kernel
theorem dX0_goneHours_25 : decode cX0_goneHours 25 = .ok (.iconst 0, 1) := by decide +kernel
theorem dX0_goneHours_26 : decode cX0_goneHours 26 = .ok (.goto 12, 3) := by decide +kernel
theorem dX0_goneHours_29 : decode cX0_goneHours 29 = .ok (.aload_n 0, 1) := by decide +kernel
theorem dX0_goneHours_30 : decode cX0_goneHours 30 = .ok (.getfield 17, 3) := by decide +kernel
theorem dX0_goneHours_33 : decode cX0_goneHours 33 = .ok (.iload_n 2, 1) := by decide +kernel
theorem dX0_goneHours_34 : decode cX0_goneHours 34 = .ok (.aaload, 1) := by decide +kernel
theorem dX0_goneHours_35 : decode cX0_goneHours 35 = .ok (.invokevirtual 74, 3) := by decide +kernel
theorem dX0_goneHours_38 : decode cX0_goneHours 38 = .ok (.ior, 1) := by decide +kernel
theorem dX0_goneHours_39 : decode cX0_goneHours 39 = .ok (.istore_n 1, 1) := by decide +kernel
theorem dX0_goneHours_40 : decode cX0_goneHours 40 = .ok (.iinc 2 1, 3) := by decide +kernel
theorem dX0_goneHours_43 : decode cX0_goneHours 43 = .ok (.goto (-39), 3) := by decide +kernel
theorem dX0_goneHours_46 : decode cX0_goneHours 46 = .ok (.iload_n 1, 1) := by decide +kernel
theorem dX0_goneHours_47 : decode cX0_goneHours 47 = .ok (.ireturn, 1) := by decide +kernel
theorem dX0_weigh_0 : decode cX0_weigh 0 = .ok (.aload_n 0, 1) := by decide +kernel
theorem dX0_weigh_1 : decode cX0_weigh 1 = .ok (.aload_n 0, 1) := by decide +kernel
theorem dX0_weigh_2 : decode cX0_weigh 2 = .ok (.invokevirtual 78, 3) := by decide +kernel
theorem dX0_weigh_5 : decode cX0_weigh 5 = .ok (.putfield 81, 3) := by decide +kernel
theorem dX0_weigh_8 : decode cX0_weigh 8 = .ok (.aload_n 0, 1) := by decide +kernel
theorem dX0_weigh_9 : decode cX0_weigh 9 = .ok (.iconst 0, 1) := by decide +kernel
theorem dX0_weigh_10 : decode cX0_weigh 10 = .ok (.putfield 84, 3) := by decide +kernel
theorem dX0_weigh_13 : decode cX0_weigh 13 = .ok (.aload_n 0, 1) := by decide +kernel
theorem dX0_weigh_14 : decode cX0_weigh 14 = .ok (.getfield 21, 3) := by decide +kernel
theorem dX0_weigh_17 : decode cX0_weigh 17 = .ok (.iconst 0, 1) := by decide +kernel
theorem dX0_weigh_18 : decode cX0_weigh 18 = .ok (.invokestatic 87, 3) := by decide +kernel
theorem dX0_weigh_21 : decode cX0_weigh 21 = .ok (.aload_n 0, 1) := by decide +kernel
theorem dX0_weigh_22 : decode cX0_weigh 22 = .ok (.invokevirtual 93, 3) := by decide +kernel
theorem dX0_weigh_25 : decode cX0_weigh 25 = .ok (.istore_n 1, 1) := by decide +kernel
theorem dX0_weigh_26 : decode cX0_weigh 26 = .ok (.iconst 0, 1) := by decide +kernel
theorem dX0_weigh_27 : decode cX0_weigh 27 = .ok (.istore_n 2, 1) := by decide +kernel
theorem dX0_weigh_28 : decode cX0_weigh 28 = .ok (.iload_n 2, 1) := by decide +kernel
theorem dX0_weigh_29 : decode cX0_weigh 29 = .ok (.aload_n 0, 1) := by decide +kernel
theorem dX0_weigh_30 : decode cX0_weigh 30 = .ok (.getfield 40, 3) := by decide +kernel
theorem dX0_weigh_33 : decode cX0_weigh 33 = .ok (.if_icmp .ge 69, 3) := by decide +kernel
theorem dX0_weigh_36 : decode cX0_weigh 36 = .ok (.aload_n 0, 1) := by decide +kernel
theorem dX0_weigh_37 : decode cX0_weigh 37 = .ok (.getfield 17, 3) := by decide +kernel
theorem dX0_weigh_40 : decode cX0_weigh 40 = .ok (.iload_n 2, 1) := by decide +kernel
theorem dX0_weigh_41 : decode cX0_weigh 41 = .ok (.aaload, 1) := by decide +kernel
theorem dX0_weigh_42 : decode cX0_weigh 42 = .ok (.getfield 66, 3) := by decide +kernel
theorem dX0_weigh_45 : decode cX0_weigh 45 = .ok (.ifCond .ne 51, 3) := by decide +kernel
theorem dX0_weigh_48 : decode cX0_weigh 48 = .ok (.aload_n 0, 1) := by decide +kernel
theorem dX0_weigh_49 : decode cX0_weigh 49 = .ok (.aload_n 0, 1) := by decide +kernel
theorem dX0_weigh_50 : decode cX0_weigh 50 = .ok (.getfield 17, 3) := by decide +kernel
theorem dX0_weigh_53 : decode cX0_weigh 53 = .ok (.iload_n 2, 1) := by decide +kernel
theorem dX0_weigh_54 : decode cX0_weigh 54 = .ok (.aaload, 1) := by decide +kernel
theorem dX0_weigh_55 : decode cX0_weigh 55 = .ok (.aload_n 0, 1) := by decide +kernel
theorem dX0_weigh_56 : decode cX0_weigh 56 = .ok (.aload_n 0, 1) := by decide +kernel
theorem dX0_weigh_57 : decode cX0_weigh 57 = .ok (.getfield 17, 3) := by decide +kernel
theorem dX0_weigh_60 : decode cX0_weigh 60 = .ok (.iload_n 2, 1) := by decide +kernel
theorem dX0_weigh_61 : decode cX0_weigh 61 = .ok (.aaload, 1) := by decide +kernel
theorem dX0_weigh_62 : decode cX0_weigh 62 = .ok (.getfield 96, 3) := by decide +kernel
theorem dX0_weigh_65 : decode cX0_weigh 65 = .ok (.invokevirtual 99, 3) := by decide +kernel
theorem dX0_weigh_68 : decode cX0_weigh 68 = .ok (.iload_n 1, 1) := by decide +kernel
theorem dX0_weigh_69 : decode cX0_weigh 69 = .ok (.invokevirtual 103, 3) := by decide +kernel
theorem dX0_weigh_72 : decode cX0_weigh 72 = .ok (.aload_n 0, 1) := by decide +kernel
theorem dX0_weigh_73 : decode cX0_weigh 73 = .ok (.aload_n 0, 1) := by decide +kernel
theorem dX0_weigh_74 : decode cX0_weigh 74 = .ok (.getfield 17, 3) := by decide +kernel
theorem dX0_weigh_77 : decode cX0_weigh 77 = .ok (.iload_n 2, 1) := by decide +kernel
theorem dX0_weigh_78 : decode cX0_weigh 78 = .ok (.aaload, 1) := by decide +kernel
theorem dX0_weigh_79 : decode cX0_weigh 79 = .ok (.aload_n 0, 1) := by decide +kernel
theorem dX0_weigh_80 : decode cX0_weigh 80 = .ok (.aload_n 0, 1) := by decide +kernel
theorem dX0_weigh_81 : decode cX0_weigh 81 = .ok (.getfield 17, 3) := by decide +kernel
theorem dX0_weigh_84 : decode cX0_weigh 84 = .ok (.iload_n 2, 1) := by decide +kernel
theorem dX0_weigh_85 : decode cX0_weigh 85 = .ok (.aaload, 1) := by decide +kernel
theorem dX0_weigh_86 : decode cX0_weigh 86 = .ok (.getfield 107, 3) := by decide +kernel
theorem dX0_weigh_89 : decode cX0_weigh 89 = .ok (.invokevirtual 110, 3) := by decide +kernel
theorem dX0_weigh_92 : decode cX0_weigh 92 = .ok (.iload_n 1, 1) := by decide +kernel
theorem dX0_weigh_93 : decode cX0_weigh 93 = .ok (.invokevirtual 103, 3) := by decide +kernel
theorem dX0_weigh_96 : decode cX0_weigh 96 = .ok (.iinc 2 1, 3) := by decide +kernel
theorem dX0_weigh_99 : decode cX0_weigh 99 = .ok (.goto (-71), 3) := by decide +kernel
theorem dX0_weigh_102 : decode cX0_weigh 102 = .ok (.return_, 1) := by decide +kernel
theorem dX0_leftAhead_0 : decode cX0_leftAhead 0 = .ok (.iload_n 1, 1) := by decide +kernel
theorem dX0_leftAhead_1 : decode cX0_leftAhead 1 = .ok (.iconst 1, 1) := by decide +kernel
theorem dX0_leftAhead_2 : decode cX0_leftAhead 2 = .ok (.isub, 1) := by decide +kernel
theorem dX0_leftAhead_3 : decode cX0_leftAhead 3 = .ok (.istore_n 2, 1) := by decide +kernel
theorem dX0_leftAhead_4 : decode cX0_leftAhead 4 = .ok (.iload_n 2, 1) := by decide +kernel
theorem dX0_leftAhead_5 : decode cX0_leftAhead 5 = .ok (.ifCond .lt 22, 3) := by decide +kernel
theorem dX0_leftAhead_8 : decode cX0_leftAhead 8 = .ok (.aload_n 0, 1) := by decide +kernel
theorem dX0_leftAhead_9 : decode cX0_leftAhead 9 = .ok (.getfield 81, 3) := by decide +kernel
theorem dX0_leftAhead_12 : decode cX0_leftAhead 12 = .ok (.iload_n 2, 1) := by decide +kernel
theorem dX0_leftAhead_13 : decode cX0_leftAhead 13 = .ok (.ishr, 1) := by decide +kernel
theorem dX0_leftAhead_14 : decode cX0_leftAhead 14 = .ok (.iconst 1, 1) := by decide +kernel
theorem dX0_leftAhead_15 : decode cX0_leftAhead 15 = .ok (.iand, 1) := by decide +kernel
theorem dX0_leftAhead_16 : decode cX0_leftAhead 16 = .ok (.ifCond .ne 5, 3) := by decide +kernel
theorem dX0_leftAhead_19 : decode cX0_leftAhead 19 = .ok (.iload_n 2, 1) := by decide +kernel
theorem dX0_leftAhead_20 : decode cX0_leftAhead 20 = .ok (.ireturn, 1) := by decide +kernel
theorem dX0_leftAhead_21 : decode cX0_leftAhead 21 = .ok (.iinc 2 (-1), 3) := by decide +kernel
theorem dX0_leftAhead_24 : decode cX0_leftAhead 24 = .ok (.goto (-20), 3) := by decide +kernel
theorem dX0_leftAhead_27 : decode cX0_leftAhead 27 = .ok (.iconst (-1), 1) := by decide +kernel
theorem dX0_leftAhead_28 : decode cX0_leftAhead 28 = .ok (.ireturn, 1) := by decide +kernel
theorem dX0_leftBehind_0 : decode cX0_leftBehind 0 = .ok (.iload_n 1, 1) := by decide +kernel
theorem dX0_leftBehind_1 : decode cX0_leftBehind 1 = .ok (.iconst 1, 1) := by decide +kernel
theorem dX0_leftBehind_2 : decode cX0_leftBehind 2 = .ok (.iadd, 1) := by decide +kernel
theorem dX0_leftBehind_3 : decode cX0_leftBehind 3 = .ok (.istore_n 2, 1) := by decide +kernel
theorem dX0_leftBehind_4 : decode cX0_leftBehind 4 = .ok (.iload_n 2, 1) := by decide +kernel
theorem dX0_leftBehind_5 : decode cX0_leftBehind 5 = .ok (.bipush 16, 2) := by decide +kernel
theorem dX0_leftBehind_7 : decode cX0_leftBehind 7 = .ok (.if_icmp .ge 22, 3) := by decide +kernel
theorem dX0_leftBehind_10 : decode cX0_leftBehind 10 = .ok (.aload_n 0, 1) := by decide +kernel
theorem dX0_leftBehind_11 : decode cX0_leftBehind 11 = .ok (.getfield 81, 3) := by decide +kernel
theorem dX0_leftBehind_14 : decode cX0_leftBehind 14 = .ok (.iload_n 2, 1) := by decide +kernel
theorem dX0_leftBehind_15 : decode cX0_leftBehind 15 = .ok (.ishr, 1) := by decide +kernel
theorem dX0_leftBehind_16 : decode cX0_leftBehind 16 = .ok (.iconst 1, 1) := by decide +kernel
theorem dX0_leftBehind_17 : decode cX0_leftBehind 17 = .ok (.iand, 1) := by decide +kernel
theorem dX0_leftBehind_18 : decode cX0_leftBehind 18 = .ok (.ifCond .ne 5, 3) := by decide +kernel
theorem dX0_leftBehind_21 : decode cX0_leftBehind 21 = .ok (.iload_n 2, 1) := by decide +kernel
theorem dX0_leftBehind_22 : decode cX0_leftBehind 22 = .ok (.ireturn, 1) := by decide +kernel
theorem dX0_leftBehind_23 : decode cX0_leftBehind 23 = .ok (.iinc 2 1, 3) := by decide +kernel
theorem dX0_leftBehind_26 : decode cX0_leftBehind 26 = .ok (.goto (-22), 3) := by decide +kernel
theorem dX0_leftBehind_29 : decode cX0_leftBehind 29 = .ok (.iconst (-1), 1) := by decide +kernel
theorem dX0_leftBehind_30 : decode cX0_leftBehind 30 = .ok (.ireturn, 1) := by decide +kernel
theorem dX0_pullAt_0 : decode cX0_pullAt 0 = .ok (.iload_n 2, 1) := by decide +kernel
theorem dX0_pullAt_1 : decode cX0_pullAt 1 = .ok (.ifCond .lt 9, 3) := by decide +kernel
theorem dX0_pullAt_4 : decode cX0_pullAt 4 = .ok (.iload_n 2, 1) := by decide +kernel
theorem dX0_pullAt_5 : decode cX0_pullAt 5 = .ok (.bipush 16, 2) := by decide +kernel
theorem dX0_pullAt_7 : decode cX0_pullAt 7 = .ok (.if_icmp .lt 4, 3) := by decide +kernel
theorem dX0_pullAt_10 : decode cX0_pullAt 10 = .ok (.return_, 1) := by decide +kernel
theorem dX0_pullAt_11 : decode cX0_pullAt 11 = .ok (.aload_n 0, 1) := by decide +kernel
theorem dX0_pullAt_12 : decode cX0_pullAt 12 = .ok (.aload_n 1, 1) := by decide +kernel
theorem dX0_pullAt_13 : decode cX0_pullAt 13 = .ok (.aload_n 0, 1) := by decide +kernel
theorem dX0_pullAt_14 : decode cX0_pullAt 14 = .ok (.getfield 9, 3) := by decide +kernel
theorem dX0_pullAt_17 : decode cX0_pullAt 17 = .ok (.iload_n 2, 1) := by decide +kernel
theorem dX0_pullAt_18 : decode cX0_pullAt 18 = .ok (.iaload, 1) := by decide +kernel
theorem dX0_pullAt_19 : decode cX0_pullAt 19 = .ok (.iload_n 3, 1) := by decide +kernel
theorem dX0_pullAt_20 : decode cX0_pullAt 20 = .ok (.invokevirtual 113, 3) := by decide +kernel
theorem dX0_pullAt_23 : decode cX0_pullAt 23 = .ok (.aload_n 0, 1) := by decide +kernel
theorem dX0_pullAt_24 : decode cX0_pullAt 24 = .ok (.getfield 21, 3) := by decide +kernel
theorem dX0_pullAt_27 : decode cX0_pullAt 27 = .ok (.iload_n 2, 1) := by decide +kernel
theorem dX0_pullAt_28 : decode cX0_pullAt 28 = .ok (.dup2, 1) := by decide +kernel
theorem dX0_pullAt_29 : decode cX0_pullAt 29 = .ok (.iaload, 1) := by decide +kernel
theorem dX0_pullAt_30 : decode cX0_pullAt 30 = .ok (.aload_n 1, 1) := by decide +kernel
theorem dX0_pullAt_31 : decode cX0_pullAt 31 = .ok (.aload_n 0, 1) := by decide +kernel
theorem dX0_pullAt_32 : decode cX0_pullAt 32 = .ok (.getfield 29, 3) := by decide +kernel
theorem dX0_pullAt_35 : decode cX0_pullAt 35 = .ok (.iconst 0, 1) := by decide +kernel
theorem dX0_pullAt_36 : decode cX0_pullAt 36 = .ok (.aload_n 0, 1) := by decide +kernel
theorem dX0_pullAt_37 : decode cX0_pullAt 37 = .ok (.getfield 26, 3) := by decide +kernel
theorem dX0_pullAt_40 : decode cX0_pullAt 40 = .ok (.invokevirtual 116, 3) := by decide +kernel
theorem dX0_pullAt_43 : decode cX0_pullAt 43 = .ok (.bipush 99, 2) := by decide +kernel
theorem dX0_pullAt_45 : decode cX0_pullAt 45 = .ok (.invokestatic 120, 3) := by decide +kernel
theorem dX0_pullAt_48 : decode cX0_pullAt 48 = .ok (.invokevirtual 123, 3) := by decide +kernel
theorem dX0_pullAt_51 : decode cX0_pullAt 51 = .ok (.iadd, 1) := by decide +kernel
theorem dX0_pullAt_52 : decode cX0_pullAt 52 = .ok (.iastore, 1) := by decide +kernel
theorem dX0_pullAt_53 : decode cX0_pullAt 53 = .ok (.aload_n 0, 1) := by decide +kernel
theorem dX0_pullAt_54 : decode cX0_pullAt 54 = .ok (.dup, 1) := by decide +kernel
theorem dX0_pullAt_55 : decode cX0_pullAt 55 = .ok (.getfield 84, 3) := by decide +kernel
theorem dX0_pullAt_58 : decode cX0_pullAt 58 = .ok (.iconst 1, 1) := by decide +kernel
theorem dX0_pullAt_59 : decode cX0_pullAt 59 = .ok (.iload_n 2, 1) := by decide +kernel
theorem dX0_pullAt_60 : decode cX0_pullAt 60 = .ok (.ishl, 1) := by decide +kernel
theorem dX0_pullAt_61 : decode cX0_pullAt 61 = .ok (.ior, 1) := by decide +kernel
theorem dX0_pullAt_62 : decode cX0_pullAt 62 = .ok (.putfield 84, 3) := by decide +kernel
theorem dX0_pullAt_65 : decode cX0_pullAt 65 = .ok (.return_, 1) := by decide +kernel
theorem dX0_wears_0 : decode cX0_wears 0 = .ok (.aload_n 0, 1) := by decide +kernel
theorem dX0_wears_1 : decode cX0_wears 1 = .ok (.aload_n 1, 1) := by decide +kernel
theorem dX0_wears_2 : decode cX0_wears 2 = .ok (.iconst 0, 1) := by decide +kernel
theorem dX0_wears_3 : decode cX0_wears 3 = .ok (.iload_n 2, 1) := by decide +kernel
theorem dX0_wears_4 : decode cX0_wears 4 = .ok (.invokevirtual 113, 3) := by decide +kernel
theorem dX0_wears_7 : decode cX0_wears 7 = .ok (.aload_n 1, 1) := by decide +kernel
theorem dX0_wears_8 : decode cX0_wears 8 = .ok (.aload_n 0, 1) := by decide +kernel
theorem dX0_wears_9 : decode cX0_wears 9 = .ok (.getfield 29, 3) := by decide +kernel
theorem dX0_wears_12 : decode cX0_wears 12 = .ok (.iconst 1, 1) := by decide +kernel
theorem dX0_wears_13 : decode cX0_wears 13 = .ok (.aload_n 0, 1) := by decide +kernel
theorem dX0_wears_14 : decode cX0_wears 14 = .ok (.getfield 26, 3) := by decide +kernel
theorem dX0_wears_17 : decode cX0_wears 17 = .ok (.invokevirtual 116, 3) := by decide +kernel
theorem dX0_wears_20 : decode cX0_wears 20 = .ok (.bipush 99, 2) := by decide +kernel
theorem dX0_wears_22 : decode cX0_wears 22 = .ok (.invokestatic 120, 3) := by decide +kernel
theorem dX0_wears_25 : decode cX0_wears 25 = .ok (.aload_n 0, 1) := by decide +kernel
theorem dX0_wears_26 : decode cX0_wears 26 = .ok (.getfield 48, 3) := by decide +kernel
theorem dX0_wears_29 : decode cX0_wears 29 = .ok (.invokevirtual 126, 3) := by decide +kernel
theorem dX0_wears_32 : decode cX0_wears 32 = .ok (.ireturn, 1) := by decide +kernel
theorem dX0_stands_0 : decode cX0_stands 0 = .ok (.aload_n 0, 1) := by decide +kernel
theorem dX0_stands_1 : decode cX0_stands 1 = .ok (.aload_n 1, 1) := by decide +kernel
theorem dX0_stands_2 : decode cX0_stands 2 = .ok (.iconst 0, 1) := by decide +kernel
theorem dX0_stands_3 : decode cX0_stands 3 = .ok (.iload_n 2, 1) := by decide +kernel
theorem dX0_stands_4 : decode cX0_stands 4 = .ok (.invokevirtual 113, 3) := by decide +kernel
theorem dX0_stands_7 : decode cX0_stands 7 = .ok (.aload_n 1, 1) := by decide +kernel
theorem dX0_stands_8 : decode cX0_stands 8 = .ok (.aload_n 0, 1) := by decide +kernel
theorem dX0_stands_9 : decode cX0_stands 9 = .ok (.getfield 29, 3) := by decide +kernel
theorem dX0_stands_12 : decode cX0_stands 12 = .ok (.iconst 2, 1) := by decide +kernel
theorem dX0_stands_13 : decode cX0_stands 13 = .ok (.aload_n 0, 1) := by decide +kernel
theorem dX0_stands_14 : decode cX0_stands 14 = .ok (.getfield 26, 3) := by decide +kernel
theorem dX0_stands_17 : decode cX0_stands 17 = .ok (.invokevirtual 116, 3) := by decide +kernel
theorem dX0_stands_20 : decode cX0_stands 20 = .ok (.sipush 999, 3) := by decide +kernel
theorem dX0_stands_23 : decode cX0_stands 23 = .ok (.invokestatic 120, 3) := by decide +kernel
theorem dX0_stands_26 : decode cX0_stands 26 = .ok (.invokevirtual 129, 3) := by decide +kernel
theorem dX0_stands_29 : decode cX0_stands 29 = .ok (.ireturn, 1) := by decide +kernel
theorem dX0_ask_0 : decode cX0_ask 0 = .ok (.aload_n 0, 1) := by decide +kernel
theorem dX0_ask_1 : decode cX0_ask 1 = .ok (.getfield 26, 3) := by decide +kernel
theorem dX0_ask_4 : decode cX0_ask 4 = .ok (.iconst 0, 1) := by decide +kernel
theorem dX0_ask_5 : decode cX0_ask 5 = .ok (.aload_n 1, 1) := by decide +kernel
theorem dX0_ask_6 : decode cX0_ask 6 = .ok (.invokevirtual 132, 3) := by decide +kernel
theorem dX0_ask_9 : decode cX0_ask 9 = .ok (.iastore, 1) := by decide +kernel
theorem dX0_ask_10 : decode cX0_ask 10 = .ok (.aload_n 0, 1) := by decide +kernel
theorem dX0_ask_11 : decode cX0_ask 11 = .ok (.getfield 26, 3) := by decide +kernel
theorem dX0_ask_14 : decode cX0_ask 14 = .ok (.iconst 1, 1) := by decide +kernel
theorem dX0_ask_15 : decode cX0_ask 15 = .ok (.aload_n 1, 1) := by decide +kernel
theorem dX0_ask_16 : decode cX0_ask 16 = .ok (.getfield 63, 3) := by decide +kernel
theorem dX0_ask_19 : decode cX0_ask 19 = .ok (.iastore, 1) := by decide +kernel
theorem dX0_ask_20 : decode cX0_ask 20 = .ok (.aload_n 0, 1) := by decide +kernel
theorem dX0_ask_21 : decode cX0_ask 21 = .ok (.getfield 26, 3) := by decide +kernel
theorem dX0_ask_24 : decode cX0_ask 24 = .ok (.iconst 2, 1) := by decide +kernel
theorem dX0_ask_25 : decode cX0_ask 25 = .ok (.aload_n 1, 1) := by decide +kernel
theorem dX0_ask_26 : decode cX0_ask 26 = .ok (.getfield 60, 3) := by decide +kernel
theorem dX0_ask_29 : decode cX0_ask 29 = .ok (.iastore, 1) := by decide +kernel
theorem dX0_ask_30 : decode cX0_ask 30 = .ok (.aload_n 0, 1) := by decide +kernel
theorem dX0_ask_31 : decode cX0_ask 31 = .ok (.getfield 26, 3) := by decide +kernel
theorem dX0_ask_34 : decode cX0_ask 34 = .ok (.iconst 3, 1) := by decide +kernel
theorem dX0_ask_35 : decode cX0_ask 35 = .ok (.iload_n 2, 1) := by decide +kernel
theorem dX0_ask_36 : decode cX0_ask 36 = .ok (.iastore, 1) := by decide +kernel
theorem dX0_ask_37 : decode cX0_ask 37 = .ok (.aload_n 0, 1) := by decide +kernel
theorem dX0_ask_38 : decode cX0_ask 38 = .ok (.getfield 26, 3) := by decide +kernel
theorem dX0_ask_41 : decode cX0_ask 41 = .ok (.iconst 4, 1) := by decide +kernel
theorem dX0_ask_42 : decode cX0_ask 42 = .ok (.aload_n 0, 1) := by decide +kernel
theorem dX0_ask_43 : decode cX0_ask 43 = .ok (.getfield 48, 3) := by decide +kernel
theorem dX0_ask_46 : decode cX0_ask 46 = .ok (.iastore, 1) := by decide +kernel
theorem dX0_ask_47 : decode cX0_ask 47 = .ok (.aload_n 0, 1) := by decide +kernel
theorem dX0_ask_48 : decode cX0_ask 48 = .ok (.getfield 26, 3) := by decide +kernel
theorem dX0_ask_51 : decode cX0_ask 51 = .ok (.iconst 5, 1) := by decide +kernel
theorem dX0_ask_52 : decode cX0_ask 52 = .ok (.iload_n 3, 1) := by decide +kernel
theorem dX0_ask_53 : decode cX0_ask 53 = .ok (.iastore, 1) := by decide +kernel
theorem dX0_ask_54 : decode cX0_ask 54 = .ok (.return_, 1) := by decide +kernel
theorem dX0_glad_0 : decode cX0_glad 0 = .ok (.aload_n 0, 1) := by decide +kernel
theorem dX0_glad_1 : decode cX0_glad 1 = .ok (.getfield 81, 3) := by decide +kernel
theorem dX0_glad_4 : decode cX0_glad 4 = .ok (.iload_n 1, 1) := by decide +kernel
theorem dX0_glad_5 : decode cX0_glad 5 = .ok (.ishr, 1) := by decide +kernel
theorem dX0_glad_6 : decode cX0_glad 6 = .ok (.iconst 1, 1) := by decide +kernel
theorem dX0_glad_7 : decode cX0_glad 7 = .ok (.iand, 1) := by decide +kernel
theorem dX0_glad_8 : decode cX0_glad 8 = .ok (.ifCond .ne 7, 3) := by decide +kernel
theorem dX0_glad_11 : decode cX0_glad 11 = .ok (.iconst 1, 1) := by decide +kernel
theorem dX0_glad_12 : decode cX0_glad 12 = .ok (.goto 4, 3) := by decide +kernel
theorem dX0_glad_15 : decode cX0_glad 15 = .ok (.iconst 0, 1) := by decide +kernel
theorem dX0_glad_16 : decode cX0_glad 16 = .ok (.istore_n 2, 1) := by decide +kernel
theorem dX0_glad_17 : decode cX0_glad 17 = .ok (.iload_n 2, 1) := by decide +kernel
theorem dX0_glad_18 : decode cX0_glad 18 = .ok (.ifCond .eq 25, 3) := by decide +kernel
theorem dX0_glad_21 : decode cX0_glad 21 = .ok (.sipush (-999), 3) := by decide +kernel
theorem dX0_glad_24 : decode cX0_glad 24 = .ok (.aload_n 0, 1) := by decide +kernel
theorem dX0_glad_25 : decode cX0_glad 25 = .ok (.getfield 9, 3) := by decide +kernel
theorem dX0_glad_28 : decode cX0_glad 28 = .ok (.iload_n 1, 1) := by decide +kernel
theorem dX0_glad_29 : decode cX0_glad 29 = .ok (.iaload, 1) := by decide +kernel
theorem dX0_glad_30 : decode cX0_glad 30 = .ok (.aload_n 0, 1) := by decide +kernel
theorem dX0_glad_31 : decode cX0_glad 31 = .ok (.getfield 21, 3) := by decide +kernel
theorem dX0_glad_34 : decode cX0_glad 34 = .ok (.iload_n 1, 1) := by decide +kernel
theorem dX0_glad_35 : decode cX0_glad 35 = .ok (.iaload, 1) := by decide +kernel
theorem dX0_glad_36 : decode cX0_glad 36 = .ok (.isub, 1) := by decide +kernel
theorem dX0_glad_37 : decode cX0_glad 37 = .ok (.invokestatic 135, 3) := by decide +kernel
theorem dX0_glad_40 : decode cX0_glad 40 = .ok (.goto 4, 3) := by decide +kernel
theorem dX0_glad_43 : decode cX0_glad 43 = .ok (.iconst 0, 1) := by decide +kernel
theorem dX0_glad_44 : decode cX0_glad 44 = .ok (.ireturn, 1) := by decide +kernel
theorem dX0_worth_0 : decode cX0_worth 0 = .ok (.aload_n 0, 1) := by decide +kernel
theorem dX0_worth_1 : decode cX0_worth 1 = .ok (.invokevirtual 138, 3) := by decide +kernel
theorem dX0_worth_4 : decode cX0_worth 4 = .ok (.iconst 0, 1) := by decide +kernel
theorem dX0_worth_5 : decode cX0_worth 5 = .ok (.istore_n 1, 1) := by decide +kernel
theorem dX0_worth_6 : decode cX0_worth 6 = .ok (.iconst 0, 1) := by decide +kernel
theorem dX0_worth_7 : decode cX0_worth 7 = .ok (.istore_n 2, 1) := by decide +kernel
theorem dX0_worth_8 : decode cX0_worth 8 = .ok (.iload_n 2, 1) := by decide +kernel
theorem dX0_worth_9 : decode cX0_worth 9 = .ok (.bipush 16, 2) := by decide +kernel
theorem dX0_worth_11 : decode cX0_worth 11 = .ok (.if_icmp .ge 17, 3) := by decide +kernel
theorem dX0_worth_14 : decode cX0_worth 14 = .ok (.iload_n 1, 1) := by decide +kernel
theorem dX0_worth_15 : decode cX0_worth 15 = .ok (.aload_n 0, 1) := by decide +kernel
theorem dX0_worth_16 : decode cX0_worth 16 = .ok (.iload_n 2, 1) := by decide +kernel
theorem dX0_worth_17 : decode cX0_worth 17 = .ok (.invokevirtual 141, 3) := by decide +kernel
theorem dX0_worth_20 : decode cX0_worth 20 = .ok (.iadd, 1) := by decide +kernel
theorem dX0_worth_21 : decode cX0_worth 21 = .ok (.istore_n 1, 1) := by decide +kernel
theorem dX0_worth_22 : decode cX0_worth 22 = .ok (.iinc 2 1, 3) := by decide +kernel
theorem dX0_worth_25 : decode cX0_worth 25 = .ok (.goto (-17), 3) := by decide +kernel
theorem dX0_worth_28 : decode cX0_worth 28 = .ok (.iload_n 1, 1) := by decide +kernel
theorem dX0_worth_29 : decode cX0_worth 29 = .ok (.ireturn, 1) := by decide +kernel
theorem dX0_allJoys_0 : decode cX0_allJoys 0 = .ok (.iconst 0, 1) := by decide +kernel
theorem dX0_allJoys_1 : decode cX0_allJoys 1 = .ok (.istore_n 1, 1) := by decide +kernel
theorem dX0_allJoys_2 : decode cX0_allJoys 2 = .ok (.iconst 0, 1) := by decide +kernel
theorem dX0_allJoys_3 : decode cX0_allJoys 3 = .ok (.istore_n 2, 1) := by decide +kernel
theorem dX0_allJoys_4 : decode cX0_allJoys 4 = .ok (.iload_n 2, 1) := by decide +kernel
theorem dX0_allJoys_5 : decode cX0_allJoys 5 = .ok (.bipush 16, 2) := by decide +kernel
theorem dX0_allJoys_7 : decode cX0_allJoys 7 = .ok (.if_icmp .ge 18, 3) := by decide +kernel
theorem dX0_allJoys_10 : decode cX0_allJoys 10 = .ok (.iload_n 1, 1) := by decide +kernel
theorem dX0_allJoys_11 : decode cX0_allJoys 11 = .ok (.aload_n 0, 1) := by decide +kernel
theorem dX0_allJoys_12 : decode cX0_allJoys 12 = .ok (.getfield 9, 3) := by decide +kernel
theorem dX0_allJoys_15 : decode cX0_allJoys 15 = .ok (.iload_n 2, 1) := by decide +kernel
theorem dX0_allJoys_16 : decode cX0_allJoys 16 = .ok (.iaload, 1) := by decide +kernel
theorem dX0_allJoys_17 : decode cX0_allJoys 17 = .ok (.iadd, 1) := by decide +kernel
theorem dX0_allJoys_18 : decode cX0_allJoys 18 = .ok (.istore_n 1, 1) := by decide +kernel
theorem dX0_allJoys_19 : decode cX0_allJoys 19 = .ok (.iinc 2 1, 3) := by decide +kernel
theorem dX0_allJoys_22 : decode cX0_allJoys 22 = .ok (.goto (-18), 3) := by decide +kernel
theorem dX0_allJoys_25 : decode cX0_allJoys 25 = .ok (.iload_n 1, 1) := by decide +kernel
theorem dX0_allJoys_26 : decode cX0_allJoys 26 = .ok (.ireturn, 1) := by decide +kernel
theorem dX0_stretch_0 : decode cX0_stretch 0 = .ok (.aload_n 0, 1) := by decide +kernel
theorem dX0_stretch_1 : decode cX0_stretch 1 = .ok (.invokevirtual 78, 3) := by decide +kernel
theorem dX0_stretch_4 : decode cX0_stretch 4 = .ok (.istore_n 1, 1) := by decide +kernel
theorem dX0_stretch_5 : decode cX0_stretch 5 = .ok (.iconst 0, 1) := by decide +kernel
theorem dX0_stretch_6 : decode cX0_stretch 6 = .ok (.istore_n 2, 1) := by decide +kernel
theorem dX0_stretch_7 : decode cX0_stretch 7 = .ok (.iconst 0, 1) := by decide +kernel
theorem dX0_stretch_8 : decode cX0_stretch 8 = .ok (.istore_n 3, 1) := by decide +kernel
theorem dX0_stretch_9 : decode cX0_stretch 9 = .ok (.iconst 0, 1) := by decide +kernel
theorem dX0_stretch_10 : decode cX0_stretch 10 = .ok (.istore 4, 2) := by decide +kernel
theorem dX0_stretch_12 : decode cX0_stretch 12 = .ok (.iload 4, 2) := by decide +kernel
theorem dX0_stretch_14 : decode cX0_stretch 14 = .ok (.bipush 16, 2) := by decide +kernel
theorem dX0_stretch_16 : decode cX0_stretch 16 = .ok (.if_icmp .ge 32, 3) := by decide +kernel
theorem dX0_stretch_19 : decode cX0_stretch 19 = .ok (.iload_n 1, 1) := by decide +kernel
theorem dX0_stretch_20 : decode cX0_stretch 20 = .ok (.iload 4, 2) := by decide +kernel
theorem dX0_stretch_22 : decode cX0_stretch 22 = .ok (.ishr, 1) := by decide +kernel
theorem dX0_stretch_23 : decode cX0_stretch 23 = .ok (.iconst 1, 1) := by decide +kernel
theorem dX0_stretch_24 : decode cX0_stretch 24 = .ok (.iand, 1) := by decide +kernel
theorem dX0_stretch_25 : decode cX0_stretch 25 = .ok (.ifCond .ne 9, 3) := by decide +kernel
theorem dX0_stretch_28 : decode cX0_stretch 28 = .ok (.iload_n 3, 1) := by decide +kernel
theorem dX0_stretch_29 : decode cX0_stretch 29 = .ok (.iconst 1, 1) := by decide +kernel
theorem dX0_stretch_30 : decode cX0_stretch 30 = .ok (.iadd, 1) := by decide +kernel
theorem dX0_stretch_31 : decode cX0_stretch 31 = .ok (.goto 4, 3) := by decide +kernel
theorem dX0_stretch_34 : decode cX0_stretch 34 = .ok (.iconst 0, 1) := by decide +kernel
theorem dX0_stretch_35 : decode cX0_stretch 35 = .ok (.istore_n 3, 1) := by decide +kernel
theorem dX0_stretch_36 : decode cX0_stretch 36 = .ok (.iload_n 2, 1) := by decide +kernel
theorem dX0_stretch_37 : decode cX0_stretch 37 = .ok (.iload_n 3, 1) := by decide +kernel
theorem dX0_stretch_38 : decode cX0_stretch 38 = .ok (.invokestatic 135, 3) := by decide +kernel
theorem dX0_stretch_41 : decode cX0_stretch 41 = .ok (.istore_n 2, 1) := by decide +kernel
theorem dX0_stretch_42 : decode cX0_stretch 42 = .ok (.iinc 4 1, 3) := by decide +kernel
theorem dX0_stretch_45 : decode cX0_stretch 45 = .ok (.goto (-33), 3) := by decide +kernel
theorem dX0_stretch_48 : decode cX0_stretch 48 = .ok (.iload_n 2, 1) := by decide +kernel
theorem dX0_stretch_49 : decode cX0_stretch 49 = .ok (.ireturn, 1) := by decide +kernel
theorem dX0_tightest_0 : decode cX0_tightest 0 = .ok (.aload_n 0, 1) := by decide +kernel
theorem dX0_tightest_1 : decode cX0_tightest 1 = .ok (.invokevirtual 138, 3) := by decide +kernel
theorem dX0_tightest_4 : decode cX0_tightest 4 = .ok (.iconst (-1), 1) := by decide +kernel
theorem dX0_tightest_5 : decode cX0_tightest 5 = .ok (.istore_n 1, 1) := by decide +kernel
theorem dX0_tightest_6 : decode cX0_tightest 6 = .ok (.iconst 0, 1) := by decide +kernel
theorem dX0_tightest_7 : decode cX0_tightest 7 = .ok (.istore_n 2, 1) := by decide +kernel
theorem dX0_tightest_8 : decode cX0_tightest 8 = .ok (.iload_n 2, 1) := by decide +kernel
theorem dX0_tightest_9 : decode cX0_tightest 9 = .ok (.bipush 16, 2) := by decide +kernel
theorem dX0_tightest_11 : decode cX0_tightest 11 = .ok (.if_icmp .ge 53, 3) := by decide +kernel
theorem dX0_tightest_14 : decode cX0_tightest 14 = .ok (.aload_n 0, 1) := by decide +kernel
theorem dX0_tightest_15 : decode cX0_tightest 15 = .ok (.getfield 84, 3) := by decide +kernel
theorem dX0_tightest_18 : decode cX0_tightest 18 = .ok (.iload_n 2, 1) := by decide +kernel
theorem dX0_tightest_19 : decode cX0_tightest 19 = .ok (.ishr, 1) := by decide +kernel
theorem dX0_tightest_20 : decode cX0_tightest 20 = .ok (.iconst 1, 1) := by decide +kernel
theorem dX0_tightest_21 : decode cX0_tightest 21 = .ok (.iand, 1) := by decide +kernel
theorem dX0_tightest_22 : decode cX0_tightest 22 = .ok (.iconst 1, 1) := by decide +kernel
theorem dX0_tightest_23 : decode cX0_tightest 23 = .ok (.if_icmp .ne 7, 3) := by decide +kernel
theorem dX0_tightest_26 : decode cX0_tightest 26 = .ok (.iconst 1, 1) := by decide +kernel
theorem dX0_tightest_27 : decode cX0_tightest 27 = .ok (.goto 4, 3) := by decide +kernel
theorem dX0_tightest_30 : decode cX0_tightest 30 = .ok (.iconst 0, 1) := by decide +kernel
theorem dX0_tightest_31 : decode cX0_tightest 31 = .ok (.istore_n 3, 1) := by decide +kernel
theorem dX0_tightest_32 : decode cX0_tightest 32 = .ok (.iload_n 3, 1) := by decide +kernel
theorem dX0_tightest_33 : decode cX0_tightest 33 = .ok (.ifCond .eq 25, 3) := by decide +kernel
theorem dX0_tightest_36 : decode cX0_tightest 36 = .ok (.iload_n 1, 1) := by decide +kernel
theorem dX0_tightest_37 : decode cX0_tightest 37 = .ok (.iconst (-1), 1) := by decide +kernel
theorem dX0_tightest_38 : decode cX0_tightest 38 = .ok (.if_icmp .eq 18, 3) := by decide +kernel
theorem dX0_tightest_41 : decode cX0_tightest 41 = .ok (.aload_n 0, 1) := by decide +kernel
theorem dX0_tightest_42 : decode cX0_tightest 42 = .ok (.getfield 21, 3) := by decide +kernel
theorem dX0_tightest_45 : decode cX0_tightest 45 = .ok (.iload_n 2, 1) := by decide +kernel
theorem dX0_tightest_46 : decode cX0_tightest 46 = .ok (.iaload, 1) := by decide +kernel
theorem dX0_tightest_47 : decode cX0_tightest 47 = .ok (.aload_n 0, 1) := by decide +kernel
theorem dX0_tightest_48 : decode cX0_tightest 48 = .ok (.getfield 21, 3) := by decide +kernel
theorem dX0_tightest_51 : decode cX0_tightest 51 = .ok (.iload_n 1, 1) := by decide +kernel
theorem dX0_tightest_52 : decode cX0_tightest 52 = .ok (.iaload, 1) := by decide +kernel
theorem dX0_tightest_53 : decode cX0_tightest 53 = .ok (.if_icmp .le 5, 3) := by decide +kernel
theorem dX0_tightest_56 : decode cX0_tightest 56 = .ok (.iload_n 2, 1) := by decide +kernel
theorem dX0_tightest_57 : decode cX0_tightest 57 = .ok (.istore_n 1, 1) := by decide +kernel
theorem dX0_tightest_58 : decode cX0_tightest 58 = .ok (.iinc 2 1, 3) := by decide +kernel
theorem dX0_tightest_61 : decode cX0_tightest 61 = .ok (.goto (-53), 3) := by decide +kernel
theorem dX0_tightest_64 : decode cX0_tightest 64 = .ok (.iload_n 1, 1) := by decide +kernel
theorem dX0_tightest_65 : decode cX0_tightest 65 = .ok (.ireturn, 1) := by decide +kernel
theorem dX0_wearOn_0 : decode cX0_wearOn 0 = .ok (.aload_n 0, 1) := by decide +kernel
theorem dX0_wearOn_1 : decode cX0_wearOn 1 = .ok (.invokevirtual 93, 3) := by decide +kernel
theorem dX0_wearOn_4 : decode cX0_wearOn 4 = .ok (.istore_n 1, 1) := by decide +kernel
theorem dX0_wearOn_5 : decode cX0_wearOn 5 = .ok (.iconst 0, 1) := by decide +kernel
theorem dX0_wearOn_6 : decode cX0_wearOn 6 = .ok (.istore_n 2, 1) := by decide +kernel
theorem dX0_wearOn_7 : decode cX0_wearOn 7 = .ok (.iload_n 2, 1) := by decide +kernel
theorem dX0_wearOn_8 : decode cX0_wearOn 8 = .ok (.aload_n 0, 1) := by decide +kernel
theorem dX0_wearOn_9 : decode cX0_wearOn 9 = .ok (.getfield 40, 3) := by decide +kernel
theorem dX0_wearOn_12 : decode cX0_wearOn 12 = .ok (.if_icmp .ge 57, 3) := by decide +kernel
theorem dX0_wearOn_15 : decode cX0_wearOn 15 = .ok (.aload_n 0, 1) := by decide +kernel
theorem dX0_wearOn_16 : decode cX0_wearOn 16 = .ok (.getfield 17, 3) := by decide +kernel
theorem dX0_wearOn_19 : decode cX0_wearOn 19 = .ok (.iload_n 2, 1) := by decide +kernel
theorem dX0_wearOn_20 : decode cX0_wearOn 20 = .ok (.aaload, 1) := by decide +kernel
theorem dX0_wearOn_21 : decode cX0_wearOn 21 = .ok (.getfield 66, 3) := by decide +kernel
theorem dX0_wearOn_24 : decode cX0_wearOn 24 = .ok (.ifCond .ne 39, 3) := by decide +kernel
theorem dX0_wearOn_27 : decode cX0_wearOn 27 = .ok (.aload_n 0, 1) := by decide +kernel
theorem dX0_wearOn_28 : decode cX0_wearOn 28 = .ok (.getfield 17, 3) := by decide +kernel
theorem dX0_wearOn_31 : decode cX0_wearOn 31 = .ok (.iload_n 2, 1) := by decide +kernel
theorem dX0_wearOn_32 : decode cX0_wearOn 32 = .ok (.aaload, 1) := by decide +kernel
theorem dX0_wearOn_33 : decode cX0_wearOn 33 = .ok (.sipush 9999, 3) := by decide +kernel
theorem dX0_wearOn_36 : decode cX0_wearOn 36 = .ok (.aload_n 0, 1) := by decide +kernel
theorem dX0_wearOn_37 : decode cX0_wearOn 37 = .ok (.getfield 17, 3) := by decide +kernel
theorem dX0_wearOn_40 : decode cX0_wearOn 40 = .ok (.iload_n 2, 1) := by decide +kernel
theorem dX0_wearOn_41 : decode cX0_wearOn 41 = .ok (.aaload, 1) := by decide +kernel
theorem dX0_wearOn_42 : decode cX0_wearOn 42 = .ok (.getfield 63, 3) := by decide +kernel
theorem dX0_wearOn_45 : decode cX0_wearOn 45 = .ok (.aload_n 0, 1) := by decide +kernel
theorem dX0_wearOn_46 : decode cX0_wearOn 46 = .ok (.aload_n 0, 1) := by decide +kernel
theorem dX0_wearOn_47 : decode cX0_wearOn 47 = .ok (.getfield 17, 3) := by decide +kernel
theorem dX0_wearOn_50 : decode cX0_wearOn 50 = .ok (.iload_n 2, 1) := by decide +kernel
theorem dX0_wearOn_51 : decode cX0_wearOn 51 = .ok (.aaload, 1) := by decide +kernel
theorem dX0_wearOn_52 : decode cX0_wearOn 52 = .ok (.iload_n 1, 1) := by decide +kernel
theorem dX0_wearOn_53 : decode cX0_wearOn 53 = .ok (.invokevirtual 144, 3) := by decide +kernel
theorem dX0_wearOn_56 : decode cX0_wearOn 56 = .ok (.iadd, 1) := by decide +kernel
theorem dX0_wearOn_57 : decode cX0_wearOn 57 = .ok (.invokestatic 51, 3) := by decide +kernel
theorem dX0_wearOn_60 : decode cX0_wearOn 60 = .ok (.putfield 63, 3) := by decide +kernel
theorem dX0_wearOn_63 : decode cX0_wearOn 63 = .ok (.iinc 2 1, 3) := by decide +kernel
theorem dX0_wearOn_66 : decode cX0_wearOn 66 = .ok (.goto (-59), 3) := by decide +kernel
theorem dX0_wearOn_69 : decode cX0_wearOn 69 = .ok (.iconst 0, 1) := by decide +kernel
theorem dX0_wearOn_70 : decode cX0_wearOn 70 = .ok (.istore_n 2, 1) := by decide +kernel
theorem dX0_wearOn_71 : decode cX0_wearOn 71 = .ok (.iconst 0, 1) := by decide +kernel
theorem dX0_wearOn_72 : decode cX0_wearOn 72 = .ok (.istore_n 3, 1) := by decide +kernel
theorem dX0_wearOn_73 : decode cX0_wearOn 73 = .ok (.iload_n 3, 1) := by decide +kernel
theorem dX0_wearOn_74 : decode cX0_wearOn 74 = .ok (.aload_n 0, 1) := by decide +kernel
theorem dX0_wearOn_75 : decode cX0_wearOn 75 = .ok (.getfield 40, 3) := by decide +kernel
theorem dX0_wearOn_78 : decode cX0_wearOn 78 = .ok (.if_icmp .ge 63, 3) := by decide +kernel
theorem dX0_wearOn_81 : decode cX0_wearOn 81 = .ok (.aload_n 0, 1) := by decide +kernel
theorem dX0_wearOn_82 : decode cX0_wearOn 82 = .ok (.getfield 17, 3) := by decide +kernel
theorem dX0_wearOn_85 : decode cX0_wearOn 85 = .ok (.iload_n 3, 1) := by decide +kernel
theorem dX0_wearOn_86 : decode cX0_wearOn 86 = .ok (.aaload, 1) := by decide +kernel
theorem dX0_wearOn_87 : decode cX0_wearOn 87 = .ok (.getfield 66, 3) := by decide +kernel
theorem dX0_wearOn_90 : decode cX0_wearOn 90 = .ok (.ifCond .ne 45, 3) := by decide +kernel
theorem dX0_wearOn_93 : decode cX0_wearOn 93 = .ok (.aload_n 0, 1) := by decide +kernel
theorem dX0_wearOn_94 : decode cX0_wearOn 94 = .ok (.getfield 17, 3) := by decide +kernel
theorem dX0_wearOn_97 : decode cX0_wearOn 97 = .ok (.iload_n 3, 1) := by decide +kernel
theorem dX0_wearOn_98 : decode cX0_wearOn 98 = .ok (.aaload, 1) := by decide +kernel
theorem dX0_wearOn_99 : decode cX0_wearOn 99 = .ok (.getfield 63, 3) := by decide +kernel
theorem dX0_wearOn_102 : decode cX0_wearOn 102 = .ok (.aload_n 0, 1) := by decide +kernel
theorem dX0_wearOn_103 : decode cX0_wearOn 103 = .ok (.aload_n 0, 1) := by decide +kernel
theorem dX0_wearOn_104 : decode cX0_wearOn 104 = .ok (.getfield 17, 3) := by decide +kernel
theorem dX0_wearOn_107 : decode cX0_wearOn 107 = .ok (.iload_n 3, 1) := by decide +kernel
theorem dX0_wearOn_108 : decode cX0_wearOn 108 = .ok (.aaload, 1) := by decide +kernel
theorem dX0_wearOn_109 : decode cX0_wearOn 109 = .ok (.iload_n 1, 1) := by decide +kernel
theorem dX0_wearOn_110 : decode cX0_wearOn 110 = .ok (.invokevirtual 148, 3) := by decide +kernel
theorem dX0_wearOn_113 : decode cX0_wearOn 113 = .ok (.if_icmp .lt 22, 3) := by decide +kernel
theorem dX0_wearOn_116 : decode cX0_wearOn 116 = .ok (.aload_n 0, 1) := by decide +kernel
theorem dX0_wearOn_117 : decode cX0_wearOn 117 = .ok (.getfield 17, 3) := by decide +kernel
theorem dX0_wearOn_120 : decode cX0_wearOn 120 = .ok (.iload_n 3, 1) := by decide +kernel
theorem dX0_wearOn_121 : decode cX0_wearOn 121 = .ok (.aaload, 1) := by decide +kernel
theorem dX0_wearOn_122 : decode cX0_wearOn 122 = .ok (.iconst 1, 1) := by decide +kernel
theorem dX0_wearOn_123 : decode cX0_wearOn 123 = .ok (.putfield 66, 3) := by decide +kernel
theorem dX0_wearOn_126 : decode cX0_wearOn 126 = .ok (.iinc 1 (-1), 3) := by decide +kernel
theorem dX0_wearOn_129 : decode cX0_wearOn 129 = .ok (.iload_n 2, 1) := by decide +kernel
theorem dX0_wearOn_130 : decode cX0_wearOn 130 = .ok (.iconst 1, 1) := by decide +kernel
theorem dX0_wearOn_131 : decode cX0_wearOn 131 = .ok (.iload_n 3, 1) := by decide +kernel
theorem dX0_wearOn_132 : decode cX0_wearOn 132 = .ok (.ishl, 1) := by decide +kernel
theorem dX0_wearOn_133 : decode cX0_wearOn 133 = .ok (.ior, 1) := by decide +kernel
theorem dX0_wearOn_134 : decode cX0_wearOn 134 = .ok (.istore_n 2, 1) := by decide +kernel
theorem dX0_wearOn_135 : decode cX0_wearOn 135 = .ok (.iinc 3 1, 3) := by decide +kernel
theorem dX0_wearOn_138 : decode cX0_wearOn 138 = .ok (.goto (-65), 3) := by decide +kernel
theorem dX0_wearOn_141 : decode cX0_wearOn 141 = .ok (.aload_n 0, 1) := by decide +kernel
theorem dX0_wearOn_142 : decode cX0_wearOn 142 = .ok (.dup, 1) := by decide +kernel
theorem dX0_wearOn_143 : decode cX0_wearOn 143 = .ok (.getfield 48, 3) := by decide +kernel
theorem dX0_wearOn_146 : decode cX0_wearOn 146 = .ok (.iconst 1, 1) := by decide +kernel
theorem dX0_wearOn_147 : decode cX0_wearOn 147 = .ok (.iadd, 1) := by decide +kernel
theorem dX0_wearOn_148 : decode cX0_wearOn 148 = .ok (.putfield 48, 3) := by decide +kernel
theorem dX0_wearOn_151 : decode cX0_wearOn 151 = .ok (.iload_n 2, 1) := by decide +kernel
theorem dX0_wearOn_152 : decode cX0_wearOn 152 = .ok (.ireturn, 1) := by decide +kernel
theorem dX0_draw_0 : decode cX0_draw 0 = .ok (.iload_n 1, 1) := by decide +kernel
theorem dX0_draw_1 : decode cX0_draw 1 = .ok (.istore_n 2, 1) := by decide +kernel
theorem dX0_draw_2 : decode cX0_draw 2 = .ok (.iconst 0, 1) := by decide +kernel
theorem dX0_draw_3 : decode cX0_draw 3 = .ok (.istore_n 3, 1) := by decide +kernel
theorem dX0_draw_4 : decode cX0_draw 4 = .ok (.iload_n 3, 1) := by decide +kernel
theorem dX0_draw_5 : decode cX0_draw 5 = .ok (.bipush 16, 2) := by decide +kernel
theorem dX0_draw_7 : decode cX0_draw 7 = .ok (.if_icmp .ge 34, 3) := by decide +kernel
theorem dX0_draw_10 : decode cX0_draw 10 = .ok (.iload_n 2, 1) := by decide +kernel
theorem dX0_draw_11 : decode cX0_draw 11 = .ok (.ldc 151, 2) := by decide +kernel
theorem dX0_draw_13 : decode cX0_draw 13 = .ok (.imul, 1) := by decide +kernel
theorem dX0_draw_14 : decode cX0_draw 14 = .ok (.sipush 12345, 3) := by decide +kernel
theorem dX0_draw_17 : decode cX0_draw 17 = .ok (.iadd, 1) := by decide +kernel
theorem dX0_draw_18 : decode cX0_draw 18 = .ok (.istore_n 2, 1) := by decide +kernel
theorem dX0_draw_19 : decode cX0_draw 19 = .ok (.aload_n 0, 1) := by decide +kernel
theorem dX0_draw_20 : decode cX0_draw 20 = .ok (.getfield 9, 3) := by decide +kernel
theorem dX0_draw_23 : decode cX0_draw 23 = .ok (.iload_n 3, 1) := by decide +kernel
theorem dX0_draw_24 : decode cX0_draw 24 = .ok (.iload_n 2, 1) := by decide +kernel
theorem dX0_draw_25 : decode cX0_draw 25 = .ok (.bipush 9, 2) := by decide +kernel
theorem dX0_draw_27 : decode cX0_draw 27 = .ok (.iushr, 1) := by decide +kernel
theorem dX0_draw_28 : decode cX0_draw 28 = .ok (.bipush 41, 2) := by decide +kernel
theorem dX0_draw_30 : decode cX0_draw 30 = .ok (.irem, 1) := by decide +kernel
theorem dX0_draw_31 : decode cX0_draw 31 = .ok (.bipush 20, 2) := by decide +kernel
theorem dX0_draw_33 : decode cX0_draw 33 = .ok (.isub, 1) := by decide +kernel
theorem dX0_draw_34 : decode cX0_draw 34 = .ok (.iastore, 1) := by decide +kernel
theorem dX0_draw_35 : decode cX0_draw 35 = .ok (.iinc 3 1, 3) := by decide +kernel
theorem dX0_draw_38 : decode cX0_draw 38 = .ok (.goto (-34), 3) := by decide +kernel
theorem dX0_draw_41 : decode cX0_draw 41 = .ok (.return_, 1) := by decide +kernel
theorem dX1_init_0 : decode cX1_init 0 = .ok (.aload_n 0, 1) := by decide +kernel
theorem dX1_init_1 : decode cX1_init 1 = .ok (.invokespecial 3, 3) := by decide +kernel
theorem dX1_init_4 : decode cX1_init 4 = .ok (.return_, 1) := by decide +kernel
theorem dX1_become_0 : decode cX1_become 0 = .ok (.aload_n 0, 1) := by decide +kernel
theorem dX1_become_1 : decode cX1_become 1 = .ok (.aload_n 1, 1) := by decide +kernel
theorem dX1_become_2 : decode cX1_become 2 = .ok (.getfield 9, 3) := by decide +kernel
theorem dX1_become_5 : decode cX1_become 5 = .ok (.putfield 9, 3) := by decide +kernel
theorem dX1_become_8 : decode cX1_become 8 = .ok (.aload_n 0, 1) := by decide +kernel
theorem dX1_become_9 : decode cX1_become 9 = .ok (.aload_n 1, 1) := by decide +kernel
theorem dX1_become_10 : decode cX1_become 10 = .ok (.getfield 15, 3) := by decide +kernel
theorem dX1_become_13 : decode cX1_become 13 = .ok (.putfield 15, 3) := by decide +kernel
theorem dX1_become_16 : decode cX1_become 16 = .ok (.aload_n 0, 1) := by decide +kernel
theorem dX1_become_17 : decode cX1_become 17 = .ok (.aload_n 1, 1) := by decide +kernel
theorem dX1_become_18 : decode cX1_become 18 = .ok (.getfield 18, 3) := by decide +kernel
theorem dX1_become_21 : decode cX1_become 21 = .ok (.putfield 18, 3) := by decide +kernel
theorem dX1_become_24 : decode cX1_become 24 = .ok (.aload_n 0, 1) := by decide +kernel
theorem dX1_become_25 : decode cX1_become 25 = .ok (.aload_n 1, 1) := by decide +kernel
theorem dX1_become_26 : decode cX1_become 26 = .ok (.getfield 21, 3) := by decide +kernel
theorem dX1_become_29 : decode cX1_become 29 = .ok (.putfield 21, 3) := by decide +kernel
theorem dX1_become_32 : decode cX1_become 32 = .ok (.aload_n 0, 1) := by decide +kernel
theorem dX1_become_33 : decode cX1_become 33 = .ok (.aload_n 1, 1) := by decide +kernel
theorem dX1_become_34 : decode cX1_become 34 = .ok (.getfield 24, 3) := by decide +kernel
theorem dX1_become_37 : decode cX1_become 37 = .ok (.putfield 24, 3) := by decide +kernel
theorem dX1_become_40 : decode cX1_become 40 = .ok (.aload_n 0, 1) := by decide +kernel
theorem dX1_become_41 : decode cX1_become 41 = .ok (.aload_n 1, 1) := by decide +kernel
theorem dX1_become_42 : decode cX1_become 42 = .ok (.getfield 27, 3) := by decide +kernel
theorem dX1_become_45 : decode cX1_become 45 = .ok (.putfield 27, 3) := by decide +kernel
theorem dX1_become_48 : decode cX1_become 48 = .ok (.return_, 1) := by decide +kernel
theorem dX1_alter_0 : decode cX1_alter 0 = .ok (.iload_n 1, 1) := by decide +kernel
theorem dX1_alter_1 : decode cX1_alter 1 = .ok (.iconst 2, 1) := by decide +kernel
theorem dX1_alter_2 : decode cX1_alter 2 = .ok (.if_icmp .ne 11, 3) := by decide +kernel
theorem dX1_alter_5 : decode cX1_alter 5 = .ok (.aload_n 0, 1) := by decide +kernel
theorem dX1_alter_6 : decode cX1_alter 6 = .ok (.iload_n 2, 1) := by decide +kernel
theorem dX1_alter_7 : decode cX1_alter 7 = .ok (.putfield 15, 3) := by decide +kernel
theorem dX1_alter_10 : decode cX1_alter 10 = .ok (.goto 30, 3) := by decide +kernel
theorem dX1_alter_13 : decode cX1_alter 13 = .ok (.iload_n 1, 1) := by decide +kernel
theorem dX1_alter_14 : decode cX1_alter 14 = .ok (.iconst 3, 1) := by decide +kernel
theorem dX1_alter_15 : decode cX1_alter 15 = .ok (.if_icmp .ne 11, 3) := by decide +kernel
theorem dX1_alter_18 : decode cX1_alter 18 = .ok (.aload_n 0, 1) := by decide +kernel
theorem dX1_alter_19 : decode cX1_alter 19 = .ok (.iload_n 2, 1) := by decide +kernel
theorem dX1_alter_20 : decode cX1_alter 20 = .ok (.putfield 24, 3) := by decide +kernel
theorem dX1_alter_23 : decode cX1_alter 23 = .ok (.goto 17, 3) := by decide +kernel
theorem dX1_alter_26 : decode cX1_alter 26 = .ok (.aload_n 0, 1) := by decide +kernel
theorem dX1_alter_27 : decode cX1_alter 27 = .ok (.iload_n 2, 1) := by decide +kernel
theorem dX1_alter_28 : decode cX1_alter 28 = .ok (.iconst 1, 1) := by decide +kernel
theorem dX1_alter_29 : decode cX1_alter 29 = .ok (.if_icmp .ne 7, 3) := by decide +kernel
theorem dX1_alter_32 : decode cX1_alter 32 = .ok (.iconst 1, 1) := by decide +kernel
theorem dX1_alter_33 : decode cX1_alter 33 = .ok (.goto 4, 3) := by decide +kernel
theorem dX1_alter_36 : decode cX1_alter 36 = .ok (.iconst 0, 1) := by decide +kernel
theorem dX1_alter_37 : decode cX1_alter 37 = .ok (.putfield 27, 3) := by decide +kernel
theorem dX1_alter_40 : decode cX1_alter 40 = .ok (.return_, 1) := by decide +kernel
theorem dX1_sewUp_0 : decode cX1_sewUp 0 = .ok (.aload_n 0, 1) := by decide +kernel
theorem dX1_sewUp_1 : decode cX1_sewUp 1 = .ok (.iload_n 1, 1) := by decide +kernel
theorem dX1_sewUp_2 : decode cX1_sewUp 2 = .ok (.putfield 18, 3) := by decide +kernel
theorem dX1_sewUp_5 : decode cX1_sewUp 5 = .ok (.aload_n 0, 1) := by decide +kernel
theorem dX1_sewUp_6 : decode cX1_sewUp 6 = .ok (.iload_n 2, 1) := by decide +kernel
theorem dX1_sewUp_7 : decode cX1_sewUp 7 = .ok (.putfield 21, 3) := by decide +kernel
theorem dX1_sewUp_10 : decode cX1_sewUp 10 = .ok (.return_, 1) := by decide +kernel
theorem dX1_shift_0 : decode cX1_shift 0 = .ok (.aload_n 0, 1) := by decide +kernel
theorem dX1_shift_1 : decode cX1_shift 1 = .ok (.iload_n 1, 1) := by decide +kernel
theorem dX1_shift_2 : decode cX1_shift 2 = .ok (.bipush 15, 2) := by decide +kernel
theorem dX1_shift_4 : decode cX1_shift 4 = .ok (.iload_n 1, 1) := by decide +kernel
theorem dX1_shift_5 : decode cX1_shift 5 = .ok (.aload_n 0, 1) := by decide +kernel
theorem dX1_shift_6 : decode cX1_shift 6 = .ok (.getfield 21, 3) := by decide +kernel
theorem dX1_shift_9 : decode cX1_shift 9 = .ok (.iadd, 1) := by decide +kernel
theorem dX1_shift_10 : decode cX1_shift 10 = .ok (.aload_n 0, 1) := by decide +kernel
theorem dX1_shift_11 : decode cX1_shift 11 = .ok (.getfield 18, 3) := by decide +kernel
theorem dX1_shift_14 : decode cX1_shift 14 = .ok (.isub, 1) := by decide +kernel
theorem dX1_shift_15 : decode cX1_shift 15 = .ok (.invokestatic 31, 3) := by decide +kernel
theorem dX1_shift_18 : decode cX1_shift 18 = .ok (.invokevirtual 37, 3) := by decide +kernel
theorem dX1_shift_21 : decode cX1_shift 21 = .ok (.return_, 1) := by decide +kernel
theorem dX1_span_0 : decode cX1_span 0 = .ok (.aload_n 0, 1) := by decide +kernel
theorem dX1_span_1 : decode cX1_span 1 = .ok (.getfield 21, 3) := by decide +kernel
theorem dX1_span_4 : decode cX1_span 4 = .ok (.aload_n 0, 1) := by decide +kernel
theorem dX1_span_5 : decode cX1_span 5 = .ok (.getfield 18, 3) := by decide +kernel
theorem dX1_span_8 : decode cX1_span 8 = .ok (.isub, 1) := by decide +kernel
theorem dX1_span_9 : decode cX1_span 9 = .ok (.iconst 1, 1) := by decide +kernel
theorem dX1_span_10 : decode cX1_span 10 = .ok (.iadd, 1) := by decide +kernel
theorem dX1_span_11 : decode cX1_span 11 = .ok (.ireturn, 1) := by decide +kernel
theorem dX1_bits_0 : decode cX1_bits 0 = .ok (.iconst 1, 1) := by decide +kernel
theorem dX1_bits_1 : decode cX1_bits 1 = .ok (.aload_n 0, 1) := by decide +kernel
theorem dX1_bits_2 : decode cX1_bits 2 = .ok (.getfield 21, 3) := by decide +kernel
theorem dX1_bits_5 : decode cX1_bits 5 = .ok (.iconst 1, 1) := by decide +kernel
theorem dX1_bits_6 : decode cX1_bits 6 = .ok (.iadd, 1) := by decide +kernel
theorem dX1_bits_7 : decode cX1_bits 7 = .ok (.ishl, 1) := by decide +kernel
theorem dX1_bits_8 : decode cX1_bits 8 = .ok (.iconst 1, 1) := by decide +kernel
theorem dX1_bits_9 : decode cX1_bits 9 = .ok (.aload_n 0, 1) := by decide +kernel
theorem dX1_bits_10 : decode cX1_bits 10 = .ok (.getfield 18, 3) := by decide +kernel
theorem dX1_bits_13 : decode cX1_bits 13 = .ok (.ishl, 1) := by decide +kernel
theorem dX1_bits_14 : decode cX1_bits 14 = .ok (.isub, 1) := by decide +kernel
theorem dX1_bits_15 : decode cX1_bits 15 = .ok (.ireturn, 1) := by decide +kernel
theorem dX1_pullsBy_0 : decode cX1_pullsBy 0 = .ok (.aload_n 0, 1) := by decide +kernel
theorem dX1_pullsBy_1 : decode cX1_pullsBy 1 = .ok (.getfield 9, 3) := by decide +kernel
theorem dX1_pullsBy_4 : decode cX1_pullsBy 4 = .ok (.tableswitch 84 1 5 #[36, 40, 49, 65, 79], 36) := by decide +kernel
theorem dX1_pullsBy_40 : decode cX1_pullsBy 40 = .ok (.iload_n 1, 1) := by decide +kernel
theorem dX1_pullsBy_41 : decode cX1_pullsBy 41 = .ok (.iconst 2, 1) := by decide +kernel
theorem dX1_pullsBy_42 : decode cX1_pullsBy 42 = .ok (.idiv, 1) := by decide +kernel
theorem dX1_pullsBy_43 : decode cX1_pullsBy 43 = .ok (.ireturn, 1) := by decide +kernel
theorem dX1_pullsBy_44 : decode cX1_pullsBy 44 = .ok (.iload_n 1, 1) := by decide +kernel
theorem dX1_pullsBy_45 : decode cX1_pullsBy 45 = .ok (.iconst 2, 1) := by decide +kernel
theorem dX1_pullsBy_46 : decode cX1_pullsBy 46 = .ok (.iadd, 1) := by decide +kernel
theorem dX1_pullsBy_47 : decode cX1_pullsBy 47 = .ok (.bipush 99, 2) := by decide +kernel
theorem dX1_pullsBy_49 : decode cX1_pullsBy 49 = .ok (.invokestatic 41, 3) := by decide +kernel
theorem dX1_pullsBy_52 : decode cX1_pullsBy 52 = .ok (.ireturn, 1) := by decide +kernel
theorem dX1_pullsBy_53 : decode cX1_pullsBy 53 = .ok (.aload_n 0, 1) := by decide +kernel
theorem dX1_pullsBy_54 : decode cX1_pullsBy 54 = .ok (.invokevirtual 44, 3) := by decide +kernel
theorem dX1_pullsBy_57 : decode cX1_pullsBy 57 = .ok (.iconst 3, 1) := by decide +kernel
theorem dX1_pullsBy_58 : decode cX1_pullsBy 58 = .ok (.if_icmp .gt 7, 3) := by decide +kernel
theorem dX1_pullsBy_61 : decode cX1_pullsBy 61 = .ok (.iconst 0, 1) := by decide +kernel
theorem dX1_pullsBy_62 : decode cX1_pullsBy 62 = .ok (.goto 6, 3) := by decide +kernel
theorem dX1_pullsBy_65 : decode cX1_pullsBy 65 = .ok (.iload_n 1, 1) := by decide +kernel
theorem dX1_pullsBy_66 : decode cX1_pullsBy 66 = .ok (.iconst 2, 1) := by decide +kernel
theorem dX1_pullsBy_67 : decode cX1_pullsBy 67 = .ok (.idiv, 1) := by decide +kernel
theorem dX1_pullsBy_68 : decode cX1_pullsBy 68 = .ok (.ireturn, 1) := by decide +kernel
theorem dX1_pullsBy_69 : decode cX1_pullsBy 69 = .ok (.iload_n 1, 1) := by decide +kernel
theorem dX1_pullsBy_70 : decode cX1_pullsBy 70 = .ok (.iconst 2, 1) := by decide +kernel
theorem dX1_pullsBy_71 : decode cX1_pullsBy 71 = .ok (.iadd, 1) := by decide +kernel
theorem dX1_pullsBy_72 : decode cX1_pullsBy 72 = .ok (.aload_n 0, 1) := by decide +kernel
theorem dX1_pullsBy_73 : decode cX1_pullsBy 73 = .ok (.getfield 15, 3) := by decide +kernel
theorem dX1_pullsBy_76 : decode cX1_pullsBy 76 = .ok (.iadd, 1) := by decide +kernel
theorem dX1_pullsBy_77 : decode cX1_pullsBy 77 = .ok (.bipush 99, 2) := by decide +kernel
theorem dX1_pullsBy_79 : decode cX1_pullsBy 79 = .ok (.invokestatic 41, 3) := by decide +kernel
theorem dX1_pullsBy_82 : decode cX1_pullsBy 82 = .ok (.ireturn, 1) := by decide +kernel
theorem dX1_pullsBy_83 : decode cX1_pullsBy 83 = .ok (.aload_n 0, 1) := by decide +kernel
theorem dX1_pullsBy_84 : decode cX1_pullsBy 84 = .ok (.invokevirtual 44, 3) := by decide +kernel
theorem dX1_pullsBy_87 : decode cX1_pullsBy 87 = .ok (.ireturn, 1) := by decide +kernel
theorem dX1_pullsBy_88 : decode cX1_pullsBy 88 = .ok (.iload_n 1, 1) := by decide +kernel
theorem dX1_pullsBy_89 : decode cX1_pullsBy 89 = .ok (.ireturn, 1) := by decide +kernel
theorem dX1_wearsBy_0 : decode cX1_wearsBy 0 = .ok (.aload_n 0, 1) := by decide +kernel
theorem dX1_wearsBy_1 : decode cX1_wearsBy 1 = .ok (.getfield 9, 3) := by decide +kernel
theorem dX1_wearsBy_4 : decode cX1_wearsBy 4 = .ok (.tableswitch 76 1 5 #[36, 76, 45, 59, 73], 36) := by decide +kernel
theorem dX1_wearsBy_40 : decode cX1_wearsBy 40 = .ok (.iconst 2, 1) := by decide +kernel
theorem dX1_wearsBy_41 : decode cX1_wearsBy 41 = .ok (.iload_n 1, 1) := by decide +kernel
theorem dX1_wearsBy_42 : decode cX1_wearsBy 42 = .ok (.imul, 1) := by decide +kernel
theorem dX1_wearsBy_43 : decode cX1_wearsBy 43 = .ok (.bipush 99, 2) := by decide +kernel
theorem dX1_wearsBy_45 : decode cX1_wearsBy 45 = .ok (.invokestatic 41, 3) := by decide +kernel
theorem dX1_wearsBy_48 : decode cX1_wearsBy 48 = .ok (.ireturn, 1) := by decide +kernel
theorem dX1_wearsBy_49 : decode cX1_wearsBy 49 = .ok (.iconst 2, 1) := by decide +kernel
theorem dX1_wearsBy_50 : decode cX1_wearsBy 50 = .ok (.iload_n 1, 1) := by decide +kernel
theorem dX1_wearsBy_51 : decode cX1_wearsBy 51 = .ok (.imul, 1) := by decide +kernel
theorem dX1_wearsBy_52 : decode cX1_wearsBy 52 = .ok (.aload_n 0, 1) := by decide +kernel
theorem dX1_wearsBy_53 : decode cX1_wearsBy 53 = .ok (.getfield 15, 3) := by decide +kernel
theorem dX1_wearsBy_56 : decode cX1_wearsBy 56 = .ok (.iadd, 1) := by decide +kernel
theorem dX1_wearsBy_57 : decode cX1_wearsBy 57 = .ok (.bipush 99, 2) := by decide +kernel
theorem dX1_wearsBy_59 : decode cX1_wearsBy 59 = .ok (.invokestatic 41, 3) := by decide +kernel
theorem dX1_wearsBy_62 : decode cX1_wearsBy 62 = .ok (.ireturn, 1) := by decide +kernel
theorem dX1_wearsBy_63 : decode cX1_wearsBy 63 = .ok (.iload_n 2, 1) := by decide +kernel
theorem dX1_wearsBy_64 : decode cX1_wearsBy 64 = .ok (.iconst 2, 1) := by decide +kernel
theorem dX1_wearsBy_65 : decode cX1_wearsBy 65 = .ok (.irem, 1) := by decide +kernel
theorem dX1_wearsBy_66 : decode cX1_wearsBy 66 = .ok (.ifCond .ne 9, 3) := by decide +kernel
theorem dX1_wearsBy_69 : decode cX1_wearsBy 69 = .ok (.iload_n 1, 1) := by decide +kernel
theorem dX1_wearsBy_70 : decode cX1_wearsBy 70 = .ok (.iconst 2, 1) := by decide +kernel
theorem dX1_wearsBy_71 : decode cX1_wearsBy 71 = .ok (.idiv, 1) := by decide +kernel
theorem dX1_wearsBy_72 : decode cX1_wearsBy 72 = .ok (.goto 4, 3) := by decide +kernel
theorem dX1_wearsBy_75 : decode cX1_wearsBy 75 = .ok (.iload_n 1, 1) := by decide +kernel
theorem dX1_wearsBy_76 : decode cX1_wearsBy 76 = .ok (.ireturn, 1) := by decide +kernel
theorem dX1_wearsBy_77 : decode cX1_wearsBy 77 = .ok (.bipush 9, 2) := by decide +kernel
theorem dX1_wearsBy_79 : decode cX1_wearsBy 79 = .ok (.ireturn, 1) := by decide +kernel
theorem dX1_wearsBy_80 : decode cX1_wearsBy 80 = .ok (.iload_n 1, 1) := by decide +kernel
theorem dX1_wearsBy_81 : decode cX1_wearsBy 81 = .ok (.ireturn, 1) := by decide +kernel
theorem dX1_standsBy_0 : decode cX1_standsBy 0 = .ok (.aload_n 0, 1) := by decide +kernel
theorem dX1_standsBy_1 : decode cX1_standsBy 1 = .ok (.getfield 9, 3) := by decide +kernel
theorem dX1_standsBy_4 : decode cX1_standsBy 4 = .ok (.tableswitch 72 2 5 #[32, 45, 49, 64], 32) := by decide +kernel
theorem dX1_standsBy_36 : decode cX1_standsBy 36 = .ok (.iload_n 1, 1) := by decide +kernel
theorem dX1_standsBy_37 : decode cX1_standsBy 37 = .ok (.aload_n 0, 1) := by decide +kernel
theorem dX1_standsBy_38 : decode cX1_standsBy 38 = .ok (.invokevirtual 44, 3) := by decide +kernel
theorem dX1_standsBy_41 : decode cX1_standsBy 41 = .ok (.iadd, 1) := by decide +kernel
theorem dX1_standsBy_42 : decode cX1_standsBy 42 = .ok (.sipush 999, 3) := by decide +kernel
theorem dX1_standsBy_45 : decode cX1_standsBy 45 = .ok (.invokestatic 41, 3) := by decide +kernel
theorem dX1_standsBy_48 : decode cX1_standsBy 48 = .ok (.ireturn, 1) := by decide +kernel
theorem dX1_standsBy_49 : decode cX1_standsBy 49 = .ok (.iload_n 1, 1) := by decide +kernel
theorem dX1_standsBy_50 : decode cX1_standsBy 50 = .ok (.iconst 2, 1) := by decide +kernel
theorem dX1_standsBy_51 : decode cX1_standsBy 51 = .ok (.idiv, 1) := by decide +kernel
theorem dX1_standsBy_52 : decode cX1_standsBy 52 = .ok (.ireturn, 1) := by decide +kernel
theorem dX1_standsBy_53 : decode cX1_standsBy 53 = .ok (.iconst 2, 1) := by decide +kernel
theorem dX1_standsBy_54 : decode cX1_standsBy 54 = .ok (.iload_n 1, 1) := by decide +kernel
theorem dX1_standsBy_55 : decode cX1_standsBy 55 = .ok (.aload_n 0, 1) := by decide +kernel
theorem dX1_standsBy_56 : decode cX1_standsBy 56 = .ok (.invokevirtual 44, 3) := by decide +kernel
theorem dX1_standsBy_59 : decode cX1_standsBy 59 = .ok (.iadd, 1) := by decide +kernel
theorem dX1_standsBy_60 : decode cX1_standsBy 60 = .ok (.imul, 1) := by decide +kernel
theorem dX1_standsBy_61 : decode cX1_standsBy 61 = .ok (.sipush 999, 3) := by decide +kernel
theorem dX1_standsBy_64 : decode cX1_standsBy 64 = .ok (.invokestatic 41, 3) := by decide +kernel
theorem dX1_standsBy_67 : decode cX1_standsBy 67 = .ok (.ireturn, 1) := by decide +kernel
theorem dX1_standsBy_68 : decode cX1_standsBy 68 = .ok (.bipush 10, 2) := by decide +kernel
theorem dX1_standsBy_70 : decode cX1_standsBy 70 = .ok (.aload_n 0, 1) := by decide +kernel
theorem dX1_standsBy_71 : decode cX1_standsBy 71 = .ok (.getfield 15, 3) := by decide +kernel
theorem dX1_standsBy_74 : decode cX1_standsBy 74 = .ok (.iadd, 1) := by decide +kernel
theorem dX1_standsBy_75 : decode cX1_standsBy 75 = .ok (.ireturn, 1) := by decide +kernel
theorem dX1_standsBy_76 : decode cX1_standsBy 76 = .ok (.iload_n 1, 1) := by decide +kernel
theorem dX1_standsBy_77 : decode cX1_standsBy 77 = .ok (.ireturn, 1) := by decide +kernel
theorem dX2_init_0 : decode cX2_init 0 = .ok (.aload_n 0, 1) := by decide +kernel
theorem dX2_init_1 : decode cX2_init 1 = .ok (.invokespecial 3, 3) := by decide +kernel
theorem dX2_init_4 : decode cX2_init 4 = .ok (.aload_n 0, 1) := by decide +kernel
theorem dX2_init_5 : decode cX2_init 5 = .ok (.bipush 40, 2) := by decide +kernel
theorem dX2_init_7 : decode cX2_init 7 = .ok (.newarray .int, 2) := by decide +kernel
theorem dX2_init_9 : decode cX2_init 9 = .ok (.putfield 9, 3) := by decide +kernel
theorem dX2_init_12 : decode cX2_init 12 = .ok (.aload_n 0, 1) := by decide +kernel
theorem dX2_init_13 : decode cX2_init 13 = .ok (.iconst (-1), 1) := by decide +kernel
theorem dX2_init_14 : decode cX2_init 14 = .ok (.putfield 15, 3) := by decide +kernel
theorem dX2_init_17 : decode cX2_init 17 = .ok (.return_, 1) := by decide +kernel
theorem dX2_renew_0 : decode cX2_renew 0 = .ok (.aload_n 0, 1) := by decide +kernel
theorem dX2_renew_1 : decode cX2_renew 1 = .ok (.getfield 9, 3) := by decide +kernel
theorem dX2_renew_4 : decode cX2_renew 4 = .ok (.iconst 0, 1) := by decide +kernel
theorem dX2_renew_5 : decode cX2_renew 5 = .ok (.invokestatic 19, 3) := by decide +kernel
theorem dX2_renew_8 : decode cX2_renew 8 = .ok (.aload_n 0, 1) := by decide +kernel
theorem dX2_renew_9 : decode cX2_renew 9 = .ok (.iload_n 1, 1) := by decide +kernel
theorem dX2_renew_10 : decode cX2_renew 10 = .ok (.putfield 15, 3) := by decide +kernel
theorem dX2_renew_13 : decode cX2_renew 13 = .ok (.aload_n 0, 1) := by decide +kernel
theorem dX2_renew_14 : decode cX2_renew 14 = .ok (.iload_n 2, 1) := by decide +kernel
theorem dX2_renew_15 : decode cX2_renew 15 = .ok (.putfield 25, 3) := by decide +kernel
theorem dX2_renew_18 : decode cX2_renew 18 = .ok (.return_, 1) := by decide +kernel
theorem dX2_hasFrom_0 : decode cX2_hasFrom 0 = .ok (.iload_n 1, 1) := by decide +kernel
theorem dX2_hasFrom_1 : decode cX2_hasFrom 1 = .ok (.ifCond .lt 21, 3) := by decide +kernel
theorem dX2_hasFrom_4 : decode cX2_hasFrom 4 = .ok (.iload_n 2, 1) := by decide +kernel
theorem dX2_hasFrom_5 : decode cX2_hasFrom 5 = .ok (.ifCond .lt 17, 3) := by decide +kernel
theorem dX2_hasFrom_8 : decode cX2_hasFrom 8 = .ok (.iload_n 1, 1) := by decide +kernel
theorem dX2_hasFrom_9 : decode cX2_hasFrom 9 = .ok (.aload_n 0, 1) := by decide +kernel
theorem dX2_hasFrom_10 : decode cX2_hasFrom 10 = .ok (.getfield 25, 3) := by decide +kernel
theorem dX2_hasFrom_13 : decode cX2_hasFrom 13 = .ok (.iload_n 2, 1) := by decide +kernel
theorem dX2_hasFrom_14 : decode cX2_hasFrom 14 = .ok (.isub, 1) := by decide +kernel
theorem dX2_hasFrom_15 : decode cX2_hasFrom 15 = .ok (.if_icmp .gt 7, 3) := by decide +kernel
theorem dX2_hasFrom_18 : decode cX2_hasFrom 18 = .ok (.iconst 1, 1) := by decide +kernel
theorem dX2_hasFrom_19 : decode cX2_hasFrom 19 = .ok (.goto 4, 3) := by decide +kernel
theorem dX2_hasFrom_22 : decode cX2_hasFrom 22 = .ok (.iconst 0, 1) := by decide +kernel
theorem dX2_hasFrom_23 : decode cX2_hasFrom 23 = .ok (.ireturn, 1) := by decide +kernel
theorem dX2_put_0 : decode cX2_put 0 = .ok (.aload_n 0, 1) := by decide +kernel
theorem dX2_put_1 : decode cX2_put 1 = .ok (.getfield 15, 3) := by decide +kernel
theorem dX2_put_4 : decode cX2_put 4 = .ok (.ifCond .ne 14, 3) := by decide +kernel
theorem dX2_put_7 : decode cX2_put 7 = .ok (.aload_n 0, 1) := by decide +kernel
theorem dX2_put_8 : decode cX2_put 8 = .ok (.getfield 9, 3) := by decide +kernel
theorem dX2_put_11 : decode cX2_put 11 = .ok (.iload_n 1, 1) := by decide +kernel
theorem dX2_put_12 : decode cX2_put 12 = .ok (.iload_n 2, 1) := by decide +kernel
theorem dX2_put_13 : decode cX2_put 13 = .ok (.i2b, 1) := by decide +kernel
theorem dX2_put_14 : decode cX2_put 14 = .ok (.iastore, 1) := by decide +kernel
theorem dX2_put_15 : decode cX2_put 15 = .ok (.goto 23, 3) := by decide +kernel
theorem dX2_put_18 : decode cX2_put 18 = .ok (.aload_n 0, 1) := by decide +kernel
theorem dX2_put_19 : decode cX2_put 19 = .ok (.getfield 9, 3) := by decide +kernel
theorem dX2_put_22 : decode cX2_put 22 = .ok (.iload_n 1, 1) := by decide +kernel
theorem dX2_put_23 : decode cX2_put 23 = .ok (.aload_n 0, 1) := by decide +kernel
theorem dX2_put_24 : decode cX2_put 24 = .ok (.getfield 15, 3) := by decide +kernel
theorem dX2_put_27 : decode cX2_put 27 = .ok (.iconst 1, 1) := by decide +kernel
theorem dX2_put_28 : decode cX2_put 28 = .ok (.if_icmp .ne 8, 3) := by decide +kernel
theorem dX2_put_31 : decode cX2_put 31 = .ok (.iload_n 2, 1) := by decide +kernel
theorem dX2_put_32 : decode cX2_put 32 = .ok (.i2s, 1) := by decide +kernel
theorem dX2_put_33 : decode cX2_put 33 = .ok (.goto 4, 3) := by decide +kernel
theorem dX2_put_36 : decode cX2_put 36 = .ok (.iload_n 2, 1) := by decide +kernel
theorem dX2_put_37 : decode cX2_put 37 = .ok (.iastore, 1) := by decide +kernel
theorem dX2_put_38 : decode cX2_put 38 = .ok (.return_, 1) := by decide +kernel
theorem dX3_init_0 : decode cX3_init 0 = .ok (.aload_n 0, 1) := by decide +kernel
theorem dX3_init_1 : decode cX3_init 1 = .ok (.invokespecial 3, 3) := by decide +kernel
theorem dX3_init_4 : decode cX3_init 4 = .ok (.aload_n 0, 1) := by decide +kernel
theorem dX3_init_5 : decode cX3_init 5 = .ok (.sipush 160, 3) := by decide +kernel
theorem dX3_init_8 : decode cX3_init 8 = .ok (.newarray .int, 2) := by decide +kernel
theorem dX3_init_10 : decode cX3_init 10 = .ok (.putfield 9, 3) := by decide +kernel
theorem dX3_init_13 : decode cX3_init 13 = .ok (.aload_n 0, 1) := by decide +kernel
theorem dX3_init_14 : decode cX3_init 14 = .ok (.sipush 161, 3) := by decide +kernel
theorem dX3_init_17 : decode cX3_init 17 = .ok (.newarray .int, 2) := by decide +kernel
theorem dX3_init_19 : decode cX3_init 19 = .ok (.putfield 15, 3) := by decide +kernel
theorem dX3_init_22 : decode cX3_init 22 = .ok (.aload_n 0, 1) := by decide +kernel
theorem dX3_init_23 : decode cX3_init 23 = .ok (.sipush 161, 3) := by decide +kernel
theorem dX3_init_26 : decode cX3_init 26 = .ok (.newarray .int, 2) := by decide +kernel
theorem dX3_init_28 : decode cX3_init 28 = .ok (.putfield 18, 3) := by decide +kernel
theorem dX3_init_31 : decode cX3_init 31 = .ok (.aload_n 0, 1) := by decide +kernel
theorem dX3_init_32 : decode cX3_init 32 = .ok (.sipush 161, 3) := by decide +kernel
theorem dX3_init_35 : decode cX3_init 35 = .ok (.newarray .int, 2) := by decide +kernel
theorem dX3_init_37 : decode cX3_init 37 = .ok (.putfield 21, 3) := by decide +kernel
theorem dX3_init_40 : decode cX3_init 40 = .ok (.return_, 1) := by decide +kernel
theorem dX3_add_0 : decode cX3_add 0 = .ok (.aload_n 0, 1) := by decide +kernel
theorem dX3_add_1 : decode cX3_add 1 = .ok (.getfield 24, 3) := by decide +kernel
theorem dX3_add_4 : decode cX3_add 4 = .ok (.sipush 160, 3) := by decide +kernel
theorem dX3_add_7 : decode cX3_add 7 = .ok (.if_icmp .lt 5, 3) := by decide +kernel
theorem dX3_add_10 : decode cX3_add 10 = .ok (.iconst 0, 1) := by decide +kernel
theorem dX3_add_11 : decode cX3_add 11 = .ok (.ireturn, 1) := by decide +kernel
theorem dX3_add_12 : decode cX3_add 12 = .ok (.aload_n 0, 1) := by decide +kernel
theorem dX3_add_13 : decode cX3_add 13 = .ok (.getfield 9, 3) := by decide +kernel
theorem dX3_add_16 : decode cX3_add 16 = .ok (.aload_n 0, 1) := by decide +kernel
theorem dX3_add_17 : decode cX3_add 17 = .ok (.getfield 24, 3) := by decide +kernel
theorem dX3_add_20 : decode cX3_add 20 = .ok (.iload_n 1, 1) := by decide +kernel
theorem dX3_add_21 : decode cX3_add 21 = .ok (.iastore, 1) := by decide +kernel
theorem dX3_add_22 : decode cX3_add 22 = .ok (.aload_n 0, 1) := by decide +kernel
theorem dX3_add_23 : decode cX3_add 23 = .ok (.dup, 1) := by decide +kernel
theorem dX3_add_24 : decode cX3_add 24 = .ok (.getfield 24, 3) := by decide +kernel
theorem dX3_add_27 : decode cX3_add 27 = .ok (.iconst 1, 1) := by decide +kernel
theorem dX3_add_28 : decode cX3_add 28 = .ok (.iadd, 1) := by decide +kernel
theorem dX3_add_29 : decode cX3_add 29 = .ok (.putfield 24, 3) := by decide +kernel
theorem dX3_add_32 : decode cX3_add 32 = .ok (.iconst 1, 1) := by decide +kernel
theorem dX3_add_33 : decode cX3_add 33 = .ok (.ireturn, 1) := by decide +kernel
theorem dX3_read_0 : decode cX3_read 0 = .ok (.aload_n 0, 1) := by decide +kernel
theorem dX3_read_1 : decode cX3_read 1 = .ok (.invokevirtual 28, 3) := by decide +kernel
theorem dX3_read_4 : decode cX3_read 4 = .ok (.aload_n 0, 1) := by decide +kernel
theorem dX3_read_5 : decode cX3_read 5 = .ok (.iconst 0, 1) := by decide +kernel
theorem dX3_read_6 : decode cX3_read 6 = .ok (.putfield 31, 3) := by decide +kernel
theorem dX3_read_9 : decode cX3_read 9 = .ok (.aload_n 0, 1) := by decide +kernel
theorem dX3_read_10 : decode cX3_read 10 = .ok (.iconst (-1), 1) := by decide +kernel
theorem dX3_read_11 : decode cX3_read 11 = .ok (.putfield 34, 3) := by decide +kernel
theorem dX3_read_14 : decode cX3_read 14 = .ok (.aload_n 1, 1) := by decide +kernel
theorem dX3_read_15 : decode cX3_read 15 = .ok (.invokevirtual 37, 3) := by decide +kernel
theorem dX3_read_18 : decode cX3_read 18 = .ok (.iconst 0, 1) := by decide +kernel
theorem dX3_read_19 : decode cX3_read 19 = .ok (.istore_n 2, 1) := by decide +kernel
theorem dX3_read_20 : decode cX3_read 20 = .ok (.iload_n 2, 1) := by decide +kernel
theorem dX3_read_21 : decode cX3_read 21 = .ok (.iconst 3, 1) := by decide +kernel
theorem dX3_read_22 : decode cX3_read 22 = .ok (.if_icmp .ge 33, 3) := by decide +kernel
theorem dX3_read_25 : decode cX3_read 25 = .ok (.aload_n 0, 1) := by decide +kernel
theorem dX3_read_26 : decode cX3_read 26 = .ok (.iconst 4, 1) := by decide +kernel
theorem dX3_read_27 : decode cX3_read 27 = .ok (.iload_n 2, 1) := by decide +kernel
theorem dX3_read_28 : decode cX3_read 28 = .ok (.iadd, 1) := by decide +kernel
theorem dX3_read_29 : decode cX3_read 29 = .ok (.invokevirtual 42, 3) := by decide +kernel
theorem dX3_read_32 : decode cX3_read 32 = .ok (.aload_n 0, 1) := by decide +kernel
theorem dX3_read_33 : decode cX3_read 33 = .ok (.aload_n 1, 1) := by decide +kernel
theorem dX3_read_34 : decode cX3_read 34 = .ok (.iconst 0, 1) := by decide +kernel
theorem dX3_read_35 : decode cX3_read 35 = .ok (.invokevirtual 46, 3) := by decide +kernel
theorem dX3_read_38 : decode cX3_read 38 = .ok (.aload_n 0, 1) := by decide +kernel
theorem dX3_read_39 : decode cX3_read 39 = .ok (.bipush 59, 2) := by decide +kernel
theorem dX3_read_41 : decode cX3_read 41 = .ok (.invokevirtual 42, 3) := by decide +kernel
theorem dX3_read_44 : decode cX3_read 44 = .ok (.aload_n 1, 1) := by decide +kernel
theorem dX3_read_45 : decode cX3_read 45 = .ok (.iload_n 2, 1) := by decide +kernel
theorem dX3_read_46 : decode cX3_read 46 = .ok (.invokevirtual 50, 3) := by decide +kernel
theorem dX3_read_49 : decode cX3_read 49 = .ok (.iinc 2 1, 3) := by decide +kernel
theorem dX3_read_52 : decode cX3_read 52 = .ok (.goto (-32), 3) := by decide +kernel
theorem dX3_read_55 : decode cX3_read 55 = .ok (.aload_n 0, 1) := by decide +kernel
theorem dX3_read_56 : decode cX3_read 56 = .ok (.iconst 0, 1) := by decide +kernel
theorem dX3_read_57 : decode cX3_read 57 = .ok (.invokevirtual 42, 3) := by decide +kernel
theorem dX3_read_60 : decode cX3_read 60 = .ok (.aload_n 0, 1) := by decide +kernel
theorem dX3_read_61 : decode cX3_read 61 = .ok (.iconst 0, 1) := by decide +kernel
theorem dX3_read_62 : decode cX3_read 62 = .ok (.putfield 24, 3) := by decide +kernel
theorem dX3_read_65 : decode cX3_read 65 = .ok (.aload_n 0, 1) := by decide +kernel
theorem dX3_read_66 : decode cX3_read 66 = .ok (.getfield 34, 3) := by decide +kernel
theorem dX3_read_69 : decode cX3_read 69 = .ok (.ireturn, 1) := by decide +kernel
theorem dX3_tokenize_0 : decode cX3_tokenize 0 = .ok (.aload_n 0, 1) := by decide +kernel
theorem dX3_tokenize_1 : decode cX3_tokenize 1 = .ok (.iconst 0, 1) := by decide +kernel
theorem dX3_tokenize_2 : decode cX3_tokenize 2 = .ok (.putfield 53, 3) := by decide +kernel
theorem dX3_tokenize_5 : decode cX3_tokenize 5 = .ok (.iconst 0, 1) := by decide +kernel
theorem dX3_tokenize_6 : decode cX3_tokenize 6 = .ok (.istore_n 1, 1) := by decide +kernel
theorem dX3_tokenize_7 : decode cX3_tokenize 7 = .ok (.iconst 0, 1) := by decide +kernel
theorem dX3_tokenize_8 : decode cX3_tokenize 8 = .ok (.istore_n 2, 1) := by decide +kernel
theorem dX3_tokenize_9 : decode cX3_tokenize 9 = .ok (.iload_n 2, 1) := by decide +kernel
theorem dX3_tokenize_10 : decode cX3_tokenize 10 = .ok (.aload_n 0, 1) := by decide +kernel
theorem dX3_tokenize_11 : decode cX3_tokenize 11 = .ok (.getfield 24, 3) := by decide +kernel
theorem dX3_tokenize_14 : decode cX3_tokenize 14 = .ok (.if_icmp .ge 52, 3) := by decide +kernel
theorem dX3_tokenize_17 : decode cX3_tokenize 17 = .ok (.aload_n 0, 1) := by decide +kernel
theorem dX3_tokenize_18 : decode cX3_tokenize 18 = .ok (.getfield 9, 3) := by decide +kernel
theorem dX3_tokenize_21 : decode cX3_tokenize 21 = .ok (.iload_n 2, 1) := by decide +kernel
theorem dX3_tokenize_22 : decode cX3_tokenize 22 = .ok (.iaload, 1) := by decide +kernel
theorem dX3_tokenize_23 : decode cX3_tokenize 23 = .ok (.bipush 32, 2) := by decide +kernel
theorem dX3_tokenize_25 : decode cX3_tokenize 25 = .ok (.if_icmp .eq 14, 3) := by decide +kernel
theorem dX3_tokenize_28 : decode cX3_tokenize 28 = .ok (.aload_n 0, 1) := by decide +kernel
theorem dX3_tokenize_29 : decode cX3_tokenize 29 = .ok (.getfield 9, 3) := by decide +kernel
theorem dX3_tokenize_32 : decode cX3_tokenize 32 = .ok (.iload_n 2, 1) := by decide +kernel
theorem dX3_tokenize_33 : decode cX3_tokenize 33 = .ok (.iaload, 1) := by decide +kernel
theorem dX3_tokenize_34 : decode cX3_tokenize 34 = .ok (.bipush 10, 2) := by decide +kernel
theorem dX3_tokenize_36 : decode cX3_tokenize 36 = .ok (.if_icmp .ne 7, 3) := by decide +kernel
theorem dX3_tokenize_39 : decode cX3_tokenize 39 = .ok (.iconst 1, 1) := by decide +kernel
theorem dX3_tokenize_40 : decode cX3_tokenize 40 = .ok (.goto 4, 3) := by decide +kernel
theorem dX3_tokenize_43 : decode cX3_tokenize 43 = .ok (.iconst 0, 1) := by decide +kernel
theorem dX3_tokenize_44 : decode cX3_tokenize 44 = .ok (.istore_n 3, 1) := by decide +kernel
theorem dX3_tokenize_45 : decode cX3_tokenize 45 = .ok (.iload_n 2, 1) := by decide +kernel
theorem dX3_tokenize_46 : decode cX3_tokenize 46 = .ok (.iload_n 1, 1) := by decide +kernel
theorem dX3_tokenize_47 : decode cX3_tokenize 47 = .ok (.if_icmp .lt 13, 3) := by decide +kernel
theorem dX3_tokenize_50 : decode cX3_tokenize 50 = .ok (.iload_n 3, 1) := by decide +kernel
theorem dX3_tokenize_51 : decode cX3_tokenize 51 = .ok (.ifCond .ne 9, 3) := by decide +kernel
theorem dX3_tokenize_54 : decode cX3_tokenize 54 = .ok (.aload_n 0, 1) := by decide +kernel
theorem dX3_tokenize_55 : decode cX3_tokenize 55 = .ok (.iload_n 2, 1) := by decide +kernel
theorem dX3_tokenize_56 : decode cX3_tokenize 56 = .ok (.invokevirtual 56, 3) := by decide +kernel
theorem dX3_tokenize_59 : decode cX3_tokenize 59 = .ok (.istore_n 1, 1) := by decide +kernel
theorem dX3_tokenize_60 : decode cX3_tokenize 60 = .ok (.iinc 2 1, 3) := by decide +kernel
theorem dX3_tokenize_63 : decode cX3_tokenize 63 = .ok (.goto (-54), 3) := by decide +kernel
theorem dX3_tokenize_66 : decode cX3_tokenize 66 = .ok (.aload_n 0, 1) := by decide +kernel
theorem dX3_tokenize_67 : decode cX3_tokenize 67 = .ok (.aload_n 0, 1) := by decide +kernel
theorem dX3_tokenize_68 : decode cX3_tokenize 68 = .ok (.getfield 24, 3) := by decide +kernel
theorem dX3_tokenize_71 : decode cX3_tokenize 71 = .ok (.iconst 0, 1) := by decide +kernel
theorem dX3_tokenize_72 : decode cX3_tokenize 72 = .ok (.iconst 0, 1) := by decide +kernel
theorem dX3_tokenize_73 : decode cX3_tokenize 73 = .ok (.invokevirtual 60, 3) := by decide +kernel
theorem dX3_tokenize_76 : decode cX3_tokenize 76 = .ok (.return_, 1) := by decide +kernel
theorem dX3_token_0 : decode cX3_token 0 = .ok (.iload_n 1, 1) := by decide +kernel
theorem dX3_token_1 : decode cX3_token 1 = .ok (.iconst 1, 1) := by decide +kernel
theorem dX3_token_2 : decode cX3_token 2 = .ok (.iadd, 1) := by decide +kernel
theorem dX3_token_3 : decode cX3_token 3 = .ok (.istore_n 2, 1) := by decide +kernel
theorem dX3_token_4 : decode cX3_token 4 = .ok (.aload_n 0, 1) := by decide +kernel
theorem dX3_token_5 : decode cX3_token 5 = .ok (.getfield 9, 3) := by decide +kernel
theorem dX3_token_8 : decode cX3_token 8 = .ok (.iload_n 1, 1) := by decide +kernel
theorem dX3_token_9 : decode cX3_token 9 = .ok (.iaload, 1) := by decide +kernel
theorem dX3_token_10 : decode cX3_token 10 = .ok (.invokestatic 64, 3) := by decide +kernel
theorem dX3_token_13 : decode cX3_token 13 = .ok (.ifCond .eq 22, 3) := by decide +kernel
theorem dX3_token_16 : decode cX3_token 16 = .ok (.aload_n 0, 1) := by decide +kernel
theorem dX3_token_17 : decode cX3_token 17 = .ok (.iload_n 1, 1) := by decide +kernel
theorem dX3_token_18 : decode cX3_token 18 = .ok (.bipush 97, 2) := by decide +kernel
theorem dX3_token_20 : decode cX3_token 20 = .ok (.bipush 122, 2) := by decide +kernel
theorem dX3_token_22 : decode cX3_token 22 = .ok (.invokevirtual 68, 3) := by decide +kernel
theorem dX3_token_25 : decode cX3_token 25 = .ok (.istore_n 2, 1) := by decide +kernel
theorem dX3_token_26 : decode cX3_token 26 = .ok (.aload_n 0, 1) := by decide +kernel
theorem dX3_token_27 : decode cX3_token 27 = .ok (.iload_n 1, 1) := by decide +kernel
theorem dX3_token_28 : decode cX3_token 28 = .ok (.iload_n 2, 1) := by decide +kernel
theorem dX3_token_29 : decode cX3_token 29 = .ok (.invokevirtual 72, 3) := by decide +kernel
theorem dX3_token_32 : decode cX3_token 32 = .ok (.goto 85, 3) := by decide +kernel
theorem dX3_token_35 : decode cX3_token 35 = .ok (.aload_n 0, 1) := by decide +kernel
theorem dX3_token_36 : decode cX3_token 36 = .ok (.getfield 9, 3) := by decide +kernel
theorem dX3_token_39 : decode cX3_token 39 = .ok (.iload_n 1, 1) := by decide +kernel
theorem dX3_token_40 : decode cX3_token 40 = .ok (.iaload, 1) := by decide +kernel
theorem dX3_token_41 : decode cX3_token 41 = .ok (.invokestatic 76, 3) := by decide +kernel
theorem dX3_token_44 : decode cX3_token 44 = .ok (.ifCond .eq 45, 3) := by decide +kernel
theorem dX3_token_47 : decode cX3_token 47 = .ok (.aload_n 0, 1) := by decide +kernel
theorem dX3_token_48 : decode cX3_token 48 = .ok (.iload_n 1, 1) := by decide +kernel
theorem dX3_token_49 : decode cX3_token 49 = .ok (.bipush 48, 2) := by decide +kernel
theorem dX3_token_51 : decode cX3_token 51 = .ok (.bipush 57, 2) := by decide +kernel
theorem dX3_token_53 : decode cX3_token 53 = .ok (.invokevirtual 68, 3) := by decide +kernel
theorem dX3_token_56 : decode cX3_token 56 = .ok (.istore_n 2, 1) := by decide +kernel
theorem dX3_token_57 : decode cX3_token 57 = .ok (.aload_n 0, 1) := by decide +kernel
theorem dX3_token_58 : decode cX3_token 58 = .ok (.iload_n 1, 1) := by decide +kernel
theorem dX3_token_59 : decode cX3_token 59 = .ok (.iload_n 2, 1) := by decide +kernel
theorem dX3_token_60 : decode cX3_token 60 = .ok (.iload_n 1, 1) := by decide +kernel
theorem dX3_token_61 : decode cX3_token 61 = .ok (.isub, 1) := by decide +kernel
theorem dX3_token_62 : decode cX3_token 62 = .ok (.iconst 4, 1) := by decide +kernel
theorem dX3_token_63 : decode cX3_token 63 = .ok (.if_icmp .le 7, 3) := by decide +kernel
theorem dX3_token_66 : decode cX3_token 66 = .ok (.iconst 1, 1) := by decide +kernel
theorem dX3_token_67 : decode cX3_token 67 = .ok (.goto 4, 3) := by decide +kernel
theorem dX3_token_70 : decode cX3_token 70 = .ok (.iconst 2, 1) := by decide +kernel
theorem dX3_token_71 : decode cX3_token 71 = .ok (.aload_n 0, 1) := by decide +kernel
theorem dX3_token_72 : decode cX3_token 72 = .ok (.iload_n 1, 1) := by decide +kernel
theorem dX3_token_73 : decode cX3_token 73 = .ok (.iload_n 2, 1) := by decide +kernel
theorem dX3_token_74 : decode cX3_token 74 = .ok (.iload_n 1, 1) := by decide +kernel
theorem dX3_token_75 : decode cX3_token 75 = .ok (.iconst 4, 1) := by decide +kernel
theorem dX3_token_76 : decode cX3_token 76 = .ok (.iadd, 1) := by decide +kernel
theorem dX3_token_77 : decode cX3_token 77 = .ok (.invokestatic 79, 3) := by decide +kernel
theorem dX3_token_80 : decode cX3_token 80 = .ok (.invokevirtual 85, 3) := by decide +kernel
theorem dX3_token_83 : decode cX3_token 83 = .ok (.invokevirtual 60, 3) := by decide +kernel
theorem dX3_token_86 : decode cX3_token 86 = .ok (.goto 31, 3) := by decide +kernel
theorem dX3_token_89 : decode cX3_token 89 = .ok (.aload_n 0, 1) := by decide +kernel
theorem dX3_token_90 : decode cX3_token 90 = .ok (.iload_n 1, 1) := by decide +kernel
theorem dX3_token_91 : decode cX3_token 91 = .ok (.aload_n 0, 1) := by decide +kernel
theorem dX3_token_92 : decode cX3_token 92 = .ok (.getfield 9, 3) := by decide +kernel
theorem dX3_token_95 : decode cX3_token 95 = .ok (.iload_n 1, 1) := by decide +kernel
theorem dX3_token_96 : decode cX3_token 96 = .ok (.iaload, 1) := by decide +kernel
theorem dX3_token_97 : decode cX3_token 97 = .ok (.invokestatic 88, 3) := by decide +kernel
theorem dX3_token_100 : decode cX3_token 100 = .ok (.ifCond .eq 12, 3) := by decide +kernel
theorem dX3_token_103 : decode cX3_token 103 = .ok (.aload_n 0, 1) := by decide +kernel
theorem dX3_token_104 : decode cX3_token 104 = .ok (.getfield 9, 3) := by decide +kernel
theorem dX3_token_107 : decode cX3_token 107 = .ok (.iload_n 1, 1) := by decide +kernel
theorem dX3_token_108 : decode cX3_token 108 = .ok (.iaload, 1) := by decide +kernel
theorem dX3_token_109 : decode cX3_token 109 = .ok (.goto 4, 3) := by decide +kernel
theorem dX3_token_112 : decode cX3_token 112 = .ok (.iconst 1, 1) := by decide +kernel
theorem dX3_token_113 : decode cX3_token 113 = .ok (.iconst 0, 1) := by decide +kernel
theorem dX3_token_114 : decode cX3_token 114 = .ok (.invokevirtual 60, 3) := by decide +kernel
theorem dX3_token_117 : decode cX3_token 117 = .ok (.aload_n 0, 1) := by decide +kernel
theorem dX3_token_118 : decode cX3_token 118 = .ok (.getfield 53, 3) := by decide +kernel
theorem dX3_token_121 : decode cX3_token 121 = .ok (.sipush 160, 3) := by decide +kernel
theorem dX3_token_124 : decode cX3_token 124 = .ok (.if_icmp .ge 13, 3) := by decide +kernel
theorem dX3_token_127 : decode cX3_token 127 = .ok (.aload_n 0, 1) := by decide +kernel
theorem dX3_token_128 : decode cX3_token 128 = .ok (.dup, 1) := by decide +kernel
theorem dX3_token_129 : decode cX3_token 129 = .ok (.getfield 53, 3) := by decide +kernel
theorem dX3_token_132 : decode cX3_token 132 = .ok (.iconst 1, 1) := by decide +kernel
theorem dX3_token_133 : decode cX3_token 133 = .ok (.iadd, 1) := by decide +kernel
theorem dX3_token_134 : decode cX3_token 134 = .ok (.putfield 53, 3) := by decide +kernel
theorem dX3_token_137 : decode cX3_token 137 = .ok (.iload_n 2, 1) := by decide +kernel
theorem dX3_token_138 : decode cX3_token 138 = .ok (.ireturn, 1) := by decide +kernel
theorem dX3_put_0 : decode cX3_put 0 = .ok (.aload_n 0, 1) := by decide +kernel
theorem dX3_put_1 : decode cX3_put 1 = .ok (.getfield 53, 3) := by decide +kernel
theorem dX3_put_4 : decode cX3_put 4 = .ok (.sipush 160, 3) := by decide +kernel
theorem dX3_put_7 : decode cX3_put 7 = .ok (.if_icmp .le 4, 3) := by decide +kernel
theorem dX3_put_10 : decode cX3_put 10 = .ok (.return_, 1) := by decide +kernel
theorem dX3_put_11 : decode cX3_put 11 = .ok (.aload_n 0, 1) := by decide +kernel
theorem dX3_put_12 : decode cX3_put 12 = .ok (.getfield 21, 3) := by decide +kernel
theorem dX3_put_15 : decode cX3_put 15 = .ok (.aload_n 0, 1) := by decide +kernel
theorem dX3_put_16 : decode cX3_put 16 = .ok (.getfield 53, 3) := by decide +kernel
theorem dX3_put_19 : decode cX3_put 19 = .ok (.iload_n 1, 1) := by decide +kernel
theorem dX3_put_20 : decode cX3_put 20 = .ok (.iastore, 1) := by decide +kernel
theorem dX3_put_21 : decode cX3_put 21 = .ok (.aload_n 0, 1) := by decide +kernel
theorem dX3_put_22 : decode cX3_put 22 = .ok (.getfield 15, 3) := by decide +kernel
theorem dX3_put_25 : decode cX3_put 25 = .ok (.aload_n 0, 1) := by decide +kernel
theorem dX3_put_26 : decode cX3_put 26 = .ok (.getfield 53, 3) := by decide +kernel
theorem dX3_put_29 : decode cX3_put 29 = .ok (.iload_n 2, 1) := by decide +kernel
theorem dX3_put_30 : decode cX3_put 30 = .ok (.iastore, 1) := by decide +kernel
theorem dX3_put_31 : decode cX3_put 31 = .ok (.aload_n 0, 1) := by decide +kernel
theorem dX3_put_32 : decode cX3_put 32 = .ok (.getfield 18, 3) := by decide +kernel
theorem dX3_put_35 : decode cX3_put 35 = .ok (.aload_n 0, 1) := by decide +kernel
theorem dX3_put_36 : decode cX3_put 36 = .ok (.getfield 53, 3) := by decide +kernel
theorem dX3_put_39 : decode cX3_put 39 = .ok (.iload_n 3, 1) := by decide +kernel
theorem dX3_put_40 : decode cX3_put 40 = .ok (.iastore, 1) := by decide +kernel
theorem dX3_put_41 : decode cX3_put 41 = .ok (.return_, 1) := by decide +kernel
theorem dX3_putWord_0 : decode cX3_putWord 0 = .ok (.iconst 0, 1) := by decide +kernel
theorem dX3_putWord_1 : decode cX3_putWord 1 = .ok (.istore_n 3, 1) := by decide +kernel
theorem dX3_putWord_2 : decode cX3_putWord 2 = .ok (.iload_n 3, 1) := by decide +kernel
theorem dX3_putWord_3 : decode cX3_putWord 3 = .ok (.bipush 12, 2) := by decide +kernel
theorem dX3_putWord_5 : decode cX3_putWord 5 = .ok (.if_icmp .ge 22, 3) := by decide +kernel
theorem dX3_putWord_8 : decode cX3_putWord 8 = .ok (.aload_n 0, 1) := by decide +kernel
theorem dX3_putWord_9 : decode cX3_putWord 9 = .ok (.iload_n 1, 1) := by decide +kernel
theorem dX3_putWord_10 : decode cX3_putWord 10 = .ok (.iload_n 2, 1) := by decide +kernel
theorem dX3_putWord_11 : decode cX3_putWord 11 = .ok (.iload_n 3, 1) := by decide +kernel
theorem dX3_putWord_12 : decode cX3_putWord 12 = .ok (.invokestatic 91, 3) := by decide +kernel
theorem dX3_putWord_15 : decode cX3_putWord 15 = .ok (.invokevirtual 95, 3) := by decide +kernel
theorem dX3_putWord_18 : decode cX3_putWord 18 = .ok (.ifCond .ne 9, 3) := by decide +kernel
theorem dX3_putWord_21 : decode cX3_putWord 21 = .ok (.iinc 3 1, 3) := by decide +kernel
theorem dX3_putWord_24 : decode cX3_putWord 24 = .ok (.goto (-22), 3) := by decide +kernel
theorem dX3_putWord_27 : decode cX3_putWord 27 = .ok (.iload_n 3, 1) := by decide +kernel
theorem dX3_putWord_28 : decode cX3_putWord 28 = .ok (.bipush 6, 2) := by decide +kernel
theorem dX3_putWord_30 : decode cX3_putWord 30 = .ok (.if_icmp .ge 13, 3) := by decide +kernel
theorem dX3_putWord_33 : decode cX3_putWord 33 = .ok (.aload_n 0, 1) := by decide +kernel
theorem dX3_putWord_34 : decode cX3_putWord 34 = .ok (.iload_n 1, 1) := by decide +kernel
theorem dX3_putWord_35 : decode cX3_putWord 35 = .ok (.iconst 3, 1) := by decide +kernel
theorem dX3_putWord_36 : decode cX3_putWord 36 = .ok (.iload_n 3, 1) := by decide +kernel
theorem dX3_putWord_37 : decode cX3_putWord 37 = .ok (.invokevirtual 60, 3) := by decide +kernel
theorem dX3_putWord_40 : decode cX3_putWord 40 = .ok (.goto 25, 3) := by decide +kernel
theorem dX3_putWord_43 : decode cX3_putWord 43 = .ok (.aload_n 0, 1) := by decide +kernel
theorem dX3_putWord_44 : decode cX3_putWord 44 = .ok (.iload_n 1, 1) := by decide +kernel
theorem dX3_putWord_45 : decode cX3_putWord 45 = .ok (.iload_n 3, 1) := by decide +kernel
theorem dX3_putWord_46 : decode cX3_putWord 46 = .ok (.bipush 12, 2) := by decide +kernel
theorem dX3_putWord_48 : decode cX3_putWord 48 = .ok (.if_icmp .ge 12, 3) := by decide +kernel
theorem dX3_putWord_51 : decode cX3_putWord 51 = .ok (.iconst 4, 1) := by decide +kernel
theorem dX3_putWord_52 : decode cX3_putWord 52 = .ok (.iload_n 3, 1) := by decide +kernel
theorem dX3_putWord_53 : decode cX3_putWord 53 = .ok (.iadd, 1) := by decide +kernel
theorem dX3_putWord_54 : decode cX3_putWord 54 = .ok (.bipush 6, 2) := by decide +kernel
theorem dX3_putWord_56 : decode cX3_putWord 56 = .ok (.isub, 1) := by decide +kernel
theorem dX3_putWord_57 : decode cX3_putWord 57 = .ok (.goto 4, 3) := by decide +kernel
theorem dX3_putWord_60 : decode cX3_putWord 60 = .ok (.iconst 1, 1) := by decide +kernel
theorem dX3_putWord_61 : decode cX3_putWord 61 = .ok (.iconst 0, 1) := by decide +kernel
theorem dX3_putWord_62 : decode cX3_putWord 62 = .ok (.invokevirtual 60, 3) := by decide +kernel
theorem dX3_putWord_65 : decode cX3_putWord 65 = .ok (.return_, 1) := by decide +kernel
theorem dX3_spells_0 : decode cX3_spells 0 = .ok (.iload_n 2, 1) := by decide +kernel
theorem dX3_spells_1 : decode cX3_spells 1 = .ok (.iload_n 1, 1) := by decide +kernel
theorem dX3_spells_2 : decode cX3_spells 2 = .ok (.isub, 1) := by decide +kernel
theorem dX3_spells_3 : decode cX3_spells 3 = .ok (.aload_n 3, 1) := by decide +kernel
theorem dX3_spells_4 : decode cX3_spells 4 = .ok (.invokevirtual 99, 3) := by decide +kernel
theorem dX3_spells_7 : decode cX3_spells 7 = .ok (.if_icmp .eq 5, 3) := by decide +kernel
theorem dX3_spells_10 : decode cX3_spells 10 = .ok (.iconst 0, 1) := by decide +kernel
theorem dX3_spells_11 : decode cX3_spells 11 = .ok (.ireturn, 1) := by decide +kernel
theorem dX3_spells_12 : decode cX3_spells 12 = .ok (.iconst 0, 1) := by decide +kernel
theorem dX3_spells_13 : decode cX3_spells 13 = .ok (.istore 4, 2) := by decide +kernel
theorem dX3_spells_15 : decode cX3_spells 15 = .ok (.iload 4, 2) := by decide +kernel
theorem dX3_spells_17 : decode cX3_spells 17 = .ok (.aload_n 3, 1) := by decide +kernel
theorem dX3_spells_18 : decode cX3_spells 18 = .ok (.invokevirtual 99, 3) := by decide +kernel
theorem dX3_spells_21 : decode cX3_spells 21 = .ok (.if_icmp .ge 29, 3) := by decide +kernel
theorem dX3_spells_24 : decode cX3_spells 24 = .ok (.aload_n 0, 1) := by decide +kernel
theorem dX3_spells_25 : decode cX3_spells 25 = .ok (.getfield 9, 3) := by decide +kernel
theorem dX3_spells_28 : decode cX3_spells 28 = .ok (.iload_n 1, 1) := by decide +kernel
theorem dX3_spells_29 : decode cX3_spells 29 = .ok (.iload 4, 2) := by decide +kernel
theorem dX3_spells_31 : decode cX3_spells 31 = .ok (.iadd, 1) := by decide +kernel
theorem dX3_spells_32 : decode cX3_spells 32 = .ok (.iaload, 1) := by decide +kernel
theorem dX3_spells_33 : decode cX3_spells 33 = .ok (.aload_n 3, 1) := by decide +kernel
theorem dX3_spells_34 : decode cX3_spells 34 = .ok (.iload 4, 2) := by decide +kernel
theorem dX3_spells_36 : decode cX3_spells 36 = .ok (.invokevirtual 105, 3) := by decide +kernel
theorem dX3_spells_39 : decode cX3_spells 39 = .ok (.if_icmp .eq 5, 3) := by decide +kernel
theorem dX3_spells_42 : decode cX3_spells 42 = .ok (.iconst 0, 1) := by decide +kernel
theorem dX3_spells_43 : decode cX3_spells 43 = .ok (.ireturn, 1) := by decide +kernel
theorem dX3_spells_44 : decode cX3_spells 44 = .ok (.iinc 4 1, 3) := by decide +kernel
theorem dX3_spells_47 : decode cX3_spells 47 = .ok (.goto (-32), 3) := by decide +kernel
theorem dX3_spells_50 : decode cX3_spells 50 = .ok (.iconst 1, 1) := by decide +kernel
theorem dX3_spells_51 : decode cX3_spells 51 = .ok (.ireturn, 1) := by decide +kernel
theorem dX3_spelling_0 : decode cX3_spelling 0 = .ok (.iload_n 0, 1) := by decide +kernel
theorem dX3_spelling_1 : decode cX3_spelling 1 = .ok (.tableswitch 92 0 10 #[59, 62, 65, 68, 71, 74, 77, 80, 83, 86, 89], 59) := by decide +kernel
theorem dX3_spelling_60 : decode cX3_spelling 60 = .ok (.ldc 109, 2) := by decide +kernel
theorem dX3_spelling_62 : decode cX3_spelling 62 = .ok (.areturn, 1) := by decide +kernel
theorem dX3_spelling_63 : decode cX3_spelling 63 = .ok (.ldc 110, 2) := by decide +kernel
theorem dX3_spelling_65 : decode cX3_spelling 65 = .ok (.areturn, 1) := by decide +kernel
theorem dX3_spelling_66 : decode cX3_spelling 66 = .ok (.ldc 112, 2) := by decide +kernel
theorem dX3_spelling_68 : decode cX3_spelling 68 = .ok (.areturn, 1) := by decide +kernel
theorem dX3_spelling_69 : decode cX3_spelling 69 = .ok (.ldc 114, 2) := by decide +kernel
theorem dX3_spelling_71 : decode cX3_spelling 71 = .ok (.areturn, 1) := by decide +kernel
theorem dX3_spelling_72 : decode cX3_spelling 72 = .ok (.ldc 116, 2) := by decide +kernel
theorem dX3_spelling_74 : decode cX3_spelling 74 = .ok (.areturn, 1) := by decide +kernel
theorem dX3_spelling_75 : decode cX3_spelling 75 = .ok (.ldc 118, 2) := by decide +kernel
theorem dX3_spelling_77 : decode cX3_spelling 77 = .ok (.areturn, 1) := by decide +kernel
theorem dX3_spelling_78 : decode cX3_spelling 78 = .ok (.ldc 120, 2) := by decide +kernel
theorem dX3_spelling_80 : decode cX3_spelling 80 = .ok (.areturn, 1) := by decide +kernel
theorem dX3_spelling_81 : decode cX3_spelling 81 = .ok (.ldc 122, 2) := by decide +kernel
theorem dX3_spelling_83 : decode cX3_spelling 83 = .ok (.areturn, 1) := by decide +kernel
theorem dX3_spelling_84 : decode cX3_spelling 84 = .ok (.ldc 124, 2) := by decide +kernel
theorem dX3_spelling_86 : decode cX3_spelling 86 = .ok (.areturn, 1) := by decide +kernel
theorem dX3_spelling_87 : decode cX3_spelling 87 = .ok (.ldc 126, 2) := by decide +kernel
theorem dX3_spelling_89 : decode cX3_spelling 89 = .ok (.areturn, 1) := by decide +kernel
theorem dX3_spelling_90 : decode cX3_spelling 90 = .ok (.ldc 128, 2) := by decide +kernel
theorem dX3_spelling_92 : decode cX3_spelling 92 = .ok (.areturn, 1) := by decide +kernel
theorem dX3_spelling_93 : decode cX3_spelling 93 = .ok (.ldc 130, 2) := by decide +kernel
theorem dX3_spelling_95 : decode cX3_spelling 95 = .ok (.areturn, 1) := by decide +kernel
theorem dX3_runEnd_0 : decode cX3_runEnd 0 = .ok (.iload_n 1, 1) := by decide +kernel
theorem dX3_runEnd_1 : decode cX3_runEnd 1 = .ok (.istore 4, 2) := by decide +kernel
theorem dX3_runEnd_3 : decode cX3_runEnd 3 = .ok (.iload 4, 2) := by decide +kernel
theorem dX3_runEnd_5 : decode cX3_runEnd 5 = .ok (.aload_n 0, 1) := by decide +kernel
theorem dX3_runEnd_6 : decode cX3_runEnd 6 = .ok (.getfield 24, 3) := by decide +kernel
theorem dX3_runEnd_9 : decode cX3_runEnd 9 = .ok (.if_icmp .ge 31, 3) := by decide +kernel
theorem dX3_runEnd_12 : decode cX3_runEnd 12 = .ok (.aload_n 0, 1) := by decide +kernel
theorem dX3_runEnd_13 : decode cX3_runEnd 13 = .ok (.getfield 9, 3) := by decide +kernel
theorem dX3_runEnd_16 : decode cX3_runEnd 16 = .ok (.iload 4, 2) := by decide +kernel
theorem dX3_runEnd_18 : decode cX3_runEnd 18 = .ok (.iaload, 1) := by decide +kernel
theorem dX3_runEnd_19 : decode cX3_runEnd 19 = .ok (.iload_n 2, 1) := by decide +kernel
theorem dX3_runEnd_20 : decode cX3_runEnd 20 = .ok (.if_icmp .lt 20, 3) := by decide +kernel
theorem dX3_runEnd_23 : decode cX3_runEnd 23 = .ok (.aload_n 0, 1) := by decide +kernel
theorem dX3_runEnd_24 : decode cX3_runEnd 24 = .ok (.getfield 9, 3) := by decide +kernel
theorem dX3_runEnd_27 : decode cX3_runEnd 27 = .ok (.iload 4, 2) := by decide +kernel
theorem dX3_runEnd_29 : decode cX3_runEnd 29 = .ok (.iaload, 1) := by decide +kernel
theorem dX3_runEnd_30 : decode cX3_runEnd 30 = .ok (.iload_n 3, 1) := by decide +kernel
theorem dX3_runEnd_31 : decode cX3_runEnd 31 = .ok (.if_icmp .gt 9, 3) := by decide +kernel
theorem dX3_runEnd_34 : decode cX3_runEnd 34 = .ok (.iinc 4 1, 3) := by decide +kernel
theorem dX3_runEnd_37 : decode cX3_runEnd 37 = .ok (.goto (-34), 3) := by decide +kernel
theorem dX3_runEnd_40 : decode cX3_runEnd 40 = .ok (.iload 4, 2) := by decide +kernel
theorem dX3_runEnd_42 : decode cX3_runEnd 42 = .ok (.ireturn, 1) := by decide +kernel
theorem dX3_valueOf_0 : decode cX3_valueOf 0 = .ok (.iconst 0, 1) := by decide +kernel
theorem dX3_valueOf_1 : decode cX3_valueOf 1 = .ok (.istore_n 3, 1) := by decide +kernel
theorem dX3_valueOf_2 : decode cX3_valueOf 2 = .ok (.iload_n 1, 1) := by decide +kernel
theorem dX3_valueOf_3 : decode cX3_valueOf 3 = .ok (.istore 4, 2) := by decide +kernel
theorem dX3_valueOf_5 : decode cX3_valueOf 5 = .ok (.iload 4, 2) := by decide +kernel
theorem dX3_valueOf_7 : decode cX3_valueOf 7 = .ok (.iload_n 2, 1) := by decide +kernel
theorem dX3_valueOf_8 : decode cX3_valueOf 8 = .ok (.if_icmp .ge 25, 3) := by decide +kernel
theorem dX3_valueOf_11 : decode cX3_valueOf 11 = .ok (.bipush 10, 2) := by decide +kernel
theorem dX3_valueOf_13 : decode cX3_valueOf 13 = .ok (.iload_n 3, 1) := by decide +kernel
theorem dX3_valueOf_14 : decode cX3_valueOf 14 = .ok (.imul, 1) := by decide +kernel
theorem dX3_valueOf_15 : decode cX3_valueOf 15 = .ok (.aload_n 0, 1) := by decide +kernel
theorem dX3_valueOf_16 : decode cX3_valueOf 16 = .ok (.getfield 9, 3) := by decide +kernel
theorem dX3_valueOf_19 : decode cX3_valueOf 19 = .ok (.iload 4, 2) := by decide +kernel
theorem dX3_valueOf_21 : decode cX3_valueOf 21 = .ok (.iaload, 1) := by decide +kernel
theorem dX3_valueOf_22 : decode cX3_valueOf 22 = .ok (.iadd, 1) := by decide +kernel
theorem dX3_valueOf_23 : decode cX3_valueOf 23 = .ok (.bipush 48, 2) := by decide +kernel
theorem dX3_valueOf_25 : decode cX3_valueOf 25 = .ok (.isub, 1) := by decide +kernel
theorem dX3_valueOf_26 : decode cX3_valueOf 26 = .ok (.istore_n 3, 1) := by decide +kernel
theorem dX3_valueOf_27 : decode cX3_valueOf 27 = .ok (.iinc 4 1, 3) := by decide +kernel
theorem dX3_valueOf_30 : decode cX3_valueOf 30 = .ok (.goto (-25), 3) := by decide +kernel
theorem dX3_valueOf_33 : decode cX3_valueOf 33 = .ok (.iload_n 3, 1) := by decide +kernel
theorem dX3_valueOf_34 : decode cX3_valueOf 34 = .ok (.ireturn, 1) := by decide +kernel
theorem dX3_isLetter_0 : decode cX3_isLetter 0 = .ok (.iload_n 0, 1) := by decide +kernel
theorem dX3_isLetter_1 : decode cX3_isLetter 1 = .ok (.bipush 97, 2) := by decide +kernel
theorem dX3_isLetter_3 : decode cX3_isLetter 3 = .ok (.if_icmp .lt 13, 3) := by decide +kernel
theorem dX3_isLetter_6 : decode cX3_isLetter 6 = .ok (.iload_n 0, 1) := by decide +kernel
theorem dX3_isLetter_7 : decode cX3_isLetter 7 = .ok (.bipush 122, 2) := by decide +kernel
theorem dX3_isLetter_9 : decode cX3_isLetter 9 = .ok (.if_icmp .gt 7, 3) := by decide +kernel
theorem dX3_isLetter_12 : decode cX3_isLetter 12 = .ok (.iconst 1, 1) := by decide +kernel
theorem dX3_isLetter_13 : decode cX3_isLetter 13 = .ok (.goto 4, 3) := by decide +kernel
theorem dX3_isLetter_16 : decode cX3_isLetter 16 = .ok (.iconst 0, 1) := by decide +kernel
theorem dX3_isLetter_17 : decode cX3_isLetter 17 = .ok (.ireturn, 1) := by decide +kernel
theorem dX3_isDigit_0 : decode cX3_isDigit 0 = .ok (.iload_n 0, 1) := by decide +kernel
theorem dX3_isDigit_1 : decode cX3_isDigit 1 = .ok (.bipush 48, 2) := by decide +kernel
theorem dX3_isDigit_3 : decode cX3_isDigit 3 = .ok (.if_icmp .lt 13, 3) := by decide +kernel
theorem dX3_isDigit_6 : decode cX3_isDigit 6 = .ok (.iload_n 0, 1) := by decide +kernel
theorem dX3_isDigit_7 : decode cX3_isDigit 7 = .ok (.bipush 57, 2) := by decide +kernel
theorem dX3_isDigit_9 : decode cX3_isDigit 9 = .ok (.if_icmp .gt 7, 3) := by decide +kernel
theorem dX3_isDigit_12 : decode cX3_isDigit 12 = .ok (.iconst 1, 1) := by decide +kernel
theorem dX3_isDigit_13 : decode cX3_isDigit 13 = .ok (.goto 4, 3) := by decide +kernel
theorem dX3_isDigit_16 : decode cX3_isDigit 16 = .ok (.iconst 0, 1) := by decide +kernel
theorem dX3_isDigit_17 : decode cX3_isDigit 17 = .ok (.ireturn, 1) := by decide +kernel
theorem dX3_isSign_0 : decode cX3_isSign 0 = .ok (.iload_n 0, 1) := by decide +kernel
theorem dX3_isSign_1 : decode cX3_isSign 1 = .ok (.tableswitch 105 40 61 #[103, 103, 103, 103, 105, 103, 105, 105, 105, 105, 105, 105, 105, 105, 105, 105, 105, 105, 105, 103, 103, 103], 103) := by decide +kernel
theorem dX3_isSign_104 : decode cX3_isSign 104 = .ok (.iconst 1, 1) := by decide +kernel
theorem dX3_isSign_105 : decode cX3_isSign 105 = .ok (.ireturn, 1) := by decide +kernel
theorem dX3_isSign_106 : decode cX3_isSign 106 = .ok (.iconst 0, 1) := by decide +kernel
theorem dX3_isSign_107 : decode cX3_isSign 107 = .ok (.ireturn, 1) := by decide +kernel
theorem dX3_go_0 : decode cX3_go 0 = .ok (.aload_n 0, 1) := by decide +kernel
theorem dX3_go_1 : decode cX3_go 1 = .ok (.getfield 31, 3) := by decide +kernel
theorem dX3_go_4 : decode cX3_go 4 = .ok (.aload_n 0, 1) := by decide +kernel
theorem dX3_go_5 : decode cX3_go 5 = .ok (.getfield 53, 3) := by decide +kernel
theorem dX3_go_8 : decode cX3_go 8 = .ok (.if_icmp .ge 13, 3) := by decide +kernel
theorem dX3_go_11 : decode cX3_go 11 = .ok (.aload_n 0, 1) := by decide +kernel
theorem dX3_go_12 : decode cX3_go 12 = .ok (.dup, 1) := by decide +kernel
theorem dX3_go_13 : decode cX3_go 13 = .ok (.getfield 31, 3) := by decide +kernel
theorem dX3_go_16 : decode cX3_go 16 = .ok (.iconst 1, 1) := by decide +kernel
theorem dX3_go_17 : decode cX3_go 17 = .ok (.iadd, 1) := by decide +kernel
theorem dX3_go_18 : decode cX3_go 18 = .ok (.putfield 31, 3) := by decide +kernel
theorem dX3_go_21 : decode cX3_go 21 = .ok (.return_, 1) := by decide +kernel
theorem dX3_fail_0 : decode cX3_fail 0 = .ok (.aload_n 0, 1) := by decide +kernel
theorem dX3_fail_1 : decode cX3_fail 1 = .ok (.getfield 34, 3) := by decide +kernel
theorem dX3_fail_4 : decode cX3_fail 4 = .ok (.iconst (-1), 1) := by decide +kernel
theorem dX3_fail_5 : decode cX3_fail 5 = .ok (.if_icmp .ne 16, 3) := by decide +kernel
theorem dX3_fail_8 : decode cX3_fail 8 = .ok (.aload_n 0, 1) := by decide +kernel
theorem dX3_fail_9 : decode cX3_fail 9 = .ok (.aload_n 0, 1) := by decide +kernel
theorem dX3_fail_10 : decode cX3_fail 10 = .ok (.getfield 21, 3) := by decide +kernel
theorem dX3_fail_13 : decode cX3_fail 13 = .ok (.aload_n 0, 1) := by decide +kernel
theorem dX3_fail_14 : decode cX3_fail 14 = .ok (.getfield 31, 3) := by decide +kernel
theorem dX3_fail_17 : decode cX3_fail 17 = .ok (.iaload, 1) := by decide +kernel
theorem dX3_fail_18 : decode cX3_fail 18 = .ok (.putfield 34, 3) := by decide +kernel
theorem dX3_fail_21 : decode cX3_fail 21 = .ok (.aload_n 0, 1) := by decide +kernel
theorem dX3_fail_22 : decode cX3_fail 22 = .ok (.aload_n 0, 1) := by decide +kernel
theorem dX3_fail_23 : decode cX3_fail 23 = .ok (.getfield 53, 3) := by decide +kernel
theorem dX3_fail_26 : decode cX3_fail 26 = .ok (.putfield 31, 3) := by decide +kernel
theorem dX3_fail_29 : decode cX3_fail 29 = .ok (.return_, 1) := by decide +kernel
theorem dX3_expect_0 : decode cX3_expect 0 = .ok (.aload_n 0, 1) := by decide +kernel
theorem dX3_expect_1 : decode cX3_expect 1 = .ok (.getfield 15, 3) := by decide +kernel
theorem dX3_expect_4 : decode cX3_expect 4 = .ok (.aload_n 0, 1) := by decide +kernel
theorem dX3_expect_5 : decode cX3_expect 5 = .ok (.getfield 31, 3) := by decide +kernel
theorem dX3_expect_8 : decode cX3_expect 8 = .ok (.iaload, 1) := by decide +kernel
theorem dX3_expect_9 : decode cX3_expect 9 = .ok (.iload_n 1, 1) := by decide +kernel
theorem dX3_expect_10 : decode cX3_expect 10 = .ok (.if_icmp .ne 10, 3) := by decide +kernel
theorem dX3_expect_13 : decode cX3_expect 13 = .ok (.aload_n 0, 1) := by decide +kernel
theorem dX3_expect_14 : decode cX3_expect 14 = .ok (.invokevirtual 132, 3) := by decide +kernel
theorem dX3_expect_17 : decode cX3_expect 17 = .ok (.goto 7, 3) := by decide +kernel
theorem dX3_expect_20 : decode cX3_expect 20 = .ok (.aload_n 0, 1) := by decide +kernel
theorem dX3_expect_21 : decode cX3_expect 21 = .ok (.invokevirtual 135, 3) := by decide +kernel
theorem dX3_expect_24 : decode cX3_expect 24 = .ok (.return_, 1) := by decide +kernel
theorem dX3_either_0 : decode cX3_either 0 = .ok (.aload_n 0, 1) := by decide +kernel
theorem dX3_either_1 : decode cX3_either 1 = .ok (.aload_n 1, 1) := by decide +kernel
theorem dX3_either_2 : decode cX3_either 2 = .ok (.iload_n 2, 1) := by decide +kernel
theorem dX3_either_3 : decode cX3_either 3 = .ok (.invokevirtual 138, 3) := by decide +kernel
theorem dX3_either_6 : decode cX3_either 6 = .ok (.iconst 0, 1) := by decide +kernel
theorem dX3_either_7 : decode cX3_either 7 = .ok (.istore_n 3, 1) := by decide +kernel
theorem dX3_either_8 : decode cX3_either 8 = .ok (.iload_n 3, 1) := by decide +kernel
theorem dX3_either_9 : decode cX3_either 9 = .ok (.sipush 160, 3) := by decide +kernel
theorem dX3_either_12 : decode cX3_either 12 = .ok (.if_icmp .ge 39, 3) := by decide +kernel
theorem dX3_either_15 : decode cX3_either 15 = .ok (.aload_n 0, 1) := by decide +kernel
theorem dX3_either_16 : decode cX3_either 16 = .ok (.getfield 15, 3) := by decide +kernel
theorem dX3_either_19 : decode cX3_either 19 = .ok (.aload_n 0, 1) := by decide +kernel
theorem dX3_either_20 : decode cX3_either 20 = .ok (.getfield 31, 3) := by decide +kernel
theorem dX3_either_23 : decode cX3_either 23 = .ok (.iaload, 1) := by decide +kernel
theorem dX3_either_24 : decode cX3_either 24 = .ok (.bipush 7, 2) := by decide +kernel
theorem dX3_either_26 : decode cX3_either 26 = .ok (.if_icmp .ne 25, 3) := by decide +kernel
theorem dX3_either_29 : decode cX3_either 29 = .ok (.aload_n 0, 1) := by decide +kernel
theorem dX3_either_30 : decode cX3_either 30 = .ok (.invokevirtual 132, 3) := by decide +kernel
theorem dX3_either_33 : decode cX3_either 33 = .ok (.aload_n 0, 1) := by decide +kernel
theorem dX3_either_34 : decode cX3_either 34 = .ok (.aload_n 1, 1) := by decide +kernel
theorem dX3_either_35 : decode cX3_either 35 = .ok (.iload_n 2, 1) := by decide +kernel
theorem dX3_either_36 : decode cX3_either 36 = .ok (.invokevirtual 138, 3) := by decide +kernel
theorem dX3_either_39 : decode cX3_either 39 = .ok (.aload_n 1, 1) := by decide +kernel
theorem dX3_either_40 : decode cX3_either 40 = .ok (.bipush (-13), 2) := by decide +kernel
theorem dX3_either_42 : decode cX3_either 42 = .ok (.invokevirtual 141, 3) := by decide +kernel
theorem dX3_either_45 : decode cX3_either 45 = .ok (.iinc 3 1, 3) := by decide +kernel
theorem dX3_either_48 : decode cX3_either 48 = .ok (.goto (-40), 3) := by decide +kernel
theorem dX3_either_51 : decode cX3_either 51 = .ok (.return_, 1) := by decide +kernel
theorem dX3_both_0 : decode cX3_both 0 = .ok (.aload_n 0, 1) := by decide +kernel
theorem dX3_both_1 : decode cX3_both 1 = .ok (.aload_n 1, 1) := by decide +kernel
theorem dX3_both_2 : decode cX3_both 2 = .ok (.iload_n 2, 1) := by decide +kernel
theorem dX3_both_3 : decode cX3_both 3 = .ok (.invokevirtual 144, 3) := by decide +kernel
theorem dX3_both_6 : decode cX3_both 6 = .ok (.iconst 0, 1) := by decide +kernel
theorem dX3_both_7 : decode cX3_both 7 = .ok (.istore_n 3, 1) := by decide +kernel
theorem dX3_both_8 : decode cX3_both 8 = .ok (.iload_n 3, 1) := by decide +kernel
theorem dX3_both_9 : decode cX3_both 9 = .ok (.sipush 160, 3) := by decide +kernel
theorem dX3_both_12 : decode cX3_both 12 = .ok (.if_icmp .ge 39, 3) := by decide +kernel
theorem dX3_both_15 : decode cX3_both 15 = .ok (.aload_n 0, 1) := by decide +kernel
theorem dX3_both_16 : decode cX3_both 16 = .ok (.getfield 15, 3) := by decide +kernel
theorem dX3_both_19 : decode cX3_both 19 = .ok (.aload_n 0, 1) := by decide +kernel
theorem dX3_both_20 : decode cX3_both 20 = .ok (.getfield 31, 3) := by decide +kernel
theorem dX3_both_23 : decode cX3_both 23 = .ok (.iaload, 1) := by decide +kernel
theorem dX3_both_24 : decode cX3_both 24 = .ok (.bipush 8, 2) := by decide +kernel
theorem dX3_both_26 : decode cX3_both 26 = .ok (.if_icmp .ne 25, 3) := by decide +kernel
theorem dX3_both_29 : decode cX3_both 29 = .ok (.aload_n 0, 1) := by decide +kernel
theorem dX3_both_30 : decode cX3_both 30 = .ok (.invokevirtual 132, 3) := by decide +kernel
theorem dX3_both_33 : decode cX3_both 33 = .ok (.aload_n 0, 1) := by decide +kernel
theorem dX3_both_34 : decode cX3_both 34 = .ok (.aload_n 1, 1) := by decide +kernel
theorem dX3_both_35 : decode cX3_both 35 = .ok (.iload_n 2, 1) := by decide +kernel
theorem dX3_both_36 : decode cX3_both 36 = .ok (.invokevirtual 144, 3) := by decide +kernel
theorem dX3_both_39 : decode cX3_both 39 = .ok (.aload_n 1, 1) := by decide +kernel
theorem dX3_both_40 : decode cX3_both 40 = .ok (.bipush (-14), 2) := by decide +kernel
theorem dX3_both_42 : decode cX3_both 42 = .ok (.invokevirtual 141, 3) := by decide +kernel
theorem dX3_both_45 : decode cX3_both 45 = .ok (.iinc 3 1, 3) := by decide +kernel
theorem dX3_both_48 : decode cX3_both 48 = .ok (.goto (-40), 3) := by decide +kernel
theorem dX3_both_51 : decode cX3_both 51 = .ok (.return_, 1) := by decide +kernel
theorem dX3_denial_0 : decode cX3_denial 0 = .ok (.aload_n 0, 1) := by decide +kernel
theorem dX3_denial_1 : decode cX3_denial 1 = .ok (.getfield 15, 3) := by decide +kernel
theorem dX3_denial_4 : decode cX3_denial 4 = .ok (.aload_n 0, 1) := by decide +kernel
theorem dX3_denial_5 : decode cX3_denial 5 = .ok (.getfield 31, 3) := by decide +kernel
theorem dX3_denial_8 : decode cX3_denial 8 = .ok (.iaload, 1) := by decide +kernel
theorem dX3_denial_9 : decode cX3_denial 9 = .ok (.bipush 9, 2) := by decide +kernel
theorem dX3_denial_11 : decode cX3_denial 11 = .ok (.if_icmp .eq 12, 3) := by decide +kernel
theorem dX3_denial_14 : decode cX3_denial 14 = .ok (.aload_n 0, 1) := by decide +kernel
theorem dX3_denial_15 : decode cX3_denial 15 = .ok (.aload_n 1, 1) := by decide +kernel
theorem dX3_denial_16 : decode cX3_denial 16 = .ok (.iload_n 2, 1) := by decide +kernel
theorem dX3_denial_17 : decode cX3_denial 17 = .ok (.invokevirtual 147, 3) := by decide +kernel
theorem dX3_denial_20 : decode cX3_denial 20 = .ok (.goto 33, 3) := by decide +kernel
theorem dX3_denial_23 : decode cX3_denial 23 = .ok (.iload_n 2, 1) := by decide +kernel
theorem dX3_denial_24 : decode cX3_denial 24 = .ok (.iconst 5, 1) := by decide +kernel
theorem dX3_denial_25 : decode cX3_denial 25 = .ok (.if_icmp .lt 10, 3) := by decide +kernel
theorem dX3_denial_28 : decode cX3_denial 28 = .ok (.aload_n 0, 1) := by decide +kernel
theorem dX3_denial_29 : decode cX3_denial 29 = .ok (.invokevirtual 135, 3) := by decide +kernel
theorem dX3_denial_32 : decode cX3_denial 32 = .ok (.goto 21, 3) := by decide +kernel
theorem dX3_denial_35 : decode cX3_denial 35 = .ok (.aload_n 0, 1) := by decide +kernel
theorem dX3_denial_36 : decode cX3_denial 36 = .ok (.invokevirtual 132, 3) := by decide +kernel
theorem dX3_denial_39 : decode cX3_denial 39 = .ok (.aload_n 0, 1) := by decide +kernel
theorem dX3_denial_40 : decode cX3_denial 40 = .ok (.aload_n 1, 1) := by decide +kernel
theorem dX3_denial_41 : decode cX3_denial 41 = .ok (.iload_n 2, 1) := by decide +kernel
theorem dX3_denial_42 : decode cX3_denial 42 = .ok (.iconst 1, 1) := by decide +kernel
theorem dX3_denial_43 : decode cX3_denial 43 = .ok (.iadd, 1) := by decide +kernel
theorem dX3_denial_44 : decode cX3_denial 44 = .ok (.invokevirtual 144, 3) := by decide +kernel
theorem dX3_denial_47 : decode cX3_denial 47 = .ok (.aload_n 1, 1) := by decide +kernel
theorem dX3_denial_48 : decode cX3_denial 48 = .ok (.bipush (-12), 2) := by decide +kernel
theorem dX3_denial_50 : decode cX3_denial 50 = .ok (.invokevirtual 141, 3) := by decide +kernel
theorem dX3_denial_53 : decode cX3_denial 53 = .ok (.return_, 1) := by decide +kernel
theorem dX3_compared_0 : decode cX3_compared 0 = .ok (.aload_n 0, 1) := by decide +kernel
theorem dX3_compared_1 : decode cX3_compared 1 = .ok (.aload_n 1, 1) := by decide +kernel
theorem dX3_compared_2 : decode cX3_compared 2 = .ok (.iload_n 2, 1) := by decide +kernel
theorem dX3_compared_3 : decode cX3_compared 3 = .ok (.invokevirtual 150, 3) := by decide +kernel
theorem dX3_compared_6 : decode cX3_compared 6 = .ok (.aload_n 0, 1) := by decide +kernel
theorem dX3_compared_7 : decode cX3_compared 7 = .ok (.getfield 15, 3) := by decide +kernel
theorem dX3_compared_10 : decode cX3_compared 10 = .ok (.aload_n 0, 1) := by decide +kernel
theorem dX3_compared_11 : decode cX3_compared 11 = .ok (.getfield 31, 3) := by decide +kernel
theorem dX3_compared_14 : decode cX3_compared 14 = .ok (.iaload, 1) := by decide +kernel
theorem dX3_compared_15 : decode cX3_compared 15 = .ok (.istore_n 3, 1) := by decide +kernel
theorem dX3_compared_16 : decode cX3_compared 16 = .ok (.iload_n 3, 1) := by decide +kernel
theorem dX3_compared_17 : decode cX3_compared 17 = .ok (.bipush 60, 2) := by decide +kernel
theorem dX3_compared_19 : decode cX3_compared 19 = .ok (.if_icmp .eq 9, 3) := by decide +kernel
theorem dX3_compared_22 : decode cX3_compared 22 = .ok (.iload_n 3, 1) := by decide +kernel
theorem dX3_compared_23 : decode cX3_compared 23 = .ok (.bipush 61, 2) := by decide +kernel
theorem dX3_compared_25 : decode cX3_compared 25 = .ok (.if_icmp .ne 30, 3) := by decide +kernel
theorem dX3_compared_28 : decode cX3_compared 28 = .ok (.aload_n 0, 1) := by decide +kernel
theorem dX3_compared_29 : decode cX3_compared 29 = .ok (.invokevirtual 132, 3) := by decide +kernel
theorem dX3_compared_32 : decode cX3_compared 32 = .ok (.aload_n 0, 1) := by decide +kernel
theorem dX3_compared_33 : decode cX3_compared 33 = .ok (.aload_n 1, 1) := by decide +kernel
theorem dX3_compared_34 : decode cX3_compared 34 = .ok (.iload_n 2, 1) := by decide +kernel
theorem dX3_compared_35 : decode cX3_compared 35 = .ok (.invokevirtual 150, 3) := by decide +kernel
theorem dX3_compared_38 : decode cX3_compared 38 = .ok (.aload_n 1, 1) := by decide +kernel
theorem dX3_compared_39 : decode cX3_compared 39 = .ok (.iload_n 3, 1) := by decide +kernel
theorem dX3_compared_40 : decode cX3_compared 40 = .ok (.bipush 60, 2) := by decide +kernel
theorem dX3_compared_42 : decode cX3_compared 42 = .ok (.if_icmp .ne 8, 3) := by decide +kernel
theorem dX3_compared_45 : decode cX3_compared 45 = .ok (.bipush (-15), 2) := by decide +kernel
theorem dX3_compared_47 : decode cX3_compared 47 = .ok (.goto 5, 3) := by decide +kernel
theorem dX3_compared_50 : decode cX3_compared 50 = .ok (.bipush (-16), 2) := by decide +kernel
theorem dX3_compared_52 : decode cX3_compared 52 = .ok (.invokevirtual 141, 3) := by decide +kernel
theorem dX3_compared_55 : decode cX3_compared 55 = .ok (.return_, 1) := by decide +kernel
theorem dX3_sum_0 : decode cX3_sum 0 = .ok (.aload_n 0, 1) := by decide +kernel
theorem dX3_sum_1 : decode cX3_sum 1 = .ok (.aload_n 1, 1) := by decide +kernel
theorem dX3_sum_2 : decode cX3_sum 2 = .ok (.iload_n 2, 1) := by decide +kernel
theorem dX3_sum_3 : decode cX3_sum 3 = .ok (.invokevirtual 153, 3) := by decide +kernel
theorem dX3_sum_6 : decode cX3_sum 6 = .ok (.iconst 0, 1) := by decide +kernel
theorem dX3_sum_7 : decode cX3_sum 7 = .ok (.istore_n 3, 1) := by decide +kernel
theorem dX3_sum_8 : decode cX3_sum 8 = .ok (.iload_n 3, 1) := by decide +kernel
theorem dX3_sum_9 : decode cX3_sum 9 = .ok (.sipush 160, 3) := by decide +kernel
theorem dX3_sum_12 : decode cX3_sum 12 = .ok (.if_icmp .ge 76, 3) := by decide +kernel
theorem dX3_sum_15 : decode cX3_sum 15 = .ok (.aload_n 0, 1) := by decide +kernel
theorem dX3_sum_16 : decode cX3_sum 16 = .ok (.getfield 15, 3) := by decide +kernel
theorem dX3_sum_19 : decode cX3_sum 19 = .ok (.aload_n 0, 1) := by decide +kernel
theorem dX3_sum_20 : decode cX3_sum 20 = .ok (.getfield 31, 3) := by decide +kernel
theorem dX3_sum_23 : decode cX3_sum 23 = .ok (.iaload, 1) := by decide +kernel
theorem dX3_sum_24 : decode cX3_sum 24 = .ok (.bipush 43, 2) := by decide +kernel
theorem dX3_sum_26 : decode cX3_sum 26 = .ok (.if_icmp .eq 17, 3) := by decide +kernel
theorem dX3_sum_29 : decode cX3_sum 29 = .ok (.aload_n 0, 1) := by decide +kernel
theorem dX3_sum_30 : decode cX3_sum 30 = .ok (.getfield 15, 3) := by decide +kernel
theorem dX3_sum_33 : decode cX3_sum 33 = .ok (.aload_n 0, 1) := by decide +kernel
theorem dX3_sum_34 : decode cX3_sum 34 = .ok (.getfield 31, 3) := by decide +kernel
theorem dX3_sum_37 : decode cX3_sum 37 = .ok (.iaload, 1) := by decide +kernel
theorem dX3_sum_38 : decode cX3_sum 38 = .ok (.bipush 45, 2) := by decide +kernel
theorem dX3_sum_40 : decode cX3_sum 40 = .ok (.if_icmp .ne 48, 3) := by decide +kernel
theorem dX3_sum_43 : decode cX3_sum 43 = .ok (.aload_n 0, 1) := by decide +kernel
theorem dX3_sum_44 : decode cX3_sum 44 = .ok (.getfield 15, 3) := by decide +kernel
theorem dX3_sum_47 : decode cX3_sum 47 = .ok (.aload_n 0, 1) := by decide +kernel
theorem dX3_sum_48 : decode cX3_sum 48 = .ok (.getfield 31, 3) := by decide +kernel
theorem dX3_sum_51 : decode cX3_sum 51 = .ok (.iaload, 1) := by decide +kernel
theorem dX3_sum_52 : decode cX3_sum 52 = .ok (.istore 4, 2) := by decide +kernel
theorem dX3_sum_54 : decode cX3_sum 54 = .ok (.aload_n 0, 1) := by decide +kernel
theorem dX3_sum_55 : decode cX3_sum 55 = .ok (.invokevirtual 132, 3) := by decide +kernel
theorem dX3_sum_58 : decode cX3_sum 58 = .ok (.aload_n 0, 1) := by decide +kernel
theorem dX3_sum_59 : decode cX3_sum 59 = .ok (.aload_n 1, 1) := by decide +kernel
theorem dX3_sum_60 : decode cX3_sum 60 = .ok (.iload_n 2, 1) := by decide +kernel
theorem dX3_sum_61 : decode cX3_sum 61 = .ok (.invokevirtual 153, 3) := by decide +kernel
theorem dX3_sum_64 : decode cX3_sum 64 = .ok (.aload_n 1, 1) := by decide +kernel
theorem dX3_sum_65 : decode cX3_sum 65 = .ok (.iload 4, 2) := by decide +kernel
theorem dX3_sum_67 : decode cX3_sum 67 = .ok (.bipush 43, 2) := by decide +kernel
theorem dX3_sum_69 : decode cX3_sum 69 = .ok (.if_icmp .ne 8, 3) := by decide +kernel
theorem dX3_sum_72 : decode cX3_sum 72 = .ok (.bipush (-17), 2) := by decide +kernel
theorem dX3_sum_74 : decode cX3_sum 74 = .ok (.goto 5, 3) := by decide +kernel
theorem dX3_sum_77 : decode cX3_sum 77 = .ok (.bipush (-18), 2) := by decide +kernel
theorem dX3_sum_79 : decode cX3_sum 79 = .ok (.invokevirtual 141, 3) := by decide +kernel
theorem dX3_sum_82 : decode cX3_sum 82 = .ok (.iinc 3 1, 3) := by decide +kernel
theorem dX3_sum_85 : decode cX3_sum 85 = .ok (.goto (-77), 3) := by decide +kernel
theorem dX3_sum_88 : decode cX3_sum 88 = .ok (.return_, 1) := by decide +kernel
theorem dX3_term_0 : decode cX3_term 0 = .ok (.aload_n 0, 1) := by decide +kernel
theorem dX3_term_1 : decode cX3_term 1 = .ok (.aload_n 1, 1) := by decide +kernel
theorem dX3_term_2 : decode cX3_term 2 = .ok (.iload_n 2, 1) := by decide +kernel
theorem dX3_term_3 : decode cX3_term 3 = .ok (.invokevirtual 156, 3) := by decide +kernel
theorem dX3_term_6 : decode cX3_term 6 = .ok (.iconst 0, 1) := by decide +kernel
theorem dX3_term_7 : decode cX3_term 7 = .ok (.istore_n 3, 1) := by decide +kernel
theorem dX3_term_8 : decode cX3_term 8 = .ok (.iload_n 3, 1) := by decide +kernel
theorem dX3_term_9 : decode cX3_term 9 = .ok (.sipush 160, 3) := by decide +kernel
theorem dX3_term_12 : decode cX3_term 12 = .ok (.if_icmp .ge 39, 3) := by decide +kernel
theorem dX3_term_15 : decode cX3_term 15 = .ok (.aload_n 0, 1) := by decide +kernel
theorem dX3_term_16 : decode cX3_term 16 = .ok (.getfield 15, 3) := by decide +kernel
theorem dX3_term_19 : decode cX3_term 19 = .ok (.aload_n 0, 1) := by decide +kernel
theorem dX3_term_20 : decode cX3_term 20 = .ok (.getfield 31, 3) := by decide +kernel
theorem dX3_term_23 : decode cX3_term 23 = .ok (.iaload, 1) := by decide +kernel
theorem dX3_term_24 : decode cX3_term 24 = .ok (.bipush 42, 2) := by decide +kernel
theorem dX3_term_26 : decode cX3_term 26 = .ok (.if_icmp .ne 25, 3) := by decide +kernel
theorem dX3_term_29 : decode cX3_term 29 = .ok (.aload_n 0, 1) := by decide +kernel
theorem dX3_term_30 : decode cX3_term 30 = .ok (.invokevirtual 132, 3) := by decide +kernel
theorem dX3_term_33 : decode cX3_term 33 = .ok (.aload_n 0, 1) := by decide +kernel
theorem dX3_term_34 : decode cX3_term 34 = .ok (.aload_n 1, 1) := by decide +kernel
theorem dX3_term_35 : decode cX3_term 35 = .ok (.iload_n 2, 1) := by decide +kernel
theorem dX3_term_36 : decode cX3_term 36 = .ok (.invokevirtual 156, 3) := by decide +kernel
theorem dX3_term_39 : decode cX3_term 39 = .ok (.aload_n 1, 1) := by decide +kernel
theorem dX3_term_40 : decode cX3_term 40 = .ok (.bipush (-19), 2) := by decide +kernel
theorem dX3_term_42 : decode cX3_term 42 = .ok (.invokevirtual 141, 3) := by decide +kernel
theorem dX3_term_45 : decode cX3_term 45 = .ok (.iinc 3 1, 3) := by decide +kernel
theorem dX3_term_48 : decode cX3_term 48 = .ok (.goto (-40), 3) := by decide +kernel
theorem dX3_term_51 : decode cX3_term 51 = .ok (.return_, 1) := by decide +kernel
theorem dX3_one_0 : decode cX3_one 0 = .ok (.aload_n 0, 1) := by decide +kernel
theorem dX3_one_1 : decode cX3_one 1 = .ok (.getfield 15, 3) := by decide +kernel
theorem dX3_one_4 : decode cX3_one 4 = .ok (.aload_n 0, 1) := by decide +kernel
theorem dX3_one_5 : decode cX3_one 5 = .ok (.getfield 31, 3) := by decide +kernel
theorem dX3_one_8 : decode cX3_one 8 = .ok (.iaload, 1) := by decide +kernel
theorem dX3_one_9 : decode cX3_one 9 = .ok (.istore_n 3, 1) := by decide +kernel
theorem dX3_one_10 : decode cX3_one 10 = .ok (.aload_n 0, 1) := by decide +kernel
theorem dX3_one_11 : decode cX3_one 11 = .ok (.getfield 18, 3) := by decide +kernel
theorem dX3_one_14 : decode cX3_one 14 = .ok (.aload_n 0, 1) := by decide +kernel
theorem dX3_one_15 : decode cX3_one 15 = .ok (.getfield 31, 3) := by decide +kernel
theorem dX3_one_18 : decode cX3_one 18 = .ok (.iaload, 1) := by decide +kernel
theorem dX3_one_19 : decode cX3_one 19 = .ok (.istore 4, 2) := by decide +kernel
theorem dX3_one_21 : decode cX3_one 21 = .ok (.iload_n 3, 1) := by decide +kernel
theorem dX3_one_22 : decode cX3_one 22 = .ok (.iconst 2, 1) := by decide +kernel
theorem dX3_one_23 : decode cX3_one 23 = .ok (.if_icmp .ne 16, 3) := by decide +kernel
theorem dX3_one_26 : decode cX3_one 26 = .ok (.aload_n 0, 1) := by decide +kernel
theorem dX3_one_27 : decode cX3_one 27 = .ok (.invokevirtual 132, 3) := by decide +kernel
theorem dX3_one_30 : decode cX3_one 30 = .ok (.aload_n 1, 1) := by decide +kernel
theorem dX3_one_31 : decode cX3_one 31 = .ok (.iload 4, 2) := by decide +kernel
theorem dX3_one_33 : decode cX3_one 33 = .ok (.invokevirtual 141, 3) := by decide +kernel
theorem dX3_one_36 : decode cX3_one 36 = .ok (.goto 92, 3) := by decide +kernel
theorem dX3_one_39 : decode cX3_one 39 = .ok (.iload_n 3, 1) := by decide +kernel
theorem dX3_one_40 : decode cX3_one 40 = .ok (.iconst 3, 1) := by decide +kernel
theorem dX3_one_41 : decode cX3_one 41 = .ok (.if_icmp .ne 19, 3) := by decide +kernel
theorem dX3_one_44 : decode cX3_one 44 = .ok (.aload_n 0, 1) := by decide +kernel
theorem dX3_one_45 : decode cX3_one 45 = .ok (.invokevirtual 132, 3) := by decide +kernel
theorem dX3_one_48 : decode cX3_one 48 = .ok (.aload_n 1, 1) := by decide +kernel
theorem dX3_one_49 : decode cX3_one 49 = .ok (.iload 4, 2) := by decide +kernel
theorem dX3_one_51 : decode cX3_one 51 = .ok (.invokestatic 159, 3) := by decide +kernel
theorem dX3_one_54 : decode cX3_one 54 = .ok (.invokevirtual 141, 3) := by decide +kernel
theorem dX3_one_57 : decode cX3_one 57 = .ok (.goto 71, 3) := by decide +kernel
theorem dX3_one_60 : decode cX3_one 60 = .ok (.iload_n 3, 1) := by decide +kernel
theorem dX3_one_61 : decode cX3_one 61 = .ok (.bipush 45, 2) := by decide +kernel
theorem dX3_one_63 : decode cX3_one 63 = .ok (.if_icmp .ne 29, 3) := by decide +kernel
theorem dX3_one_66 : decode cX3_one 66 = .ok (.iload_n 2, 1) := by decide +kernel
theorem dX3_one_67 : decode cX3_one 67 = .ok (.iconst 5, 1) := by decide +kernel
theorem dX3_one_68 : decode cX3_one 68 = .ok (.if_icmp .ge 24, 3) := by decide +kernel
theorem dX3_one_71 : decode cX3_one 71 = .ok (.aload_n 0, 1) := by decide +kernel
theorem dX3_one_72 : decode cX3_one 72 = .ok (.invokevirtual 132, 3) := by decide +kernel
theorem dX3_one_75 : decode cX3_one 75 = .ok (.aload_n 0, 1) := by decide +kernel
theorem dX3_one_76 : decode cX3_one 76 = .ok (.aload_n 1, 1) := by decide +kernel
theorem dX3_one_77 : decode cX3_one 77 = .ok (.iload_n 2, 1) := by decide +kernel
theorem dX3_one_78 : decode cX3_one 78 = .ok (.iconst 1, 1) := by decide +kernel
theorem dX3_one_79 : decode cX3_one 79 = .ok (.iadd, 1) := by decide +kernel
theorem dX3_one_80 : decode cX3_one 80 = .ok (.invokevirtual 156, 3) := by decide +kernel
theorem dX3_one_83 : decode cX3_one 83 = .ok (.aload_n 1, 1) := by decide +kernel
theorem dX3_one_84 : decode cX3_one 84 = .ok (.bipush (-11), 2) := by decide +kernel
theorem dX3_one_86 : decode cX3_one 86 = .ok (.invokevirtual 141, 3) := by decide +kernel
theorem dX3_one_89 : decode cX3_one 89 = .ok (.goto 39, 3) := by decide +kernel
theorem dX3_one_92 : decode cX3_one 92 = .ok (.iload_n 3, 1) := by decide +kernel
theorem dX3_one_93 : decode cX3_one 93 = .ok (.bipush 40, 2) := by decide +kernel
theorem dX3_one_95 : decode cX3_one 95 = .ok (.if_icmp .ne 29, 3) := by decide +kernel
theorem dX3_one_98 : decode cX3_one 98 = .ok (.iload_n 2, 1) := by decide +kernel
theorem dX3_one_99 : decode cX3_one 99 = .ok (.iconst 5, 1) := by decide +kernel
theorem dX3_one_100 : decode cX3_one 100 = .ok (.if_icmp .ge 24, 3) := by decide +kernel
theorem dX3_one_103 : decode cX3_one 103 = .ok (.aload_n 0, 1) := by decide +kernel
theorem dX3_one_104 : decode cX3_one 104 = .ok (.invokevirtual 132, 3) := by decide +kernel
theorem dX3_one_107 : decode cX3_one 107 = .ok (.aload_n 0, 1) := by decide +kernel
theorem dX3_one_108 : decode cX3_one 108 = .ok (.aload_n 1, 1) := by decide +kernel
theorem dX3_one_109 : decode cX3_one 109 = .ok (.iload_n 2, 1) := by decide +kernel
theorem dX3_one_110 : decode cX3_one 110 = .ok (.iconst 1, 1) := by decide +kernel
theorem dX3_one_111 : decode cX3_one 111 = .ok (.iadd, 1) := by decide +kernel
theorem dX3_one_112 : decode cX3_one 112 = .ok (.invokevirtual 46, 3) := by decide +kernel
theorem dX3_one_115 : decode cX3_one 115 = .ok (.aload_n 0, 1) := by decide +kernel
theorem dX3_one_116 : decode cX3_one 116 = .ok (.bipush 41, 2) := by decide +kernel
theorem dX3_one_118 : decode cX3_one 118 = .ok (.invokevirtual 42, 3) := by decide +kernel
theorem dX3_one_121 : decode cX3_one 121 = .ok (.goto 7, 3) := by decide +kernel
theorem dX3_one_124 : decode cX3_one 124 = .ok (.aload_n 0, 1) := by decide +kernel
theorem dX3_one_125 : decode cX3_one 125 = .ok (.invokevirtual 135, 3) := by decide +kernel
theorem dX3_one_128 : decode cX3_one 128 = .ok (.return_, 1) := by decide +kernel
theorem dX4_init_0 : decode cX4_init 0 = .ok (.aload_n 0, 1) := by decide +kernel
theorem dX4_init_1 : decode cX4_init 1 = .ok (.invokespecial 3, 3) := by decide +kernel
theorem dX4_init_4 : decode cX4_init 4 = .ok (.aload_n 0, 1) := by decide +kernel
theorem dX4_init_5 : decode cX4_init 5 = .ok (.sipush 160, 3) := by decide +kernel
theorem dX4_init_8 : decode cX4_init 8 = .ok (.newarray .int, 2) := by decide +kernel
theorem dX4_init_10 : decode cX4_init 10 = .ok (.putfield 9, 3) := by decide +kernel
theorem dX4_init_13 : decode cX4_init 13 = .ok (.aload_n 0, 1) := by decide +kernel
theorem dX4_init_14 : decode cX4_init 14 = .ok (.iconst 3, 1) := by decide +kernel
theorem dX4_init_15 : decode cX4_init 15 = .ok (.newarray .int, 2) := by decide +kernel
theorem dX4_init_17 : decode cX4_init 17 = .ok (.putfield 15, 3) := by decide +kernel
theorem dX4_init_20 : decode cX4_init 20 = .ok (.aload_n 0, 1) := by decide +kernel
theorem dX4_init_21 : decode cX4_init 21 = .ok (.sipush 160, 3) := by decide +kernel
theorem dX4_init_24 : decode cX4_init 24 = .ok (.newarray .int, 2) := by decide +kernel
theorem dX4_init_26 : decode cX4_init 26 = .ok (.putfield 18, 3) := by decide +kernel
theorem dX4_init_29 : decode cX4_init 29 = .ok (.aload_n 0, 1) := by decide +kernel
theorem dX4_init_30 : decode cX4_init 30 = .ok (.iload_n 1, 1) := by decide +kernel
theorem dX4_init_31 : decode cX4_init 31 = .ok (.putfield 21, 3) := by decide +kernel
theorem dX4_init_34 : decode cX4_init 34 = .ok (.return_, 1) := by decide +kernel
theorem dX4_stepOfFact_0 : decode cX4_stepOfFact 0 = .ok (.iconst (-1), 1) := by decide +kernel
theorem dX4_stepOfFact_1 : decode cX4_stepOfFact 1 = .ok (.iload_n 0, 1) := by decide +kernel
theorem dX4_stepOfFact_2 : decode cX4_stepOfFact 2 = .ok (.isub, 1) := by decide +kernel
theorem dX4_stepOfFact_3 : decode cX4_stepOfFact 3 = .ok (.ireturn, 1) := by decide +kernel
theorem dX4_empty_0 : decode cX4_empty 0 = .ok (.aload_n 0, 1) := by decide +kernel
theorem dX4_empty_1 : decode cX4_empty 1 = .ok (.iconst 0, 1) := by decide +kernel
theorem dX4_empty_2 : decode cX4_empty 2 = .ok (.putfield 25, 3) := by decide +kernel
theorem dX4_empty_5 : decode cX4_empty 5 = .ok (.aload_n 0, 1) := by decide +kernel
theorem dX4_empty_6 : decode cX4_empty 6 = .ok (.getfield 15, 3) := by decide +kernel
theorem dX4_empty_9 : decode cX4_empty 9 = .ok (.iconst 0, 1) := by decide +kernel
theorem dX4_empty_10 : decode cX4_empty 10 = .ok (.invokestatic 28, 3) := by decide +kernel
theorem dX4_empty_13 : decode cX4_empty 13 = .ok (.return_, 1) := by decide +kernel
theorem dX4_add_0 : decode cX4_add 0 = .ok (.aload_n 0, 1) := by decide +kernel
theorem dX4_add_1 : decode cX4_add 1 = .ok (.getfield 25, 3) := by decide +kernel
theorem dX4_add_4 : decode cX4_add 4 = .ok (.sipush 160, 3) := by decide +kernel
theorem dX4_add_7 : decode cX4_add 7 = .ok (.if_icmp .ge 23, 3) := by decide +kernel
theorem dX4_add_10 : decode cX4_add 10 = .ok (.aload_n 0, 1) := by decide +kernel
theorem dX4_add_11 : decode cX4_add 11 = .ok (.getfield 9, 3) := by decide +kernel
theorem dX4_add_14 : decode cX4_add 14 = .ok (.aload_n 0, 1) := by decide +kernel
theorem dX4_add_15 : decode cX4_add 15 = .ok (.getfield 25, 3) := by decide +kernel
theorem dX4_add_18 : decode cX4_add 18 = .ok (.iload_n 1, 1) := by decide +kernel
theorem dX4_add_19 : decode cX4_add 19 = .ok (.iastore, 1) := by decide +kernel
theorem dX4_add_20 : decode cX4_add 20 = .ok (.aload_n 0, 1) := by decide +kernel
theorem dX4_add_21 : decode cX4_add 21 = .ok (.dup, 1) := by decide +kernel
theorem dX4_add_22 : decode cX4_add 22 = .ok (.getfield 25, 3) := by decide +kernel
theorem dX4_add_25 : decode cX4_add 25 = .ok (.iconst 1, 1) := by decide +kernel
theorem dX4_add_26 : decode cX4_add 26 = .ok (.iadd, 1) := by decide +kernel
theorem dX4_add_27 : decode cX4_add 27 = .ok (.putfield 25, 3) := by decide +kernel
theorem dX4_add_30 : decode cX4_add 30 = .ok (.return_, 1) := by decide +kernel
theorem dX4_endPart_0 : decode cX4_endPart 0 = .ok (.iload_n 1, 1) := by decide +kernel
theorem dX4_endPart_1 : decode cX4_endPart 1 = .ok (.ifCond .lt 18, 3) := by decide +kernel
theorem dX4_endPart_4 : decode cX4_endPart 4 = .ok (.iload_n 1, 1) := by decide +kernel
theorem dX4_endPart_5 : decode cX4_endPart 5 = .ok (.iconst 3, 1) := by decide +kernel
theorem dX4_endPart_6 : decode cX4_endPart 6 = .ok (.if_icmp .ge 13, 3) := by decide +kernel
theorem dX4_endPart_9 : decode cX4_endPart 9 = .ok (.aload_n 0, 1) := by decide +kernel
theorem dX4_endPart_10 : decode cX4_endPart 10 = .ok (.getfield 15, 3) := by decide +kernel
theorem dX4_endPart_13 : decode cX4_endPart 13 = .ok (.iload_n 1, 1) := by decide +kernel
theorem dX4_endPart_14 : decode cX4_endPart 14 = .ok (.aload_n 0, 1) := by decide +kernel
theorem dX4_endPart_15 : decode cX4_endPart 15 = .ok (.getfield 25, 3) := by decide +kernel
theorem dX4_endPart_18 : decode cX4_endPart 18 = .ok (.iastore, 1) := by decide +kernel
theorem dX4_endPart_19 : decode cX4_endPart 19 = .ok (.return_, 1) := by decide +kernel
theorem dX4_value_0 : decode cX4_value 0 = .ok (.iload_n 1, 1) := by decide +kernel
theorem dX4_value_1 : decode cX4_value 1 = .ok (.ifCond .lt 8, 3) := by decide +kernel
theorem dX4_value_4 : decode cX4_value 4 = .ok (.iload_n 1, 1) := by decide +kernel
theorem dX4_value_5 : decode cX4_value 5 = .ok (.iconst 3, 1) := by decide +kernel
theorem dX4_value_6 : decode cX4_value 6 = .ok (.if_icmp .lt 5, 3) := by decide +kernel
theorem dX4_value_9 : decode cX4_value 9 = .ok (.iconst 0, 1) := by decide +kernel
theorem dX4_value_10 : decode cX4_value 10 = .ok (.ireturn, 1) := by decide +kernel
theorem dX4_value_11 : decode cX4_value 11 = .ok (.iconst 0, 1) := by decide +kernel
theorem dX4_value_12 : decode cX4_value 12 = .ok (.istore_n 3, 1) := by decide +kernel
theorem dX4_value_13 : decode cX4_value 13 = .ok (.iload_n 1, 1) := by decide +kernel
theorem dX4_value_14 : decode cX4_value 14 = .ok (.ifCond .ne 7, 3) := by decide +kernel
theorem dX4_value_17 : decode cX4_value 17 = .ok (.iconst 0, 1) := by decide +kernel
theorem dX4_value_18 : decode cX4_value 18 = .ok (.goto 11, 3) := by decide +kernel
theorem dX4_value_21 : decode cX4_value 21 = .ok (.aload_n 0, 1) := by decide +kernel
theorem dX4_value_22 : decode cX4_value 22 = .ok (.getfield 15, 3) := by decide +kernel
theorem dX4_value_25 : decode cX4_value 25 = .ok (.iload_n 1, 1) := by decide +kernel
theorem dX4_value_26 : decode cX4_value 26 = .ok (.iconst 1, 1) := by decide +kernel
theorem dX4_value_27 : decode cX4_value 27 = .ok (.isub, 1) := by decide +kernel
theorem dX4_value_28 : decode cX4_value 28 = .ok (.iaload, 1) := by decide +kernel
theorem dX4_value_29 : decode cX4_value 29 = .ok (.istore 4, 2) := by decide +kernel
theorem dX4_value_31 : decode cX4_value 31 = .ok (.iload 4, 2) := by decide +kernel
theorem dX4_value_33 : decode cX4_value 33 = .ok (.aload_n 0, 1) := by decide +kernel
theorem dX4_value_34 : decode cX4_value 34 = .ok (.getfield 15, 3) := by decide +kernel
theorem dX4_value_37 : decode cX4_value 37 = .ok (.iload_n 1, 1) := by decide +kernel
theorem dX4_value_38 : decode cX4_value 38 = .ok (.iaload, 1) := by decide +kernel
theorem dX4_value_39 : decode cX4_value 39 = .ok (.if_icmp .ge 193, 3) := by decide +kernel
theorem dX4_value_42 : decode cX4_value 42 = .ok (.aload_n 0, 1) := by decide +kernel
theorem dX4_value_43 : decode cX4_value 43 = .ok (.getfield 9, 3) := by decide +kernel
theorem dX4_value_46 : decode cX4_value 46 = .ok (.iload 4, 2) := by decide +kernel
theorem dX4_value_48 : decode cX4_value 48 = .ok (.iaload, 1) := by decide +kernel
theorem dX4_value_49 : decode cX4_value 49 = .ok (.istore 5, 2) := by decide +kernel
theorem dX4_value_51 : decode cX4_value 51 = .ok (.iload 5, 2) := by decide +kernel
theorem dX4_value_53 : decode cX4_value 53 = .ok (.invokestatic 34, 3) := by decide +kernel
theorem dX4_value_56 : decode cX4_value 56 = .ok (.istore 6, 2) := by decide +kernel
theorem dX4_value_58 : decode cX4_value 58 = .ok (.iload 5, 2) := by decide +kernel
theorem dX4_value_60 : decode cX4_value 60 = .ok (.ifCond .lt 24, 3) := by decide +kernel
theorem dX4_value_63 : decode cX4_value 63 = .ok (.iload_n 3, 1) := by decide +kernel
theorem dX4_value_64 : decode cX4_value 64 = .ok (.sipush 160, 3) := by decide +kernel
theorem dX4_value_67 : decode cX4_value 67 = .ok (.if_icmp .ge 17, 3) := by decide +kernel
theorem dX4_value_70 : decode cX4_value 70 = .ok (.aload_n 0, 1) := by decide +kernel
theorem dX4_value_71 : decode cX4_value 71 = .ok (.getfield 18, 3) := by decide +kernel
theorem dX4_value_74 : decode cX4_value 74 = .ok (.iload_n 3, 1) := by decide +kernel
theorem dX4_value_75 : decode cX4_value 75 = .ok (.iload 5, 2) := by decide +kernel
theorem dX4_value_77 : decode cX4_value 77 = .ok (.iastore, 1) := by decide +kernel
theorem dX4_value_78 : decode cX4_value 78 = .ok (.iinc 3 1, 3) := by decide +kernel
theorem dX4_value_81 : decode cX4_value 81 = .ok (.goto 145, 3) := by decide +kernel
theorem dX4_value_84 : decode cX4_value 84 = .ok (.iload 6, 2) := by decide +kernel
theorem dX4_value_86 : decode cX4_value 86 = .ok (.ifCond .lt 33, 3) := by decide +kernel
theorem dX4_value_89 : decode cX4_value 89 = .ok (.iload 6, 2) := by decide +kernel
theorem dX4_value_91 : decode cX4_value 91 = .ok (.aload_n 2, 1) := by decide +kernel
theorem dX4_value_92 : decode cX4_value 92 = .ok (.arraylength, 1) := by decide +kernel
theorem dX4_value_93 : decode cX4_value 93 = .ok (.if_icmp .ge 26, 3) := by decide +kernel
theorem dX4_value_96 : decode cX4_value 96 = .ok (.iload_n 3, 1) := by decide +kernel
theorem dX4_value_97 : decode cX4_value 97 = .ok (.sipush 160, 3) := by decide +kernel
theorem dX4_value_100 : decode cX4_value 100 = .ok (.if_icmp .ge 19, 3) := by decide +kernel
theorem dX4_value_103 : decode cX4_value 103 = .ok (.aload_n 0, 1) := by decide +kernel
theorem dX4_value_104 : decode cX4_value 104 = .ok (.getfield 18, 3) := by decide +kernel
theorem dX4_value_107 : decode cX4_value 107 = .ok (.iload_n 3, 1) := by decide +kernel
theorem dX4_value_108 : decode cX4_value 108 = .ok (.aload_n 2, 1) := by decide +kernel
theorem dX4_value_109 : decode cX4_value 109 = .ok (.iload 6, 2) := by decide +kernel
theorem dX4_value_111 : decode cX4_value 111 = .ok (.iaload, 1) := by decide +kernel
theorem dX4_value_112 : decode cX4_value 112 = .ok (.iastore, 1) := by decide +kernel
theorem dX4_value_113 : decode cX4_value 113 = .ok (.iinc 3 1, 3) := by decide +kernel
theorem dX4_value_116 : decode cX4_value 116 = .ok (.goto 110, 3) := by decide +kernel
theorem dX4_value_119 : decode cX4_value 119 = .ok (.iload 5, 2) := by decide +kernel
theorem dX4_value_121 : decode cX4_value 121 = .ok (.bipush (-11), 2) := by decide +kernel
theorem dX4_value_123 : decode cX4_value 123 = .ok (.if_icmp .ne 27, 3) := by decide +kernel
theorem dX4_value_126 : decode cX4_value 126 = .ok (.iload_n 3, 1) := by decide +kernel
theorem dX4_value_127 : decode cX4_value 127 = .ok (.ifCond .le 23, 3) := by decide +kernel
theorem dX4_value_130 : decode cX4_value 130 = .ok (.aload_n 0, 1) := by decide +kernel
theorem dX4_value_131 : decode cX4_value 131 = .ok (.getfield 18, 3) := by decide +kernel
theorem dX4_value_134 : decode cX4_value 134 = .ok (.iload_n 3, 1) := by decide +kernel
theorem dX4_value_135 : decode cX4_value 135 = .ok (.iconst 1, 1) := by decide +kernel
theorem dX4_value_136 : decode cX4_value 136 = .ok (.isub, 1) := by decide +kernel
theorem dX4_value_137 : decode cX4_value 137 = .ok (.aload_n 0, 1) := by decide +kernel
theorem dX4_value_138 : decode cX4_value 138 = .ok (.getfield 18, 3) := by decide +kernel
theorem dX4_value_141 : decode cX4_value 141 = .ok (.iload_n 3, 1) := by decide +kernel
theorem dX4_value_142 : decode cX4_value 142 = .ok (.iconst 1, 1) := by decide +kernel
theorem dX4_value_143 : decode cX4_value 143 = .ok (.isub, 1) := by decide +kernel
theorem dX4_value_144 : decode cX4_value 144 = .ok (.iaload, 1) := by decide +kernel
theorem dX4_value_145 : decode cX4_value 145 = .ok (.ineg, 1) := by decide +kernel
theorem dX4_value_146 : decode cX4_value 146 = .ok (.iastore, 1) := by decide +kernel
theorem dX4_value_147 : decode cX4_value 147 = .ok (.goto 79, 3) := by decide +kernel
theorem dX4_value_150 : decode cX4_value 150 = .ok (.iload 5, 2) := by decide +kernel
theorem dX4_value_152 : decode cX4_value 152 = .ok (.bipush (-12), 2) := by decide +kernel
theorem dX4_value_154 : decode cX4_value 154 = .ok (.if_icmp .ne 37, 3) := by decide +kernel
theorem dX4_value_157 : decode cX4_value 157 = .ok (.iload_n 3, 1) := by decide +kernel
theorem dX4_value_158 : decode cX4_value 158 = .ok (.ifCond .le 33, 3) := by decide +kernel
theorem dX4_value_161 : decode cX4_value 161 = .ok (.aload_n 0, 1) := by decide +kernel
theorem dX4_value_162 : decode cX4_value 162 = .ok (.getfield 18, 3) := by decide +kernel
theorem dX4_value_165 : decode cX4_value 165 = .ok (.iload_n 3, 1) := by decide +kernel
theorem dX4_value_166 : decode cX4_value 166 = .ok (.iconst 1, 1) := by decide +kernel
theorem dX4_value_167 : decode cX4_value 167 = .ok (.isub, 1) := by decide +kernel
theorem dX4_value_168 : decode cX4_value 168 = .ok (.aload_n 0, 1) := by decide +kernel
theorem dX4_value_169 : decode cX4_value 169 = .ok (.getfield 18, 3) := by decide +kernel
theorem dX4_value_172 : decode cX4_value 172 = .ok (.iload_n 3, 1) := by decide +kernel
theorem dX4_value_173 : decode cX4_value 173 = .ok (.iconst 1, 1) := by decide +kernel
theorem dX4_value_174 : decode cX4_value 174 = .ok (.isub, 1) := by decide +kernel
theorem dX4_value_175 : decode cX4_value 175 = .ok (.iaload, 1) := by decide +kernel
theorem dX4_value_176 : decode cX4_value 176 = .ok (.ifCond .ne 7, 3) := by decide +kernel
theorem dX4_value_179 : decode cX4_value 179 = .ok (.iconst 1, 1) := by decide +kernel
theorem dX4_value_180 : decode cX4_value 180 = .ok (.goto 4, 3) := by decide +kernel
theorem dX4_value_183 : decode cX4_value 183 = .ok (.iconst 0, 1) := by decide +kernel
theorem dX4_value_184 : decode cX4_value 184 = .ok (.invokestatic 38, 3) := by decide +kernel
theorem dX4_value_187 : decode cX4_value 187 = .ok (.iastore, 1) := by decide +kernel
theorem dX4_value_188 : decode cX4_value 188 = .ok (.goto 38, 3) := by decide +kernel
theorem dX4_value_191 : decode cX4_value 191 = .ok (.iload_n 3, 1) := by decide +kernel
theorem dX4_value_192 : decode cX4_value 192 = .ok (.iconst 1, 1) := by decide +kernel
theorem dX4_value_193 : decode cX4_value 193 = .ok (.if_icmp .le 33, 3) := by decide +kernel
theorem dX4_value_196 : decode cX4_value 196 = .ok (.iinc 3 (-1), 3) := by decide +kernel
theorem dX4_value_199 : decode cX4_value 199 = .ok (.aload_n 0, 1) := by decide +kernel
theorem dX4_value_200 : decode cX4_value 200 = .ok (.getfield 18, 3) := by decide +kernel
theorem dX4_value_203 : decode cX4_value 203 = .ok (.iload_n 3, 1) := by decide +kernel
theorem dX4_value_204 : decode cX4_value 204 = .ok (.iconst 1, 1) := by decide +kernel
theorem dX4_value_205 : decode cX4_value 205 = .ok (.isub, 1) := by decide +kernel
theorem dX4_value_206 : decode cX4_value 206 = .ok (.iload 5, 2) := by decide +kernel
theorem dX4_value_208 : decode cX4_value 208 = .ok (.aload_n 0, 1) := by decide +kernel
theorem dX4_value_209 : decode cX4_value 209 = .ok (.getfield 18, 3) := by decide +kernel
theorem dX4_value_212 : decode cX4_value 212 = .ok (.iload_n 3, 1) := by decide +kernel
theorem dX4_value_213 : decode cX4_value 213 = .ok (.iconst 1, 1) := by decide +kernel
theorem dX4_value_214 : decode cX4_value 214 = .ok (.isub, 1) := by decide +kernel
theorem dX4_value_215 : decode cX4_value 215 = .ok (.iaload, 1) := by decide +kernel
theorem dX4_value_216 : decode cX4_value 216 = .ok (.aload_n 0, 1) := by decide +kernel
theorem dX4_value_217 : decode cX4_value 217 = .ok (.getfield 18, 3) := by decide +kernel
theorem dX4_value_220 : decode cX4_value 220 = .ok (.iload_n 3, 1) := by decide +kernel
theorem dX4_value_221 : decode cX4_value 221 = .ok (.iaload, 1) := by decide +kernel
theorem dX4_value_222 : decode cX4_value 222 = .ok (.invokestatic 42, 3) := by decide +kernel
theorem dX4_value_225 : decode cX4_value 225 = .ok (.iastore, 1) := by decide +kernel
theorem dX4_value_226 : decode cX4_value 226 = .ok (.iinc 4 1, 3) := by decide +kernel
theorem dX4_value_229 : decode cX4_value 229 = .ok (.goto (-198), 3) := by decide +kernel
theorem dX4_value_232 : decode cX4_value 232 = .ok (.iload_n 3, 1) := by decide +kernel
theorem dX4_value_233 : decode cX4_value 233 = .ok (.ifCond .le 14, 3) := by decide +kernel
theorem dX4_value_236 : decode cX4_value 236 = .ok (.aload_n 0, 1) := by decide +kernel
theorem dX4_value_237 : decode cX4_value 237 = .ok (.getfield 18, 3) := by decide +kernel
theorem dX4_value_240 : decode cX4_value 240 = .ok (.iload_n 3, 1) := by decide +kernel
theorem dX4_value_241 : decode cX4_value 241 = .ok (.iconst 1, 1) := by decide +kernel
theorem dX4_value_242 : decode cX4_value 242 = .ok (.isub, 1) := by decide +kernel
theorem dX4_value_243 : decode cX4_value 243 = .ok (.iaload, 1) := by decide +kernel
theorem dX4_value_244 : decode cX4_value 244 = .ok (.goto 4, 3) := by decide +kernel
theorem dX4_value_247 : decode cX4_value 247 = .ok (.iconst 0, 1) := by decide +kernel
theorem dX4_value_248 : decode cX4_value 248 = .ok (.ireturn, 1) := by decide +kernel
theorem dX4_joined_0 : decode cX4_joined 0 = .ok (.iload_n 0, 1) := by decide +kernel
theorem dX4_joined_1 : decode cX4_joined 1 = .ok (.tableswitch 109 (-18) (-13) #[105, 101, 87, 73, 56, 39], 39) := by decide +kernel
theorem dX4_joined_40 : decode cX4_joined 40 = .ok (.iload_n 1, 1) := by decide +kernel
theorem dX4_joined_41 : decode cX4_joined 41 = .ok (.ifCond .ne 7, 3) := by decide +kernel
theorem dX4_joined_44 : decode cX4_joined 44 = .ok (.iload_n 2, 1) := by decide +kernel
theorem dX4_joined_45 : decode cX4_joined 45 = .ok (.ifCond .eq 7, 3) := by decide +kernel
theorem dX4_joined_48 : decode cX4_joined 48 = .ok (.iconst 1, 1) := by decide +kernel
theorem dX4_joined_49 : decode cX4_joined 49 = .ok (.goto 4, 3) := by decide +kernel
theorem dX4_joined_52 : decode cX4_joined 52 = .ok (.iconst 0, 1) := by decide +kernel
theorem dX4_joined_53 : decode cX4_joined 53 = .ok (.invokestatic 38, 3) := by decide +kernel
theorem dX4_joined_56 : decode cX4_joined 56 = .ok (.ireturn, 1) := by decide +kernel
theorem dX4_joined_57 : decode cX4_joined 57 = .ok (.iload_n 1, 1) := by decide +kernel
theorem dX4_joined_58 : decode cX4_joined 58 = .ok (.ifCond .eq 11, 3) := by decide +kernel
theorem dX4_joined_61 : decode cX4_joined 61 = .ok (.iload_n 2, 1) := by decide +kernel
theorem dX4_joined_62 : decode cX4_joined 62 = .ok (.ifCond .eq 7, 3) := by decide +kernel
theorem dX4_joined_65 : decode cX4_joined 65 = .ok (.iconst 1, 1) := by decide +kernel
theorem dX4_joined_66 : decode cX4_joined 66 = .ok (.goto 4, 3) := by decide +kernel
theorem dX4_joined_69 : decode cX4_joined 69 = .ok (.iconst 0, 1) := by decide +kernel
theorem dX4_joined_70 : decode cX4_joined 70 = .ok (.invokestatic 38, 3) := by decide +kernel
theorem dX4_joined_73 : decode cX4_joined 73 = .ok (.ireturn, 1) := by decide +kernel
theorem dX4_joined_74 : decode cX4_joined 74 = .ok (.iload_n 1, 1) := by decide +kernel
theorem dX4_joined_75 : decode cX4_joined 75 = .ok (.iload_n 2, 1) := by decide +kernel
theorem dX4_joined_76 : decode cX4_joined 76 = .ok (.if_icmp .ge 7, 3) := by decide +kernel
theorem dX4_joined_79 : decode cX4_joined 79 = .ok (.iconst 1, 1) := by decide +kernel
theorem dX4_joined_80 : decode cX4_joined 80 = .ok (.goto 4, 3) := by decide +kernel
theorem dX4_joined_83 : decode cX4_joined 83 = .ok (.iconst 0, 1) := by decide +kernel
theorem dX4_joined_84 : decode cX4_joined 84 = .ok (.invokestatic 38, 3) := by decide +kernel
theorem dX4_joined_87 : decode cX4_joined 87 = .ok (.ireturn, 1) := by decide +kernel
theorem dX4_joined_88 : decode cX4_joined 88 = .ok (.iload_n 1, 1) := by decide +kernel
theorem dX4_joined_89 : decode cX4_joined 89 = .ok (.iload_n 2, 1) := by decide +kernel
theorem dX4_joined_90 : decode cX4_joined 90 = .ok (.if_icmp .ne 7, 3) := by decide +kernel
theorem dX4_joined_93 : decode cX4_joined 93 = .ok (.iconst 1, 1) := by decide +kernel
theorem dX4_joined_94 : decode cX4_joined 94 = .ok (.goto 4, 3) := by decide +kernel
theorem dX4_joined_97 : decode cX4_joined 97 = .ok (.iconst 0, 1) := by decide +kernel
theorem dX4_joined_98 : decode cX4_joined 98 = .ok (.invokestatic 38, 3) := by decide +kernel
theorem dX4_joined_101 : decode cX4_joined 101 = .ok (.ireturn, 1) := by decide +kernel
theorem dX4_joined_102 : decode cX4_joined 102 = .ok (.iload_n 1, 1) := by decide +kernel
theorem dX4_joined_103 : decode cX4_joined 103 = .ok (.iload_n 2, 1) := by decide +kernel
theorem dX4_joined_104 : decode cX4_joined 104 = .ok (.iadd, 1) := by decide +kernel
theorem dX4_joined_105 : decode cX4_joined 105 = .ok (.ireturn, 1) := by decide +kernel
theorem dX4_joined_106 : decode cX4_joined 106 = .ok (.iload_n 1, 1) := by decide +kernel
theorem dX4_joined_107 : decode cX4_joined 107 = .ok (.iload_n 2, 1) := by decide +kernel
theorem dX4_joined_108 : decode cX4_joined 108 = .ok (.isub, 1) := by decide +kernel
theorem dX4_joined_109 : decode cX4_joined 109 = .ok (.ireturn, 1) := by decide +kernel
theorem dX4_joined_110 : decode cX4_joined 110 = .ok (.iload_n 1, 1) := by decide +kernel
theorem dX4_joined_111 : decode cX4_joined 111 = .ok (.iload_n 2, 1) := by decide +kernel
theorem dX4_joined_112 : decode cX4_joined 112 = .ok (.imul, 1) := by decide +kernel
theorem dX4_joined_113 : decode cX4_joined 113 = .ok (.ireturn, 1) := by decide +kernel
theorem dX4_truth_0 : decode cX4_truth 0 = .ok (.iload_n 0, 1) := by decide +kernel
theorem dX4_truth_1 : decode cX4_truth 1 = .ok (.ifCond .eq 7, 3) := by decide +kernel
theorem dX4_truth_4 : decode cX4_truth 4 = .ok (.iconst 1, 1) := by decide +kernel
theorem dX4_truth_5 : decode cX4_truth 5 = .ok (.goto 4, 3) := by decide +kernel
theorem dX4_truth_8 : decode cX4_truth 8 = .ok (.iconst 0, 1) := by decide +kernel
theorem dX4_truth_9 : decode cX4_truth 9 = .ok (.ireturn, 1) := by decide +kernel
theorem dJ6_bitCount_0f7a4_0 : decode cJ6_bitCount_0f7a4 0 = .ok (.iload_n 0, 1) := by decide +kernel
theorem dJ6_bitCount_0f7a4_1 : decode cJ6_bitCount_0f7a4 1 = .ok (.iload_n 0, 1) := by decide +kernel
theorem dJ6_bitCount_0f7a4_2 : decode cJ6_bitCount_0f7a4 2 = .ok (.iconst 1, 1) := by decide +kernel
theorem dJ6_bitCount_0f7a4_3 : decode cJ6_bitCount_0f7a4 3 = .ok (.iushr, 1) := by decide +kernel
theorem dJ6_bitCount_0f7a4_4 : decode cJ6_bitCount_0f7a4 4 = .ok (.ldc_w 265, 3) := by decide +kernel
theorem dJ6_bitCount_0f7a4_7 : decode cJ6_bitCount_0f7a4 7 = .ok (.iand, 1) := by decide +kernel
theorem dJ6_bitCount_0f7a4_8 : decode cJ6_bitCount_0f7a4 8 = .ok (.isub, 1) := by decide +kernel
theorem dJ6_bitCount_0f7a4_9 : decode cJ6_bitCount_0f7a4 9 = .ok (.istore_n 0, 1) := by decide +kernel
theorem dJ6_bitCount_0f7a4_10 : decode cJ6_bitCount_0f7a4 10 = .ok (.iload_n 0, 1) := by decide +kernel
theorem dJ6_bitCount_0f7a4_11 : decode cJ6_bitCount_0f7a4 11 = .ok (.ldc_w 266, 3) := by decide +kernel
theorem dJ6_bitCount_0f7a4_14 : decode cJ6_bitCount_0f7a4 14 = .ok (.iand, 1) := by decide +kernel
theorem dJ6_bitCount_0f7a4_15 : decode cJ6_bitCount_0f7a4 15 = .ok (.iload_n 0, 1) := by decide +kernel
theorem dJ6_bitCount_0f7a4_16 : decode cJ6_bitCount_0f7a4 16 = .ok (.iconst 2, 1) := by decide +kernel
theorem dJ6_bitCount_0f7a4_17 : decode cJ6_bitCount_0f7a4 17 = .ok (.iushr, 1) := by decide +kernel
theorem dJ6_bitCount_0f7a4_18 : decode cJ6_bitCount_0f7a4 18 = .ok (.ldc_w 266, 3) := by decide +kernel
theorem dJ6_bitCount_0f7a4_21 : decode cJ6_bitCount_0f7a4 21 = .ok (.iand, 1) := by decide +kernel
theorem dJ6_bitCount_0f7a4_22 : decode cJ6_bitCount_0f7a4 22 = .ok (.iadd, 1) := by decide +kernel
theorem dJ6_bitCount_0f7a4_23 : decode cJ6_bitCount_0f7a4 23 = .ok (.istore_n 0, 1) := by decide +kernel
theorem dJ6_bitCount_0f7a4_24 : decode cJ6_bitCount_0f7a4 24 = .ok (.iload_n 0, 1) := by decide +kernel
theorem dJ6_bitCount_0f7a4_25 : decode cJ6_bitCount_0f7a4 25 = .ok (.iload_n 0, 1) := by decide +kernel
theorem dJ6_bitCount_0f7a4_26 : decode cJ6_bitCount_0f7a4 26 = .ok (.iconst 4, 1) := by decide +kernel
theorem dJ6_bitCount_0f7a4_27 : decode cJ6_bitCount_0f7a4 27 = .ok (.iushr, 1) := by decide +kernel
theorem dJ6_bitCount_0f7a4_28 : decode cJ6_bitCount_0f7a4 28 = .ok (.iadd, 1) := by decide +kernel
theorem dJ6_bitCount_0f7a4_29 : decode cJ6_bitCount_0f7a4 29 = .ok (.ldc_w 267, 3) := by decide +kernel
theorem dJ6_bitCount_0f7a4_32 : decode cJ6_bitCount_0f7a4 32 = .ok (.iand, 1) := by decide +kernel
theorem dJ6_bitCount_0f7a4_33 : decode cJ6_bitCount_0f7a4 33 = .ok (.istore_n 0, 1) := by decide +kernel
theorem dJ6_bitCount_0f7a4_34 : decode cJ6_bitCount_0f7a4 34 = .ok (.iload_n 0, 1) := by decide +kernel
theorem dJ6_bitCount_0f7a4_35 : decode cJ6_bitCount_0f7a4 35 = .ok (.iload_n 0, 1) := by decide +kernel
theorem dJ6_bitCount_0f7a4_36 : decode cJ6_bitCount_0f7a4 36 = .ok (.bipush 8, 2) := by decide +kernel
theorem dJ6_bitCount_0f7a4_38 : decode cJ6_bitCount_0f7a4 38 = .ok (.iushr, 1) := by decide +kernel
theorem dJ6_bitCount_0f7a4_39 : decode cJ6_bitCount_0f7a4 39 = .ok (.iadd, 1) := by decide +kernel
theorem dJ6_bitCount_0f7a4_40 : decode cJ6_bitCount_0f7a4 40 = .ok (.istore_n 0, 1) := by decide +kernel
theorem dJ6_bitCount_0f7a4_41 : decode cJ6_bitCount_0f7a4 41 = .ok (.iload_n 0, 1) := by decide +kernel
theorem dJ6_bitCount_0f7a4_42 : decode cJ6_bitCount_0f7a4 42 = .ok (.iload_n 0, 1) := by decide +kernel
theorem dJ6_bitCount_0f7a4_43 : decode cJ6_bitCount_0f7a4 43 = .ok (.bipush 16, 2) := by decide +kernel
theorem dJ6_bitCount_0f7a4_45 : decode cJ6_bitCount_0f7a4 45 = .ok (.iushr, 1) := by decide +kernel
theorem dJ6_bitCount_0f7a4_46 : decode cJ6_bitCount_0f7a4 46 = .ok (.iadd, 1) := by decide +kernel
theorem dJ6_bitCount_0f7a4_47 : decode cJ6_bitCount_0f7a4 47 = .ok (.istore_n 0, 1) := by decide +kernel
theorem dJ6_bitCount_0f7a4_48 : decode cJ6_bitCount_0f7a4 48 = .ok (.iload_n 0, 1) := by decide +kernel
theorem dJ6_bitCount_0f7a4_49 : decode cJ6_bitCount_0f7a4 49 = .ok (.bipush 63, 2) := by decide +kernel
theorem dJ6_bitCount_0f7a4_51 : decode cJ6_bitCount_0f7a4 51 = .ok (.iand, 1) := by decide +kernel
theorem dJ6_bitCount_0f7a4_52 : decode cJ6_bitCount_0f7a4 52 = .ok (.ireturn, 1) := by decide +kernel
theorem dJ9_max_7cf53_0 : decode cJ9_max_7cf53 0 = .ok (.iload_n 0, 1) := by decide +kernel
theorem dJ9_max_7cf53_1 : decode cJ9_max_7cf53 1 = .ok (.iload_n 1, 1) := by decide +kernel
theorem dJ9_max_7cf53_2 : decode cJ9_max_7cf53 2 = .ok (.if_icmp .lt 7, 3) := by decide +kernel
theorem dJ9_max_7cf53_5 : decode cJ9_max_7cf53 5 = .ok (.iload_n 0, 1) := by decide +kernel
theorem dJ9_max_7cf53_6 : decode cJ9_max_7cf53 6 = .ok (.goto 4, 3) := by decide +kernel
theorem dJ9_max_7cf53_9 : decode cJ9_max_7cf53 9 = .ok (.iload_n 1, 1) := by decide +kernel
theorem dJ9_max_7cf53_10 : decode cJ9_max_7cf53 10 = .ok (.ireturn, 1) := by decide +kernel
theorem dJ9_min_7cf53_0 : decode cJ9_min_7cf53 0 = .ok (.iload_n 0, 1) := by decide +kernel
theorem dJ9_min_7cf53_1 : decode cJ9_min_7cf53 1 = .ok (.iload_n 1, 1) := by decide +kernel
theorem dJ9_min_7cf53_2 : decode cJ9_min_7cf53 2 = .ok (.if_icmp .gt 7, 3) := by decide +kernel
theorem dJ9_min_7cf53_5 : decode cJ9_min_7cf53 5 = .ok (.iload_n 0, 1) := by decide +kernel
theorem dJ9_min_7cf53_6 : decode cJ9_min_7cf53 6 = .ok (.goto 4, 3) := by decide +kernel
theorem dJ9_min_7cf53_9 : decode cJ9_min_7cf53 9 = .ok (.iload_n 1, 1) := by decide +kernel
theorem dJ9_min_7cf53_10 : decode cJ9_min_7cf53 10 = .ok (.ireturn, 1) := by decide +kernel
theorem dJ0_length_8abf5_0 : decode cJ0_length_8abf5 0 = .ok (.aload_n 0, 1) := by decide +kernel
theorem dJ0_length_8abf5_1 : decode cJ0_length_8abf5 1 = .ok (.getfield 9, 3) := by decide +kernel
theorem dJ0_length_8abf5_4 : decode cJ0_length_8abf5 4 = .ok (.arraylength, 1) := by decide +kernel
theorem dJ0_length_8abf5_5 : decode cJ0_length_8abf5 5 = .ok (.aload_n 0, 1) := by decide +kernel
theorem dJ0_length_8abf5_6 : decode cJ0_length_8abf5 6 = .ok (.invokevirtual 335, 3) := by decide +kernel
theorem dJ0_length_8abf5_9 : decode cJ0_length_8abf5 9 = .ok (.ishr, 1) := by decide +kernel
theorem dJ0_length_8abf5_10 : decode cJ0_length_8abf5 10 = .ok (.ireturn, 1) := by decide +kernel
theorem dJ0_charAt_5068e_0 : decode cJ0_charAt_5068e 0 = .ok (.aload_n 0, 1) := by decide +kernel
theorem dJ0_charAt_5068e_1 : decode cJ0_charAt_5068e 1 = .ok (.invokevirtual 492, 3) := by decide +kernel
theorem dJ0_charAt_5068e_4 : decode cJ0_charAt_5068e 4 = .ok (.ifCond .eq 12, 3) := by decide +kernel
theorem dJ0_charAt_5068e_7 : decode cJ0_charAt_5068e 7 = .ok (.aload_n 0, 1) := by decide +kernel
theorem dJ0_charAt_5068e_8 : decode cJ0_charAt_5068e 8 = .ok (.getfield 9, 3) := by decide +kernel
theorem dJ0_charAt_5068e_11 : decode cJ0_charAt_5068e 11 = .ok (.iload_n 1, 1) := by decide +kernel
theorem dJ0_charAt_5068e_12 : decode cJ0_charAt_5068e 12 = .ok (.invokestatic 495, 3) := by decide +kernel
theorem dJ0_charAt_5068e_15 : decode cJ0_charAt_5068e 15 = .ok (.ireturn, 1) := by decide +kernel
theorem dJ0_charAt_5068e_16 : decode cJ0_charAt_5068e 16 = .ok (.aload_n 0, 1) := by decide +kernel
theorem dJ0_charAt_5068e_17 : decode cJ0_charAt_5068e 17 = .ok (.getfield 9, 3) := by decide +kernel
theorem dJ0_charAt_5068e_20 : decode cJ0_charAt_5068e 20 = .ok (.iload_n 1, 1) := by decide +kernel
theorem dJ0_charAt_5068e_21 : decode cJ0_charAt_5068e 21 = .ok (.invokestatic 498, 3) := by decide +kernel
theorem dJ0_charAt_5068e_24 : decode cJ0_charAt_5068e 24 = .ok (.ireturn, 1) := by decide +kernel
theorem dJ0_coder_7d493_0 : decode cJ0_coder_7d493 0 = .ok (.getstatic 38, 3) := by decide +kernel
theorem dJ0_coder_7d493_3 : decode cJ0_coder_7d493 3 = .ok (.ifCond .eq 10, 3) := by decide +kernel
theorem dJ0_coder_7d493_6 : decode cJ0_coder_7d493 6 = .ok (.aload_n 0, 1) := by decide +kernel
theorem dJ0_coder_7d493_7 : decode cJ0_coder_7d493 7 = .ok (.getfield 15, 3) := by decide +kernel
theorem dJ0_coder_7d493_10 : decode cJ0_coder_7d493 10 = .ok (.goto 4, 3) := by decide +kernel
theorem dJ0_coder_7d493_13 : decode cJ0_coder_7d493 13 = .ok (.iconst 1, 1) := by decide +kernel
theorem dJ0_coder_7d493_14 : decode cJ0_coder_7d493 14 = .ok (.ireturn, 1) := by decide +kernel
theorem dJ0_isLatin1_aae02_0 : decode cJ0_isLatin1_aae02 0 = .ok (.getstatic 38, 3) := by decide +kernel
theorem dJ0_isLatin1_aae02_3 : decode cJ0_isLatin1_aae02 3 = .ok (.ifCond .eq 14, 3) := by decide +kernel
theorem dJ0_isLatin1_aae02_6 : decode cJ0_isLatin1_aae02 6 = .ok (.aload_n 0, 1) := by decide +kernel
theorem dJ0_isLatin1_aae02_7 : decode cJ0_isLatin1_aae02 7 = .ok (.getfield 15, 3) := by decide +kernel
theorem dJ0_isLatin1_aae02_10 : decode cJ0_isLatin1_aae02 10 = .ok (.ifCond .ne 7, 3) := by decide +kernel
theorem dJ0_isLatin1_aae02_13 : decode cJ0_isLatin1_aae02 13 = .ok (.iconst 1, 1) := by decide +kernel
theorem dJ0_isLatin1_aae02_14 : decode cJ0_isLatin1_aae02 14 = .ok (.goto 4, 3) := by decide +kernel
theorem dJ0_isLatin1_aae02_17 : decode cJ0_isLatin1_aae02 17 = .ok (.iconst 0, 1) := by decide +kernel
theorem dJ0_isLatin1_aae02_18 : decode cJ0_isLatin1_aae02 18 = .ok (.ireturn, 1) := by decide +kernel
theorem dJ0_checkIndex_df160_0 : decode cJ0_checkIndex_df160 0 = .ok (.iload_n 0, 1) := by decide +kernel
theorem dJ0_checkIndex_df160_1 : decode cJ0_checkIndex_df160 1 = .ok (.iload_n 1, 1) := by decide +kernel
theorem dJ0_checkIndex_df160_2 : decode cJ0_checkIndex_df160 2 = .ok (.getstatic 1053, 3) := by decide +kernel
theorem dJ0_checkIndex_df160_5 : decode cJ0_checkIndex_df160 5 = .ok (.invokestatic 1059, 3) := by decide +kernel
theorem dJ0_checkIndex_df160_8 : decode cJ0_checkIndex_df160 8 = .ok (.pop, 1) := by decide +kernel
theorem dJ0_checkIndex_df160_9 : decode cJ0_checkIndex_df160 9 = .ok (.return_, 1) := by decide +kernel
theorem dJ1_charAt_3b067_0 : decode cJ1_charAt_3b067 0 = .ok (.iload_n 1, 1) := by decide +kernel
theorem dJ1_charAt_3b067_1 : decode cJ1_charAt_3b067 1 = .ok (.aload_n 0, 1) := by decide +kernel
theorem dJ1_charAt_3b067_2 : decode cJ1_charAt_3b067 2 = .ok (.arraylength, 1) := by decide +kernel
theorem dJ1_charAt_3b067_3 : decode cJ1_charAt_3b067 3 = .ok (.invokestatic 9, 3) := by decide +kernel
theorem dJ1_charAt_3b067_6 : decode cJ1_charAt_3b067 6 = .ok (.aload_n 0, 1) := by decide +kernel
theorem dJ1_charAt_3b067_7 : decode cJ1_charAt_3b067 7 = .ok (.iload_n 1, 1) := by decide +kernel
theorem dJ1_charAt_3b067_8 : decode cJ1_charAt_3b067 8 = .ok (.baload, 1) := by decide +kernel
theorem dJ1_charAt_3b067_9 : decode cJ1_charAt_3b067 9 = .ok (.sipush 255, 3) := by decide +kernel
theorem dJ1_charAt_3b067_12 : decode cJ1_charAt_3b067 12 = .ok (.iand, 1) := by decide +kernel
theorem dJ1_charAt_3b067_13 : decode cJ1_charAt_3b067 13 = .ok (.i2c, 1) := by decide +kernel
theorem dJ1_charAt_3b067_14 : decode cJ1_charAt_3b067 14 = .ok (.ireturn, 1) := by decide +kernel
theorem dJ2_getChar_3b067_0 : decode cJ2_getChar_3b067 0 = .ok (.getstatic 44, 3) := by decide +kernel
theorem dJ2_getChar_3b067_3 : decode cJ2_getChar_3b067 3 = .ok (.ifCond .ne 25, 3) := by decide +kernel
theorem dJ2_getChar_3b067_6 : decode cJ2_getChar_3b067 6 = .ok (.iload_n 1, 1) := by decide +kernel
theorem dJ2_getChar_3b067_7 : decode cJ2_getChar_3b067 7 = .ok (.ifCond .lt 11, 3) := by decide +kernel
theorem dJ2_getChar_3b067_10 : decode cJ2_getChar_3b067 10 = .ok (.iload_n 1, 1) := by decide +kernel
theorem dJ2_getChar_3b067_11 : decode cJ2_getChar_3b067 11 = .ok (.aload_n 0, 1) := by decide +kernel
theorem dJ2_getChar_3b067_12 : decode cJ2_getChar_3b067 12 = .ok (.invokestatic 48, 3) := by decide +kernel
theorem dJ2_getChar_3b067_15 : decode cJ2_getChar_3b067 15 = .ok (.if_icmp .lt 13, 3) := by decide +kernel
theorem dJ2_getChar_3b067_18 : decode cJ2_getChar_3b067 18 = .ok (.new 52, 3) := by decide +kernel
theorem dJ2_getChar_3b067_21 : decode cJ2_getChar_3b067 21 = .ok (.dup, 1) := by decide +kernel
theorem dJ2_getChar_3b067_22 : decode cJ2_getChar_3b067 22 = .ok (.ldc 54, 2) := by decide +kernel
theorem dJ2_getChar_3b067_24 : decode cJ2_getChar_3b067 24 = .ok (.invokespecial 56, 3) := by decide +kernel
theorem dJ2_getChar_3b067_27 : decode cJ2_getChar_3b067 27 = .ok (.athrow, 1) := by decide +kernel
theorem dJ2_getChar_3b067_28 : decode cJ2_getChar_3b067 28 = .ok (.iload_n 1, 1) := by decide +kernel
theorem dJ2_getChar_3b067_29 : decode cJ2_getChar_3b067 29 = .ok (.iconst 1, 1) := by decide +kernel
theorem dJ2_getChar_3b067_30 : decode cJ2_getChar_3b067 30 = .ok (.ishl, 1) := by decide +kernel
theorem dJ2_getChar_3b067_31 : decode cJ2_getChar_3b067 31 = .ok (.istore_n 1, 1) := by decide +kernel
theorem dJ2_getChar_3b067_32 : decode cJ2_getChar_3b067 32 = .ok (.aload_n 0, 1) := by decide +kernel
theorem dJ2_getChar_3b067_33 : decode cJ2_getChar_3b067 33 = .ok (.iload_n 1, 1) := by decide +kernel
theorem dJ2_getChar_3b067_34 : decode cJ2_getChar_3b067 34 = .ok (.iinc 1 1, 3) := by decide +kernel
theorem dJ2_getChar_3b067_37 : decode cJ2_getChar_3b067 37 = .ok (.baload, 1) := by decide +kernel
theorem dJ2_getChar_3b067_38 : decode cJ2_getChar_3b067 38 = .ok (.sipush 255, 3) := by decide +kernel
theorem dJ2_getChar_3b067_41 : decode cJ2_getChar_3b067 41 = .ok (.iand, 1) := by decide +kernel
theorem dJ2_getChar_3b067_42 : decode cJ2_getChar_3b067 42 = .ok (.getstatic 59, 3) := by decide +kernel
theorem dJ2_getChar_3b067_45 : decode cJ2_getChar_3b067 45 = .ok (.ishl, 1) := by decide +kernel
theorem dJ2_getChar_3b067_46 : decode cJ2_getChar_3b067 46 = .ok (.aload_n 0, 1) := by decide +kernel
theorem dJ2_getChar_3b067_47 : decode cJ2_getChar_3b067 47 = .ok (.iload_n 1, 1) := by decide +kernel
theorem dJ2_getChar_3b067_48 : decode cJ2_getChar_3b067 48 = .ok (.baload, 1) := by decide +kernel
theorem dJ2_getChar_3b067_49 : decode cJ2_getChar_3b067 49 = .ok (.sipush 255, 3) := by decide +kernel
theorem dJ2_getChar_3b067_52 : decode cJ2_getChar_3b067 52 = .ok (.iand, 1) := by decide +kernel
theorem dJ2_getChar_3b067_53 : decode cJ2_getChar_3b067 53 = .ok (.getstatic 63, 3) := by decide +kernel
theorem dJ2_getChar_3b067_56 : decode cJ2_getChar_3b067 56 = .ok (.ishl, 1) := by decide +kernel
theorem dJ2_getChar_3b067_57 : decode cJ2_getChar_3b067 57 = .ok (.ior, 1) := by decide +kernel
theorem dJ2_getChar_3b067_58 : decode cJ2_getChar_3b067 58 = .ok (.i2c, 1) := by decide +kernel
theorem dJ2_getChar_3b067_59 : decode cJ2_getChar_3b067 59 = .ok (.ireturn, 1) := by decide +kernel
theorem dJ2_length_9d52b_0 : decode cJ2_length_9d52b 0 = .ok (.aload_n 0, 1) := by decide +kernel
theorem dJ2_length_9d52b_1 : decode cJ2_length_9d52b 1 = .ok (.arraylength, 1) := by decide +kernel
theorem dJ2_length_9d52b_2 : decode cJ2_length_9d52b 2 = .ok (.iconst 1, 1) := by decide +kernel
theorem dJ2_length_9d52b_3 : decode cJ2_length_9d52b 3 = .ok (.ishr, 1) := by decide +kernel
theorem dJ2_length_9d52b_4 : decode cJ2_length_9d52b 4 = .ok (.ireturn, 1) := by decide +kernel
theorem dJ2_charAt_3b067_0 : decode cJ2_charAt_3b067 0 = .ok (.iload_n 1, 1) := by decide +kernel
theorem dJ2_charAt_3b067_1 : decode cJ2_charAt_3b067 1 = .ok (.aload_n 0, 1) := by decide +kernel
theorem dJ2_charAt_3b067_2 : decode cJ2_charAt_3b067 2 = .ok (.invokestatic 67, 3) := by decide +kernel
theorem dJ2_charAt_3b067_5 : decode cJ2_charAt_3b067 5 = .ok (.aload_n 0, 1) := by decide +kernel
theorem dJ2_charAt_3b067_6 : decode cJ2_charAt_3b067 6 = .ok (.iload_n 1, 1) := by decide +kernel
theorem dJ2_charAt_3b067_7 : decode cJ2_charAt_3b067 7 = .ok (.invokestatic 71, 3) := by decide +kernel
theorem dJ2_charAt_3b067_10 : decode cJ2_charAt_3b067 10 = .ok (.ireturn, 1) := by decide +kernel
theorem dJ2_checkIndex_2214a_0 : decode cJ2_checkIndex_2214a 0 = .ok (.iload_n 0, 1) := by decide +kernel
theorem dJ2_checkIndex_2214a_1 : decode cJ2_checkIndex_2214a 1 = .ok (.aload_n 1, 1) := by decide +kernel
theorem dJ2_checkIndex_2214a_2 : decode cJ2_checkIndex_2214a 2 = .ok (.invokestatic 48, 3) := by decide +kernel
theorem dJ2_checkIndex_2214a_5 : decode cJ2_checkIndex_2214a 5 = .ok (.invokestatic 414, 3) := by decide +kernel
theorem dJ2_checkIndex_2214a_8 : decode cJ2_checkIndex_2214a 8 = .ok (.return_, 1) := by decide +kernel
theorem dJ7_fill_53178_0 : decode cJ7_fill_53178 0 = .ok (.iconst 0, 1) := by decide +kernel
theorem dJ7_fill_53178_1 : decode cJ7_fill_53178 1 = .ok (.istore_n 2, 1) := by decide +kernel
theorem dJ7_fill_53178_2 : decode cJ7_fill_53178 2 = .ok (.aload_n 0, 1) := by decide +kernel
theorem dJ7_fill_53178_3 : decode cJ7_fill_53178 3 = .ok (.arraylength, 1) := by decide +kernel
theorem dJ7_fill_53178_4 : decode cJ7_fill_53178 4 = .ok (.istore_n 3, 1) := by decide +kernel
theorem dJ7_fill_53178_5 : decode cJ7_fill_53178 5 = .ok (.iload_n 2, 1) := by decide +kernel
theorem dJ7_fill_53178_6 : decode cJ7_fill_53178 6 = .ok (.iload_n 3, 1) := by decide +kernel
theorem dJ7_fill_53178_7 : decode cJ7_fill_53178 7 = .ok (.if_icmp .ge 13, 3) := by decide +kernel
theorem dJ7_fill_53178_10 : decode cJ7_fill_53178 10 = .ok (.aload_n 0, 1) := by decide +kernel
theorem dJ7_fill_53178_11 : decode cJ7_fill_53178 11 = .ok (.iload_n 2, 1) := by decide +kernel
theorem dJ7_fill_53178_12 : decode cJ7_fill_53178 12 = .ok (.iload_n 1, 1) := by decide +kernel
theorem dJ7_fill_53178_13 : decode cJ7_fill_53178 13 = .ok (.iastore, 1) := by decide +kernel
theorem dJ7_fill_53178_14 : decode cJ7_fill_53178 14 = .ok (.iinc 2 1, 3) := by decide +kernel
theorem dJ7_fill_53178_17 : decode cJ7_fill_53178 17 = .ok (.goto (-12), 3) := by decide +kernel
theorem dJ7_fill_53178_20 : decode cJ7_fill_53178 20 = .ok (.return_, 1) := by decide +kernel
theorem dJ3_checkIndex_8e157_0 : decode cJ3_checkIndex_8e157 0 = .ok (.iload_n 0, 1) := by decide +kernel
theorem dJ3_checkIndex_8e157_1 : decode cJ3_checkIndex_8e157 1 = .ok (.ifCond .lt 8, 3) := by decide +kernel
theorem dJ3_checkIndex_8e157_4 : decode cJ3_checkIndex_8e157 4 = .ok (.iload_n 0, 1) := by decide +kernel
theorem dJ3_checkIndex_8e157_5 : decode cJ3_checkIndex_8e157 5 = .ok (.iload_n 1, 1) := by decide +kernel
theorem dJ3_checkIndex_8e157_6 : decode cJ3_checkIndex_8e157 6 = .ok (.if_icmp .lt 10, 3) := by decide +kernel
theorem dJ3_checkIndex_8e157_9 : decode cJ3_checkIndex_8e157 9 = .ok (.aload_n 2, 1) := by decide +kernel
theorem dJ3_checkIndex_8e157_10 : decode cJ3_checkIndex_8e157 10 = .ok (.iload_n 0, 1) := by decide +kernel
theorem dJ3_checkIndex_8e157_11 : decode cJ3_checkIndex_8e157 11 = .ok (.iload_n 1, 1) := by decide +kernel
theorem dJ3_checkIndex_8e157_12 : decode cJ3_checkIndex_8e157 12 = .ok (.invokestatic 95, 3) := by decide +kernel
theorem dJ3_checkIndex_8e157_15 : decode cJ3_checkIndex_8e157 15 = .ok (.athrow, 1) := by decide +kernel
theorem dJ3_checkIndex_8e157_16 : decode cJ3_checkIndex_8e157 16 = .ok (.iload_n 0, 1) := by decide +kernel
theorem dJ3_checkIndex_8e157_17 : decode cJ3_checkIndex_8e157 17 = .ok (.ireturn, 1) := by decide +kernel
