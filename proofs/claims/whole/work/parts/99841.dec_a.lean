theorem dX0_init_0 : decode cX0_init 0 = .ok (.aload_n 0, 1) := by decide +kernel
theorem dX0_init_1 : decode cX0_init 1 = .ok (.invokespecial 3, 3) := by decide +kernel
theorem dX0_init_4 : decode cX0_init 4 = .ok (.aload_n 0, 1) := by decide +kernel
theorem dX0_init_5 : decode cX0_init 5 = .ok (.sipush 360, 3) := by decide +kernel
theorem dX0_init_8 : decode cX0_init 8 = .ok (.newarray .int, 2) := by decide +kernel
theorem dX0_init_10 : decode cX0_init 10 = .ok (.putfield 9, 3) := by decide +kernel
theorem dX0_init_13 : decode cX0_init 13 = .ok (.aload_n 0, 1) := by decide +kernel
theorem dX0_init_14 : decode cX0_init 14 = .ok (.bipush 120, 2) := by decide +kernel
theorem dX0_init_16 : decode cX0_init 16 = .ok (.newarray .int, 2) := by decide +kernel
theorem dX0_init_18 : decode cX0_init 18 = .ok (.putfield 15, 3) := by decide +kernel
theorem dX0_init_21 : decode cX0_init 21 = .ok (.aload_n 0, 1) := by decide +kernel
theorem dX0_init_22 : decode cX0_init 22 = .ok (.aload_n 1, 1) := by decide +kernel
theorem dX0_init_23 : decode cX0_init 23 = .ok (.putfield 18, 3) := by decide +kernel
theorem dX0_init_26 : decode cX0_init 26 = .ok (.aload_n 0, 1) := by decide +kernel
theorem dX0_init_27 : decode cX0_init 27 = .ok (.aload_n 1, 1) := by decide +kernel
theorem dX0_init_28 : decode cX0_init 28 = .ok (.getfield 22, 3) := by decide +kernel
theorem dX0_init_31 : decode cX0_init 31 = .ok (.iconst 0, 1) := by decide +kernel
theorem dX0_init_32 : decode cX0_init 32 = .ok (.aaload, 1) := by decide +kernel
theorem dX0_init_33 : decode cX0_init 33 = .ok (.putfield 28, 3) := by decide +kernel
theorem dX0_init_36 : decode cX0_init 36 = .ok (.return_, 1) := by decide +kernel
theorem dX0_close_0 : decode cX0_close 0 = .ok (.aload_n 0, 1) := by decide +kernel
theorem dX0_close_1 : decode cX0_close 1 = .ok (.aload_n 1, 1) := by decide +kernel
theorem dX0_close_2 : decode cX0_close 2 = .ok (.putfield 18, 3) := by decide +kernel
theorem dX0_close_5 : decode cX0_close 5 = .ok (.aload_n 0, 1) := by decide +kernel
theorem dX0_close_6 : decode cX0_close 6 = .ok (.aload_n 2, 1) := by decide +kernel
theorem dX0_close_7 : decode cX0_close 7 = .ok (.putfield 28, 3) := by decide +kernel
theorem dX0_close_10 : decode cX0_close 10 = .ok (.aload_n 0, 1) := by decide +kernel
theorem dX0_close_11 : decode cX0_close 11 = .ok (.invokevirtual 32, 3) := by decide +kernel
theorem dX0_close_14 : decode cX0_close 14 = .ok (.ifCond .eq 6, 3) := by decide +kernel
theorem dX0_close_17 : decode cX0_close 17 = .ok (.bipush 7, 2) := by decide +kernel
theorem dX0_close_19 : decode cX0_close 19 = .ok (.ireturn, 1) := by decide +kernel
theorem dX0_close_20 : decode cX0_close 20 = .ok (.aload_n 0, 1) := by decide +kernel
theorem dX0_close_21 : decode cX0_close 21 = .ok (.invokevirtual 36, 3) := by decide +kernel
theorem dX0_close_24 : decode cX0_close 24 = .ok (.ifCond .ne 6, 3) := by decide +kernel
theorem dX0_close_27 : decode cX0_close 27 = .ok (.bipush 8, 2) := by decide +kernel
theorem dX0_close_29 : decode cX0_close 29 = .ok (.ireturn, 1) := by decide +kernel
theorem dX0_close_30 : decode cX0_close 30 = .ok (.aload_n 0, 1) := by decide +kernel
theorem dX0_close_31 : decode cX0_close 31 = .ok (.invokevirtual 39, 3) := by decide +kernel
theorem dX0_close_34 : decode cX0_close 34 = .ok (.aload_n 0, 1) := by decide +kernel
theorem dX0_close_35 : decode cX0_close 35 = .ok (.invokevirtual 42, 3) := by decide +kernel
theorem dX0_close_38 : decode cX0_close 38 = .ok (.aload_n 0, 1) := by decide +kernel
theorem dX0_close_39 : decode cX0_close 39 = .ok (.invokevirtual 45, 3) := by decide +kernel
theorem dX0_close_42 : decode cX0_close 42 = .ok (.aload_n 0, 1) := by decide +kernel
theorem dX0_close_43 : decode cX0_close 43 = .ok (.invokevirtual 48, 3) := by decide +kernel
theorem dX0_close_46 : decode cX0_close 46 = .ok (.ifCond .eq 6, 3) := by decide +kernel
theorem dX0_close_49 : decode cX0_close 49 = .ok (.bipush 9, 2) := by decide +kernel
theorem dX0_close_51 : decode cX0_close 51 = .ok (.ireturn, 1) := by decide +kernel
theorem dX0_close_52 : decode cX0_close 52 = .ok (.aload_n 0, 1) := by decide +kernel
theorem dX0_close_53 : decode cX0_close 53 = .ok (.invokevirtual 51, 3) := by decide +kernel
theorem dX0_close_56 : decode cX0_close 56 = .ok (.ifCond .eq 6, 3) := by decide +kernel
theorem dX0_close_59 : decode cX0_close 59 = .ok (.bipush 10, 2) := by decide +kernel
theorem dX0_close_61 : decode cX0_close 61 = .ok (.ireturn, 1) := by decide +kernel
theorem dX0_close_62 : decode cX0_close 62 = .ok (.aload_n 0, 1) := by decide +kernel
theorem dX0_close_63 : decode cX0_close 63 = .ok (.invokevirtual 54, 3) := by decide +kernel
theorem dX0_close_66 : decode cX0_close 66 = .ok (.iconst 0, 1) := by decide +kernel
theorem dX0_close_67 : decode cX0_close 67 = .ok (.ireturn, 1) := by decide +kernel
theorem dX0_hasTwins_0 : decode cX0_hasTwins 0 = .ok (.aload_n 0, 1) := by decide +kernel
theorem dX0_hasTwins_1 : decode cX0_hasTwins 1 = .ok (.getfield 28, 3) := by decide +kernel
theorem dX0_hasTwins_4 : decode cX0_hasTwins 4 = .ok (.getfield 57, 3) := by decide +kernel
theorem dX0_hasTwins_7 : decode cX0_hasTwins 7 = .ok (.istore_n 1, 1) := by decide +kernel
theorem dX0_hasTwins_8 : decode cX0_hasTwins 8 = .ok (.iload_n 1, 1) := by decide +kernel
theorem dX0_hasTwins_9 : decode cX0_hasTwins 9 = .ok (.aload_n 0, 1) := by decide +kernel
theorem dX0_hasTwins_10 : decode cX0_hasTwins 10 = .ok (.getfield 18, 3) := by decide +kernel
theorem dX0_hasTwins_13 : decode cX0_hasTwins 13 = .ok (.getfield 63, 3) := by decide +kernel
theorem dX0_hasTwins_16 : decode cX0_hasTwins 16 = .ok (.if_icmp .ge 54, 3) := by decide +kernel
theorem dX0_hasTwins_19 : decode cX0_hasTwins 19 = .ok (.aload_n 0, 1) := by decide +kernel
theorem dX0_hasTwins_20 : decode cX0_hasTwins 20 = .ok (.getfield 28, 3) := by decide +kernel
theorem dX0_hasTwins_23 : decode cX0_hasTwins 23 = .ok (.getfield 57, 3) := by decide +kernel
theorem dX0_hasTwins_26 : decode cX0_hasTwins 26 = .ok (.istore_n 2, 1) := by decide +kernel
theorem dX0_hasTwins_27 : decode cX0_hasTwins 27 = .ok (.iload_n 2, 1) := by decide +kernel
theorem dX0_hasTwins_28 : decode cX0_hasTwins 28 = .ok (.iload_n 1, 1) := by decide +kernel
theorem dX0_hasTwins_29 : decode cX0_hasTwins 29 = .ok (.if_icmp .ge 35, 3) := by decide +kernel
theorem dX0_hasTwins_32 : decode cX0_hasTwins 32 = .ok (.aload_n 0, 1) := by decide +kernel
theorem dX0_hasTwins_33 : decode cX0_hasTwins 33 = .ok (.getfield 18, 3) := by decide +kernel
theorem dX0_hasTwins_36 : decode cX0_hasTwins 36 = .ok (.getfield 66, 3) := by decide +kernel
theorem dX0_hasTwins_39 : decode cX0_hasTwins 39 = .ok (.iload_n 1, 1) := by decide +kernel
theorem dX0_hasTwins_40 : decode cX0_hasTwins 40 = .ok (.aaload, 1) := by decide +kernel
theorem dX0_hasTwins_41 : decode cX0_hasTwins 41 = .ok (.aload_n 0, 1) := by decide +kernel
theorem dX0_hasTwins_42 : decode cX0_hasTwins 42 = .ok (.getfield 18, 3) := by decide +kernel
theorem dX0_hasTwins_45 : decode cX0_hasTwins 45 = .ok (.getfield 66, 3) := by decide +kernel
theorem dX0_hasTwins_48 : decode cX0_hasTwins 48 = .ok (.iload_n 2, 1) := by decide +kernel
theorem dX0_hasTwins_49 : decode cX0_hasTwins 49 = .ok (.aaload, 1) := by decide +kernel
theorem dX0_hasTwins_50 : decode cX0_hasTwins 50 = .ok (.invokevirtual 70, 3) := by decide +kernel
theorem dX0_hasTwins_53 : decode cX0_hasTwins 53 = .ok (.ifCond .eq 5, 3) := by decide +kernel
theorem dX0_hasTwins_56 : decode cX0_hasTwins 56 = .ok (.iconst 1, 1) := by decide +kernel
theorem dX0_hasTwins_57 : decode cX0_hasTwins 57 = .ok (.ireturn, 1) := by decide +kernel
theorem dX0_hasTwins_58 : decode cX0_hasTwins 58 = .ok (.iinc 2 1, 3) := by decide +kernel
theorem dX0_hasTwins_61 : decode cX0_hasTwins 61 = .ok (.goto (-34), 3) := by decide +kernel
theorem dX0_hasTwins_64 : decode cX0_hasTwins 64 = .ok (.iinc 1 1, 3) := by decide +kernel
theorem dX0_hasTwins_67 : decode cX0_hasTwins 67 = .ok (.goto (-59), 3) := by decide +kernel
theorem dX0_hasTwins_70 : decode cX0_hasTwins 70 = .ok (.iconst 0, 1) := by decide +kernel
theorem dX0_hasTwins_71 : decode cX0_hasTwins 71 = .ok (.ireturn, 1) := by decide +kernel
theorem dX0_gatherAbove_0 : decode cX0_gatherAbove 0 = .ok (.iconst 0, 1) := by decide +kernel
theorem dX0_gatherAbove_1 : decode cX0_gatherAbove 1 = .ok (.istore_n 1, 1) := by decide +kernel
theorem dX0_gatherAbove_2 : decode cX0_gatherAbove 2 = .ok (.iconst 0, 1) := by decide +kernel
theorem dX0_gatherAbove_3 : decode cX0_gatherAbove 3 = .ok (.istore_n 2, 1) := by decide +kernel
theorem dX0_gatherAbove_4 : decode cX0_gatherAbove 4 = .ok (.iload_n 2, 1) := by decide +kernel
theorem dX0_gatherAbove_5 : decode cX0_gatherAbove 5 = .ok (.aload_n 0, 1) := by decide +kernel
theorem dX0_gatherAbove_6 : decode cX0_gatherAbove 6 = .ok (.getfield 28, 3) := by decide +kernel
theorem dX0_gatherAbove_9 : decode cX0_gatherAbove 9 = .ok (.getfield 76, 3) := by decide +kernel
theorem dX0_gatherAbove_12 : decode cX0_gatherAbove 12 = .ok (.if_icmp .ge 84, 3) := by decide +kernel
theorem dX0_gatherAbove_15 : decode cX0_gatherAbove 15 = .ok (.aload_n 0, 1) := by decide +kernel
theorem dX0_gatherAbove_16 : decode cX0_gatherAbove 16 = .ok (.getfield 18, 3) := by decide +kernel
theorem dX0_gatherAbove_19 : decode cX0_gatherAbove 19 = .ok (.getfield 22, 3) := by decide +kernel
theorem dX0_gatherAbove_22 : decode cX0_gatherAbove 22 = .ok (.aload_n 0, 1) := by decide +kernel
theorem dX0_gatherAbove_23 : decode cX0_gatherAbove 23 = .ok (.getfield 28, 3) := by decide +kernel
theorem dX0_gatherAbove_26 : decode cX0_gatherAbove 26 = .ok (.getfield 79, 3) := by decide +kernel
theorem dX0_gatherAbove_29 : decode cX0_gatherAbove 29 = .ok (.iload_n 2, 1) := by decide +kernel
theorem dX0_gatherAbove_30 : decode cX0_gatherAbove 30 = .ok (.iaload, 1) := by decide +kernel
theorem dX0_gatherAbove_31 : decode cX0_gatherAbove 31 = .ok (.aaload, 1) := by decide +kernel
theorem dX0_gatherAbove_32 : decode cX0_gatherAbove 32 = .ok (.astore_n 3, 1) := by decide +kernel
theorem dX0_gatherAbove_33 : decode cX0_gatherAbove 33 = .ok (.aload_n 0, 1) := by decide +kernel
theorem dX0_gatherAbove_34 : decode cX0_gatherAbove 34 = .ok (.aload_n 3, 1) := by decide +kernel
theorem dX0_gatherAbove_35 : decode cX0_gatherAbove 35 = .ok (.getfield 82, 3) := by decide +kernel
theorem dX0_gatherAbove_38 : decode cX0_gatherAbove 38 = .ok (.iload_n 1, 1) := by decide +kernel
theorem dX0_gatherAbove_39 : decode cX0_gatherAbove 39 = .ok (.invokevirtual 85, 3) := by decide +kernel
theorem dX0_gatherAbove_42 : decode cX0_gatherAbove 42 = .ok (.istore_n 1, 1) := by decide +kernel
theorem dX0_gatherAbove_43 : decode cX0_gatherAbove 43 = .ok (.iconst 0, 1) := by decide +kernel
theorem dX0_gatherAbove_44 : decode cX0_gatherAbove 44 = .ok (.istore 4, 2) := by decide +kernel
theorem dX0_gatherAbove_46 : decode cX0_gatherAbove 46 = .ok (.iload 4, 2) := by decide +kernel
theorem dX0_gatherAbove_48 : decode cX0_gatherAbove 48 = .ok (.aload_n 3, 1) := by decide +kernel
theorem dX0_gatherAbove_49 : decode cX0_gatherAbove 49 = .ok (.getfield 89, 3) := by decide +kernel
theorem dX0_gatherAbove_52 : decode cX0_gatherAbove 52 = .ok (.if_icmp .ge 38, 3) := by decide +kernel
theorem dX0_gatherAbove_55 : decode cX0_gatherAbove 55 = .ok (.aload_n 3, 1) := by decide +kernel
theorem dX0_gatherAbove_56 : decode cX0_gatherAbove 56 = .ok (.getfield 92, 3) := by decide +kernel
theorem dX0_gatherAbove_59 : decode cX0_gatherAbove 59 = .ok (.iload 4, 2) := by decide +kernel
theorem dX0_gatherAbove_61 : decode cX0_gatherAbove 61 = .ok (.iaload, 1) := by decide +kernel
theorem dX0_gatherAbove_62 : decode cX0_gatherAbove 62 = .ok (.istore 5, 2) := by decide +kernel
theorem dX0_gatherAbove_64 : decode cX0_gatherAbove 64 = .ok (.aload_n 0, 1) := by decide +kernel
theorem dX0_gatherAbove_65 : decode cX0_gatherAbove 65 = .ok (.aload_n 3, 1) := by decide +kernel
theorem dX0_gatherAbove_66 : decode cX0_gatherAbove 66 = .ok (.iload 5, 2) := by decide +kernel
theorem dX0_gatherAbove_68 : decode cX0_gatherAbove 68 = .ok (.invokevirtual 95, 3) := by decide +kernel
theorem dX0_gatherAbove_71 : decode cX0_gatherAbove 71 = .ok (.ifCond .ne 5, 3) := by decide +kernel
theorem dX0_gatherAbove_74 : decode cX0_gatherAbove 74 = .ok (.iconst 0, 1) := by decide +kernel
theorem dX0_gatherAbove_75 : decode cX0_gatherAbove 75 = .ok (.ireturn, 1) := by decide +kernel
theorem dX0_gatherAbove_76 : decode cX0_gatherAbove 76 = .ok (.aload_n 0, 1) := by decide +kernel
theorem dX0_gatherAbove_77 : decode cX0_gatherAbove 77 = .ok (.iload 5, 2) := by decide +kernel
theorem dX0_gatherAbove_79 : decode cX0_gatherAbove 79 = .ok (.iload_n 1, 1) := by decide +kernel
theorem dX0_gatherAbove_80 : decode cX0_gatherAbove 80 = .ok (.invokevirtual 85, 3) := by decide +kernel
theorem dX0_gatherAbove_83 : decode cX0_gatherAbove 83 = .ok (.istore_n 1, 1) := by decide +kernel
theorem dX0_gatherAbove_84 : decode cX0_gatherAbove 84 = .ok (.iinc 4 1, 3) := by decide +kernel
theorem dX0_gatherAbove_87 : decode cX0_gatherAbove 87 = .ok (.goto (-41), 3) := by decide +kernel
theorem dX0_gatherAbove_90 : decode cX0_gatherAbove 90 = .ok (.iinc 2 1, 3) := by decide +kernel
theorem dX0_gatherAbove_93 : decode cX0_gatherAbove 93 = .ok (.goto (-89), 3) := by decide +kernel
theorem dX0_gatherAbove_96 : decode cX0_gatherAbove 96 = .ok (.iconst 1, 1) := by decide +kernel
theorem dX0_gatherAbove_97 : decode cX0_gatherAbove 97 = .ok (.ireturn, 1) := by decide +kernel
theorem dX0_list_0 : decode cX0_list 0 = .ok (.iload_n 2, 1) := by decide +kernel
theorem dX0_list_1 : decode cX0_list 1 = .ok (.iload_n 1, 1) := by decide +kernel
theorem dX0_list_2 : decode cX0_list 2 = .ok (.iushr, 1) := by decide +kernel
theorem dX0_list_3 : decode cX0_list 3 = .ok (.iconst 1, 1) := by decide +kernel
theorem dX0_list_4 : decode cX0_list 4 = .ok (.iand, 1) := by decide +kernel
theorem dX0_list_5 : decode cX0_list 5 = .ok (.ifCond .ne 44, 3) := by decide +kernel
theorem dX0_list_8 : decode cX0_list 8 = .ok (.aload_n 0, 1) := by decide +kernel
theorem dX0_list_9 : decode cX0_list 9 = .ok (.getfield 28, 3) := by decide +kernel
theorem dX0_list_12 : decode cX0_list 12 = .ok (.getfield 89, 3) := by decide +kernel
theorem dX0_list_15 : decode cX0_list 15 = .ok (.bipush 24, 2) := by decide +kernel
theorem dX0_list_17 : decode cX0_list 17 = .ok (.if_icmp .ge 32, 3) := by decide +kernel
theorem dX0_list_20 : decode cX0_list 20 = .ok (.aload_n 0, 1) := by decide +kernel
theorem dX0_list_21 : decode cX0_list 21 = .ok (.getfield 28, 3) := by decide +kernel
theorem dX0_list_24 : decode cX0_list 24 = .ok (.getfield 92, 3) := by decide +kernel
theorem dX0_list_27 : decode cX0_list 27 = .ok (.aload_n 0, 1) := by decide +kernel
theorem dX0_list_28 : decode cX0_list 28 = .ok (.getfield 28, 3) := by decide +kernel
theorem dX0_list_31 : decode cX0_list 31 = .ok (.getfield 89, 3) := by decide +kernel
theorem dX0_list_34 : decode cX0_list 34 = .ok (.iload_n 1, 1) := by decide +kernel
theorem dX0_list_35 : decode cX0_list 35 = .ok (.iastore, 1) := by decide +kernel
theorem dX0_list_36 : decode cX0_list 36 = .ok (.aload_n 0, 1) := by decide +kernel
theorem dX0_list_37 : decode cX0_list 37 = .ok (.getfield 28, 3) := by decide +kernel
theorem dX0_list_40 : decode cX0_list 40 = .ok (.dup, 1) := by decide +kernel
theorem dX0_list_41 : decode cX0_list 41 = .ok (.getfield 89, 3) := by decide +kernel
theorem dX0_list_44 : decode cX0_list 44 = .ok (.iconst 1, 1) := by decide +kernel
theorem dX0_list_45 : decode cX0_list 45 = .ok (.iadd, 1) := by decide +kernel
theorem dX0_list_46 : decode cX0_list 46 = .ok (.putfield 89, 3) := by decide +kernel
theorem dX0_list_49 : decode cX0_list 49 = .ok (.iload_n 2, 1) := by decide +kernel
theorem dX0_list_50 : decode cX0_list 50 = .ok (.iconst 1, 1) := by decide +kernel
theorem dX0_list_51 : decode cX0_list 51 = .ok (.iload_n 1, 1) := by decide +kernel
theorem dX0_list_52 : decode cX0_list 52 = .ok (.ishl, 1) := by decide +kernel
theorem dX0_list_53 : decode cX0_list 53 = .ok (.ior, 1) := by decide +kernel
theorem dX0_list_54 : decode cX0_list 54 = .ok (.ireturn, 1) := by decide +kernel
theorem dX0_takeArguments_0 : decode cX0_takeArguments 0 = .ok (.aload_n 0, 1) := by decide +kernel
theorem dX0_takeArguments_1 : decode cX0_takeArguments 1 = .ok (.getfield 28, 3) := by decide +kernel
theorem dX0_takeArguments_4 : decode cX0_takeArguments 4 = .ok (.iload_n 2, 1) := by decide +kernel
theorem dX0_takeArguments_5 : decode cX0_takeArguments 5 = .ok (.invokevirtual 99, 3) := by decide +kernel
theorem dX0_takeArguments_8 : decode cX0_takeArguments 8 = .ok (.istore_n 3, 1) := by decide +kernel
theorem dX0_takeArguments_9 : decode cX0_takeArguments 9 = .ok (.iconst 0, 1) := by decide +kernel
theorem dX0_takeArguments_10 : decode cX0_takeArguments 10 = .ok (.istore 4, 2) := by decide +kernel
theorem dX0_takeArguments_12 : decode cX0_takeArguments 12 = .ok (.iload 4, 2) := by decide +kernel
theorem dX0_takeArguments_14 : decode cX0_takeArguments 14 = .ok (.aload_n 0, 1) := by decide +kernel
theorem dX0_takeArguments_15 : decode cX0_takeArguments 15 = .ok (.getfield 18, 3) := by decide +kernel
theorem dX0_takeArguments_18 : decode cX0_takeArguments 18 = .ok (.getfield 22, 3) := by decide +kernel
theorem dX0_takeArguments_21 : decode cX0_takeArguments 21 = .ok (.iload_n 2, 1) := by decide +kernel
theorem dX0_takeArguments_22 : decode cX0_takeArguments 22 = .ok (.aaload, 1) := by decide +kernel
theorem dX0_takeArguments_23 : decode cX0_takeArguments 23 = .ok (.getfield 103, 3) := by decide +kernel
theorem dX0_takeArguments_26 : decode cX0_takeArguments 26 = .ok (.if_icmp .ge 76, 3) := by decide +kernel
theorem dX0_takeArguments_29 : decode cX0_takeArguments 29 = .ok (.aload_n 1, 1) := by decide +kernel
theorem dX0_takeArguments_30 : decode cX0_takeArguments 30 = .ok (.iload_n 2, 1) := by decide +kernel
theorem dX0_takeArguments_31 : decode cX0_takeArguments 31 = .ok (.iload 4, 2) := by decide +kernel
theorem dX0_takeArguments_33 : decode cX0_takeArguments 33 = .ok (.invokevirtual 106, 3) := by decide +kernel
theorem dX0_takeArguments_36 : decode cX0_takeArguments 36 = .ok (.istore 5, 2) := by decide +kernel
theorem dX0_takeArguments_38 : decode cX0_takeArguments 38 = .ok (.iload 5, 2) := by decide +kernel
theorem dX0_takeArguments_40 : decode cX0_takeArguments 40 = .ok (.bipush 100, 2) := by decide +kernel
theorem dX0_takeArguments_42 : decode cX0_takeArguments 42 = .ok (.if_icmp .lt 21, 3) := by decide +kernel
theorem dX0_takeArguments_45 : decode cX0_takeArguments 45 = .ok (.aload_n 0, 1) := by decide +kernel
theorem dX0_takeArguments_46 : decode cX0_takeArguments 46 = .ok (.getfield 28, 3) := by decide +kernel
theorem dX0_takeArguments_49 : decode cX0_takeArguments 49 = .ok (.aload_n 1, 1) := by decide +kernel
theorem dX0_takeArguments_50 : decode cX0_takeArguments 50 = .ok (.getfield 82, 3) := by decide +kernel
theorem dX0_takeArguments_53 : decode cX0_takeArguments 53 = .ok (.iload 5, 2) := by decide +kernel
theorem dX0_takeArguments_55 : decode cX0_takeArguments 55 = .ok (.bipush 100, 2) := by decide +kernel
theorem dX0_takeArguments_57 : decode cX0_takeArguments 57 = .ok (.isub, 1) := by decide +kernel
theorem dX0_takeArguments_58 : decode cX0_takeArguments 58 = .ok (.invokevirtual 106, 3) := by decide +kernel
theorem dX0_takeArguments_61 : decode cX0_takeArguments 61 = .ok (.istore 5, 2) := by decide +kernel
theorem dX0_takeArguments_63 : decode cX0_takeArguments 63 = .ok (.iload_n 3, 1) := by decide +kernel
theorem dX0_takeArguments_64 : decode cX0_takeArguments 64 = .ok (.ifCond .eq 20, 3) := by decide +kernel
theorem dX0_takeArguments_67 : decode cX0_takeArguments 67 = .ok (.aload_n 0, 1) := by decide +kernel
theorem dX0_takeArguments_68 : decode cX0_takeArguments 68 = .ok (.getfield 28, 3) := by decide +kernel
theorem dX0_takeArguments_71 : decode cX0_takeArguments 71 = .ok (.iload_n 2, 1) := by decide +kernel
theorem dX0_takeArguments_72 : decode cX0_takeArguments 72 = .ok (.iload 4, 2) := by decide +kernel
theorem dX0_takeArguments_74 : decode cX0_takeArguments 74 = .ok (.invokevirtual 106, 3) := by decide +kernel
theorem dX0_takeArguments_77 : decode cX0_takeArguments 77 = .ok (.iload 5, 2) := by decide +kernel
theorem dX0_takeArguments_79 : decode cX0_takeArguments 79 = .ok (.if_icmp .eq 5, 3) := by decide +kernel
theorem dX0_takeArguments_82 : decode cX0_takeArguments 82 = .ok (.iconst 0, 1) := by decide +kernel
theorem dX0_takeArguments_83 : decode cX0_takeArguments 83 = .ok (.ireturn, 1) := by decide +kernel
theorem dX0_takeArguments_84 : decode cX0_takeArguments 84 = .ok (.aload_n 0, 1) := by decide +kernel
theorem dX0_takeArguments_85 : decode cX0_takeArguments 85 = .ok (.getfield 28, 3) := by decide +kernel
theorem dX0_takeArguments_88 : decode cX0_takeArguments 88 = .ok (.iload_n 2, 1) := by decide +kernel
theorem dX0_takeArguments_89 : decode cX0_takeArguments 89 = .ok (.iload 4, 2) := by decide +kernel
theorem dX0_takeArguments_91 : decode cX0_takeArguments 91 = .ok (.iload 5, 2) := by decide +kernel
theorem dX0_takeArguments_93 : decode cX0_takeArguments 93 = .ok (.invokevirtual 109, 3) := by decide +kernel
theorem dX0_takeArguments_96 : decode cX0_takeArguments 96 = .ok (.iinc 4 1, 3) := by decide +kernel
theorem dX0_takeArguments_99 : decode cX0_takeArguments 99 = .ok (.goto (-87), 3) := by decide +kernel
theorem dX0_takeArguments_102 : decode cX0_takeArguments 102 = .ok (.aload_n 0, 1) := by decide +kernel
theorem dX0_takeArguments_103 : decode cX0_takeArguments 103 = .ok (.getfield 28, 3) := by decide +kernel
theorem dX0_takeArguments_106 : decode cX0_takeArguments 106 = .ok (.dup, 1) := by decide +kernel
theorem dX0_takeArguments_107 : decode cX0_takeArguments 107 = .ok (.getfield 113, 3) := by decide +kernel
theorem dX0_takeArguments_110 : decode cX0_takeArguments 110 = .ok (.iconst 1, 1) := by decide +kernel
theorem dX0_takeArguments_111 : decode cX0_takeArguments 111 = .ok (.iload_n 2, 1) := by decide +kernel
theorem dX0_takeArguments_112 : decode cX0_takeArguments 112 = .ok (.ishl, 1) := by decide +kernel
theorem dX0_takeArguments_113 : decode cX0_takeArguments 113 = .ok (.ior, 1) := by decide +kernel
theorem dX0_takeArguments_114 : decode cX0_takeArguments 114 = .ok (.putfield 113, 3) := by decide +kernel
theorem dX0_takeArguments_117 : decode cX0_takeArguments 117 = .ok (.iconst 1, 1) := by decide +kernel
theorem dX0_takeArguments_118 : decode cX0_takeArguments 118 = .ok (.ireturn, 1) := by decide +kernel
theorem dX0_gatherKinds_0 : decode cX0_gatherKinds 0 = .ok (.iconst 0, 1) := by decide +kernel
theorem dX0_gatherKinds_1 : decode cX0_gatherKinds 1 = .ok (.istore_n 1, 1) := by decide +kernel
theorem dX0_gatherKinds_2 : decode cX0_gatherKinds 2 = .ok (.iload_n 1, 1) := by decide +kernel
theorem dX0_gatherKinds_3 : decode cX0_gatherKinds 3 = .ok (.aload_n 0, 1) := by decide +kernel
theorem dX0_gatherKinds_4 : decode cX0_gatherKinds 4 = .ok (.getfield 18, 3) := by decide +kernel
theorem dX0_gatherKinds_7 : decode cX0_gatherKinds 7 = .ok (.getfield 63, 3) := by decide +kernel
theorem dX0_gatherKinds_10 : decode cX0_gatherKinds 10 = .ok (.if_icmp .ge 76, 3) := by decide +kernel
theorem dX0_gatherKinds_13 : decode cX0_gatherKinds 13 = .ok (.aload_n 0, 1) := by decide +kernel
theorem dX0_gatherKinds_14 : decode cX0_gatherKinds 14 = .ok (.getfield 18, 3) := by decide +kernel
theorem dX0_gatherKinds_17 : decode cX0_gatherKinds 17 = .ok (.getfield 66, 3) := by decide +kernel
theorem dX0_gatherKinds_20 : decode cX0_gatherKinds 20 = .ok (.iload_n 1, 1) := by decide +kernel
theorem dX0_gatherKinds_21 : decode cX0_gatherKinds 21 = .ok (.aaload, 1) := by decide +kernel
theorem dX0_gatherKinds_22 : decode cX0_gatherKinds 22 = .ok (.astore_n 2, 1) := by decide +kernel
theorem dX0_gatherKinds_23 : decode cX0_gatherKinds 23 = .ok (.aload_n 0, 1) := by decide +kernel
theorem dX0_gatherKinds_24 : decode cX0_gatherKinds 24 = .ok (.getfield 18, 3) := by decide +kernel
theorem dX0_gatherKinds_27 : decode cX0_gatherKinds 27 = .ok (.aload_n 0, 1) := by decide +kernel
theorem dX0_gatherKinds_28 : decode cX0_gatherKinds 28 = .ok (.getfield 28, 3) := by decide +kernel
theorem dX0_gatherKinds_31 : decode cX0_gatherKinds 31 = .ok (.getfield 82, 3) := by decide +kernel
theorem dX0_gatherKinds_34 : decode cX0_gatherKinds 34 = .ok (.aload_n 2, 1) := by decide +kernel
theorem dX0_gatherKinds_35 : decode cX0_gatherKinds 35 = .ok (.getfield 116, 3) := by decide +kernel
theorem dX0_gatherKinds_38 : decode cX0_gatherKinds 38 = .ok (.invokevirtual 118, 3) := by decide +kernel
theorem dX0_gatherKinds_41 : decode cX0_gatherKinds 41 = .ok (.ifCond .eq 39, 3) := by decide +kernel
theorem dX0_gatherKinds_44 : decode cX0_gatherKinds 44 = .ok (.iconst 0, 1) := by decide +kernel
theorem dX0_gatherKinds_45 : decode cX0_gatherKinds 45 = .ok (.istore_n 3, 1) := by decide +kernel
theorem dX0_gatherKinds_46 : decode cX0_gatherKinds 46 = .ok (.iload_n 3, 1) := by decide +kernel
theorem dX0_gatherKinds_47 : decode cX0_gatherKinds 47 = .ok (.iconst 2, 1) := by decide +kernel
theorem dX0_gatherKinds_48 : decode cX0_gatherKinds 48 = .ok (.if_icmp .gt 32, 3) := by decide +kernel
theorem dX0_gatherKinds_51 : decode cX0_gatherKinds 51 = .ok (.aload_n 0, 1) := by decide +kernel
theorem dX0_gatherKinds_52 : decode cX0_gatherKinds 52 = .ok (.getfield 9, 3) := by decide +kernel
theorem dX0_gatherKinds_55 : decode cX0_gatherKinds 55 = .ok (.iload_n 1, 1) := by decide +kernel
theorem dX0_gatherKinds_56 : decode cX0_gatherKinds 56 = .ok (.iconst 3, 1) := by decide +kernel
theorem dX0_gatherKinds_57 : decode cX0_gatherKinds 57 = .ok (.imul, 1) := by decide +kernel
theorem dX0_gatherKinds_58 : decode cX0_gatherKinds 58 = .ok (.iload_n 3, 1) := by decide +kernel
theorem dX0_gatherKinds_59 : decode cX0_gatherKinds 59 = .ok (.iadd, 1) := by decide +kernel
theorem dX0_gatherKinds_60 : decode cX0_gatherKinds 60 = .ok (.aload_n 0, 1) := by decide +kernel
theorem dX0_gatherKinds_61 : decode cX0_gatherKinds 61 = .ok (.getfield 18, 3) := by decide +kernel
theorem dX0_gatherKinds_64 : decode cX0_gatherKinds 64 = .ok (.aload_n 0, 1) := by decide +kernel
theorem dX0_gatherKinds_65 : decode cX0_gatherKinds 65 = .ok (.getfield 28, 3) := by decide +kernel
theorem dX0_gatherKinds_68 : decode cX0_gatherKinds 68 = .ok (.aload_n 2, 1) := by decide +kernel
theorem dX0_gatherKinds_69 : decode cX0_gatherKinds 69 = .ok (.iload_n 3, 1) := by decide +kernel
theorem dX0_gatherKinds_70 : decode cX0_gatherKinds 70 = .ok (.invokevirtual 122, 3) := by decide +kernel
theorem dX0_gatherKinds_73 : decode cX0_gatherKinds 73 = .ok (.iastore, 1) := by decide +kernel
theorem dX0_gatherKinds_74 : decode cX0_gatherKinds 74 = .ok (.iinc 3 1, 3) := by decide +kernel
theorem dX0_gatherKinds_77 : decode cX0_gatherKinds 77 = .ok (.goto (-31), 3) := by decide +kernel
theorem dX0_gatherKinds_80 : decode cX0_gatherKinds 80 = .ok (.iinc 1 1, 3) := by decide +kernel
theorem dX0_gatherKinds_83 : decode cX0_gatherKinds 83 = .ok (.goto (-81), 3) := by decide +kernel
theorem dX0_gatherKinds_86 : decode cX0_gatherKinds 86 = .ok (.return_, 1) := by decide +kernel
theorem dX0_gatherFree_0 : decode cX0_gatherFree 0 = .ok (.aload_n 0, 1) := by decide +kernel
theorem dX0_gatherFree_1 : decode cX0_gatherFree 1 = .ok (.iconst 0, 1) := by decide +kernel
theorem dX0_gatherFree_2 : decode cX0_gatherFree 2 = .ok (.putfield 126, 3) := by decide +kernel
theorem dX0_gatherFree_5 : decode cX0_gatherFree 5 = .ok (.iconst 0, 1) := by decide +kernel
theorem dX0_gatherFree_6 : decode cX0_gatherFree 6 = .ok (.istore_n 1, 1) := by decide +kernel
theorem dX0_gatherFree_7 : decode cX0_gatherFree 7 = .ok (.iload_n 1, 1) := by decide +kernel
theorem dX0_gatherFree_8 : decode cX0_gatherFree 8 = .ok (.aload_n 0, 1) := by decide +kernel
theorem dX0_gatherFree_9 : decode cX0_gatherFree 9 = .ok (.getfield 28, 3) := by decide +kernel
theorem dX0_gatherFree_12 : decode cX0_gatherFree 12 = .ok (.getfield 57, 3) := by decide +kernel
theorem dX0_gatherFree_15 : decode cX0_gatherFree 15 = .ok (.if_icmp .ge 52, 3) := by decide +kernel
theorem dX0_gatherFree_18 : decode cX0_gatherFree 18 = .ok (.aload_n 0, 1) := by decide +kernel
theorem dX0_gatherFree_19 : decode cX0_gatherFree 19 = .ok (.iload_n 1, 1) := by decide +kernel
theorem dX0_gatherFree_20 : decode cX0_gatherFree 20 = .ok (.invokevirtual 129, 3) := by decide +kernel
theorem dX0_gatherFree_23 : decode cX0_gatherFree 23 = .ok (.ifCond .eq 38, 3) := by decide +kernel
theorem dX0_gatherFree_26 : decode cX0_gatherFree 26 = .ok (.aload_n 0, 1) := by decide +kernel
theorem dX0_gatherFree_27 : decode cX0_gatherFree 27 = .ok (.getfield 18, 3) := by decide +kernel
theorem dX0_gatherFree_30 : decode cX0_gatherFree 30 = .ok (.getfield 66, 3) := by decide +kernel
theorem dX0_gatherFree_33 : decode cX0_gatherFree 33 = .ok (.iload_n 1, 1) := by decide +kernel
theorem dX0_gatherFree_34 : decode cX0_gatherFree 34 = .ok (.aaload, 1) := by decide +kernel
theorem dX0_gatherFree_35 : decode cX0_gatherFree 35 = .ok (.invokevirtual 132, 3) := by decide +kernel
theorem dX0_gatherFree_38 : decode cX0_gatherFree 38 = .ok (.ifCond .eq 23, 3) := by decide +kernel
theorem dX0_gatherFree_41 : decode cX0_gatherFree 41 = .ok (.aload_n 0, 1) := by decide +kernel
theorem dX0_gatherFree_42 : decode cX0_gatherFree 42 = .ok (.getfield 15, 3) := by decide +kernel
theorem dX0_gatherFree_45 : decode cX0_gatherFree 45 = .ok (.aload_n 0, 1) := by decide +kernel
theorem dX0_gatherFree_46 : decode cX0_gatherFree 46 = .ok (.getfield 126, 3) := by decide +kernel
theorem dX0_gatherFree_49 : decode cX0_gatherFree 49 = .ok (.iload_n 1, 1) := by decide +kernel
theorem dX0_gatherFree_50 : decode cX0_gatherFree 50 = .ok (.iastore, 1) := by decide +kernel
theorem dX0_gatherFree_51 : decode cX0_gatherFree 51 = .ok (.aload_n 0, 1) := by decide +kernel
theorem dX0_gatherFree_52 : decode cX0_gatherFree 52 = .ok (.dup, 1) := by decide +kernel
theorem dX0_gatherFree_53 : decode cX0_gatherFree 53 = .ok (.getfield 126, 3) := by decide +kernel
theorem dX0_gatherFree_56 : decode cX0_gatherFree 56 = .ok (.iconst 1, 1) := by decide +kernel
theorem dX0_gatherFree_57 : decode cX0_gatherFree 57 = .ok (.iadd, 1) := by decide +kernel
theorem dX0_gatherFree_58 : decode cX0_gatherFree 58 = .ok (.putfield 126, 3) := by decide +kernel
theorem dX0_gatherFree_61 : decode cX0_gatherFree 61 = .ok (.iinc 1 1, 3) := by decide +kernel
theorem dX0_gatherFree_64 : decode cX0_gatherFree 64 = .ok (.goto (-57), 3) := by decide +kernel
theorem dX0_gatherFree_67 : decode cX0_gatherFree 67 = .ok (.return_, 1) := by decide +kernel
theorem dX0_resultSeen_0 : decode cX0_resultSeen 0 = .ok (.aload_n 0, 1) := by decide +kernel
theorem dX0_resultSeen_1 : decode cX0_resultSeen 1 = .ok (.getfield 9, 3) := by decide +kernel
theorem dX0_resultSeen_4 : decode cX0_resultSeen 4 = .ok (.iload_n 1, 1) := by decide +kernel
theorem dX0_resultSeen_5 : decode cX0_resultSeen 5 = .ok (.iconst 3, 1) := by decide +kernel
theorem dX0_resultSeen_6 : decode cX0_resultSeen 6 = .ok (.imul, 1) := by decide +kernel
theorem dX0_resultSeen_7 : decode cX0_resultSeen 7 = .ok (.iconst 2, 1) := by decide +kernel
theorem dX0_resultSeen_8 : decode cX0_resultSeen 8 = .ok (.iadd, 1) := by decide +kernel
theorem dX0_resultSeen_9 : decode cX0_resultSeen 9 = .ok (.iaload, 1) := by decide +kernel
theorem dX0_resultSeen_10 : decode cX0_resultSeen 10 = .ok (.ireturn, 1) := by decide +kernel
theorem dX0_isAlike_0 : decode cX0_isAlike 0 = .ok (.iload_n 1, 1) := by decide +kernel
theorem dX0_isAlike_1 : decode cX0_isAlike 1 = .ok (.iconst 3, 1) := by decide +kernel
theorem dX0_isAlike_2 : decode cX0_isAlike 2 = .ok (.imul, 1) := by decide +kernel
theorem dX0_isAlike_3 : decode cX0_isAlike 3 = .ok (.istore_n 3, 1) := by decide +kernel
theorem dX0_isAlike_4 : decode cX0_isAlike 4 = .ok (.iload_n 2, 1) := by decide +kernel
theorem dX0_isAlike_5 : decode cX0_isAlike 5 = .ok (.iconst 3, 1) := by decide +kernel
theorem dX0_isAlike_6 : decode cX0_isAlike 6 = .ok (.imul, 1) := by decide +kernel
theorem dX0_isAlike_7 : decode cX0_isAlike 7 = .ok (.istore 4, 2) := by decide +kernel
theorem dX0_isAlike_9 : decode cX0_isAlike 9 = .ok (.aload_n 0, 1) := by decide +kernel
theorem dX0_isAlike_10 : decode cX0_isAlike 10 = .ok (.getfield 18, 3) := by decide +kernel
theorem dX0_isAlike_13 : decode cX0_isAlike 13 = .ok (.getfield 66, 3) := by decide +kernel
theorem dX0_isAlike_16 : decode cX0_isAlike 16 = .ok (.iload_n 1, 1) := by decide +kernel
theorem dX0_isAlike_17 : decode cX0_isAlike 17 = .ok (.aaload, 1) := by decide +kernel
theorem dX0_isAlike_18 : decode cX0_isAlike 18 = .ok (.getfield 135, 3) := by decide +kernel
theorem dX0_isAlike_21 : decode cX0_isAlike 21 = .ok (.aload_n 0, 1) := by decide +kernel
theorem dX0_isAlike_22 : decode cX0_isAlike 22 = .ok (.getfield 18, 3) := by decide +kernel
theorem dX0_isAlike_25 : decode cX0_isAlike 25 = .ok (.getfield 66, 3) := by decide +kernel
theorem dX0_isAlike_28 : decode cX0_isAlike 28 = .ok (.iload_n 2, 1) := by decide +kernel
theorem dX0_isAlike_29 : decode cX0_isAlike 29 = .ok (.aaload, 1) := by decide +kernel
theorem dX0_isAlike_30 : decode cX0_isAlike 30 = .ok (.getfield 135, 3) := by decide +kernel
theorem dX0_isAlike_33 : decode cX0_isAlike 33 = .ok (.lcmp, 1) := by decide +kernel
theorem dX0_isAlike_34 : decode cX0_isAlike 34 = .ok (.ifCond .ne 43, 3) := by decide +kernel
theorem dX0_isAlike_37 : decode cX0_isAlike 37 = .ok (.aload_n 0, 1) := by decide +kernel
theorem dX0_isAlike_38 : decode cX0_isAlike 38 = .ok (.getfield 9, 3) := by decide +kernel
theorem dX0_isAlike_41 : decode cX0_isAlike 41 = .ok (.iload_n 3, 1) := by decide +kernel
theorem dX0_isAlike_42 : decode cX0_isAlike 42 = .ok (.iaload, 1) := by decide +kernel
theorem dX0_isAlike_43 : decode cX0_isAlike 43 = .ok (.aload_n 0, 1) := by decide +kernel
theorem dX0_isAlike_44 : decode cX0_isAlike 44 = .ok (.getfield 9, 3) := by decide +kernel
theorem dX0_isAlike_47 : decode cX0_isAlike 47 = .ok (.iload 4, 2) := by decide +kernel
theorem dX0_isAlike_49 : decode cX0_isAlike 49 = .ok (.iaload, 1) := by decide +kernel
theorem dX0_isAlike_50 : decode cX0_isAlike 50 = .ok (.if_icmp .ne 27, 3) := by decide +kernel
theorem dX0_isAlike_53 : decode cX0_isAlike 53 = .ok (.aload_n 0, 1) := by decide +kernel
theorem dX0_isAlike_54 : decode cX0_isAlike 54 = .ok (.getfield 9, 3) := by decide +kernel
theorem dX0_isAlike_57 : decode cX0_isAlike 57 = .ok (.iload_n 3, 1) := by decide +kernel
theorem dX0_isAlike_58 : decode cX0_isAlike 58 = .ok (.iconst 1, 1) := by decide +kernel
theorem dX0_isAlike_59 : decode cX0_isAlike 59 = .ok (.iadd, 1) := by decide +kernel
theorem dX0_isAlike_60 : decode cX0_isAlike 60 = .ok (.iaload, 1) := by decide +kernel
theorem dX0_isAlike_61 : decode cX0_isAlike 61 = .ok (.aload_n 0, 1) := by decide +kernel
theorem dX0_isAlike_62 : decode cX0_isAlike 62 = .ok (.getfield 9, 3) := by decide +kernel
theorem dX0_isAlike_65 : decode cX0_isAlike 65 = .ok (.iload 4, 2) := by decide +kernel
theorem dX0_isAlike_67 : decode cX0_isAlike 67 = .ok (.iconst 1, 1) := by decide +kernel
theorem dX0_isAlike_68 : decode cX0_isAlike 68 = .ok (.iadd, 1) := by decide +kernel
theorem dX0_isAlike_69 : decode cX0_isAlike 69 = .ok (.iaload, 1) := by decide +kernel
theorem dX0_isAlike_70 : decode cX0_isAlike 70 = .ok (.if_icmp .ne 7, 3) := by decide +kernel
theorem dX0_isAlike_73 : decode cX0_isAlike 73 = .ok (.iconst 1, 1) := by decide +kernel
theorem dX0_isAlike_74 : decode cX0_isAlike 74 = .ok (.goto 4, 3) := by decide +kernel
theorem dX0_isAlike_77 : decode cX0_isAlike 77 = .ok (.iconst 0, 1) := by decide +kernel
theorem dX0_isAlike_78 : decode cX0_isAlike 78 = .ok (.ireturn, 1) := by decide +kernel
theorem dX0_isAbove_0 : decode cX0_isAbove 0 = .ok (.aload_n 0, 1) := by decide +kernel
theorem dX0_isAbove_1 : decode cX0_isAbove 1 = .ok (.getfield 28, 3) := by decide +kernel
theorem dX0_isAbove_4 : decode cX0_isAbove 4 = .ok (.aload_n 0, 1) := by decide +kernel
theorem dX0_isAbove_5 : decode cX0_isAbove 5 = .ok (.getfield 18, 3) := by decide +kernel
theorem dX0_isAbove_8 : decode cX0_isAbove 8 = .ok (.getfield 66, 3) := by decide +kernel
theorem dX0_isAbove_11 : decode cX0_isAbove 11 = .ok (.iload_n 1, 1) := by decide +kernel
theorem dX0_isAbove_12 : decode cX0_isAbove 12 = .ok (.aaload, 1) := by decide +kernel
theorem dX0_isAbove_13 : decode cX0_isAbove 13 = .ok (.getfield 116, 3) := by decide +kernel
theorem dX0_isAbove_16 : decode cX0_isAbove 16 = .ok (.invokevirtual 99, 3) := by decide +kernel
theorem dX0_isAbove_19 : decode cX0_isAbove 19 = .ok (.ireturn, 1) := by decide +kernel
theorem dX0_markOverrides_0 : decode cX0_markOverrides 0 = .ok (.aload_n 0, 1) := by decide +kernel
theorem dX0_markOverrides_1 : decode cX0_markOverrides 1 = .ok (.getfield 28, 3) := by decide +kernel
theorem dX0_markOverrides_4 : decode cX0_markOverrides 4 = .ok (.getfield 57, 3) := by decide +kernel
theorem dX0_markOverrides_7 : decode cX0_markOverrides 7 = .ok (.istore_n 1, 1) := by decide +kernel
theorem dX0_markOverrides_8 : decode cX0_markOverrides 8 = .ok (.iload_n 1, 1) := by decide +kernel
theorem dX0_markOverrides_9 : decode cX0_markOverrides 9 = .ok (.aload_n 0, 1) := by decide +kernel
theorem dX0_markOverrides_10 : decode cX0_markOverrides 10 = .ok (.getfield 18, 3) := by decide +kernel
theorem dX0_markOverrides_13 : decode cX0_markOverrides 13 = .ok (.getfield 63, 3) := by decide +kernel
theorem dX0_markOverrides_16 : decode cX0_markOverrides 16 = .ok (.if_icmp .ge 29, 3) := by decide +kernel
theorem dX0_markOverrides_19 : decode cX0_markOverrides 19 = .ok (.aload_n 0, 1) := by decide +kernel
theorem dX0_markOverrides_20 : decode cX0_markOverrides 20 = .ok (.getfield 18, 3) := by decide +kernel
theorem dX0_markOverrides_23 : decode cX0_markOverrides 23 = .ok (.getfield 66, 3) := by decide +kernel
theorem dX0_markOverrides_26 : decode cX0_markOverrides 26 = .ok (.iload_n 1, 1) := by decide +kernel
theorem dX0_markOverrides_27 : decode cX0_markOverrides 27 = .ok (.aaload, 1) := by decide +kernel
theorem dX0_markOverrides_28 : decode cX0_markOverrides 28 = .ok (.invokevirtual 132, 3) := by decide +kernel
theorem dX0_markOverrides_31 : decode cX0_markOverrides 31 = .ok (.ifCond .eq 8, 3) := by decide +kernel
theorem dX0_markOverrides_34 : decode cX0_markOverrides 34 = .ok (.aload_n 0, 1) := by decide +kernel
theorem dX0_markOverrides_35 : decode cX0_markOverrides 35 = .ok (.iload_n 1, 1) := by decide +kernel
theorem dX0_markOverrides_36 : decode cX0_markOverrides 36 = .ok (.invokevirtual 139, 3) := by decide +kernel
theorem dX0_markOverrides_39 : decode cX0_markOverrides 39 = .ok (.iinc 1 1, 3) := by decide +kernel
theorem dX0_markOverrides_42 : decode cX0_markOverrides 42 = .ok (.goto (-34), 3) := by decide +kernel
theorem dX0_markOverrides_45 : decode cX0_markOverrides 45 = .ok (.return_, 1) := by decide +kernel
theorem dX0_markOverridesOf_0 : decode cX0_markOverridesOf 0 = .ok (.aload_n 0, 1) := by decide +kernel
theorem dX0_markOverridesOf_1 : decode cX0_markOverridesOf 1 = .ok (.getfield 126, 3) := by decide +kernel
theorem dX0_markOverridesOf_4 : decode cX0_markOverridesOf 4 = .ok (.iconst 1, 1) := by decide +kernel
theorem dX0_markOverridesOf_5 : decode cX0_markOverridesOf 5 = .ok (.isub, 1) := by decide +kernel
theorem dX0_markOverridesOf_6 : decode cX0_markOverridesOf 6 = .ok (.istore_n 2, 1) := by decide +kernel
theorem dX0_markOverridesOf_7 : decode cX0_markOverridesOf 7 = .ok (.iload_n 2, 1) := by decide +kernel
theorem dX0_markOverridesOf_8 : decode cX0_markOverridesOf 8 = .ok (.ifCond .lt 51, 3) := by decide +kernel
theorem dX0_markOverridesOf_11 : decode cX0_markOverridesOf 11 = .ok (.aload_n 0, 1) := by decide +kernel
theorem dX0_markOverridesOf_12 : decode cX0_markOverridesOf 12 = .ok (.getfield 15, 3) := by decide +kernel
theorem dX0_markOverridesOf_15 : decode cX0_markOverridesOf 15 = .ok (.iload_n 2, 1) := by decide +kernel
theorem dX0_markOverridesOf_16 : decode cX0_markOverridesOf 16 = .ok (.iaload, 1) := by decide +kernel
theorem dX0_markOverridesOf_17 : decode cX0_markOverridesOf 17 = .ok (.istore_n 3, 1) := by decide +kernel
theorem dX0_markOverridesOf_18 : decode cX0_markOverridesOf 18 = .ok (.aload_n 0, 1) := by decide +kernel
theorem dX0_markOverridesOf_19 : decode cX0_markOverridesOf 19 = .ok (.iload_n 1, 1) := by decide +kernel
theorem dX0_markOverridesOf_20 : decode cX0_markOverridesOf 20 = .ok (.iload_n 3, 1) := by decide +kernel
theorem dX0_markOverridesOf_21 : decode cX0_markOverridesOf 21 = .ok (.invokevirtual 143, 3) := by decide +kernel
theorem dX0_markOverridesOf_24 : decode cX0_markOverridesOf 24 = .ok (.ifCond .eq 29, 3) := by decide +kernel
theorem dX0_markOverridesOf_27 : decode cX0_markOverridesOf 27 = .ok (.aload_n 0, 1) := by decide +kernel
theorem dX0_markOverridesOf_28 : decode cX0_markOverridesOf 28 = .ok (.iload_n 3, 1) := by decide +kernel
theorem dX0_markOverridesOf_29 : decode cX0_markOverridesOf 29 = .ok (.invokevirtual 146, 3) := by decide +kernel
theorem dX0_markOverridesOf_32 : decode cX0_markOverridesOf 32 = .ok (.ifCond .ne 12, 3) := by decide +kernel
theorem dX0_markOverridesOf_35 : decode cX0_markOverridesOf 35 = .ok (.aload_n 0, 1) := by decide +kernel
theorem dX0_markOverridesOf_36 : decode cX0_markOverridesOf 36 = .ok (.iload_n 1, 1) := by decide +kernel
theorem dX0_markOverridesOf_37 : decode cX0_markOverridesOf 37 = .ok (.iload_n 3, 1) := by decide +kernel
theorem dX0_markOverridesOf_38 : decode cX0_markOverridesOf 38 = .ok (.invokevirtual 149, 3) := by decide +kernel
theorem dX0_markOverridesOf_41 : decode cX0_markOverridesOf 41 = .ok (.ifCond .eq 12, 3) := by decide +kernel
theorem dX0_markOverridesOf_44 : decode cX0_markOverridesOf 44 = .ok (.aload_n 0, 1) := by decide +kernel
theorem dX0_markOverridesOf_45 : decode cX0_markOverridesOf 45 = .ok (.getfield 18, 3) := by decide +kernel
theorem dX0_markOverridesOf_48 : decode cX0_markOverridesOf 48 = .ok (.iload_n 1, 1) := by decide +kernel
theorem dX0_markOverridesOf_49 : decode cX0_markOverridesOf 49 = .ok (.iload_n 3, 1) := by decide +kernel
theorem dX0_markOverridesOf_50 : decode cX0_markOverridesOf 50 = .ok (.invokevirtual 152, 3) := by decide +kernel
theorem dX0_markOverridesOf_53 : decode cX0_markOverridesOf 53 = .ok (.iinc 2 (-1), 3) := by decide +kernel
theorem dX0_markOverridesOf_56 : decode cX0_markOverridesOf 56 = .ok (.goto (-49), 3) := by decide +kernel
theorem dX0_markOverridesOf_59 : decode cX0_markOverridesOf 59 = .ok (.return_, 1) := by decide +kernel
theorem dX0_isWithinReach_0 : decode cX0_isWithinReach 0 = .ok (.aload_n 0, 1) := by decide +kernel
theorem dX0_isWithinReach_1 : decode cX0_isWithinReach 1 = .ok (.getfield 18, 3) := by decide +kernel
theorem dX0_isWithinReach_4 : decode cX0_isWithinReach 4 = .ok (.getfield 66, 3) := by decide +kernel
theorem dX0_isWithinReach_7 : decode cX0_isWithinReach 7 = .ok (.iload_n 1, 1) := by decide +kernel
theorem dX0_isWithinReach_8 : decode cX0_isWithinReach 8 = .ok (.aaload, 1) := by decide +kernel
theorem dX0_isWithinReach_9 : decode cX0_isWithinReach 9 = .ok (.astore_n 2, 1) := by decide +kernel
theorem dX0_isWithinReach_10 : decode cX0_isWithinReach 10 = .ok (.aload_n 2, 1) := by decide +kernel
theorem dX0_isWithinReach_11 : decode cX0_isWithinReach 11 = .ok (.getfield 156, 3) := by decide +kernel
theorem dX0_isWithinReach_14 : decode cX0_isWithinReach 14 = .ok (.iconst 2, 1) := by decide +kernel
theorem dX0_isWithinReach_15 : decode cX0_isWithinReach 15 = .ok (.if_icmp .ge 24, 3) := by decide +kernel
theorem dX0_isWithinReach_18 : decode cX0_isWithinReach 18 = .ok (.aload_n 0, 1) := by decide +kernel
theorem dX0_isWithinReach_19 : decode cX0_isWithinReach 19 = .ok (.getfield 18, 3) := by decide +kernel
theorem dX0_isWithinReach_22 : decode cX0_isWithinReach 22 = .ok (.aload_n 0, 1) := by decide +kernel
theorem dX0_isWithinReach_23 : decode cX0_isWithinReach 23 = .ok (.getfield 28, 3) := by decide +kernel
theorem dX0_isWithinReach_26 : decode cX0_isWithinReach 26 = .ok (.getfield 82, 3) := by decide +kernel
theorem dX0_isWithinReach_29 : decode cX0_isWithinReach 29 = .ok (.aload_n 2, 1) := by decide +kernel
theorem dX0_isWithinReach_30 : decode cX0_isWithinReach 30 = .ok (.getfield 116, 3) := by decide +kernel
theorem dX0_isWithinReach_33 : decode cX0_isWithinReach 33 = .ok (.invokevirtual 159, 3) := by decide +kernel
theorem dX0_isWithinReach_36 : decode cX0_isWithinReach 36 = .ok (.ifCond .eq 7, 3) := by decide +kernel
theorem dX0_isWithinReach_39 : decode cX0_isWithinReach 39 = .ok (.iconst 1, 1) := by decide +kernel
theorem dX0_isWithinReach_40 : decode cX0_isWithinReach 40 = .ok (.goto 4, 3) := by decide +kernel
theorem dX0_isWithinReach_43 : decode cX0_isWithinReach 43 = .ok (.iconst 0, 1) := by decide +kernel
theorem dX0_isWithinReach_44 : decode cX0_isWithinReach 44 = .ok (.ireturn, 1) := by decide +kernel
theorem dX0_overridesBetween_0 : decode cX0_overridesBetween 0 = .ok (.iload_n 2, 1) := by decide +kernel
theorem dX0_overridesBetween_1 : decode cX0_overridesBetween 1 = .ok (.iconst 1, 1) := by decide +kernel
theorem dX0_overridesBetween_2 : decode cX0_overridesBetween 2 = .ok (.iadd, 1) := by decide +kernel
theorem dX0_overridesBetween_3 : decode cX0_overridesBetween 3 = .ok (.istore_n 3, 1) := by decide +kernel
theorem dX0_overridesBetween_4 : decode cX0_overridesBetween 4 = .ok (.iload_n 3, 1) := by decide +kernel
theorem dX0_overridesBetween_5 : decode cX0_overridesBetween 5 = .ok (.aload_n 0, 1) := by decide +kernel
theorem dX0_overridesBetween_6 : decode cX0_overridesBetween 6 = .ok (.getfield 28, 3) := by decide +kernel
theorem dX0_overridesBetween_9 : decode cX0_overridesBetween 9 = .ok (.getfield 57, 3) := by decide +kernel
theorem dX0_overridesBetween_12 : decode cX0_overridesBetween 12 = .ok (.if_icmp .ge 35, 3) := by decide +kernel
theorem dX0_overridesBetween_15 : decode cX0_overridesBetween 15 = .ok (.aload_n 0, 1) := by decide +kernel
theorem dX0_overridesBetween_16 : decode cX0_overridesBetween 16 = .ok (.getfield 18, 3) := by decide +kernel
theorem dX0_overridesBetween_19 : decode cX0_overridesBetween 19 = .ok (.iload_n 1, 1) := by decide +kernel
theorem dX0_overridesBetween_20 : decode cX0_overridesBetween 20 = .ok (.iload_n 3, 1) := by decide +kernel
theorem dX0_overridesBetween_21 : decode cX0_overridesBetween 21 = .ok (.invokevirtual 162, 3) := by decide +kernel
theorem dX0_overridesBetween_24 : decode cX0_overridesBetween 24 = .ok (.ifCond .eq 17, 3) := by decide +kernel
theorem dX0_overridesBetween_27 : decode cX0_overridesBetween 27 = .ok (.aload_n 0, 1) := by decide +kernel
theorem dX0_overridesBetween_28 : decode cX0_overridesBetween 28 = .ok (.getfield 18, 3) := by decide +kernel
theorem dX0_overridesBetween_31 : decode cX0_overridesBetween 31 = .ok (.iload_n 3, 1) := by decide +kernel
theorem dX0_overridesBetween_32 : decode cX0_overridesBetween 32 = .ok (.iload_n 2, 1) := by decide +kernel
theorem dX0_overridesBetween_33 : decode cX0_overridesBetween 33 = .ok (.invokevirtual 162, 3) := by decide +kernel
theorem dX0_overridesBetween_36 : decode cX0_overridesBetween 36 = .ok (.ifCond .eq 5, 3) := by decide +kernel
theorem dX0_overridesBetween_39 : decode cX0_overridesBetween 39 = .ok (.iconst 1, 1) := by decide +kernel
theorem dX0_overridesBetween_40 : decode cX0_overridesBetween 40 = .ok (.ireturn, 1) := by decide +kernel
theorem dX0_overridesBetween_41 : decode cX0_overridesBetween 41 = .ok (.iinc 3 1, 3) := by decide +kernel
theorem dX0_overridesBetween_44 : decode cX0_overridesBetween 44 = .ok (.goto (-40), 3) := by decide +kernel
theorem dX0_overridesBetween_47 : decode cX0_overridesBetween 47 = .ok (.iconst 0, 1) := by decide +kernel
theorem dX0_overridesBetween_48 : decode cX0_overridesBetween 48 = .ok (.ireturn, 1) := by decide +kernel
theorem dX0_hasWrongOverride_0 : decode cX0_hasWrongOverride 0 = .ok (.aload_n 0, 1) := by decide +kernel
theorem dX0_hasWrongOverride_1 : decode cX0_hasWrongOverride 1 = .ok (.getfield 28, 3) := by decide +kernel
theorem dX0_hasWrongOverride_4 : decode cX0_hasWrongOverride 4 = .ok (.getfield 57, 3) := by decide +kernel
theorem dX0_hasWrongOverride_7 : decode cX0_hasWrongOverride 7 = .ok (.istore_n 1, 1) := by decide +kernel
theorem dX0_hasWrongOverride_8 : decode cX0_hasWrongOverride 8 = .ok (.iload_n 1, 1) := by decide +kernel
theorem dX0_hasWrongOverride_9 : decode cX0_hasWrongOverride 9 = .ok (.aload_n 0, 1) := by decide +kernel
theorem dX0_hasWrongOverride_10 : decode cX0_hasWrongOverride 10 = .ok (.getfield 18, 3) := by decide +kernel
theorem dX0_hasWrongOverride_13 : decode cX0_hasWrongOverride 13 = .ok (.getfield 63, 3) := by decide +kernel
theorem dX0_hasWrongOverride_16 : decode cX0_hasWrongOverride 16 = .ok (.if_icmp .ge 48, 3) := by decide +kernel
theorem dX0_hasWrongOverride_19 : decode cX0_hasWrongOverride 19 = .ok (.iconst 0, 1) := by decide +kernel
theorem dX0_hasWrongOverride_20 : decode cX0_hasWrongOverride 20 = .ok (.istore_n 2, 1) := by decide +kernel
theorem dX0_hasWrongOverride_21 : decode cX0_hasWrongOverride 21 = .ok (.iload_n 2, 1) := by decide +kernel
theorem dX0_hasWrongOverride_22 : decode cX0_hasWrongOverride 22 = .ok (.aload_n 0, 1) := by decide +kernel
theorem dX0_hasWrongOverride_23 : decode cX0_hasWrongOverride 23 = .ok (.getfield 28, 3) := by decide +kernel
theorem dX0_hasWrongOverride_26 : decode cX0_hasWrongOverride 26 = .ok (.getfield 57, 3) := by decide +kernel
theorem dX0_hasWrongOverride_29 : decode cX0_hasWrongOverride 29 = .ok (.if_icmp .ge 29, 3) := by decide +kernel
theorem dX0_hasWrongOverride_32 : decode cX0_hasWrongOverride 32 = .ok (.aload_n 0, 1) := by decide +kernel
theorem dX0_hasWrongOverride_33 : decode cX0_hasWrongOverride 33 = .ok (.iload_n 1, 1) := by decide +kernel
theorem dX0_hasWrongOverride_34 : decode cX0_hasWrongOverride 34 = .ok (.iload_n 2, 1) := by decide +kernel
theorem dX0_hasWrongOverride_35 : decode cX0_hasWrongOverride 35 = .ok (.invokevirtual 165, 3) := by decide +kernel
theorem dX0_hasWrongOverride_38 : decode cX0_hasWrongOverride 38 = .ok (.ifCond .eq 14, 3) := by decide +kernel
theorem dX0_hasWrongOverride_41 : decode cX0_hasWrongOverride 41 = .ok (.aload_n 0, 1) := by decide +kernel
theorem dX0_hasWrongOverride_42 : decode cX0_hasWrongOverride 42 = .ok (.iload_n 1, 1) := by decide +kernel
theorem dX0_hasWrongOverride_43 : decode cX0_hasWrongOverride 43 = .ok (.iload_n 2, 1) := by decide +kernel
theorem dX0_hasWrongOverride_44 : decode cX0_hasWrongOverride 44 = .ok (.invokevirtual 168, 3) := by decide +kernel
theorem dX0_hasWrongOverride_47 : decode cX0_hasWrongOverride 47 = .ok (.ifCond .eq 5, 3) := by decide +kernel
theorem dX0_hasWrongOverride_50 : decode cX0_hasWrongOverride 50 = .ok (.iconst 1, 1) := by decide +kernel
theorem dX0_hasWrongOverride_51 : decode cX0_hasWrongOverride 51 = .ok (.ireturn, 1) := by decide +kernel
theorem dX0_hasWrongOverride_52 : decode cX0_hasWrongOverride 52 = .ok (.iinc 2 1, 3) := by decide +kernel
theorem dX0_hasWrongOverride_55 : decode cX0_hasWrongOverride 55 = .ok (.goto (-34), 3) := by decide +kernel
theorem dX0_hasWrongOverride_58 : decode cX0_hasWrongOverride 58 = .ok (.iinc 1 1, 3) := by decide +kernel
theorem dX0_hasWrongOverride_61 : decode cX0_hasWrongOverride 61 = .ok (.goto (-53), 3) := by decide +kernel
theorem dX0_hasWrongOverride_64 : decode cX0_hasWrongOverride 64 = .ok (.iconst 0, 1) := by decide +kernel
theorem dX0_hasWrongOverride_65 : decode cX0_hasWrongOverride 65 = .ok (.ireturn, 1) := by decide +kernel
theorem dX0_standsFor_0 : decode cX0_standsFor 0 = .ok (.aload_n 0, 1) := by decide +kernel
theorem dX0_standsFor_1 : decode cX0_standsFor 1 = .ok (.iload_n 2, 1) := by decide +kernel
theorem dX0_standsFor_2 : decode cX0_standsFor 2 = .ok (.invokevirtual 129, 3) := by decide +kernel
theorem dX0_standsFor_5 : decode cX0_standsFor 5 = .ok (.ifCond .eq 42, 3) := by decide +kernel
theorem dX0_standsFor_8 : decode cX0_standsFor 8 = .ok (.aload_n 0, 1) := by decide +kernel
theorem dX0_standsFor_9 : decode cX0_standsFor 9 = .ok (.iload_n 1, 1) := by decide +kernel
theorem dX0_standsFor_10 : decode cX0_standsFor 10 = .ok (.iload_n 2, 1) := by decide +kernel
theorem dX0_standsFor_11 : decode cX0_standsFor 11 = .ok (.invokevirtual 143, 3) := by decide +kernel
theorem dX0_standsFor_14 : decode cX0_standsFor 14 = .ok (.ifCond .eq 33, 3) := by decide +kernel
theorem dX0_standsFor_17 : decode cX0_standsFor 17 = .ok (.aload_n 0, 1) := by decide +kernel
theorem dX0_standsFor_18 : decode cX0_standsFor 18 = .ok (.getfield 18, 3) := by decide +kernel
theorem dX0_standsFor_21 : decode cX0_standsFor 21 = .ok (.getfield 66, 3) := by decide +kernel
theorem dX0_standsFor_24 : decode cX0_standsFor 24 = .ok (.iload_n 1, 1) := by decide +kernel
theorem dX0_standsFor_25 : decode cX0_standsFor 25 = .ok (.aaload, 1) := by decide +kernel
theorem dX0_standsFor_26 : decode cX0_standsFor 26 = .ok (.invokevirtual 171, 3) := by decide +kernel
theorem dX0_standsFor_29 : decode cX0_standsFor 29 = .ok (.ifCond .ne 18, 3) := by decide +kernel
theorem dX0_standsFor_32 : decode cX0_standsFor 32 = .ok (.aload_n 0, 1) := by decide +kernel
theorem dX0_standsFor_33 : decode cX0_standsFor 33 = .ok (.getfield 18, 3) := by decide +kernel
theorem dX0_standsFor_36 : decode cX0_standsFor 36 = .ok (.getfield 66, 3) := by decide +kernel
theorem dX0_standsFor_39 : decode cX0_standsFor 39 = .ok (.iload_n 2, 1) := by decide +kernel
theorem dX0_standsFor_40 : decode cX0_standsFor 40 = .ok (.aaload, 1) := by decide +kernel
theorem dX0_standsFor_41 : decode cX0_standsFor 41 = .ok (.invokevirtual 171, 3) := by decide +kernel
theorem dX0_standsFor_44 : decode cX0_standsFor 44 = .ok (.ifCond .eq 5, 3) := by decide +kernel
theorem dX0_standsFor_47 : decode cX0_standsFor 47 = .ok (.iconst 0, 1) := by decide +kernel
theorem dX0_standsFor_48 : decode cX0_standsFor 48 = .ok (.ireturn, 1) := by decide +kernel
theorem dX0_standsFor_49 : decode cX0_standsFor 49 = .ok (.aload_n 0, 1) := by decide +kernel
theorem dX0_standsFor_50 : decode cX0_standsFor 50 = .ok (.iload_n 2, 1) := by decide +kernel
theorem dX0_standsFor_51 : decode cX0_standsFor 51 = .ok (.invokevirtual 146, 3) := by decide +kernel
theorem dX0_standsFor_54 : decode cX0_standsFor 54 = .ok (.ifCond .ne 15, 3) := by decide +kernel
theorem dX0_standsFor_57 : decode cX0_standsFor 57 = .ok (.aload_n 0, 1) := by decide +kernel
theorem dX0_standsFor_58 : decode cX0_standsFor 58 = .ok (.getfield 18, 3) := by decide +kernel
theorem dX0_standsFor_61 : decode cX0_standsFor 61 = .ok (.iload_n 1, 1) := by decide +kernel
theorem dX0_standsFor_62 : decode cX0_standsFor 62 = .ok (.iload_n 2, 1) := by decide +kernel
theorem dX0_standsFor_63 : decode cX0_standsFor 63 = .ok (.invokevirtual 162, 3) := by decide +kernel
theorem dX0_standsFor_66 : decode cX0_standsFor 66 = .ok (.ifCond .eq 7, 3) := by decide +kernel
theorem dX0_standsFor_69 : decode cX0_standsFor 69 = .ok (.iconst 1, 1) := by decide +kernel
theorem dX0_standsFor_70 : decode cX0_standsFor 70 = .ok (.goto 4, 3) := by decide +kernel
theorem dX0_standsFor_73 : decode cX0_standsFor 73 = .ok (.iconst 0, 1) := by decide +kernel
theorem dX0_standsFor_74 : decode cX0_standsFor 74 = .ok (.ireturn, 1) := by decide +kernel
theorem dX0_isWrong_0 : decode cX0_isWrong 0 = .ok (.aload_n 0, 1) := by decide +kernel
theorem dX0_isWrong_1 : decode cX0_isWrong 1 = .ok (.getfield 18, 3) := by decide +kernel
theorem dX0_isWrong_4 : decode cX0_isWrong 4 = .ok (.getfield 66, 3) := by decide +kernel
theorem dX0_isWrong_7 : decode cX0_isWrong 7 = .ok (.iload_n 1, 1) := by decide +kernel
theorem dX0_isWrong_8 : decode cX0_isWrong 8 = .ok (.aaload, 1) := by decide +kernel
theorem dX0_isWrong_9 : decode cX0_isWrong 9 = .ok (.astore_n 3, 1) := by decide +kernel
theorem dX0_isWrong_10 : decode cX0_isWrong 10 = .ok (.aload_n 0, 1) := by decide +kernel
theorem dX0_isWrong_11 : decode cX0_isWrong 11 = .ok (.getfield 18, 3) := by decide +kernel
theorem dX0_isWrong_14 : decode cX0_isWrong 14 = .ok (.getfield 66, 3) := by decide +kernel
theorem dX0_isWrong_17 : decode cX0_isWrong 17 = .ok (.iload_n 2, 1) := by decide +kernel
theorem dX0_isWrong_18 : decode cX0_isWrong 18 = .ok (.aaload, 1) := by decide +kernel
theorem dX0_isWrong_19 : decode cX0_isWrong 19 = .ok (.astore 4, 2) := by decide +kernel
theorem dX0_isWrong_21 : decode cX0_isWrong 21 = .ok (.aload_n 3, 1) := by decide +kernel
theorem dX0_isWrong_22 : decode cX0_isWrong 22 = .ok (.invokevirtual 174, 3) := by decide +kernel
theorem dX0_isWrong_25 : decode cX0_isWrong 25 = .ok (.aload 4, 2) := by decide +kernel
theorem dX0_isWrong_27 : decode cX0_isWrong 27 = .ok (.invokevirtual 174, 3) := by decide +kernel
theorem dX0_isWrong_30 : decode cX0_isWrong 30 = .ok (.if_icmp .ne 32, 3) := by decide +kernel
theorem dX0_isWrong_33 : decode cX0_isWrong 33 = .ok (.aload_n 3, 1) := by decide +kernel
theorem dX0_isWrong_34 : decode cX0_isWrong 34 = .ok (.getfield 156, 3) := by decide +kernel
theorem dX0_isWrong_37 : decode cX0_isWrong 37 = .ok (.aload 4, 2) := by decide +kernel
theorem dX0_isWrong_39 : decode cX0_isWrong 39 = .ok (.getfield 156, 3) := by decide +kernel
theorem dX0_isWrong_42 : decode cX0_isWrong 42 = .ok (.if_icmp .lt 20, 3) := by decide +kernel
theorem dX0_isWrong_45 : decode cX0_isWrong 45 = .ok (.aload_n 0, 1) := by decide +kernel
theorem dX0_isWrong_46 : decode cX0_isWrong 46 = .ok (.aload_n 0, 1) := by decide +kernel
theorem dX0_isWrong_47 : decode cX0_isWrong 47 = .ok (.iload_n 1, 1) := by decide +kernel
theorem dX0_isWrong_48 : decode cX0_isWrong 48 = .ok (.invokevirtual 177, 3) := by decide +kernel
theorem dX0_isWrong_51 : decode cX0_isWrong 51 = .ok (.aload_n 0, 1) := by decide +kernel
theorem dX0_isWrong_52 : decode cX0_isWrong 52 = .ok (.iload_n 2, 1) := by decide +kernel
theorem dX0_isWrong_53 : decode cX0_isWrong 53 = .ok (.invokevirtual 177, 3) := by decide +kernel
theorem dX0_isWrong_56 : decode cX0_isWrong 56 = .ok (.invokevirtual 181, 3) := by decide +kernel
theorem dX0_isWrong_59 : decode cX0_isWrong 59 = .ok (.ifCond .ne 7, 3) := by decide +kernel
theorem dX0_isWrong_62 : decode cX0_isWrong 62 = .ok (.iconst 1, 1) := by decide +kernel
theorem dX0_isWrong_63 : decode cX0_isWrong 63 = .ok (.goto 4, 3) := by decide +kernel
theorem dX0_isWrong_66 : decode cX0_isWrong 66 = .ok (.iconst 0, 1) := by decide +kernel
theorem dX0_isWrong_67 : decode cX0_isWrong 67 = .ok (.ireturn, 1) := by decide +kernel
theorem dX0_isNarrow_0 : decode cX0_isNarrow 0 = .ok (.iload_n 1, 1) := by decide +kernel
theorem dX0_isNarrow_1 : decode cX0_isNarrow 1 = .ok (.iload_n 2, 1) := by decide +kernel
theorem dX0_isNarrow_2 : decode cX0_isNarrow 2 = .ok (.if_icmp .ne 5, 3) := by decide +kernel
theorem dX0_isNarrow_5 : decode cX0_isNarrow 5 = .ok (.iconst 1, 1) := by decide +kernel
theorem dX0_isNarrow_6 : decode cX0_isNarrow 6 = .ok (.ireturn, 1) := by decide +kernel
theorem dX0_isNarrow_7 : decode cX0_isNarrow 7 = .ok (.iload_n 1, 1) := by decide +kernel
theorem dX0_isNarrow_8 : decode cX0_isNarrow 8 = .ok (.bipush 100, 2) := by decide +kernel
theorem dX0_isNarrow_10 : decode cX0_isNarrow 10 = .ok (.if_icmp .lt 18, 3) := by decide +kernel
theorem dX0_isNarrow_13 : decode cX0_isNarrow 13 = .ok (.aload_n 0, 1) := by decide +kernel
theorem dX0_isNarrow_14 : decode cX0_isNarrow 14 = .ok (.getfield 28, 3) := by decide +kernel
theorem dX0_isNarrow_17 : decode cX0_isNarrow 17 = .ok (.getfield 184, 3) := by decide +kernel
theorem dX0_isNarrow_20 : decode cX0_isNarrow 20 = .ok (.iload_n 1, 1) := by decide +kernel
theorem dX0_isNarrow_21 : decode cX0_isNarrow 21 = .ok (.bipush 100, 2) := by decide +kernel
theorem dX0_isNarrow_23 : decode cX0_isNarrow 23 = .ok (.isub, 1) := by decide +kernel
theorem dX0_isNarrow_24 : decode cX0_isNarrow 24 = .ok (.iaload, 1) := by decide +kernel
theorem dX0_isNarrow_25 : decode cX0_isNarrow 25 = .ok (.goto 4, 3) := by decide +kernel
theorem dX0_isNarrow_28 : decode cX0_isNarrow 28 = .ok (.iload_n 1, 1) := by decide +kernel
theorem dX0_isNarrow_29 : decode cX0_isNarrow 29 = .ok (.istore_n 3, 1) := by decide +kernel
theorem dX0_isNarrow_30 : decode cX0_isNarrow 30 = .ok (.iload_n 3, 1) := by decide +kernel
theorem dX0_isNarrow_31 : decode cX0_isNarrow 31 = .ok (.ifCond .lt 17, 3) := by decide +kernel
theorem dX0_isNarrow_34 : decode cX0_isNarrow 34 = .ok (.iload_n 2, 1) := by decide +kernel
theorem dX0_isNarrow_35 : decode cX0_isNarrow 35 = .ok (.ifCond .lt 13, 3) := by decide +kernel
theorem dX0_isNarrow_38 : decode cX0_isNarrow 38 = .ok (.iload_n 2, 1) := by decide +kernel
theorem dX0_isNarrow_39 : decode cX0_isNarrow 39 = .ok (.bipush 100, 2) := by decide +kernel
theorem dX0_isNarrow_41 : decode cX0_isNarrow 41 = .ok (.if_icmp .ge 7, 3) := by decide +kernel
theorem dX0_isNarrow_44 : decode cX0_isNarrow 44 = .ok (.iconst 1, 1) := by decide +kernel
theorem dX0_isNarrow_45 : decode cX0_isNarrow 45 = .ok (.goto 4, 3) := by decide +kernel
theorem dX0_isNarrow_48 : decode cX0_isNarrow 48 = .ok (.iconst 0, 1) := by decide +kernel
theorem dX0_isNarrow_49 : decode cX0_isNarrow 49 = .ok (.istore 4, 2) := by decide +kernel
theorem dX0_isNarrow_51 : decode cX0_isNarrow 51 = .ok (.iload 4, 2) := by decide +kernel
theorem dX0_isNarrow_53 : decode cX0_isNarrow 53 = .ok (.ifCond .eq 19, 3) := by decide +kernel
theorem dX0_isNarrow_56 : decode cX0_isNarrow 56 = .ok (.aload_n 0, 1) := by decide +kernel
theorem dX0_isNarrow_57 : decode cX0_isNarrow 57 = .ok (.getfield 18, 3) := by decide +kernel
theorem dX0_isNarrow_60 : decode cX0_isNarrow 60 = .ok (.iload_n 3, 1) := by decide +kernel
theorem dX0_isNarrow_61 : decode cX0_isNarrow 61 = .ok (.iload_n 2, 1) := by decide +kernel
theorem dX0_isNarrow_62 : decode cX0_isNarrow 62 = .ok (.invokevirtual 118, 3) := by decide +kernel
theorem dX0_isNarrow_65 : decode cX0_isNarrow 65 = .ok (.ifCond .eq 7, 3) := by decide +kernel
theorem dX0_isNarrow_68 : decode cX0_isNarrow 68 = .ok (.iconst 1, 1) := by decide +kernel
theorem dX0_isNarrow_69 : decode cX0_isNarrow 69 = .ok (.goto 4, 3) := by decide +kernel
theorem dX0_isNarrow_72 : decode cX0_isNarrow 72 = .ok (.iconst 0, 1) := by decide +kernel
theorem dX0_isNarrow_73 : decode cX0_isNarrow 73 = .ok (.ireturn, 1) := by decide +kernel
theorem dX0_hasQuarrel_0 : decode cX0_hasQuarrel 0 = .ok (.iconst 0, 1) := by decide +kernel
theorem dX0_hasQuarrel_1 : decode cX0_hasQuarrel 1 = .ok (.istore_n 1, 1) := by decide +kernel
theorem dX0_hasQuarrel_2 : decode cX0_hasQuarrel 2 = .ok (.iload_n 1, 1) := by decide +kernel
theorem dX0_hasQuarrel_3 : decode cX0_hasQuarrel 3 = .ok (.aload_n 0, 1) := by decide +kernel
theorem dX0_hasQuarrel_4 : decode cX0_hasQuarrel 4 = .ok (.getfield 126, 3) := by decide +kernel
theorem dX0_hasQuarrel_7 : decode cX0_hasQuarrel 7 = .ok (.if_icmp .ge 43, 3) := by decide +kernel
theorem dX0_hasQuarrel_10 : decode cX0_hasQuarrel 10 = .ok (.iconst 0, 1) := by decide +kernel
theorem dX0_hasQuarrel_11 : decode cX0_hasQuarrel 11 = .ok (.istore_n 2, 1) := by decide +kernel
theorem dX0_hasQuarrel_12 : decode cX0_hasQuarrel 12 = .ok (.iload_n 2, 1) := by decide +kernel
theorem dX0_hasQuarrel_13 : decode cX0_hasQuarrel 13 = .ok (.iload_n 1, 1) := by decide +kernel
theorem dX0_hasQuarrel_14 : decode cX0_hasQuarrel 14 = .ok (.if_icmp .ge 30, 3) := by decide +kernel
theorem dX0_hasQuarrel_17 : decode cX0_hasQuarrel 17 = .ok (.aload_n 0, 1) := by decide +kernel
theorem dX0_hasQuarrel_18 : decode cX0_hasQuarrel 18 = .ok (.aload_n 0, 1) := by decide +kernel
theorem dX0_hasQuarrel_19 : decode cX0_hasQuarrel 19 = .ok (.getfield 15, 3) := by decide +kernel
theorem dX0_hasQuarrel_22 : decode cX0_hasQuarrel 22 = .ok (.iload_n 1, 1) := by decide +kernel
theorem dX0_hasQuarrel_23 : decode cX0_hasQuarrel 23 = .ok (.iaload, 1) := by decide +kernel
theorem dX0_hasQuarrel_24 : decode cX0_hasQuarrel 24 = .ok (.aload_n 0, 1) := by decide +kernel
theorem dX0_hasQuarrel_25 : decode cX0_hasQuarrel 25 = .ok (.getfield 15, 3) := by decide +kernel
theorem dX0_hasQuarrel_28 : decode cX0_hasQuarrel 28 = .ok (.iload_n 2, 1) := by decide +kernel
theorem dX0_hasQuarrel_29 : decode cX0_hasQuarrel 29 = .ok (.iaload, 1) := by decide +kernel
theorem dX0_hasQuarrel_30 : decode cX0_hasQuarrel 30 = .ok (.invokevirtual 187, 3) := by decide +kernel
theorem dX0_hasQuarrel_33 : decode cX0_hasQuarrel 33 = .ok (.ifCond .eq 5, 3) := by decide +kernel
theorem dX0_hasQuarrel_36 : decode cX0_hasQuarrel 36 = .ok (.iconst 1, 1) := by decide +kernel
theorem dX0_hasQuarrel_37 : decode cX0_hasQuarrel 37 = .ok (.ireturn, 1) := by decide +kernel
theorem dX0_hasQuarrel_38 : decode cX0_hasQuarrel 38 = .ok (.iinc 2 1, 3) := by decide +kernel
theorem dX0_hasQuarrel_41 : decode cX0_hasQuarrel 41 = .ok (.goto (-29), 3) := by decide +kernel
theorem dX0_hasQuarrel_44 : decode cX0_hasQuarrel 44 = .ok (.iinc 1 1, 3) := by decide +kernel
theorem dX0_hasQuarrel_47 : decode cX0_hasQuarrel 47 = .ok (.goto (-45), 3) := by decide +kernel
theorem dX0_hasQuarrel_50 : decode cX0_hasQuarrel 50 = .ok (.iconst 0, 1) := by decide +kernel
theorem dX0_hasQuarrel_51 : decode cX0_hasQuarrel 51 = .ok (.ireturn, 1) := by decide +kernel
theorem dX0_isQuarrel_0 : decode cX0_isQuarrel 0 = .ok (.aload_n 0, 1) := by decide +kernel
theorem dX0_isQuarrel_1 : decode cX0_isQuarrel 1 = .ok (.iload_n 1, 1) := by decide +kernel
theorem dX0_isQuarrel_2 : decode cX0_isQuarrel 2 = .ok (.iload_n 2, 1) := by decide +kernel
theorem dX0_isQuarrel_3 : decode cX0_isQuarrel 3 = .ok (.invokevirtual 143, 3) := by decide +kernel
theorem dX0_isQuarrel_6 : decode cX0_isQuarrel 6 = .ok (.ifCond .eq 32, 3) := by decide +kernel
theorem dX0_isQuarrel_9 : decode cX0_isQuarrel 9 = .ok (.aload_n 0, 1) := by decide +kernel
theorem dX0_isQuarrel_10 : decode cX0_isQuarrel 10 = .ok (.iload_n 1, 1) := by decide +kernel
theorem dX0_isQuarrel_11 : decode cX0_isQuarrel 11 = .ok (.invokevirtual 177, 3) := by decide +kernel
theorem dX0_isQuarrel_14 : decode cX0_isQuarrel 14 = .ok (.aload_n 0, 1) := by decide +kernel
theorem dX0_isQuarrel_15 : decode cX0_isQuarrel 15 = .ok (.iload_n 2, 1) := by decide +kernel
theorem dX0_isQuarrel_16 : decode cX0_isQuarrel 16 = .ok (.invokevirtual 177, 3) := by decide +kernel
theorem dX0_isQuarrel_19 : decode cX0_isQuarrel 19 = .ok (.if_icmp .eq 19, 3) := by decide +kernel
theorem dX0_isQuarrel_22 : decode cX0_isQuarrel 22 = .ok (.aload_n 0, 1) := by decide +kernel
theorem dX0_isQuarrel_23 : decode cX0_isQuarrel 23 = .ok (.iload_n 1, 1) := by decide +kernel
theorem dX0_isQuarrel_24 : decode cX0_isQuarrel 24 = .ok (.invokevirtual 190, 3) := by decide +kernel
theorem dX0_isQuarrel_27 : decode cX0_isQuarrel 27 = .ok (.ifCond .ne 11, 3) := by decide +kernel
theorem dX0_isQuarrel_30 : decode cX0_isQuarrel 30 = .ok (.aload_n 0, 1) := by decide +kernel
theorem dX0_isQuarrel_31 : decode cX0_isQuarrel 31 = .ok (.iload_n 2, 1) := by decide +kernel
theorem dX0_isQuarrel_32 : decode cX0_isQuarrel 32 = .ok (.invokevirtual 190, 3) := by decide +kernel
theorem dX0_isQuarrel_35 : decode cX0_isQuarrel 35 = .ok (.ifCond .eq 5, 3) := by decide +kernel
theorem dX0_isQuarrel_38 : decode cX0_isQuarrel 38 = .ok (.iconst 0, 1) := by decide +kernel
theorem dX0_isQuarrel_39 : decode cX0_isQuarrel 39 = .ok (.ireturn, 1) := by decide +kernel
theorem dX0_isQuarrel_40 : decode cX0_isQuarrel 40 = .ok (.aload_n 0, 1) := by decide +kernel
theorem dX0_isQuarrel_41 : decode cX0_isQuarrel 41 = .ok (.getfield 18, 3) := by decide +kernel
theorem dX0_isQuarrel_44 : decode cX0_isQuarrel 44 = .ok (.getfield 66, 3) := by decide +kernel
theorem dX0_isQuarrel_47 : decode cX0_isQuarrel 47 = .ok (.iload_n 1, 1) := by decide +kernel
theorem dX0_isQuarrel_48 : decode cX0_isQuarrel 48 = .ok (.aaload, 1) := by decide +kernel
theorem dX0_isQuarrel_49 : decode cX0_isQuarrel 49 = .ok (.getfield 116, 3) := by decide +kernel
theorem dX0_isQuarrel_52 : decode cX0_isQuarrel 52 = .ok (.istore_n 3, 1) := by decide +kernel
theorem dX0_isQuarrel_53 : decode cX0_isQuarrel 53 = .ok (.aload_n 0, 1) := by decide +kernel
theorem dX0_isQuarrel_54 : decode cX0_isQuarrel 54 = .ok (.getfield 18, 3) := by decide +kernel
theorem dX0_isQuarrel_57 : decode cX0_isQuarrel 57 = .ok (.getfield 66, 3) := by decide +kernel
theorem dX0_isQuarrel_60 : decode cX0_isQuarrel 60 = .ok (.iload_n 2, 1) := by decide +kernel
theorem dX0_isQuarrel_61 : decode cX0_isQuarrel 61 = .ok (.aaload, 1) := by decide +kernel
theorem dX0_isQuarrel_62 : decode cX0_isQuarrel 62 = .ok (.getfield 116, 3) := by decide +kernel
theorem dX0_isQuarrel_65 : decode cX0_isQuarrel 65 = .ok (.istore 4, 2) := by decide +kernel
theorem dX0_isQuarrel_67 : decode cX0_isQuarrel 67 = .ok (.aload_n 0, 1) := by decide +kernel
theorem dX0_isQuarrel_68 : decode cX0_isQuarrel 68 = .ok (.getfield 18, 3) := by decide +kernel
theorem dX0_isQuarrel_71 : decode cX0_isQuarrel 71 = .ok (.iload_n 3, 1) := by decide +kernel
theorem dX0_isQuarrel_72 : decode cX0_isQuarrel 72 = .ok (.iload 4, 2) := by decide +kernel
theorem dX0_isQuarrel_74 : decode cX0_isQuarrel 74 = .ok (.invokevirtual 118, 3) := by decide +kernel
theorem dX0_isQuarrel_77 : decode cX0_isQuarrel 77 = .ok (.ifCond .ne 20, 3) := by decide +kernel
theorem dX0_isQuarrel_80 : decode cX0_isQuarrel 80 = .ok (.aload_n 0, 1) := by decide +kernel
theorem dX0_isQuarrel_81 : decode cX0_isQuarrel 81 = .ok (.getfield 18, 3) := by decide +kernel
theorem dX0_isQuarrel_84 : decode cX0_isQuarrel 84 = .ok (.iload 4, 2) := by decide +kernel
theorem dX0_isQuarrel_86 : decode cX0_isQuarrel 86 = .ok (.iload_n 3, 1) := by decide +kernel
theorem dX0_isQuarrel_87 : decode cX0_isQuarrel 87 = .ok (.invokevirtual 118, 3) := by decide +kernel
theorem dX0_isQuarrel_90 : decode cX0_isQuarrel 90 = .ok (.ifCond .ne 7, 3) := by decide +kernel
theorem dX0_isQuarrel_93 : decode cX0_isQuarrel 93 = .ok (.iconst 1, 1) := by decide +kernel
theorem dX0_isQuarrel_94 : decode cX0_isQuarrel 94 = .ok (.goto 4, 3) := by decide +kernel
theorem dX0_isQuarrel_97 : decode cX0_isQuarrel 97 = .ok (.iconst 0, 1) := by decide +kernel
theorem dX0_isQuarrel_98 : decode cX0_isQuarrel 98 = .ok (.ireturn, 1) := by decide +kernel
theorem dX0_isOverridden_0 : decode cX0_isOverridden 0 = .ok (.aload_n 0, 1) := by decide +kernel
theorem dX0_isOverridden_1 : decode cX0_isOverridden 1 = .ok (.getfield 28, 3) := by decide +kernel
theorem dX0_isOverridden_4 : decode cX0_isOverridden 4 = .ok (.getfield 57, 3) := by decide +kernel
theorem dX0_isOverridden_7 : decode cX0_isOverridden 7 = .ok (.istore_n 2, 1) := by decide +kernel
theorem dX0_isOverridden_8 : decode cX0_isOverridden 8 = .ok (.iload_n 2, 1) := by decide +kernel
theorem dX0_isOverridden_9 : decode cX0_isOverridden 9 = .ok (.aload_n 0, 1) := by decide +kernel
theorem dX0_isOverridden_10 : decode cX0_isOverridden 10 = .ok (.getfield 18, 3) := by decide +kernel
theorem dX0_isOverridden_13 : decode cX0_isOverridden 13 = .ok (.getfield 63, 3) := by decide +kernel
theorem dX0_isOverridden_16 : decode cX0_isOverridden 16 = .ok (.if_icmp .ge 23, 3) := by decide +kernel
theorem dX0_isOverridden_19 : decode cX0_isOverridden 19 = .ok (.aload_n 0, 1) := by decide +kernel
theorem dX0_isOverridden_20 : decode cX0_isOverridden 20 = .ok (.getfield 18, 3) := by decide +kernel
theorem dX0_isOverridden_23 : decode cX0_isOverridden 23 = .ok (.iload_n 2, 1) := by decide +kernel
theorem dX0_isOverridden_24 : decode cX0_isOverridden 24 = .ok (.iload_n 1, 1) := by decide +kernel
theorem dX0_isOverridden_25 : decode cX0_isOverridden 25 = .ok (.invokevirtual 162, 3) := by decide +kernel
theorem dX0_isOverridden_28 : decode cX0_isOverridden 28 = .ok (.ifCond .eq 5, 3) := by decide +kernel
theorem dX0_isOverridden_31 : decode cX0_isOverridden 31 = .ok (.iconst 1, 1) := by decide +kernel
theorem dX0_isOverridden_32 : decode cX0_isOverridden 32 = .ok (.ireturn, 1) := by decide +kernel
theorem dX0_isOverridden_33 : decode cX0_isOverridden 33 = .ok (.iinc 2 1, 3) := by decide +kernel
theorem dX0_isOverridden_36 : decode cX0_isOverridden 36 = .ok (.goto (-28), 3) := by decide +kernel
theorem dX0_isOverridden_39 : decode cX0_isOverridden 39 = .ok (.iconst 0, 1) := by decide +kernel
theorem dX0_isOverridden_40 : decode cX0_isOverridden 40 = .ok (.ireturn, 1) := by decide +kernel
theorem dX0_makeBridges_0 : decode cX0_makeBridges 0 = .ok (.aload_n 0, 1) := by decide +kernel
theorem dX0_makeBridges_1 : decode cX0_makeBridges 1 = .ok (.getfield 28, 3) := by decide +kernel
theorem dX0_makeBridges_4 : decode cX0_makeBridges 4 = .ok (.aload_n 0, 1) := by decide +kernel
theorem dX0_makeBridges_5 : decode cX0_makeBridges 5 = .ok (.getfield 18, 3) := by decide +kernel
theorem dX0_makeBridges_8 : decode cX0_makeBridges 8 = .ok (.getfield 193, 3) := by decide +kernel
theorem dX0_makeBridges_11 : decode cX0_makeBridges 11 = .ok (.putfield 196, 3) := by decide +kernel
theorem dX0_makeBridges_14 : decode cX0_makeBridges 14 = .ok (.aload_n 0, 1) := by decide +kernel
theorem dX0_makeBridges_15 : decode cX0_makeBridges 15 = .ok (.getfield 28, 3) := by decide +kernel
theorem dX0_makeBridges_18 : decode cX0_makeBridges 18 = .ok (.getfield 57, 3) := by decide +kernel
theorem dX0_makeBridges_21 : decode cX0_makeBridges 21 = .ok (.istore_n 1, 1) := by decide +kernel
theorem dX0_makeBridges_22 : decode cX0_makeBridges 22 = .ok (.iload_n 1, 1) := by decide +kernel
theorem dX0_makeBridges_23 : decode cX0_makeBridges 23 = .ok (.aload_n 0, 1) := by decide +kernel
theorem dX0_makeBridges_24 : decode cX0_makeBridges 24 = .ok (.getfield 18, 3) := by decide +kernel
theorem dX0_makeBridges_27 : decode cX0_makeBridges 27 = .ok (.getfield 63, 3) := by decide +kernel
theorem dX0_makeBridges_30 : decode cX0_makeBridges 30 = .ok (.if_icmp .ge 39, 3) := by decide +kernel
theorem dX0_makeBridges_33 : decode cX0_makeBridges 33 = .ok (.aload_n 0, 1) := by decide +kernel
theorem dX0_makeBridges_34 : decode cX0_makeBridges 34 = .ok (.getfield 18, 3) := by decide +kernel
theorem dX0_makeBridges_37 : decode cX0_makeBridges 37 = .ok (.getfield 66, 3) := by decide +kernel
theorem dX0_makeBridges_40 : decode cX0_makeBridges 40 = .ok (.iload_n 1, 1) := by decide +kernel
theorem dX0_makeBridges_41 : decode cX0_makeBridges 41 = .ok (.aaload, 1) := by decide +kernel
theorem dX0_makeBridges_42 : decode cX0_makeBridges 42 = .ok (.astore_n 2, 1) := by decide +kernel
theorem dX0_makeBridges_43 : decode cX0_makeBridges 43 = .ok (.aload_n 2, 1) := by decide +kernel
theorem dX0_makeBridges_44 : decode cX0_makeBridges 44 = .ok (.invokevirtual 132, 3) := by decide +kernel
theorem dX0_makeBridges_47 : decode cX0_makeBridges 47 = .ok (.ifCond .eq 16, 3) := by decide +kernel
theorem dX0_makeBridges_50 : decode cX0_makeBridges 50 = .ok (.aload_n 2, 1) := by decide +kernel
theorem dX0_makeBridges_51 : decode cX0_makeBridges 51 = .ok (.getfield 199, 3) := by decide +kernel
theorem dX0_makeBridges_54 : decode cX0_makeBridges 54 = .ok (.iconst 2, 1) := by decide +kernel
theorem dX0_makeBridges_55 : decode cX0_makeBridges 55 = .ok (.if_icmp .eq 8, 3) := by decide +kernel
theorem dX0_makeBridges_58 : decode cX0_makeBridges 58 = .ok (.aload_n 0, 1) := by decide +kernel
theorem dX0_makeBridges_59 : decode cX0_makeBridges 59 = .ok (.iload_n 1, 1) := by decide +kernel
theorem dX0_makeBridges_60 : decode cX0_makeBridges 60 = .ok (.invokevirtual 202, 3) := by decide +kernel
theorem dX0_makeBridges_63 : decode cX0_makeBridges 63 = .ok (.iinc 1 1, 3) := by decide +kernel
theorem dX0_makeBridges_66 : decode cX0_makeBridges 66 = .ok (.goto (-44), 3) := by decide +kernel
theorem dX0_makeBridges_69 : decode cX0_makeBridges 69 = .ok (.return_, 1) := by decide +kernel
theorem dX0_makeBridgesTo_0 : decode cX0_makeBridgesTo 0 = .ok (.iconst 0, 1) := by decide +kernel
theorem dX0_makeBridgesTo_1 : decode cX0_makeBridgesTo 1 = .ok (.istore_n 2, 1) := by decide +kernel
theorem dX0_makeBridgesTo_2 : decode cX0_makeBridgesTo 2 = .ok (.iload_n 2, 1) := by decide +kernel
theorem dX0_makeBridgesTo_3 : decode cX0_makeBridgesTo 3 = .ok (.aload_n 0, 1) := by decide +kernel
theorem dX0_makeBridgesTo_4 : decode cX0_makeBridgesTo 4 = .ok (.getfield 28, 3) := by decide +kernel
theorem dX0_makeBridgesTo_7 : decode cX0_makeBridgesTo 7 = .ok (.getfield 89, 3) := by decide +kernel
theorem dX0_makeBridgesTo_10 : decode cX0_makeBridgesTo 10 = .ok (.if_icmp .ge 77, 3) := by decide +kernel
theorem dX0_makeBridgesTo_13 : decode cX0_makeBridgesTo 13 = .ok (.aload_n 0, 1) := by decide +kernel
theorem dX0_makeBridgesTo_14 : decode cX0_makeBridgesTo 14 = .ok (.getfield 18, 3) := by decide +kernel
theorem dX0_makeBridgesTo_17 : decode cX0_makeBridgesTo 17 = .ok (.getfield 22, 3) := by decide +kernel
theorem dX0_makeBridgesTo_20 : decode cX0_makeBridgesTo 20 = .ok (.aload_n 0, 1) := by decide +kernel
theorem dX0_makeBridgesTo_21 : decode cX0_makeBridgesTo 21 = .ok (.getfield 28, 3) := by decide +kernel
theorem dX0_makeBridgesTo_24 : decode cX0_makeBridgesTo 24 = .ok (.getfield 92, 3) := by decide +kernel
theorem dX0_makeBridgesTo_27 : decode cX0_makeBridgesTo 27 = .ok (.iload_n 2, 1) := by decide +kernel
theorem dX0_makeBridgesTo_28 : decode cX0_makeBridgesTo 28 = .ok (.iaload, 1) := by decide +kernel
theorem dX0_makeBridgesTo_29 : decode cX0_makeBridgesTo 29 = .ok (.aaload, 1) := by decide +kernel
theorem dX0_makeBridgesTo_30 : decode cX0_makeBridgesTo 30 = .ok (.astore_n 3, 1) := by decide +kernel
theorem dX0_makeBridgesTo_31 : decode cX0_makeBridgesTo 31 = .ok (.aload_n 3, 1) := by decide +kernel
theorem dX0_makeBridgesTo_32 : decode cX0_makeBridgesTo 32 = .ok (.getfield 57, 3) := by decide +kernel
theorem dX0_makeBridgesTo_35 : decode cX0_makeBridgesTo 35 = .ok (.aload_n 3, 1) := by decide +kernel
theorem dX0_makeBridgesTo_36 : decode cX0_makeBridgesTo 36 = .ok (.getfield 205, 3) := by decide +kernel
theorem dX0_makeBridgesTo_39 : decode cX0_makeBridgesTo 39 = .ok (.iadd, 1) := by decide +kernel
theorem dX0_makeBridgesTo_40 : decode cX0_makeBridgesTo 40 = .ok (.istore 4, 2) := by decide +kernel
theorem dX0_makeBridgesTo_42 : decode cX0_makeBridgesTo 42 = .ok (.aload_n 3, 1) := by decide +kernel
theorem dX0_makeBridgesTo_43 : decode cX0_makeBridgesTo 43 = .ok (.getfield 57, 3) := by decide +kernel
theorem dX0_makeBridgesTo_46 : decode cX0_makeBridgesTo 46 = .ok (.istore 5, 2) := by decide +kernel
theorem dX0_makeBridgesTo_48 : decode cX0_makeBridgesTo 48 = .ok (.iload 5, 2) := by decide +kernel
theorem dX0_makeBridgesTo_50 : decode cX0_makeBridgesTo 50 = .ok (.iload 4, 2) := by decide +kernel
theorem dX0_makeBridgesTo_52 : decode cX0_makeBridgesTo 52 = .ok (.if_icmp .ge 29, 3) := by decide +kernel
theorem dX0_makeBridgesTo_55 : decode cX0_makeBridgesTo 55 = .ok (.aload_n 0, 1) := by decide +kernel
theorem dX0_makeBridgesTo_56 : decode cX0_makeBridgesTo 56 = .ok (.getfield 18, 3) := by decide +kernel
theorem dX0_makeBridgesTo_59 : decode cX0_makeBridgesTo 59 = .ok (.iload_n 1, 1) := by decide +kernel
theorem dX0_makeBridgesTo_60 : decode cX0_makeBridgesTo 60 = .ok (.iload 5, 2) := by decide +kernel
theorem dX0_makeBridgesTo_62 : decode cX0_makeBridgesTo 62 = .ok (.invokevirtual 162, 3) := by decide +kernel
theorem dX0_makeBridgesTo_65 : decode cX0_makeBridgesTo 65 = .ok (.ifCond .eq 10, 3) := by decide +kernel
theorem dX0_makeBridgesTo_68 : decode cX0_makeBridgesTo 68 = .ok (.aload_n 0, 1) := by decide +kernel
theorem dX0_makeBridgesTo_69 : decode cX0_makeBridgesTo 69 = .ok (.iload_n 1, 1) := by decide +kernel
theorem dX0_makeBridgesTo_70 : decode cX0_makeBridgesTo 70 = .ok (.iload 5, 2) := by decide +kernel
theorem dX0_makeBridgesTo_72 : decode cX0_makeBridgesTo 72 = .ok (.invokevirtual 206, 3) := by decide +kernel
theorem dX0_makeBridgesTo_75 : decode cX0_makeBridgesTo 75 = .ok (.iinc 5 1, 3) := by decide +kernel
theorem dX0_makeBridgesTo_78 : decode cX0_makeBridgesTo 78 = .ok (.goto (-30), 3) := by decide +kernel
theorem dX0_makeBridgesTo_81 : decode cX0_makeBridgesTo 81 = .ok (.iinc 2 1, 3) := by decide +kernel
theorem dX0_makeBridgesTo_84 : decode cX0_makeBridgesTo 84 = .ok (.goto (-82), 3) := by decide +kernel
theorem dX0_makeBridgesTo_87 : decode cX0_makeBridgesTo 87 = .ok (.return_, 1) := by decide +kernel
theorem dX0_makeBridge_0 : decode cX0_makeBridge 0 = .ok (.aload_n 0, 1) := by decide +kernel
theorem dX0_makeBridge_1 : decode cX0_makeBridge 1 = .ok (.getfield 18, 3) := by decide +kernel
theorem dX0_makeBridge_4 : decode cX0_makeBridge 4 = .ok (.aload_n 0, 1) := by decide +kernel
theorem dX0_makeBridge_5 : decode cX0_makeBridge 5 = .ok (.getfield 28, 3) := by decide +kernel
theorem dX0_makeBridge_8 : decode cX0_makeBridge 8 = .ok (.aload_n 0, 1) := by decide +kernel
theorem dX0_makeBridge_9 : decode cX0_makeBridge 9 = .ok (.getfield 18, 3) := by decide +kernel
theorem dX0_makeBridge_12 : decode cX0_makeBridge 12 = .ok (.getfield 66, 3) := by decide +kernel
theorem dX0_makeBridge_15 : decode cX0_makeBridge 15 = .ok (.iload_n 2, 1) := by decide +kernel
theorem dX0_makeBridge_16 : decode cX0_makeBridge 16 = .ok (.aaload, 1) := by decide +kernel
theorem dX0_makeBridge_17 : decode cX0_makeBridge 17 = .ok (.getfield 209, 3) := by decide +kernel
theorem dX0_makeBridge_20 : decode cX0_makeBridge 20 = .ok (.invokevirtual 212, 3) := by decide +kernel
theorem dX0_makeBridge_23 : decode cX0_makeBridge 23 = .ok (.iconst (-1), 1) := by decide +kernel
theorem dX0_makeBridge_24 : decode cX0_makeBridge 24 = .ok (.if_icmp .eq 7, 3) := by decide +kernel
theorem dX0_makeBridge_27 : decode cX0_makeBridge 27 = .ok (.iconst 1, 1) := by decide +kernel
theorem dX0_makeBridge_28 : decode cX0_makeBridge 28 = .ok (.goto 4, 3) := by decide +kernel
theorem dX0_makeBridge_31 : decode cX0_makeBridge 31 = .ok (.iconst 0, 1) := by decide +kernel
theorem dX0_makeBridge_32 : decode cX0_makeBridge 32 = .ok (.istore_n 3, 1) := by decide +kernel
theorem dX0_makeBridge_33 : decode cX0_makeBridge 33 = .ok (.iload_n 3, 1) := by decide +kernel
theorem dX0_makeBridge_34 : decode cX0_makeBridge 34 = .ok (.ifCond .ne 74, 3) := by decide +kernel
theorem dX0_makeBridge_37 : decode cX0_makeBridge 37 = .ok (.aload_n 0, 1) := by decide +kernel
theorem dX0_makeBridge_38 : decode cX0_makeBridge 38 = .ok (.getfield 18, 3) := by decide +kernel
theorem dX0_makeBridge_41 : decode cX0_makeBridge 41 = .ok (.getfield 193, 3) := by decide +kernel
theorem dX0_makeBridge_44 : decode cX0_makeBridge 44 = .ok (.sipush 2880, 3) := by decide +kernel
theorem dX0_makeBridge_47 : decode cX0_makeBridge 47 = .ok (.if_icmp .ge 61, 3) := by decide +kernel
theorem dX0_makeBridge_50 : decode cX0_makeBridge 50 = .ok (.aload_n 0, 1) := by decide +kernel
theorem dX0_makeBridge_51 : decode cX0_makeBridge 51 = .ok (.getfield 18, 3) := by decide +kernel
theorem dX0_makeBridge_54 : decode cX0_makeBridge 54 = .ok (.getfield 216, 3) := by decide +kernel
theorem dX0_makeBridge_57 : decode cX0_makeBridge 57 = .ok (.aload_n 0, 1) := by decide +kernel
theorem dX0_makeBridge_58 : decode cX0_makeBridge 58 = .ok (.getfield 18, 3) := by decide +kernel
theorem dX0_makeBridge_61 : decode cX0_makeBridge 61 = .ok (.getfield 193, 3) := by decide +kernel
theorem dX0_makeBridge_64 : decode cX0_makeBridge 64 = .ok (.iload_n 1, 1) := by decide +kernel
theorem dX0_makeBridge_65 : decode cX0_makeBridge 65 = .ok (.iastore, 1) := by decide +kernel
theorem dX0_makeBridge_66 : decode cX0_makeBridge 66 = .ok (.aload_n 0, 1) := by decide +kernel
theorem dX0_makeBridge_67 : decode cX0_makeBridge 67 = .ok (.getfield 18, 3) := by decide +kernel
theorem dX0_makeBridge_70 : decode cX0_makeBridge 70 = .ok (.getfield 219, 3) := by decide +kernel
theorem dX0_makeBridge_73 : decode cX0_makeBridge 73 = .ok (.aload_n 0, 1) := by decide +kernel
theorem dX0_makeBridge_74 : decode cX0_makeBridge 74 = .ok (.getfield 18, 3) := by decide +kernel
theorem dX0_makeBridge_77 : decode cX0_makeBridge 77 = .ok (.getfield 193, 3) := by decide +kernel
theorem dX0_makeBridge_80 : decode cX0_makeBridge 80 = .ok (.iload_n 2, 1) := by decide +kernel
theorem dX0_makeBridge_81 : decode cX0_makeBridge 81 = .ok (.iastore, 1) := by decide +kernel
theorem dX0_makeBridge_82 : decode cX0_makeBridge 82 = .ok (.aload_n 0, 1) := by decide +kernel
theorem dX0_makeBridge_83 : decode cX0_makeBridge 83 = .ok (.getfield 18, 3) := by decide +kernel
theorem dX0_makeBridge_86 : decode cX0_makeBridge 86 = .ok (.dup, 1) := by decide +kernel
theorem dX0_makeBridge_87 : decode cX0_makeBridge 87 = .ok (.getfield 193, 3) := by decide +kernel
theorem dX0_makeBridge_90 : decode cX0_makeBridge 90 = .ok (.iconst 1, 1) := by decide +kernel
theorem dX0_makeBridge_91 : decode cX0_makeBridge 91 = .ok (.iadd, 1) := by decide +kernel
theorem dX0_makeBridge_92 : decode cX0_makeBridge 92 = .ok (.putfield 193, 3) := by decide +kernel
theorem dX0_makeBridge_95 : decode cX0_makeBridge 95 = .ok (.aload_n 0, 1) := by decide +kernel
theorem dX0_makeBridge_96 : decode cX0_makeBridge 96 = .ok (.getfield 28, 3) := by decide +kernel
theorem dX0_makeBridge_99 : decode cX0_makeBridge 99 = .ok (.dup, 1) := by decide +kernel
theorem dX0_makeBridge_100 : decode cX0_makeBridge 100 = .ok (.getfield 222, 3) := by decide +kernel
theorem dX0_makeBridge_103 : decode cX0_makeBridge 103 = .ok (.iconst 1, 1) := by decide +kernel
theorem dX0_makeBridge_104 : decode cX0_makeBridge 104 = .ok (.iadd, 1) := by decide +kernel
theorem dX0_makeBridge_105 : decode cX0_makeBridge 105 = .ok (.putfield 222, 3) := by decide +kernel
theorem dX0_makeBridge_108 : decode cX0_makeBridge 108 = .ok (.return_, 1) := by decide +kernel
theorem dX1_init_0 : decode cX1_init 0 = .ok (.aload_n 0, 1) := by decide +kernel
theorem dX1_init_1 : decode cX1_init 1 = .ok (.invokespecial 3, 3) := by decide +kernel
theorem dX1_init_4 : decode cX1_init 4 = .ok (.aload_n 0, 1) := by decide +kernel
theorem dX1_init_5 : decode cX1_init 5 = .ok (.bipush 24, 2) := by decide +kernel
theorem dX1_init_7 : decode cX1_init 7 = .ok (.newarray .int, 2) := by decide +kernel
theorem dX1_init_9 : decode cX1_init 9 = .ok (.putfield 9, 3) := by decide +kernel
theorem dX1_init_12 : decode cX1_init 12 = .ok (.aload_n 0, 1) := by decide +kernel
theorem dX1_init_13 : decode cX1_init 13 = .ok (.bipush 24, 2) := by decide +kernel
theorem dX1_init_15 : decode cX1_init 15 = .ok (.newarray .int, 2) := by decide +kernel
theorem dX1_init_17 : decode cX1_init 17 = .ok (.putfield 15, 3) := by decide +kernel
theorem dX1_init_20 : decode cX1_init 20 = .ok (.aload_n 0, 1) := by decide +kernel
theorem dX1_init_21 : decode cX1_init 21 = .ok (.bipush 24, 2) := by decide +kernel
theorem dX1_init_23 : decode cX1_init 23 = .ok (.newarray .int, 2) := by decide +kernel
theorem dX1_init_25 : decode cX1_init 25 = .ok (.putfield 18, 3) := by decide +kernel
theorem dX1_init_28 : decode cX1_init 28 = .ok (.aload_n 0, 1) := by decide +kernel
theorem dX1_init_29 : decode cX1_init 29 = .ok (.bipush 24, 2) := by decide +kernel
theorem dX1_init_31 : decode cX1_init 31 = .ok (.newarray .boolean, 2) := by decide +kernel
theorem dX1_init_33 : decode cX1_init 33 = .ok (.putfield 21, 3) := by decide +kernel
theorem dX1_init_36 : decode cX1_init 36 = .ok (.aload_n 0, 1) := by decide +kernel
theorem dX1_init_37 : decode cX1_init 37 = .ok (.aload_n 1, 1) := by decide +kernel
theorem dX1_init_38 : decode cX1_init 38 = .ok (.putfield 25, 3) := by decide +kernel
theorem dX1_init_41 : decode cX1_init 41 = .ok (.return_, 1) := by decide +kernel
theorem dX1_open_0 : decode cX1_open 0 = .ok (.aload_n 0, 1) := by decide +kernel
theorem dX1_open_1 : decode cX1_open 1 = .ok (.aload_n 1, 1) := by decide +kernel
theorem dX1_open_2 : decode cX1_open 2 = .ok (.putfield 25, 3) := by decide +kernel
theorem dX1_open_5 : decode cX1_open 5 = .ok (.return_, 1) := by decide +kernel
theorem dX1_memberOf_0 : decode cX1_memberOf 0 = .ok (.aload_n 0, 1) := by decide +kernel
theorem dX1_memberOf_1 : decode cX1_memberOf 1 = .ok (.getfield 25, 3) := by decide +kernel
theorem dX1_memberOf_4 : decode cX1_memberOf 4 = .ok (.getfield 29, 3) := by decide +kernel
theorem dX1_memberOf_7 : decode cX1_memberOf 7 = .ok (.iload_n 1, 1) := by decide +kernel
theorem dX1_memberOf_8 : decode cX1_memberOf 8 = .ok (.sipush 1000, 3) := by decide +kernel
theorem dX1_memberOf_11 : decode cX1_memberOf 11 = .ok (.if_icmp .ge 7, 3) := by decide +kernel
theorem dX1_memberOf_14 : decode cX1_memberOf 14 = .ok (.iload_n 1, 1) := by decide +kernel
theorem dX1_memberOf_15 : decode cX1_memberOf 15 = .ok (.goto 16, 3) := by decide +kernel
theorem dX1_memberOf_18 : decode cX1_memberOf 18 = .ok (.aload_n 0, 1) := by decide +kernel
theorem dX1_memberOf_19 : decode cX1_memberOf 19 = .ok (.getfield 25, 3) := by decide +kernel
theorem dX1_memberOf_22 : decode cX1_memberOf 22 = .ok (.getfield 35, 3) := by decide +kernel
theorem dX1_memberOf_25 : decode cX1_memberOf 25 = .ok (.iload_n 1, 1) := by decide +kernel
theorem dX1_memberOf_26 : decode cX1_memberOf 26 = .ok (.sipush 1000, 3) := by decide +kernel
theorem dX1_memberOf_29 : decode cX1_memberOf 29 = .ok (.isub, 1) := by decide +kernel
theorem dX1_memberOf_30 : decode cX1_memberOf 30 = .ok (.iaload, 1) := by decide +kernel
theorem dX1_memberOf_31 : decode cX1_memberOf 31 = .ok (.aaload, 1) := by decide +kernel
theorem dX1_memberOf_32 : decode cX1_memberOf 32 = .ok (.areturn, 1) := by decide +kernel
theorem dX1_isAbstract_0 : decode cX1_isAbstract 0 = .ok (.aload_n 0, 1) := by decide +kernel
theorem dX1_isAbstract_1 : decode cX1_isAbstract 1 = .ok (.iload_n 1, 1) := by decide +kernel
theorem dX1_isAbstract_2 : decode cX1_isAbstract 2 = .ok (.invokevirtual 38, 3) := by decide +kernel
theorem dX1_isAbstract_5 : decode cX1_isAbstract 5 = .ok (.getfield 42, 3) := by decide +kernel
theorem dX1_isAbstract_8 : decode cX1_isAbstract 8 = .ok (.iconst 2, 1) := by decide +kernel
theorem dX1_isAbstract_9 : decode cX1_isAbstract 9 = .ok (.if_icmp .ne 7, 3) := by decide +kernel
theorem dX1_isAbstract_12 : decode cX1_isAbstract 12 = .ok (.iconst 1, 1) := by decide +kernel
theorem dX1_isAbstract_13 : decode cX1_isAbstract 13 = .ok (.goto 4, 3) := by decide +kernel
theorem dX1_isAbstract_16 : decode cX1_isAbstract 16 = .ok (.iconst 0, 1) := by decide +kernel
theorem dX1_isAbstract_17 : decode cX1_isAbstract 17 = .ok (.ireturn, 1) := by decide +kernel
theorem dX1_find_0 : decode cX1_find 0 = .ok (.aload_n 0, 1) := by decide +kernel
theorem dX1_find_1 : decode cX1_find 1 = .ok (.getfield 25, 3) := by decide +kernel
theorem dX1_find_4 : decode cX1_find 4 = .ok (.getfield 48, 3) := by decide +kernel
theorem dX1_find_7 : decode cX1_find 7 = .ok (.iload_n 1, 1) := by decide +kernel
theorem dX1_find_8 : decode cX1_find 8 = .ok (.aaload, 1) := by decide +kernel
theorem dX1_find_9 : decode cX1_find 9 = .ok (.invokevirtual 52, 3) := by decide +kernel
theorem dX1_find_12 : decode cX1_find 12 = .ok (.ifCond .eq 7, 3) := by decide +kernel
theorem dX1_find_15 : decode cX1_find 15 = .ok (.iconst (-1), 1) := by decide +kernel
theorem dX1_find_16 : decode cX1_find 16 = .ok (.goto 4, 3) := by decide +kernel
theorem dX1_find_19 : decode cX1_find 19 = .ok (.iload_n 1, 1) := by decide +kernel
theorem dX1_find_20 : decode cX1_find 20 = .ok (.istore_n 3, 1) := by decide +kernel
theorem dX1_find_21 : decode cX1_find 21 = .ok (.iconst 0, 1) := by decide +kernel
theorem dX1_find_22 : decode cX1_find 22 = .ok (.istore 4, 2) := by decide +kernel
theorem dX1_find_24 : decode cX1_find 24 = .ok (.iload 4, 2) := by decide +kernel
theorem dX1_find_26 : decode cX1_find 26 = .ok (.bipush 24, 2) := by decide +kernel
theorem dX1_find_28 : decode cX1_find 28 = .ok (.if_icmp .ge 52, 3) := by decide +kernel
theorem dX1_find_31 : decode cX1_find 31 = .ok (.iload_n 3, 1) := by decide +kernel
theorem dX1_find_32 : decode cX1_find 32 = .ok (.iconst (-1), 1) := by decide +kernel
theorem dX1_find_33 : decode cX1_find 33 = .ok (.if_icmp .eq 47, 3) := by decide +kernel
theorem dX1_find_36 : decode cX1_find 36 = .ok (.aload_n 0, 1) := by decide +kernel
theorem dX1_find_37 : decode cX1_find 37 = .ok (.getfield 25, 3) := by decide +kernel
theorem dX1_find_40 : decode cX1_find 40 = .ok (.getfield 48, 3) := by decide +kernel
theorem dX1_find_43 : decode cX1_find 43 = .ok (.iload_n 3, 1) := by decide +kernel
theorem dX1_find_44 : decode cX1_find 44 = .ok (.aaload, 1) := by decide +kernel
theorem dX1_find_45 : decode cX1_find 45 = .ok (.astore 5, 2) := by decide +kernel
theorem dX1_find_47 : decode cX1_find 47 = .ok (.aload_n 0, 1) := by decide +kernel
theorem dX1_find_48 : decode cX1_find 48 = .ok (.getfield 25, 3) := by decide +kernel
theorem dX1_find_51 : decode cX1_find 51 = .ok (.aload 5, 2) := by decide +kernel
theorem dX1_find_53 : decode cX1_find 53 = .ok (.iload_n 2, 1) := by decide +kernel
theorem dX1_find_54 : decode cX1_find 54 = .ok (.invokevirtual 58, 3) := by decide +kernel
theorem dX1_find_57 : decode cX1_find 57 = .ok (.istore 6, 2) := by decide +kernel
theorem dX1_find_59 : decode cX1_find 59 = .ok (.iload 6, 2) := by decide +kernel
theorem dX1_find_61 : decode cX1_find 61 = .ok (.iconst (-1), 1) := by decide +kernel
theorem dX1_find_62 : decode cX1_find 62 = .ok (.if_icmp .eq 6, 3) := by decide +kernel
theorem dX1_find_65 : decode cX1_find 65 = .ok (.iload 6, 2) := by decide +kernel
theorem dX1_find_67 : decode cX1_find 67 = .ok (.ireturn, 1) := by decide +kernel
theorem dX1_find_68 : decode cX1_find 68 = .ok (.aload 5, 2) := by decide +kernel
theorem dX1_find_70 : decode cX1_find 70 = .ok (.getfield 62, 3) := by decide +kernel
theorem dX1_find_73 : decode cX1_find 73 = .ok (.istore_n 3, 1) := by decide +kernel
theorem dX1_find_74 : decode cX1_find 74 = .ok (.iinc 4 1, 3) := by decide +kernel
theorem dX1_find_77 : decode cX1_find 77 = .ok (.goto (-53), 3) := by decide +kernel
theorem dX1_find_80 : decode cX1_find 80 = .ok (.aload_n 0, 1) := by decide +kernel
theorem dX1_find_81 : decode cX1_find 81 = .ok (.iload_n 1, 1) := by decide +kernel
theorem dX1_find_82 : decode cX1_find 82 = .ok (.iload_n 2, 1) := by decide +kernel
theorem dX1_find_83 : decode cX1_find 83 = .ok (.invokevirtual 65, 3) := by decide +kernel
theorem dX1_find_86 : decode cX1_find 86 = .ok (.aload_n 0, 1) := by decide +kernel
theorem dX1_find_87 : decode cX1_find 87 = .ok (.invokevirtual 69, 3) := by decide +kernel
theorem dX1_find_90 : decode cX1_find 90 = .ok (.istore 4, 2) := by decide +kernel
theorem dX1_find_92 : decode cX1_find 92 = .ok (.iload 4, 2) := by decide +kernel
theorem dX1_find_94 : decode cX1_find 94 = .ok (.ifCond .lt 6, 3) := by decide +kernel
theorem dX1_find_97 : decode cX1_find 97 = .ok (.iload 4, 2) := by decide +kernel
theorem dX1_find_99 : decode cX1_find 99 = .ok (.ireturn, 1) := by decide +kernel
theorem dX1_find_100 : decode cX1_find 100 = .ok (.aload_n 0, 1) := by decide +kernel
theorem dX1_find_101 : decode cX1_find 101 = .ok (.getfield 73, 3) := by decide +kernel
theorem dX1_find_104 : decode cX1_find 104 = .ok (.ifCond .le 12, 3) := by decide +kernel
theorem dX1_find_107 : decode cX1_find 107 = .ok (.aload_n 0, 1) := by decide +kernel
theorem dX1_find_108 : decode cX1_find 108 = .ok (.getfield 9, 3) := by decide +kernel
theorem dX1_find_111 : decode cX1_find 111 = .ok (.iconst 0, 1) := by decide +kernel
theorem dX1_find_112 : decode cX1_find 112 = .ok (.iaload, 1) := by decide +kernel
theorem dX1_find_113 : decode cX1_find 113 = .ok (.goto 4, 3) := by decide +kernel
theorem dX1_find_116 : decode cX1_find 116 = .ok (.iconst (-1), 1) := by decide +kernel
theorem dX1_find_117 : decode cX1_find 117 = .ok (.ireturn, 1) := by decide +kernel
theorem dX1_gatherFaces_0 : decode cX1_gatherFaces 0 = .ok (.aload_n 0, 1) := by decide +kernel
theorem dX1_gatherFaces_1 : decode cX1_gatherFaces 1 = .ok (.getfield 25, 3) := by decide +kernel
theorem dX1_gatherFaces_4 : decode cX1_gatherFaces 4 = .ok (.getfield 48, 3) := by decide +kernel
theorem dX1_gatherFaces_7 : decode cX1_gatherFaces 7 = .ok (.iload_n 1, 1) := by decide +kernel
theorem dX1_gatherFaces_8 : decode cX1_gatherFaces 8 = .ok (.aaload, 1) := by decide +kernel
theorem dX1_gatherFaces_9 : decode cX1_gatherFaces 9 = .ok (.astore_n 3, 1) := by decide +kernel
theorem dX1_gatherFaces_10 : decode cX1_gatherFaces 10 = .ok (.aload_n 0, 1) := by decide +kernel
theorem dX1_gatherFaces_11 : decode cX1_gatherFaces 11 = .ok (.iconst 0, 1) := by decide +kernel
theorem dX1_gatherFaces_12 : decode cX1_gatherFaces 12 = .ok (.putfield 73, 3) := by decide +kernel
theorem dX1_gatherFaces_15 : decode cX1_gatherFaces 15 = .ok (.aload_n 3, 1) := by decide +kernel
theorem dX1_gatherFaces_16 : decode cX1_gatherFaces 16 = .ok (.invokevirtual 52, 3) := by decide +kernel
theorem dX1_gatherFaces_19 : decode cX1_gatherFaces 19 = .ok (.ifCond .eq 15, 3) := by decide +kernel
theorem dX1_gatherFaces_22 : decode cX1_gatherFaces 22 = .ok (.aload_n 0, 1) := by decide +kernel
theorem dX1_gatherFaces_23 : decode cX1_gatherFaces 23 = .ok (.getfield 25, 3) := by decide +kernel
theorem dX1_gatherFaces_26 : decode cX1_gatherFaces 26 = .ok (.aload_n 3, 1) := by decide +kernel
theorem dX1_gatherFaces_27 : decode cX1_gatherFaces 27 = .ok (.iload_n 2, 1) := by decide +kernel
theorem dX1_gatherFaces_28 : decode cX1_gatherFaces 28 = .ok (.invokevirtual 58, 3) := by decide +kernel
theorem dX1_gatherFaces_31 : decode cX1_gatherFaces 31 = .ok (.goto 4, 3) := by decide +kernel
theorem dX1_gatherFaces_34 : decode cX1_gatherFaces 34 = .ok (.iconst (-1), 1) := by decide +kernel
theorem dX1_gatherFaces_35 : decode cX1_gatherFaces 35 = .ok (.istore 4, 2) := by decide +kernel
theorem dX1_gatherFaces_37 : decode cX1_gatherFaces 37 = .ok (.iload 4, 2) := by decide +kernel
theorem dX1_gatherFaces_39 : decode cX1_gatherFaces 39 = .ok (.iconst (-1), 1) := by decide +kernel
theorem dX1_gatherFaces_40 : decode cX1_gatherFaces 40 = .ok (.if_icmp .eq 17, 3) := by decide +kernel
theorem dX1_gatherFaces_43 : decode cX1_gatherFaces 43 = .ok (.aload_n 0, 1) := by decide +kernel
theorem dX1_gatherFaces_44 : decode cX1_gatherFaces 44 = .ok (.getfield 9, 3) := by decide +kernel
theorem dX1_gatherFaces_47 : decode cX1_gatherFaces 47 = .ok (.iconst 0, 1) := by decide +kernel
theorem dX1_gatherFaces_48 : decode cX1_gatherFaces 48 = .ok (.iload 4, 2) := by decide +kernel
theorem dX1_gatherFaces_50 : decode cX1_gatherFaces 50 = .ok (.iastore, 1) := by decide +kernel
theorem dX1_gatherFaces_51 : decode cX1_gatherFaces 51 = .ok (.aload_n 0, 1) := by decide +kernel
theorem dX1_gatherFaces_52 : decode cX1_gatherFaces 52 = .ok (.iconst 1, 1) := by decide +kernel
theorem dX1_gatherFaces_53 : decode cX1_gatherFaces 53 = .ok (.putfield 73, 3) := by decide +kernel
theorem dX1_gatherFaces_56 : decode cX1_gatherFaces 56 = .ok (.return_, 1) := by decide +kernel
theorem dX1_gatherFaces_57 : decode cX1_gatherFaces 57 = .ok (.iconst 0, 1) := by decide +kernel
theorem dX1_gatherFaces_58 : decode cX1_gatherFaces 58 = .ok (.istore 5, 2) := by decide +kernel
theorem dX1_gatherFaces_60 : decode cX1_gatherFaces 60 = .ok (.iload 5, 2) := by decide +kernel
theorem dX1_gatherFaces_62 : decode cX1_gatherFaces 62 = .ok (.aload_n 3, 1) := by decide +kernel
theorem dX1_gatherFaces_63 : decode cX1_gatherFaces 63 = .ok (.getfield 76, 3) := by decide +kernel
theorem dX1_gatherFaces_66 : decode cX1_gatherFaces 66 = .ok (.if_icmp .ge 89, 3) := by decide +kernel
theorem dX1_gatherFaces_69 : decode cX1_gatherFaces 69 = .ok (.aload_n 0, 1) := by decide +kernel
theorem dX1_gatherFaces_70 : decode cX1_gatherFaces 70 = .ok (.getfield 25, 3) := by decide +kernel
theorem dX1_gatherFaces_73 : decode cX1_gatherFaces 73 = .ok (.getfield 48, 3) := by decide +kernel
theorem dX1_gatherFaces_76 : decode cX1_gatherFaces 76 = .ok (.aload_n 3, 1) := by decide +kernel
theorem dX1_gatherFaces_77 : decode cX1_gatherFaces 77 = .ok (.getfield 79, 3) := by decide +kernel
theorem dX1_gatherFaces_80 : decode cX1_gatherFaces 80 = .ok (.iload 5, 2) := by decide +kernel
theorem dX1_gatherFaces_82 : decode cX1_gatherFaces 82 = .ok (.iaload, 1) := by decide +kernel
theorem dX1_gatherFaces_83 : decode cX1_gatherFaces 83 = .ok (.aaload, 1) := by decide +kernel
theorem dX1_gatherFaces_84 : decode cX1_gatherFaces 84 = .ok (.astore 6, 2) := by decide +kernel
theorem dX1_gatherFaces_86 : decode cX1_gatherFaces 86 = .ok (.aload 6, 2) := by decide +kernel
theorem dX1_gatherFaces_88 : decode cX1_gatherFaces 88 = .ok (.invokevirtual 52, 3) := by decide +kernel
theorem dX1_gatherFaces_91 : decode cX1_gatherFaces 91 = .ok (.ifCond .eq 16, 3) := by decide +kernel
theorem dX1_gatherFaces_94 : decode cX1_gatherFaces 94 = .ok (.aload_n 0, 1) := by decide +kernel
theorem dX1_gatherFaces_95 : decode cX1_gatherFaces 95 = .ok (.getfield 25, 3) := by decide +kernel
theorem dX1_gatherFaces_98 : decode cX1_gatherFaces 98 = .ok (.aload 6, 2) := by decide +kernel
theorem dX1_gatherFaces_100 : decode cX1_gatherFaces 100 = .ok (.iload_n 2, 1) := by decide +kernel
theorem dX1_gatherFaces_101 : decode cX1_gatherFaces 101 = .ok (.invokevirtual 58, 3) := by decide +kernel
theorem dX1_gatherFaces_104 : decode cX1_gatherFaces 104 = .ok (.goto 4, 3) := by decide +kernel
theorem dX1_gatherFaces_107 : decode cX1_gatherFaces 107 = .ok (.iconst (-1), 1) := by decide +kernel
theorem dX1_gatherFaces_108 : decode cX1_gatherFaces 108 = .ok (.istore 7, 2) := by decide +kernel
theorem dX1_gatherFaces_110 : decode cX1_gatherFaces 110 = .ok (.iload 7, 2) := by decide +kernel
theorem dX1_gatherFaces_112 : decode cX1_gatherFaces 112 = .ok (.iconst (-1), 1) := by decide +kernel
theorem dX1_gatherFaces_113 : decode cX1_gatherFaces 113 = .ok (.if_icmp .eq 36, 3) := by decide +kernel
theorem dX1_gatherFaces_116 : decode cX1_gatherFaces 116 = .ok (.aload_n 0, 1) := by decide +kernel
theorem dX1_gatherFaces_117 : decode cX1_gatherFaces 117 = .ok (.iload 7, 2) := by decide +kernel
theorem dX1_gatherFaces_119 : decode cX1_gatherFaces 119 = .ok (.invokevirtual 38, 3) := by decide +kernel
theorem dX1_gatherFaces_122 : decode cX1_gatherFaces 122 = .ok (.invokevirtual 82, 3) := by decide +kernel
theorem dX1_gatherFaces_125 : decode cX1_gatherFaces 125 = .ok (.ifCond .eq 24, 3) := by decide +kernel
theorem dX1_gatherFaces_128 : decode cX1_gatherFaces 128 = .ok (.aload_n 0, 1) := by decide +kernel
theorem dX1_gatherFaces_129 : decode cX1_gatherFaces 129 = .ok (.getfield 9, 3) := by decide +kernel
theorem dX1_gatherFaces_132 : decode cX1_gatherFaces 132 = .ok (.aload_n 0, 1) := by decide +kernel
theorem dX1_gatherFaces_133 : decode cX1_gatherFaces 133 = .ok (.getfield 73, 3) := by decide +kernel
theorem dX1_gatherFaces_136 : decode cX1_gatherFaces 136 = .ok (.iload 7, 2) := by decide +kernel
theorem dX1_gatherFaces_138 : decode cX1_gatherFaces 138 = .ok (.iastore, 1) := by decide +kernel
theorem dX1_gatherFaces_139 : decode cX1_gatherFaces 139 = .ok (.aload_n 0, 1) := by decide +kernel
theorem dX1_gatherFaces_140 : decode cX1_gatherFaces 140 = .ok (.dup, 1) := by decide +kernel
theorem dX1_gatherFaces_141 : decode cX1_gatherFaces 141 = .ok (.getfield 73, 3) := by decide +kernel
theorem dX1_gatherFaces_144 : decode cX1_gatherFaces 144 = .ok (.iconst 1, 1) := by decide +kernel
theorem dX1_gatherFaces_145 : decode cX1_gatherFaces 145 = .ok (.iadd, 1) := by decide +kernel
theorem dX1_gatherFaces_146 : decode cX1_gatherFaces 146 = .ok (.putfield 73, 3) := by decide +kernel
theorem dX1_gatherFaces_149 : decode cX1_gatherFaces 149 = .ok (.iinc 5 1, 3) := by decide +kernel
theorem dX1_gatherFaces_152 : decode cX1_gatherFaces 152 = .ok (.goto (-92), 3) := by decide +kernel
theorem dX1_gatherFaces_155 : decode cX1_gatherFaces 155 = .ok (.return_, 1) := by decide +kernel
theorem dX1_isSpecific_0 : decode cX1_isSpecific 0 = .ok (.aload_n 0, 1) := by decide +kernel
theorem dX1_isSpecific_1 : decode cX1_isSpecific 1 = .ok (.aload_n 0, 1) := by decide +kernel
theorem dX1_isSpecific_2 : decode cX1_isSpecific 2 = .ok (.getfield 9, 3) := by decide +kernel
theorem dX1_isSpecific_5 : decode cX1_isSpecific 5 = .ok (.iload_n 1, 1) := by decide +kernel
theorem dX1_isSpecific_6 : decode cX1_isSpecific 6 = .ok (.iaload, 1) := by decide +kernel
theorem dX1_isSpecific_7 : decode cX1_isSpecific 7 = .ok (.invokevirtual 38, 3) := by decide +kernel
theorem dX1_isSpecific_10 : decode cX1_isSpecific 10 = .ok (.getfield 85, 3) := by decide +kernel
theorem dX1_isSpecific_13 : decode cX1_isSpecific 13 = .ok (.istore_n 2, 1) := by decide +kernel
theorem dX1_isSpecific_14 : decode cX1_isSpecific 14 = .ok (.iconst 0, 1) := by decide +kernel
theorem dX1_isSpecific_15 : decode cX1_isSpecific 15 = .ok (.istore_n 3, 1) := by decide +kernel
theorem dX1_isSpecific_16 : decode cX1_isSpecific 16 = .ok (.iload_n 3, 1) := by decide +kernel
theorem dX1_isSpecific_17 : decode cX1_isSpecific 17 = .ok (.aload_n 0, 1) := by decide +kernel
theorem dX1_isSpecific_18 : decode cX1_isSpecific 18 = .ok (.getfield 73, 3) := by decide +kernel
theorem dX1_isSpecific_21 : decode cX1_isSpecific 21 = .ok (.if_icmp .ge 40, 3) := by decide +kernel
theorem dX1_isSpecific_24 : decode cX1_isSpecific 24 = .ok (.iload_n 3, 1) := by decide +kernel
theorem dX1_isSpecific_25 : decode cX1_isSpecific 25 = .ok (.iload_n 1, 1) := by decide +kernel
theorem dX1_isSpecific_26 : decode cX1_isSpecific 26 = .ok (.if_icmp .eq 29, 3) := by decide +kernel
theorem dX1_isSpecific_29 : decode cX1_isSpecific 29 = .ok (.aload_n 0, 1) := by decide +kernel
theorem dX1_isSpecific_30 : decode cX1_isSpecific 30 = .ok (.getfield 25, 3) := by decide +kernel
theorem dX1_isSpecific_33 : decode cX1_isSpecific 33 = .ok (.aload_n 0, 1) := by decide +kernel
theorem dX1_isSpecific_34 : decode cX1_isSpecific 34 = .ok (.aload_n 0, 1) := by decide +kernel
theorem dX1_isSpecific_35 : decode cX1_isSpecific 35 = .ok (.getfield 9, 3) := by decide +kernel
theorem dX1_isSpecific_38 : decode cX1_isSpecific 38 = .ok (.iload_n 3, 1) := by decide +kernel
theorem dX1_isSpecific_39 : decode cX1_isSpecific 39 = .ok (.iaload, 1) := by decide +kernel
theorem dX1_isSpecific_40 : decode cX1_isSpecific 40 = .ok (.invokevirtual 38, 3) := by decide +kernel
theorem dX1_isSpecific_43 : decode cX1_isSpecific 43 = .ok (.getfield 85, 3) := by decide +kernel
theorem dX1_isSpecific_46 : decode cX1_isSpecific 46 = .ok (.iload_n 2, 1) := by decide +kernel
theorem dX1_isSpecific_47 : decode cX1_isSpecific 47 = .ok (.invokevirtual 88, 3) := by decide +kernel
theorem dX1_isSpecific_50 : decode cX1_isSpecific 50 = .ok (.ifCond .eq 5, 3) := by decide +kernel
theorem dX1_isSpecific_53 : decode cX1_isSpecific 53 = .ok (.iconst 0, 1) := by decide +kernel
theorem dX1_isSpecific_54 : decode cX1_isSpecific 54 = .ok (.ireturn, 1) := by decide +kernel
theorem dX1_isSpecific_55 : decode cX1_isSpecific 55 = .ok (.iinc 3 1, 3) := by decide +kernel
theorem dX1_isSpecific_58 : decode cX1_isSpecific 58 = .ok (.goto (-42), 3) := by decide +kernel
theorem dX1_isSpecific_61 : decode cX1_isSpecific 61 = .ok (.iconst 1, 1) := by decide +kernel
theorem dX1_isSpecific_62 : decode cX1_isSpecific 62 = .ok (.ireturn, 1) := by decide +kernel
theorem dX1_soleBody_0 : decode cX1_soleBody 0 = .ok (.bipush (-4), 2) := by decide +kernel
theorem dX1_soleBody_2 : decode cX1_soleBody 2 = .ok (.istore_n 1, 1) := by decide +kernel
theorem dX1_soleBody_3 : decode cX1_soleBody 3 = .ok (.iconst 0, 1) := by decide +kernel
theorem dX1_soleBody_4 : decode cX1_soleBody 4 = .ok (.istore_n 2, 1) := by decide +kernel
theorem dX1_soleBody_5 : decode cX1_soleBody 5 = .ok (.iload_n 2, 1) := by decide +kernel
theorem dX1_soleBody_6 : decode cX1_soleBody 6 = .ok (.aload_n 0, 1) := by decide +kernel
theorem dX1_soleBody_7 : decode cX1_soleBody 7 = .ok (.getfield 73, 3) := by decide +kernel
theorem dX1_soleBody_10 : decode cX1_soleBody 10 = .ok (.if_icmp .ge 46, 3) := by decide +kernel
theorem dX1_soleBody_13 : decode cX1_soleBody 13 = .ok (.aload_n 0, 1) := by decide +kernel
theorem dX1_soleBody_14 : decode cX1_soleBody 14 = .ok (.aload_n 0, 1) := by decide +kernel
theorem dX1_soleBody_15 : decode cX1_soleBody 15 = .ok (.getfield 9, 3) := by decide +kernel
theorem dX1_soleBody_18 : decode cX1_soleBody 18 = .ok (.iload_n 2, 1) := by decide +kernel
theorem dX1_soleBody_19 : decode cX1_soleBody 19 = .ok (.iaload, 1) := by decide +kernel
theorem dX1_soleBody_20 : decode cX1_soleBody 20 = .ok (.invokevirtual 92, 3) := by decide +kernel
theorem dX1_soleBody_23 : decode cX1_soleBody 23 = .ok (.ifCond .ne 27, 3) := by decide +kernel
theorem dX1_soleBody_26 : decode cX1_soleBody 26 = .ok (.aload_n 0, 1) := by decide +kernel
theorem dX1_soleBody_27 : decode cX1_soleBody 27 = .ok (.iload_n 2, 1) := by decide +kernel
theorem dX1_soleBody_28 : decode cX1_soleBody 28 = .ok (.invokevirtual 96, 3) := by decide +kernel
theorem dX1_soleBody_31 : decode cX1_soleBody 31 = .ok (.ifCond .eq 19, 3) := by decide +kernel
theorem dX1_soleBody_34 : decode cX1_soleBody 34 = .ok (.iload_n 1, 1) := by decide +kernel
theorem dX1_soleBody_35 : decode cX1_soleBody 35 = .ok (.bipush (-4), 2) := by decide +kernel
theorem dX1_soleBody_37 : decode cX1_soleBody 37 = .ok (.if_icmp .eq 6, 3) := by decide +kernel
theorem dX1_soleBody_40 : decode cX1_soleBody 40 = .ok (.bipush (-3), 2) := by decide +kernel
theorem dX1_soleBody_42 : decode cX1_soleBody 42 = .ok (.ireturn, 1) := by decide +kernel
theorem dX1_soleBody_43 : decode cX1_soleBody 43 = .ok (.aload_n 0, 1) := by decide +kernel
theorem dX1_soleBody_44 : decode cX1_soleBody 44 = .ok (.getfield 9, 3) := by decide +kernel
theorem dX1_soleBody_47 : decode cX1_soleBody 47 = .ok (.iload_n 2, 1) := by decide +kernel
theorem dX1_soleBody_48 : decode cX1_soleBody 48 = .ok (.iaload, 1) := by decide +kernel
theorem dX1_soleBody_49 : decode cX1_soleBody 49 = .ok (.istore_n 1, 1) := by decide +kernel
theorem dX1_soleBody_50 : decode cX1_soleBody 50 = .ok (.iinc 2 1, 3) := by decide +kernel
theorem dX1_soleBody_53 : decode cX1_soleBody 53 = .ok (.goto (-48), 3) := by decide +kernel
theorem dX1_soleBody_56 : decode cX1_soleBody 56 = .ok (.iload_n 1, 1) := by decide +kernel
theorem dX1_soleBody_57 : decode cX1_soleBody 57 = .ok (.ireturn, 1) := by decide +kernel
theorem dX1_specificAt_0 : decode cX1_specificAt 0 = .ok (.aload_n 0, 1) := by decide +kernel
theorem dX1_specificAt_1 : decode cX1_specificAt 1 = .ok (.iload_n 1, 1) := by decide +kernel
theorem dX1_specificAt_2 : decode cX1_specificAt 2 = .ok (.iload_n 2, 1) := by decide +kernel
theorem dX1_specificAt_3 : decode cX1_specificAt 3 = .ok (.invokevirtual 65, 3) := by decide +kernel
theorem dX1_specificAt_6 : decode cX1_specificAt 6 = .ok (.iconst 0, 1) := by decide +kernel
theorem dX1_specificAt_7 : decode cX1_specificAt 7 = .ok (.istore 4, 2) := by decide +kernel
theorem dX1_specificAt_9 : decode cX1_specificAt 9 = .ok (.iconst 0, 1) := by decide +kernel
theorem dX1_specificAt_10 : decode cX1_specificAt 10 = .ok (.istore 5, 2) := by decide +kernel
theorem dX1_specificAt_12 : decode cX1_specificAt 12 = .ok (.iload 5, 2) := by decide +kernel
theorem dX1_specificAt_14 : decode cX1_specificAt 14 = .ok (.aload_n 0, 1) := by decide +kernel
theorem dX1_specificAt_15 : decode cX1_specificAt 15 = .ok (.getfield 73, 3) := by decide +kernel
theorem dX1_specificAt_18 : decode cX1_specificAt 18 = .ok (.if_icmp .ge 35, 3) := by decide +kernel
theorem dX1_specificAt_21 : decode cX1_specificAt 21 = .ok (.aload_n 0, 1) := by decide +kernel
theorem dX1_specificAt_22 : decode cX1_specificAt 22 = .ok (.iload 5, 2) := by decide +kernel
theorem dX1_specificAt_24 : decode cX1_specificAt 24 = .ok (.invokevirtual 96, 3) := by decide +kernel
theorem dX1_specificAt_27 : decode cX1_specificAt 27 = .ok (.ifCond .eq 20, 3) := by decide +kernel
theorem dX1_specificAt_30 : decode cX1_specificAt 30 = .ok (.iload 4, 2) := by decide +kernel
theorem dX1_specificAt_32 : decode cX1_specificAt 32 = .ok (.iload_n 3, 1) := by decide +kernel
theorem dX1_specificAt_33 : decode cX1_specificAt 33 = .ok (.if_icmp .ne 11, 3) := by decide +kernel
theorem dX1_specificAt_36 : decode cX1_specificAt 36 = .ok (.aload_n 0, 1) := by decide +kernel
theorem dX1_specificAt_37 : decode cX1_specificAt 37 = .ok (.getfield 9, 3) := by decide +kernel
theorem dX1_specificAt_40 : decode cX1_specificAt 40 = .ok (.iload 5, 2) := by decide +kernel
theorem dX1_specificAt_42 : decode cX1_specificAt 42 = .ok (.iaload, 1) := by decide +kernel
theorem dX1_specificAt_43 : decode cX1_specificAt 43 = .ok (.ireturn, 1) := by decide +kernel
theorem dX1_specificAt_44 : decode cX1_specificAt 44 = .ok (.iinc 4 1, 3) := by decide +kernel
theorem dX1_specificAt_47 : decode cX1_specificAt 47 = .ok (.iinc 5 1, 3) := by decide +kernel
theorem dX1_specificAt_50 : decode cX1_specificAt 50 = .ok (.goto (-38), 3) := by decide +kernel
theorem dX1_specificAt_53 : decode cX1_specificAt 53 = .ok (.iconst (-1), 1) := by decide +kernel
theorem dX1_specificAt_54 : decode cX1_specificAt 54 = .ok (.ireturn, 1) := by decide +kernel
theorem dX1_isGranted_0 : decode cX1_isGranted 0 = .ok (.aload_n 0, 1) := by decide +kernel
theorem dX1_isGranted_1 : decode cX1_isGranted 1 = .ok (.iload_n 3, 1) := by decide +kernel
theorem dX1_isGranted_2 : decode cX1_isGranted 2 = .ok (.invokevirtual 38, 3) := by decide +kernel
theorem dX1_isGranted_5 : decode cX1_isGranted 5 = .ok (.astore 5, 2) := by decide +kernel
theorem dX1_isGranted_7 : decode cX1_isGranted 7 = .ok (.aload 5, 2) := by decide +kernel
theorem dX1_isGranted_9 : decode cX1_isGranted 9 = .ok (.getfield 99, 3) := by decide +kernel
theorem dX1_isGranted_12 : decode cX1_isGranted 12 = .ok (.tableswitch 62 0 3 #[34, 48, 62, 32], 32) := by decide +kernel
theorem dX1_isGranted_44 : decode cX1_isGranted 44 = .ok (.iconst 1, 1) := by decide +kernel
theorem dX1_isGranted_45 : decode cX1_isGranted 45 = .ok (.ireturn, 1) := by decide +kernel
theorem dX1_isGranted_46 : decode cX1_isGranted 46 = .ok (.aload_n 0, 1) := by decide +kernel
theorem dX1_isGranted_47 : decode cX1_isGranted 47 = .ok (.getfield 25, 3) := by decide +kernel
theorem dX1_isGranted_50 : decode cX1_isGranted 50 = .ok (.iload_n 1, 1) := by decide +kernel
theorem dX1_isGranted_51 : decode cX1_isGranted 51 = .ok (.aload 5, 2) := by decide +kernel
theorem dX1_isGranted_53 : decode cX1_isGranted 53 = .ok (.getfield 85, 3) := by decide +kernel
theorem dX1_isGranted_56 : decode cX1_isGranted 56 = .ok (.invokevirtual 102, 3) := by decide +kernel
theorem dX1_isGranted_59 : decode cX1_isGranted 59 = .ok (.ireturn, 1) := by decide +kernel
theorem dX1_isGranted_60 : decode cX1_isGranted 60 = .ok (.aload_n 0, 1) := by decide +kernel
theorem dX1_isGranted_61 : decode cX1_isGranted 61 = .ok (.getfield 25, 3) := by decide +kernel
theorem dX1_isGranted_64 : decode cX1_isGranted 64 = .ok (.iload_n 1, 1) := by decide +kernel
theorem dX1_isGranted_65 : decode cX1_isGranted 65 = .ok (.aload 5, 2) := by decide +kernel
theorem dX1_isGranted_67 : decode cX1_isGranted 67 = .ok (.getfield 85, 3) := by decide +kernel
theorem dX1_isGranted_70 : decode cX1_isGranted 70 = .ok (.invokevirtual 105, 3) := by decide +kernel
theorem dX1_isGranted_73 : decode cX1_isGranted 73 = .ok (.ireturn, 1) := by decide +kernel
theorem dX1_isGranted_74 : decode cX1_isGranted 74 = .ok (.aload_n 0, 1) := by decide +kernel
theorem dX1_isGranted_75 : decode cX1_isGranted 75 = .ok (.getfield 25, 3) := by decide +kernel
theorem dX1_isGranted_78 : decode cX1_isGranted 78 = .ok (.iload_n 1, 1) := by decide +kernel
theorem dX1_isGranted_79 : decode cX1_isGranted 79 = .ok (.aload 5, 2) := by decide +kernel
theorem dX1_isGranted_81 : decode cX1_isGranted 81 = .ok (.getfield 85, 3) := by decide +kernel
theorem dX1_isGranted_84 : decode cX1_isGranted 84 = .ok (.invokevirtual 105, 3) := by decide +kernel
theorem dX1_isGranted_87 : decode cX1_isGranted 87 = .ok (.ifCond .ne 16, 3) := by decide +kernel
theorem dX1_isGranted_90 : decode cX1_isGranted 90 = .ok (.aload_n 0, 1) := by decide +kernel
theorem dX1_isGranted_91 : decode cX1_isGranted 91 = .ok (.iload_n 1, 1) := by decide +kernel
theorem dX1_isGranted_92 : decode cX1_isGranted 92 = .ok (.iload_n 2, 1) := by decide +kernel
theorem dX1_isGranted_93 : decode cX1_isGranted 93 = .ok (.aload 5, 2) := by decide +kernel
theorem dX1_isGranted_95 : decode cX1_isGranted 95 = .ok (.iload 4, 2) := by decide +kernel
theorem dX1_isGranted_97 : decode cX1_isGranted 97 = .ok (.invokevirtual 108, 3) := by decide +kernel
theorem dX1_isGranted_100 : decode cX1_isGranted 100 = .ok (.ifCond .eq 7, 3) := by decide +kernel
theorem dX1_isGranted_103 : decode cX1_isGranted 103 = .ok (.iconst 1, 1) := by decide +kernel
theorem dX1_isGranted_104 : decode cX1_isGranted 104 = .ok (.goto 4, 3) := by decide +kernel
theorem dX1_isGranted_107 : decode cX1_isGranted 107 = .ok (.iconst 0, 1) := by decide +kernel
theorem dX1_isGranted_108 : decode cX1_isGranted 108 = .ok (.ireturn, 1) := by decide +kernel
theorem dX1_isNear_0 : decode cX1_isNear 0 = .ok (.aload_n 0, 1) := by decide +kernel
theorem dX1_isNear_1 : decode cX1_isNear 1 = .ok (.getfield 25, 3) := by decide +kernel
theorem dX1_isNear_4 : decode cX1_isNear 4 = .ok (.iload_n 1, 1) := by decide +kernel
theorem dX1_isNear_5 : decode cX1_isNear 5 = .ok (.aload_n 3, 1) := by decide +kernel
theorem dX1_isNear_6 : decode cX1_isNear 6 = .ok (.getfield 85, 3) := by decide +kernel
theorem dX1_isNear_9 : decode cX1_isNear 9 = .ok (.invokevirtual 88, 3) := by decide +kernel
theorem dX1_isNear_12 : decode cX1_isNear 12 = .ok (.ifCond .ne 5, 3) := by decide +kernel
theorem dX1_isNear_15 : decode cX1_isNear 15 = .ok (.iconst 0, 1) := by decide +kernel
theorem dX1_isNear_16 : decode cX1_isNear 16 = .ok (.ireturn, 1) := by decide +kernel
theorem dX1_isNear_17 : decode cX1_isNear 17 = .ok (.aload_n 0, 1) := by decide +kernel
theorem dX1_isNear_18 : decode cX1_isNear 18 = .ok (.getfield 25, 3) := by decide +kernel
theorem dX1_isNear_21 : decode cX1_isNear 21 = .ok (.iload_n 2, 1) := by decide +kernel
theorem dX1_isNear_22 : decode cX1_isNear 22 = .ok (.iload_n 1, 1) := by decide +kernel
theorem dX1_isNear_23 : decode cX1_isNear 23 = .ok (.invokevirtual 88, 3) := by decide +kernel
theorem dX1_isNear_26 : decode cX1_isNear 26 = .ok (.ifCond .ne 15, 3) := by decide +kernel
theorem dX1_isNear_29 : decode cX1_isNear 29 = .ok (.aload_n 0, 1) := by decide +kernel
theorem dX1_isNear_30 : decode cX1_isNear 30 = .ok (.getfield 25, 3) := by decide +kernel
theorem dX1_isNear_33 : decode cX1_isNear 33 = .ok (.iload_n 1, 1) := by decide +kernel
theorem dX1_isNear_34 : decode cX1_isNear 34 = .ok (.iload_n 2, 1) := by decide +kernel
theorem dX1_isNear_35 : decode cX1_isNear 35 = .ok (.invokevirtual 88, 3) := by decide +kernel
theorem dX1_isNear_38 : decode cX1_isNear 38 = .ok (.ifCond .eq 7, 3) := by decide +kernel
theorem dX1_isNear_41 : decode cX1_isNear 41 = .ok (.iconst 1, 1) := by decide +kernel
theorem dX1_isNear_42 : decode cX1_isNear 42 = .ok (.goto 4, 3) := by decide +kernel
theorem dX1_isNear_45 : decode cX1_isNear 45 = .ok (.iconst 0, 1) := by decide +kernel
theorem dX1_isNear_46 : decode cX1_isNear 46 = .ok (.istore 5, 2) := by decide +kernel
theorem dX1_isNear_48 : decode cX1_isNear 48 = .ok (.aload_n 3, 1) := by decide +kernel
theorem dX1_isNear_49 : decode cX1_isNear 49 = .ok (.invokevirtual 112, 3) := by decide +kernel
theorem dX1_isNear_52 : decode cX1_isNear 52 = .ok (.ifCond .ne 21, 3) := by decide +kernel
theorem dX1_isNear_55 : decode cX1_isNear 55 = .ok (.iload 5, 2) := by decide +kernel
theorem dX1_isNear_57 : decode cX1_isNear 57 = .ok (.ifCond .eq 20, 3) := by decide +kernel
theorem dX1_isNear_60 : decode cX1_isNear 60 = .ok (.aload_n 0, 1) := by decide +kernel
theorem dX1_isNear_61 : decode cX1_isNear 61 = .ok (.getfield 25, 3) := by decide +kernel
theorem dX1_isNear_64 : decode cX1_isNear 64 = .ok (.iload 4, 2) := by decide +kernel
theorem dX1_isNear_66 : decode cX1_isNear 66 = .ok (.iload_n 1, 1) := by decide +kernel
theorem dX1_isNear_67 : decode cX1_isNear 67 = .ok (.invokevirtual 88, 3) := by decide +kernel
theorem dX1_isNear_70 : decode cX1_isNear 70 = .ok (.ifCond .eq 7, 3) := by decide +kernel
theorem dX1_isNear_73 : decode cX1_isNear 73 = .ok (.iconst 1, 1) := by decide +kernel
theorem dX1_isNear_74 : decode cX1_isNear 74 = .ok (.goto 4, 3) := by decide +kernel
theorem dX1_isNear_77 : decode cX1_isNear 77 = .ok (.iconst 0, 1) := by decide +kernel
theorem dX1_isNear_78 : decode cX1_isNear 78 = .ok (.ireturn, 1) := by decide +kernel
theorem dX1_select_0 : decode cX1_select 0 = .ok (.aload_n 0, 1) := by decide +kernel
theorem dX1_select_1 : decode cX1_select 1 = .ok (.iload_n 1, 1) := by decide +kernel
theorem dX1_select_2 : decode cX1_select 2 = .ok (.invokevirtual 38, 3) := by decide +kernel
theorem dX1_select_5 : decode cX1_select 5 = .ok (.invokevirtual 115, 3) := by decide +kernel
theorem dX1_select_8 : decode cX1_select 8 = .ok (.ifCond .eq 5, 3) := by decide +kernel
theorem dX1_select_11 : decode cX1_select 11 = .ok (.iload_n 1, 1) := by decide +kernel
theorem dX1_select_12 : decode cX1_select 12 = .ok (.ireturn, 1) := by decide +kernel
theorem dX1_select_13 : decode cX1_select 13 = .ok (.aload_n 0, 1) := by decide +kernel
theorem dX1_select_14 : decode cX1_select 14 = .ok (.getfield 25, 3) := by decide +kernel
theorem dX1_select_17 : decode cX1_select 17 = .ok (.iload_n 1, 1) := by decide +kernel
theorem dX1_select_18 : decode cX1_select 18 = .ok (.invokevirtual 118, 3) := by decide +kernel
theorem dX1_select_21 : decode cX1_select 21 = .ok (.istore_n 3, 1) := by decide +kernel
theorem dX1_select_22 : decode cX1_select 22 = .ok (.aload_n 0, 1) := by decide +kernel
theorem dX1_select_23 : decode cX1_select 23 = .ok (.iload_n 2, 1) := by decide +kernel
theorem dX1_select_24 : decode cX1_select 24 = .ok (.iload_n 3, 1) := by decide +kernel
theorem dX1_select_25 : decode cX1_select 25 = .ok (.invokevirtual 122, 3) := by decide +kernel
theorem dX1_select_28 : decode cX1_select 28 = .ok (.aload_n 0, 1) := by decide +kernel
theorem dX1_select_29 : decode cX1_select 29 = .ok (.iload_n 1, 1) := by decide +kernel
theorem dX1_select_30 : decode cX1_select 30 = .ok (.invokevirtual 125, 3) := by decide +kernel
theorem dX1_select_33 : decode cX1_select 33 = .ok (.iconst 0, 1) := by decide +kernel
theorem dX1_select_34 : decode cX1_select 34 = .ok (.istore 4, 2) := by decide +kernel
theorem dX1_select_36 : decode cX1_select 36 = .ok (.iload 4, 2) := by decide +kernel
theorem dX1_select_38 : decode cX1_select 38 = .ok (.aload_n 0, 1) := by decide +kernel
theorem dX1_select_39 : decode cX1_select 39 = .ok (.getfield 129, 3) := by decide +kernel
theorem dX1_select_42 : decode cX1_select 42 = .ok (.if_icmp .ge 46, 3) := by decide +kernel
theorem dX1_select_45 : decode cX1_select 45 = .ok (.aload_n 0, 1) := by decide +kernel
theorem dX1_select_46 : decode cX1_select 46 = .ok (.getfield 21, 3) := by decide +kernel
theorem dX1_select_49 : decode cX1_select 49 = .ok (.iload 4, 2) := by decide +kernel
theorem dX1_select_51 : decode cX1_select 51 = .ok (.baload, 1) := by decide +kernel
theorem dX1_select_52 : decode cX1_select 52 = .ok (.ifCond .eq 30, 3) := by decide +kernel
theorem dX1_select_55 : decode cX1_select 55 = .ok (.aload_n 0, 1) := by decide +kernel
theorem dX1_select_56 : decode cX1_select 56 = .ok (.aload_n 0, 1) := by decide +kernel
theorem dX1_select_57 : decode cX1_select 57 = .ok (.getfield 18, 3) := by decide +kernel
theorem dX1_select_60 : decode cX1_select 60 = .ok (.iload 4, 2) := by decide +kernel
theorem dX1_select_62 : decode cX1_select 62 = .ok (.iaload, 1) := by decide +kernel
theorem dX1_select_63 : decode cX1_select 63 = .ok (.invokevirtual 92, 3) := by decide +kernel
theorem dX1_select_66 : decode cX1_select 66 = .ok (.ifCond .eq 8, 3) := by decide +kernel
theorem dX1_select_69 : decode cX1_select 69 = .ok (.bipush (-4), 2) := by decide +kernel
theorem dX1_select_71 : decode cX1_select 71 = .ok (.goto 10, 3) := by decide +kernel
theorem dX1_select_74 : decode cX1_select 74 = .ok (.aload_n 0, 1) := by decide +kernel
theorem dX1_select_75 : decode cX1_select 75 = .ok (.getfield 18, 3) := by decide +kernel
theorem dX1_select_78 : decode cX1_select 78 = .ok (.iload 4, 2) := by decide +kernel
theorem dX1_select_80 : decode cX1_select 80 = .ok (.iaload, 1) := by decide +kernel
theorem dX1_select_81 : decode cX1_select 81 = .ok (.ireturn, 1) := by decide +kernel
theorem dX1_select_82 : decode cX1_select 82 = .ok (.iinc 4 1, 3) := by decide +kernel
theorem dX1_select_85 : decode cX1_select 85 = .ok (.goto (-49), 3) := by decide +kernel
theorem dX1_select_88 : decode cX1_select 88 = .ok (.aload_n 0, 1) := by decide +kernel
theorem dX1_select_89 : decode cX1_select 89 = .ok (.iload_n 2, 1) := by decide +kernel
theorem dX1_select_90 : decode cX1_select 90 = .ok (.iload_n 3, 1) := by decide +kernel
theorem dX1_select_91 : decode cX1_select 91 = .ok (.invokevirtual 65, 3) := by decide +kernel
theorem dX1_select_94 : decode cX1_select 94 = .ok (.aload_n 0, 1) := by decide +kernel
theorem dX1_select_95 : decode cX1_select 95 = .ok (.invokevirtual 69, 3) := by decide +kernel
theorem dX1_select_98 : decode cX1_select 98 = .ok (.ireturn, 1) := by decide +kernel
theorem dX1_gatherChain_0 : decode cX1_gatherChain 0 = .ok (.aload_n 0, 1) := by decide +kernel
theorem dX1_gatherChain_1 : decode cX1_gatherChain 1 = .ok (.iconst 0, 1) := by decide +kernel
theorem dX1_gatherChain_2 : decode cX1_gatherChain 2 = .ok (.putfield 129, 3) := by decide +kernel
theorem dX1_gatherChain_5 : decode cX1_gatherChain 5 = .ok (.iload_n 1, 1) := by decide +kernel
theorem dX1_gatherChain_6 : decode cX1_gatherChain 6 = .ok (.istore_n 3, 1) := by decide +kernel
theorem dX1_gatherChain_7 : decode cX1_gatherChain 7 = .ok (.iconst 0, 1) := by decide +kernel
theorem dX1_gatherChain_8 : decode cX1_gatherChain 8 = .ok (.istore 4, 2) := by decide +kernel
theorem dX1_gatherChain_10 : decode cX1_gatherChain 10 = .ok (.iload 4, 2) := by decide +kernel
theorem dX1_gatherChain_12 : decode cX1_gatherChain 12 = .ok (.bipush 24, 2) := by decide +kernel
theorem dX1_gatherChain_14 : decode cX1_gatherChain 14 = .ok (.if_icmp .ge 67, 3) := by decide +kernel
theorem dX1_gatherChain_17 : decode cX1_gatherChain 17 = .ok (.iload_n 3, 1) := by decide +kernel
theorem dX1_gatherChain_18 : decode cX1_gatherChain 18 = .ok (.iconst (-1), 1) := by decide +kernel
theorem dX1_gatherChain_19 : decode cX1_gatherChain 19 = .ok (.if_icmp .eq 62, 3) := by decide +kernel
theorem dX1_gatherChain_22 : decode cX1_gatherChain 22 = .ok (.aload_n 0, 1) := by decide +kernel
theorem dX1_gatherChain_23 : decode cX1_gatherChain 23 = .ok (.getfield 15, 3) := by decide +kernel
theorem dX1_gatherChain_26 : decode cX1_gatherChain 26 = .ok (.iload 4, 2) := by decide +kernel
theorem dX1_gatherChain_28 : decode cX1_gatherChain 28 = .ok (.iload_n 3, 1) := by decide +kernel
theorem dX1_gatherChain_29 : decode cX1_gatherChain 29 = .ok (.iastore, 1) := by decide +kernel
theorem dX1_gatherChain_30 : decode cX1_gatherChain 30 = .ok (.aload_n 0, 1) := by decide +kernel
theorem dX1_gatherChain_31 : decode cX1_gatherChain 31 = .ok (.getfield 18, 3) := by decide +kernel
theorem dX1_gatherChain_34 : decode cX1_gatherChain 34 = .ok (.iload 4, 2) := by decide +kernel
theorem dX1_gatherChain_36 : decode cX1_gatherChain 36 = .ok (.aload_n 0, 1) := by decide +kernel
theorem dX1_gatherChain_37 : decode cX1_gatherChain 37 = .ok (.getfield 25, 3) := by decide +kernel
theorem dX1_gatherChain_40 : decode cX1_gatherChain 40 = .ok (.aload_n 0, 1) := by decide +kernel
theorem dX1_gatherChain_41 : decode cX1_gatherChain 41 = .ok (.getfield 25, 3) := by decide +kernel
theorem dX1_gatherChain_44 : decode cX1_gatherChain 44 = .ok (.getfield 48, 3) := by decide +kernel
theorem dX1_gatherChain_47 : decode cX1_gatherChain 47 = .ok (.iload_n 3, 1) := by decide +kernel
theorem dX1_gatherChain_48 : decode cX1_gatherChain 48 = .ok (.aaload, 1) := by decide +kernel
theorem dX1_gatherChain_49 : decode cX1_gatherChain 49 = .ok (.iload_n 2, 1) := by decide +kernel
theorem dX1_gatherChain_50 : decode cX1_gatherChain 50 = .ok (.invokevirtual 58, 3) := by decide +kernel
theorem dX1_gatherChain_53 : decode cX1_gatherChain 53 = .ok (.iastore, 1) := by decide +kernel
theorem dX1_gatherChain_54 : decode cX1_gatherChain 54 = .ok (.aload_n 0, 1) := by decide +kernel
theorem dX1_gatherChain_55 : decode cX1_gatherChain 55 = .ok (.iload 4, 2) := by decide +kernel
theorem dX1_gatherChain_57 : decode cX1_gatherChain 57 = .ok (.iconst 1, 1) := by decide +kernel
theorem dX1_gatherChain_58 : decode cX1_gatherChain 58 = .ok (.iadd, 1) := by decide +kernel
theorem dX1_gatherChain_59 : decode cX1_gatherChain 59 = .ok (.putfield 129, 3) := by decide +kernel
theorem dX1_gatherChain_62 : decode cX1_gatherChain 62 = .ok (.aload_n 0, 1) := by decide +kernel
theorem dX1_gatherChain_63 : decode cX1_gatherChain 63 = .ok (.getfield 25, 3) := by decide +kernel
theorem dX1_gatherChain_66 : decode cX1_gatherChain 66 = .ok (.getfield 48, 3) := by decide +kernel
theorem dX1_gatherChain_69 : decode cX1_gatherChain 69 = .ok (.iload_n 3, 1) := by decide +kernel
theorem dX1_gatherChain_70 : decode cX1_gatherChain 70 = .ok (.aaload, 1) := by decide +kernel
theorem dX1_gatherChain_71 : decode cX1_gatherChain 71 = .ok (.getfield 62, 3) := by decide +kernel
theorem dX1_gatherChain_74 : decode cX1_gatherChain 74 = .ok (.istore_n 3, 1) := by decide +kernel
theorem dX1_gatherChain_75 : decode cX1_gatherChain 75 = .ok (.iinc 4 1, 3) := by decide +kernel
theorem dX1_gatherChain_78 : decode cX1_gatherChain 78 = .ok (.goto (-68), 3) := by decide +kernel
theorem dX1_gatherChain_81 : decode cX1_gatherChain 81 = .ok (.return_, 1) := by decide +kernel
theorem dX1_markReplacing_0 : decode cX1_markReplacing 0 = .ok (.aload_n 0, 1) := by decide +kernel
theorem dX1_markReplacing_1 : decode cX1_markReplacing 1 = .ok (.iload_n 1, 1) := by decide +kernel
theorem dX1_markReplacing_2 : decode cX1_markReplacing 2 = .ok (.invokevirtual 38, 3) := by decide +kernel
theorem dX1_markReplacing_5 : decode cX1_markReplacing 5 = .ok (.getfield 99, 3) := by decide +kernel
theorem dX1_markReplacing_8 : decode cX1_markReplacing 8 = .ok (.iconst 2, 1) := by decide +kernel
theorem dX1_markReplacing_9 : decode cX1_markReplacing 9 = .ok (.if_icmp .lt 7, 3) := by decide +kernel
theorem dX1_markReplacing_12 : decode cX1_markReplacing 12 = .ok (.iconst 1, 1) := by decide +kernel
theorem dX1_markReplacing_13 : decode cX1_markReplacing 13 = .ok (.goto 4, 3) := by decide +kernel
theorem dX1_markReplacing_16 : decode cX1_markReplacing 16 = .ok (.iconst 0, 1) := by decide +kernel
theorem dX1_markReplacing_17 : decode cX1_markReplacing 17 = .ok (.istore_n 2, 1) := by decide +kernel
theorem dX1_markReplacing_18 : decode cX1_markReplacing 18 = .ok (.aload_n 0, 1) := by decide +kernel
theorem dX1_markReplacing_19 : decode cX1_markReplacing 19 = .ok (.getfield 129, 3) := by decide +kernel
theorem dX1_markReplacing_22 : decode cX1_markReplacing 22 = .ok (.iconst 1, 1) := by decide +kernel
theorem dX1_markReplacing_23 : decode cX1_markReplacing 23 = .ok (.isub, 1) := by decide +kernel
theorem dX1_markReplacing_24 : decode cX1_markReplacing 24 = .ok (.istore_n 3, 1) := by decide +kernel
theorem dX1_markReplacing_25 : decode cX1_markReplacing 25 = .ok (.iload_n 3, 1) := by decide +kernel
theorem dX1_markReplacing_26 : decode cX1_markReplacing 26 = .ok (.ifCond .lt 74, 3) := by decide +kernel
theorem dX1_markReplacing_29 : decode cX1_markReplacing 29 = .ok (.aload_n 0, 1) := by decide +kernel
theorem dX1_markReplacing_30 : decode cX1_markReplacing 30 = .ok (.getfield 18, 3) := by decide +kernel
theorem dX1_markReplacing_33 : decode cX1_markReplacing 33 = .ok (.iload_n 3, 1) := by decide +kernel
theorem dX1_markReplacing_34 : decode cX1_markReplacing 34 = .ok (.iaload, 1) := by decide +kernel
theorem dX1_markReplacing_35 : decode cX1_markReplacing 35 = .ok (.istore 4, 2) := by decide +kernel
theorem dX1_markReplacing_37 : decode cX1_markReplacing 37 = .ok (.iload 4, 2) := by decide +kernel
theorem dX1_markReplacing_39 : decode cX1_markReplacing 39 = .ok (.iconst (-1), 1) := by decide +kernel
theorem dX1_markReplacing_40 : decode cX1_markReplacing 40 = .ok (.if_icmp .ne 13, 3) := by decide +kernel
theorem dX1_markReplacing_43 : decode cX1_markReplacing 43 = .ok (.aload_n 0, 1) := by decide +kernel
theorem dX1_markReplacing_44 : decode cX1_markReplacing 44 = .ok (.getfield 21, 3) := by decide +kernel
theorem dX1_markReplacing_47 : decode cX1_markReplacing 47 = .ok (.iload_n 3, 1) := by decide +kernel
theorem dX1_markReplacing_48 : decode cX1_markReplacing 48 = .ok (.iconst 0, 1) := by decide +kernel
theorem dX1_markReplacing_49 : decode cX1_markReplacing 49 = .ok (.bastore, 1) := by decide +kernel
theorem dX1_markReplacing_50 : decode cX1_markReplacing 50 = .ok (.goto 44, 3) := by decide +kernel
theorem dX1_markReplacing_53 : decode cX1_markReplacing 53 = .ok (.aload_n 0, 1) := by decide +kernel
theorem dX1_markReplacing_54 : decode cX1_markReplacing 54 = .ok (.getfield 21, 3) := by decide +kernel
theorem dX1_markReplacing_57 : decode cX1_markReplacing 57 = .ok (.iload_n 3, 1) := by decide +kernel
theorem dX1_markReplacing_58 : decode cX1_markReplacing 58 = .ok (.iload 4, 2) := by decide +kernel
theorem dX1_markReplacing_60 : decode cX1_markReplacing 60 = .ok (.iload_n 1, 1) := by decide +kernel
theorem dX1_markReplacing_61 : decode cX1_markReplacing 61 = .ok (.if_icmp .eq 27, 3) := by decide +kernel
theorem dX1_markReplacing_64 : decode cX1_markReplacing 64 = .ok (.aload_n 0, 1) := by decide +kernel
theorem dX1_markReplacing_65 : decode cX1_markReplacing 65 = .ok (.iload 4, 2) := by decide +kernel
theorem dX1_markReplacing_67 : decode cX1_markReplacing 67 = .ok (.invokevirtual 38, 3) := by decide +kernel
theorem dX1_markReplacing_70 : decode cX1_markReplacing 70 = .ok (.invokevirtual 82, 3) := by decide +kernel
theorem dX1_markReplacing_73 : decode cX1_markReplacing 73 = .ok (.ifCond .eq 19, 3) := by decide +kernel
theorem dX1_markReplacing_76 : decode cX1_markReplacing 76 = .ok (.iload_n 2, 1) := by decide +kernel
theorem dX1_markReplacing_77 : decode cX1_markReplacing 77 = .ok (.ifCond .ne 11, 3) := by decide +kernel
theorem dX1_markReplacing_80 : decode cX1_markReplacing 80 = .ok (.aload_n 0, 1) := by decide +kernel
theorem dX1_markReplacing_81 : decode cX1_markReplacing 81 = .ok (.iload_n 3, 1) := by decide +kernel
theorem dX1_markReplacing_82 : decode cX1_markReplacing 82 = .ok (.invokevirtual 132, 3) := by decide +kernel
theorem dX1_markReplacing_85 : decode cX1_markReplacing 85 = .ok (.ifCond .eq 7, 3) := by decide +kernel
theorem dX1_markReplacing_88 : decode cX1_markReplacing 88 = .ok (.iconst 1, 1) := by decide +kernel
theorem dX1_markReplacing_89 : decode cX1_markReplacing 89 = .ok (.goto 4, 3) := by decide +kernel
theorem dX1_markReplacing_92 : decode cX1_markReplacing 92 = .ok (.iconst 0, 1) := by decide +kernel
theorem dX1_markReplacing_93 : decode cX1_markReplacing 93 = .ok (.bastore, 1) := by decide +kernel
theorem dX1_markReplacing_94 : decode cX1_markReplacing 94 = .ok (.iinc 3 (-1), 3) := by decide +kernel
theorem dX1_markReplacing_97 : decode cX1_markReplacing 97 = .ok (.goto (-72), 3) := by decide +kernel
theorem dX1_markReplacing_100 : decode cX1_markReplacing 100 = .ok (.return_, 1) := by decide +kernel
theorem dX1_replacesBetween_0 : decode cX1_replacesBetween 0 = .ok (.iload_n 1, 1) := by decide +kernel
theorem dX1_replacesBetween_1 : decode cX1_replacesBetween 1 = .ok (.iconst 1, 1) := by decide +kernel
theorem dX1_replacesBetween_2 : decode cX1_replacesBetween 2 = .ok (.iadd, 1) := by decide +kernel
theorem dX1_replacesBetween_3 : decode cX1_replacesBetween 3 = .ok (.istore_n 2, 1) := by decide +kernel
theorem dX1_replacesBetween_4 : decode cX1_replacesBetween 4 = .ok (.iload_n 2, 1) := by decide +kernel
theorem dX1_replacesBetween_5 : decode cX1_replacesBetween 5 = .ok (.aload_n 0, 1) := by decide +kernel
theorem dX1_replacesBetween_6 : decode cX1_replacesBetween 6 = .ok (.getfield 129, 3) := by decide +kernel
theorem dX1_replacesBetween_9 : decode cX1_replacesBetween 9 = .ok (.if_icmp .ge 59, 3) := by decide +kernel
theorem dX1_replacesBetween_12 : decode cX1_replacesBetween 12 = .ok (.aload_n 0, 1) := by decide +kernel
theorem dX1_replacesBetween_13 : decode cX1_replacesBetween 13 = .ok (.getfield 21, 3) := by decide +kernel
theorem dX1_replacesBetween_16 : decode cX1_replacesBetween 16 = .ok (.iload_n 2, 1) := by decide +kernel
theorem dX1_replacesBetween_17 : decode cX1_replacesBetween 17 = .ok (.baload, 1) := by decide +kernel
theorem dX1_replacesBetween_18 : decode cX1_replacesBetween 18 = .ok (.ifCond .eq 44, 3) := by decide +kernel
theorem dX1_replacesBetween_21 : decode cX1_replacesBetween 21 = .ok (.aload_n 0, 1) := by decide +kernel
theorem dX1_replacesBetween_22 : decode cX1_replacesBetween 22 = .ok (.aload_n 0, 1) := by decide +kernel
theorem dX1_replacesBetween_23 : decode cX1_replacesBetween 23 = .ok (.getfield 18, 3) := by decide +kernel
theorem dX1_replacesBetween_26 : decode cX1_replacesBetween 26 = .ok (.iload_n 2, 1) := by decide +kernel
theorem dX1_replacesBetween_27 : decode cX1_replacesBetween 27 = .ok (.iaload, 1) := by decide +kernel
theorem dX1_replacesBetween_28 : decode cX1_replacesBetween 28 = .ok (.invokevirtual 38, 3) := by decide +kernel
theorem dX1_replacesBetween_31 : decode cX1_replacesBetween 31 = .ok (.getfield 99, 3) := by decide +kernel
theorem dX1_replacesBetween_34 : decode cX1_replacesBetween 34 = .ok (.iconst 2, 1) := by decide +kernel
theorem dX1_replacesBetween_35 : decode cX1_replacesBetween 35 = .ok (.if_icmp .ge 25, 3) := by decide +kernel
theorem dX1_replacesBetween_38 : decode cX1_replacesBetween 38 = .ok (.aload_n 0, 1) := by decide +kernel
theorem dX1_replacesBetween_39 : decode cX1_replacesBetween 39 = .ok (.getfield 25, 3) := by decide +kernel
theorem dX1_replacesBetween_42 : decode cX1_replacesBetween 42 = .ok (.aload_n 0, 1) := by decide +kernel
theorem dX1_replacesBetween_43 : decode cX1_replacesBetween 43 = .ok (.getfield 15, 3) := by decide +kernel
theorem dX1_replacesBetween_46 : decode cX1_replacesBetween 46 = .ok (.iload_n 1, 1) := by decide +kernel
theorem dX1_replacesBetween_47 : decode cX1_replacesBetween 47 = .ok (.iaload, 1) := by decide +kernel
theorem dX1_replacesBetween_48 : decode cX1_replacesBetween 48 = .ok (.aload_n 0, 1) := by decide +kernel
theorem dX1_replacesBetween_49 : decode cX1_replacesBetween 49 = .ok (.getfield 15, 3) := by decide +kernel
theorem dX1_replacesBetween_52 : decode cX1_replacesBetween 52 = .ok (.iload_n 2, 1) := by decide +kernel
theorem dX1_replacesBetween_53 : decode cX1_replacesBetween 53 = .ok (.iaload, 1) := by decide +kernel
theorem dX1_replacesBetween_54 : decode cX1_replacesBetween 54 = .ok (.invokevirtual 105, 3) := by decide +kernel
theorem dX1_replacesBetween_57 : decode cX1_replacesBetween 57 = .ok (.ifCond .eq 5, 3) := by decide +kernel
theorem dX1_replacesBetween_60 : decode cX1_replacesBetween 60 = .ok (.iconst 1, 1) := by decide +kernel
theorem dX1_replacesBetween_61 : decode cX1_replacesBetween 61 = .ok (.ireturn, 1) := by decide +kernel
theorem dX1_replacesBetween_62 : decode cX1_replacesBetween 62 = .ok (.iinc 2 1, 3) := by decide +kernel
theorem dX1_replacesBetween_65 : decode cX1_replacesBetween 65 = .ok (.goto (-61), 3) := by decide +kernel
theorem dX1_replacesBetween_68 : decode cX1_replacesBetween 68 = .ok (.iconst 0, 1) := by decide +kernel
theorem dX1_replacesBetween_69 : decode cX1_replacesBetween 69 = .ok (.ireturn, 1) := by decide +kernel
theorem dX1_judge_0 : decode cX1_judge 0 = .ok (.aload_n 0, 1) := by decide +kernel
theorem dX1_judge_1 : decode cX1_judge 1 = .ok (.iconst 0, 1) := by decide +kernel
theorem dX1_judge_2 : decode cX1_judge 2 = .ok (.putfield 135, 3) := by decide +kernel
theorem dX1_judge_5 : decode cX1_judge 5 = .ok (.aload_n 0, 1) := by decide +kernel
theorem dX1_judge_6 : decode cX1_judge 6 = .ok (.iload_n 1, 1) := by decide +kernel
theorem dX1_judge_7 : decode cX1_judge 7 = .ok (.iload_n 2, 1) := by decide +kernel
theorem dX1_judge_8 : decode cX1_judge 8 = .ok (.iload_n 3, 1) := by decide +kernel
theorem dX1_judge_9 : decode cX1_judge 9 = .ok (.invokevirtual 138, 3) := by decide +kernel
theorem dX1_judge_12 : decode cX1_judge 12 = .ok (.ifCond .ne 6, 3) := by decide +kernel
theorem dX1_judge_15 : decode cX1_judge 15 = .ok (.bipush (-5), 2) := by decide +kernel
theorem dX1_judge_17 : decode cX1_judge 17 = .ok (.ireturn, 1) := by decide +kernel
theorem dX1_judge_18 : decode cX1_judge 18 = .ok (.aload_n 0, 1) := by decide +kernel
theorem dX1_judge_19 : decode cX1_judge 19 = .ok (.aload_n 0, 1) := by decide +kernel
theorem dX1_judge_20 : decode cX1_judge 20 = .ok (.iload_n 1, 1) := by decide +kernel
theorem dX1_judge_21 : decode cX1_judge 21 = .ok (.iload_n 2, 1) := by decide +kernel
theorem dX1_judge_22 : decode cX1_judge 22 = .ok (.iload_n 3, 1) := by decide +kernel
theorem dX1_judge_23 : decode cX1_judge 23 = .ok (.invokevirtual 142, 3) := by decide +kernel
theorem dX1_judge_26 : decode cX1_judge 26 = .ok (.aload_n 0, 1) := by decide +kernel
theorem dX1_judge_27 : decode cX1_judge 27 = .ok (.getfield 25, 3) := by decide +kernel
theorem dX1_judge_30 : decode cX1_judge 30 = .ok (.getfield 29, 3) := by decide +kernel
theorem dX1_judge_33 : decode cX1_judge 33 = .ok (.iload 4, 2) := by decide +kernel
theorem dX1_judge_35 : decode cX1_judge 35 = .ok (.aaload, 1) := by decide +kernel
theorem dX1_judge_36 : decode cX1_judge 36 = .ok (.getfield 146, 3) := by decide +kernel
theorem dX1_judge_39 : decode cX1_judge 39 = .ok (.invokevirtual 149, 3) := by decide +kernel
theorem dX1_judge_42 : decode cX1_judge 42 = .ok (.istore 6, 2) := by decide +kernel
theorem dX1_judge_44 : decode cX1_judge 44 = .ok (.iload 6, 2) := by decide +kernel
theorem dX1_judge_46 : decode cX1_judge 46 = .ok (.iconst (-1), 1) := by decide +kernel
theorem dX1_judge_47 : decode cX1_judge 47 = .ok (.if_icmp .ne 5, 3) := by decide +kernel
theorem dX1_judge_50 : decode cX1_judge 50 = .ok (.iconst (-1), 1) := by decide +kernel
theorem dX1_judge_51 : decode cX1_judge 51 = .ok (.ireturn, 1) := by decide +kernel
theorem dX1_judge_52 : decode cX1_judge 52 = .ok (.aload_n 0, 1) := by decide +kernel
theorem dX1_judge_53 : decode cX1_judge 53 = .ok (.iload_n 2, 1) := by decide +kernel
theorem dX1_judge_54 : decode cX1_judge 54 = .ok (.iload_n 3, 1) := by decide +kernel
theorem dX1_judge_55 : decode cX1_judge 55 = .ok (.iload 6, 2) := by decide +kernel
theorem dX1_judge_57 : decode cX1_judge 57 = .ok (.iload_n 1, 1) := by decide +kernel
theorem dX1_judge_58 : decode cX1_judge 58 = .ok (.iconst 3, 1) := by decide +kernel
theorem dX1_judge_59 : decode cX1_judge 59 = .ok (.if_icmp .ne 7, 3) := by decide +kernel
theorem dX1_judge_62 : decode cX1_judge 62 = .ok (.iload_n 2, 1) := by decide +kernel
theorem dX1_judge_63 : decode cX1_judge 63 = .ok (.goto 5, 3) := by decide +kernel
theorem dX1_judge_66 : decode cX1_judge 66 = .ok (.iload 5, 2) := by decide +kernel
theorem dX1_judge_68 : decode cX1_judge 68 = .ok (.invokevirtual 153, 3) := by decide +kernel
theorem dX1_judge_71 : decode cX1_judge 71 = .ok (.ifCond .ne 6, 3) := by decide +kernel
theorem dX1_judge_74 : decode cX1_judge 74 = .ok (.bipush (-2), 2) := by decide +kernel
theorem dX1_judge_76 : decode cX1_judge 76 = .ok (.ireturn, 1) := by decide +kernel
theorem dX1_judge_77 : decode cX1_judge 77 = .ok (.aload_n 0, 1) := by decide +kernel
theorem dX1_judge_78 : decode cX1_judge 78 = .ok (.iload 6, 2) := by decide +kernel
theorem dX1_judge_80 : decode cX1_judge 80 = .ok (.invokevirtual 38, 3) := by decide +kernel
theorem dX1_judge_83 : decode cX1_judge 83 = .ok (.invokevirtual 112, 3) := by decide +kernel
theorem dX1_judge_86 : decode cX1_judge 86 = .ok (.iload_n 1, 1) := by decide +kernel
theorem dX1_judge_87 : decode cX1_judge 87 = .ok (.iconst 3, 1) := by decide +kernel
theorem dX1_judge_88 : decode cX1_judge 88 = .ok (.if_icmp .ne 7, 3) := by decide +kernel
theorem dX1_judge_91 : decode cX1_judge 91 = .ok (.iconst 1, 1) := by decide +kernel
theorem dX1_judge_92 : decode cX1_judge 92 = .ok (.goto 4, 3) := by decide +kernel
theorem dX1_judge_95 : decode cX1_judge 95 = .ok (.iconst 0, 1) := by decide +kernel
theorem dX1_judge_96 : decode cX1_judge 96 = .ok (.if_icmp .eq 6, 3) := by decide +kernel
theorem dX1_judge_99 : decode cX1_judge 99 = .ok (.bipush (-5), 2) := by decide +kernel
theorem dX1_judge_101 : decode cX1_judge 101 = .ok (.ireturn, 1) := by decide +kernel
theorem dX1_judge_102 : decode cX1_judge 102 = .ok (.iload_n 1, 1) := by decide +kernel
theorem dX1_judge_103 : decode cX1_judge 103 = .ok (.iconst 3, 1) := by decide +kernel
theorem dX1_judge_104 : decode cX1_judge 104 = .ok (.if_icmp .ne 6, 3) := by decide +kernel
theorem dX1_judge_107 : decode cX1_judge 107 = .ok (.iload 6, 2) := by decide +kernel
theorem dX1_judge_109 : decode cX1_judge 109 = .ok (.ireturn, 1) := by decide +kernel
theorem dX1_judge_110 : decode cX1_judge 110 = .ok (.aload_n 0, 1) := by decide +kernel
theorem dX1_judge_111 : decode cX1_judge 111 = .ok (.iload_n 1, 1) := by decide +kernel
theorem dX1_judge_112 : decode cX1_judge 112 = .ok (.iload_n 2, 1) := by decide +kernel
theorem dX1_judge_113 : decode cX1_judge 113 = .ok (.iload_n 3, 1) := by decide +kernel
theorem dX1_judge_114 : decode cX1_judge 114 = .ok (.iload 5, 2) := by decide +kernel
theorem dX1_judge_116 : decode cX1_judge 116 = .ok (.invokevirtual 157, 3) := by decide +kernel
theorem dX1_judge_119 : decode cX1_judge 119 = .ok (.ifCond .ne 6, 3) := by decide +kernel
theorem dX1_judge_122 : decode cX1_judge 122 = .ok (.bipush (-6), 2) := by decide +kernel
theorem dX1_judge_124 : decode cX1_judge 124 = .ok (.ireturn, 1) := by decide +kernel
theorem dX1_judge_125 : decode cX1_judge 125 = .ok (.iload_n 1, 1) := by decide +kernel
theorem dX1_judge_126 : decode cX1_judge 126 = .ok (.iconst 2, 1) := by decide +kernel
theorem dX1_judge_127 : decode cX1_judge 127 = .ok (.if_icmp .ne 26, 3) := by decide +kernel
theorem dX1_judge_130 : decode cX1_judge 130 = .ok (.aload_n 0, 1) := by decide +kernel
theorem dX1_judge_131 : decode cX1_judge 131 = .ok (.iload 6, 2) := by decide +kernel
theorem dX1_judge_133 : decode cX1_judge 133 = .ok (.invokevirtual 92, 3) := by decide +kernel
theorem dX1_judge_136 : decode cX1_judge 136 = .ok (.ifCond .eq 8, 3) := by decide +kernel
theorem dX1_judge_139 : decode cX1_judge 139 = .ok (.bipush (-4), 2) := by decide +kernel
theorem dX1_judge_141 : decode cX1_judge 141 = .ok (.goto 11, 3) := by decide +kernel
theorem dX1_judge_144 : decode cX1_judge 144 = .ok (.aload_n 0, 1) := by decide +kernel
theorem dX1_judge_145 : decode cX1_judge 145 = .ok (.iload 6, 2) := by decide +kernel
theorem dX1_judge_147 : decode cX1_judge 147 = .ok (.iload 5, 2) := by decide +kernel
theorem dX1_judge_149 : decode cX1_judge 149 = .ok (.invokevirtual 160, 3) := by decide +kernel
theorem dX1_judge_152 : decode cX1_judge 152 = .ok (.ireturn, 1) := by decide +kernel
theorem dX1_judge_153 : decode cX1_judge 153 = .ok (.aload_n 0, 1) := by decide +kernel
theorem dX1_judge_154 : decode cX1_judge 154 = .ok (.aload_n 0, 1) := by decide +kernel
theorem dX1_judge_155 : decode cX1_judge 155 = .ok (.iload 6, 2) := by decide +kernel
theorem dX1_judge_157 : decode cX1_judge 157 = .ok (.iload 5, 2) := by decide +kernel
theorem dX1_judge_159 : decode cX1_judge 159 = .ok (.invokevirtual 163, 3) := by decide +kernel
theorem dX1_judge_162 : decode cX1_judge 162 = .ok (.iload 5, 2) := by decide +kernel
theorem dX1_judge_164 : decode cX1_judge 164 = .ok (.invokevirtual 160, 3) := by decide +kernel
theorem dX1_judge_167 : decode cX1_judge 167 = .ok (.ireturn, 1) := by decide +kernel
theorem dX1_fitsSort_0 : decode cX1_fitsSort 0 = .ok (.aload_n 0, 1) := by decide +kernel
theorem dX1_fitsSort_1 : decode cX1_fitsSort 1 = .ok (.getfield 25, 3) := by decide +kernel
theorem dX1_fitsSort_4 : decode cX1_fitsSort 4 = .ok (.getfield 48, 3) := by decide +kernel
theorem dX1_fitsSort_7 : decode cX1_fitsSort 7 = .ok (.iload_n 3, 1) := by decide +kernel
theorem dX1_fitsSort_8 : decode cX1_fitsSort 8 = .ok (.aaload, 1) := by decide +kernel
theorem dX1_fitsSort_9 : decode cX1_fitsSort 9 = .ok (.invokevirtual 52, 3) := by decide +kernel
theorem dX1_fitsSort_12 : decode cX1_fitsSort 12 = .ok (.istore 4, 2) := by decide +kernel
theorem dX1_fitsSort_14 : decode cX1_fitsSort 14 = .ok (.iload_n 1, 1) := by decide +kernel
theorem dX1_fitsSort_15 : decode cX1_fitsSort 15 = .ok (.tableswitch 66 0 2 #[25, 36, 39], 25) := by decide +kernel
theorem dX1_fitsSort_40 : decode cX1_fitsSort 40 = .ok (.iload 4, 2) := by decide +kernel
theorem dX1_fitsSort_42 : decode cX1_fitsSort 42 = .ok (.ifCond .ne 7, 3) := by decide +kernel
theorem dX1_fitsSort_45 : decode cX1_fitsSort 45 = .ok (.iconst 1, 1) := by decide +kernel
theorem dX1_fitsSort_46 : decode cX1_fitsSort 46 = .ok (.goto 4, 3) := by decide +kernel
theorem dX1_fitsSort_49 : decode cX1_fitsSort 49 = .ok (.iconst 0, 1) := by decide +kernel
theorem dX1_fitsSort_50 : decode cX1_fitsSort 50 = .ok (.ireturn, 1) := by decide +kernel
theorem dX1_fitsSort_51 : decode cX1_fitsSort 51 = .ok (.iload 4, 2) := by decide +kernel
theorem dX1_fitsSort_53 : decode cX1_fitsSort 53 = .ok (.ireturn, 1) := by decide +kernel
theorem dX1_fitsSort_54 : decode cX1_fitsSort 54 = .ok (.iload 4, 2) := by decide +kernel
theorem dX1_fitsSort_56 : decode cX1_fitsSort 56 = .ok (.ifCond .eq 19, 3) := by decide +kernel
theorem dX1_fitsSort_59 : decode cX1_fitsSort 59 = .ok (.aload_n 0, 1) := by decide +kernel
theorem dX1_fitsSort_60 : decode cX1_fitsSort 60 = .ok (.getfield 25, 3) := by decide +kernel
theorem dX1_fitsSort_63 : decode cX1_fitsSort 63 = .ok (.getfield 48, 3) := by decide +kernel
theorem dX1_fitsSort_66 : decode cX1_fitsSort 66 = .ok (.iload_n 2, 1) := by decide +kernel
theorem dX1_fitsSort_67 : decode cX1_fitsSort 67 = .ok (.aaload, 1) := by decide +kernel
theorem dX1_fitsSort_68 : decode cX1_fitsSort 68 = .ok (.iload_n 3, 1) := by decide +kernel
theorem dX1_fitsSort_69 : decode cX1_fitsSort 69 = .ok (.invokevirtual 166, 3) := by decide +kernel
theorem dX1_fitsSort_72 : decode cX1_fitsSort 72 = .ok (.ifCond .eq 7, 3) := by decide +kernel
theorem dX1_fitsSort_75 : decode cX1_fitsSort 75 = .ok (.iconst 1, 1) := by decide +kernel
theorem dX1_fitsSort_76 : decode cX1_fitsSort 76 = .ok (.goto 4, 3) := by decide +kernel
theorem dX1_fitsSort_79 : decode cX1_fitsSort 79 = .ok (.iconst 0, 1) := by decide +kernel
theorem dX1_fitsSort_80 : decode cX1_fitsSort 80 = .ok (.ireturn, 1) := by decide +kernel
theorem dX1_fitsSort_81 : decode cX1_fitsSort 81 = .ok (.iconst 1, 1) := by decide +kernel
theorem dX1_fitsSort_82 : decode cX1_fitsSort 82 = .ok (.ireturn, 1) := by decide +kernel
theorem dX1_placeOfSearch_0 : decode cX1_placeOfSearch 0 = .ok (.aload_n 0, 1) := by decide +kernel
theorem dX1_placeOfSearch_1 : decode cX1_placeOfSearch 1 = .ok (.getfield 25, 3) := by decide +kernel
theorem dX1_placeOfSearch_4 : decode cX1_placeOfSearch 4 = .ok (.getfield 48, 3) := by decide +kernel
theorem dX1_placeOfSearch_7 : decode cX1_placeOfSearch 7 = .ok (.iload_n 2, 1) := by decide +kernel
theorem dX1_placeOfSearch_8 : decode cX1_placeOfSearch 8 = .ok (.aaload, 1) := by decide +kernel
theorem dX1_placeOfSearch_9 : decode cX1_placeOfSearch 9 = .ok (.iload_n 3, 1) := by decide +kernel
theorem dX1_placeOfSearch_10 : decode cX1_placeOfSearch 10 = .ok (.invokevirtual 169, 3) := by decide +kernel
theorem dX1_placeOfSearch_13 : decode cX1_placeOfSearch 13 = .ok (.ifCond .eq 22, 3) := by decide +kernel
theorem dX1_placeOfSearch_16 : decode cX1_placeOfSearch 16 = .ok (.aload_n 0, 1) := by decide +kernel
theorem dX1_placeOfSearch_17 : decode cX1_placeOfSearch 17 = .ok (.getfield 25, 3) := by decide +kernel
theorem dX1_placeOfSearch_20 : decode cX1_placeOfSearch 20 = .ok (.getfield 48, 3) := by decide +kernel
theorem dX1_placeOfSearch_23 : decode cX1_placeOfSearch 23 = .ok (.iload_n 3, 1) := by decide +kernel
theorem dX1_placeOfSearch_24 : decode cX1_placeOfSearch 24 = .ok (.aaload, 1) := by decide +kernel
theorem dX1_placeOfSearch_25 : decode cX1_placeOfSearch 25 = .ok (.invokevirtual 52, 3) := by decide +kernel
theorem dX1_placeOfSearch_28 : decode cX1_placeOfSearch 28 = .ok (.ifCond .ne 7, 3) := by decide +kernel
theorem dX1_placeOfSearch_31 : decode cX1_placeOfSearch 31 = .ok (.iconst 1, 1) := by decide +kernel
theorem dX1_placeOfSearch_32 : decode cX1_placeOfSearch 32 = .ok (.goto 4, 3) := by decide +kernel
theorem dX1_placeOfSearch_35 : decode cX1_placeOfSearch 35 = .ok (.iconst 0, 1) := by decide +kernel
theorem dX1_placeOfSearch_36 : decode cX1_placeOfSearch 36 = .ok (.istore 4, 2) := by decide +kernel
theorem dX1_placeOfSearch_38 : decode cX1_placeOfSearch 38 = .ok (.aload_n 0, 1) := by decide +kernel
theorem dX1_placeOfSearch_39 : decode cX1_placeOfSearch 39 = .ok (.getfield 25, 3) := by decide +kernel
theorem dX1_placeOfSearch_42 : decode cX1_placeOfSearch 42 = .ok (.getfield 48, 3) := by decide +kernel
theorem dX1_placeOfSearch_45 : decode cX1_placeOfSearch 45 = .ok (.iload_n 2, 1) := by decide +kernel
theorem dX1_placeOfSearch_46 : decode cX1_placeOfSearch 46 = .ok (.aaload, 1) := by decide +kernel
theorem dX1_placeOfSearch_47 : decode cX1_placeOfSearch 47 = .ok (.getfield 62, 3) := by decide +kernel
theorem dX1_placeOfSearch_50 : decode cX1_placeOfSearch 50 = .ok (.istore 5, 2) := by decide +kernel
theorem dX1_placeOfSearch_52 : decode cX1_placeOfSearch 52 = .ok (.iload_n 1, 1) := by decide +kernel
theorem dX1_placeOfSearch_53 : decode cX1_placeOfSearch 53 = .ok (.iconst 2, 1) := by decide +kernel
theorem dX1_placeOfSearch_54 : decode cX1_placeOfSearch 54 = .ok (.if_icmp .ne 19, 3) := by decide +kernel
theorem dX1_placeOfSearch_57 : decode cX1_placeOfSearch 57 = .ok (.iload 4, 2) := by decide +kernel
theorem dX1_placeOfSearch_59 : decode cX1_placeOfSearch 59 = .ok (.ifCond .eq 14, 3) := by decide +kernel
theorem dX1_placeOfSearch_62 : decode cX1_placeOfSearch 62 = .ok (.iload 5, 2) := by decide +kernel
theorem dX1_placeOfSearch_64 : decode cX1_placeOfSearch 64 = .ok (.iconst (-1), 1) := by decide +kernel
theorem dX1_placeOfSearch_65 : decode cX1_placeOfSearch 65 = .ok (.if_icmp .eq 8, 3) := by decide +kernel
theorem dX1_placeOfSearch_68 : decode cX1_placeOfSearch 68 = .ok (.iload 5, 2) := by decide +kernel
theorem dX1_placeOfSearch_70 : decode cX1_placeOfSearch 70 = .ok (.goto 4, 3) := by decide +kernel
theorem dX1_placeOfSearch_73 : decode cX1_placeOfSearch 73 = .ok (.iload_n 3, 1) := by decide +kernel
theorem dX1_placeOfSearch_74 : decode cX1_placeOfSearch 74 = .ok (.ireturn, 1) := by decide +kernel
theorem dX1_fitsReceiver_0 : decode cX1_fitsReceiver 0 = .ok (.aload_n 0, 1) := by decide +kernel
theorem dX1_fitsReceiver_1 : decode cX1_fitsReceiver 1 = .ok (.getfield 25, 3) := by decide +kernel
theorem dX1_fitsReceiver_4 : decode cX1_fitsReceiver 4 = .ok (.getfield 48, 3) := by decide +kernel
theorem dX1_fitsReceiver_7 : decode cX1_fitsReceiver 7 = .ok (.iload 4, 2) := by decide +kernel
theorem dX1_fitsReceiver_9 : decode cX1_fitsReceiver 9 = .ok (.aaload, 1) := by decide +kernel
theorem dX1_fitsReceiver_10 : decode cX1_fitsReceiver 10 = .ok (.getfield 172, 3) := by decide +kernel
theorem dX1_fitsReceiver_13 : decode cX1_fitsReceiver 13 = .ok (.ifCond .eq 5, 3) := by decide +kernel
theorem dX1_fitsReceiver_16 : decode cX1_fitsReceiver 16 = .ok (.iconst 0, 1) := by decide +kernel
theorem dX1_fitsReceiver_17 : decode cX1_fitsReceiver 17 = .ok (.ireturn, 1) := by decide +kernel
theorem dX1_fitsReceiver_18 : decode cX1_fitsReceiver 18 = .ok (.iload_n 1, 1) := by decide +kernel
theorem dX1_fitsReceiver_19 : decode cX1_fitsReceiver 19 = .ok (.iconst 2, 1) := by decide +kernel
theorem dX1_fitsReceiver_20 : decode cX1_fitsReceiver 20 = .ok (.if_icmp .eq 14, 3) := by decide +kernel
theorem dX1_fitsReceiver_23 : decode cX1_fitsReceiver 23 = .ok (.aload_n 0, 1) := by decide +kernel
theorem dX1_fitsReceiver_24 : decode cX1_fitsReceiver 24 = .ok (.getfield 25, 3) := by decide +kernel
theorem dX1_fitsReceiver_27 : decode cX1_fitsReceiver 27 = .ok (.iload 4, 2) := by decide +kernel
theorem dX1_fitsReceiver_29 : decode cX1_fitsReceiver 29 = .ok (.iload_n 3, 1) := by decide +kernel
theorem dX1_fitsReceiver_30 : decode cX1_fitsReceiver 30 = .ok (.invokevirtual 88, 3) := by decide +kernel
theorem dX1_fitsReceiver_33 : decode cX1_fitsReceiver 33 = .ok (.ireturn, 1) := by decide +kernel
theorem dX1_fitsReceiver_34 : decode cX1_fitsReceiver 34 = .ok (.aload_n 0, 1) := by decide +kernel
theorem dX1_fitsReceiver_35 : decode cX1_fitsReceiver 35 = .ok (.getfield 25, 3) := by decide +kernel
theorem dX1_fitsReceiver_38 : decode cX1_fitsReceiver 38 = .ok (.iload 4, 2) := by decide +kernel
theorem dX1_fitsReceiver_40 : decode cX1_fitsReceiver 40 = .ok (.iload_n 2, 1) := by decide +kernel
theorem dX1_fitsReceiver_41 : decode cX1_fitsReceiver 41 = .ok (.invokevirtual 88, 3) := by decide +kernel
theorem dX1_fitsReceiver_44 : decode cX1_fitsReceiver 44 = .ok (.ifCond .eq 23, 3) := by decide +kernel
theorem dX1_fitsReceiver_47 : decode cX1_fitsReceiver 47 = .ok (.aload_n 0, 1) := by decide +kernel
theorem dX1_fitsReceiver_48 : decode cX1_fitsReceiver 48 = .ok (.getfield 25, 3) := by decide +kernel
theorem dX1_fitsReceiver_51 : decode cX1_fitsReceiver 51 = .ok (.getfield 48, 3) := by decide +kernel
theorem dX1_fitsReceiver_54 : decode cX1_fitsReceiver 54 = .ok (.iload_n 2, 1) := by decide +kernel
theorem dX1_fitsReceiver_55 : decode cX1_fitsReceiver 55 = .ok (.aaload, 1) := by decide +kernel
theorem dX1_fitsReceiver_56 : decode cX1_fitsReceiver 56 = .ok (.iload_n 3, 1) := by decide +kernel
theorem dX1_fitsReceiver_57 : decode cX1_fitsReceiver 57 = .ok (.invokevirtual 169, 3) := by decide +kernel
theorem dX1_fitsReceiver_60 : decode cX1_fitsReceiver 60 = .ok (.ifCond .eq 7, 3) := by decide +kernel
theorem dX1_fitsReceiver_63 : decode cX1_fitsReceiver 63 = .ok (.iconst 1, 1) := by decide +kernel
theorem dX1_fitsReceiver_64 : decode cX1_fitsReceiver 64 = .ok (.goto 4, 3) := by decide +kernel
theorem dX1_fitsReceiver_67 : decode cX1_fitsReceiver 67 = .ok (.iconst 0, 1) := by decide +kernel
theorem dX1_fitsReceiver_68 : decode cX1_fitsReceiver 68 = .ok (.ireturn, 1) := by decide +kernel
theorem dX1_runThroughBridges_0 : decode cX1_runThroughBridges 0 = .ok (.iload_n 1, 1) := by decide +kernel
theorem dX1_runThroughBridges_1 : decode cX1_runThroughBridges 1 = .ok (.istore_n 3, 1) := by decide +kernel
theorem dX1_runThroughBridges_2 : decode cX1_runThroughBridges 2 = .ok (.iconst 0, 1) := by decide +kernel
theorem dX1_runThroughBridges_3 : decode cX1_runThroughBridges 3 = .ok (.istore 4, 2) := by decide +kernel
theorem dX1_runThroughBridges_5 : decode cX1_runThroughBridges 5 = .ok (.iload 4, 2) := by decide +kernel
theorem dX1_runThroughBridges_7 : decode cX1_runThroughBridges 7 = .ok (.bipush 8, 2) := by decide +kernel
theorem dX1_runThroughBridges_9 : decode cX1_runThroughBridges 9 = .ok (.if_icmp .ge 40, 3) := by decide +kernel
theorem dX1_runThroughBridges_12 : decode cX1_runThroughBridges 12 = .ok (.iload_n 3, 1) := by decide +kernel
theorem dX1_runThroughBridges_13 : decode cX1_runThroughBridges 13 = .ok (.sipush 1000, 3) := by decide +kernel
theorem dX1_runThroughBridges_16 : decode cX1_runThroughBridges 16 = .ok (.if_icmp .lt 33, 3) := by decide +kernel
theorem dX1_runThroughBridges_19 : decode cX1_runThroughBridges 19 = .ok (.aload_n 0, 1) := by decide +kernel
theorem dX1_runThroughBridges_20 : decode cX1_runThroughBridges 20 = .ok (.dup, 1) := by decide +kernel
theorem dX1_runThroughBridges_21 : decode cX1_runThroughBridges 21 = .ok (.getfield 135, 3) := by decide +kernel
theorem dX1_runThroughBridges_24 : decode cX1_runThroughBridges 24 = .ok (.iconst 1, 1) := by decide +kernel
theorem dX1_runThroughBridges_25 : decode cX1_runThroughBridges 25 = .ok (.iadd, 1) := by decide +kernel
theorem dX1_runThroughBridges_26 : decode cX1_runThroughBridges 26 = .ok (.putfield 135, 3) := by decide +kernel
theorem dX1_runThroughBridges_29 : decode cX1_runThroughBridges 29 = .ok (.aload_n 0, 1) := by decide +kernel
theorem dX1_runThroughBridges_30 : decode cX1_runThroughBridges 30 = .ok (.aload_n 0, 1) := by decide +kernel
theorem dX1_runThroughBridges_31 : decode cX1_runThroughBridges 31 = .ok (.getfield 25, 3) := by decide +kernel
theorem dX1_runThroughBridges_34 : decode cX1_runThroughBridges 34 = .ok (.iload_n 3, 1) := by decide +kernel
theorem dX1_runThroughBridges_35 : decode cX1_runThroughBridges 35 = .ok (.invokevirtual 175, 3) := by decide +kernel
theorem dX1_runThroughBridges_38 : decode cX1_runThroughBridges 38 = .ok (.iload_n 2, 1) := by decide +kernel
theorem dX1_runThroughBridges_39 : decode cX1_runThroughBridges 39 = .ok (.invokevirtual 163, 3) := by decide +kernel
theorem dX1_runThroughBridges_42 : decode cX1_runThroughBridges 42 = .ok (.istore_n 3, 1) := by decide +kernel
theorem dX1_runThroughBridges_43 : decode cX1_runThroughBridges 43 = .ok (.iinc 4 1, 3) := by decide +kernel
theorem dX1_runThroughBridges_46 : decode cX1_runThroughBridges 46 = .ok (.goto (-41), 3) := by decide +kernel
theorem dX1_runThroughBridges_49 : decode cX1_runThroughBridges 49 = .ok (.iload_n 3, 1) := by decide +kernel
theorem dX1_runThroughBridges_50 : decode cX1_runThroughBridges 50 = .ok (.sipush 1000, 3) := by decide +kernel
theorem dX1_runThroughBridges_53 : decode cX1_runThroughBridges 53 = .ok (.if_icmp .lt 8, 3) := by decide +kernel
theorem dX1_runThroughBridges_56 : decode cX1_runThroughBridges 56 = .ok (.bipush (-7), 2) := by decide +kernel
theorem dX1_runThroughBridges_58 : decode cX1_runThroughBridges 58 = .ok (.goto 4, 3) := by decide +kernel
theorem dX1_runThroughBridges_61 : decode cX1_runThroughBridges 61 = .ok (.iload_n 3, 1) := by decide +kernel
theorem dX1_runThroughBridges_62 : decode cX1_runThroughBridges 62 = .ok (.ireturn, 1) := by decide +kernel
theorem dX1_count_0 : decode cX1_count 0 = .ok (.iconst 0, 1) := by decide +kernel
theorem dX1_count_1 : decode cX1_count 1 = .ok (.istore_n 3, 1) := by decide +kernel
theorem dX1_count_2 : decode cX1_count 2 = .ok (.iconst 0, 1) := by decide +kernel
theorem dX1_count_3 : decode cX1_count 3 = .ok (.istore 4, 2) := by decide +kernel
theorem dX1_count_5 : decode cX1_count 5 = .ok (.iload 4, 2) := by decide +kernel
theorem dX1_count_7 : decode cX1_count 7 = .ok (.aload_n 0, 1) := by decide +kernel
theorem dX1_count_8 : decode cX1_count 8 = .ok (.getfield 25, 3) := by decide +kernel
theorem dX1_count_11 : decode cX1_count 11 = .ok (.getfield 178, 3) := by decide +kernel
theorem dX1_count_14 : decode cX1_count 14 = .ok (.if_icmp .ge 109, 3) := by decide +kernel
theorem dX1_count_17 : decode cX1_count 17 = .ok (.aload_n 0, 1) := by decide +kernel
theorem dX1_count_18 : decode cX1_count 18 = .ok (.getfield 25, 3) := by decide +kernel
theorem dX1_count_21 : decode cX1_count 21 = .ok (.getfield 29, 3) := by decide +kernel
theorem dX1_count_24 : decode cX1_count 24 = .ok (.iload 4, 2) := by decide +kernel
theorem dX1_count_26 : decode cX1_count 26 = .ok (.aaload, 1) := by decide +kernel
theorem dX1_count_27 : decode cX1_count 27 = .ok (.astore 5, 2) := by decide +kernel
theorem dX1_count_29 : decode cX1_count 29 = .ok (.aload_n 0, 1) := by decide +kernel
theorem dX1_count_30 : decode cX1_count 30 = .ok (.getfield 25, 3) := by decide +kernel
theorem dX1_count_33 : decode cX1_count 33 = .ok (.iload_n 1, 1) := by decide +kernel
theorem dX1_count_34 : decode cX1_count 34 = .ok (.aload 5, 2) := by decide +kernel
theorem dX1_count_36 : decode cX1_count 36 = .ok (.getfield 85, 3) := by decide +kernel
theorem dX1_count_39 : decode cX1_count 39 = .ok (.invokevirtual 88, 3) := by decide +kernel
theorem dX1_count_42 : decode cX1_count 42 = .ok (.ifCond .eq 75, 3) := by decide +kernel
theorem dX1_count_45 : decode cX1_count 45 = .ok (.aload 5, 2) := by decide +kernel
theorem dX1_count_47 : decode cX1_count 47 = .ok (.invokevirtual 112, 3) := by decide +kernel
theorem dX1_count_50 : decode cX1_count 50 = .ok (.ifCond .eq 7, 3) := by decide +kernel
theorem dX1_count_53 : decode cX1_count 53 = .ok (.iconst 3, 1) := by decide +kernel
theorem dX1_count_54 : decode cX1_count 54 = .ok (.goto 27, 3) := by decide +kernel
theorem dX1_count_57 : decode cX1_count 57 = .ok (.aload_n 0, 1) := by decide +kernel
theorem dX1_count_58 : decode cX1_count 58 = .ok (.getfield 25, 3) := by decide +kernel
theorem dX1_count_61 : decode cX1_count 61 = .ok (.getfield 48, 3) := by decide +kernel
theorem dX1_count_64 : decode cX1_count 64 = .ok (.aload 5, 2) := by decide +kernel
theorem dX1_count_66 : decode cX1_count 66 = .ok (.getfield 85, 3) := by decide +kernel
theorem dX1_count_69 : decode cX1_count 69 = .ok (.aaload, 1) := by decide +kernel
theorem dX1_count_70 : decode cX1_count 70 = .ok (.invokevirtual 52, 3) := by decide +kernel
theorem dX1_count_73 : decode cX1_count 73 = .ok (.ifCond .eq 7, 3) := by decide +kernel
theorem dX1_count_76 : decode cX1_count 76 = .ok (.iconst 1, 1) := by decide +kernel
theorem dX1_count_77 : decode cX1_count 77 = .ok (.goto 4, 3) := by decide +kernel
theorem dX1_count_80 : decode cX1_count 80 = .ok (.iconst 0, 1) := by decide +kernel
theorem dX1_count_81 : decode cX1_count 81 = .ok (.istore 6, 2) := by decide +kernel
theorem dX1_count_83 : decode cX1_count 83 = .ok (.aload_n 0, 1) := by decide +kernel
theorem dX1_count_84 : decode cX1_count 84 = .ok (.iload 6, 2) := by decide +kernel
theorem dX1_count_86 : decode cX1_count 86 = .ok (.aload 5, 2) := by decide +kernel
theorem dX1_count_88 : decode cX1_count 88 = .ok (.getfield 85, 3) := by decide +kernel
theorem dX1_count_91 : decode cX1_count 91 = .ok (.aload 5, 2) := by decide +kernel
theorem dX1_count_93 : decode cX1_count 93 = .ok (.getfield 85, 3) := by decide +kernel
theorem dX1_count_96 : decode cX1_count 96 = .ok (.iload 4, 2) := by decide +kernel
theorem dX1_count_98 : decode cX1_count 98 = .ok (.iload_n 1, 1) := by decide +kernel
theorem dX1_count_99 : decode cX1_count 99 = .ok (.invokevirtual 181, 3) := by decide +kernel
theorem dX1_count_102 : decode cX1_count 102 = .ok (.istore 7, 2) := by decide +kernel
theorem dX1_count_104 : decode cX1_count 104 = .ok (.iload 7, 2) := by decide +kernel
theorem dX1_count_106 : decode cX1_count 106 = .ok (.iconst 0, 1) := by decide +kernel
theorem dX1_count_107 : decode cX1_count 107 = .ok (.invokestatic 185, 3) := by decide +kernel
theorem dX1_count_110 : decode cX1_count 110 = .ok (.iload_n 2, 1) := by decide +kernel
theorem dX1_count_111 : decode cX1_count 111 = .ok (.if_icmp .ne 6, 3) := by decide +kernel
theorem dX1_count_114 : decode cX1_count 114 = .ok (.iinc 3 1, 3) := by decide +kernel
theorem dX1_count_117 : decode cX1_count 117 = .ok (.iinc 4 1, 3) := by decide +kernel
theorem dX1_count_120 : decode cX1_count 120 = .ok (.goto (-115), 3) := by decide +kernel
theorem dX1_count_123 : decode cX1_count 123 = .ok (.iload_n 3, 1) := by decide +kernel
theorem dX1_count_124 : decode cX1_count 124 = .ok (.ireturn, 1) := by decide +kernel
theorem dX2_init_0 : decode cX2_init 0 = .ok (.aload_n 0, 1) := by decide +kernel
theorem dX2_init_1 : decode cX2_init 1 = .ok (.invokespecial 3, 3) := by decide +kernel
theorem dX2_init_4 : decode cX2_init 4 = .ok (.aload_n 0, 1) := by decide +kernel
theorem dX2_init_5 : decode cX2_init 5 = .ok (.bipush 24, 2) := by decide +kernel
theorem dX2_init_7 : decode cX2_init 7 = .ok (.anewarray 9, 3) := by decide +kernel
theorem dX2_init_10 : decode cX2_init 10 = .ok (.putfield 11, 3) := by decide +kernel
theorem dX2_init_13 : decode cX2_init 13 = .ok (.aload_n 0, 1) := by decide +kernel
theorem dX2_init_14 : decode cX2_init 14 = .ok (.bipush 121, 2) := by decide +kernel
theorem dX2_init_16 : decode cX2_init 16 = .ok (.anewarray 17, 3) := by decide +kernel
theorem dX2_init_19 : decode cX2_init 19 = .ok (.putfield 19, 3) := by decide +kernel
theorem dX2_init_22 : decode cX2_init 22 = .ok (.aload_n 0, 1) := by decide +kernel
theorem dX2_init_23 : decode cX2_init 23 = .ok (.sipush 242, 3) := by decide +kernel
theorem dX2_init_26 : decode cX2_init 26 = .ok (.newarray .long, 2) := by decide +kernel
theorem dX2_init_28 : decode cX2_init 28 = .ok (.putfield 23, 3) := by decide +kernel
theorem dX2_init_31 : decode cX2_init 31 = .ok (.aload_n 0, 1) := by decide +kernel
theorem dX2_init_32 : decode cX2_init 32 = .ok (.sipush 2880, 3) := by decide +kernel
theorem dX2_init_35 : decode cX2_init 35 = .ok (.newarray .int, 2) := by decide +kernel
theorem dX2_init_37 : decode cX2_init 37 = .ok (.putfield 27, 3) := by decide +kernel
theorem dX2_init_40 : decode cX2_init 40 = .ok (.aload_n 0, 1) := by decide +kernel
theorem dX2_init_41 : decode cX2_init 41 = .ok (.sipush 2880, 3) := by decide +kernel
theorem dX2_init_44 : decode cX2_init 44 = .ok (.newarray .int, 2) := by decide +kernel
theorem dX2_init_46 : decode cX2_init 46 = .ok (.putfield 31, 3) := by decide +kernel
theorem dX2_init_49 : decode cX2_init 49 = .ok (.iconst 0, 1) := by decide +kernel
theorem dX2_init_50 : decode cX2_init 50 = .ok (.istore_n 1, 1) := by decide +kernel
theorem dX2_init_51 : decode cX2_init 51 = .ok (.iload_n 1, 1) := by decide +kernel
theorem dX2_init_52 : decode cX2_init 52 = .ok (.aload_n 0, 1) := by decide +kernel
theorem dX2_init_53 : decode cX2_init 53 = .ok (.getfield 11, 3) := by decide +kernel
theorem dX2_init_56 : decode cX2_init 56 = .ok (.arraylength, 1) := by decide +kernel
theorem dX2_init_57 : decode cX2_init 57 = .ok (.if_icmp .ge 23, 3) := by decide +kernel
theorem dX2_init_60 : decode cX2_init 60 = .ok (.aload_n 0, 1) := by decide +kernel
theorem dX2_init_61 : decode cX2_init 61 = .ok (.getfield 11, 3) := by decide +kernel
theorem dX2_init_64 : decode cX2_init 64 = .ok (.iload_n 1, 1) := by decide +kernel
theorem dX2_init_65 : decode cX2_init 65 = .ok (.new 9, 3) := by decide +kernel
theorem dX2_init_68 : decode cX2_init 68 = .ok (.dup, 1) := by decide +kernel
theorem dX2_init_69 : decode cX2_init 69 = .ok (.iload_n 1, 1) := by decide +kernel
theorem dX2_init_70 : decode cX2_init 70 = .ok (.invokespecial 34, 3) := by decide +kernel
theorem dX2_init_73 : decode cX2_init 73 = .ok (.aastore, 1) := by decide +kernel
theorem dX2_init_74 : decode cX2_init 74 = .ok (.iinc 1 1, 3) := by decide +kernel
theorem dX2_init_77 : decode cX2_init 77 = .ok (.goto (-26), 3) := by decide +kernel
theorem dX2_init_80 : decode cX2_init 80 = .ok (.iconst 0, 1) := by decide +kernel
theorem dX2_init_81 : decode cX2_init 81 = .ok (.istore_n 1, 1) := by decide +kernel
theorem dX2_init_82 : decode cX2_init 82 = .ok (.iload_n 1, 1) := by decide +kernel
theorem dX2_init_83 : decode cX2_init 83 = .ok (.aload_n 0, 1) := by decide +kernel
theorem dX2_init_84 : decode cX2_init 84 = .ok (.getfield 19, 3) := by decide +kernel
theorem dX2_init_87 : decode cX2_init 87 = .ok (.arraylength, 1) := by decide +kernel
theorem dX2_init_88 : decode cX2_init 88 = .ok (.if_icmp .ge 22, 3) := by decide +kernel
theorem dX2_init_91 : decode cX2_init 91 = .ok (.aload_n 0, 1) := by decide +kernel
theorem dX2_init_92 : decode cX2_init 92 = .ok (.getfield 19, 3) := by decide +kernel
theorem dX2_init_95 : decode cX2_init 95 = .ok (.iload_n 1, 1) := by decide +kernel
theorem dX2_init_96 : decode cX2_init 96 = .ok (.new 17, 3) := by decide +kernel
theorem dX2_init_99 : decode cX2_init 99 = .ok (.dup, 1) := by decide +kernel
theorem dX2_init_100 : decode cX2_init 100 = .ok (.invokespecial 37, 3) := by decide +kernel
theorem dX2_init_103 : decode cX2_init 103 = .ok (.aastore, 1) := by decide +kernel
theorem dX2_init_104 : decode cX2_init 104 = .ok (.iinc 1 1, 3) := by decide +kernel
theorem dX2_init_107 : decode cX2_init 107 = .ok (.goto (-25), 3) := by decide +kernel
theorem dX2_init_110 : decode cX2_init 110 = .ok (.return_, 1) := by decide +kernel
theorem dX2_clear_0 : decode cX2_clear 0 = .ok (.aload_n 0, 1) := by decide +kernel
theorem dX2_clear_1 : decode cX2_clear 1 = .ok (.iconst 0, 1) := by decide +kernel
theorem dX2_clear_2 : decode cX2_clear 2 = .ok (.putfield 38, 3) := by decide +kernel
theorem dX2_clear_5 : decode cX2_clear 5 = .ok (.aload_n 0, 1) := by decide +kernel
theorem dX2_clear_6 : decode cX2_clear 6 = .ok (.iconst 0, 1) := by decide +kernel
theorem dX2_clear_7 : decode cX2_clear 7 = .ok (.putfield 42, 3) := by decide +kernel
theorem dX2_clear_10 : decode cX2_clear 10 = .ok (.aload_n 0, 1) := by decide +kernel
theorem dX2_clear_11 : decode cX2_clear 11 = .ok (.iconst 0, 1) := by decide +kernel
theorem dX2_clear_12 : decode cX2_clear 12 = .ok (.putfield 45, 3) := by decide +kernel
theorem dX2_clear_15 : decode cX2_clear 15 = .ok (.aload_n 0, 1) := by decide +kernel
theorem dX2_clear_16 : decode cX2_clear 16 = .ok (.iconst 0, 1) := by decide +kernel
theorem dX2_clear_17 : decode cX2_clear 17 = .ok (.putfield 48, 3) := by decide +kernel
theorem dX2_clear_20 : decode cX2_clear 20 = .ok (.iconst 0, 1) := by decide +kernel
theorem dX2_clear_21 : decode cX2_clear 21 = .ok (.istore_n 1, 1) := by decide +kernel
theorem dX2_clear_22 : decode cX2_clear 22 = .ok (.iload_n 1, 1) := by decide +kernel
theorem dX2_clear_23 : decode cX2_clear 23 = .ok (.aload_n 0, 1) := by decide +kernel
theorem dX2_clear_24 : decode cX2_clear 24 = .ok (.getfield 23, 3) := by decide +kernel
theorem dX2_clear_27 : decode cX2_clear 27 = .ok (.arraylength, 1) := by decide +kernel
theorem dX2_clear_28 : decode cX2_clear 28 = .ok (.if_icmp .ge 16, 3) := by decide +kernel
theorem dX2_clear_31 : decode cX2_clear 31 = .ok (.aload_n 0, 1) := by decide +kernel
theorem dX2_clear_32 : decode cX2_clear 32 = .ok (.getfield 23, 3) := by decide +kernel
theorem dX2_clear_35 : decode cX2_clear 35 = .ok (.iload_n 1, 1) := by decide +kernel
theorem dX2_clear_36 : decode cX2_clear 36 = .ok (.lconst 0, 1) := by decide +kernel
theorem dX2_clear_37 : decode cX2_clear 37 = .ok (.lastore, 1) := by decide +kernel
theorem dX2_clear_38 : decode cX2_clear 38 = .ok (.iinc 1 1, 3) := by decide +kernel
theorem dX2_clear_41 : decode cX2_clear 41 = .ok (.goto (-19), 3) := by decide +kernel
theorem dX2_clear_44 : decode cX2_clear 44 = .ok (.return_, 1) := by decide +kernel
theorem dX2_isUnder_0 : decode cX2_isUnder 0 = .ok (.iload_n 1, 1) := by decide +kernel
theorem dX2_isUnder_1 : decode cX2_isUnder 1 = .ok (.iload_n 2, 1) := by decide +kernel
theorem dX2_isUnder_2 : decode cX2_isUnder 2 = .ok (.if_icmp .eq 19, 3) := by decide +kernel
theorem dX2_isUnder_5 : decode cX2_isUnder 5 = .ok (.aload_n 0, 1) := by decide +kernel
theorem dX2_isUnder_6 : decode cX2_isUnder 6 = .ok (.getfield 11, 3) := by decide +kernel
theorem dX2_isUnder_9 : decode cX2_isUnder 9 = .ok (.iload_n 1, 1) := by decide +kernel
theorem dX2_isUnder_10 : decode cX2_isUnder 10 = .ok (.aaload, 1) := by decide +kernel
theorem dX2_isUnder_11 : decode cX2_isUnder 11 = .ok (.getfield 51, 3) := by decide +kernel
theorem dX2_isUnder_14 : decode cX2_isUnder 14 = .ok (.iload_n 2, 1) := by decide +kernel
theorem dX2_isUnder_15 : decode cX2_isUnder 15 = .ok (.iushr, 1) := by decide +kernel
theorem dX2_isUnder_16 : decode cX2_isUnder 16 = .ok (.iconst 1, 1) := by decide +kernel
theorem dX2_isUnder_17 : decode cX2_isUnder 17 = .ok (.iand, 1) := by decide +kernel
theorem dX2_isUnder_18 : decode cX2_isUnder 18 = .ok (.ifCond .eq 7, 3) := by decide +kernel
theorem dX2_isUnder_21 : decode cX2_isUnder 21 = .ok (.iconst 1, 1) := by decide +kernel
theorem dX2_isUnder_22 : decode cX2_isUnder 22 = .ok (.goto 4, 3) := by decide +kernel
theorem dX2_isUnder_25 : decode cX2_isUnder 25 = .ok (.iconst 0, 1) := by decide +kernel
theorem dX2_isUnder_26 : decode cX2_isUnder 26 = .ok (.ireturn, 1) := by decide +kernel
theorem dX2_samePackage_0 : decode cX2_samePackage 0 = .ok (.aload_n 0, 1) := by decide +kernel
theorem dX2_samePackage_1 : decode cX2_samePackage 1 = .ok (.getfield 11, 3) := by decide +kernel
theorem dX2_samePackage_4 : decode cX2_samePackage 4 = .ok (.iload_n 1, 1) := by decide +kernel
theorem dX2_samePackage_5 : decode cX2_samePackage 5 = .ok (.aaload, 1) := by decide +kernel
theorem dX2_samePackage_6 : decode cX2_samePackage 6 = .ok (.getfield 54, 3) := by decide +kernel
theorem dX2_samePackage_9 : decode cX2_samePackage 9 = .ok (.aload_n 0, 1) := by decide +kernel
theorem dX2_samePackage_10 : decode cX2_samePackage 10 = .ok (.getfield 11, 3) := by decide +kernel
theorem dX2_samePackage_13 : decode cX2_samePackage 13 = .ok (.iload_n 2, 1) := by decide +kernel
theorem dX2_samePackage_14 : decode cX2_samePackage 14 = .ok (.aaload, 1) := by decide +kernel
theorem dX2_samePackage_15 : decode cX2_samePackage 15 = .ok (.getfield 54, 3) := by decide +kernel
theorem dX2_samePackage_18 : decode cX2_samePackage 18 = .ok (.if_icmp .ne 28, 3) := by decide +kernel
theorem dX2_samePackage_21 : decode cX2_samePackage 21 = .ok (.aload_n 0, 1) := by decide +kernel
theorem dX2_samePackage_22 : decode cX2_samePackage 22 = .ok (.getfield 11, 3) := by decide +kernel
theorem dX2_samePackage_25 : decode cX2_samePackage 25 = .ok (.iload_n 1, 1) := by decide +kernel
theorem dX2_samePackage_26 : decode cX2_samePackage 26 = .ok (.aaload, 1) := by decide +kernel
theorem dX2_samePackage_27 : decode cX2_samePackage 27 = .ok (.getfield 57, 3) := by decide +kernel
theorem dX2_samePackage_30 : decode cX2_samePackage 30 = .ok (.aload_n 0, 1) := by decide +kernel
theorem dX2_samePackage_31 : decode cX2_samePackage 31 = .ok (.getfield 11, 3) := by decide +kernel
theorem dX2_samePackage_34 : decode cX2_samePackage 34 = .ok (.iload_n 2, 1) := by decide +kernel
theorem dX2_samePackage_35 : decode cX2_samePackage 35 = .ok (.aaload, 1) := by decide +kernel
theorem dX2_samePackage_36 : decode cX2_samePackage 36 = .ok (.getfield 57, 3) := by decide +kernel
theorem dX2_samePackage_39 : decode cX2_samePackage 39 = .ok (.if_icmp .ne 7, 3) := by decide +kernel
theorem dX2_samePackage_42 : decode cX2_samePackage 42 = .ok (.iconst 1, 1) := by decide +kernel
theorem dX2_samePackage_43 : decode cX2_samePackage 43 = .ok (.goto 4, 3) := by decide +kernel
theorem dX2_samePackage_46 : decode cX2_samePackage 46 = .ok (.iconst 0, 1) := by decide +kernel
theorem dX2_samePackage_47 : decode cX2_samePackage 47 = .ok (.ireturn, 1) := by decide +kernel
theorem dX2_sameNest_0 : decode cX2_sameNest 0 = .ok (.aload_n 0, 1) := by decide +kernel
theorem dX2_sameNest_1 : decode cX2_sameNest 1 = .ok (.getfield 11, 3) := by decide +kernel
theorem dX2_sameNest_4 : decode cX2_sameNest 4 = .ok (.iload_n 1, 1) := by decide +kernel
theorem dX2_sameNest_5 : decode cX2_sameNest 5 = .ok (.aaload, 1) := by decide +kernel
theorem dX2_sameNest_6 : decode cX2_sameNest 6 = .ok (.getfield 60, 3) := by decide +kernel
theorem dX2_sameNest_9 : decode cX2_sameNest 9 = .ok (.aload_n 0, 1) := by decide +kernel
theorem dX2_sameNest_10 : decode cX2_sameNest 10 = .ok (.getfield 11, 3) := by decide +kernel
theorem dX2_sameNest_13 : decode cX2_sameNest 13 = .ok (.iload_n 2, 1) := by decide +kernel
theorem dX2_sameNest_14 : decode cX2_sameNest 14 = .ok (.aaload, 1) := by decide +kernel
theorem dX2_sameNest_15 : decode cX2_sameNest 15 = .ok (.getfield 60, 3) := by decide +kernel
theorem dX2_sameNest_18 : decode cX2_sameNest 18 = .ok (.if_icmp .ne 7, 3) := by decide +kernel
theorem dX2_sameNest_21 : decode cX2_sameNest 21 = .ok (.iconst 1, 1) := by decide +kernel
theorem dX2_sameNest_22 : decode cX2_sameNest 22 = .ok (.goto 4, 3) := by decide +kernel
theorem dX2_sameNest_25 : decode cX2_sameNest 25 = .ok (.iconst 0, 1) := by decide +kernel
theorem dX2_sameNest_26 : decode cX2_sameNest 26 = .ok (.ireturn, 1) := by decide +kernel
theorem dX2_hasOverride_0 : decode cX2_hasOverride 0 = .ok (.aload_n 0, 1) := by decide +kernel
theorem dX2_hasOverride_1 : decode cX2_hasOverride 1 = .ok (.getfield 23, 3) := by decide +kernel
theorem dX2_hasOverride_4 : decode cX2_hasOverride 4 = .ok (.iload_n 1, 1) := by decide +kernel
theorem dX2_hasOverride_5 : decode cX2_hasOverride 5 = .ok (.iconst 2, 1) := by decide +kernel
theorem dX2_hasOverride_6 : decode cX2_hasOverride 6 = .ok (.imul, 1) := by decide +kernel
theorem dX2_hasOverride_7 : decode cX2_hasOverride 7 = .ok (.iload_n 2, 1) := by decide +kernel
theorem dX2_hasOverride_8 : decode cX2_hasOverride 8 = .ok (.bipush 6, 2) := by decide +kernel
theorem dX2_hasOverride_10 : decode cX2_hasOverride 10 = .ok (.ishr, 1) := by decide +kernel
theorem dX2_hasOverride_11 : decode cX2_hasOverride 11 = .ok (.iadd, 1) := by decide +kernel
theorem dX2_hasOverride_12 : decode cX2_hasOverride 12 = .ok (.laload, 1) := by decide +kernel
theorem dX2_hasOverride_13 : decode cX2_hasOverride 13 = .ok (.iload_n 2, 1) := by decide +kernel
theorem dX2_hasOverride_14 : decode cX2_hasOverride 14 = .ok (.bipush 63, 2) := by decide +kernel
theorem dX2_hasOverride_16 : decode cX2_hasOverride 16 = .ok (.iand, 1) := by decide +kernel
theorem dX2_hasOverride_17 : decode cX2_hasOverride 17 = .ok (.lushr, 1) := by decide +kernel
theorem dX2_hasOverride_18 : decode cX2_hasOverride 18 = .ok (.lconst 1, 1) := by decide +kernel
theorem dX2_hasOverride_19 : decode cX2_hasOverride 19 = .ok (.land, 1) := by decide +kernel
theorem dX2_hasOverride_20 : decode cX2_hasOverride 20 = .ok (.lconst 0, 1) := by decide +kernel
theorem dX2_hasOverride_21 : decode cX2_hasOverride 21 = .ok (.lcmp, 1) := by decide +kernel
theorem dX2_hasOverride_22 : decode cX2_hasOverride 22 = .ok (.ifCond .eq 7, 3) := by decide +kernel
theorem dX2_hasOverride_25 : decode cX2_hasOverride 25 = .ok (.iconst 1, 1) := by decide +kernel
theorem dX2_hasOverride_26 : decode cX2_hasOverride 26 = .ok (.goto 4, 3) := by decide +kernel
theorem dX2_hasOverride_29 : decode cX2_hasOverride 29 = .ok (.iconst 0, 1) := by decide +kernel
theorem dX2_hasOverride_30 : decode cX2_hasOverride 30 = .ok (.ireturn, 1) := by decide +kernel
theorem dX2_setOverride_0 : decode cX2_setOverride 0 = .ok (.aload_n 0, 1) := by decide +kernel
theorem dX2_setOverride_1 : decode cX2_setOverride 1 = .ok (.getfield 23, 3) := by decide +kernel
theorem dX2_setOverride_4 : decode cX2_setOverride 4 = .ok (.iload_n 1, 1) := by decide +kernel
theorem dX2_setOverride_5 : decode cX2_setOverride 5 = .ok (.iconst 2, 1) := by decide +kernel
theorem dX2_setOverride_6 : decode cX2_setOverride 6 = .ok (.imul, 1) := by decide +kernel
theorem dX2_setOverride_7 : decode cX2_setOverride 7 = .ok (.iload_n 2, 1) := by decide +kernel
theorem dX2_setOverride_8 : decode cX2_setOverride 8 = .ok (.bipush 6, 2) := by decide +kernel
theorem dX2_setOverride_10 : decode cX2_setOverride 10 = .ok (.ishr, 1) := by decide +kernel
theorem dX2_setOverride_11 : decode cX2_setOverride 11 = .ok (.iadd, 1) := by decide +kernel
theorem dX2_setOverride_12 : decode cX2_setOverride 12 = .ok (.dup2, 1) := by decide +kernel
theorem dX2_setOverride_13 : decode cX2_setOverride 13 = .ok (.laload, 1) := by decide +kernel
theorem dX2_setOverride_14 : decode cX2_setOverride 14 = .ok (.lconst 1, 1) := by decide +kernel
theorem dX2_setOverride_15 : decode cX2_setOverride 15 = .ok (.iload_n 2, 1) := by decide +kernel
theorem dX2_setOverride_16 : decode cX2_setOverride 16 = .ok (.bipush 63, 2) := by decide +kernel
theorem dX2_setOverride_18 : decode cX2_setOverride 18 = .ok (.iand, 1) := by decide +kernel
theorem dX2_setOverride_19 : decode cX2_setOverride 19 = .ok (.lshl, 1) := by decide +kernel
theorem dX2_setOverride_20 : decode cX2_setOverride 20 = .ok (.lor, 1) := by decide +kernel
theorem dX2_setOverride_21 : decode cX2_setOverride 21 = .ok (.lastore, 1) := by decide +kernel
theorem dX2_setOverride_22 : decode cX2_setOverride 22 = .ok (.return_, 1) := by decide +kernel
theorem dX2_kindSeen_0 : decode cX2_kindSeen 0 = .ok (.aload_n 2, 1) := by decide +kernel
theorem dX2_kindSeen_1 : decode cX2_kindSeen 1 = .ok (.getfield 63, 3) := by decide +kernel
theorem dX2_kindSeen_4 : decode cX2_kindSeen 4 = .ok (.iload_n 3, 1) := by decide +kernel
theorem dX2_kindSeen_5 : decode cX2_kindSeen 5 = .ok (.iaload, 1) := by decide +kernel
theorem dX2_kindSeen_6 : decode cX2_kindSeen 6 = .ok (.istore 4, 2) := by decide +kernel
theorem dX2_kindSeen_8 : decode cX2_kindSeen 8 = .ok (.iload 4, 2) := by decide +kernel
theorem dX2_kindSeen_10 : decode cX2_kindSeen 10 = .ok (.bipush 100, 2) := by decide +kernel
theorem dX2_kindSeen_12 : decode cX2_kindSeen 12 = .ok (.if_icmp .lt 23, 3) := by decide +kernel
theorem dX2_kindSeen_15 : decode cX2_kindSeen 15 = .ok (.aload_n 1, 1) := by decide +kernel
theorem dX2_kindSeen_16 : decode cX2_kindSeen 16 = .ok (.getfield 66, 3) := by decide +kernel
theorem dX2_kindSeen_19 : decode cX2_kindSeen 19 = .ok (.aload_n 2, 1) := by decide +kernel
theorem dX2_kindSeen_20 : decode cX2_kindSeen 20 = .ok (.getfield 69, 3) := by decide +kernel
theorem dX2_kindSeen_23 : decode cX2_kindSeen 23 = .ok (.iconst 2, 1) := by decide +kernel
theorem dX2_kindSeen_24 : decode cX2_kindSeen 24 = .ok (.imul, 1) := by decide +kernel
theorem dX2_kindSeen_25 : decode cX2_kindSeen 25 = .ok (.iload 4, 2) := by decide +kernel
theorem dX2_kindSeen_27 : decode cX2_kindSeen 27 = .ok (.iadd, 1) := by decide +kernel
theorem dX2_kindSeen_28 : decode cX2_kindSeen 28 = .ok (.bipush 100, 2) := by decide +kernel
theorem dX2_kindSeen_30 : decode cX2_kindSeen 30 = .ok (.isub, 1) := by decide +kernel
theorem dX2_kindSeen_31 : decode cX2_kindSeen 31 = .ok (.iaload, 1) := by decide +kernel
theorem dX2_kindSeen_32 : decode cX2_kindSeen 32 = .ok (.goto 5, 3) := by decide +kernel
theorem dX2_kindSeen_35 : decode cX2_kindSeen 35 = .ok (.iload 4, 2) := by decide +kernel
theorem dX2_kindSeen_37 : decode cX2_kindSeen 37 = .ok (.ireturn, 1) := by decide +kernel
theorem dX2_behind_0 : decode cX2_behind 0 = .ok (.iload_n 1, 1) := by decide +kernel
theorem dX2_behind_1 : decode cX2_behind 1 = .ok (.sipush 1000, 3) := by decide +kernel
theorem dX2_behind_4 : decode cX2_behind 4 = .ok (.if_icmp .ge 7, 3) := by decide +kernel
theorem dX2_behind_7 : decode cX2_behind 7 = .ok (.iload_n 1, 1) := by decide +kernel
theorem dX2_behind_8 : decode cX2_behind 8 = .ok (.goto 13, 3) := by decide +kernel
theorem dX2_behind_11 : decode cX2_behind 11 = .ok (.aload_n 0, 1) := by decide +kernel
theorem dX2_behind_12 : decode cX2_behind 12 = .ok (.getfield 27, 3) := by decide +kernel
theorem dX2_behind_15 : decode cX2_behind 15 = .ok (.iload_n 1, 1) := by decide +kernel
theorem dX2_behind_16 : decode cX2_behind 16 = .ok (.sipush 1000, 3) := by decide +kernel
theorem dX2_behind_19 : decode cX2_behind 19 = .ok (.isub, 1) := by decide +kernel
theorem dX2_behind_20 : decode cX2_behind 20 = .ok (.iaload, 1) := by decide +kernel
theorem dX2_behind_21 : decode cX2_behind 21 = .ok (.ireturn, 1) := by decide +kernel
theorem dX2_signatureOf_0 : decode cX2_signatureOf 0 = .ok (.aload_n 0, 1) := by decide +kernel
theorem dX2_signatureOf_1 : decode cX2_signatureOf 1 = .ok (.getfield 19, 3) := by decide +kernel
theorem dX2_signatureOf_4 : decode cX2_signatureOf 4 = .ok (.iload_n 1, 1) := by decide +kernel
theorem dX2_signatureOf_5 : decode cX2_signatureOf 5 = .ok (.sipush 1000, 3) := by decide +kernel
theorem dX2_signatureOf_8 : decode cX2_signatureOf 8 = .ok (.if_icmp .ge 7, 3) := by decide +kernel
theorem dX2_signatureOf_11 : decode cX2_signatureOf 11 = .ok (.iload_n 1, 1) := by decide +kernel
theorem dX2_signatureOf_12 : decode cX2_signatureOf 12 = .ok (.goto 13, 3) := by decide +kernel
theorem dX2_signatureOf_15 : decode cX2_signatureOf 15 = .ok (.aload_n 0, 1) := by decide +kernel
theorem dX2_signatureOf_16 : decode cX2_signatureOf 16 = .ok (.getfield 31, 3) := by decide +kernel
theorem dX2_signatureOf_19 : decode cX2_signatureOf 19 = .ok (.iload_n 1, 1) := by decide +kernel
theorem dX2_signatureOf_20 : decode cX2_signatureOf 20 = .ok (.sipush 1000, 3) := by decide +kernel
theorem dX2_signatureOf_23 : decode cX2_signatureOf 23 = .ok (.isub, 1) := by decide +kernel
theorem dX2_signatureOf_24 : decode cX2_signatureOf 24 = .ok (.iaload, 1) := by decide +kernel
theorem dX2_signatureOf_25 : decode cX2_signatureOf 25 = .ok (.aaload, 1) := by decide +kernel
theorem dX2_signatureOf_26 : decode cX2_signatureOf 26 = .ok (.getfield 72, 3) := by decide +kernel
theorem dX2_signatureOf_29 : decode cX2_signatureOf 29 = .ok (.ireturn, 1) := by decide +kernel
theorem dX2_methodIn_0 : decode cX2_methodIn 0 = .ok (.aload_n 1, 1) := by decide +kernel
theorem dX2_methodIn_1 : decode cX2_methodIn 1 = .ok (.getfield 75, 3) := by decide +kernel
theorem dX2_methodIn_4 : decode cX2_methodIn 4 = .ok (.aload_n 1, 1) := by decide +kernel
theorem dX2_methodIn_5 : decode cX2_methodIn 5 = .ok (.getfield 78, 3) := by decide +kernel
theorem dX2_methodIn_8 : decode cX2_methodIn 8 = .ok (.iadd, 1) := by decide +kernel
theorem dX2_methodIn_9 : decode cX2_methodIn 9 = .ok (.istore_n 3, 1) := by decide +kernel
theorem dX2_methodIn_10 : decode cX2_methodIn 10 = .ok (.aload_n 1, 1) := by decide +kernel
theorem dX2_methodIn_11 : decode cX2_methodIn 11 = .ok (.getfield 75, 3) := by decide +kernel
theorem dX2_methodIn_14 : decode cX2_methodIn 14 = .ok (.istore 4, 2) := by decide +kernel
theorem dX2_methodIn_16 : decode cX2_methodIn 16 = .ok (.iload 4, 2) := by decide +kernel
theorem dX2_methodIn_18 : decode cX2_methodIn 18 = .ok (.iload_n 3, 1) := by decide +kernel
theorem dX2_methodIn_19 : decode cX2_methodIn 19 = .ok (.if_icmp .ge 26, 3) := by decide +kernel
theorem dX2_methodIn_22 : decode cX2_methodIn 22 = .ok (.aload_n 0, 1) := by decide +kernel
theorem dX2_methodIn_23 : decode cX2_methodIn 23 = .ok (.getfield 19, 3) := by decide +kernel
theorem dX2_methodIn_26 : decode cX2_methodIn 26 = .ok (.iload 4, 2) := by decide +kernel
theorem dX2_methodIn_28 : decode cX2_methodIn 28 = .ok (.aaload, 1) := by decide +kernel
theorem dX2_methodIn_29 : decode cX2_methodIn 29 = .ok (.getfield 72, 3) := by decide +kernel
theorem dX2_methodIn_32 : decode cX2_methodIn 32 = .ok (.iload_n 2, 1) := by decide +kernel
theorem dX2_methodIn_33 : decode cX2_methodIn 33 = .ok (.if_icmp .ne 6, 3) := by decide +kernel
theorem dX2_methodIn_36 : decode cX2_methodIn 36 = .ok (.iload 4, 2) := by decide +kernel
theorem dX2_methodIn_38 : decode cX2_methodIn 38 = .ok (.ireturn, 1) := by decide +kernel
theorem dX2_methodIn_39 : decode cX2_methodIn 39 = .ok (.iinc 4 1, 3) := by decide +kernel
theorem dX2_methodIn_42 : decode cX2_methodIn 42 = .ok (.goto (-26), 3) := by decide +kernel
theorem dX2_methodIn_45 : decode cX2_methodIn 45 = .ok (.aload_n 1, 1) := by decide +kernel
theorem dX2_methodIn_46 : decode cX2_methodIn 46 = .ok (.getfield 79, 3) := by decide +kernel
theorem dX2_methodIn_49 : decode cX2_methodIn 49 = .ok (.aload_n 1, 1) := by decide +kernel
theorem dX2_methodIn_50 : decode cX2_methodIn 50 = .ok (.getfield 82, 3) := by decide +kernel
theorem dX2_methodIn_53 : decode cX2_methodIn 53 = .ok (.iadd, 1) := by decide +kernel
theorem dX2_methodIn_54 : decode cX2_methodIn 54 = .ok (.istore 4, 2) := by decide +kernel
theorem dX2_methodIn_56 : decode cX2_methodIn 56 = .ok (.aload_n 1, 1) := by decide +kernel
theorem dX2_methodIn_57 : decode cX2_methodIn 57 = .ok (.getfield 79, 3) := by decide +kernel
theorem dX2_methodIn_60 : decode cX2_methodIn 60 = .ok (.istore 5, 2) := by decide +kernel
theorem dX2_methodIn_62 : decode cX2_methodIn 62 = .ok (.iload 5, 2) := by decide +kernel
theorem dX2_methodIn_64 : decode cX2_methodIn 64 = .ok (.iload 4, 2) := by decide +kernel
theorem dX2_methodIn_66 : decode cX2_methodIn 66 = .ok (.if_icmp .ge 35, 3) := by decide +kernel
theorem dX2_methodIn_69 : decode cX2_methodIn 69 = .ok (.aload_n 0, 1) := by decide +kernel
theorem dX2_methodIn_70 : decode cX2_methodIn 70 = .ok (.getfield 19, 3) := by decide +kernel
theorem dX2_methodIn_73 : decode cX2_methodIn 73 = .ok (.aload_n 0, 1) := by decide +kernel
theorem dX2_methodIn_74 : decode cX2_methodIn 74 = .ok (.getfield 31, 3) := by decide +kernel
theorem dX2_methodIn_77 : decode cX2_methodIn 77 = .ok (.iload 5, 2) := by decide +kernel
theorem dX2_methodIn_79 : decode cX2_methodIn 79 = .ok (.iaload, 1) := by decide +kernel
theorem dX2_methodIn_80 : decode cX2_methodIn 80 = .ok (.aaload, 1) := by decide +kernel
theorem dX2_methodIn_81 : decode cX2_methodIn 81 = .ok (.getfield 72, 3) := by decide +kernel
theorem dX2_methodIn_84 : decode cX2_methodIn 84 = .ok (.iload_n 2, 1) := by decide +kernel
theorem dX2_methodIn_85 : decode cX2_methodIn 85 = .ok (.if_icmp .ne 10, 3) := by decide +kernel
theorem dX2_methodIn_88 : decode cX2_methodIn 88 = .ok (.sipush 1000, 3) := by decide +kernel
theorem dX2_methodIn_91 : decode cX2_methodIn 91 = .ok (.iload 5, 2) := by decide +kernel
theorem dX2_methodIn_93 : decode cX2_methodIn 93 = .ok (.iadd, 1) := by decide +kernel
theorem dX2_methodIn_94 : decode cX2_methodIn 94 = .ok (.ireturn, 1) := by decide +kernel
theorem dX2_methodIn_95 : decode cX2_methodIn 95 = .ok (.iinc 5 1, 3) := by decide +kernel
theorem dX2_methodIn_98 : decode cX2_methodIn 98 = .ok (.goto (-36), 3) := by decide +kernel
theorem dX2_methodIn_101 : decode cX2_methodIn 101 = .ok (.iconst (-1), 1) := by decide +kernel
theorem dX2_methodIn_102 : decode cX2_methodIn 102 = .ok (.ireturn, 1) := by decide +kernel
theorem dX3_init_0 : decode cX3_init 0 = .ok (.aload_n 0, 1) := by decide +kernel
theorem dX3_init_1 : decode cX3_init 1 = .ok (.invokespecial 3, 3) := by decide +kernel
theorem dX3_init_4 : decode cX3_init 4 = .ok (.aload_n 0, 1) := by decide +kernel
theorem dX3_init_5 : decode cX3_init 5 = .ok (.iconst 3, 1) := by decide +kernel
theorem dX3_init_6 : decode cX3_init 6 = .ok (.newarray .int, 2) := by decide +kernel
theorem dX3_init_8 : decode cX3_init 8 = .ok (.putfield 9, 3) := by decide +kernel
theorem dX3_init_11 : decode cX3_init 11 = .ok (.aload_n 0, 1) := by decide +kernel
theorem dX3_init_12 : decode cX3_init 12 = .ok (.iconst 3, 1) := by decide +kernel
theorem dX3_init_13 : decode cX3_init 13 = .ok (.newarray .int, 2) := by decide +kernel
theorem dX3_init_15 : decode cX3_init 15 = .ok (.putfield 15, 3) := by decide +kernel
theorem dX3_init_18 : decode cX3_init 18 = .ok (.return_, 1) := by decide +kernel
theorem dX3_clear_0 : decode cX3_clear 0 = .ok (.aload_n 0, 1) := by decide +kernel
theorem dX3_clear_1 : decode cX3_clear 1 = .ok (.iload_n 1, 1) := by decide +kernel
theorem dX3_clear_2 : decode cX3_clear 2 = .ok (.putfield 18, 3) := by decide +kernel
theorem dX3_clear_5 : decode cX3_clear 5 = .ok (.aload_n 0, 1) := by decide +kernel
theorem dX3_clear_6 : decode cX3_clear 6 = .ok (.lconst 0, 1) := by decide +kernel
theorem dX3_clear_7 : decode cX3_clear 7 = .ok (.putfield 22, 3) := by decide +kernel
theorem dX3_clear_10 : decode cX3_clear 10 = .ok (.aload_n 0, 1) := by decide +kernel
theorem dX3_clear_11 : decode cX3_clear 11 = .ok (.iconst 1, 1) := by decide +kernel
theorem dX3_clear_12 : decode cX3_clear 12 = .ok (.putfield 26, 3) := by decide +kernel
theorem dX3_clear_15 : decode cX3_clear 15 = .ok (.aload_n 0, 1) := by decide +kernel
theorem dX3_clear_16 : decode cX3_clear 16 = .ok (.iconst 0, 1) := by decide +kernel
theorem dX3_clear_17 : decode cX3_clear 17 = .ok (.putfield 29, 3) := by decide +kernel
theorem dX3_clear_20 : decode cX3_clear 20 = .ok (.aload_n 0, 1) := by decide +kernel
theorem dX3_clear_21 : decode cX3_clear 21 = .ok (.iconst 0, 1) := by decide +kernel
theorem dX3_clear_22 : decode cX3_clear 22 = .ok (.putfield 32, 3) := by decide +kernel
theorem dX3_clear_25 : decode cX3_clear 25 = .ok (.aload_n 0, 1) := by decide +kernel
theorem dX3_clear_26 : decode cX3_clear 26 = .ok (.getfield 9, 3) := by decide +kernel
theorem dX3_clear_29 : decode cX3_clear 29 = .ok (.iconst 0, 1) := by decide +kernel
theorem dX3_clear_30 : decode cX3_clear 30 = .ok (.bipush (-9), 2) := by decide +kernel
theorem dX3_clear_32 : decode cX3_clear 32 = .ok (.iastore, 1) := by decide +kernel
theorem dX3_clear_33 : decode cX3_clear 33 = .ok (.aload_n 0, 1) := by decide +kernel
theorem dX3_clear_34 : decode cX3_clear 34 = .ok (.getfield 9, 3) := by decide +kernel
theorem dX3_clear_37 : decode cX3_clear 37 = .ok (.iconst 1, 1) := by decide +kernel
theorem dX3_clear_38 : decode cX3_clear 38 = .ok (.bipush (-9), 2) := by decide +kernel
theorem dX3_clear_40 : decode cX3_clear 40 = .ok (.iastore, 1) := by decide +kernel
theorem dX3_clear_41 : decode cX3_clear 41 = .ok (.aload_n 0, 1) := by decide +kernel
theorem dX3_clear_42 : decode cX3_clear 42 = .ok (.getfield 9, 3) := by decide +kernel
theorem dX3_clear_45 : decode cX3_clear 45 = .ok (.iconst 2, 1) := by decide +kernel
theorem dX3_clear_46 : decode cX3_clear 46 = .ok (.bipush (-2), 2) := by decide +kernel
theorem dX3_clear_48 : decode cX3_clear 48 = .ok (.iastore, 1) := by decide +kernel
theorem dX3_clear_49 : decode cX3_clear 49 = .ok (.return_, 1) := by decide +kernel
theorem dX3_isOwn_0 : decode cX3_isOwn 0 = .ok (.aload_n 0, 1) := by decide +kernel
theorem dX3_isOwn_1 : decode cX3_isOwn 1 = .ok (.getfield 26, 3) := by decide +kernel
theorem dX3_isOwn_4 : decode cX3_isOwn 4 = .ok (.ifCond .ne 7, 3) := by decide +kernel
theorem dX3_isOwn_7 : decode cX3_isOwn 7 = .ok (.iconst 1, 1) := by decide +kernel
theorem dX3_isOwn_8 : decode cX3_isOwn 8 = .ok (.goto 4, 3) := by decide +kernel
theorem dX3_isOwn_11 : decode cX3_isOwn 11 = .ok (.iconst 0, 1) := by decide +kernel
theorem dX3_isOwn_12 : decode cX3_isOwn 12 = .ok (.ireturn, 1) := by decide +kernel
theorem dX3_isStatic_0 : decode cX3_isStatic 0 = .ok (.aload_n 0, 1) := by decide +kernel
theorem dX3_isStatic_1 : decode cX3_isStatic 1 = .ok (.getfield 29, 3) := by decide +kernel
theorem dX3_isStatic_4 : decode cX3_isStatic 4 = .ok (.iconst 1, 1) := by decide +kernel
theorem dX3_isStatic_5 : decode cX3_isStatic 5 = .ok (.if_icmp .ne 7, 3) := by decide +kernel
theorem dX3_isStatic_8 : decode cX3_isStatic 8 = .ok (.iconst 1, 1) := by decide +kernel
theorem dX3_isStatic_9 : decode cX3_isStatic 9 = .ok (.goto 4, 3) := by decide +kernel
theorem dX3_isStatic_12 : decode cX3_isStatic 12 = .ok (.iconst 0, 1) := by decide +kernel
theorem dX3_isStatic_13 : decode cX3_isStatic 13 = .ok (.ireturn, 1) := by decide +kernel
theorem dX3_isFree_0 : decode cX3_isFree 0 = .ok (.aload_n 0, 1) := by decide +kernel
theorem dX3_isFree_1 : decode cX3_isFree 1 = .ok (.getfield 26, 3) := by decide +kernel
theorem dX3_isFree_4 : decode cX3_isFree 4 = .ok (.ifCond .eq 15, 3) := by decide +kernel
theorem dX3_isFree_7 : decode cX3_isFree 7 = .ok (.aload_n 0, 1) := by decide +kernel
theorem dX3_isFree_8 : decode cX3_isFree 8 = .ok (.getfield 29, 3) := by decide +kernel
theorem dX3_isFree_11 : decode cX3_isFree 11 = .ok (.iconst 1, 1) := by decide +kernel
theorem dX3_isFree_12 : decode cX3_isFree 12 = .ok (.if_icmp .eq 7, 3) := by decide +kernel
theorem dX3_isFree_15 : decode cX3_isFree 15 = .ok (.iconst 1, 1) := by decide +kernel
theorem dX3_isFree_16 : decode cX3_isFree 16 = .ok (.goto 4, 3) := by decide +kernel
theorem dX3_isFree_19 : decode cX3_isFree 19 = .ok (.iconst 0, 1) := by decide +kernel
theorem dX3_isFree_20 : decode cX3_isFree 20 = .ok (.ireturn, 1) := by decide +kernel
theorem dX3_hasErasedKindsOf_0 : decode cX3_hasErasedKindsOf 0 = .ok (.aload_n 0, 1) := by decide +kernel
theorem dX3_hasErasedKindsOf_1 : decode cX3_hasErasedKindsOf 1 = .ok (.getfield 22, 3) := by decide +kernel
theorem dX3_hasErasedKindsOf_4 : decode cX3_hasErasedKindsOf 4 = .ok (.aload_n 1, 1) := by decide +kernel
theorem dX3_hasErasedKindsOf_5 : decode cX3_hasErasedKindsOf 5 = .ok (.getfield 22, 3) := by decide +kernel
theorem dX3_hasErasedKindsOf_8 : decode cX3_hasErasedKindsOf 8 = .ok (.lcmp, 1) := by decide +kernel
theorem dX3_hasErasedKindsOf_9 : decode cX3_hasErasedKindsOf 9 = .ok (.ifCond .ne 37, 3) := by decide +kernel
theorem dX3_hasErasedKindsOf_12 : decode cX3_hasErasedKindsOf 12 = .ok (.aload_n 0, 1) := by decide +kernel
theorem dX3_hasErasedKindsOf_13 : decode cX3_hasErasedKindsOf 13 = .ok (.getfield 15, 3) := by decide +kernel
theorem dX3_hasErasedKindsOf_16 : decode cX3_hasErasedKindsOf 16 = .ok (.iconst 0, 1) := by decide +kernel
theorem dX3_hasErasedKindsOf_17 : decode cX3_hasErasedKindsOf 17 = .ok (.iaload, 1) := by decide +kernel
theorem dX3_hasErasedKindsOf_18 : decode cX3_hasErasedKindsOf 18 = .ok (.aload_n 1, 1) := by decide +kernel
theorem dX3_hasErasedKindsOf_19 : decode cX3_hasErasedKindsOf 19 = .ok (.getfield 15, 3) := by decide +kernel
theorem dX3_hasErasedKindsOf_22 : decode cX3_hasErasedKindsOf 22 = .ok (.iconst 0, 1) := by decide +kernel
theorem dX3_hasErasedKindsOf_23 : decode cX3_hasErasedKindsOf 23 = .ok (.iaload, 1) := by decide +kernel
theorem dX3_hasErasedKindsOf_24 : decode cX3_hasErasedKindsOf 24 = .ok (.if_icmp .ne 22, 3) := by decide +kernel
theorem dX3_hasErasedKindsOf_27 : decode cX3_hasErasedKindsOf 27 = .ok (.aload_n 0, 1) := by decide +kernel
theorem dX3_hasErasedKindsOf_28 : decode cX3_hasErasedKindsOf 28 = .ok (.getfield 15, 3) := by decide +kernel
theorem dX3_hasErasedKindsOf_31 : decode cX3_hasErasedKindsOf 31 = .ok (.iconst 1, 1) := by decide +kernel
theorem dX3_hasErasedKindsOf_32 : decode cX3_hasErasedKindsOf 32 = .ok (.iaload, 1) := by decide +kernel
theorem dX3_hasErasedKindsOf_33 : decode cX3_hasErasedKindsOf 33 = .ok (.aload_n 1, 1) := by decide +kernel
theorem dX3_hasErasedKindsOf_34 : decode cX3_hasErasedKindsOf 34 = .ok (.getfield 15, 3) := by decide +kernel
theorem dX3_hasErasedKindsOf_37 : decode cX3_hasErasedKindsOf 37 = .ok (.iconst 1, 1) := by decide +kernel
theorem dX3_hasErasedKindsOf_38 : decode cX3_hasErasedKindsOf 38 = .ok (.iaload, 1) := by decide +kernel
theorem dX3_hasErasedKindsOf_39 : decode cX3_hasErasedKindsOf 39 = .ok (.if_icmp .ne 7, 3) := by decide +kernel
theorem dX3_hasErasedKindsOf_42 : decode cX3_hasErasedKindsOf 42 = .ok (.iconst 1, 1) := by decide +kernel
theorem dX3_hasErasedKindsOf_43 : decode cX3_hasErasedKindsOf 43 = .ok (.goto 4, 3) := by decide +kernel
theorem dX3_hasErasedKindsOf_46 : decode cX3_hasErasedKindsOf 46 = .ok (.iconst 0, 1) := by decide +kernel
theorem dX3_hasErasedKindsOf_47 : decode cX3_hasErasedKindsOf 47 = .ok (.ireturn, 1) := by decide +kernel
