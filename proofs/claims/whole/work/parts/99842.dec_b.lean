theorem dX4_init_0 : decode cX4_init 0 = .ok (.aload_n 0, 1) := by decide +kernel
theorem dX4_init_1 : decode cX4_init 1 = .ok (.invokespecial 3, 3) := by decide +kernel
theorem dX4_init_4 : decode cX4_init 4 = .ok (.aload_n 0, 1) := by decide +kernel
theorem dX4_init_5 : decode cX4_init 5 = .ok (.sipush 572, 3) := by decide +kernel
theorem dX4_init_8 : decode cX4_init 8 = .ok (.newarray .long, 2) := by decide +kernel
theorem dX4_init_10 : decode cX4_init 10 = .ok (.putfield 9, 3) := by decide +kernel
theorem dX4_init_13 : decode cX4_init 13 = .ok (.aload_n 0, 1) := by decide +kernel
theorem dX4_init_14 : decode cX4_init 14 = .ok (.aload_n 1, 1) := by decide +kernel
theorem dX4_init_15 : decode cX4_init 15 = .ok (.putfield 15, 3) := by decide +kernel
theorem dX4_init_18 : decode cX4_init 18 = .ok (.aload_n 0, 1) := by decide +kernel
theorem dX4_init_19 : decode cX4_init 19 = .ok (.aload_n 2, 1) := by decide +kernel
theorem dX4_init_20 : decode cX4_init 20 = .ok (.putfield 19, 3) := by decide +kernel
theorem dX4_init_23 : decode cX4_init 23 = .ok (.aload_n 0, 1) := by decide +kernel
theorem dX4_init_24 : decode cX4_init 24 = .ok (.new 23, 3) := by decide +kernel
theorem dX4_init_27 : decode cX4_init 27 = .ok (.dup, 1) := by decide +kernel
theorem dX4_init_28 : decode cX4_init 28 = .ok (.aload_n 2, 1) := by decide +kernel
theorem dX4_init_29 : decode cX4_init 29 = .ok (.invokespecial 25, 3) := by decide +kernel
theorem dX4_init_32 : decode cX4_init 32 = .ok (.putfield 28, 3) := by decide +kernel
theorem dX4_init_35 : decode cX4_init 35 = .ok (.aload_n 0, 1) := by decide +kernel
theorem dX4_init_36 : decode cX4_init 36 = .ok (.aload_n 2, 1) := by decide +kernel
theorem dX4_init_37 : decode cX4_init 37 = .ok (.getfield 32, 3) := by decide +kernel
theorem dX4_init_40 : decode cX4_init 40 = .ok (.iconst 0, 1) := by decide +kernel
theorem dX4_init_41 : decode cX4_init 41 = .ok (.aaload, 1) := by decide +kernel
theorem dX4_init_42 : decode cX4_init 42 = .ok (.putfield 38, 3) := by decide +kernel
theorem dX4_init_45 : decode cX4_init 45 = .ok (.aload_n 0, 1) := by decide +kernel
theorem dX4_init_46 : decode cX4_init 46 = .ok (.aload_n 2, 1) := by decide +kernel
theorem dX4_init_47 : decode cX4_init 47 = .ok (.getfield 42, 3) := by decide +kernel
theorem dX4_init_50 : decode cX4_init 50 = .ok (.iconst 0, 1) := by decide +kernel
theorem dX4_init_51 : decode cX4_init 51 = .ok (.aaload, 1) := by decide +kernel
theorem dX4_init_52 : decode cX4_init 52 = .ok (.putfield 46, 3) := by decide +kernel
theorem dX4_init_55 : decode cX4_init 55 = .ok (.return_, 1) := by decide +kernel
theorem dX4_read_0 : decode cX4_read 0 = .ok (.aload_n 0, 1) := by decide +kernel
theorem dX4_read_1 : decode cX4_read 1 = .ok (.aload_n 1, 1) := by decide +kernel
theorem dX4_read_2 : decode cX4_read 2 = .ok (.putfield 19, 3) := by decide +kernel
theorem dX4_read_5 : decode cX4_read 5 = .ok (.aload_n 0, 1) := by decide +kernel
theorem dX4_read_6 : decode cX4_read 6 = .ok (.getfield 19, 3) := by decide +kernel
theorem dX4_read_9 : decode cX4_read 9 = .ok (.invokevirtual 50, 3) := by decide +kernel
theorem dX4_read_12 : decode cX4_read 12 = .ok (.aload_n 0, 1) := by decide +kernel
theorem dX4_read_13 : decode cX4_read 13 = .ok (.invokevirtual 53, 3) := by decide +kernel
theorem dX4_read_16 : decode cX4_read 16 = .ok (.iconst 1, 1) := by decide +kernel
theorem dX4_read_17 : decode cX4_read 17 = .ok (.istore_n 2, 1) := by decide +kernel
theorem dX4_read_18 : decode cX4_read 18 = .ok (.iconst 0, 1) := by decide +kernel
theorem dX4_read_19 : decode cX4_read 19 = .ok (.istore_n 3, 1) := by decide +kernel
theorem dX4_read_20 : decode cX4_read 20 = .ok (.iload_n 3, 1) := by decide +kernel
theorem dX4_read_21 : decode cX4_read 21 = .ok (.sipush 4000, 3) := by decide +kernel
theorem dX4_read_24 : decode cX4_read 24 = .ok (.if_icmp .gt 118, 3) := by decide +kernel
theorem dX4_read_27 : decode cX4_read 27 = .ok (.iload_n 2, 1) := by decide +kernel
theorem dX4_read_28 : decode cX4_read 28 = .ok (.ifCond .eq 114, 3) := by decide +kernel
theorem dX4_read_31 : decode cX4_read 31 = .ok (.aload_n 0, 1) := by decide +kernel
theorem dX4_read_32 : decode cX4_read 32 = .ok (.getfield 56, 3) := by decide +kernel
theorem dX4_read_35 : decode cX4_read 35 = .ok (.ifCond .ne 12, 3) := by decide +kernel
theorem dX4_read_38 : decode cX4_read 38 = .ok (.aload_n 0, 1) := by decide +kernel
theorem dX4_read_39 : decode cX4_read 39 = .ok (.getfield 60, 3) := by decide +kernel
theorem dX4_read_42 : decode cX4_read 42 = .ok (.ifCond .ne 5, 3) := by decide +kernel
theorem dX4_read_45 : decode cX4_read 45 = .ok (.iconst 1, 1) := by decide +kernel
theorem dX4_read_46 : decode cX4_read 46 = .ok (.ireturn, 1) := by decide +kernel
theorem dX4_read_47 : decode cX4_read 47 = .ok (.aload_n 0, 1) := by decide +kernel
theorem dX4_read_48 : decode cX4_read 48 = .ok (.getfield 56, 3) := by decide +kernel
theorem dX4_read_51 : decode cX4_read 51 = .ok (.tableswitch 80 1 3 #[25, 33, 56], 25) := by decide +kernel
theorem dX4_read_76 : decode cX4_read 76 = .ok (.aload_n 0, 1) := by decide +kernel
theorem dX4_read_77 : decode cX4_read 77 = .ok (.invokevirtual 63, 3) := by decide +kernel
theorem dX4_read_80 : decode cX4_read 80 = .ok (.istore_n 2, 1) := by decide +kernel
theorem dX4_read_81 : decode cX4_read 81 = .ok (.goto 55, 3) := by decide +kernel
theorem dX4_read_84 : decode cX4_read 84 = .ok (.aload_n 0, 1) := by decide +kernel
theorem dX4_read_85 : decode cX4_read 85 = .ok (.invokevirtual 67, 3) := by decide +kernel
theorem dX4_read_88 : decode cX4_read 88 = .ok (.ifCond .eq 14, 3) := by decide +kernel
theorem dX4_read_91 : decode cX4_read 91 = .ok (.aload_n 0, 1) := by decide +kernel
theorem dX4_read_92 : decode cX4_read 92 = .ok (.invokevirtual 70, 3) := by decide +kernel
theorem dX4_read_95 : decode cX4_read 95 = .ok (.ifCond .eq 7, 3) := by decide +kernel
theorem dX4_read_98 : decode cX4_read 98 = .ok (.iconst 1, 1) := by decide +kernel
theorem dX4_read_99 : decode cX4_read 99 = .ok (.goto 4, 3) := by decide +kernel
theorem dX4_read_102 : decode cX4_read 102 = .ok (.iconst 0, 1) := by decide +kernel
theorem dX4_read_103 : decode cX4_read 103 = .ok (.istore_n 2, 1) := by decide +kernel
theorem dX4_read_104 : decode cX4_read 104 = .ok (.goto 32, 3) := by decide +kernel
theorem dX4_read_107 : decode cX4_read 107 = .ok (.aload_n 0, 1) := by decide +kernel
theorem dX4_read_108 : decode cX4_read 108 = .ok (.getfield 60, 3) := by decide +kernel
theorem dX4_read_111 : decode cX4_read 111 = .ok (.bipush 125, 2) := by decide +kernel
theorem dX4_read_113 : decode cX4_read 113 = .ok (.if_icmp .ne 10, 3) := by decide +kernel
theorem dX4_read_116 : decode cX4_read 116 = .ok (.aload_n 0, 1) := by decide +kernel
theorem dX4_read_117 : decode cX4_read 117 = .ok (.invokevirtual 73, 3) := by decide +kernel
theorem dX4_read_120 : decode cX4_read 120 = .ok (.goto 7, 3) := by decide +kernel
theorem dX4_read_123 : decode cX4_read 123 = .ok (.aload_n 0, 1) := by decide +kernel
theorem dX4_read_124 : decode cX4_read 124 = .ok (.invokevirtual 76, 3) := by decide +kernel
theorem dX4_read_127 : decode cX4_read 127 = .ok (.istore_n 2, 1) := by decide +kernel
theorem dX4_read_128 : decode cX4_read 128 = .ok (.goto 8, 3) := by decide +kernel
theorem dX4_read_131 : decode cX4_read 131 = .ok (.aload_n 0, 1) := by decide +kernel
theorem dX4_read_132 : decode cX4_read 132 = .ok (.invokevirtual 79, 3) := by decide +kernel
theorem dX4_read_135 : decode cX4_read 135 = .ok (.istore_n 2, 1) := by decide +kernel
theorem dX4_read_136 : decode cX4_read 136 = .ok (.iinc 3 1, 3) := by decide +kernel
theorem dX4_read_139 : decode cX4_read 139 = .ok (.goto (-119), 3) := by decide +kernel
theorem dX4_read_142 : decode cX4_read 142 = .ok (.iconst 0, 1) := by decide +kernel
theorem dX4_read_143 : decode cX4_read 143 = .ok (.ireturn, 1) := by decide +kernel
theorem dX4_start_0 : decode cX4_start 0 = .ok (.aload_n 0, 1) := by decide +kernel
theorem dX4_start_1 : decode cX4_start 1 = .ok (.iconst 0, 1) := by decide +kernel
theorem dX4_start_2 : decode cX4_start 2 = .ok (.putfield 82, 3) := by decide +kernel
theorem dX4_start_5 : decode cX4_start 5 = .ok (.aload_n 0, 1) := by decide +kernel
theorem dX4_start_6 : decode cX4_start 6 = .ok (.aload_n 0, 1) := by decide +kernel
theorem dX4_start_7 : decode cX4_start 7 = .ok (.getfield 15, 3) := by decide +kernel
theorem dX4_start_10 : decode cX4_start 10 = .ok (.getfield 85, 3) := by decide +kernel
theorem dX4_start_13 : decode cX4_start 13 = .ok (.iconst 0, 1) := by decide +kernel
theorem dX4_start_14 : decode cX4_start 14 = .ok (.iaload, 1) := by decide +kernel
theorem dX4_start_15 : decode cX4_start 15 = .ok (.putfield 60, 3) := by decide +kernel
theorem dX4_start_18 : decode cX4_start 18 = .ok (.aload_n 0, 1) := by decide +kernel
theorem dX4_start_19 : decode cX4_start 19 = .ok (.aload_n 0, 1) := by decide +kernel
theorem dX4_start_20 : decode cX4_start 20 = .ok (.getfield 15, 3) := by decide +kernel
theorem dX4_start_23 : decode cX4_start 23 = .ok (.getfield 91, 3) := by decide +kernel
theorem dX4_start_26 : decode cX4_start 26 = .ok (.iconst 0, 1) := by decide +kernel
theorem dX4_start_27 : decode cX4_start 27 = .ok (.laload, 1) := by decide +kernel
theorem dX4_start_28 : decode cX4_start 28 = .ok (.putfield 94, 3) := by decide +kernel
theorem dX4_start_31 : decode cX4_start 31 = .ok (.aload_n 0, 1) := by decide +kernel
theorem dX4_start_32 : decode cX4_start 32 = .ok (.iconst 0, 1) := by decide +kernel
theorem dX4_start_33 : decode cX4_start 33 = .ok (.putfield 98, 3) := by decide +kernel
theorem dX4_start_36 : decode cX4_start 36 = .ok (.aload_n 0, 1) := by decide +kernel
theorem dX4_start_37 : decode cX4_start 37 = .ok (.iconst 0, 1) := by decide +kernel
theorem dX4_start_38 : decode cX4_start 38 = .ok (.putfield 101, 3) := by decide +kernel
theorem dX4_start_41 : decode cX4_start 41 = .ok (.aload_n 0, 1) := by decide +kernel
theorem dX4_start_42 : decode cX4_start 42 = .ok (.iconst 0, 1) := by decide +kernel
theorem dX4_start_43 : decode cX4_start 43 = .ok (.putfield 104, 3) := by decide +kernel
theorem dX4_start_46 : decode cX4_start 46 = .ok (.aload_n 0, 1) := by decide +kernel
theorem dX4_start_47 : decode cX4_start 47 = .ok (.iconst 0, 1) := by decide +kernel
theorem dX4_start_48 : decode cX4_start 48 = .ok (.putfield 107, 3) := by decide +kernel
theorem dX4_start_51 : decode cX4_start 51 = .ok (.aload_n 0, 1) := by decide +kernel
theorem dX4_start_52 : decode cX4_start 52 = .ok (.iconst 0, 1) := by decide +kernel
theorem dX4_start_53 : decode cX4_start 53 = .ok (.putfield 56, 3) := by decide +kernel
theorem dX4_start_56 : decode cX4_start 56 = .ok (.return_, 1) := by decide +kernel
theorem dX4_readItem_0 : decode cX4_readItem 0 = .ok (.aload_n 0, 1) := by decide +kernel
theorem dX4_readItem_1 : decode cX4_readItem 1 = .ok (.getfield 60, 3) := by decide +kernel
theorem dX4_readItem_4 : decode cX4_readItem 4 = .ok (.tableswitch 75 200 210 #[60, 65, 70, 70, 75, 75, 75, 75, 75, 75, 70], 60) := by decide +kernel
theorem dX4_readItem_64 : decode cX4_readItem 64 = .ok (.aload_n 0, 1) := by decide +kernel
theorem dX4_readItem_65 : decode cX4_readItem 65 = .ok (.invokevirtual 110, 3) := by decide +kernel
theorem dX4_readItem_68 : decode cX4_readItem 68 = .ok (.ireturn, 1) := by decide +kernel
theorem dX4_readItem_69 : decode cX4_readItem 69 = .ok (.aload_n 0, 1) := by decide +kernel
theorem dX4_readItem_70 : decode cX4_readItem 70 = .ok (.invokevirtual 113, 3) := by decide +kernel
theorem dX4_readItem_73 : decode cX4_readItem 73 = .ok (.ireturn, 1) := by decide +kernel
theorem dX4_readItem_74 : decode cX4_readItem 74 = .ok (.aload_n 0, 1) := by decide +kernel
theorem dX4_readItem_75 : decode cX4_readItem 75 = .ok (.invokevirtual 116, 3) := by decide +kernel
theorem dX4_readItem_78 : decode cX4_readItem 78 = .ok (.ireturn, 1) := by decide +kernel
theorem dX4_readItem_79 : decode cX4_readItem 79 = .ok (.aload_n 0, 1) := by decide +kernel
theorem dX4_readItem_80 : decode cX4_readItem 80 = .ok (.invokevirtual 119, 3) := by decide +kernel
theorem dX4_readItem_83 : decode cX4_readItem 83 = .ok (.ireturn, 1) := by decide +kernel
theorem dX4_closeType_0 : decode cX4_closeType 0 = .ok (.aload_n 0, 1) := by decide +kernel
theorem dX4_closeType_1 : decode cX4_closeType 1 = .ok (.getfield 28, 3) := by decide +kernel
theorem dX4_closeType_4 : decode cX4_closeType 4 = .ok (.aload_n 0, 1) := by decide +kernel
theorem dX4_closeType_5 : decode cX4_closeType 5 = .ok (.getfield 19, 3) := by decide +kernel
theorem dX4_closeType_8 : decode cX4_closeType 8 = .ok (.aload_n 0, 1) := by decide +kernel
theorem dX4_closeType_9 : decode cX4_closeType 9 = .ok (.getfield 38, 3) := by decide +kernel
theorem dX4_closeType_12 : decode cX4_closeType 12 = .ok (.invokevirtual 122, 3) := by decide +kernel
theorem dX4_closeType_15 : decode cX4_closeType 15 = .ok (.istore_n 1, 1) := by decide +kernel
theorem dX4_closeType_16 : decode cX4_closeType 16 = .ok (.iload_n 1, 1) := by decide +kernel
theorem dX4_closeType_17 : decode cX4_closeType 17 = .ok (.ifCond .eq 9, 3) := by decide +kernel
theorem dX4_closeType_20 : decode cX4_closeType 20 = .ok (.aload_n 0, 1) := by decide +kernel
theorem dX4_closeType_21 : decode cX4_closeType 21 = .ok (.iload_n 1, 1) := by decide +kernel
theorem dX4_closeType_22 : decode cX4_closeType 22 = .ok (.invokevirtual 126, 3) := by decide +kernel
theorem dX4_closeType_25 : decode cX4_closeType 25 = .ok (.ireturn, 1) := by decide +kernel
theorem dX4_closeType_26 : decode cX4_closeType 26 = .ok (.aload_n 0, 1) := by decide +kernel
theorem dX4_closeType_27 : decode cX4_closeType 27 = .ok (.iconst 0, 1) := by decide +kernel
theorem dX4_closeType_28 : decode cX4_closeType 28 = .ok (.putfield 56, 3) := by decide +kernel
theorem dX4_closeType_31 : decode cX4_closeType 31 = .ok (.aload_n 0, 1) := by decide +kernel
theorem dX4_closeType_32 : decode cX4_closeType 32 = .ok (.invokevirtual 130, 3) := by decide +kernel
theorem dX4_closeType_35 : decode cX4_closeType 35 = .ok (.iconst 1, 1) := by decide +kernel
theorem dX4_closeType_36 : decode cX4_closeType 36 = .ok (.ireturn, 1) := by decide +kernel
theorem dX4_advance_0 : decode cX4_advance 0 = .ok (.aload_n 0, 1) := by decide +kernel
theorem dX4_advance_1 : decode cX4_advance 1 = .ok (.getfield 82, 3) := by decide +kernel
theorem dX4_advance_4 : decode cX4_advance 4 = .ok (.aload_n 0, 1) := by decide +kernel
theorem dX4_advance_5 : decode cX4_advance 5 = .ok (.getfield 15, 3) := by decide +kernel
theorem dX4_advance_8 : decode cX4_advance 8 = .ok (.getfield 133, 3) := by decide +kernel
theorem dX4_advance_11 : decode cX4_advance 11 = .ok (.iconst 1, 1) := by decide +kernel
theorem dX4_advance_12 : decode cX4_advance 12 = .ok (.isub, 1) := by decide +kernel
theorem dX4_advance_13 : decode cX4_advance 13 = .ok (.if_icmp .ge 13, 3) := by decide +kernel
theorem dX4_advance_16 : decode cX4_advance 16 = .ok (.aload_n 0, 1) := by decide +kernel
theorem dX4_advance_17 : decode cX4_advance 17 = .ok (.dup, 1) := by decide +kernel
theorem dX4_advance_18 : decode cX4_advance 18 = .ok (.getfield 82, 3) := by decide +kernel
theorem dX4_advance_21 : decode cX4_advance 21 = .ok (.iconst 1, 1) := by decide +kernel
theorem dX4_advance_22 : decode cX4_advance 22 = .ok (.iadd, 1) := by decide +kernel
theorem dX4_advance_23 : decode cX4_advance 23 = .ok (.putfield 82, 3) := by decide +kernel
theorem dX4_advance_26 : decode cX4_advance 26 = .ok (.aload_n 0, 1) := by decide +kernel
theorem dX4_advance_27 : decode cX4_advance 27 = .ok (.aload_n 0, 1) := by decide +kernel
theorem dX4_advance_28 : decode cX4_advance 28 = .ok (.getfield 15, 3) := by decide +kernel
theorem dX4_advance_31 : decode cX4_advance 31 = .ok (.getfield 85, 3) := by decide +kernel
theorem dX4_advance_34 : decode cX4_advance 34 = .ok (.aload_n 0, 1) := by decide +kernel
theorem dX4_advance_35 : decode cX4_advance 35 = .ok (.getfield 82, 3) := by decide +kernel
theorem dX4_advance_38 : decode cX4_advance 38 = .ok (.iaload, 1) := by decide +kernel
theorem dX4_advance_39 : decode cX4_advance 39 = .ok (.putfield 60, 3) := by decide +kernel
theorem dX4_advance_42 : decode cX4_advance 42 = .ok (.aload_n 0, 1) := by decide +kernel
theorem dX4_advance_43 : decode cX4_advance 43 = .ok (.aload_n 0, 1) := by decide +kernel
theorem dX4_advance_44 : decode cX4_advance 44 = .ok (.getfield 15, 3) := by decide +kernel
theorem dX4_advance_47 : decode cX4_advance 47 = .ok (.getfield 91, 3) := by decide +kernel
theorem dX4_advance_50 : decode cX4_advance 50 = .ok (.aload_n 0, 1) := by decide +kernel
theorem dX4_advance_51 : decode cX4_advance 51 = .ok (.getfield 82, 3) := by decide +kernel
theorem dX4_advance_54 : decode cX4_advance 54 = .ok (.laload, 1) := by decide +kernel
theorem dX4_advance_55 : decode cX4_advance 55 = .ok (.putfield 94, 3) := by decide +kernel
theorem dX4_advance_58 : decode cX4_advance 58 = .ok (.return_, 1) := by decide +kernel
theorem dX4_take_0 : decode cX4_take 0 = .ok (.aload_n 0, 1) := by decide +kernel
theorem dX4_take_1 : decode cX4_take 1 = .ok (.getfield 60, 3) := by decide +kernel
theorem dX4_take_4 : decode cX4_take 4 = .ok (.iload_n 1, 1) := by decide +kernel
theorem dX4_take_5 : decode cX4_take 5 = .ok (.if_icmp .eq 8, 3) := by decide +kernel
theorem dX4_take_8 : decode cX4_take 8 = .ok (.aload_n 0, 1) := by decide +kernel
theorem dX4_take_9 : decode cX4_take 9 = .ok (.invokevirtual 119, 3) := by decide +kernel
theorem dX4_take_12 : decode cX4_take 12 = .ok (.ireturn, 1) := by decide +kernel
theorem dX4_take_13 : decode cX4_take 13 = .ok (.aload_n 0, 1) := by decide +kernel
theorem dX4_take_14 : decode cX4_take 14 = .ok (.invokevirtual 130, 3) := by decide +kernel
theorem dX4_take_17 : decode cX4_take 17 = .ok (.iconst 1, 1) := by decide +kernel
theorem dX4_take_18 : decode cX4_take 18 = .ok (.ireturn, 1) := by decide +kernel
theorem dX4_misfit_0 : decode cX4_misfit 0 = .ok (.aload_n 0, 1) := by decide +kernel
theorem dX4_misfit_1 : decode cX4_misfit 1 = .ok (.aload_n 0, 1) := by decide +kernel
theorem dX4_misfit_2 : decode cX4_misfit 2 = .ok (.getfield 60, 3) := by decide +kernel
theorem dX4_misfit_5 : decode cX4_misfit 5 = .ok (.iconst 1, 1) := by decide +kernel
theorem dX4_misfit_6 : decode cX4_misfit 6 = .ok (.if_icmp .ne 7, 3) := by decide +kernel
theorem dX4_misfit_9 : decode cX4_misfit 9 = .ok (.iconst 1, 1) := by decide +kernel
theorem dX4_misfit_10 : decode cX4_misfit 10 = .ok (.goto 4, 3) := by decide +kernel
theorem dX4_misfit_13 : decode cX4_misfit 13 = .ok (.iconst 2, 1) := by decide +kernel
theorem dX4_misfit_14 : decode cX4_misfit 14 = .ok (.invokevirtual 126, 3) := by decide +kernel
theorem dX4_misfit_17 : decode cX4_misfit 17 = .ok (.ireturn, 1) := by decide +kernel
theorem dX4_fail_0 : decode cX4_fail 0 = .ok (.aload_n 0, 1) := by decide +kernel
theorem dX4_fail_1 : decode cX4_fail 1 = .ok (.iload_n 1, 1) := by decide +kernel
theorem dX4_fail_2 : decode cX4_fail 2 = .ok (.putfield 98, 3) := by decide +kernel
theorem dX4_fail_5 : decode cX4_fail 5 = .ok (.aload_n 0, 1) := by decide +kernel
theorem dX4_fail_6 : decode cX4_fail 6 = .ok (.aload_n 0, 1) := by decide +kernel
theorem dX4_fail_7 : decode cX4_fail 7 = .ok (.getfield 15, 3) := by decide +kernel
theorem dX4_fail_10 : decode cX4_fail 10 = .ok (.getfield 136, 3) := by decide +kernel
theorem dX4_fail_13 : decode cX4_fail 13 = .ok (.aload_n 0, 1) := by decide +kernel
theorem dX4_fail_14 : decode cX4_fail 14 = .ok (.getfield 82, 3) := by decide +kernel
theorem dX4_fail_17 : decode cX4_fail 17 = .ok (.iaload, 1) := by decide +kernel
theorem dX4_fail_18 : decode cX4_fail 18 = .ok (.putfield 101, 3) := by decide +kernel
theorem dX4_fail_21 : decode cX4_fail 21 = .ok (.iconst 0, 1) := by decide +kernel
theorem dX4_fail_22 : decode cX4_fail 22 = .ok (.ireturn, 1) := by decide +kernel
theorem dX4_readPack_0 : decode cX4_readPack 0 = .ok (.aload_n 0, 1) := by decide +kernel
theorem dX4_readPack_1 : decode cX4_readPack 1 = .ok (.invokevirtual 130, 3) := by decide +kernel
theorem dX4_readPack_4 : decode cX4_readPack 4 = .ok (.aload_n 0, 1) := by decide +kernel
theorem dX4_readPack_5 : decode cX4_readPack 5 = .ok (.getfield 60, 3) := by decide +kernel
theorem dX4_readPack_8 : decode cX4_readPack 8 = .ok (.iconst 2, 1) := by decide +kernel
theorem dX4_readPack_9 : decode cX4_readPack 9 = .ok (.if_icmp .eq 8, 3) := by decide +kernel
theorem dX4_readPack_12 : decode cX4_readPack 12 = .ok (.aload_n 0, 1) := by decide +kernel
theorem dX4_readPack_13 : decode cX4_readPack 13 = .ok (.invokevirtual 119, 3) := by decide +kernel
theorem dX4_readPack_16 : decode cX4_readPack 16 = .ok (.ireturn, 1) := by decide +kernel
theorem dX4_readPack_17 : decode cX4_readPack 17 = .ok (.aload_n 0, 1) := by decide +kernel
theorem dX4_readPack_18 : decode cX4_readPack 18 = .ok (.aload_n 0, 1) := by decide +kernel
theorem dX4_readPack_19 : decode cX4_readPack 19 = .ok (.aload_n 0, 1) := by decide +kernel
theorem dX4_readPack_20 : decode cX4_readPack 20 = .ok (.getfield 94, 3) := by decide +kernel
theorem dX4_readPack_23 : decode cX4_readPack 23 = .ok (.invokevirtual 139, 3) := by decide +kernel
theorem dX4_readPack_26 : decode cX4_readPack 26 = .ok (.putfield 104, 3) := by decide +kernel
theorem dX4_readPack_29 : decode cX4_readPack 29 = .ok (.aload_n 0, 1) := by decide +kernel
theorem dX4_readPack_30 : decode cX4_readPack 30 = .ok (.invokevirtual 130, 3) := by decide +kernel
theorem dX4_readPack_33 : decode cX4_readPack 33 = .ok (.aload_n 0, 1) := by decide +kernel
theorem dX4_readPack_34 : decode cX4_readPack 34 = .ok (.bipush 59, 2) := by decide +kernel
theorem dX4_readPack_36 : decode cX4_readPack 36 = .ok (.invokevirtual 143, 3) := by decide +kernel
theorem dX4_readPack_39 : decode cX4_readPack 39 = .ok (.ireturn, 1) := by decide +kernel
theorem dX4_packNumber_0 : decode cX4_packNumber 0 = .ok (.iconst 0, 1) := by decide +kernel
theorem dX4_packNumber_1 : decode cX4_packNumber 1 = .ok (.istore_n 3, 1) := by decide +kernel
theorem dX4_packNumber_2 : decode cX4_packNumber 2 = .ok (.iload_n 3, 1) := by decide +kernel
theorem dX4_packNumber_3 : decode cX4_packNumber 3 = .ok (.aload_n 0, 1) := by decide +kernel
theorem dX4_packNumber_4 : decode cX4_packNumber 4 = .ok (.getfield 19, 3) := by decide +kernel
theorem dX4_packNumber_7 : decode cX4_packNumber 7 = .ok (.getfield 146, 3) := by decide +kernel
theorem dX4_packNumber_10 : decode cX4_packNumber 10 = .ok (.if_icmp .ge 24, 3) := by decide +kernel
theorem dX4_packNumber_13 : decode cX4_packNumber 13 = .ok (.aload_n 0, 1) := by decide +kernel
theorem dX4_packNumber_14 : decode cX4_packNumber 14 = .ok (.getfield 9, 3) := by decide +kernel
theorem dX4_packNumber_17 : decode cX4_packNumber 17 = .ok (.iload_n 3, 1) := by decide +kernel
theorem dX4_packNumber_18 : decode cX4_packNumber 18 = .ok (.laload, 1) := by decide +kernel
theorem dX4_packNumber_19 : decode cX4_packNumber 19 = .ok (.lload_n 1, 1) := by decide +kernel
theorem dX4_packNumber_20 : decode cX4_packNumber 20 = .ok (.lcmp, 1) := by decide +kernel
theorem dX4_packNumber_21 : decode cX4_packNumber 21 = .ok (.ifCond .ne 7, 3) := by decide +kernel
theorem dX4_packNumber_24 : decode cX4_packNumber 24 = .ok (.iload_n 3, 1) := by decide +kernel
theorem dX4_packNumber_25 : decode cX4_packNumber 25 = .ok (.iconst 1, 1) := by decide +kernel
theorem dX4_packNumber_26 : decode cX4_packNumber 26 = .ok (.iadd, 1) := by decide +kernel
theorem dX4_packNumber_27 : decode cX4_packNumber 27 = .ok (.ireturn, 1) := by decide +kernel
theorem dX4_packNumber_28 : decode cX4_packNumber 28 = .ok (.iinc 3 1, 3) := by decide +kernel
theorem dX4_packNumber_31 : decode cX4_packNumber 31 = .ok (.goto (-29), 3) := by decide +kernel
theorem dX4_packNumber_34 : decode cX4_packNumber 34 = .ok (.aload_n 0, 1) := by decide +kernel
theorem dX4_packNumber_35 : decode cX4_packNumber 35 = .ok (.getfield 19, 3) := by decide +kernel
theorem dX4_packNumber_38 : decode cX4_packNumber 38 = .ok (.getfield 146, 3) := by decide +kernel
theorem dX4_packNumber_41 : decode cX4_packNumber 41 = .ok (.aload_n 0, 1) := by decide +kernel
theorem dX4_packNumber_42 : decode cX4_packNumber 42 = .ok (.getfield 9, 3) := by decide +kernel
theorem dX4_packNumber_45 : decode cX4_packNumber 45 = .ok (.arraylength, 1) := by decide +kernel
theorem dX4_packNumber_46 : decode cX4_packNumber 46 = .ok (.if_icmp .ge 29, 3) := by decide +kernel
theorem dX4_packNumber_49 : decode cX4_packNumber 49 = .ok (.aload_n 0, 1) := by decide +kernel
theorem dX4_packNumber_50 : decode cX4_packNumber 50 = .ok (.getfield 9, 3) := by decide +kernel
theorem dX4_packNumber_53 : decode cX4_packNumber 53 = .ok (.aload_n 0, 1) := by decide +kernel
theorem dX4_packNumber_54 : decode cX4_packNumber 54 = .ok (.getfield 19, 3) := by decide +kernel
theorem dX4_packNumber_57 : decode cX4_packNumber 57 = .ok (.getfield 146, 3) := by decide +kernel
theorem dX4_packNumber_60 : decode cX4_packNumber 60 = .ok (.lload_n 1, 1) := by decide +kernel
theorem dX4_packNumber_61 : decode cX4_packNumber 61 = .ok (.lastore, 1) := by decide +kernel
theorem dX4_packNumber_62 : decode cX4_packNumber 62 = .ok (.aload_n 0, 1) := by decide +kernel
theorem dX4_packNumber_63 : decode cX4_packNumber 63 = .ok (.getfield 19, 3) := by decide +kernel
theorem dX4_packNumber_66 : decode cX4_packNumber 66 = .ok (.dup, 1) := by decide +kernel
theorem dX4_packNumber_67 : decode cX4_packNumber 67 = .ok (.getfield 146, 3) := by decide +kernel
theorem dX4_packNumber_70 : decode cX4_packNumber 70 = .ok (.iconst 1, 1) := by decide +kernel
theorem dX4_packNumber_71 : decode cX4_packNumber 71 = .ok (.iadd, 1) := by decide +kernel
theorem dX4_packNumber_72 : decode cX4_packNumber 72 = .ok (.putfield 146, 3) := by decide +kernel
theorem dX4_packNumber_75 : decode cX4_packNumber 75 = .ok (.aload_n 0, 1) := by decide +kernel
theorem dX4_packNumber_76 : decode cX4_packNumber 76 = .ok (.getfield 19, 3) := by decide +kernel
theorem dX4_packNumber_79 : decode cX4_packNumber 79 = .ok (.getfield 146, 3) := by decide +kernel
theorem dX4_packNumber_82 : decode cX4_packNumber 82 = .ok (.ireturn, 1) := by decide +kernel
theorem dX4_readLoader_0 : decode cX4_readLoader 0 = .ok (.aload_n 0, 1) := by decide +kernel
theorem dX4_readLoader_1 : decode cX4_readLoader 1 = .ok (.invokevirtual 130, 3) := by decide +kernel
theorem dX4_readLoader_4 : decode cX4_readLoader 4 = .ok (.aload_n 0, 1) := by decide +kernel
theorem dX4_readLoader_5 : decode cX4_readLoader 5 = .ok (.getfield 60, 3) := by decide +kernel
theorem dX4_readLoader_8 : decode cX4_readLoader 8 = .ok (.iconst 3, 1) := by decide +kernel
theorem dX4_readLoader_9 : decode cX4_readLoader 9 = .ok (.if_icmp .ne 14, 3) := by decide +kernel
theorem dX4_readLoader_12 : decode cX4_readLoader 12 = .ok (.aload_n 0, 1) := by decide +kernel
theorem dX4_readLoader_13 : decode cX4_readLoader 13 = .ok (.getfield 94, 3) := by decide +kernel
theorem dX4_readLoader_16 : decode cX4_readLoader 16 = .ok (.ldc2_w 149, 3) := by decide +kernel
theorem dX4_readLoader_19 : decode cX4_readLoader 19 = .ok (.lcmp, 1) := by decide +kernel
theorem dX4_readLoader_20 : decode cX4_readLoader 20 = .ok (.ifCond .le 8, 3) := by decide +kernel
theorem dX4_readLoader_23 : decode cX4_readLoader 23 = .ok (.aload_n 0, 1) := by decide +kernel
theorem dX4_readLoader_24 : decode cX4_readLoader 24 = .ok (.invokevirtual 119, 3) := by decide +kernel
theorem dX4_readLoader_27 : decode cX4_readLoader 27 = .ok (.ireturn, 1) := by decide +kernel
theorem dX4_readLoader_28 : decode cX4_readLoader 28 = .ok (.aload_n 0, 1) := by decide +kernel
theorem dX4_readLoader_29 : decode cX4_readLoader 29 = .ok (.aload_n 0, 1) := by decide +kernel
theorem dX4_readLoader_30 : decode cX4_readLoader 30 = .ok (.getfield 94, 3) := by decide +kernel
theorem dX4_readLoader_33 : decode cX4_readLoader 33 = .ok (.l2i, 1) := by decide +kernel
theorem dX4_readLoader_34 : decode cX4_readLoader 34 = .ok (.putfield 107, 3) := by decide +kernel
theorem dX4_readLoader_37 : decode cX4_readLoader 37 = .ok (.aload_n 0, 1) := by decide +kernel
theorem dX4_readLoader_38 : decode cX4_readLoader 38 = .ok (.invokevirtual 130, 3) := by decide +kernel
theorem dX4_readLoader_41 : decode cX4_readLoader 41 = .ok (.aload_n 0, 1) := by decide +kernel
theorem dX4_readLoader_42 : decode cX4_readLoader 42 = .ok (.bipush 59, 2) := by decide +kernel
theorem dX4_readLoader_44 : decode cX4_readLoader 44 = .ok (.invokevirtual 143, 3) := by decide +kernel
theorem dX4_readLoader_47 : decode cX4_readLoader 47 = .ok (.ireturn, 1) := by decide +kernel
theorem dX4_readType_0 : decode cX4_readType 0 = .ok (.aload_n 0, 1) := by decide +kernel
theorem dX4_readType_1 : decode cX4_readType 1 = .ok (.getfield 19, 3) := by decide +kernel
theorem dX4_readType_4 : decode cX4_readType 4 = .ok (.getfield 151, 3) := by decide +kernel
theorem dX4_readType_7 : decode cX4_readType 7 = .ok (.bipush 24, 2) := by decide +kernel
theorem dX4_readType_9 : decode cX4_readType 9 = .ok (.if_icmp .lt 10, 3) := by decide +kernel
theorem dX4_readType_12 : decode cX4_readType 12 = .ok (.aload_n 0, 1) := by decide +kernel
theorem dX4_readType_13 : decode cX4_readType 13 = .ok (.bipush 6, 2) := by decide +kernel
theorem dX4_readType_15 : decode cX4_readType 15 = .ok (.invokevirtual 126, 3) := by decide +kernel
theorem dX4_readType_18 : decode cX4_readType 18 = .ok (.ireturn, 1) := by decide +kernel
theorem dX4_readType_19 : decode cX4_readType 19 = .ok (.aload_n 0, 1) := by decide +kernel
theorem dX4_readType_20 : decode cX4_readType 20 = .ok (.aload_n 0, 1) := by decide +kernel
theorem dX4_readType_21 : decode cX4_readType 21 = .ok (.getfield 19, 3) := by decide +kernel
theorem dX4_readType_24 : decode cX4_readType 24 = .ok (.getfield 32, 3) := by decide +kernel
theorem dX4_readType_27 : decode cX4_readType 27 = .ok (.aload_n 0, 1) := by decide +kernel
theorem dX4_readType_28 : decode cX4_readType 28 = .ok (.getfield 19, 3) := by decide +kernel
theorem dX4_readType_31 : decode cX4_readType 31 = .ok (.getfield 151, 3) := by decide +kernel
theorem dX4_readType_34 : decode cX4_readType 34 = .ok (.aaload, 1) := by decide +kernel
theorem dX4_readType_35 : decode cX4_readType 35 = .ok (.putfield 38, 3) := by decide +kernel
theorem dX4_readType_38 : decode cX4_readType 38 = .ok (.aload_n 0, 1) := by decide +kernel
theorem dX4_readType_39 : decode cX4_readType 39 = .ok (.getfield 60, 3) := by decide +kernel
theorem dX4_readType_42 : decode cX4_readType 42 = .ok (.sipush 203, 3) := by decide +kernel
theorem dX4_readType_45 : decode cX4_readType 45 = .ok (.if_icmp .ne 7, 3) := by decide +kernel
theorem dX4_readType_48 : decode cX4_readType 48 = .ok (.iconst 2, 1) := by decide +kernel
theorem dX4_readType_49 : decode cX4_readType 49 = .ok (.goto 18, 3) := by decide +kernel
theorem dX4_readType_52 : decode cX4_readType 52 = .ok (.aload_n 0, 1) := by decide +kernel
theorem dX4_readType_53 : decode cX4_readType 53 = .ok (.getfield 60, 3) := by decide +kernel
theorem dX4_readType_56 : decode cX4_readType 56 = .ok (.sipush 210, 3) := by decide +kernel
theorem dX4_readType_59 : decode cX4_readType 59 = .ok (.if_icmp .ne 7, 3) := by decide +kernel
theorem dX4_readType_62 : decode cX4_readType 62 = .ok (.iconst 1, 1) := by decide +kernel
theorem dX4_readType_63 : decode cX4_readType 63 = .ok (.goto 4, 3) := by decide +kernel
theorem dX4_readType_66 : decode cX4_readType 66 = .ok (.iconst 0, 1) := by decide +kernel
theorem dX4_readType_67 : decode cX4_readType 67 = .ok (.istore_n 1, 1) := by decide +kernel
theorem dX4_readType_68 : decode cX4_readType 68 = .ok (.aload_n 0, 1) := by decide +kernel
theorem dX4_readType_69 : decode cX4_readType 69 = .ok (.getfield 38, 3) := by decide +kernel
theorem dX4_readType_72 : decode cX4_readType 72 = .ok (.iload_n 1, 1) := by decide +kernel
theorem dX4_readType_73 : decode cX4_readType 73 = .ok (.aload_n 0, 1) := by decide +kernel
theorem dX4_readType_74 : decode cX4_readType 74 = .ok (.getfield 104, 3) := by decide +kernel
theorem dX4_readType_77 : decode cX4_readType 77 = .ok (.aload_n 0, 1) := by decide +kernel
theorem dX4_readType_78 : decode cX4_readType 78 = .ok (.getfield 107, 3) := by decide +kernel
theorem dX4_readType_81 : decode cX4_readType 81 = .ok (.aload_n 0, 1) := by decide +kernel
theorem dX4_readType_82 : decode cX4_readType 82 = .ok (.getfield 19, 3) := by decide +kernel
theorem dX4_readType_85 : decode cX4_readType 85 = .ok (.getfield 154, 3) := by decide +kernel
theorem dX4_readType_88 : decode cX4_readType 88 = .ok (.invokevirtual 157, 3) := by decide +kernel
theorem dX4_readType_91 : decode cX4_readType 91 = .ok (.aload_n 0, 1) := by decide +kernel
theorem dX4_readType_92 : decode cX4_readType 92 = .ok (.invokevirtual 130, 3) := by decide +kernel
theorem dX4_readType_95 : decode cX4_readType 95 = .ok (.iload_n 1, 1) := by decide +kernel
theorem dX4_readType_96 : decode cX4_readType 96 = .ok (.iconst 1, 1) := by decide +kernel
theorem dX4_readType_97 : decode cX4_readType 97 = .ok (.if_icmp .ne 15, 3) := by decide +kernel
theorem dX4_readType_100 : decode cX4_readType 100 = .ok (.aload_n 0, 1) := by decide +kernel
theorem dX4_readType_101 : decode cX4_readType 101 = .ok (.sipush 202, 3) := by decide +kernel
theorem dX4_readType_104 : decode cX4_readType 104 = .ok (.invokevirtual 143, 3) := by decide +kernel
theorem dX4_readType_107 : decode cX4_readType 107 = .ok (.ifCond .ne 5, 3) := by decide +kernel
theorem dX4_readType_110 : decode cX4_readType 110 = .ok (.iconst 0, 1) := by decide +kernel
theorem dX4_readType_111 : decode cX4_readType 111 = .ok (.ireturn, 1) := by decide +kernel
theorem dX4_readType_112 : decode cX4_readType 112 = .ok (.aload_n 0, 1) := by decide +kernel
theorem dX4_readType_113 : decode cX4_readType 113 = .ok (.invokevirtual 162, 3) := by decide +kernel
theorem dX4_readType_116 : decode cX4_readType 116 = .ok (.ireturn, 1) := by decide +kernel
theorem dX4_readTypeName_0 : decode cX4_readTypeName 0 = .ok (.aload_n 0, 1) := by decide +kernel
theorem dX4_readTypeName_1 : decode cX4_readTypeName 1 = .ok (.getfield 60, 3) := by decide +kernel
theorem dX4_readTypeName_4 : decode cX4_readTypeName 4 = .ok (.iconst 2, 1) := by decide +kernel
theorem dX4_readTypeName_5 : decode cX4_readTypeName 5 = .ok (.if_icmp .eq 8, 3) := by decide +kernel
theorem dX4_readTypeName_8 : decode cX4_readTypeName 8 = .ok (.aload_n 0, 1) := by decide +kernel
theorem dX4_readTypeName_9 : decode cX4_readTypeName 9 = .ok (.invokevirtual 119, 3) := by decide +kernel
theorem dX4_readTypeName_12 : decode cX4_readTypeName 12 = .ok (.ireturn, 1) := by decide +kernel
theorem dX4_readTypeName_13 : decode cX4_readTypeName 13 = .ok (.iconst 0, 1) := by decide +kernel
theorem dX4_readTypeName_14 : decode cX4_readTypeName 14 = .ok (.istore_n 1, 1) := by decide +kernel
theorem dX4_readTypeName_15 : decode cX4_readTypeName 15 = .ok (.iload_n 1, 1) := by decide +kernel
theorem dX4_readTypeName_16 : decode cX4_readTypeName 16 = .ok (.aload_n 0, 1) := by decide +kernel
theorem dX4_readTypeName_17 : decode cX4_readTypeName 17 = .ok (.getfield 19, 3) := by decide +kernel
theorem dX4_readTypeName_20 : decode cX4_readTypeName 20 = .ok (.getfield 151, 3) := by decide +kernel
theorem dX4_readTypeName_23 : decode cX4_readTypeName 23 = .ok (.if_icmp .ge 35, 3) := by decide +kernel
theorem dX4_readTypeName_26 : decode cX4_readTypeName 26 = .ok (.aload_n 0, 1) := by decide +kernel
theorem dX4_readTypeName_27 : decode cX4_readTypeName 27 = .ok (.getfield 19, 3) := by decide +kernel
theorem dX4_readTypeName_30 : decode cX4_readTypeName 30 = .ok (.getfield 32, 3) := by decide +kernel
theorem dX4_readTypeName_33 : decode cX4_readTypeName 33 = .ok (.iload_n 1, 1) := by decide +kernel
theorem dX4_readTypeName_34 : decode cX4_readTypeName 34 = .ok (.aaload, 1) := by decide +kernel
theorem dX4_readTypeName_35 : decode cX4_readTypeName 35 = .ok (.getfield 165, 3) := by decide +kernel
theorem dX4_readTypeName_38 : decode cX4_readTypeName 38 = .ok (.aload_n 0, 1) := by decide +kernel
theorem dX4_readTypeName_39 : decode cX4_readTypeName 39 = .ok (.getfield 94, 3) := by decide +kernel
theorem dX4_readTypeName_42 : decode cX4_readTypeName 42 = .ok (.lcmp, 1) := by decide +kernel
theorem dX4_readTypeName_43 : decode cX4_readTypeName 43 = .ok (.ifCond .ne 9, 3) := by decide +kernel
theorem dX4_readTypeName_46 : decode cX4_readTypeName 46 = .ok (.aload_n 0, 1) := by decide +kernel
theorem dX4_readTypeName_47 : decode cX4_readTypeName 47 = .ok (.iconst 3, 1) := by decide +kernel
theorem dX4_readTypeName_48 : decode cX4_readTypeName 48 = .ok (.invokevirtual 126, 3) := by decide +kernel
theorem dX4_readTypeName_51 : decode cX4_readTypeName 51 = .ok (.ireturn, 1) := by decide +kernel
theorem dX4_readTypeName_52 : decode cX4_readTypeName 52 = .ok (.iinc 1 1, 3) := by decide +kernel
theorem dX4_readTypeName_55 : decode cX4_readTypeName 55 = .ok (.goto (-40), 3) := by decide +kernel
theorem dX4_readTypeName_58 : decode cX4_readTypeName 58 = .ok (.aload_n 0, 1) := by decide +kernel
theorem dX4_readTypeName_59 : decode cX4_readTypeName 59 = .ok (.getfield 38, 3) := by decide +kernel
theorem dX4_readTypeName_62 : decode cX4_readTypeName 62 = .ok (.aload_n 0, 1) := by decide +kernel
theorem dX4_readTypeName_63 : decode cX4_readTypeName 63 = .ok (.getfield 94, 3) := by decide +kernel
theorem dX4_readTypeName_66 : decode cX4_readTypeName 66 = .ok (.putfield 165, 3) := by decide +kernel
theorem dX4_readTypeName_69 : decode cX4_readTypeName 69 = .ok (.aload_n 0, 1) := by decide +kernel
theorem dX4_readTypeName_70 : decode cX4_readTypeName 70 = .ok (.getfield 19, 3) := by decide +kernel
theorem dX4_readTypeName_73 : decode cX4_readTypeName 73 = .ok (.dup, 1) := by decide +kernel
theorem dX4_readTypeName_74 : decode cX4_readTypeName 74 = .ok (.getfield 151, 3) := by decide +kernel
theorem dX4_readTypeName_77 : decode cX4_readTypeName 77 = .ok (.iconst 1, 1) := by decide +kernel
theorem dX4_readTypeName_78 : decode cX4_readTypeName 78 = .ok (.iadd, 1) := by decide +kernel
theorem dX4_readTypeName_79 : decode cX4_readTypeName 79 = .ok (.putfield 151, 3) := by decide +kernel
theorem dX4_readTypeName_82 : decode cX4_readTypeName 82 = .ok (.aload_n 0, 1) := by decide +kernel
theorem dX4_readTypeName_83 : decode cX4_readTypeName 83 = .ok (.iconst 1, 1) := by decide +kernel
theorem dX4_readTypeName_84 : decode cX4_readTypeName 84 = .ok (.putfield 56, 3) := by decide +kernel
theorem dX4_readTypeName_87 : decode cX4_readTypeName 87 = .ok (.aload_n 0, 1) := by decide +kernel
theorem dX4_readTypeName_88 : decode cX4_readTypeName 88 = .ok (.invokevirtual 130, 3) := by decide +kernel
theorem dX4_readTypeName_91 : decode cX4_readTypeName 91 = .ok (.iconst 1, 1) := by decide +kernel
theorem dX4_readTypeName_92 : decode cX4_readTypeName 92 = .ok (.ireturn, 1) := by decide +kernel
theorem dX4_readHead_0 : decode cX4_readHead 0 = .ok (.aload_n 0, 1) := by decide +kernel
theorem dX4_readHead_1 : decode cX4_readHead 1 = .ok (.invokevirtual 168, 3) := by decide +kernel
theorem dX4_readHead_4 : decode cX4_readHead 4 = .ok (.ifCond .eq 10, 3) := by decide +kernel
theorem dX4_readHead_7 : decode cX4_readHead 7 = .ok (.aload_n 0, 1) := by decide +kernel
theorem dX4_readHead_8 : decode cX4_readHead 8 = .ok (.invokevirtual 171, 3) := by decide +kernel
theorem dX4_readHead_11 : decode cX4_readHead 11 = .ok (.ifCond .ne 5, 3) := by decide +kernel
theorem dX4_readHead_14 : decode cX4_readHead 14 = .ok (.iconst 0, 1) := by decide +kernel
theorem dX4_readHead_15 : decode cX4_readHead 15 = .ok (.ireturn, 1) := by decide +kernel
theorem dX4_readHead_16 : decode cX4_readHead 16 = .ok (.aload_n 0, 1) := by decide +kernel
theorem dX4_readHead_17 : decode cX4_readHead 17 = .ok (.aload_n 0, 1) := by decide +kernel
theorem dX4_readHead_18 : decode cX4_readHead 18 = .ok (.getfield 60, 3) := by decide +kernel
theorem dX4_readHead_21 : decode cX4_readHead 21 = .ok (.bipush 58, 2) := by decide +kernel
theorem dX4_readHead_23 : decode cX4_readHead 23 = .ok (.if_icmp .ne 7, 3) := by decide +kernel
theorem dX4_readHead_26 : decode cX4_readHead 26 = .ok (.iconst 2, 1) := by decide +kernel
theorem dX4_readHead_27 : decode cX4_readHead 27 = .ok (.goto 4, 3) := by decide +kernel
theorem dX4_readHead_30 : decode cX4_readHead 30 = .ok (.iconst 3, 1) := by decide +kernel
theorem dX4_readHead_31 : decode cX4_readHead 31 = .ok (.putfield 56, 3) := by decide +kernel
theorem dX4_readHead_34 : decode cX4_readHead 34 = .ok (.aload_n 0, 1) := by decide +kernel
theorem dX4_readHead_35 : decode cX4_readHead 35 = .ok (.aload_n 0, 1) := by decide +kernel
theorem dX4_readHead_36 : decode cX4_readHead 36 = .ok (.getfield 60, 3) := by decide +kernel
theorem dX4_readHead_39 : decode cX4_readHead 39 = .ok (.bipush 58, 2) := by decide +kernel
theorem dX4_readHead_41 : decode cX4_readHead 41 = .ok (.if_icmp .ne 8, 3) := by decide +kernel
theorem dX4_readHead_44 : decode cX4_readHead 44 = .ok (.bipush 58, 2) := by decide +kernel
theorem dX4_readHead_46 : decode cX4_readHead 46 = .ok (.goto 5, 3) := by decide +kernel
theorem dX4_readHead_49 : decode cX4_readHead 49 = .ok (.bipush 123, 2) := by decide +kernel
theorem dX4_readHead_51 : decode cX4_readHead 51 = .ok (.invokevirtual 143, 3) := by decide +kernel
theorem dX4_readHead_54 : decode cX4_readHead 54 = .ok (.ireturn, 1) := by decide +kernel
theorem dX4_readVars_0 : decode cX4_readVars 0 = .ok (.aload_n 0, 1) := by decide +kernel
theorem dX4_readVars_1 : decode cX4_readVars 1 = .ok (.getfield 60, 3) := by decide +kernel
theorem dX4_readVars_4 : decode cX4_readVars 4 = .ok (.bipush 60, 2) := by decide +kernel
theorem dX4_readVars_6 : decode cX4_readVars 6 = .ok (.if_icmp .eq 5, 3) := by decide +kernel
theorem dX4_readVars_9 : decode cX4_readVars 9 = .ok (.iconst 1, 1) := by decide +kernel
theorem dX4_readVars_10 : decode cX4_readVars 10 = .ok (.ireturn, 1) := by decide +kernel
theorem dX4_readVars_11 : decode cX4_readVars 11 = .ok (.aload_n 0, 1) := by decide +kernel
theorem dX4_readVars_12 : decode cX4_readVars 12 = .ok (.invokevirtual 130, 3) := by decide +kernel
theorem dX4_readVars_15 : decode cX4_readVars 15 = .ok (.iconst 0, 1) := by decide +kernel
theorem dX4_readVars_16 : decode cX4_readVars 16 = .ok (.istore_n 1, 1) := by decide +kernel
theorem dX4_readVars_17 : decode cX4_readVars 17 = .ok (.iload_n 1, 1) := by decide +kernel
theorem dX4_readVars_18 : decode cX4_readVars 18 = .ok (.iconst 2, 1) := by decide +kernel
theorem dX4_readVars_19 : decode cX4_readVars 19 = .ok (.if_icmp .ge 48, 3) := by decide +kernel
theorem dX4_readVars_22 : decode cX4_readVars 22 = .ok (.aload_n 0, 1) := by decide +kernel
theorem dX4_readVars_23 : decode cX4_readVars 23 = .ok (.iload_n 1, 1) := by decide +kernel
theorem dX4_readVars_24 : decode cX4_readVars 24 = .ok (.invokevirtual 174, 3) := by decide +kernel
theorem dX4_readVars_27 : decode cX4_readVars 27 = .ok (.ifCond .eq 11, 3) := by decide +kernel
theorem dX4_readVars_30 : decode cX4_readVars 30 = .ok (.aload_n 0, 1) := by decide +kernel
theorem dX4_readVars_31 : decode cX4_readVars 31 = .ok (.iload_n 1, 1) := by decide +kernel
theorem dX4_readVars_32 : decode cX4_readVars 32 = .ok (.invokevirtual 177, 3) := by decide +kernel
theorem dX4_readVars_35 : decode cX4_readVars 35 = .ok (.ifCond .ne 5, 3) := by decide +kernel
theorem dX4_readVars_38 : decode cX4_readVars 38 = .ok (.iconst 0, 1) := by decide +kernel
theorem dX4_readVars_39 : decode cX4_readVars 39 = .ok (.ireturn, 1) := by decide +kernel
theorem dX4_readVars_40 : decode cX4_readVars 40 = .ok (.iload_n 1, 1) := by decide +kernel
theorem dX4_readVars_41 : decode cX4_readVars 41 = .ok (.iconst 1, 1) := by decide +kernel
theorem dX4_readVars_42 : decode cX4_readVars 42 = .ok (.if_icmp .eq 25, 3) := by decide +kernel
theorem dX4_readVars_45 : decode cX4_readVars 45 = .ok (.aload_n 0, 1) := by decide +kernel
theorem dX4_readVars_46 : decode cX4_readVars 46 = .ok (.getfield 60, 3) := by decide +kernel
theorem dX4_readVars_49 : decode cX4_readVars 49 = .ok (.bipush 44, 2) := by decide +kernel
theorem dX4_readVars_51 : decode cX4_readVars 51 = .ok (.if_icmp .eq 6, 3) := by decide +kernel
theorem dX4_readVars_54 : decode cX4_readVars 54 = .ok (.goto 13, 3) := by decide +kernel
theorem dX4_readVars_57 : decode cX4_readVars 57 = .ok (.aload_n 0, 1) := by decide +kernel
theorem dX4_readVars_58 : decode cX4_readVars 58 = .ok (.invokevirtual 130, 3) := by decide +kernel
theorem dX4_readVars_61 : decode cX4_readVars 61 = .ok (.iinc 1 1, 3) := by decide +kernel
theorem dX4_readVars_64 : decode cX4_readVars 64 = .ok (.goto (-47), 3) := by decide +kernel
theorem dX4_readVars_67 : decode cX4_readVars 67 = .ok (.aload_n 0, 1) := by decide +kernel
theorem dX4_readVars_68 : decode cX4_readVars 68 = .ok (.bipush 62, 2) := by decide +kernel
theorem dX4_readVars_70 : decode cX4_readVars 70 = .ok (.invokevirtual 143, 3) := by decide +kernel
theorem dX4_readVars_73 : decode cX4_readVars 73 = .ok (.ireturn, 1) := by decide +kernel
theorem dX4_readVar_0 : decode cX4_readVar 0 = .ok (.aload_n 0, 1) := by decide +kernel
theorem dX4_readVar_1 : decode cX4_readVar 1 = .ok (.getfield 60, 3) := by decide +kernel
theorem dX4_readVar_4 : decode cX4_readVar 4 = .ok (.iconst 2, 1) := by decide +kernel
theorem dX4_readVar_5 : decode cX4_readVar 5 = .ok (.if_icmp .eq 8, 3) := by decide +kernel
theorem dX4_readVar_8 : decode cX4_readVar 8 = .ok (.aload_n 0, 1) := by decide +kernel
theorem dX4_readVar_9 : decode cX4_readVar 9 = .ok (.invokevirtual 119, 3) := by decide +kernel
theorem dX4_readVar_12 : decode cX4_readVar 12 = .ok (.ireturn, 1) := by decide +kernel
theorem dX4_readVar_13 : decode cX4_readVar 13 = .ok (.aload_n 0, 1) := by decide +kernel
theorem dX4_readVar_14 : decode cX4_readVar 14 = .ok (.getfield 38, 3) := by decide +kernel
theorem dX4_readVar_17 : decode cX4_readVar 17 = .ok (.aload_n 0, 1) := by decide +kernel
theorem dX4_readVar_18 : decode cX4_readVar 18 = .ok (.getfield 94, 3) := by decide +kernel
theorem dX4_readVar_21 : decode cX4_readVar 21 = .ok (.invokevirtual 180, 3) := by decide +kernel
theorem dX4_readVar_24 : decode cX4_readVar 24 = .ok (.iconst (-1), 1) := by decide +kernel
theorem dX4_readVar_25 : decode cX4_readVar 25 = .ok (.if_icmp .eq 9, 3) := by decide +kernel
theorem dX4_readVar_28 : decode cX4_readVar 28 = .ok (.aload_n 0, 1) := by decide +kernel
theorem dX4_readVar_29 : decode cX4_readVar 29 = .ok (.iconst 3, 1) := by decide +kernel
theorem dX4_readVar_30 : decode cX4_readVar 30 = .ok (.invokevirtual 126, 3) := by decide +kernel
theorem dX4_readVar_33 : decode cX4_readVar 33 = .ok (.ireturn, 1) := by decide +kernel
theorem dX4_readVar_34 : decode cX4_readVar 34 = .ok (.aload_n 0, 1) := by decide +kernel
theorem dX4_readVar_35 : decode cX4_readVar 35 = .ok (.getfield 38, 3) := by decide +kernel
theorem dX4_readVar_38 : decode cX4_readVar 38 = .ok (.getfield 183, 3) := by decide +kernel
theorem dX4_readVar_41 : decode cX4_readVar 41 = .ok (.iload_n 1, 1) := by decide +kernel
theorem dX4_readVar_42 : decode cX4_readVar 42 = .ok (.aload_n 0, 1) := by decide +kernel
theorem dX4_readVar_43 : decode cX4_readVar 43 = .ok (.getfield 94, 3) := by decide +kernel
theorem dX4_readVar_46 : decode cX4_readVar 46 = .ok (.lastore, 1) := by decide +kernel
theorem dX4_readVar_47 : decode cX4_readVar 47 = .ok (.aload_n 0, 1) := by decide +kernel
theorem dX4_readVar_48 : decode cX4_readVar 48 = .ok (.getfield 38, 3) := by decide +kernel
theorem dX4_readVar_51 : decode cX4_readVar 51 = .ok (.getfield 186, 3) := by decide +kernel
theorem dX4_readVar_54 : decode cX4_readVar 54 = .ok (.iload_n 1, 1) := by decide +kernel
theorem dX4_readVar_55 : decode cX4_readVar 55 = .ok (.iconst (-1), 1) := by decide +kernel
theorem dX4_readVar_56 : decode cX4_readVar 56 = .ok (.iastore, 1) := by decide +kernel
theorem dX4_readVar_57 : decode cX4_readVar 57 = .ok (.aload_n 0, 1) := by decide +kernel
theorem dX4_readVar_58 : decode cX4_readVar 58 = .ok (.getfield 38, 3) := by decide +kernel
theorem dX4_readVar_61 : decode cX4_readVar 61 = .ok (.aload_n 0, 1) := by decide +kernel
theorem dX4_readVar_62 : decode cX4_readVar 62 = .ok (.getfield 38, 3) := by decide +kernel
theorem dX4_readVar_65 : decode cX4_readVar 65 = .ok (.getfield 189, 3) := by decide +kernel
theorem dX4_readVar_68 : decode cX4_readVar 68 = .ok (.iload_n 1, 1) := by decide +kernel
theorem dX4_readVar_69 : decode cX4_readVar 69 = .ok (.bipush 100, 2) := by decide +kernel
theorem dX4_readVar_71 : decode cX4_readVar 71 = .ok (.iload_n 1, 1) := by decide +kernel
theorem dX4_readVar_72 : decode cX4_readVar 72 = .ok (.iadd, 1) := by decide +kernel
theorem dX4_readVar_73 : decode cX4_readVar 73 = .ok (.invokevirtual 192, 3) := by decide +kernel
theorem dX4_readVar_76 : decode cX4_readVar 76 = .ok (.aload_n 0, 1) := by decide +kernel
theorem dX4_readVar_77 : decode cX4_readVar 77 = .ok (.getfield 38, 3) := by decide +kernel
theorem dX4_readVar_80 : decode cX4_readVar 80 = .ok (.iload_n 1, 1) := by decide +kernel
theorem dX4_readVar_81 : decode cX4_readVar 81 = .ok (.iconst 1, 1) := by decide +kernel
theorem dX4_readVar_82 : decode cX4_readVar 82 = .ok (.iadd, 1) := by decide +kernel
theorem dX4_readVar_83 : decode cX4_readVar 83 = .ok (.putfield 196, 3) := by decide +kernel
theorem dX4_readVar_86 : decode cX4_readVar 86 = .ok (.aload_n 0, 1) := by decide +kernel
theorem dX4_readVar_87 : decode cX4_readVar 87 = .ok (.invokevirtual 130, 3) := by decide +kernel
theorem dX4_readVar_90 : decode cX4_readVar 90 = .ok (.iconst 1, 1) := by decide +kernel
theorem dX4_readVar_91 : decode cX4_readVar 91 = .ok (.ireturn, 1) := by decide +kernel
theorem dX4_readBound_0 : decode cX4_readBound 0 = .ok (.aload_n 0, 1) := by decide +kernel
theorem dX4_readBound_1 : decode cX4_readBound 1 = .ok (.getfield 60, 3) := by decide +kernel
theorem dX4_readBound_4 : decode cX4_readBound 4 = .ok (.sipush 205, 3) := by decide +kernel
theorem dX4_readBound_7 : decode cX4_readBound 7 = .ok (.if_icmp .eq 5, 3) := by decide +kernel
theorem dX4_readBound_10 : decode cX4_readBound 10 = .ok (.iconst 1, 1) := by decide +kernel
theorem dX4_readBound_11 : decode cX4_readBound 11 = .ok (.ireturn, 1) := by decide +kernel
theorem dX4_readBound_12 : decode cX4_readBound 12 = .ok (.aload_n 0, 1) := by decide +kernel
theorem dX4_readBound_13 : decode cX4_readBound 13 = .ok (.invokevirtual 130, 3) := by decide +kernel
theorem dX4_readBound_16 : decode cX4_readBound 16 = .ok (.aload_n 0, 1) := by decide +kernel
theorem dX4_readBound_17 : decode cX4_readBound 17 = .ok (.getfield 60, 3) := by decide +kernel
theorem dX4_readBound_20 : decode cX4_readBound 20 = .ok (.iconst 2, 1) := by decide +kernel
theorem dX4_readBound_21 : decode cX4_readBound 21 = .ok (.if_icmp .eq 8, 3) := by decide +kernel
theorem dX4_readBound_24 : decode cX4_readBound 24 = .ok (.aload_n 0, 1) := by decide +kernel
theorem dX4_readBound_25 : decode cX4_readBound 25 = .ok (.invokevirtual 119, 3) := by decide +kernel
theorem dX4_readBound_28 : decode cX4_readBound 28 = .ok (.ireturn, 1) := by decide +kernel
theorem dX4_readBound_29 : decode cX4_readBound 29 = .ok (.aload_n 0, 1) := by decide +kernel
theorem dX4_readBound_30 : decode cX4_readBound 30 = .ok (.aload_n 0, 1) := by decide +kernel
theorem dX4_readBound_31 : decode cX4_readBound 31 = .ok (.getfield 94, 3) := by decide +kernel
theorem dX4_readBound_34 : decode cX4_readBound 34 = .ok (.invokevirtual 199, 3) := by decide +kernel
theorem dX4_readBound_37 : decode cX4_readBound 37 = .ok (.istore_n 2, 1) := by decide +kernel
theorem dX4_readBound_38 : decode cX4_readBound 38 = .ok (.iload_n 2, 1) := by decide +kernel
theorem dX4_readBound_39 : decode cX4_readBound 39 = .ok (.iconst (-1), 1) := by decide +kernel
theorem dX4_readBound_40 : decode cX4_readBound 40 = .ok (.if_icmp .ne 9, 3) := by decide +kernel
theorem dX4_readBound_43 : decode cX4_readBound 43 = .ok (.aload_n 0, 1) := by decide +kernel
theorem dX4_readBound_44 : decode cX4_readBound 44 = .ok (.iconst 3, 1) := by decide +kernel
theorem dX4_readBound_45 : decode cX4_readBound 45 = .ok (.invokevirtual 126, 3) := by decide +kernel
theorem dX4_readBound_48 : decode cX4_readBound 48 = .ok (.ireturn, 1) := by decide +kernel
theorem dX4_readBound_49 : decode cX4_readBound 49 = .ok (.aload_n 0, 1) := by decide +kernel
theorem dX4_readBound_50 : decode cX4_readBound 50 = .ok (.getfield 38, 3) := by decide +kernel
theorem dX4_readBound_53 : decode cX4_readBound 53 = .ok (.getfield 186, 3) := by decide +kernel
theorem dX4_readBound_56 : decode cX4_readBound 56 = .ok (.iload_n 1, 1) := by decide +kernel
theorem dX4_readBound_57 : decode cX4_readBound 57 = .ok (.iload_n 2, 1) := by decide +kernel
theorem dX4_readBound_58 : decode cX4_readBound 58 = .ok (.iastore, 1) := by decide +kernel
theorem dX4_readBound_59 : decode cX4_readBound 59 = .ok (.aload_n 0, 1) := by decide +kernel
theorem dX4_readBound_60 : decode cX4_readBound 60 = .ok (.invokevirtual 130, 3) := by decide +kernel
theorem dX4_readBound_63 : decode cX4_readBound 63 = .ok (.iconst 1, 1) := by decide +kernel
theorem dX4_readBound_64 : decode cX4_readBound 64 = .ok (.ireturn, 1) := by decide +kernel
theorem dX4_typeSeen_0 : decode cX4_typeSeen 0 = .ok (.iconst 0, 1) := by decide +kernel
theorem dX4_typeSeen_1 : decode cX4_typeSeen 1 = .ok (.istore_n 3, 1) := by decide +kernel
theorem dX4_typeSeen_2 : decode cX4_typeSeen 2 = .ok (.iload_n 3, 1) := by decide +kernel
theorem dX4_typeSeen_3 : decode cX4_typeSeen 3 = .ok (.aload_n 0, 1) := by decide +kernel
theorem dX4_typeSeen_4 : decode cX4_typeSeen 4 = .ok (.getfield 19, 3) := by decide +kernel
theorem dX4_typeSeen_7 : decode cX4_typeSeen 7 = .ok (.getfield 151, 3) := by decide +kernel
theorem dX4_typeSeen_10 : decode cX4_typeSeen 10 = .ok (.if_icmp .ge 59, 3) := by decide +kernel
theorem dX4_typeSeen_13 : decode cX4_typeSeen 13 = .ok (.aload_n 0, 1) := by decide +kernel
theorem dX4_typeSeen_14 : decode cX4_typeSeen 14 = .ok (.getfield 19, 3) := by decide +kernel
theorem dX4_typeSeen_17 : decode cX4_typeSeen 17 = .ok (.getfield 32, 3) := by decide +kernel
theorem dX4_typeSeen_20 : decode cX4_typeSeen 20 = .ok (.iload_n 3, 1) := by decide +kernel
theorem dX4_typeSeen_21 : decode cX4_typeSeen 21 = .ok (.aaload, 1) := by decide +kernel
theorem dX4_typeSeen_22 : decode cX4_typeSeen 22 = .ok (.astore 4, 2) := by decide +kernel
theorem dX4_typeSeen_24 : decode cX4_typeSeen 24 = .ok (.aload 4, 2) := by decide +kernel
theorem dX4_typeSeen_26 : decode cX4_typeSeen 26 = .ok (.getfield 165, 3) := by decide +kernel
theorem dX4_typeSeen_29 : decode cX4_typeSeen 29 = .ok (.lload_n 1, 1) := by decide +kernel
theorem dX4_typeSeen_30 : decode cX4_typeSeen 30 = .ok (.lcmp, 1) := by decide +kernel
theorem dX4_typeSeen_31 : decode cX4_typeSeen 31 = .ok (.ifCond .ne 32, 3) := by decide +kernel
theorem dX4_typeSeen_34 : decode cX4_typeSeen 34 = .ok (.aload 4, 2) := by decide +kernel
theorem dX4_typeSeen_36 : decode cX4_typeSeen 36 = .ok (.getfield 202, 3) := by decide +kernel
theorem dX4_typeSeen_39 : decode cX4_typeSeen 39 = .ok (.ifCond .eq 18, 3) := by decide +kernel
theorem dX4_typeSeen_42 : decode cX4_typeSeen 42 = .ok (.aload 4, 2) := by decide +kernel
theorem dX4_typeSeen_44 : decode cX4_typeSeen 44 = .ok (.getfield 202, 3) := by decide +kernel
theorem dX4_typeSeen_47 : decode cX4_typeSeen 47 = .ok (.aload_n 0, 1) := by decide +kernel
theorem dX4_typeSeen_48 : decode cX4_typeSeen 48 = .ok (.getfield 38, 3) := by decide +kernel
theorem dX4_typeSeen_51 : decode cX4_typeSeen 51 = .ok (.getfield 202, 3) := by decide +kernel
theorem dX4_typeSeen_54 : decode cX4_typeSeen 54 = .ok (.if_icmp .ne 7, 3) := by decide +kernel
theorem dX4_typeSeen_57 : decode cX4_typeSeen 57 = .ok (.iload_n 3, 1) := by decide +kernel
theorem dX4_typeSeen_58 : decode cX4_typeSeen 58 = .ok (.goto 4, 3) := by decide +kernel
theorem dX4_typeSeen_61 : decode cX4_typeSeen 61 = .ok (.iconst (-1), 1) := by decide +kernel
theorem dX4_typeSeen_62 : decode cX4_typeSeen 62 = .ok (.ireturn, 1) := by decide +kernel
theorem dX4_typeSeen_63 : decode cX4_typeSeen 63 = .ok (.iinc 3 1, 3) := by decide +kernel
theorem dX4_typeSeen_66 : decode cX4_typeSeen 66 = .ok (.goto (-64), 3) := by decide +kernel
theorem dX4_typeSeen_69 : decode cX4_typeSeen 69 = .ok (.iconst (-1), 1) := by decide +kernel
theorem dX4_typeSeen_70 : decode cX4_typeSeen 70 = .ok (.ireturn, 1) := by decide +kernel
theorem dX4_otherTypeSeen_0 : decode cX4_otherTypeSeen 0 = .ok (.lload_n 1, 1) := by decide +kernel
theorem dX4_otherTypeSeen_1 : decode cX4_otherTypeSeen 1 = .ok (.aload_n 0, 1) := by decide +kernel
theorem dX4_otherTypeSeen_2 : decode cX4_otherTypeSeen 2 = .ok (.getfield 38, 3) := by decide +kernel
theorem dX4_otherTypeSeen_5 : decode cX4_otherTypeSeen 5 = .ok (.getfield 165, 3) := by decide +kernel
theorem dX4_otherTypeSeen_8 : decode cX4_otherTypeSeen 8 = .ok (.lcmp, 1) := by decide +kernel
theorem dX4_otherTypeSeen_9 : decode cX4_otherTypeSeen 9 = .ok (.ifCond .ne 7, 3) := by decide +kernel
theorem dX4_otherTypeSeen_12 : decode cX4_otherTypeSeen 12 = .ok (.iconst (-1), 1) := by decide +kernel
theorem dX4_otherTypeSeen_13 : decode cX4_otherTypeSeen 13 = .ok (.goto 8, 3) := by decide +kernel
theorem dX4_otherTypeSeen_16 : decode cX4_otherTypeSeen 16 = .ok (.aload_n 0, 1) := by decide +kernel
theorem dX4_otherTypeSeen_17 : decode cX4_otherTypeSeen 17 = .ok (.lload_n 1, 1) := by decide +kernel
theorem dX4_otherTypeSeen_18 : decode cX4_otherTypeSeen 18 = .ok (.invokevirtual 199, 3) := by decide +kernel
theorem dX4_otherTypeSeen_21 : decode cX4_otherTypeSeen 21 = .ok (.ireturn, 1) := by decide +kernel
theorem dX4_kindNamed_0 : decode cX4_kindNamed 0 = .ok (.aload_n 0, 1) := by decide +kernel
theorem dX4_kindNamed_1 : decode cX4_kindNamed 1 = .ok (.getfield 38, 3) := by decide +kernel
theorem dX4_kindNamed_4 : decode cX4_kindNamed 4 = .ok (.lload_n 1, 1) := by decide +kernel
theorem dX4_kindNamed_5 : decode cX4_kindNamed 5 = .ok (.invokevirtual 180, 3) := by decide +kernel
theorem dX4_kindNamed_8 : decode cX4_kindNamed 8 = .ok (.istore_n 3, 1) := by decide +kernel
theorem dX4_kindNamed_9 : decode cX4_kindNamed 9 = .ok (.iload_n 3, 1) := by decide +kernel
theorem dX4_kindNamed_10 : decode cX4_kindNamed 10 = .ok (.iconst (-1), 1) := by decide +kernel
theorem dX4_kindNamed_11 : decode cX4_kindNamed 11 = .ok (.if_icmp .eq 8, 3) := by decide +kernel
theorem dX4_kindNamed_14 : decode cX4_kindNamed 14 = .ok (.bipush 100, 2) := by decide +kernel
theorem dX4_kindNamed_16 : decode cX4_kindNamed 16 = .ok (.iload_n 3, 1) := by decide +kernel
theorem dX4_kindNamed_17 : decode cX4_kindNamed 17 = .ok (.iadd, 1) := by decide +kernel
theorem dX4_kindNamed_18 : decode cX4_kindNamed 18 = .ok (.ireturn, 1) := by decide +kernel
theorem dX4_kindNamed_19 : decode cX4_kindNamed 19 = .ok (.aload_n 0, 1) := by decide +kernel
theorem dX4_kindNamed_20 : decode cX4_kindNamed 20 = .ok (.lload_n 1, 1) := by decide +kernel
theorem dX4_kindNamed_21 : decode cX4_kindNamed 21 = .ok (.invokevirtual 199, 3) := by decide +kernel
theorem dX4_kindNamed_24 : decode cX4_kindNamed 24 = .ok (.istore 4, 2) := by decide +kernel
theorem dX4_kindNamed_26 : decode cX4_kindNamed 26 = .ok (.iload 4, 2) := by decide +kernel
theorem dX4_kindNamed_28 : decode cX4_kindNamed 28 = .ok (.iconst (-1), 1) := by decide +kernel
theorem dX4_kindNamed_29 : decode cX4_kindNamed 29 = .ok (.if_icmp .ne 8, 3) := by decide +kernel
theorem dX4_kindNamed_32 : decode cX4_kindNamed 32 = .ok (.bipush (-9), 2) := by decide +kernel
theorem dX4_kindNamed_34 : decode cX4_kindNamed 34 = .ok (.goto 5, 3) := by decide +kernel
theorem dX4_kindNamed_37 : decode cX4_kindNamed 37 = .ok (.iload 4, 2) := by decide +kernel
theorem dX4_kindNamed_39 : decode cX4_kindNamed 39 = .ok (.ireturn, 1) := by decide +kernel
theorem dX4_readNest_0 : decode cX4_readNest 0 = .ok (.aload_n 0, 1) := by decide +kernel
theorem dX4_readNest_1 : decode cX4_readNest 1 = .ok (.getfield 38, 3) := by decide +kernel
theorem dX4_readNest_4 : decode cX4_readNest 4 = .ok (.invokevirtual 203, 3) := by decide +kernel
theorem dX4_readNest_7 : decode cX4_readNest 7 = .ok (.ifCond .ne 13, 3) := by decide +kernel
theorem dX4_readNest_10 : decode cX4_readNest 10 = .ok (.aload_n 0, 1) := by decide +kernel
theorem dX4_readNest_11 : decode cX4_readNest 11 = .ok (.getfield 60, 3) := by decide +kernel
theorem dX4_readNest_14 : decode cX4_readNest 14 = .ok (.sipush 204, 3) := by decide +kernel
theorem dX4_readNest_17 : decode cX4_readNest 17 = .ok (.if_icmp .eq 5, 3) := by decide +kernel
theorem dX4_readNest_20 : decode cX4_readNest 20 = .ok (.iconst 1, 1) := by decide +kernel
theorem dX4_readNest_21 : decode cX4_readNest 21 = .ok (.ireturn, 1) := by decide +kernel
theorem dX4_readNest_22 : decode cX4_readNest 22 = .ok (.aload_n 0, 1) := by decide +kernel
theorem dX4_readNest_23 : decode cX4_readNest 23 = .ok (.invokevirtual 130, 3) := by decide +kernel
theorem dX4_readNest_26 : decode cX4_readNest 26 = .ok (.aload_n 0, 1) := by decide +kernel
theorem dX4_readNest_27 : decode cX4_readNest 27 = .ok (.getfield 60, 3) := by decide +kernel
theorem dX4_readNest_30 : decode cX4_readNest 30 = .ok (.iconst 2, 1) := by decide +kernel
theorem dX4_readNest_31 : decode cX4_readNest 31 = .ok (.if_icmp .eq 8, 3) := by decide +kernel
theorem dX4_readNest_34 : decode cX4_readNest 34 = .ok (.aload_n 0, 1) := by decide +kernel
theorem dX4_readNest_35 : decode cX4_readNest 35 = .ok (.invokevirtual 119, 3) := by decide +kernel
theorem dX4_readNest_38 : decode cX4_readNest 38 = .ok (.ireturn, 1) := by decide +kernel
theorem dX4_readNest_39 : decode cX4_readNest 39 = .ok (.aload_n 0, 1) := by decide +kernel
theorem dX4_readNest_40 : decode cX4_readNest 40 = .ok (.aload_n 0, 1) := by decide +kernel
theorem dX4_readNest_41 : decode cX4_readNest 41 = .ok (.getfield 94, 3) := by decide +kernel
theorem dX4_readNest_44 : decode cX4_readNest 44 = .ok (.invokevirtual 206, 3) := by decide +kernel
theorem dX4_readNest_47 : decode cX4_readNest 47 = .ok (.istore_n 1, 1) := by decide +kernel
theorem dX4_readNest_48 : decode cX4_readNest 48 = .ok (.iload_n 1, 1) := by decide +kernel
theorem dX4_readNest_49 : decode cX4_readNest 49 = .ok (.iconst (-1), 1) := by decide +kernel
theorem dX4_readNest_50 : decode cX4_readNest 50 = .ok (.if_icmp .ne 9, 3) := by decide +kernel
theorem dX4_readNest_53 : decode cX4_readNest 53 = .ok (.aload_n 0, 1) := by decide +kernel
theorem dX4_readNest_54 : decode cX4_readNest 54 = .ok (.iconst 3, 1) := by decide +kernel
theorem dX4_readNest_55 : decode cX4_readNest 55 = .ok (.invokevirtual 126, 3) := by decide +kernel
theorem dX4_readNest_58 : decode cX4_readNest 58 = .ok (.ireturn, 1) := by decide +kernel
theorem dX4_readNest_59 : decode cX4_readNest 59 = .ok (.aload_n 0, 1) := by decide +kernel
theorem dX4_readNest_60 : decode cX4_readNest 60 = .ok (.getfield 19, 3) := by decide +kernel
theorem dX4_readNest_63 : decode cX4_readNest 63 = .ok (.iload_n 1, 1) := by decide +kernel
theorem dX4_readNest_64 : decode cX4_readNest 64 = .ok (.aload_n 0, 1) := by decide +kernel
theorem dX4_readNest_65 : decode cX4_readNest 65 = .ok (.getfield 38, 3) := by decide +kernel
theorem dX4_readNest_68 : decode cX4_readNest 68 = .ok (.getfield 189, 3) := by decide +kernel
theorem dX4_readNest_71 : decode cX4_readNest 71 = .ok (.invokevirtual 209, 3) := by decide +kernel
theorem dX4_readNest_74 : decode cX4_readNest 74 = .ok (.ifCond .eq 19, 3) := by decide +kernel
theorem dX4_readNest_77 : decode cX4_readNest 77 = .ok (.aload_n 0, 1) := by decide +kernel
theorem dX4_readNest_78 : decode cX4_readNest 78 = .ok (.getfield 19, 3) := by decide +kernel
theorem dX4_readNest_81 : decode cX4_readNest 81 = .ok (.getfield 32, 3) := by decide +kernel
theorem dX4_readNest_84 : decode cX4_readNest 84 = .ok (.iload_n 1, 1) := by decide +kernel
theorem dX4_readNest_85 : decode cX4_readNest 85 = .ok (.aaload, 1) := by decide +kernel
theorem dX4_readNest_86 : decode cX4_readNest 86 = .ok (.getfield 213, 3) := by decide +kernel
theorem dX4_readNest_89 : decode cX4_readNest 89 = .ok (.iload_n 1, 1) := by decide +kernel
theorem dX4_readNest_90 : decode cX4_readNest 90 = .ok (.if_icmp .eq 9, 3) := by decide +kernel
theorem dX4_readNest_93 : decode cX4_readNest 93 = .ok (.aload_n 0, 1) := by decide +kernel
theorem dX4_readNest_94 : decode cX4_readNest 94 = .ok (.iconst 4, 1) := by decide +kernel
theorem dX4_readNest_95 : decode cX4_readNest 95 = .ok (.invokevirtual 126, 3) := by decide +kernel
theorem dX4_readNest_98 : decode cX4_readNest 98 = .ok (.ireturn, 1) := by decide +kernel
theorem dX4_readNest_99 : decode cX4_readNest 99 = .ok (.aload_n 0, 1) := by decide +kernel
theorem dX4_readNest_100 : decode cX4_readNest 100 = .ok (.getfield 38, 3) := by decide +kernel
theorem dX4_readNest_103 : decode cX4_readNest 103 = .ok (.iload_n 1, 1) := by decide +kernel
theorem dX4_readNest_104 : decode cX4_readNest 104 = .ok (.putfield 213, 3) := by decide +kernel
theorem dX4_readNest_107 : decode cX4_readNest 107 = .ok (.aload_n 0, 1) := by decide +kernel
theorem dX4_readNest_108 : decode cX4_readNest 108 = .ok (.invokevirtual 130, 3) := by decide +kernel
theorem dX4_readNest_111 : decode cX4_readNest 111 = .ok (.iconst 1, 1) := by decide +kernel
theorem dX4_readNest_112 : decode cX4_readNest 112 = .ok (.ireturn, 1) := by decide +kernel
theorem dX4_readRef_0 : decode cX4_readRef 0 = .ok (.aload_n 0, 1) := by decide +kernel
theorem dX4_readRef_1 : decode cX4_readRef 1 = .ok (.getfield 60, 3) := by decide +kernel
theorem dX4_readRef_4 : decode cX4_readRef 4 = .ok (.iconst 2, 1) := by decide +kernel
theorem dX4_readRef_5 : decode cX4_readRef 5 = .ok (.if_icmp .eq 8, 3) := by decide +kernel
theorem dX4_readRef_8 : decode cX4_readRef 8 = .ok (.aload_n 0, 1) := by decide +kernel
theorem dX4_readRef_9 : decode cX4_readRef 9 = .ok (.invokevirtual 119, 3) := by decide +kernel
theorem dX4_readRef_12 : decode cX4_readRef 12 = .ok (.ireturn, 1) := by decide +kernel
theorem dX4_readRef_13 : decode cX4_readRef 13 = .ok (.aload_n 0, 1) := by decide +kernel
theorem dX4_readRef_14 : decode cX4_readRef 14 = .ok (.aload_n 0, 1) := by decide +kernel
theorem dX4_readRef_15 : decode cX4_readRef 15 = .ok (.aload_n 0, 1) := by decide +kernel
theorem dX4_readRef_16 : decode cX4_readRef 16 = .ok (.getfield 94, 3) := by decide +kernel
theorem dX4_readRef_19 : decode cX4_readRef 19 = .ok (.invokevirtual 206, 3) := by decide +kernel
theorem dX4_readRef_22 : decode cX4_readRef 22 = .ok (.putfield 216, 3) := by decide +kernel
theorem dX4_readRef_25 : decode cX4_readRef 25 = .ok (.aload_n 0, 1) := by decide +kernel
theorem dX4_readRef_26 : decode cX4_readRef 26 = .ok (.getfield 216, 3) := by decide +kernel
theorem dX4_readRef_29 : decode cX4_readRef 29 = .ok (.iconst (-1), 1) := by decide +kernel
theorem dX4_readRef_30 : decode cX4_readRef 30 = .ok (.if_icmp .ne 9, 3) := by decide +kernel
theorem dX4_readRef_33 : decode cX4_readRef 33 = .ok (.aload_n 0, 1) := by decide +kernel
theorem dX4_readRef_34 : decode cX4_readRef 34 = .ok (.iconst 3, 1) := by decide +kernel
theorem dX4_readRef_35 : decode cX4_readRef 35 = .ok (.invokevirtual 126, 3) := by decide +kernel
theorem dX4_readRef_38 : decode cX4_readRef 38 = .ok (.ireturn, 1) := by decide +kernel
theorem dX4_readRef_39 : decode cX4_readRef 39 = .ok (.aload_n 0, 1) := by decide +kernel
theorem dX4_readRef_40 : decode cX4_readRef 40 = .ok (.getfield 19, 3) := by decide +kernel
theorem dX4_readRef_43 : decode cX4_readRef 43 = .ok (.getfield 32, 3) := by decide +kernel
theorem dX4_readRef_46 : decode cX4_readRef 46 = .ok (.aload_n 0, 1) := by decide +kernel
theorem dX4_readRef_47 : decode cX4_readRef 47 = .ok (.getfield 216, 3) := by decide +kernel
theorem dX4_readRef_50 : decode cX4_readRef 50 = .ok (.aaload, 1) := by decide +kernel
theorem dX4_readRef_51 : decode cX4_readRef 51 = .ok (.invokevirtual 203, 3) := by decide +kernel
theorem dX4_readRef_54 : decode cX4_readRef 54 = .ok (.ifCond .ne 7, 3) := by decide +kernel
theorem dX4_readRef_57 : decode cX4_readRef 57 = .ok (.iconst 1, 1) := by decide +kernel
theorem dX4_readRef_58 : decode cX4_readRef 58 = .ok (.goto 4, 3) := by decide +kernel
theorem dX4_readRef_61 : decode cX4_readRef 61 = .ok (.iconst 0, 1) := by decide +kernel
theorem dX4_readRef_62 : decode cX4_readRef 62 = .ok (.istore_n 1, 1) := by decide +kernel
theorem dX4_readRef_63 : decode cX4_readRef 63 = .ok (.aload_n 0, 1) := by decide +kernel
theorem dX4_readRef_64 : decode cX4_readRef 64 = .ok (.getfield 38, 3) := by decide +kernel
theorem dX4_readRef_67 : decode cX4_readRef 67 = .ok (.aload_n 0, 1) := by decide +kernel
theorem dX4_readRef_68 : decode cX4_readRef 68 = .ok (.getfield 216, 3) := by decide +kernel
theorem dX4_readRef_71 : decode cX4_readRef 71 = .ok (.invokevirtual 219, 3) := by decide +kernel
theorem dX4_readRef_74 : decode cX4_readRef 74 = .ok (.ifCond .ne 27, 3) := by decide +kernel
theorem dX4_readRef_77 : decode cX4_readRef 77 = .ok (.iload_n 1, 1) := by decide +kernel
theorem dX4_readRef_78 : decode cX4_readRef 78 = .ok (.ifCond .eq 29, 3) := by decide +kernel
theorem dX4_readRef_81 : decode cX4_readRef 81 = .ok (.aload_n 0, 1) := by decide +kernel
theorem dX4_readRef_82 : decode cX4_readRef 82 = .ok (.getfield 38, 3) := by decide +kernel
theorem dX4_readRef_85 : decode cX4_readRef 85 = .ok (.invokevirtual 203, 3) := by decide +kernel
theorem dX4_readRef_88 : decode cX4_readRef 88 = .ok (.ifCond .ne 13, 3) := by decide +kernel
theorem dX4_readRef_91 : decode cX4_readRef 91 = .ok (.aload_n 0, 1) := by decide +kernel
theorem dX4_readRef_92 : decode cX4_readRef 92 = .ok (.getfield 38, 3) := by decide +kernel
theorem dX4_readRef_95 : decode cX4_readRef 95 = .ok (.getfield 222, 3) := by decide +kernel
theorem dX4_readRef_98 : decode cX4_readRef 98 = .ok (.ifCond .le 9, 3) := by decide +kernel
theorem dX4_readRef_101 : decode cX4_readRef 101 = .ok (.aload_n 0, 1) := by decide +kernel
theorem dX4_readRef_102 : decode cX4_readRef 102 = .ok (.iconst 4, 1) := by decide +kernel
theorem dX4_readRef_103 : decode cX4_readRef 103 = .ok (.invokevirtual 126, 3) := by decide +kernel
theorem dX4_readRef_106 : decode cX4_readRef 106 = .ok (.ireturn, 1) := by decide +kernel
theorem dX4_readRef_107 : decode cX4_readRef 107 = .ok (.aload_n 0, 1) := by decide +kernel
theorem dX4_readRef_108 : decode cX4_readRef 108 = .ok (.getfield 38, 3) := by decide +kernel
theorem dX4_readRef_111 : decode cX4_readRef 111 = .ok (.getfield 222, 3) := by decide +kernel
theorem dX4_readRef_114 : decode cX4_readRef 114 = .ok (.iconst 4, 1) := by decide +kernel
theorem dX4_readRef_115 : decode cX4_readRef 115 = .ok (.if_icmp .lt 10, 3) := by decide +kernel
theorem dX4_readRef_118 : decode cX4_readRef 118 = .ok (.aload_n 0, 1) := by decide +kernel
theorem dX4_readRef_119 : decode cX4_readRef 119 = .ok (.bipush 6, 2) := by decide +kernel
theorem dX4_readRef_121 : decode cX4_readRef 121 = .ok (.invokevirtual 126, 3) := by decide +kernel
theorem dX4_readRef_124 : decode cX4_readRef 124 = .ok (.ireturn, 1) := by decide +kernel
theorem dX4_readRef_125 : decode cX4_readRef 125 = .ok (.aload_n 0, 1) := by decide +kernel
theorem dX4_readRef_126 : decode cX4_readRef 126 = .ok (.getfield 38, 3) := by decide +kernel
theorem dX4_readRef_129 : decode cX4_readRef 129 = .ok (.getfield 225, 3) := by decide +kernel
theorem dX4_readRef_132 : decode cX4_readRef 132 = .ok (.aload_n 0, 1) := by decide +kernel
theorem dX4_readRef_133 : decode cX4_readRef 133 = .ok (.getfield 38, 3) := by decide +kernel
theorem dX4_readRef_136 : decode cX4_readRef 136 = .ok (.getfield 222, 3) := by decide +kernel
theorem dX4_readRef_139 : decode cX4_readRef 139 = .ok (.aload_n 0, 1) := by decide +kernel
theorem dX4_readRef_140 : decode cX4_readRef 140 = .ok (.getfield 216, 3) := by decide +kernel
theorem dX4_readRef_143 : decode cX4_readRef 143 = .ok (.iastore, 1) := by decide +kernel
theorem dX4_readRef_144 : decode cX4_readRef 144 = .ok (.aload_n 0, 1) := by decide +kernel
theorem dX4_readRef_145 : decode cX4_readRef 145 = .ok (.getfield 38, 3) := by decide +kernel
theorem dX4_readRef_148 : decode cX4_readRef 148 = .ok (.dup, 1) := by decide +kernel
theorem dX4_readRef_149 : decode cX4_readRef 149 = .ok (.getfield 222, 3) := by decide +kernel
theorem dX4_readRef_152 : decode cX4_readRef 152 = .ok (.iconst 1, 1) := by decide +kernel
theorem dX4_readRef_153 : decode cX4_readRef 153 = .ok (.iadd, 1) := by decide +kernel
theorem dX4_readRef_154 : decode cX4_readRef 154 = .ok (.putfield 222, 3) := by decide +kernel
theorem dX4_readRef_157 : decode cX4_readRef 157 = .ok (.aload_n 0, 1) := by decide +kernel
theorem dX4_readRef_158 : decode cX4_readRef 158 = .ok (.getfield 38, 3) := by decide +kernel
theorem dX4_readRef_161 : decode cX4_readRef 161 = .ok (.dup, 1) := by decide +kernel
theorem dX4_readRef_162 : decode cX4_readRef 162 = .ok (.getfield 228, 3) := by decide +kernel
theorem dX4_readRef_165 : decode cX4_readRef 165 = .ok (.iconst 1, 1) := by decide +kernel
theorem dX4_readRef_166 : decode cX4_readRef 166 = .ok (.aload_n 0, 1) := by decide +kernel
theorem dX4_readRef_167 : decode cX4_readRef 167 = .ok (.getfield 216, 3) := by decide +kernel
theorem dX4_readRef_170 : decode cX4_readRef 170 = .ok (.ishl, 1) := by decide +kernel
theorem dX4_readRef_171 : decode cX4_readRef 171 = .ok (.ior, 1) := by decide +kernel
theorem dX4_readRef_172 : decode cX4_readRef 172 = .ok (.putfield 228, 3) := by decide +kernel
theorem dX4_readRef_175 : decode cX4_readRef 175 = .ok (.iload_n 1, 1) := by decide +kernel
theorem dX4_readRef_176 : decode cX4_readRef 176 = .ok (.ifCond .eq 14, 3) := by decide +kernel
theorem dX4_readRef_179 : decode cX4_readRef 179 = .ok (.aload_n 0, 1) := by decide +kernel
theorem dX4_readRef_180 : decode cX4_readRef 180 = .ok (.getfield 38, 3) := by decide +kernel
theorem dX4_readRef_183 : decode cX4_readRef 183 = .ok (.aload_n 0, 1) := by decide +kernel
theorem dX4_readRef_184 : decode cX4_readRef 184 = .ok (.getfield 216, 3) := by decide +kernel
theorem dX4_readRef_187 : decode cX4_readRef 187 = .ok (.putfield 231, 3) := by decide +kernel
theorem dX4_readRef_190 : decode cX4_readRef 190 = .ok (.aload_n 0, 1) := by decide +kernel
theorem dX4_readRef_191 : decode cX4_readRef 191 = .ok (.invokevirtual 130, 3) := by decide +kernel
theorem dX4_readRef_194 : decode cX4_readRef 194 = .ok (.iconst 1, 1) := by decide +kernel
theorem dX4_readRef_195 : decode cX4_readRef 195 = .ok (.ireturn, 1) := by decide +kernel
theorem dX4_readArguments_0 : decode cX4_readArguments 0 = .ok (.iconst 0, 1) := by decide +kernel
theorem dX4_readArguments_1 : decode cX4_readArguments 1 = .ok (.istore_n 1, 1) := by decide +kernel
theorem dX4_readArguments_2 : decode cX4_readArguments 2 = .ok (.aload_n 0, 1) := by decide +kernel
theorem dX4_readArguments_3 : decode cX4_readArguments 3 = .ok (.getfield 60, 3) := by decide +kernel
theorem dX4_readArguments_6 : decode cX4_readArguments 6 = .ok (.bipush 60, 2) := by decide +kernel
theorem dX4_readArguments_8 : decode cX4_readArguments 8 = .ok (.if_icmp .ne 114, 3) := by decide +kernel
theorem dX4_readArguments_11 : decode cX4_readArguments 11 = .ok (.iconst 0, 1) := by decide +kernel
theorem dX4_readArguments_12 : decode cX4_readArguments 12 = .ok (.istore_n 2, 1) := by decide +kernel
theorem dX4_readArguments_13 : decode cX4_readArguments 13 = .ok (.iload_n 2, 1) := by decide +kernel
theorem dX4_readArguments_14 : decode cX4_readArguments 14 = .ok (.iconst 2, 1) := by decide +kernel
theorem dX4_readArguments_15 : decode cX4_readArguments 15 = .ok (.if_icmp .ge 96, 3) := by decide +kernel
theorem dX4_readArguments_18 : decode cX4_readArguments 18 = .ok (.iload_n 2, 1) := by decide +kernel
theorem dX4_readArguments_19 : decode cX4_readArguments 19 = .ok (.ifCond .eq 12, 3) := by decide +kernel
theorem dX4_readArguments_22 : decode cX4_readArguments 22 = .ok (.aload_n 0, 1) := by decide +kernel
theorem dX4_readArguments_23 : decode cX4_readArguments 23 = .ok (.getfield 60, 3) := by decide +kernel
theorem dX4_readArguments_26 : decode cX4_readArguments 26 = .ok (.bipush 44, 2) := by decide +kernel
theorem dX4_readArguments_28 : decode cX4_readArguments 28 = .ok (.if_icmp .ne 83, 3) := by decide +kernel
theorem dX4_readArguments_31 : decode cX4_readArguments 31 = .ok (.aload_n 0, 1) := by decide +kernel
theorem dX4_readArguments_32 : decode cX4_readArguments 32 = .ok (.invokevirtual 130, 3) := by decide +kernel
theorem dX4_readArguments_35 : decode cX4_readArguments 35 = .ok (.aload_n 0, 1) := by decide +kernel
theorem dX4_readArguments_36 : decode cX4_readArguments 36 = .ok (.getfield 60, 3) := by decide +kernel
theorem dX4_readArguments_39 : decode cX4_readArguments 39 = .ok (.iconst 2, 1) := by decide +kernel
theorem dX4_readArguments_40 : decode cX4_readArguments 40 = .ok (.if_icmp .ne 14, 3) := by decide +kernel
theorem dX4_readArguments_43 : decode cX4_readArguments 43 = .ok (.aload_n 0, 1) := by decide +kernel
theorem dX4_readArguments_44 : decode cX4_readArguments 44 = .ok (.aload_n 0, 1) := by decide +kernel
theorem dX4_readArguments_45 : decode cX4_readArguments 45 = .ok (.getfield 94, 3) := by decide +kernel
theorem dX4_readArguments_48 : decode cX4_readArguments 48 = .ok (.invokevirtual 234, 3) := by decide +kernel
theorem dX4_readArguments_51 : decode cX4_readArguments 51 = .ok (.goto 5, 3) := by decide +kernel
theorem dX4_readArguments_54 : decode cX4_readArguments 54 = .ok (.bipush (-9), 2) := by decide +kernel
theorem dX4_readArguments_56 : decode cX4_readArguments 56 = .ok (.istore_n 3, 1) := by decide +kernel
theorem dX4_readArguments_57 : decode cX4_readArguments 57 = .ok (.iload_n 3, 1) := by decide +kernel
theorem dX4_readArguments_58 : decode cX4_readArguments 58 = .ok (.bipush (-9), 2) := by decide +kernel
theorem dX4_readArguments_60 : decode cX4_readArguments 60 = .ok (.if_icmp .ne 24, 3) := by decide +kernel
theorem dX4_readArguments_63 : decode cX4_readArguments 63 = .ok (.aload_n 0, 1) := by decide +kernel
theorem dX4_readArguments_64 : decode cX4_readArguments 64 = .ok (.getfield 60, 3) := by decide +kernel
theorem dX4_readArguments_67 : decode cX4_readArguments 67 = .ok (.iconst 2, 1) := by decide +kernel
theorem dX4_readArguments_68 : decode cX4_readArguments 68 = .ok (.if_icmp .ne 11, 3) := by decide +kernel
theorem dX4_readArguments_71 : decode cX4_readArguments 71 = .ok (.aload_n 0, 1) := by decide +kernel
theorem dX4_readArguments_72 : decode cX4_readArguments 72 = .ok (.iconst 3, 1) := by decide +kernel
theorem dX4_readArguments_73 : decode cX4_readArguments 73 = .ok (.invokevirtual 126, 3) := by decide +kernel
theorem dX4_readArguments_76 : decode cX4_readArguments 76 = .ok (.goto 7, 3) := by decide +kernel
theorem dX4_readArguments_79 : decode cX4_readArguments 79 = .ok (.aload_n 0, 1) := by decide +kernel
theorem dX4_readArguments_80 : decode cX4_readArguments 80 = .ok (.invokevirtual 119, 3) := by decide +kernel
theorem dX4_readArguments_83 : decode cX4_readArguments 83 = .ok (.ireturn, 1) := by decide +kernel
theorem dX4_readArguments_84 : decode cX4_readArguments 84 = .ok (.aload_n 0, 1) := by decide +kernel
theorem dX4_readArguments_85 : decode cX4_readArguments 85 = .ok (.getfield 38, 3) := by decide +kernel
theorem dX4_readArguments_88 : decode cX4_readArguments 88 = .ok (.aload_n 0, 1) := by decide +kernel
theorem dX4_readArguments_89 : decode cX4_readArguments 89 = .ok (.getfield 216, 3) := by decide +kernel
theorem dX4_readArguments_92 : decode cX4_readArguments 92 = .ok (.iload_n 2, 1) := by decide +kernel
theorem dX4_readArguments_93 : decode cX4_readArguments 93 = .ok (.iload_n 3, 1) := by decide +kernel
theorem dX4_readArguments_94 : decode cX4_readArguments 94 = .ok (.invokevirtual 192, 3) := by decide +kernel
theorem dX4_readArguments_97 : decode cX4_readArguments 97 = .ok (.iload_n 2, 1) := by decide +kernel
theorem dX4_readArguments_98 : decode cX4_readArguments 98 = .ok (.iconst 1, 1) := by decide +kernel
theorem dX4_readArguments_99 : decode cX4_readArguments 99 = .ok (.iadd, 1) := by decide +kernel
theorem dX4_readArguments_100 : decode cX4_readArguments 100 = .ok (.istore_n 1, 1) := by decide +kernel
theorem dX4_readArguments_101 : decode cX4_readArguments 101 = .ok (.aload_n 0, 1) := by decide +kernel
theorem dX4_readArguments_102 : decode cX4_readArguments 102 = .ok (.invokevirtual 130, 3) := by decide +kernel
theorem dX4_readArguments_105 : decode cX4_readArguments 105 = .ok (.iinc 2 1, 3) := by decide +kernel
theorem dX4_readArguments_108 : decode cX4_readArguments 108 = .ok (.goto (-95), 3) := by decide +kernel
theorem dX4_readArguments_111 : decode cX4_readArguments 111 = .ok (.aload_n 0, 1) := by decide +kernel
theorem dX4_readArguments_112 : decode cX4_readArguments 112 = .ok (.bipush 62, 2) := by decide +kernel
theorem dX4_readArguments_114 : decode cX4_readArguments 114 = .ok (.invokevirtual 143, 3) := by decide +kernel
theorem dX4_readArguments_117 : decode cX4_readArguments 117 = .ok (.ifCond .ne 5, 3) := by decide +kernel
theorem dX4_readArguments_120 : decode cX4_readArguments 120 = .ok (.iconst 0, 1) := by decide +kernel
theorem dX4_readArguments_121 : decode cX4_readArguments 121 = .ok (.ireturn, 1) := by decide +kernel
theorem dX4_readArguments_122 : decode cX4_readArguments 122 = .ok (.aload_n 0, 1) := by decide +kernel
theorem dX4_readArguments_123 : decode cX4_readArguments 123 = .ok (.getfield 60, 3) := by decide +kernel
theorem dX4_readArguments_126 : decode cX4_readArguments 126 = .ok (.bipush 44, 2) := by decide +kernel
theorem dX4_readArguments_128 : decode cX4_readArguments 128 = .ok (.if_icmp .eq 17, 3) := by decide +kernel
theorem dX4_readArguments_131 : decode cX4_readArguments 131 = .ok (.aload_n 0, 1) := by decide +kernel
theorem dX4_readArguments_132 : decode cX4_readArguments 132 = .ok (.getfield 60, 3) := by decide +kernel
theorem dX4_readArguments_135 : decode cX4_readArguments 135 = .ok (.bipush 123, 2) := by decide +kernel
theorem dX4_readArguments_137 : decode cX4_readArguments 137 = .ok (.if_icmp .eq 8, 3) := by decide +kernel
theorem dX4_readArguments_140 : decode cX4_readArguments 140 = .ok (.aload_n 0, 1) := by decide +kernel
theorem dX4_readArguments_141 : decode cX4_readArguments 141 = .ok (.invokevirtual 119, 3) := by decide +kernel
theorem dX4_readArguments_144 : decode cX4_readArguments 144 = .ok (.ireturn, 1) := by decide +kernel
theorem dX4_readArguments_145 : decode cX4_readArguments 145 = .ok (.iload_n 1, 1) := by decide +kernel
theorem dX4_readArguments_146 : decode cX4_readArguments 146 = .ok (.aload_n 0, 1) := by decide +kernel
theorem dX4_readArguments_147 : decode cX4_readArguments 147 = .ok (.getfield 19, 3) := by decide +kernel
theorem dX4_readArguments_150 : decode cX4_readArguments 150 = .ok (.getfield 32, 3) := by decide +kernel
theorem dX4_readArguments_153 : decode cX4_readArguments 153 = .ok (.aload_n 0, 1) := by decide +kernel
theorem dX4_readArguments_154 : decode cX4_readArguments 154 = .ok (.getfield 216, 3) := by decide +kernel
theorem dX4_readArguments_157 : decode cX4_readArguments 157 = .ok (.aaload, 1) := by decide +kernel
theorem dX4_readArguments_158 : decode cX4_readArguments 158 = .ok (.getfield 196, 3) := by decide +kernel
theorem dX4_readArguments_161 : decode cX4_readArguments 161 = .ok (.if_icmp .eq 9, 3) := by decide +kernel
theorem dX4_readArguments_164 : decode cX4_readArguments 164 = .ok (.aload_n 0, 1) := by decide +kernel
theorem dX4_readArguments_165 : decode cX4_readArguments 165 = .ok (.iconst 4, 1) := by decide +kernel
theorem dX4_readArguments_166 : decode cX4_readArguments 166 = .ok (.invokevirtual 126, 3) := by decide +kernel
theorem dX4_readArguments_169 : decode cX4_readArguments 169 = .ok (.ireturn, 1) := by decide +kernel
theorem dX4_readArguments_170 : decode cX4_readArguments 170 = .ok (.aload_n 0, 1) := by decide +kernel
theorem dX4_readArguments_171 : decode cX4_readArguments 171 = .ok (.aload_n 0, 1) := by decide +kernel
theorem dX4_readArguments_172 : decode cX4_readArguments 172 = .ok (.getfield 60, 3) := by decide +kernel
theorem dX4_readArguments_175 : decode cX4_readArguments 175 = .ok (.bipush 44, 2) := by decide +kernel
theorem dX4_readArguments_177 : decode cX4_readArguments 177 = .ok (.if_icmp .ne 7, 3) := by decide +kernel
theorem dX4_readArguments_180 : decode cX4_readArguments 180 = .ok (.iconst 2, 1) := by decide +kernel
theorem dX4_readArguments_181 : decode cX4_readArguments 181 = .ok (.goto 4, 3) := by decide +kernel
theorem dX4_readArguments_184 : decode cX4_readArguments 184 = .ok (.iconst 3, 1) := by decide +kernel
theorem dX4_readArguments_185 : decode cX4_readArguments 185 = .ok (.putfield 56, 3) := by decide +kernel
theorem dX4_readArguments_188 : decode cX4_readArguments 188 = .ok (.aload_n 0, 1) := by decide +kernel
theorem dX4_readArguments_189 : decode cX4_readArguments 189 = .ok (.invokevirtual 130, 3) := by decide +kernel
theorem dX4_readArguments_192 : decode cX4_readArguments 192 = .ok (.iconst 1, 1) := by decide +kernel
theorem dX4_readArguments_193 : decode cX4_readArguments 193 = .ok (.ireturn, 1) := by decide +kernel
theorem dX4_readMember_0 : decode cX4_readMember 0 = .ok (.aload_n 0, 1) := by decide +kernel
theorem dX4_readMember_1 : decode cX4_readMember 1 = .ok (.aload_n 0, 1) := by decide +kernel
theorem dX4_readMember_2 : decode cX4_readMember 2 = .ok (.getfield 19, 3) := by decide +kernel
theorem dX4_readMember_5 : decode cX4_readMember 5 = .ok (.getfield 42, 3) := by decide +kernel
theorem dX4_readMember_8 : decode cX4_readMember 8 = .ok (.aload_n 0, 1) := by decide +kernel
theorem dX4_readMember_9 : decode cX4_readMember 9 = .ok (.getfield 19, 3) := by decide +kernel
theorem dX4_readMember_12 : decode cX4_readMember 12 = .ok (.getfield 154, 3) := by decide +kernel
theorem dX4_readMember_15 : decode cX4_readMember 15 = .ok (.aaload, 1) := by decide +kernel
theorem dX4_readMember_16 : decode cX4_readMember 16 = .ok (.putfield 46, 3) := by decide +kernel
theorem dX4_readMember_19 : decode cX4_readMember 19 = .ok (.aload_n 0, 1) := by decide +kernel
theorem dX4_readMember_20 : decode cX4_readMember 20 = .ok (.getfield 46, 3) := by decide +kernel
theorem dX4_readMember_23 : decode cX4_readMember 23 = .ok (.aload_n 0, 1) := by decide +kernel
theorem dX4_readMember_24 : decode cX4_readMember 24 = .ok (.getfield 38, 3) := by decide +kernel
theorem dX4_readMember_27 : decode cX4_readMember 27 = .ok (.getfield 189, 3) := by decide +kernel
theorem dX4_readMember_30 : decode cX4_readMember 30 = .ok (.invokevirtual 237, 3) := by decide +kernel
theorem dX4_readMember_33 : decode cX4_readMember 33 = .ok (.aload_n 0, 1) := by decide +kernel
theorem dX4_readMember_34 : decode cX4_readMember 34 = .ok (.getfield 60, 3) := by decide +kernel
theorem dX4_readMember_37 : decode cX4_readMember 37 = .ok (.sipush 206, 3) := by decide +kernel
theorem dX4_readMember_40 : decode cX4_readMember 40 = .ok (.if_icmp .eq 23, 3) := by decide +kernel
theorem dX4_readMember_43 : decode cX4_readMember 43 = .ok (.aload_n 0, 1) := by decide +kernel
theorem dX4_readMember_44 : decode cX4_readMember 44 = .ok (.getfield 60, 3) := by decide +kernel
theorem dX4_readMember_47 : decode cX4_readMember 47 = .ok (.sipush 207, 3) := by decide +kernel
theorem dX4_readMember_50 : decode cX4_readMember 50 = .ok (.if_icmp .eq 13, 3) := by decide +kernel
theorem dX4_readMember_53 : decode cX4_readMember 53 = .ok (.aload_n 0, 1) := by decide +kernel
theorem dX4_readMember_54 : decode cX4_readMember 54 = .ok (.getfield 60, 3) := by decide +kernel
theorem dX4_readMember_57 : decode cX4_readMember 57 = .ok (.sipush 208, 3) := by decide +kernel
theorem dX4_readMember_60 : decode cX4_readMember 60 = .ok (.if_icmp .ne 7, 3) := by decide +kernel
theorem dX4_readMember_63 : decode cX4_readMember 63 = .ok (.iconst 1, 1) := by decide +kernel
theorem dX4_readMember_64 : decode cX4_readMember 64 = .ok (.goto 4, 3) := by decide +kernel
theorem dX4_readMember_67 : decode cX4_readMember 67 = .ok (.iconst 0, 1) := by decide +kernel
theorem dX4_readMember_68 : decode cX4_readMember 68 = .ok (.istore_n 1, 1) := by decide +kernel
theorem dX4_readMember_69 : decode cX4_readMember 69 = .ok (.iload_n 1, 1) := by decide +kernel
theorem dX4_readMember_70 : decode cX4_readMember 70 = .ok (.ifCond .eq 12, 3) := by decide +kernel
theorem dX4_readMember_73 : decode cX4_readMember 73 = .ok (.aload_n 0, 1) := by decide +kernel
theorem dX4_readMember_74 : decode cX4_readMember 74 = .ok (.invokevirtual 242, 3) := by decide +kernel
theorem dX4_readMember_77 : decode cX4_readMember 77 = .ok (.ifCond .ne 5, 3) := by decide +kernel
theorem dX4_readMember_80 : decode cX4_readMember 80 = .ok (.iconst 0, 1) := by decide +kernel
theorem dX4_readMember_81 : decode cX4_readMember 81 = .ok (.ireturn, 1) := by decide +kernel
theorem dX4_readMember_82 : decode cX4_readMember 82 = .ok (.aload_n 0, 1) := by decide +kernel
theorem dX4_readMember_83 : decode cX4_readMember 83 = .ok (.getfield 60, 3) := by decide +kernel
theorem dX4_readMember_86 : decode cX4_readMember 86 = .ok (.sipush 209, 3) := by decide +kernel
theorem dX4_readMember_89 : decode cX4_readMember 89 = .ok (.if_icmp .eq 23, 3) := by decide +kernel
theorem dX4_readMember_92 : decode cX4_readMember 92 = .ok (.aload_n 0, 1) := by decide +kernel
theorem dX4_readMember_93 : decode cX4_readMember 93 = .ok (.getfield 60, 3) := by decide +kernel
theorem dX4_readMember_96 : decode cX4_readMember 96 = .ok (.sipush 210, 3) := by decide +kernel
theorem dX4_readMember_99 : decode cX4_readMember 99 = .ok (.if_icmp .eq 13, 3) := by decide +kernel
theorem dX4_readMember_102 : decode cX4_readMember 102 = .ok (.aload_n 0, 1) := by decide +kernel
theorem dX4_readMember_103 : decode cX4_readMember 103 = .ok (.getfield 60, 3) := by decide +kernel
theorem dX4_readMember_106 : decode cX4_readMember 106 = .ok (.sipush 211, 3) := by decide +kernel
theorem dX4_readMember_109 : decode cX4_readMember 109 = .ok (.if_icmp .ne 7, 3) := by decide +kernel
theorem dX4_readMember_112 : decode cX4_readMember 112 = .ok (.iconst 1, 1) := by decide +kernel
theorem dX4_readMember_113 : decode cX4_readMember 113 = .ok (.goto 4, 3) := by decide +kernel
theorem dX4_readMember_116 : decode cX4_readMember 116 = .ok (.iconst 0, 1) := by decide +kernel
theorem dX4_readMember_117 : decode cX4_readMember 117 = .ok (.istore_n 2, 1) := by decide +kernel
theorem dX4_readMember_118 : decode cX4_readMember 118 = .ok (.iload_n 2, 1) := by decide +kernel
theorem dX4_readMember_119 : decode cX4_readMember 119 = .ok (.ifCond .eq 12, 3) := by decide +kernel
theorem dX4_readMember_122 : decode cX4_readMember 122 = .ok (.aload_n 0, 1) := by decide +kernel
theorem dX4_readMember_123 : decode cX4_readMember 123 = .ok (.invokevirtual 245, 3) := by decide +kernel
theorem dX4_readMember_126 : decode cX4_readMember 126 = .ok (.ifCond .ne 5, 3) := by decide +kernel
theorem dX4_readMember_129 : decode cX4_readMember 129 = .ok (.iconst 0, 1) := by decide +kernel
theorem dX4_readMember_130 : decode cX4_readMember 130 = .ok (.ireturn, 1) := by decide +kernel
theorem dX4_readMember_131 : decode cX4_readMember 131 = .ok (.aload_n 0, 1) := by decide +kernel
theorem dX4_readMember_132 : decode cX4_readMember 132 = .ok (.getfield 38, 3) := by decide +kernel
theorem dX4_readMember_135 : decode cX4_readMember 135 = .ok (.invokevirtual 203, 3) := by decide +kernel
theorem dX4_readMember_138 : decode cX4_readMember 138 = .ok (.ifCond .eq 15, 3) := by decide +kernel
theorem dX4_readMember_141 : decode cX4_readMember 141 = .ok (.iload_n 1, 1) := by decide +kernel
theorem dX4_readMember_142 : decode cX4_readMember 142 = .ok (.ifCond .ne 11, 3) := by decide +kernel
theorem dX4_readMember_145 : decode cX4_readMember 145 = .ok (.aload_n 0, 1) := by decide +kernel
theorem dX4_readMember_146 : decode cX4_readMember 146 = .ok (.getfield 46, 3) := by decide +kernel
theorem dX4_readMember_149 : decode cX4_readMember 149 = .ok (.iconst 3, 1) := by decide +kernel
theorem dX4_readMember_150 : decode cX4_readMember 150 = .ok (.putfield 248, 3) := by decide +kernel
theorem dX4_readMember_153 : decode cX4_readMember 153 = .ok (.aload_n 0, 1) := by decide +kernel
theorem dX4_readMember_154 : decode cX4_readMember 154 = .ok (.getfield 38, 3) := by decide +kernel
theorem dX4_readMember_157 : decode cX4_readMember 157 = .ok (.invokevirtual 203, 3) := by decide +kernel
theorem dX4_readMember_160 : decode cX4_readMember 160 = .ok (.ifCond .eq 15, 3) := by decide +kernel
theorem dX4_readMember_163 : decode cX4_readMember 163 = .ok (.iload_n 2, 1) := by decide +kernel
theorem dX4_readMember_164 : decode cX4_readMember 164 = .ok (.ifCond .ne 11, 3) := by decide +kernel
theorem dX4_readMember_167 : decode cX4_readMember 167 = .ok (.aload_n 0, 1) := by decide +kernel
theorem dX4_readMember_168 : decode cX4_readMember 168 = .ok (.getfield 46, 3) := by decide +kernel
theorem dX4_readMember_171 : decode cX4_readMember 171 = .ok (.iconst 2, 1) := by decide +kernel
theorem dX4_readMember_172 : decode cX4_readMember 172 = .ok (.putfield 251, 3) := by decide +kernel
theorem dX4_readMember_175 : decode cX4_readMember 175 = .ok (.aload_n 0, 1) := by decide +kernel
theorem dX4_readMember_176 : decode cX4_readMember 176 = .ok (.invokevirtual 254, 3) := by decide +kernel
theorem dX4_readMember_179 : decode cX4_readMember 179 = .ok (.ifCond .eq 26, 3) := by decide +kernel
theorem dX4_readMember_182 : decode cX4_readMember 182 = .ok (.aload_n 0, 1) := by decide +kernel
theorem dX4_readMember_183 : decode cX4_readMember 183 = .ok (.invokevirtual 257, 3) := by decide +kernel
theorem dX4_readMember_186 : decode cX4_readMember 186 = .ok (.ifCond .eq 19, 3) := by decide +kernel
theorem dX4_readMember_189 : decode cX4_readMember 189 = .ok (.aload_n 0, 1) := by decide +kernel
theorem dX4_readMember_190 : decode cX4_readMember 190 = .ok (.invokevirtual 260, 3) := by decide +kernel
theorem dX4_readMember_193 : decode cX4_readMember 193 = .ok (.ifCond .eq 12, 3) := by decide +kernel
theorem dX4_readMember_196 : decode cX4_readMember 196 = .ok (.aload_n 0, 1) := by decide +kernel
theorem dX4_readMember_197 : decode cX4_readMember 197 = .ok (.bipush 59, 2) := by decide +kernel
theorem dX4_readMember_199 : decode cX4_readMember 199 = .ok (.invokevirtual 143, 3) := by decide +kernel
theorem dX4_readMember_202 : decode cX4_readMember 202 = .ok (.ifCond .ne 5, 3) := by decide +kernel
theorem dX4_readMember_205 : decode cX4_readMember 205 = .ok (.iconst 0, 1) := by decide +kernel
theorem dX4_readMember_206 : decode cX4_readMember 206 = .ok (.ireturn, 1) := by decide +kernel
theorem dX4_readMember_207 : decode cX4_readMember 207 = .ok (.aload_n 0, 1) := by decide +kernel
theorem dX4_readMember_208 : decode cX4_readMember 208 = .ok (.invokevirtual 263, 3) := by decide +kernel
theorem dX4_readMember_211 : decode cX4_readMember 211 = .ok (.iconst 1, 1) := by decide +kernel
theorem dX4_readMember_212 : decode cX4_readMember 212 = .ok (.ireturn, 1) := by decide +kernel
theorem dX4_passFirst_0 : decode cX4_passFirst 0 = .ok (.aload_n 0, 1) := by decide +kernel
theorem dX4_passFirst_1 : decode cX4_passFirst 1 = .ok (.getfield 38, 3) := by decide +kernel
theorem dX4_passFirst_4 : decode cX4_passFirst 4 = .ok (.getfield 266, 3) := by decide +kernel
theorem dX4_passFirst_7 : decode cX4_passFirst 7 = .ok (.bipush 8, 2) := by decide +kernel
theorem dX4_passFirst_9 : decode cX4_passFirst 9 = .ok (.if_icmp .ge 15, 3) := by decide +kernel
theorem dX4_passFirst_12 : decode cX4_passFirst 12 = .ok (.aload_n 0, 1) := by decide +kernel
theorem dX4_passFirst_13 : decode cX4_passFirst 13 = .ok (.getfield 19, 3) := by decide +kernel
theorem dX4_passFirst_16 : decode cX4_passFirst 16 = .ok (.getfield 154, 3) := by decide +kernel
theorem dX4_passFirst_19 : decode cX4_passFirst 19 = .ok (.bipush 120, 2) := by decide +kernel
theorem dX4_passFirst_21 : decode cX4_passFirst 21 = .ok (.if_icmp .lt 10, 3) := by decide +kernel
theorem dX4_passFirst_24 : decode cX4_passFirst 24 = .ok (.aload_n 0, 1) := by decide +kernel
theorem dX4_passFirst_25 : decode cX4_passFirst 25 = .ok (.bipush 6, 2) := by decide +kernel
theorem dX4_passFirst_27 : decode cX4_passFirst 27 = .ok (.invokevirtual 126, 3) := by decide +kernel
theorem dX4_passFirst_30 : decode cX4_passFirst 30 = .ok (.ireturn, 1) := by decide +kernel
theorem dX4_passFirst_31 : decode cX4_passFirst 31 = .ok (.aload_n 0, 1) := by decide +kernel
theorem dX4_passFirst_32 : decode cX4_passFirst 32 = .ok (.invokevirtual 130, 3) := by decide +kernel
theorem dX4_passFirst_35 : decode cX4_passFirst 35 = .ok (.iconst 1, 1) := by decide +kernel
theorem dX4_passFirst_36 : decode cX4_passFirst 36 = .ok (.ireturn, 1) := by decide +kernel
theorem dX4_readAccess_0 : decode cX4_readAccess 0 = .ok (.aload_n 0, 1) := by decide +kernel
theorem dX4_readAccess_1 : decode cX4_readAccess 1 = .ok (.getfield 60, 3) := by decide +kernel
theorem dX4_readAccess_4 : decode cX4_readAccess 4 = .ok (.sipush 207, 3) := by decide +kernel
theorem dX4_readAccess_7 : decode cX4_readAccess 7 = .ok (.if_icmp .ne 19, 3) := by decide +kernel
theorem dX4_readAccess_10 : decode cX4_readAccess 10 = .ok (.aload_n 0, 1) := by decide +kernel
theorem dX4_readAccess_11 : decode cX4_readAccess 11 = .ok (.getfield 38, 3) := by decide +kernel
theorem dX4_readAccess_14 : decode cX4_readAccess 14 = .ok (.invokevirtual 203, 3) := by decide +kernel
theorem dX4_readAccess_17 : decode cX4_readAccess 17 = .ok (.ifCond .eq 9, 3) := by decide +kernel
theorem dX4_readAccess_20 : decode cX4_readAccess 20 = .ok (.aload_n 0, 1) := by decide +kernel
theorem dX4_readAccess_21 : decode cX4_readAccess 21 = .ok (.iconst 5, 1) := by decide +kernel
theorem dX4_readAccess_22 : decode cX4_readAccess 22 = .ok (.invokevirtual 126, 3) := by decide +kernel
theorem dX4_readAccess_25 : decode cX4_readAccess 25 = .ok (.ireturn, 1) := by decide +kernel
theorem dX4_readAccess_26 : decode cX4_readAccess 26 = .ok (.aload_n 0, 1) := by decide +kernel
theorem dX4_readAccess_27 : decode cX4_readAccess 27 = .ok (.getfield 46, 3) := by decide +kernel
theorem dX4_readAccess_30 : decode cX4_readAccess 30 = .ok (.aload_n 0, 1) := by decide +kernel
theorem dX4_readAccess_31 : decode cX4_readAccess 31 = .ok (.getfield 60, 3) := by decide +kernel
theorem dX4_readAccess_34 : decode cX4_readAccess 34 = .ok (.sipush 206, 3) := by decide +kernel
theorem dX4_readAccess_37 : decode cX4_readAccess 37 = .ok (.if_icmp .ne 7, 3) := by decide +kernel
theorem dX4_readAccess_40 : decode cX4_readAccess 40 = .ok (.iconst 3, 1) := by decide +kernel
theorem dX4_readAccess_41 : decode cX4_readAccess 41 = .ok (.goto 18, 3) := by decide +kernel
theorem dX4_readAccess_44 : decode cX4_readAccess 44 = .ok (.aload_n 0, 1) := by decide +kernel
theorem dX4_readAccess_45 : decode cX4_readAccess 45 = .ok (.getfield 60, 3) := by decide +kernel
theorem dX4_readAccess_48 : decode cX4_readAccess 48 = .ok (.sipush 207, 3) := by decide +kernel
theorem dX4_readAccess_51 : decode cX4_readAccess 51 = .ok (.if_icmp .ne 7, 3) := by decide +kernel
theorem dX4_readAccess_54 : decode cX4_readAccess 54 = .ok (.iconst 2, 1) := by decide +kernel
theorem dX4_readAccess_55 : decode cX4_readAccess 55 = .ok (.goto 4, 3) := by decide +kernel
theorem dX4_readAccess_58 : decode cX4_readAccess 58 = .ok (.iconst 0, 1) := by decide +kernel
theorem dX4_readAccess_59 : decode cX4_readAccess 59 = .ok (.putfield 248, 3) := by decide +kernel
theorem dX4_readAccess_62 : decode cX4_readAccess 62 = .ok (.aload_n 0, 1) := by decide +kernel
theorem dX4_readAccess_63 : decode cX4_readAccess 63 = .ok (.invokevirtual 267, 3) := by decide +kernel
theorem dX4_readAccess_66 : decode cX4_readAccess 66 = .ok (.ireturn, 1) := by decide +kernel
theorem dX4_readForm_0 : decode cX4_readForm 0 = .ok (.aload_n 0, 1) := by decide +kernel
theorem dX4_readForm_1 : decode cX4_readForm 1 = .ok (.getfield 60, 3) := by decide +kernel
theorem dX4_readForm_4 : decode cX4_readForm 4 = .ok (.sipush 211, 3) := by decide +kernel
theorem dX4_readForm_7 : decode cX4_readForm 7 = .ok (.if_icmp .ne 17, 3) := by decide +kernel
theorem dX4_readForm_10 : decode cX4_readForm 10 = .ok (.aload_n 0, 1) := by decide +kernel
theorem dX4_readForm_11 : decode cX4_readForm 11 = .ok (.getfield 38, 3) := by decide +kernel
theorem dX4_readForm_14 : decode cX4_readForm 14 = .ok (.invokevirtual 203, 3) := by decide +kernel
theorem dX4_readForm_17 : decode cX4_readForm 17 = .ok (.ifCond .ne 7, 3) := by decide +kernel
theorem dX4_readForm_20 : decode cX4_readForm 20 = .ok (.iconst 1, 1) := by decide +kernel
theorem dX4_readForm_21 : decode cX4_readForm 21 = .ok (.goto 4, 3) := by decide +kernel
theorem dX4_readForm_24 : decode cX4_readForm 24 = .ok (.iconst 0, 1) := by decide +kernel
theorem dX4_readForm_25 : decode cX4_readForm 25 = .ok (.istore_n 1, 1) := by decide +kernel
theorem dX4_readForm_26 : decode cX4_readForm 26 = .ok (.aload_n 0, 1) := by decide +kernel
theorem dX4_readForm_27 : decode cX4_readForm 27 = .ok (.getfield 60, 3) := by decide +kernel
theorem dX4_readForm_30 : decode cX4_readForm 30 = .ok (.sipush 210, 3) := by decide +kernel
theorem dX4_readForm_33 : decode cX4_readForm 33 = .ok (.if_icmp .ne 27, 3) := by decide +kernel
theorem dX4_readForm_36 : decode cX4_readForm 36 = .ok (.aload_n 0, 1) := by decide +kernel
theorem dX4_readForm_37 : decode cX4_readForm 37 = .ok (.getfield 38, 3) := by decide +kernel
theorem dX4_readForm_40 : decode cX4_readForm 40 = .ok (.getfield 270, 3) := by decide +kernel
theorem dX4_readForm_43 : decode cX4_readForm 43 = .ok (.ifCond .eq 13, 3) := by decide +kernel
theorem dX4_readForm_46 : decode cX4_readForm 46 = .ok (.aload_n 0, 1) := by decide +kernel
theorem dX4_readForm_47 : decode cX4_readForm 47 = .ok (.getfield 46, 3) := by decide +kernel
theorem dX4_readForm_50 : decode cX4_readForm 50 = .ok (.invokevirtual 273, 3) := by decide +kernel
theorem dX4_readForm_53 : decode cX4_readForm 53 = .ok (.ifCond .eq 7, 3) := by decide +kernel
theorem dX4_readForm_56 : decode cX4_readForm 56 = .ok (.iconst 1, 1) := by decide +kernel
theorem dX4_readForm_57 : decode cX4_readForm 57 = .ok (.goto 4, 3) := by decide +kernel
theorem dX4_readForm_60 : decode cX4_readForm 60 = .ok (.iconst 0, 1) := by decide +kernel
theorem dX4_readForm_61 : decode cX4_readForm 61 = .ok (.istore_n 2, 1) := by decide +kernel
theorem dX4_readForm_62 : decode cX4_readForm 62 = .ok (.iload_n 1, 1) := by decide +kernel
theorem dX4_readForm_63 : decode cX4_readForm 63 = .ok (.ifCond .ne 7, 3) := by decide +kernel
theorem dX4_readForm_66 : decode cX4_readForm 66 = .ok (.iload_n 2, 1) := by decide +kernel
theorem dX4_readForm_67 : decode cX4_readForm 67 = .ok (.ifCond .eq 9, 3) := by decide +kernel
theorem dX4_readForm_70 : decode cX4_readForm 70 = .ok (.aload_n 0, 1) := by decide +kernel
theorem dX4_readForm_71 : decode cX4_readForm 71 = .ok (.iconst 5, 1) := by decide +kernel
theorem dX4_readForm_72 : decode cX4_readForm 72 = .ok (.invokevirtual 126, 3) := by decide +kernel
theorem dX4_readForm_75 : decode cX4_readForm 75 = .ok (.ireturn, 1) := by decide +kernel
theorem dX4_readForm_76 : decode cX4_readForm 76 = .ok (.aload_n 0, 1) := by decide +kernel
theorem dX4_readForm_77 : decode cX4_readForm 77 = .ok (.getfield 46, 3) := by decide +kernel
theorem dX4_readForm_80 : decode cX4_readForm 80 = .ok (.aload_n 0, 1) := by decide +kernel
theorem dX4_readForm_81 : decode cX4_readForm 81 = .ok (.getfield 60, 3) := by decide +kernel
theorem dX4_readForm_84 : decode cX4_readForm 84 = .ok (.sipush 209, 3) := by decide +kernel
theorem dX4_readForm_87 : decode cX4_readForm 87 = .ok (.if_icmp .ne 7, 3) := by decide +kernel
theorem dX4_readForm_90 : decode cX4_readForm 90 = .ok (.iconst 1, 1) := by decide +kernel
theorem dX4_readForm_91 : decode cX4_readForm 91 = .ok (.goto 18, 3) := by decide +kernel
theorem dX4_readForm_94 : decode cX4_readForm 94 = .ok (.aload_n 0, 1) := by decide +kernel
theorem dX4_readForm_95 : decode cX4_readForm 95 = .ok (.getfield 60, 3) := by decide +kernel
theorem dX4_readForm_98 : decode cX4_readForm 98 = .ok (.sipush 210, 3) := by decide +kernel
theorem dX4_readForm_101 : decode cX4_readForm 101 = .ok (.if_icmp .ne 7, 3) := by decide +kernel
theorem dX4_readForm_104 : decode cX4_readForm 104 = .ok (.iconst 2, 1) := by decide +kernel
theorem dX4_readForm_105 : decode cX4_readForm 105 = .ok (.goto 4, 3) := by decide +kernel
theorem dX4_readForm_108 : decode cX4_readForm 108 = .ok (.iconst 3, 1) := by decide +kernel
theorem dX4_readForm_109 : decode cX4_readForm 109 = .ok (.putfield 251, 3) := by decide +kernel
theorem dX4_readForm_112 : decode cX4_readForm 112 = .ok (.aload_n 0, 1) := by decide +kernel
theorem dX4_readForm_113 : decode cX4_readForm 113 = .ok (.invokevirtual 267, 3) := by decide +kernel
theorem dX4_readForm_116 : decode cX4_readForm 116 = .ok (.ireturn, 1) := by decide +kernel
theorem dX4_readResult_0 : decode cX4_readResult 0 = .ok (.aload_n 0, 1) := by decide +kernel
theorem dX4_readResult_1 : decode cX4_readResult 1 = .ok (.getfield 60, 3) := by decide +kernel
theorem dX4_readResult_4 : decode cX4_readResult 4 = .ok (.sipush 213, 3) := by decide +kernel
theorem dX4_readResult_7 : decode cX4_readResult 7 = .ok (.if_icmp .eq 13, 3) := by decide +kernel
theorem dX4_readResult_10 : decode cX4_readResult 10 = .ok (.aload_n 0, 1) := by decide +kernel
theorem dX4_readResult_11 : decode cX4_readResult 11 = .ok (.iconst 2, 1) := by decide +kernel
theorem dX4_readResult_12 : decode cX4_readResult 12 = .ok (.invokevirtual 276, 3) := by decide +kernel
theorem dX4_readResult_15 : decode cX4_readResult 15 = .ok (.ifCond .ne 5, 3) := by decide +kernel
theorem dX4_readResult_18 : decode cX4_readResult 18 = .ok (.iconst 0, 1) := by decide +kernel
theorem dX4_readResult_19 : decode cX4_readResult 19 = .ok (.ireturn, 1) := by decide +kernel
theorem dX4_readResult_20 : decode cX4_readResult 20 = .ok (.aload_n 0, 1) := by decide +kernel
theorem dX4_readResult_21 : decode cX4_readResult 21 = .ok (.getfield 46, 3) := by decide +kernel
theorem dX4_readResult_24 : decode cX4_readResult 24 = .ok (.invokevirtual 273, 3) := by decide +kernel
theorem dX4_readResult_27 : decode cX4_readResult 27 = .ok (.ifCond .eq 20, 3) := by decide +kernel
theorem dX4_readResult_30 : decode cX4_readResult 30 = .ok (.aload_n 0, 1) := by decide +kernel
theorem dX4_readResult_31 : decode cX4_readResult 31 = .ok (.getfield 46, 3) := by decide +kernel
theorem dX4_readResult_34 : decode cX4_readResult 34 = .ok (.getfield 251, 3) := by decide +kernel
theorem dX4_readResult_37 : decode cX4_readResult 37 = .ok (.iconst 2, 1) := by decide +kernel
theorem dX4_readResult_38 : decode cX4_readResult 38 = .ok (.if_icmp .ne 9, 3) := by decide +kernel
theorem dX4_readResult_41 : decode cX4_readResult 41 = .ok (.aload_n 0, 1) := by decide +kernel
theorem dX4_readResult_42 : decode cX4_readResult 42 = .ok (.iconst 5, 1) := by decide +kernel
theorem dX4_readResult_43 : decode cX4_readResult 43 = .ok (.invokevirtual 126, 3) := by decide +kernel
theorem dX4_readResult_46 : decode cX4_readResult 46 = .ok (.ireturn, 1) := by decide +kernel
theorem dX4_readResult_47 : decode cX4_readResult 47 = .ok (.aload_n 0, 1) := by decide +kernel
theorem dX4_readResult_48 : decode cX4_readResult 48 = .ok (.invokevirtual 267, 3) := by decide +kernel
theorem dX4_readResult_51 : decode cX4_readResult 51 = .ok (.ireturn, 1) := by decide +kernel
theorem dX4_seesKind_0 : decode cX4_seesKind 0 = .ok (.aload_n 0, 1) := by decide +kernel
theorem dX4_seesKind_1 : decode cX4_seesKind 1 = .ok (.getfield 60, 3) := by decide +kernel
theorem dX4_seesKind_4 : decode cX4_seesKind 4 = .ok (.sipush 212, 3) := by decide +kernel
theorem dX4_seesKind_7 : decode cX4_seesKind 7 = .ok (.if_icmp .eq 16, 3) := by decide +kernel
theorem dX4_seesKind_10 : decode cX4_seesKind 10 = .ok (.aload_n 0, 1) := by decide +kernel
theorem dX4_seesKind_11 : decode cX4_seesKind 11 = .ok (.getfield 60, 3) := by decide +kernel
theorem dX4_seesKind_14 : decode cX4_seesKind 14 = .ok (.iconst 2, 1) := by decide +kernel
theorem dX4_seesKind_15 : decode cX4_seesKind 15 = .ok (.if_icmp .eq 8, 3) := by decide +kernel
theorem dX4_seesKind_18 : decode cX4_seesKind 18 = .ok (.aload_n 0, 1) := by decide +kernel
theorem dX4_seesKind_19 : decode cX4_seesKind 19 = .ok (.invokevirtual 119, 3) := by decide +kernel
theorem dX4_seesKind_22 : decode cX4_seesKind 22 = .ok (.ireturn, 1) := by decide +kernel
theorem dX4_seesKind_23 : decode cX4_seesKind 23 = .ok (.aload_n 0, 1) := by decide +kernel
theorem dX4_seesKind_24 : decode cX4_seesKind 24 = .ok (.getfield 60, 3) := by decide +kernel
theorem dX4_seesKind_27 : decode cX4_seesKind 27 = .ok (.sipush 212, 3) := by decide +kernel
theorem dX4_seesKind_30 : decode cX4_seesKind 30 = .ok (.if_icmp .ne 8, 3) := by decide +kernel
theorem dX4_seesKind_33 : decode cX4_seesKind 33 = .ok (.bipush (-3), 2) := by decide +kernel
theorem dX4_seesKind_35 : decode cX4_seesKind 35 = .ok (.goto 11, 3) := by decide +kernel
theorem dX4_seesKind_38 : decode cX4_seesKind 38 = .ok (.aload_n 0, 1) := by decide +kernel
theorem dX4_seesKind_39 : decode cX4_seesKind 39 = .ok (.aload_n 0, 1) := by decide +kernel
theorem dX4_seesKind_40 : decode cX4_seesKind 40 = .ok (.getfield 94, 3) := by decide +kernel
theorem dX4_seesKind_43 : decode cX4_seesKind 43 = .ok (.invokevirtual 234, 3) := by decide +kernel
theorem dX4_seesKind_46 : decode cX4_seesKind 46 = .ok (.istore_n 2, 1) := by decide +kernel
theorem dX4_seesKind_47 : decode cX4_seesKind 47 = .ok (.aload_n 0, 1) := by decide +kernel
theorem dX4_seesKind_48 : decode cX4_seesKind 48 = .ok (.getfield 46, 3) := by decide +kernel
theorem dX4_seesKind_51 : decode cX4_seesKind 51 = .ok (.getfield 279, 3) := by decide +kernel
theorem dX4_seesKind_54 : decode cX4_seesKind 54 = .ok (.iload_n 1, 1) := by decide +kernel
theorem dX4_seesKind_55 : decode cX4_seesKind 55 = .ok (.iload_n 2, 1) := by decide +kernel
theorem dX4_seesKind_56 : decode cX4_seesKind 56 = .ok (.iastore, 1) := by decide +kernel
theorem dX4_seesKind_57 : decode cX4_seesKind 57 = .ok (.iload_n 2, 1) := by decide +kernel
theorem dX4_seesKind_58 : decode cX4_seesKind 58 = .ok (.bipush (-9), 2) := by decide +kernel
theorem dX4_seesKind_60 : decode cX4_seesKind 60 = .ok (.if_icmp .ne 11, 3) := by decide +kernel
theorem dX4_seesKind_63 : decode cX4_seesKind 63 = .ok (.aload_n 0, 1) := by decide +kernel
theorem dX4_seesKind_64 : decode cX4_seesKind 64 = .ok (.iconst 3, 1) := by decide +kernel
theorem dX4_seesKind_65 : decode cX4_seesKind 65 = .ok (.invokevirtual 126, 3) := by decide +kernel
theorem dX4_seesKind_68 : decode cX4_seesKind 68 = .ok (.ifCond .eq 7, 3) := by decide +kernel
theorem dX4_seesKind_71 : decode cX4_seesKind 71 = .ok (.iconst 1, 1) := by decide +kernel
theorem dX4_seesKind_72 : decode cX4_seesKind 72 = .ok (.goto 4, 3) := by decide +kernel
theorem dX4_seesKind_75 : decode cX4_seesKind 75 = .ok (.iconst 0, 1) := by decide +kernel
theorem dX4_seesKind_76 : decode cX4_seesKind 76 = .ok (.ireturn, 1) := by decide +kernel
theorem dX4_readMemberName_0 : decode cX4_readMemberName 0 = .ok (.aload_n 0, 1) := by decide +kernel
theorem dX4_readMemberName_1 : decode cX4_readMemberName 1 = .ok (.getfield 60, 3) := by decide +kernel
theorem dX4_readMemberName_4 : decode cX4_readMemberName 4 = .ok (.iconst 2, 1) := by decide +kernel
theorem dX4_readMemberName_5 : decode cX4_readMemberName 5 = .ok (.if_icmp .eq 8, 3) := by decide +kernel
theorem dX4_readMemberName_8 : decode cX4_readMemberName 8 = .ok (.aload_n 0, 1) := by decide +kernel
theorem dX4_readMemberName_9 : decode cX4_readMemberName 9 = .ok (.invokevirtual 119, 3) := by decide +kernel
theorem dX4_readMemberName_12 : decode cX4_readMemberName 12 = .ok (.ireturn, 1) := by decide +kernel
theorem dX4_readMemberName_13 : decode cX4_readMemberName 13 = .ok (.aload_n 0, 1) := by decide +kernel
theorem dX4_readMemberName_14 : decode cX4_readMemberName 14 = .ok (.getfield 46, 3) := by decide +kernel
theorem dX4_readMemberName_17 : decode cX4_readMemberName 17 = .ok (.aload_n 0, 1) := by decide +kernel
theorem dX4_readMemberName_18 : decode cX4_readMemberName 18 = .ok (.getfield 94, 3) := by decide +kernel
theorem dX4_readMemberName_21 : decode cX4_readMemberName 21 = .ok (.putfield 282, 3) := by decide +kernel
theorem dX4_readMemberName_24 : decode cX4_readMemberName 24 = .ok (.aload_n 0, 1) := by decide +kernel
theorem dX4_readMemberName_25 : decode cX4_readMemberName 25 = .ok (.invokevirtual 130, 3) := by decide +kernel
theorem dX4_readMemberName_28 : decode cX4_readMemberName 28 = .ok (.iconst 1, 1) := by decide +kernel
theorem dX4_readMemberName_29 : decode cX4_readMemberName 29 = .ok (.ireturn, 1) := by decide +kernel
theorem dX4_readKinds_0 : decode cX4_readKinds 0 = .ok (.aload_n 0, 1) := by decide +kernel
theorem dX4_readKinds_1 : decode cX4_readKinds 1 = .ok (.bipush 40, 2) := by decide +kernel
theorem dX4_readKinds_3 : decode cX4_readKinds 3 = .ok (.invokevirtual 143, 3) := by decide +kernel
theorem dX4_readKinds_6 : decode cX4_readKinds 6 = .ok (.ifCond .ne 5, 3) := by decide +kernel
theorem dX4_readKinds_9 : decode cX4_readKinds 9 = .ok (.iconst 0, 1) := by decide +kernel
theorem dX4_readKinds_10 : decode cX4_readKinds 10 = .ok (.ireturn, 1) := by decide +kernel
theorem dX4_readKinds_11 : decode cX4_readKinds 11 = .ok (.aload_n 0, 1) := by decide +kernel
theorem dX4_readKinds_12 : decode cX4_readKinds 12 = .ok (.getfield 60, 3) := by decide +kernel
theorem dX4_readKinds_15 : decode cX4_readKinds 15 = .ok (.bipush 41, 2) := by decide +kernel
theorem dX4_readKinds_17 : decode cX4_readKinds 17 = .ok (.if_icmp .eq 7, 3) := by decide +kernel
theorem dX4_readKinds_20 : decode cX4_readKinds 20 = .ok (.iconst 1, 1) := by decide +kernel
theorem dX4_readKinds_21 : decode cX4_readKinds 21 = .ok (.goto 4, 3) := by decide +kernel
theorem dX4_readKinds_24 : decode cX4_readKinds 24 = .ok (.iconst 0, 1) := by decide +kernel
theorem dX4_readKinds_25 : decode cX4_readKinds 25 = .ok (.istore_n 1, 1) := by decide +kernel
theorem dX4_readKinds_26 : decode cX4_readKinds 26 = .ok (.iconst 0, 1) := by decide +kernel
theorem dX4_readKinds_27 : decode cX4_readKinds 27 = .ok (.istore_n 2, 1) := by decide +kernel
theorem dX4_readKinds_28 : decode cX4_readKinds 28 = .ok (.iload_n 2, 1) := by decide +kernel
theorem dX4_readKinds_29 : decode cX4_readKinds 29 = .ok (.iconst 2, 1) := by decide +kernel
theorem dX4_readKinds_30 : decode cX4_readKinds 30 = .ok (.if_icmp .ge 65, 3) := by decide +kernel
theorem dX4_readKinds_33 : decode cX4_readKinds 33 = .ok (.iload_n 1, 1) := by decide +kernel
theorem dX4_readKinds_34 : decode cX4_readKinds 34 = .ok (.ifCond .eq 61, 3) := by decide +kernel
theorem dX4_readKinds_37 : decode cX4_readKinds 37 = .ok (.aload_n 0, 1) := by decide +kernel
theorem dX4_readKinds_38 : decode cX4_readKinds 38 = .ok (.iload_n 2, 1) := by decide +kernel
theorem dX4_readKinds_39 : decode cX4_readKinds 39 = .ok (.invokevirtual 276, 3) := by decide +kernel
theorem dX4_readKinds_42 : decode cX4_readKinds 42 = .ok (.ifCond .ne 5, 3) := by decide +kernel
theorem dX4_readKinds_45 : decode cX4_readKinds 45 = .ok (.iconst 0, 1) := by decide +kernel
theorem dX4_readKinds_46 : decode cX4_readKinds 46 = .ok (.ireturn, 1) := by decide +kernel
theorem dX4_readKinds_47 : decode cX4_readKinds 47 = .ok (.aload_n 0, 1) := by decide +kernel
theorem dX4_readKinds_48 : decode cX4_readKinds 48 = .ok (.getfield 46, 3) := by decide +kernel
theorem dX4_readKinds_51 : decode cX4_readKinds 51 = .ok (.iload_n 2, 1) := by decide +kernel
theorem dX4_readKinds_52 : decode cX4_readKinds 52 = .ok (.iconst 1, 1) := by decide +kernel
theorem dX4_readKinds_53 : decode cX4_readKinds 53 = .ok (.iadd, 1) := by decide +kernel
theorem dX4_readKinds_54 : decode cX4_readKinds 54 = .ok (.putfield 283, 3) := by decide +kernel
theorem dX4_readKinds_57 : decode cX4_readKinds 57 = .ok (.aload_n 0, 1) := by decide +kernel
theorem dX4_readKinds_58 : decode cX4_readKinds 58 = .ok (.invokevirtual 130, 3) := by decide +kernel
theorem dX4_readKinds_61 : decode cX4_readKinds 61 = .ok (.iload_n 2, 1) := by decide +kernel
theorem dX4_readKinds_62 : decode cX4_readKinds 62 = .ok (.iconst 1, 1) := by decide +kernel
theorem dX4_readKinds_63 : decode cX4_readKinds 63 = .ok (.if_icmp .ge 16, 3) := by decide +kernel
theorem dX4_readKinds_66 : decode cX4_readKinds 66 = .ok (.aload_n 0, 1) := by decide +kernel
theorem dX4_readKinds_67 : decode cX4_readKinds 67 = .ok (.getfield 60, 3) := by decide +kernel
theorem dX4_readKinds_70 : decode cX4_readKinds 70 = .ok (.bipush 44, 2) := by decide +kernel
theorem dX4_readKinds_72 : decode cX4_readKinds 72 = .ok (.if_icmp .ne 7, 3) := by decide +kernel
theorem dX4_readKinds_75 : decode cX4_readKinds 75 = .ok (.iconst 1, 1) := by decide +kernel
theorem dX4_readKinds_76 : decode cX4_readKinds 76 = .ok (.goto 4, 3) := by decide +kernel
theorem dX4_readKinds_79 : decode cX4_readKinds 79 = .ok (.iconst 0, 1) := by decide +kernel
theorem dX4_readKinds_80 : decode cX4_readKinds 80 = .ok (.istore_n 1, 1) := by decide +kernel
theorem dX4_readKinds_81 : decode cX4_readKinds 81 = .ok (.iload_n 1, 1) := by decide +kernel
theorem dX4_readKinds_82 : decode cX4_readKinds 82 = .ok (.ifCond .eq 7, 3) := by decide +kernel
theorem dX4_readKinds_85 : decode cX4_readKinds 85 = .ok (.aload_n 0, 1) := by decide +kernel
theorem dX4_readKinds_86 : decode cX4_readKinds 86 = .ok (.invokevirtual 130, 3) := by decide +kernel
theorem dX4_readKinds_89 : decode cX4_readKinds 89 = .ok (.iinc 2 1, 3) := by decide +kernel
theorem dX4_readKinds_92 : decode cX4_readKinds 92 = .ok (.goto (-64), 3) := by decide +kernel
theorem dX4_readKinds_95 : decode cX4_readKinds 95 = .ok (.aload_n 0, 1) := by decide +kernel
theorem dX4_readKinds_96 : decode cX4_readKinds 96 = .ok (.bipush 41, 2) := by decide +kernel
theorem dX4_readKinds_98 : decode cX4_readKinds 98 = .ok (.invokevirtual 143, 3) := by decide +kernel
theorem dX4_readKinds_101 : decode cX4_readKinds 101 = .ok (.ireturn, 1) := by decide +kernel
theorem dX4_keepMember_0 : decode cX4_keepMember 0 = .ok (.iconst 0, 1) := by decide +kernel
theorem dX4_keepMember_1 : decode cX4_keepMember 1 = .ok (.istore_n 1, 1) := by decide +kernel
theorem dX4_keepMember_2 : decode cX4_keepMember 2 = .ok (.iload_n 1, 1) := by decide +kernel
theorem dX4_keepMember_3 : decode cX4_keepMember 3 = .ok (.iconst 2, 1) := by decide +kernel
theorem dX4_keepMember_4 : decode cX4_keepMember 4 = .ok (.if_icmp .gt 50, 3) := by decide +kernel
theorem dX4_keepMember_7 : decode cX4_keepMember 7 = .ok (.aload_n 0, 1) := by decide +kernel
theorem dX4_keepMember_8 : decode cX4_keepMember 8 = .ok (.getfield 46, 3) := by decide +kernel
theorem dX4_keepMember_11 : decode cX4_keepMember 11 = .ok (.getfield 279, 3) := by decide +kernel
theorem dX4_keepMember_14 : decode cX4_keepMember 14 = .ok (.iload_n 1, 1) := by decide +kernel
theorem dX4_keepMember_15 : decode cX4_keepMember 15 = .ok (.iaload, 1) := by decide +kernel
theorem dX4_keepMember_16 : decode cX4_keepMember 16 = .ok (.istore_n 2, 1) := by decide +kernel
theorem dX4_keepMember_17 : decode cX4_keepMember 17 = .ok (.aload_n 0, 1) := by decide +kernel
theorem dX4_keepMember_18 : decode cX4_keepMember 18 = .ok (.getfield 46, 3) := by decide +kernel
theorem dX4_keepMember_21 : decode cX4_keepMember 21 = .ok (.getfield 286, 3) := by decide +kernel
theorem dX4_keepMember_24 : decode cX4_keepMember 24 = .ok (.iload_n 1, 1) := by decide +kernel
theorem dX4_keepMember_25 : decode cX4_keepMember 25 = .ok (.iload_n 2, 1) := by decide +kernel
theorem dX4_keepMember_26 : decode cX4_keepMember 26 = .ok (.bipush 100, 2) := by decide +kernel
theorem dX4_keepMember_28 : decode cX4_keepMember 28 = .ok (.if_icmp .lt 18, 3) := by decide +kernel
theorem dX4_keepMember_31 : decode cX4_keepMember 31 = .ok (.aload_n 0, 1) := by decide +kernel
theorem dX4_keepMember_32 : decode cX4_keepMember 32 = .ok (.getfield 38, 3) := by decide +kernel
theorem dX4_keepMember_35 : decode cX4_keepMember 35 = .ok (.getfield 186, 3) := by decide +kernel
theorem dX4_keepMember_38 : decode cX4_keepMember 38 = .ok (.iload_n 2, 1) := by decide +kernel
theorem dX4_keepMember_39 : decode cX4_keepMember 39 = .ok (.bipush 100, 2) := by decide +kernel
theorem dX4_keepMember_41 : decode cX4_keepMember 41 = .ok (.isub, 1) := by decide +kernel
theorem dX4_keepMember_42 : decode cX4_keepMember 42 = .ok (.iaload, 1) := by decide +kernel
theorem dX4_keepMember_43 : decode cX4_keepMember 43 = .ok (.goto 4, 3) := by decide +kernel
theorem dX4_keepMember_46 : decode cX4_keepMember 46 = .ok (.iload_n 2, 1) := by decide +kernel
theorem dX4_keepMember_47 : decode cX4_keepMember 47 = .ok (.iastore, 1) := by decide +kernel
theorem dX4_keepMember_48 : decode cX4_keepMember 48 = .ok (.iinc 1 1, 3) := by decide +kernel
theorem dX4_keepMember_51 : decode cX4_keepMember 51 = .ok (.goto (-49), 3) := by decide +kernel
theorem dX4_keepMember_54 : decode cX4_keepMember 54 = .ok (.aload_n 0, 1) := by decide +kernel
theorem dX4_keepMember_55 : decode cX4_keepMember 55 = .ok (.getfield 46, 3) := by decide +kernel
theorem dX4_keepMember_58 : decode cX4_keepMember 58 = .ok (.aload_n 0, 1) := by decide +kernel
theorem dX4_keepMember_59 : decode cX4_keepMember 59 = .ok (.invokevirtual 289, 3) := by decide +kernel
theorem dX4_keepMember_62 : decode cX4_keepMember 62 = .ok (.putfield 293, 3) := by decide +kernel
theorem dX4_keepMember_65 : decode cX4_keepMember 65 = .ok (.aload_n 0, 1) := by decide +kernel
theorem dX4_keepMember_66 : decode cX4_keepMember 66 = .ok (.getfield 38, 3) := by decide +kernel
theorem dX4_keepMember_69 : decode cX4_keepMember 69 = .ok (.dup, 1) := by decide +kernel
theorem dX4_keepMember_70 : decode cX4_keepMember 70 = .ok (.getfield 266, 3) := by decide +kernel
theorem dX4_keepMember_73 : decode cX4_keepMember 73 = .ok (.iconst 1, 1) := by decide +kernel
theorem dX4_keepMember_74 : decode cX4_keepMember 74 = .ok (.iadd, 1) := by decide +kernel
theorem dX4_keepMember_75 : decode cX4_keepMember 75 = .ok (.putfield 266, 3) := by decide +kernel
theorem dX4_keepMember_78 : decode cX4_keepMember 78 = .ok (.aload_n 0, 1) := by decide +kernel
theorem dX4_keepMember_79 : decode cX4_keepMember 79 = .ok (.getfield 19, 3) := by decide +kernel
theorem dX4_keepMember_82 : decode cX4_keepMember 82 = .ok (.dup, 1) := by decide +kernel
theorem dX4_keepMember_83 : decode cX4_keepMember 83 = .ok (.getfield 154, 3) := by decide +kernel
theorem dX4_keepMember_86 : decode cX4_keepMember 86 = .ok (.iconst 1, 1) := by decide +kernel
theorem dX4_keepMember_87 : decode cX4_keepMember 87 = .ok (.iadd, 1) := by decide +kernel
theorem dX4_keepMember_88 : decode cX4_keepMember 88 = .ok (.putfield 154, 3) := by decide +kernel
theorem dX4_keepMember_91 : decode cX4_keepMember 91 = .ok (.return_, 1) := by decide +kernel
theorem dX4_signatureOfRow_0 : decode cX4_signatureOfRow 0 = .ok (.iconst 0, 1) := by decide +kernel
theorem dX4_signatureOfRow_1 : decode cX4_signatureOfRow 1 = .ok (.istore_n 1, 1) := by decide +kernel
theorem dX4_signatureOfRow_2 : decode cX4_signatureOfRow 2 = .ok (.iload_n 1, 1) := by decide +kernel
theorem dX4_signatureOfRow_3 : decode cX4_signatureOfRow 3 = .ok (.aload_n 0, 1) := by decide +kernel
theorem dX4_signatureOfRow_4 : decode cX4_signatureOfRow 4 = .ok (.getfield 19, 3) := by decide +kernel
theorem dX4_signatureOfRow_7 : decode cX4_signatureOfRow 7 = .ok (.getfield 154, 3) := by decide +kernel
theorem dX4_signatureOfRow_10 : decode cX4_signatureOfRow 10 = .ok (.if_icmp .ge 50, 3) := by decide +kernel
theorem dX4_signatureOfRow_13 : decode cX4_signatureOfRow 13 = .ok (.aload_n 0, 1) := by decide +kernel
theorem dX4_signatureOfRow_14 : decode cX4_signatureOfRow 14 = .ok (.getfield 19, 3) := by decide +kernel
theorem dX4_signatureOfRow_17 : decode cX4_signatureOfRow 17 = .ok (.getfield 42, 3) := by decide +kernel
theorem dX4_signatureOfRow_20 : decode cX4_signatureOfRow 20 = .ok (.iload_n 1, 1) := by decide +kernel
theorem dX4_signatureOfRow_21 : decode cX4_signatureOfRow 21 = .ok (.aaload, 1) := by decide +kernel
theorem dX4_signatureOfRow_22 : decode cX4_signatureOfRow 22 = .ok (.astore_n 2, 1) := by decide +kernel
theorem dX4_signatureOfRow_23 : decode cX4_signatureOfRow 23 = .ok (.aload_n 0, 1) := by decide +kernel
theorem dX4_signatureOfRow_24 : decode cX4_signatureOfRow 24 = .ok (.getfield 46, 3) := by decide +kernel
theorem dX4_signatureOfRow_27 : decode cX4_signatureOfRow 27 = .ok (.aload_n 2, 1) := by decide +kernel
theorem dX4_signatureOfRow_28 : decode cX4_signatureOfRow 28 = .ok (.invokevirtual 296, 3) := by decide +kernel
theorem dX4_signatureOfRow_31 : decode cX4_signatureOfRow 31 = .ok (.ifCond .eq 23, 3) := by decide +kernel
theorem dX4_signatureOfRow_34 : decode cX4_signatureOfRow 34 = .ok (.aload_n 0, 1) := by decide +kernel
theorem dX4_signatureOfRow_35 : decode cX4_signatureOfRow 35 = .ok (.getfield 46, 3) := by decide +kernel
theorem dX4_signatureOfRow_38 : decode cX4_signatureOfRow 38 = .ok (.getfield 286, 3) := by decide +kernel
theorem dX4_signatureOfRow_41 : decode cX4_signatureOfRow 41 = .ok (.iconst 2, 1) := by decide +kernel
theorem dX4_signatureOfRow_42 : decode cX4_signatureOfRow 42 = .ok (.iaload, 1) := by decide +kernel
theorem dX4_signatureOfRow_43 : decode cX4_signatureOfRow 43 = .ok (.aload_n 2, 1) := by decide +kernel
theorem dX4_signatureOfRow_44 : decode cX4_signatureOfRow 44 = .ok (.getfield 286, 3) := by decide +kernel
theorem dX4_signatureOfRow_47 : decode cX4_signatureOfRow 47 = .ok (.iconst 2, 1) := by decide +kernel
theorem dX4_signatureOfRow_48 : decode cX4_signatureOfRow 48 = .ok (.iaload, 1) := by decide +kernel
theorem dX4_signatureOfRow_49 : decode cX4_signatureOfRow 49 = .ok (.if_icmp .ne 5, 3) := by decide +kernel
theorem dX4_signatureOfRow_52 : decode cX4_signatureOfRow 52 = .ok (.iload_n 1, 1) := by decide +kernel
theorem dX4_signatureOfRow_53 : decode cX4_signatureOfRow 53 = .ok (.ireturn, 1) := by decide +kernel
theorem dX4_signatureOfRow_54 : decode cX4_signatureOfRow 54 = .ok (.iinc 1 1, 3) := by decide +kernel
theorem dX4_signatureOfRow_57 : decode cX4_signatureOfRow 57 = .ok (.goto (-55), 3) := by decide +kernel
theorem dX4_signatureOfRow_60 : decode cX4_signatureOfRow 60 = .ok (.aload_n 0, 1) := by decide +kernel
theorem dX4_signatureOfRow_61 : decode cX4_signatureOfRow 61 = .ok (.getfield 19, 3) := by decide +kernel
theorem dX4_signatureOfRow_64 : decode cX4_signatureOfRow 64 = .ok (.getfield 154, 3) := by decide +kernel
theorem dX4_signatureOfRow_67 : decode cX4_signatureOfRow 67 = .ok (.ireturn, 1) := by decide +kernel
theorem dX5_init_0 : decode cX5_init 0 = .ok (.aload_n 0, 1) := by decide +kernel
theorem dX5_init_1 : decode cX5_init 1 = .ok (.invokespecial 3, 3) := by decide +kernel
theorem dX5_init_4 : decode cX5_init 4 = .ok (.aload_n 0, 1) := by decide +kernel
theorem dX5_init_5 : decode cX5_init 5 = .ok (.sipush 4001, 3) := by decide +kernel
theorem dX5_init_8 : decode cX5_init 8 = .ok (.newarray .int, 2) := by decide +kernel
theorem dX5_init_10 : decode cX5_init 10 = .ok (.putfield 9, 3) := by decide +kernel
theorem dX5_init_13 : decode cX5_init 13 = .ok (.aload_n 0, 1) := by decide +kernel
theorem dX5_init_14 : decode cX5_init 14 = .ok (.sipush 4001, 3) := by decide +kernel
theorem dX5_init_17 : decode cX5_init 17 = .ok (.newarray .long, 2) := by decide +kernel
theorem dX5_init_19 : decode cX5_init 19 = .ok (.putfield 15, 3) := by decide +kernel
theorem dX5_init_22 : decode cX5_init 22 = .ok (.aload_n 0, 1) := by decide +kernel
theorem dX5_init_23 : decode cX5_init 23 = .ok (.sipush 4001, 3) := by decide +kernel
theorem dX5_init_26 : decode cX5_init 26 = .ok (.newarray .int, 2) := by decide +kernel
theorem dX5_init_28 : decode cX5_init 28 = .ok (.putfield 19, 3) := by decide +kernel
theorem dX5_init_31 : decode cX5_init 31 = .ok (.return_, 1) := by decide +kernel
theorem dX5_scan_0 : decode cX5_scan 0 = .ok (.aload_n 0, 1) := by decide +kernel
theorem dX5_scan_1 : decode cX5_scan 1 = .ok (.iconst 0, 1) := by decide +kernel
theorem dX5_scan_2 : decode cX5_scan 2 = .ok (.putfield 22, 3) := by decide +kernel
theorem dX5_scan_5 : decode cX5_scan 5 = .ok (.aload_n 0, 1) := by decide +kernel
theorem dX5_scan_6 : decode cX5_scan 6 = .ok (.iconst 0, 1) := by decide +kernel
theorem dX5_scan_7 : decode cX5_scan 7 = .ok (.putfield 26, 3) := by decide +kernel
theorem dX5_scan_10 : decode cX5_scan 10 = .ok (.iconst 0, 1) := by decide +kernel
theorem dX5_scan_11 : decode cX5_scan 11 = .ok (.istore_n 3, 1) := by decide +kernel
theorem dX5_scan_12 : decode cX5_scan 12 = .ok (.iload_n 3, 1) := by decide +kernel
theorem dX5_scan_13 : decode cX5_scan 13 = .ok (.iload_n 2, 1) := by decide +kernel
theorem dX5_scan_14 : decode cX5_scan 14 = .ok (.if_icmp .ge 67, 3) := by decide +kernel
theorem dX5_scan_17 : decode cX5_scan 17 = .ok (.iload_n 3, 1) := by decide +kernel
theorem dX5_scan_18 : decode cX5_scan 18 = .ok (.aload_n 1, 1) := by decide +kernel
theorem dX5_scan_19 : decode cX5_scan 19 = .ok (.arraylength, 1) := by decide +kernel
theorem dX5_scan_20 : decode cX5_scan 20 = .ok (.if_icmp .ge 61, 3) := by decide +kernel
theorem dX5_scan_23 : decode cX5_scan 23 = .ok (.aload_n 1, 1) := by decide +kernel
theorem dX5_scan_24 : decode cX5_scan 24 = .ok (.iload_n 3, 1) := by decide +kernel
theorem dX5_scan_25 : decode cX5_scan 25 = .ok (.baload, 1) := by decide +kernel
theorem dX5_scan_26 : decode cX5_scan 26 = .ok (.sipush 255, 3) := by decide +kernel
theorem dX5_scan_29 : decode cX5_scan 29 = .ok (.iand, 1) := by decide +kernel
theorem dX5_scan_30 : decode cX5_scan 30 = .ok (.istore 4, 2) := by decide +kernel
theorem dX5_scan_32 : decode cX5_scan 32 = .ok (.aload_n 0, 1) := by decide +kernel
theorem dX5_scan_33 : decode cX5_scan 33 = .ok (.getfield 26, 3) := by decide +kernel
theorem dX5_scan_36 : decode cX5_scan 36 = .ok (.ifCond .le 28, 3) := by decide +kernel
theorem dX5_scan_39 : decode cX5_scan 39 = .ok (.iload 4, 2) := by decide +kernel
theorem dX5_scan_41 : decode cX5_scan 41 = .ok (.invokestatic 29, 3) := by decide +kernel
theorem dX5_scan_44 : decode cX5_scan 44 = .ok (.ifCond .ne 11, 3) := by decide +kernel
theorem dX5_scan_47 : decode cX5_scan 47 = .ok (.iload 4, 2) := by decide +kernel
theorem dX5_scan_49 : decode cX5_scan 49 = .ok (.invokestatic 33, 3) := by decide +kernel
theorem dX5_scan_52 : decode cX5_scan 52 = .ok (.ifCond .eq 12, 3) := by decide +kernel
theorem dX5_scan_55 : decode cX5_scan 55 = .ok (.aload_n 0, 1) := by decide +kernel
theorem dX5_scan_56 : decode cX5_scan 56 = .ok (.iload 4, 2) := by decide +kernel
theorem dX5_scan_58 : decode cX5_scan 58 = .ok (.invokevirtual 36, 3) := by decide +kernel
theorem dX5_scan_61 : decode cX5_scan 61 = .ok (.goto 14, 3) := by decide +kernel
theorem dX5_scan_64 : decode cX5_scan 64 = .ok (.aload_n 0, 1) := by decide +kernel
theorem dX5_scan_65 : decode cX5_scan 65 = .ok (.invokevirtual 40, 3) := by decide +kernel
theorem dX5_scan_68 : decode cX5_scan 68 = .ok (.aload_n 0, 1) := by decide +kernel
theorem dX5_scan_69 : decode cX5_scan 69 = .ok (.iload 4, 2) := by decide +kernel
theorem dX5_scan_71 : decode cX5_scan 71 = .ok (.iload_n 3, 1) := by decide +kernel
theorem dX5_scan_72 : decode cX5_scan 72 = .ok (.invokevirtual 43, 3) := by decide +kernel
theorem dX5_scan_75 : decode cX5_scan 75 = .ok (.iinc 3 1, 3) := by decide +kernel
theorem dX5_scan_78 : decode cX5_scan 78 = .ok (.goto (-66), 3) := by decide +kernel
theorem dX5_scan_81 : decode cX5_scan 81 = .ok (.aload_n 0, 1) := by decide +kernel
theorem dX5_scan_82 : decode cX5_scan 82 = .ok (.invokevirtual 40, 3) := by decide +kernel
theorem dX5_scan_85 : decode cX5_scan 85 = .ok (.aload_n 0, 1) := by decide +kernel
theorem dX5_scan_86 : decode cX5_scan 86 = .ok (.iconst 0, 1) := by decide +kernel
theorem dX5_scan_87 : decode cX5_scan 87 = .ok (.lconst 0, 1) := by decide +kernel
theorem dX5_scan_88 : decode cX5_scan 88 = .ok (.iload_n 2, 1) := by decide +kernel
theorem dX5_scan_89 : decode cX5_scan 89 = .ok (.invokevirtual 47, 3) := by decide +kernel
theorem dX5_scan_92 : decode cX5_scan 92 = .ok (.return_, 1) := by decide +kernel
theorem dX5_begin_0 : decode cX5_begin 0 = .ok (.iload_n 1, 1) := by decide +kernel
theorem dX5_begin_1 : decode cX5_begin 1 = .ok (.invokestatic 29, 3) := by decide +kernel
theorem dX5_begin_4 : decode cX5_begin 4 = .ok (.ifCond .eq 19, 3) := by decide +kernel
theorem dX5_begin_7 : decode cX5_begin 7 = .ok (.aload_n 0, 1) := by decide +kernel
theorem dX5_begin_8 : decode cX5_begin 8 = .ok (.iconst 1, 1) := by decide +kernel
theorem dX5_begin_9 : decode cX5_begin 9 = .ok (.putfield 26, 3) := by decide +kernel
theorem dX5_begin_12 : decode cX5_begin 12 = .ok (.aload_n 0, 1) := by decide +kernel
theorem dX5_begin_13 : decode cX5_begin 13 = .ok (.iconst 2, 1) := by decide +kernel
theorem dX5_begin_14 : decode cX5_begin 14 = .ok (.iload_n 1, 1) := by decide +kernel
theorem dX5_begin_15 : decode cX5_begin 15 = .ok (.i2l, 1) := by decide +kernel
theorem dX5_begin_16 : decode cX5_begin 16 = .ok (.iload_n 2, 1) := by decide +kernel
theorem dX5_begin_17 : decode cX5_begin 17 = .ok (.invokevirtual 47, 3) := by decide +kernel
theorem dX5_begin_20 : decode cX5_begin 20 = .ok (.goto 60, 3) := by decide +kernel
theorem dX5_begin_23 : decode cX5_begin 23 = .ok (.iload_n 1, 1) := by decide +kernel
theorem dX5_begin_24 : decode cX5_begin 24 = .ok (.invokestatic 33, 3) := by decide +kernel
theorem dX5_begin_27 : decode cX5_begin 27 = .ok (.ifCond .eq 17, 3) := by decide +kernel
theorem dX5_begin_30 : decode cX5_begin 30 = .ok (.aload_n 0, 1) := by decide +kernel
theorem dX5_begin_31 : decode cX5_begin 31 = .ok (.iconst 3, 1) := by decide +kernel
theorem dX5_begin_32 : decode cX5_begin 32 = .ok (.iload_n 1, 1) := by decide +kernel
theorem dX5_begin_33 : decode cX5_begin 33 = .ok (.bipush 48, 2) := by decide +kernel
theorem dX5_begin_35 : decode cX5_begin 35 = .ok (.isub, 1) := by decide +kernel
theorem dX5_begin_36 : decode cX5_begin 36 = .ok (.i2l, 1) := by decide +kernel
theorem dX5_begin_37 : decode cX5_begin 37 = .ok (.iload_n 2, 1) := by decide +kernel
theorem dX5_begin_38 : decode cX5_begin 38 = .ok (.invokevirtual 47, 3) := by decide +kernel
theorem dX5_begin_41 : decode cX5_begin 41 = .ok (.goto 39, 3) := by decide +kernel
theorem dX5_begin_44 : decode cX5_begin 44 = .ok (.iload_n 1, 1) := by decide +kernel
theorem dX5_begin_45 : decode cX5_begin 45 = .ok (.invokestatic 51, 3) := by decide +kernel
theorem dX5_begin_48 : decode cX5_begin 48 = .ok (.ifCond .eq 13, 3) := by decide +kernel
theorem dX5_begin_51 : decode cX5_begin 51 = .ok (.aload_n 0, 1) := by decide +kernel
theorem dX5_begin_52 : decode cX5_begin 52 = .ok (.iload_n 1, 1) := by decide +kernel
theorem dX5_begin_53 : decode cX5_begin 53 = .ok (.lconst 0, 1) := by decide +kernel
theorem dX5_begin_54 : decode cX5_begin 54 = .ok (.iload_n 2, 1) := by decide +kernel
theorem dX5_begin_55 : decode cX5_begin 55 = .ok (.invokevirtual 47, 3) := by decide +kernel
theorem dX5_begin_58 : decode cX5_begin 58 = .ok (.goto 22, 3) := by decide +kernel
theorem dX5_begin_61 : decode cX5_begin 61 = .ok (.iload_n 1, 1) := by decide +kernel
theorem dX5_begin_62 : decode cX5_begin 62 = .ok (.bipush 32, 2) := by decide +kernel
theorem dX5_begin_64 : decode cX5_begin 64 = .ok (.if_icmp .eq 16, 3) := by decide +kernel
theorem dX5_begin_67 : decode cX5_begin 67 = .ok (.iload_n 1, 1) := by decide +kernel
theorem dX5_begin_68 : decode cX5_begin 68 = .ok (.bipush 10, 2) := by decide +kernel
theorem dX5_begin_70 : decode cX5_begin 70 = .ok (.if_icmp .eq 10, 3) := by decide +kernel
theorem dX5_begin_73 : decode cX5_begin 73 = .ok (.aload_n 0, 1) := by decide +kernel
theorem dX5_begin_74 : decode cX5_begin 74 = .ok (.iconst 1, 1) := by decide +kernel
theorem dX5_begin_75 : decode cX5_begin 75 = .ok (.lconst 0, 1) := by decide +kernel
theorem dX5_begin_76 : decode cX5_begin 76 = .ok (.iload_n 2, 1) := by decide +kernel
theorem dX5_begin_77 : decode cX5_begin 77 = .ok (.invokevirtual 47, 3) := by decide +kernel
theorem dX5_begin_80 : decode cX5_begin 80 = .ok (.return_, 1) := by decide +kernel
theorem dX5_add_0 : decode cX5_add 0 = .ok (.aload_n 0, 1) := by decide +kernel
theorem dX5_add_1 : decode cX5_add 1 = .ok (.getfield 22, 3) := by decide +kernel
theorem dX5_add_4 : decode cX5_add 4 = .ok (.aload_n 0, 1) := by decide +kernel
theorem dX5_add_5 : decode cX5_add 5 = .ok (.getfield 9, 3) := by decide +kernel
theorem dX5_add_8 : decode cX5_add 8 = .ok (.arraylength, 1) := by decide +kernel
theorem dX5_add_9 : decode cX5_add 9 = .ok (.if_icmp .ge 44, 3) := by decide +kernel
theorem dX5_add_12 : decode cX5_add 12 = .ok (.aload_n 0, 1) := by decide +kernel
theorem dX5_add_13 : decode cX5_add 13 = .ok (.getfield 9, 3) := by decide +kernel
theorem dX5_add_16 : decode cX5_add 16 = .ok (.aload_n 0, 1) := by decide +kernel
theorem dX5_add_17 : decode cX5_add 17 = .ok (.getfield 22, 3) := by decide +kernel
theorem dX5_add_20 : decode cX5_add 20 = .ok (.iload_n 1, 1) := by decide +kernel
theorem dX5_add_21 : decode cX5_add 21 = .ok (.iastore, 1) := by decide +kernel
theorem dX5_add_22 : decode cX5_add 22 = .ok (.aload_n 0, 1) := by decide +kernel
theorem dX5_add_23 : decode cX5_add 23 = .ok (.getfield 15, 3) := by decide +kernel
theorem dX5_add_26 : decode cX5_add 26 = .ok (.aload_n 0, 1) := by decide +kernel
theorem dX5_add_27 : decode cX5_add 27 = .ok (.getfield 22, 3) := by decide +kernel
theorem dX5_add_30 : decode cX5_add 30 = .ok (.lload_n 2, 1) := by decide +kernel
theorem dX5_add_31 : decode cX5_add 31 = .ok (.lastore, 1) := by decide +kernel
theorem dX5_add_32 : decode cX5_add 32 = .ok (.aload_n 0, 1) := by decide +kernel
theorem dX5_add_33 : decode cX5_add 33 = .ok (.getfield 19, 3) := by decide +kernel
theorem dX5_add_36 : decode cX5_add 36 = .ok (.aload_n 0, 1) := by decide +kernel
theorem dX5_add_37 : decode cX5_add 37 = .ok (.getfield 22, 3) := by decide +kernel
theorem dX5_add_40 : decode cX5_add 40 = .ok (.iload 4, 2) := by decide +kernel
theorem dX5_add_42 : decode cX5_add 42 = .ok (.iastore, 1) := by decide +kernel
theorem dX5_add_43 : decode cX5_add 43 = .ok (.aload_n 0, 1) := by decide +kernel
theorem dX5_add_44 : decode cX5_add 44 = .ok (.dup, 1) := by decide +kernel
theorem dX5_add_45 : decode cX5_add 45 = .ok (.getfield 22, 3) := by decide +kernel
theorem dX5_add_48 : decode cX5_add 48 = .ok (.iconst 1, 1) := by decide +kernel
theorem dX5_add_49 : decode cX5_add 49 = .ok (.iadd, 1) := by decide +kernel
theorem dX5_add_50 : decode cX5_add 50 = .ok (.putfield 22, 3) := by decide +kernel
theorem dX5_add_53 : decode cX5_add 53 = .ok (.return_, 1) := by decide +kernel
theorem dX5_lengthenWord_0 : decode cX5_lengthenWord 0 = .ok (.aload_n 0, 1) := by decide +kernel
theorem dX5_lengthenWord_1 : decode cX5_lengthenWord 1 = .ok (.dup, 1) := by decide +kernel
theorem dX5_lengthenWord_2 : decode cX5_lengthenWord 2 = .ok (.getfield 26, 3) := by decide +kernel
theorem dX5_lengthenWord_5 : decode cX5_lengthenWord 5 = .ok (.iconst 1, 1) := by decide +kernel
theorem dX5_lengthenWord_6 : decode cX5_lengthenWord 6 = .ok (.iadd, 1) := by decide +kernel
theorem dX5_lengthenWord_7 : decode cX5_lengthenWord 7 = .ok (.putfield 26, 3) := by decide +kernel
theorem dX5_lengthenWord_10 : decode cX5_lengthenWord 10 = .ok (.aload_n 0, 1) := by decide +kernel
theorem dX5_lengthenWord_11 : decode cX5_lengthenWord 11 = .ok (.getfield 15, 3) := by decide +kernel
theorem dX5_lengthenWord_14 : decode cX5_lengthenWord 14 = .ok (.aload_n 0, 1) := by decide +kernel
theorem dX5_lengthenWord_15 : decode cX5_lengthenWord 15 = .ok (.getfield 22, 3) := by decide +kernel
theorem dX5_lengthenWord_18 : decode cX5_lengthenWord 18 = .ok (.iconst 1, 1) := by decide +kernel
theorem dX5_lengthenWord_19 : decode cX5_lengthenWord 19 = .ok (.isub, 1) := by decide +kernel
theorem dX5_lengthenWord_20 : decode cX5_lengthenWord 20 = .ok (.aload_n 0, 1) := by decide +kernel
theorem dX5_lengthenWord_21 : decode cX5_lengthenWord 21 = .ok (.getfield 15, 3) := by decide +kernel
theorem dX5_lengthenWord_24 : decode cX5_lengthenWord 24 = .ok (.aload_n 0, 1) := by decide +kernel
theorem dX5_lengthenWord_25 : decode cX5_lengthenWord 25 = .ok (.getfield 22, 3) := by decide +kernel
theorem dX5_lengthenWord_28 : decode cX5_lengthenWord 28 = .ok (.iconst 1, 1) := by decide +kernel
theorem dX5_lengthenWord_29 : decode cX5_lengthenWord 29 = .ok (.isub, 1) := by decide +kernel
theorem dX5_lengthenWord_30 : decode cX5_lengthenWord 30 = .ok (.laload, 1) := by decide +kernel
theorem dX5_lengthenWord_31 : decode cX5_lengthenWord 31 = .ok (.bipush 8, 2) := by decide +kernel
theorem dX5_lengthenWord_33 : decode cX5_lengthenWord 33 = .ok (.lshl, 1) := by decide +kernel
theorem dX5_lengthenWord_34 : decode cX5_lengthenWord 34 = .ok (.iload_n 1, 1) := by decide +kernel
theorem dX5_lengthenWord_35 : decode cX5_lengthenWord 35 = .ok (.i2l, 1) := by decide +kernel
theorem dX5_lengthenWord_36 : decode cX5_lengthenWord 36 = .ok (.lor, 1) := by decide +kernel
theorem dX5_lengthenWord_37 : decode cX5_lengthenWord 37 = .ok (.lastore, 1) := by decide +kernel
theorem dX5_lengthenWord_38 : decode cX5_lengthenWord 38 = .ok (.return_, 1) := by decide +kernel
theorem dX5_endWord_0 : decode cX5_endWord 0 = .ok (.aload_n 0, 1) := by decide +kernel
theorem dX5_endWord_1 : decode cX5_endWord 1 = .ok (.getfield 26, 3) := by decide +kernel
theorem dX5_endWord_4 : decode cX5_endWord 4 = .ok (.bipush 8, 2) := by decide +kernel
theorem dX5_endWord_6 : decode cX5_endWord 6 = .ok (.if_icmp .le 18, 3) := by decide +kernel
theorem dX5_endWord_9 : decode cX5_endWord 9 = .ok (.aload_n 0, 1) := by decide +kernel
theorem dX5_endWord_10 : decode cX5_endWord 10 = .ok (.getfield 9, 3) := by decide +kernel
theorem dX5_endWord_13 : decode cX5_endWord 13 = .ok (.aload_n 0, 1) := by decide +kernel
theorem dX5_endWord_14 : decode cX5_endWord 14 = .ok (.getfield 22, 3) := by decide +kernel
theorem dX5_endWord_17 : decode cX5_endWord 17 = .ok (.iconst 1, 1) := by decide +kernel
theorem dX5_endWord_18 : decode cX5_endWord 18 = .ok (.isub, 1) := by decide +kernel
theorem dX5_endWord_19 : decode cX5_endWord 19 = .ok (.iconst 1, 1) := by decide +kernel
theorem dX5_endWord_20 : decode cX5_endWord 20 = .ok (.iastore, 1) := by decide +kernel
theorem dX5_endWord_21 : decode cX5_endWord 21 = .ok (.goto 35, 3) := by decide +kernel
theorem dX5_endWord_24 : decode cX5_endWord 24 = .ok (.aload_n 0, 1) := by decide +kernel
theorem dX5_endWord_25 : decode cX5_endWord 25 = .ok (.getfield 26, 3) := by decide +kernel
theorem dX5_endWord_28 : decode cX5_endWord 28 = .ok (.ifCond .le 28, 3) := by decide +kernel
theorem dX5_endWord_31 : decode cX5_endWord 31 = .ok (.aload_n 0, 1) := by decide +kernel
theorem dX5_endWord_32 : decode cX5_endWord 32 = .ok (.getfield 9, 3) := by decide +kernel
theorem dX5_endWord_35 : decode cX5_endWord 35 = .ok (.aload_n 0, 1) := by decide +kernel
theorem dX5_endWord_36 : decode cX5_endWord 36 = .ok (.getfield 22, 3) := by decide +kernel
theorem dX5_endWord_39 : decode cX5_endWord 39 = .ok (.iconst 1, 1) := by decide +kernel
theorem dX5_endWord_40 : decode cX5_endWord 40 = .ok (.isub, 1) := by decide +kernel
theorem dX5_endWord_41 : decode cX5_endWord 41 = .ok (.aload_n 0, 1) := by decide +kernel
theorem dX5_endWord_42 : decode cX5_endWord 42 = .ok (.getfield 15, 3) := by decide +kernel
theorem dX5_endWord_45 : decode cX5_endWord 45 = .ok (.aload_n 0, 1) := by decide +kernel
theorem dX5_endWord_46 : decode cX5_endWord 46 = .ok (.getfield 22, 3) := by decide +kernel
theorem dX5_endWord_49 : decode cX5_endWord 49 = .ok (.iconst 1, 1) := by decide +kernel
theorem dX5_endWord_50 : decode cX5_endWord 50 = .ok (.isub, 1) := by decide +kernel
theorem dX5_endWord_51 : decode cX5_endWord 51 = .ok (.laload, 1) := by decide +kernel
theorem dX5_endWord_52 : decode cX5_endWord 52 = .ok (.invokestatic 54, 3) := by decide +kernel
theorem dX5_endWord_55 : decode cX5_endWord 55 = .ok (.iastore, 1) := by decide +kernel
theorem dX5_endWord_56 : decode cX5_endWord 56 = .ok (.aload_n 0, 1) := by decide +kernel
theorem dX5_endWord_57 : decode cX5_endWord 57 = .ok (.iconst 0, 1) := by decide +kernel
theorem dX5_endWord_58 : decode cX5_endWord 58 = .ok (.putfield 26, 3) := by decide +kernel
theorem dX5_endWord_61 : decode cX5_endWord 61 = .ok (.return_, 1) := by decide +kernel
theorem dX5_sortOfWord_0 : decode cX5_sortOfWord 0 = .ok (.iconst 0, 1) := by decide +kernel
theorem dX5_sortOfWord_1 : decode cX5_sortOfWord 1 = .ok (.istore_n 2, 1) := by decide +kernel
theorem dX5_sortOfWord_2 : decode cX5_sortOfWord 2 = .ok (.iload_n 2, 1) := by decide +kernel
theorem dX5_sortOfWord_3 : decode cX5_sortOfWord 3 = .ok (.getstatic 58, 3) := by decide +kernel
theorem dX5_sortOfWord_6 : decode cX5_sortOfWord 6 = .ok (.arraylength, 1) := by decide +kernel
theorem dX5_sortOfWord_7 : decode cX5_sortOfWord 7 = .ok (.if_icmp .ge 25, 3) := by decide +kernel
theorem dX5_sortOfWord_10 : decode cX5_sortOfWord 10 = .ok (.getstatic 58, 3) := by decide +kernel
theorem dX5_sortOfWord_13 : decode cX5_sortOfWord 13 = .ok (.iload_n 2, 1) := by decide +kernel
theorem dX5_sortOfWord_14 : decode cX5_sortOfWord 14 = .ok (.laload, 1) := by decide +kernel
theorem dX5_sortOfWord_15 : decode cX5_sortOfWord 15 = .ok (.lload_n 0, 1) := by decide +kernel
theorem dX5_sortOfWord_16 : decode cX5_sortOfWord 16 = .ok (.lcmp, 1) := by decide +kernel
theorem dX5_sortOfWord_17 : decode cX5_sortOfWord 17 = .ok (.ifCond .ne 9, 3) := by decide +kernel
theorem dX5_sortOfWord_20 : decode cX5_sortOfWord 20 = .ok (.sipush 200, 3) := by decide +kernel
theorem dX5_sortOfWord_23 : decode cX5_sortOfWord 23 = .ok (.iload_n 2, 1) := by decide +kernel
theorem dX5_sortOfWord_24 : decode cX5_sortOfWord 24 = .ok (.iadd, 1) := by decide +kernel
theorem dX5_sortOfWord_25 : decode cX5_sortOfWord 25 = .ok (.ireturn, 1) := by decide +kernel
theorem dX5_sortOfWord_26 : decode cX5_sortOfWord 26 = .ok (.iinc 2 1, 3) := by decide +kernel
theorem dX5_sortOfWord_29 : decode cX5_sortOfWord 29 = .ok (.goto (-27), 3) := by decide +kernel
theorem dX5_sortOfWord_32 : decode cX5_sortOfWord 32 = .ok (.iconst 2, 1) := by decide +kernel
theorem dX5_sortOfWord_33 : decode cX5_sortOfWord 33 = .ok (.ireturn, 1) := by decide +kernel
theorem dX5_isLetter_0 : decode cX5_isLetter 0 = .ok (.iload_n 0, 1) := by decide +kernel
theorem dX5_isLetter_1 : decode cX5_isLetter 1 = .ok (.bipush 97, 2) := by decide +kernel
theorem dX5_isLetter_3 : decode cX5_isLetter 3 = .ok (.if_icmp .lt 9, 3) := by decide +kernel
theorem dX5_isLetter_6 : decode cX5_isLetter 6 = .ok (.iload_n 0, 1) := by decide +kernel
theorem dX5_isLetter_7 : decode cX5_isLetter 7 = .ok (.bipush 122, 2) := by decide +kernel
theorem dX5_isLetter_9 : decode cX5_isLetter 9 = .ok (.if_icmp .le 15, 3) := by decide +kernel
theorem dX5_isLetter_12 : decode cX5_isLetter 12 = .ok (.iload_n 0, 1) := by decide +kernel
theorem dX5_isLetter_13 : decode cX5_isLetter 13 = .ok (.bipush 65, 2) := by decide +kernel
theorem dX5_isLetter_15 : decode cX5_isLetter 15 = .ok (.if_icmp .lt 13, 3) := by decide +kernel
theorem dX5_isLetter_18 : decode cX5_isLetter 18 = .ok (.iload_n 0, 1) := by decide +kernel
theorem dX5_isLetter_19 : decode cX5_isLetter 19 = .ok (.bipush 90, 2) := by decide +kernel
theorem dX5_isLetter_21 : decode cX5_isLetter 21 = .ok (.if_icmp .gt 7, 3) := by decide +kernel
theorem dX5_isLetter_24 : decode cX5_isLetter 24 = .ok (.iconst 1, 1) := by decide +kernel
theorem dX5_isLetter_25 : decode cX5_isLetter 25 = .ok (.goto 4, 3) := by decide +kernel
theorem dX5_isLetter_28 : decode cX5_isLetter 28 = .ok (.iconst 0, 1) := by decide +kernel
theorem dX5_isLetter_29 : decode cX5_isLetter 29 = .ok (.ireturn, 1) := by decide +kernel
theorem dX5_isDigit_0 : decode cX5_isDigit 0 = .ok (.iload_n 0, 1) := by decide +kernel
theorem dX5_isDigit_1 : decode cX5_isDigit 1 = .ok (.bipush 48, 2) := by decide +kernel
theorem dX5_isDigit_3 : decode cX5_isDigit 3 = .ok (.if_icmp .lt 13, 3) := by decide +kernel
theorem dX5_isDigit_6 : decode cX5_isDigit 6 = .ok (.iload_n 0, 1) := by decide +kernel
theorem dX5_isDigit_7 : decode cX5_isDigit 7 = .ok (.bipush 57, 2) := by decide +kernel
theorem dX5_isDigit_9 : decode cX5_isDigit 9 = .ok (.if_icmp .gt 7, 3) := by decide +kernel
theorem dX5_isDigit_12 : decode cX5_isDigit 12 = .ok (.iconst 1, 1) := by decide +kernel
theorem dX5_isDigit_13 : decode cX5_isDigit 13 = .ok (.goto 4, 3) := by decide +kernel
theorem dX5_isDigit_16 : decode cX5_isDigit 16 = .ok (.iconst 0, 1) := by decide +kernel
theorem dX5_isDigit_17 : decode cX5_isDigit 17 = .ok (.ireturn, 1) := by decide +kernel
theorem dX5_isSign_0 : decode cX5_isSign 0 = .ok (.iload_n 0, 1) := by decide +kernel
theorem dX5_isSign_1 : decode cX5_isSign 1 = .ok (.bipush 59, 2) := by decide +kernel
theorem dX5_isSign_3 : decode cX5_isSign 3 = .ok (.if_icmp .eq 51, 3) := by decide +kernel
theorem dX5_isSign_6 : decode cX5_isSign 6 = .ok (.iload_n 0, 1) := by decide +kernel
theorem dX5_isSign_7 : decode cX5_isSign 7 = .ok (.bipush 44, 2) := by decide +kernel
theorem dX5_isSign_9 : decode cX5_isSign 9 = .ok (.if_icmp .eq 45, 3) := by decide +kernel
theorem dX5_isSign_12 : decode cX5_isSign 12 = .ok (.iload_n 0, 1) := by decide +kernel
theorem dX5_isSign_13 : decode cX5_isSign 13 = .ok (.bipush 58, 2) := by decide +kernel
theorem dX5_isSign_15 : decode cX5_isSign 15 = .ok (.if_icmp .eq 39, 3) := by decide +kernel
theorem dX5_isSign_18 : decode cX5_isSign 18 = .ok (.iload_n 0, 1) := by decide +kernel
theorem dX5_isSign_19 : decode cX5_isSign 19 = .ok (.bipush 123, 2) := by decide +kernel
theorem dX5_isSign_21 : decode cX5_isSign 21 = .ok (.if_icmp .eq 33, 3) := by decide +kernel
theorem dX5_isSign_24 : decode cX5_isSign 24 = .ok (.iload_n 0, 1) := by decide +kernel
theorem dX5_isSign_25 : decode cX5_isSign 25 = .ok (.bipush 125, 2) := by decide +kernel
theorem dX5_isSign_27 : decode cX5_isSign 27 = .ok (.if_icmp .eq 27, 3) := by decide +kernel
theorem dX5_isSign_30 : decode cX5_isSign 30 = .ok (.iload_n 0, 1) := by decide +kernel
theorem dX5_isSign_31 : decode cX5_isSign 31 = .ok (.bipush 40, 2) := by decide +kernel
theorem dX5_isSign_33 : decode cX5_isSign 33 = .ok (.if_icmp .eq 21, 3) := by decide +kernel
theorem dX5_isSign_36 : decode cX5_isSign 36 = .ok (.iload_n 0, 1) := by decide +kernel
theorem dX5_isSign_37 : decode cX5_isSign 37 = .ok (.bipush 41, 2) := by decide +kernel
theorem dX5_isSign_39 : decode cX5_isSign 39 = .ok (.if_icmp .eq 15, 3) := by decide +kernel
theorem dX5_isSign_42 : decode cX5_isSign 42 = .ok (.iload_n 0, 1) := by decide +kernel
theorem dX5_isSign_43 : decode cX5_isSign 43 = .ok (.bipush 60, 2) := by decide +kernel
theorem dX5_isSign_45 : decode cX5_isSign 45 = .ok (.if_icmp .eq 9, 3) := by decide +kernel
theorem dX5_isSign_48 : decode cX5_isSign 48 = .ok (.iload_n 0, 1) := by decide +kernel
theorem dX5_isSign_49 : decode cX5_isSign 49 = .ok (.bipush 62, 2) := by decide +kernel
theorem dX5_isSign_51 : decode cX5_isSign 51 = .ok (.if_icmp .ne 7, 3) := by decide +kernel
theorem dX5_isSign_54 : decode cX5_isSign 54 = .ok (.iconst 1, 1) := by decide +kernel
theorem dX5_isSign_55 : decode cX5_isSign 55 = .ok (.goto 4, 3) := by decide +kernel
theorem dX5_isSign_58 : decode cX5_isSign 58 = .ok (.iconst 0, 1) := by decide +kernel
theorem dX5_isSign_59 : decode cX5_isSign 59 = .ok (.ireturn, 1) := by decide +kernel
theorem dX6_init_0 : decode cX6_init 0 = .ok (.aload_n 0, 1) := by decide +kernel
theorem dX6_init_1 : decode cX6_init 1 = .ok (.invokespecial 3, 3) := by decide +kernel
theorem dX6_init_4 : decode cX6_init 4 = .ok (.aload_n 0, 1) := by decide +kernel
theorem dX6_init_5 : decode cX6_init 5 = .ok (.iconst 2, 1) := by decide +kernel
theorem dX6_init_6 : decode cX6_init 6 = .ok (.newarray .long, 2) := by decide +kernel
theorem dX6_init_8 : decode cX6_init 8 = .ok (.putfield 9, 3) := by decide +kernel
theorem dX6_init_11 : decode cX6_init 11 = .ok (.aload_n 0, 1) := by decide +kernel
theorem dX6_init_12 : decode cX6_init 12 = .ok (.iconst 2, 1) := by decide +kernel
theorem dX6_init_13 : decode cX6_init 13 = .ok (.newarray .int, 2) := by decide +kernel
theorem dX6_init_15 : decode cX6_init 15 = .ok (.putfield 15, 3) := by decide +kernel
theorem dX6_init_18 : decode cX6_init 18 = .ok (.aload_n 0, 1) := by decide +kernel
theorem dX6_init_19 : decode cX6_init 19 = .ok (.iconst 4, 1) := by decide +kernel
theorem dX6_init_20 : decode cX6_init 20 = .ok (.newarray .int, 2) := by decide +kernel
theorem dX6_init_22 : decode cX6_init 22 = .ok (.putfield 19, 3) := by decide +kernel
theorem dX6_init_25 : decode cX6_init 25 = .ok (.aload_n 0, 1) := by decide +kernel
theorem dX6_init_26 : decode cX6_init 26 = .ok (.bipush 24, 2) := by decide +kernel
theorem dX6_init_28 : decode cX6_init 28 = .ok (.newarray .int, 2) := by decide +kernel
theorem dX6_init_30 : decode cX6_init 30 = .ok (.putfield 22, 3) := by decide +kernel
theorem dX6_init_33 : decode cX6_init 33 = .ok (.aload_n 0, 1) := by decide +kernel
theorem dX6_init_34 : decode cX6_init 34 = .ok (.bipush 48, 2) := by decide +kernel
theorem dX6_init_36 : decode cX6_init 36 = .ok (.newarray .int, 2) := by decide +kernel
theorem dX6_init_38 : decode cX6_init 38 = .ok (.putfield 25, 3) := by decide +kernel
theorem dX6_init_41 : decode cX6_init 41 = .ok (.aload_n 0, 1) := by decide +kernel
theorem dX6_init_42 : decode cX6_init 42 = .ok (.iload_n 1, 1) := by decide +kernel
theorem dX6_init_43 : decode cX6_init 43 = .ok (.putfield 28, 3) := by decide +kernel
theorem dX6_init_46 : decode cX6_init 46 = .ok (.return_, 1) := by decide +kernel
theorem dX6_clear_0 : decode cX6_clear 0 = .ok (.aload_n 0, 1) := by decide +kernel
theorem dX6_clear_1 : decode cX6_clear 1 = .ok (.iload_n 1, 1) := by decide +kernel
theorem dX6_clear_2 : decode cX6_clear 2 = .ok (.putfield 32, 3) := by decide +kernel
theorem dX6_clear_5 : decode cX6_clear 5 = .ok (.aload_n 0, 1) := by decide +kernel
theorem dX6_clear_6 : decode cX6_clear 6 = .ok (.iload_n 2, 1) := by decide +kernel
theorem dX6_clear_7 : decode cX6_clear 7 = .ok (.putfield 35, 3) := by decide +kernel
theorem dX6_clear_10 : decode cX6_clear 10 = .ok (.aload_n 0, 1) := by decide +kernel
theorem dX6_clear_11 : decode cX6_clear 11 = .ok (.iload_n 3, 1) := by decide +kernel
theorem dX6_clear_12 : decode cX6_clear 12 = .ok (.putfield 38, 3) := by decide +kernel
theorem dX6_clear_15 : decode cX6_clear 15 = .ok (.aload_n 0, 1) := by decide +kernel
theorem dX6_clear_16 : decode cX6_clear 16 = .ok (.iload 4, 2) := by decide +kernel
theorem dX6_clear_18 : decode cX6_clear 18 = .ok (.putfield 41, 3) := by decide +kernel
theorem dX6_clear_21 : decode cX6_clear 21 = .ok (.aload_n 0, 1) := by decide +kernel
theorem dX6_clear_22 : decode cX6_clear 22 = .ok (.lconst 0, 1) := by decide +kernel
theorem dX6_clear_23 : decode cX6_clear 23 = .ok (.putfield 44, 3) := by decide +kernel
theorem dX6_clear_26 : decode cX6_clear 26 = .ok (.aload_n 0, 1) := by decide +kernel
theorem dX6_clear_27 : decode cX6_clear 27 = .ok (.aload_n 0, 1) := by decide +kernel
theorem dX6_clear_28 : decode cX6_clear 28 = .ok (.getfield 28, 3) := by decide +kernel
theorem dX6_clear_31 : decode cX6_clear 31 = .ok (.putfield 48, 3) := by decide +kernel
theorem dX6_clear_34 : decode cX6_clear 34 = .ok (.aload_n 0, 1) := by decide +kernel
theorem dX6_clear_35 : decode cX6_clear 35 = .ok (.iconst 0, 1) := by decide +kernel
theorem dX6_clear_36 : decode cX6_clear 36 = .ok (.putfield 51, 3) := by decide +kernel
theorem dX6_clear_39 : decode cX6_clear 39 = .ok (.aload_n 0, 1) := by decide +kernel
theorem dX6_clear_40 : decode cX6_clear 40 = .ok (.iconst 0, 1) := by decide +kernel
theorem dX6_clear_41 : decode cX6_clear 41 = .ok (.putfield 54, 3) := by decide +kernel
theorem dX6_clear_44 : decode cX6_clear 44 = .ok (.aload_n 0, 1) := by decide +kernel
theorem dX6_clear_45 : decode cX6_clear 45 = .ok (.iconst (-1), 1) := by decide +kernel
theorem dX6_clear_46 : decode cX6_clear 46 = .ok (.putfield 57, 3) := by decide +kernel
theorem dX6_clear_49 : decode cX6_clear 49 = .ok (.aload_n 0, 1) := by decide +kernel
theorem dX6_clear_50 : decode cX6_clear 50 = .ok (.iconst 0, 1) := by decide +kernel
theorem dX6_clear_51 : decode cX6_clear 51 = .ok (.putfield 60, 3) := by decide +kernel
theorem dX6_clear_54 : decode cX6_clear 54 = .ok (.aload_n 0, 1) := by decide +kernel
theorem dX6_clear_55 : decode cX6_clear 55 = .ok (.iconst 0, 1) := by decide +kernel
theorem dX6_clear_56 : decode cX6_clear 56 = .ok (.putfield 63, 3) := by decide +kernel
theorem dX6_clear_59 : decode cX6_clear 59 = .ok (.aload_n 0, 1) := by decide +kernel
theorem dX6_clear_60 : decode cX6_clear 60 = .ok (.iconst 0, 1) := by decide +kernel
theorem dX6_clear_61 : decode cX6_clear 61 = .ok (.putfield 66, 3) := by decide +kernel
theorem dX6_clear_64 : decode cX6_clear 64 = .ok (.aload_n 0, 1) := by decide +kernel
theorem dX6_clear_65 : decode cX6_clear 65 = .ok (.iconst 0, 1) := by decide +kernel
theorem dX6_clear_66 : decode cX6_clear 66 = .ok (.putfield 69, 3) := by decide +kernel
theorem dX6_clear_69 : decode cX6_clear 69 = .ok (.aload_n 0, 1) := by decide +kernel
theorem dX6_clear_70 : decode cX6_clear 70 = .ok (.iconst 0, 1) := by decide +kernel
theorem dX6_clear_71 : decode cX6_clear 71 = .ok (.putfield 72, 3) := by decide +kernel
theorem dX6_clear_74 : decode cX6_clear 74 = .ok (.return_, 1) := by decide +kernel
theorem dX6_isFace_0 : decode cX6_isFace 0 = .ok (.aload_n 0, 1) := by decide +kernel
theorem dX6_isFace_1 : decode cX6_isFace 1 = .ok (.getfield 32, 3) := by decide +kernel
theorem dX6_isFace_4 : decode cX6_isFace 4 = .ok (.iconst 2, 1) := by decide +kernel
theorem dX6_isFace_5 : decode cX6_isFace 5 = .ok (.if_icmp .ne 7, 3) := by decide +kernel
theorem dX6_isFace_8 : decode cX6_isFace 8 = .ok (.iconst 1, 1) := by decide +kernel
theorem dX6_isFace_9 : decode cX6_isFace 9 = .ok (.goto 4, 3) := by decide +kernel
theorem dX6_isFace_12 : decode cX6_isFace 12 = .ok (.iconst 0, 1) := by decide +kernel
theorem dX6_isFace_13 : decode cX6_isFace 13 = .ok (.ireturn, 1) := by decide +kernel
theorem dX6_isBelow_0 : decode cX6_isBelow 0 = .ok (.aload_n 0, 1) := by decide +kernel
theorem dX6_isBelow_1 : decode cX6_isBelow 1 = .ok (.getfield 63, 3) := by decide +kernel
theorem dX6_isBelow_4 : decode cX6_isBelow 4 = .ok (.iload_n 1, 1) := by decide +kernel
theorem dX6_isBelow_5 : decode cX6_isBelow 5 = .ok (.iushr, 1) := by decide +kernel
theorem dX6_isBelow_6 : decode cX6_isBelow 6 = .ok (.iconst 1, 1) := by decide +kernel
theorem dX6_isBelow_7 : decode cX6_isBelow 7 = .ok (.iand, 1) := by decide +kernel
theorem dX6_isBelow_8 : decode cX6_isBelow 8 = .ok (.ifCond .eq 7, 3) := by decide +kernel
theorem dX6_isBelow_11 : decode cX6_isBelow 11 = .ok (.iconst 1, 1) := by decide +kernel
theorem dX6_isBelow_12 : decode cX6_isBelow 12 = .ok (.goto 4, 3) := by decide +kernel
theorem dX6_isBelow_15 : decode cX6_isBelow 15 = .ok (.iconst 0, 1) := by decide +kernel
theorem dX6_isBelow_16 : decode cX6_isBelow 16 = .ok (.ireturn, 1) := by decide +kernel
theorem dX6_varNamed_0 : decode cX6_varNamed 0 = .ok (.iconst 0, 1) := by decide +kernel
theorem dX6_varNamed_1 : decode cX6_varNamed 1 = .ok (.istore_n 3, 1) := by decide +kernel
theorem dX6_varNamed_2 : decode cX6_varNamed 2 = .ok (.iload_n 3, 1) := by decide +kernel
theorem dX6_varNamed_3 : decode cX6_varNamed 3 = .ok (.aload_n 0, 1) := by decide +kernel
theorem dX6_varNamed_4 : decode cX6_varNamed 4 = .ok (.getfield 51, 3) := by decide +kernel
theorem dX6_varNamed_7 : decode cX6_varNamed 7 = .ok (.if_icmp .ge 22, 3) := by decide +kernel
theorem dX6_varNamed_10 : decode cX6_varNamed 10 = .ok (.aload_n 0, 1) := by decide +kernel
theorem dX6_varNamed_11 : decode cX6_varNamed 11 = .ok (.getfield 9, 3) := by decide +kernel
theorem dX6_varNamed_14 : decode cX6_varNamed 14 = .ok (.iload_n 3, 1) := by decide +kernel
theorem dX6_varNamed_15 : decode cX6_varNamed 15 = .ok (.laload, 1) := by decide +kernel
theorem dX6_varNamed_16 : decode cX6_varNamed 16 = .ok (.lload_n 1, 1) := by decide +kernel
theorem dX6_varNamed_17 : decode cX6_varNamed 17 = .ok (.lcmp, 1) := by decide +kernel
theorem dX6_varNamed_18 : decode cX6_varNamed 18 = .ok (.ifCond .ne 5, 3) := by decide +kernel
theorem dX6_varNamed_21 : decode cX6_varNamed 21 = .ok (.iload_n 3, 1) := by decide +kernel
theorem dX6_varNamed_22 : decode cX6_varNamed 22 = .ok (.ireturn, 1) := by decide +kernel
theorem dX6_varNamed_23 : decode cX6_varNamed 23 = .ok (.iinc 3 1, 3) := by decide +kernel
theorem dX6_varNamed_26 : decode cX6_varNamed 26 = .ok (.goto (-24), 3) := by decide +kernel
theorem dX6_varNamed_29 : decode cX6_varNamed 29 = .ok (.iconst (-1), 1) := by decide +kernel
theorem dX6_varNamed_30 : decode cX6_varNamed 30 = .ok (.ireturn, 1) := by decide +kernel
theorem dX6_hasRef_0 : decode cX6_hasRef 0 = .ok (.iconst 0, 1) := by decide +kernel
theorem dX6_hasRef_1 : decode cX6_hasRef 1 = .ok (.istore_n 2, 1) := by decide +kernel
theorem dX6_hasRef_2 : decode cX6_hasRef 2 = .ok (.iload_n 2, 1) := by decide +kernel
theorem dX6_hasRef_3 : decode cX6_hasRef 3 = .ok (.aload_n 0, 1) := by decide +kernel
theorem dX6_hasRef_4 : decode cX6_hasRef 4 = .ok (.getfield 54, 3) := by decide +kernel
theorem dX6_hasRef_7 : decode cX6_hasRef 7 = .ok (.if_icmp .ge 21, 3) := by decide +kernel
theorem dX6_hasRef_10 : decode cX6_hasRef 10 = .ok (.aload_n 0, 1) := by decide +kernel
theorem dX6_hasRef_11 : decode cX6_hasRef 11 = .ok (.getfield 19, 3) := by decide +kernel
theorem dX6_hasRef_14 : decode cX6_hasRef 14 = .ok (.iload_n 2, 1) := by decide +kernel
theorem dX6_hasRef_15 : decode cX6_hasRef 15 = .ok (.iaload, 1) := by decide +kernel
theorem dX6_hasRef_16 : decode cX6_hasRef 16 = .ok (.iload_n 1, 1) := by decide +kernel
theorem dX6_hasRef_17 : decode cX6_hasRef 17 = .ok (.if_icmp .ne 5, 3) := by decide +kernel
theorem dX6_hasRef_20 : decode cX6_hasRef 20 = .ok (.iconst 1, 1) := by decide +kernel
theorem dX6_hasRef_21 : decode cX6_hasRef 21 = .ok (.ireturn, 1) := by decide +kernel
theorem dX6_hasRef_22 : decode cX6_hasRef 22 = .ok (.iinc 2 1, 3) := by decide +kernel
theorem dX6_hasRef_25 : decode cX6_hasRef 25 = .ok (.goto (-23), 3) := by decide +kernel
theorem dX6_hasRef_28 : decode cX6_hasRef 28 = .ok (.iconst 0, 1) := by decide +kernel
theorem dX6_hasRef_29 : decode cX6_hasRef 29 = .ok (.ireturn, 1) := by decide +kernel
theorem dX6_argument_0 : decode cX6_argument 0 = .ok (.aload_n 0, 1) := by decide +kernel
theorem dX6_argument_1 : decode cX6_argument 1 = .ok (.getfield 25, 3) := by decide +kernel
theorem dX6_argument_4 : decode cX6_argument 4 = .ok (.iload_n 1, 1) := by decide +kernel
theorem dX6_argument_5 : decode cX6_argument 5 = .ok (.iconst 2, 1) := by decide +kernel
theorem dX6_argument_6 : decode cX6_argument 6 = .ok (.imul, 1) := by decide +kernel
theorem dX6_argument_7 : decode cX6_argument 7 = .ok (.iload_n 2, 1) := by decide +kernel
theorem dX6_argument_8 : decode cX6_argument 8 = .ok (.iadd, 1) := by decide +kernel
theorem dX6_argument_9 : decode cX6_argument 9 = .ok (.iaload, 1) := by decide +kernel
theorem dX6_argument_10 : decode cX6_argument 10 = .ok (.ireturn, 1) := by decide +kernel
theorem dX6_setArgument_0 : decode cX6_setArgument 0 = .ok (.aload_n 0, 1) := by decide +kernel
theorem dX6_setArgument_1 : decode cX6_setArgument 1 = .ok (.getfield 25, 3) := by decide +kernel
theorem dX6_setArgument_4 : decode cX6_setArgument 4 = .ok (.iload_n 1, 1) := by decide +kernel
theorem dX6_setArgument_5 : decode cX6_setArgument 5 = .ok (.iconst 2, 1) := by decide +kernel
theorem dX6_setArgument_6 : decode cX6_setArgument 6 = .ok (.imul, 1) := by decide +kernel
theorem dX6_setArgument_7 : decode cX6_setArgument 7 = .ok (.iload_n 2, 1) := by decide +kernel
theorem dX6_setArgument_8 : decode cX6_setArgument 8 = .ok (.iadd, 1) := by decide +kernel
theorem dX6_setArgument_9 : decode cX6_setArgument 9 = .ok (.iload_n 3, 1) := by decide +kernel
theorem dX6_setArgument_10 : decode cX6_setArgument 10 = .ok (.iastore, 1) := by decide +kernel
theorem dX6_setArgument_11 : decode cX6_setArgument 11 = .ok (.return_, 1) := by decide +kernel
theorem dX7_init_0 : decode cX7_init 0 = .ok (.aload_n 0, 1) := by decide +kernel
theorem dX7_init_1 : decode cX7_init 1 = .ok (.invokespecial 3, 3) := by decide +kernel
theorem dX7_init_4 : decode cX7_init 4 = .ok (.aload_n 0, 1) := by decide +kernel
theorem dX7_init_5 : decode cX7_init 5 = .ok (.sipush 4000, 3) := by decide +kernel
theorem dX7_init_8 : decode cX7_init 8 = .ok (.newarray .byte, 2) := by decide +kernel
theorem dX7_init_10 : decode cX7_init 10 = .ok (.putfield 9, 3) := by decide +kernel
theorem dX7_init_13 : decode cX7_init 13 = .ok (.aload_n 0, 1) := by decide +kernel
theorem dX7_init_14 : decode cX7_init 14 = .ok (.new 13, 3) := by decide +kernel
theorem dX7_init_17 : decode cX7_init 17 = .ok (.dup, 1) := by decide +kernel
theorem dX7_init_18 : decode cX7_init 18 = .ok (.invokespecial 15, 3) := by decide +kernel
theorem dX7_init_21 : decode cX7_init 21 = .ok (.putfield 16, 3) := by decide +kernel
theorem dX7_init_24 : decode cX7_init 24 = .ok (.aload_n 0, 1) := by decide +kernel
theorem dX7_init_25 : decode cX7_init 25 = .ok (.new 13, 3) := by decide +kernel
theorem dX7_init_28 : decode cX7_init 28 = .ok (.dup, 1) := by decide +kernel
theorem dX7_init_29 : decode cX7_init 29 = .ok (.invokespecial 15, 3) := by decide +kernel
theorem dX7_init_32 : decode cX7_init 32 = .ok (.putfield 20, 3) := by decide +kernel
theorem dX7_init_35 : decode cX7_init 35 = .ok (.aload_n 0, 1) := by decide +kernel
theorem dX7_init_36 : decode cX7_init 36 = .ok (.new 23, 3) := by decide +kernel
theorem dX7_init_39 : decode cX7_init 39 = .ok (.dup, 1) := by decide +kernel
theorem dX7_init_40 : decode cX7_init 40 = .ok (.invokespecial 25, 3) := by decide +kernel
theorem dX7_init_43 : decode cX7_init 43 = .ok (.putfield 26, 3) := by decide +kernel
theorem dX7_init_46 : decode cX7_init 46 = .ok (.aload_n 0, 1) := by decide +kernel
theorem dX7_init_47 : decode cX7_init 47 = .ok (.new 30, 3) := by decide +kernel
theorem dX7_init_50 : decode cX7_init 50 = .ok (.dup, 1) := by decide +kernel
theorem dX7_init_51 : decode cX7_init 51 = .ok (.aload_n 0, 1) := by decide +kernel
theorem dX7_init_52 : decode cX7_init 52 = .ok (.getfield 26, 3) := by decide +kernel
theorem dX7_init_55 : decode cX7_init 55 = .ok (.aload_n 0, 1) := by decide +kernel
theorem dX7_init_56 : decode cX7_init 56 = .ok (.getfield 20, 3) := by decide +kernel
theorem dX7_init_59 : decode cX7_init 59 = .ok (.invokespecial 32, 3) := by decide +kernel
theorem dX7_init_62 : decode cX7_init 62 = .ok (.putfield 35, 3) := by decide +kernel
theorem dX7_init_65 : decode cX7_init 65 = .ok (.aload_n 0, 1) := by decide +kernel
theorem dX7_init_66 : decode cX7_init 66 = .ok (.new 39, 3) := by decide +kernel
theorem dX7_init_69 : decode cX7_init 69 = .ok (.dup, 1) := by decide +kernel
theorem dX7_init_70 : decode cX7_init 70 = .ok (.aload_n 0, 1) := by decide +kernel
theorem dX7_init_71 : decode cX7_init 71 = .ok (.getfield 16, 3) := by decide +kernel
theorem dX7_init_74 : decode cX7_init 74 = .ok (.invokespecial 41, 3) := by decide +kernel
theorem dX7_init_77 : decode cX7_init 77 = .ok (.putfield 44, 3) := by decide +kernel
theorem dX7_init_80 : decode cX7_init 80 = .ok (.return_, 1) := by decide +kernel
theorem dX7_feed_0 : decode cX7_feed 0 = .ok (.aload_n 0, 1) := by decide +kernel
theorem dX7_feed_1 : decode cX7_feed 1 = .ok (.getfield 48, 3) := by decide +kernel
theorem dX7_feed_4 : decode cX7_feed 4 = .ok (.bipush 20, 2) := by decide +kernel
theorem dX7_feed_6 : decode cX7_feed 6 = .ok (.iadd, 1) := by decide +kernel
theorem dX7_feed_7 : decode cX7_feed 7 = .ok (.sipush 4000, 3) := by decide +kernel
theorem dX7_feed_10 : decode cX7_feed 10 = .ok (.if_icmp .le 6, 3) := by decide +kernel
theorem dX7_feed_13 : decode cX7_feed 13 = .ok (.bipush (-14), 2) := by decide +kernel
theorem dX7_feed_15 : decode cX7_feed 15 = .ok (.ireturn, 1) := by decide +kernel
theorem dX7_feed_16 : decode cX7_feed 16 = .ok (.aload_n 0, 1) := by decide +kernel
theorem dX7_feed_17 : decode cX7_feed 17 = .ok (.iload_n 1, 1) := by decide +kernel
theorem dX7_feed_18 : decode cX7_feed 18 = .ok (.invokevirtual 52, 3) := by decide +kernel
theorem dX7_feed_21 : decode cX7_feed 21 = .ok (.aload_n 0, 1) := by decide +kernel
theorem dX7_feed_22 : decode cX7_feed 22 = .ok (.iload_n 2, 1) := by decide +kernel
theorem dX7_feed_23 : decode cX7_feed 23 = .ok (.invokevirtual 52, 3) := by decide +kernel
theorem dX7_feed_26 : decode cX7_feed 26 = .ok (.aload_n 0, 1) := by decide +kernel
theorem dX7_feed_27 : decode cX7_feed 27 = .ok (.iload_n 3, 1) := by decide +kernel
theorem dX7_feed_28 : decode cX7_feed 28 = .ok (.invokevirtual 52, 3) := by decide +kernel
theorem dX7_feed_31 : decode cX7_feed 31 = .ok (.aload_n 0, 1) := by decide +kernel
theorem dX7_feed_32 : decode cX7_feed 32 = .ok (.iload 4, 2) := by decide +kernel
theorem dX7_feed_34 : decode cX7_feed 34 = .ok (.invokevirtual 52, 3) := by decide +kernel
theorem dX7_feed_37 : decode cX7_feed 37 = .ok (.aload_n 0, 1) := by decide +kernel
theorem dX7_feed_38 : decode cX7_feed 38 = .ok (.iload 5, 2) := by decide +kernel
theorem dX7_feed_40 : decode cX7_feed 40 = .ok (.invokevirtual 52, 3) := by decide +kernel
theorem dX7_feed_43 : decode cX7_feed 43 = .ok (.aload_n 0, 1) := by decide +kernel
theorem dX7_feed_44 : decode cX7_feed 44 = .ok (.getfield 48, 3) := by decide +kernel
theorem dX7_feed_47 : decode cX7_feed 47 = .ok (.ireturn, 1) := by decide +kernel
theorem dX7_trim_0 : decode cX7_trim 0 = .ok (.iload_n 1, 1) := by decide +kernel
theorem dX7_trim_1 : decode cX7_trim 1 = .ok (.ifCond .lt 11, 3) := by decide +kernel
theorem dX7_trim_4 : decode cX7_trim 4 = .ok (.iload_n 1, 1) := by decide +kernel
theorem dX7_trim_5 : decode cX7_trim 5 = .ok (.aload_n 0, 1) := by decide +kernel
theorem dX7_trim_6 : decode cX7_trim 6 = .ok (.getfield 48, 3) := by decide +kernel
theorem dX7_trim_9 : decode cX7_trim 9 = .ok (.if_icmp .le 6, 3) := by decide +kernel
theorem dX7_trim_12 : decode cX7_trim 12 = .ok (.bipush (-12), 2) := by decide +kernel
theorem dX7_trim_14 : decode cX7_trim 14 = .ok (.ireturn, 1) := by decide +kernel
theorem dX7_trim_15 : decode cX7_trim 15 = .ok (.aload_n 0, 1) := by decide +kernel
theorem dX7_trim_16 : decode cX7_trim 16 = .ok (.iload_n 1, 1) := by decide +kernel
theorem dX7_trim_17 : decode cX7_trim 17 = .ok (.putfield 48, 3) := by decide +kernel
theorem dX7_trim_20 : decode cX7_trim 20 = .ok (.iload_n 1, 1) := by decide +kernel
theorem dX7_trim_21 : decode cX7_trim 21 = .ok (.ireturn, 1) := by decide +kernel
theorem dX7_compile_0 : decode cX7_compile 0 = .ok (.aload_n 0, 1) := by decide +kernel
theorem dX7_compile_1 : decode cX7_compile 1 = .ok (.getfield 26, 3) := by decide +kernel
theorem dX7_compile_4 : decode cX7_compile 4 = .ok (.aload_n 0, 1) := by decide +kernel
theorem dX7_compile_5 : decode cX7_compile 5 = .ok (.getfield 9, 3) := by decide +kernel
theorem dX7_compile_8 : decode cX7_compile 8 = .ok (.aload_n 0, 1) := by decide +kernel
theorem dX7_compile_9 : decode cX7_compile 9 = .ok (.getfield 48, 3) := by decide +kernel
theorem dX7_compile_12 : decode cX7_compile 12 = .ok (.invokevirtual 56, 3) := by decide +kernel
theorem dX7_compile_15 : decode cX7_compile 15 = .ok (.aload_n 0, 1) := by decide +kernel
theorem dX7_compile_16 : decode cX7_compile 16 = .ok (.iconst 0, 1) := by decide +kernel
theorem dX7_compile_17 : decode cX7_compile 17 = .ok (.putfield 48, 3) := by decide +kernel
theorem dX7_compile_20 : decode cX7_compile 20 = .ok (.aload_n 0, 1) := by decide +kernel
theorem dX7_compile_21 : decode cX7_compile 21 = .ok (.getfield 35, 3) := by decide +kernel
theorem dX7_compile_24 : decode cX7_compile 24 = .ok (.aload_n 0, 1) := by decide +kernel
theorem dX7_compile_25 : decode cX7_compile 25 = .ok (.getfield 20, 3) := by decide +kernel
theorem dX7_compile_28 : decode cX7_compile 28 = .ok (.invokevirtual 60, 3) := by decide +kernel
theorem dX7_compile_31 : decode cX7_compile 31 = .ok (.istore_n 1, 1) := by decide +kernel
theorem dX7_compile_32 : decode cX7_compile 32 = .ok (.aload_n 0, 1) := by decide +kernel
theorem dX7_compile_33 : decode cX7_compile 33 = .ok (.aload_n 0, 1) := by decide +kernel
theorem dX7_compile_34 : decode cX7_compile 34 = .ok (.getfield 35, 3) := by decide +kernel
theorem dX7_compile_37 : decode cX7_compile 37 = .ok (.getfield 64, 3) := by decide +kernel
theorem dX7_compile_40 : decode cX7_compile 40 = .ok (.putfield 67, 3) := by decide +kernel
theorem dX7_compile_43 : decode cX7_compile 43 = .ok (.iload_n 1, 1) := by decide +kernel
theorem dX7_compile_44 : decode cX7_compile 44 = .ok (.ifCond .ne 14, 3) := by decide +kernel
theorem dX7_compile_47 : decode cX7_compile 47 = .ok (.bipush (-20), 2) := by decide +kernel
theorem dX7_compile_49 : decode cX7_compile 49 = .ok (.aload_n 0, 1) := by decide +kernel
theorem dX7_compile_50 : decode cX7_compile 50 = .ok (.getfield 35, 3) := by decide +kernel
theorem dX7_compile_53 : decode cX7_compile 53 = .ok (.getfield 70, 3) := by decide +kernel
theorem dX7_compile_56 : decode cX7_compile 56 = .ok (.isub, 1) := by decide +kernel
theorem dX7_compile_57 : decode cX7_compile 57 = .ok (.ireturn, 1) := by decide +kernel
theorem dX7_compile_58 : decode cX7_compile 58 = .ok (.aload_n 0, 1) := by decide +kernel
theorem dX7_compile_59 : decode cX7_compile 59 = .ok (.getfield 16, 3) := by decide +kernel
theorem dX7_compile_62 : decode cX7_compile 62 = .ok (.astore_n 2, 1) := by decide +kernel
theorem dX7_compile_63 : decode cX7_compile 63 = .ok (.aload_n 0, 1) := by decide +kernel
theorem dX7_compile_64 : decode cX7_compile 64 = .ok (.aload_n 0, 1) := by decide +kernel
theorem dX7_compile_65 : decode cX7_compile 65 = .ok (.getfield 20, 3) := by decide +kernel
theorem dX7_compile_68 : decode cX7_compile 68 = .ok (.putfield 16, 3) := by decide +kernel
theorem dX7_compile_71 : decode cX7_compile 71 = .ok (.aload_n 0, 1) := by decide +kernel
theorem dX7_compile_72 : decode cX7_compile 72 = .ok (.aload_n 2, 1) := by decide +kernel
theorem dX7_compile_73 : decode cX7_compile 73 = .ok (.putfield 20, 3) := by decide +kernel
theorem dX7_compile_76 : decode cX7_compile 76 = .ok (.aload_n 0, 1) := by decide +kernel
theorem dX7_compile_77 : decode cX7_compile 77 = .ok (.getfield 16, 3) := by decide +kernel
theorem dX7_compile_80 : decode cX7_compile 80 = .ok (.getfield 73, 3) := by decide +kernel
theorem dX7_compile_83 : decode cX7_compile 83 = .ok (.ireturn, 1) := by decide +kernel
theorem dX7_fault_0 : decode cX7_fault 0 = .ok (.aload_n 0, 1) := by decide +kernel
theorem dX7_fault_1 : decode cX7_fault 1 = .ok (.getfield 67, 3) := by decide +kernel
theorem dX7_fault_4 : decode cX7_fault 4 = .ok (.ireturn, 1) := by decide +kernel
theorem dX7_type_0 : decode cX7_type 0 = .ok (.aload_n 0, 1) := by decide +kernel
theorem dX7_type_1 : decode cX7_type 1 = .ok (.iload_n 1, 1) := by decide +kernel
theorem dX7_type_2 : decode cX7_type 2 = .ok (.invokevirtual 76, 3) := by decide +kernel
theorem dX7_type_5 : decode cX7_type 5 = .ok (.ifCond .ne 6, 3) := by decide +kernel
theorem dX7_type_8 : decode cX7_type 8 = .ok (.bipush (-11), 2) := by decide +kernel
theorem dX7_type_10 : decode cX7_type 10 = .ok (.ireturn, 1) := by decide +kernel
theorem dX7_type_11 : decode cX7_type 11 = .ok (.aload_n 0, 1) := by decide +kernel
theorem dX7_type_12 : decode cX7_type 12 = .ok (.getfield 16, 3) := by decide +kernel
theorem dX7_type_15 : decode cX7_type 15 = .ok (.getfield 80, 3) := by decide +kernel
theorem dX7_type_18 : decode cX7_type 18 = .ok (.iload_n 1, 1) := by decide +kernel
theorem dX7_type_19 : decode cX7_type 19 = .ok (.aaload, 1) := by decide +kernel
theorem dX7_type_20 : decode cX7_type 20 = .ok (.astore_n 3, 1) := by decide +kernel
theorem dX7_type_21 : decode cX7_type 21 = .ok (.iload_n 2, 1) := by decide +kernel
theorem dX7_type_22 : decode cX7_type 22 = .ok (.tableswitch 129 0 9 #[54, 59, 64, 69, 87, 92, 97, 102, 107, 112], 54) := by decide +kernel
theorem dX7_type_76 : decode cX7_type 76 = .ok (.aload_n 3, 1) := by decide +kernel
theorem dX7_type_77 : decode cX7_type 77 = .ok (.getfield 84, 3) := by decide +kernel
theorem dX7_type_80 : decode cX7_type 80 = .ok (.ireturn, 1) := by decide +kernel
theorem dX7_type_81 : decode cX7_type 81 = .ok (.aload_n 3, 1) := by decide +kernel
theorem dX7_type_82 : decode cX7_type 82 = .ok (.getfield 89, 3) := by decide +kernel
theorem dX7_type_85 : decode cX7_type 85 = .ok (.ireturn, 1) := by decide +kernel
theorem dX7_type_86 : decode cX7_type 86 = .ok (.aload_n 3, 1) := by decide +kernel
theorem dX7_type_87 : decode cX7_type 87 = .ok (.getfield 92, 3) := by decide +kernel
theorem dX7_type_90 : decode cX7_type 90 = .ok (.ireturn, 1) := by decide +kernel
theorem dX7_type_91 : decode cX7_type 91 = .ok (.aload_n 3, 1) := by decide +kernel
theorem dX7_type_92 : decode cX7_type 92 = .ok (.getfield 95, 3) := by decide +kernel
theorem dX7_type_95 : decode cX7_type 95 = .ok (.iconst (-1), 1) := by decide +kernel
theorem dX7_type_96 : decode cX7_type 96 = .ok (.if_icmp .ne 8, 3) := by decide +kernel
theorem dX7_type_99 : decode cX7_type 99 = .ok (.bipush (-13), 2) := by decide +kernel
theorem dX7_type_101 : decode cX7_type 101 = .ok (.goto 7, 3) := by decide +kernel
theorem dX7_type_104 : decode cX7_type 104 = .ok (.aload_n 3, 1) := by decide +kernel
theorem dX7_type_105 : decode cX7_type 105 = .ok (.getfield 95, 3) := by decide +kernel
theorem dX7_type_108 : decode cX7_type 108 = .ok (.ireturn, 1) := by decide +kernel
theorem dX7_type_109 : decode cX7_type 109 = .ok (.aload_n 3, 1) := by decide +kernel
theorem dX7_type_110 : decode cX7_type 110 = .ok (.getfield 98, 3) := by decide +kernel
theorem dX7_type_113 : decode cX7_type 113 = .ok (.ireturn, 1) := by decide +kernel
theorem dX7_type_114 : decode cX7_type 114 = .ok (.aload_n 3, 1) := by decide +kernel
theorem dX7_type_115 : decode cX7_type 115 = .ok (.getfield 101, 3) := by decide +kernel
theorem dX7_type_118 : decode cX7_type 118 = .ok (.ireturn, 1) := by decide +kernel
theorem dX7_type_119 : decode cX7_type 119 = .ok (.aload_n 3, 1) := by decide +kernel
theorem dX7_type_120 : decode cX7_type 120 = .ok (.getfield 104, 3) := by decide +kernel
theorem dX7_type_123 : decode cX7_type 123 = .ok (.ireturn, 1) := by decide +kernel
theorem dX7_type_124 : decode cX7_type 124 = .ok (.aload_n 3, 1) := by decide +kernel
theorem dX7_type_125 : decode cX7_type 125 = .ok (.getfield 107, 3) := by decide +kernel
theorem dX7_type_128 : decode cX7_type 128 = .ok (.ireturn, 1) := by decide +kernel
theorem dX7_type_129 : decode cX7_type 129 = .ok (.aload_n 3, 1) := by decide +kernel
theorem dX7_type_130 : decode cX7_type 130 = .ok (.getfield 110, 3) := by decide +kernel
theorem dX7_type_133 : decode cX7_type 133 = .ok (.ireturn, 1) := by decide +kernel
theorem dX7_type_134 : decode cX7_type 134 = .ok (.aload_n 3, 1) := by decide +kernel
theorem dX7_type_135 : decode cX7_type 135 = .ok (.getfield 101, 3) := by decide +kernel
theorem dX7_type_138 : decode cX7_type 138 = .ok (.ifCond .ne 8, 3) := by decide +kernel
theorem dX7_type_141 : decode cX7_type 141 = .ok (.bipush (-13), 2) := by decide +kernel
theorem dX7_type_143 : decode cX7_type 143 = .ok (.goto 7, 3) := by decide +kernel
theorem dX7_type_146 : decode cX7_type 146 = .ok (.aload_n 3, 1) := by decide +kernel
theorem dX7_type_147 : decode cX7_type 147 = .ok (.getfield 113, 3) := by decide +kernel
theorem dX7_type_150 : decode cX7_type 150 = .ok (.ireturn, 1) := by decide +kernel
theorem dX7_type_151 : decode cX7_type 151 = .ok (.bipush (-12), 2) := by decide +kernel
theorem dX7_type_153 : decode cX7_type 153 = .ok (.ireturn, 1) := by decide +kernel
theorem dX7_above_0 : decode cX7_above 0 = .ok (.aload_n 0, 1) := by decide +kernel
theorem dX7_above_1 : decode cX7_above 1 = .ok (.iload_n 1, 1) := by decide +kernel
theorem dX7_above_2 : decode cX7_above 2 = .ok (.invokevirtual 76, 3) := by decide +kernel
theorem dX7_above_5 : decode cX7_above 5 = .ok (.ifCond .ne 6, 3) := by decide +kernel
theorem dX7_above_8 : decode cX7_above 8 = .ok (.bipush (-11), 2) := by decide +kernel
theorem dX7_above_10 : decode cX7_above 10 = .ok (.ireturn, 1) := by decide +kernel
theorem dX7_above_11 : decode cX7_above 11 = .ok (.aload_n 0, 1) := by decide +kernel
theorem dX7_above_12 : decode cX7_above 12 = .ok (.getfield 16, 3) := by decide +kernel
theorem dX7_above_15 : decode cX7_above 15 = .ok (.getfield 80, 3) := by decide +kernel
theorem dX7_above_18 : decode cX7_above 18 = .ok (.iload_n 1, 1) := by decide +kernel
theorem dX7_above_19 : decode cX7_above 19 = .ok (.aaload, 1) := by decide +kernel
theorem dX7_above_20 : decode cX7_above 20 = .ok (.astore_n 3, 1) := by decide +kernel
theorem dX7_above_21 : decode cX7_above 21 = .ok (.iload_n 2, 1) := by decide +kernel
theorem dX7_above_22 : decode cX7_above 22 = .ok (.ifCond .lt 20, 3) := by decide +kernel
theorem dX7_above_25 : decode cX7_above 25 = .ok (.iload_n 2, 1) := by decide +kernel
theorem dX7_above_26 : decode cX7_above 26 = .ok (.aload_n 3, 1) := by decide +kernel
theorem dX7_above_27 : decode cX7_above 27 = .ok (.getfield 110, 3) := by decide +kernel
theorem dX7_above_30 : decode cX7_above 30 = .ok (.if_icmp .ge 12, 3) := by decide +kernel
theorem dX7_above_33 : decode cX7_above 33 = .ok (.aload_n 3, 1) := by decide +kernel
theorem dX7_above_34 : decode cX7_above 34 = .ok (.getfield 116, 3) := by decide +kernel
theorem dX7_above_37 : decode cX7_above 37 = .ok (.iload_n 2, 1) := by decide +kernel
theorem dX7_above_38 : decode cX7_above 38 = .ok (.iaload, 1) := by decide +kernel
theorem dX7_above_39 : decode cX7_above 39 = .ok (.goto 5, 3) := by decide +kernel
theorem dX7_above_42 : decode cX7_above 42 = .ok (.bipush (-13), 2) := by decide +kernel
theorem dX7_above_44 : decode cX7_above 44 = .ok (.ireturn, 1) := by decide +kernel
theorem dX7_under_0 : decode cX7_under 0 = .ok (.aload_n 0, 1) := by decide +kernel
theorem dX7_under_1 : decode cX7_under 1 = .ok (.iload_n 1, 1) := by decide +kernel
theorem dX7_under_2 : decode cX7_under 2 = .ok (.invokevirtual 76, 3) := by decide +kernel
theorem dX7_under_5 : decode cX7_under 5 = .ok (.ifCond .eq 11, 3) := by decide +kernel
theorem dX7_under_8 : decode cX7_under 8 = .ok (.aload_n 0, 1) := by decide +kernel
theorem dX7_under_9 : decode cX7_under 9 = .ok (.iload_n 2, 1) := by decide +kernel
theorem dX7_under_10 : decode cX7_under 10 = .ok (.invokevirtual 76, 3) := by decide +kernel
theorem dX7_under_13 : decode cX7_under 13 = .ok (.ifCond .ne 6, 3) := by decide +kernel
theorem dX7_under_16 : decode cX7_under 16 = .ok (.bipush (-11), 2) := by decide +kernel
theorem dX7_under_18 : decode cX7_under 18 = .ok (.ireturn, 1) := by decide +kernel
theorem dX7_under_19 : decode cX7_under 19 = .ok (.aload_n 0, 1) := by decide +kernel
theorem dX7_under_20 : decode cX7_under 20 = .ok (.getfield 16, 3) := by decide +kernel
theorem dX7_under_23 : decode cX7_under 23 = .ok (.iload_n 1, 1) := by decide +kernel
theorem dX7_under_24 : decode cX7_under 24 = .ok (.iload_n 2, 1) := by decide +kernel
theorem dX7_under_25 : decode cX7_under 25 = .ok (.invokevirtual 120, 3) := by decide +kernel
theorem dX7_under_28 : decode cX7_under 28 = .ok (.invokestatic 124, 3) := by decide +kernel
theorem dX7_under_31 : decode cX7_under 31 = .ok (.ireturn, 1) := by decide +kernel
theorem dX7_member_0 : decode cX7_member 0 = .ok (.aload_n 0, 1) := by decide +kernel
theorem dX7_member_1 : decode cX7_member 1 = .ok (.iload_n 1, 1) := by decide +kernel
theorem dX7_member_2 : decode cX7_member 2 = .ok (.invokevirtual 128, 3) := by decide +kernel
theorem dX7_member_5 : decode cX7_member 5 = .ok (.ifCond .ne 6, 3) := by decide +kernel
theorem dX7_member_8 : decode cX7_member 8 = .ok (.bipush (-11), 2) := by decide +kernel
theorem dX7_member_10 : decode cX7_member 10 = .ok (.ireturn, 1) := by decide +kernel
theorem dX7_member_11 : decode cX7_member 11 = .ok (.aload_n 0, 1) := by decide +kernel
theorem dX7_member_12 : decode cX7_member 12 = .ok (.getfield 16, 3) := by decide +kernel
theorem dX7_member_15 : decode cX7_member 15 = .ok (.getfield 131, 3) := by decide +kernel
theorem dX7_member_18 : decode cX7_member 18 = .ok (.iload_n 1, 1) := by decide +kernel
theorem dX7_member_19 : decode cX7_member 19 = .ok (.aaload, 1) := by decide +kernel
theorem dX7_member_20 : decode cX7_member 20 = .ok (.astore_n 3, 1) := by decide +kernel
theorem dX7_member_21 : decode cX7_member 21 = .ok (.iload_n 2, 1) := by decide +kernel
theorem dX7_member_22 : decode cX7_member 22 = .ok (.tableswitch 50 0 3 #[30, 35, 40, 45], 30) := by decide +kernel
theorem dX7_member_52 : decode cX7_member 52 = .ok (.aload_n 3, 1) := by decide +kernel
theorem dX7_member_53 : decode cX7_member 53 = .ok (.getfield 135, 3) := by decide +kernel
theorem dX7_member_56 : decode cX7_member 56 = .ok (.ireturn, 1) := by decide +kernel
theorem dX7_member_57 : decode cX7_member 57 = .ok (.aload_n 3, 1) := by decide +kernel
theorem dX7_member_58 : decode cX7_member 58 = .ok (.getfield 140, 3) := by decide +kernel
theorem dX7_member_61 : decode cX7_member 61 = .ok (.ireturn, 1) := by decide +kernel
theorem dX7_member_62 : decode cX7_member 62 = .ok (.aload_n 3, 1) := by decide +kernel
theorem dX7_member_63 : decode cX7_member 63 = .ok (.getfield 143, 3) := by decide +kernel
theorem dX7_member_66 : decode cX7_member 66 = .ok (.ireturn, 1) := by decide +kernel
theorem dX7_member_67 : decode cX7_member 67 = .ok (.aload_n 3, 1) := by decide +kernel
theorem dX7_member_68 : decode cX7_member 68 = .ok (.getfield 146, 3) := by decide +kernel
theorem dX7_member_71 : decode cX7_member 71 = .ok (.ireturn, 1) := by decide +kernel
theorem dX7_member_72 : decode cX7_member 72 = .ok (.bipush (-12), 2) := by decide +kernel
theorem dX7_member_74 : decode cX7_member 74 = .ok (.ireturn, 1) := by decide +kernel
theorem dX7_seen_0 : decode cX7_seen 0 = .ok (.aload_n 0, 1) := by decide +kernel
theorem dX7_seen_1 : decode cX7_seen 1 = .ok (.iload_n 1, 1) := by decide +kernel
theorem dX7_seen_2 : decode cX7_seen 2 = .ok (.invokevirtual 76, 3) := by decide +kernel
theorem dX7_seen_5 : decode cX7_seen 5 = .ok (.ifCond .eq 11, 3) := by decide +kernel
theorem dX7_seen_8 : decode cX7_seen 8 = .ok (.aload_n 0, 1) := by decide +kernel
theorem dX7_seen_9 : decode cX7_seen 9 = .ok (.iload_n 2, 1) := by decide +kernel
theorem dX7_seen_10 : decode cX7_seen 10 = .ok (.invokevirtual 128, 3) := by decide +kernel
theorem dX7_seen_13 : decode cX7_seen 13 = .ok (.ifCond .ne 6, 3) := by decide +kernel
theorem dX7_seen_16 : decode cX7_seen 16 = .ok (.bipush (-11), 2) := by decide +kernel
theorem dX7_seen_18 : decode cX7_seen 18 = .ok (.ireturn, 1) := by decide +kernel
theorem dX7_seen_19 : decode cX7_seen 19 = .ok (.iload_n 3, 1) := by decide +kernel
theorem dX7_seen_20 : decode cX7_seen 20 = .ok (.ifCond .lt 8, 3) := by decide +kernel
theorem dX7_seen_23 : decode cX7_seen 23 = .ok (.iload_n 3, 1) := by decide +kernel
theorem dX7_seen_24 : decode cX7_seen 24 = .ok (.iconst 2, 1) := by decide +kernel
theorem dX7_seen_25 : decode cX7_seen 25 = .ok (.if_icmp .le 6, 3) := by decide +kernel
theorem dX7_seen_28 : decode cX7_seen 28 = .ok (.bipush (-12), 2) := by decide +kernel
theorem dX7_seen_30 : decode cX7_seen 30 = .ok (.ireturn, 1) := by decide +kernel
theorem dX7_seen_31 : decode cX7_seen 31 = .ok (.aload_n 0, 1) := by decide +kernel
theorem dX7_seen_32 : decode cX7_seen 32 = .ok (.getfield 16, 3) := by decide +kernel
theorem dX7_seen_35 : decode cX7_seen 35 = .ok (.getfield 131, 3) := by decide +kernel
theorem dX7_seen_38 : decode cX7_seen 38 = .ok (.iload_n 2, 1) := by decide +kernel
theorem dX7_seen_39 : decode cX7_seen 39 = .ok (.aaload, 1) := by decide +kernel
theorem dX7_seen_40 : decode cX7_seen 40 = .ok (.astore 4, 2) := by decide +kernel
theorem dX7_seen_42 : decode cX7_seen 42 = .ok (.aload 4, 2) := by decide +kernel
theorem dX7_seen_44 : decode cX7_seen 44 = .ok (.getfield 149, 3) := by decide +kernel
theorem dX7_seen_47 : decode cX7_seen 47 = .ok (.iload_n 3, 1) := by decide +kernel
theorem dX7_seen_48 : decode cX7_seen 48 = .ok (.iaload, 1) := by decide +kernel
theorem dX7_seen_49 : decode cX7_seen 49 = .ok (.bipush (-9), 2) := by decide +kernel
theorem dX7_seen_51 : decode cX7_seen 51 = .ok (.if_icmp .eq 19, 3) := by decide +kernel
theorem dX7_seen_54 : decode cX7_seen 54 = .ok (.aload_n 0, 1) := by decide +kernel
theorem dX7_seen_55 : decode cX7_seen 55 = .ok (.getfield 16, 3) := by decide +kernel
theorem dX7_seen_58 : decode cX7_seen 58 = .ok (.iload_n 1, 1) := by decide +kernel
theorem dX7_seen_59 : decode cX7_seen 59 = .ok (.aload 4, 2) := by decide +kernel
theorem dX7_seen_61 : decode cX7_seen 61 = .ok (.getfield 135, 3) := by decide +kernel
theorem dX7_seen_64 : decode cX7_seen 64 = .ok (.invokevirtual 120, 3) := by decide +kernel
theorem dX7_seen_67 : decode cX7_seen 67 = .ok (.ifCond .ne 6, 3) := by decide +kernel
theorem dX7_seen_70 : decode cX7_seen 70 = .ok (.bipush (-13), 2) := by decide +kernel
theorem dX7_seen_72 : decode cX7_seen 72 = .ok (.ireturn, 1) := by decide +kernel
theorem dX7_seen_73 : decode cX7_seen 73 = .ok (.aload_n 0, 1) := by decide +kernel
theorem dX7_seen_74 : decode cX7_seen 74 = .ok (.getfield 16, 3) := by decide +kernel
theorem dX7_seen_77 : decode cX7_seen 77 = .ok (.aload_n 0, 1) := by decide +kernel
theorem dX7_seen_78 : decode cX7_seen 78 = .ok (.getfield 16, 3) := by decide +kernel
theorem dX7_seen_81 : decode cX7_seen 81 = .ok (.getfield 80, 3) := by decide +kernel
theorem dX7_seen_84 : decode cX7_seen 84 = .ok (.iload_n 1, 1) := by decide +kernel
theorem dX7_seen_85 : decode cX7_seen 85 = .ok (.aaload, 1) := by decide +kernel
theorem dX7_seen_86 : decode cX7_seen 86 = .ok (.aload 4, 2) := by decide +kernel
theorem dX7_seen_88 : decode cX7_seen 88 = .ok (.iload_n 3, 1) := by decide +kernel
theorem dX7_seen_89 : decode cX7_seen 89 = .ok (.invokevirtual 152, 3) := by decide +kernel
theorem dX7_seen_92 : decode cX7_seen 92 = .ok (.ireturn, 1) := by decide +kernel
theorem dX7_erased_0 : decode cX7_erased 0 = .ok (.aload_n 0, 1) := by decide +kernel
theorem dX7_erased_1 : decode cX7_erased 1 = .ok (.iload_n 1, 1) := by decide +kernel
theorem dX7_erased_2 : decode cX7_erased 2 = .ok (.invokevirtual 128, 3) := by decide +kernel
theorem dX7_erased_5 : decode cX7_erased 5 = .ok (.ifCond .ne 6, 3) := by decide +kernel
theorem dX7_erased_8 : decode cX7_erased 8 = .ok (.bipush (-11), 2) := by decide +kernel
theorem dX7_erased_10 : decode cX7_erased 10 = .ok (.ireturn, 1) := by decide +kernel
theorem dX7_erased_11 : decode cX7_erased 11 = .ok (.iload_n 2, 1) := by decide +kernel
theorem dX7_erased_12 : decode cX7_erased 12 = .ok (.ifCond .lt 8, 3) := by decide +kernel
theorem dX7_erased_15 : decode cX7_erased 15 = .ok (.iload_n 2, 1) := by decide +kernel
theorem dX7_erased_16 : decode cX7_erased 16 = .ok (.iconst 2, 1) := by decide +kernel
theorem dX7_erased_17 : decode cX7_erased 17 = .ok (.if_icmp .le 6, 3) := by decide +kernel
theorem dX7_erased_20 : decode cX7_erased 20 = .ok (.bipush (-12), 2) := by decide +kernel
theorem dX7_erased_22 : decode cX7_erased 22 = .ok (.ireturn, 1) := by decide +kernel
theorem dX7_erased_23 : decode cX7_erased 23 = .ok (.aload_n 0, 1) := by decide +kernel
theorem dX7_erased_24 : decode cX7_erased 24 = .ok (.getfield 16, 3) := by decide +kernel
theorem dX7_erased_27 : decode cX7_erased 27 = .ok (.getfield 131, 3) := by decide +kernel
theorem dX7_erased_30 : decode cX7_erased 30 = .ok (.iload_n 1, 1) := by decide +kernel
theorem dX7_erased_31 : decode cX7_erased 31 = .ok (.aaload, 1) := by decide +kernel
theorem dX7_erased_32 : decode cX7_erased 32 = .ok (.getfield 156, 3) := by decide +kernel
theorem dX7_erased_35 : decode cX7_erased 35 = .ok (.iload_n 2, 1) := by decide +kernel
theorem dX7_erased_36 : decode cX7_erased 36 = .ok (.iaload, 1) := by decide +kernel
theorem dX7_erased_37 : decode cX7_erased 37 = .ok (.invokestatic 159, 3) := by decide +kernel
theorem dX7_erased_40 : decode cX7_erased 40 = .ok (.ireturn, 1) := by decide +kernel
theorem dX7_overrides_0 : decode cX7_overrides 0 = .ok (.aload_n 0, 1) := by decide +kernel
theorem dX7_overrides_1 : decode cX7_overrides 1 = .ok (.iload_n 1, 1) := by decide +kernel
theorem dX7_overrides_2 : decode cX7_overrides 2 = .ok (.invokevirtual 128, 3) := by decide +kernel
theorem dX7_overrides_5 : decode cX7_overrides 5 = .ok (.ifCond .eq 11, 3) := by decide +kernel
theorem dX7_overrides_8 : decode cX7_overrides 8 = .ok (.aload_n 0, 1) := by decide +kernel
theorem dX7_overrides_9 : decode cX7_overrides 9 = .ok (.iload_n 2, 1) := by decide +kernel
theorem dX7_overrides_10 : decode cX7_overrides 10 = .ok (.invokevirtual 128, 3) := by decide +kernel
theorem dX7_overrides_13 : decode cX7_overrides 13 = .ok (.ifCond .ne 6, 3) := by decide +kernel
theorem dX7_overrides_16 : decode cX7_overrides 16 = .ok (.bipush (-11), 2) := by decide +kernel
theorem dX7_overrides_18 : decode cX7_overrides 18 = .ok (.ireturn, 1) := by decide +kernel
theorem dX7_overrides_19 : decode cX7_overrides 19 = .ok (.aload_n 0, 1) := by decide +kernel
theorem dX7_overrides_20 : decode cX7_overrides 20 = .ok (.getfield 16, 3) := by decide +kernel
theorem dX7_overrides_23 : decode cX7_overrides 23 = .ok (.iload_n 1, 1) := by decide +kernel
theorem dX7_overrides_24 : decode cX7_overrides 24 = .ok (.iload_n 2, 1) := by decide +kernel
theorem dX7_overrides_25 : decode cX7_overrides 25 = .ok (.invokevirtual 163, 3) := by decide +kernel
theorem dX7_overrides_28 : decode cX7_overrides 28 = .ok (.invokestatic 124, 3) := by decide +kernel
theorem dX7_overrides_31 : decode cX7_overrides 31 = .ok (.ireturn, 1) := by decide +kernel
theorem dX7_bridge_0 : decode cX7_bridge 0 = .ok (.aload_n 0, 1) := by decide +kernel
theorem dX7_bridge_1 : decode cX7_bridge 1 = .ok (.iload_n 1, 1) := by decide +kernel
theorem dX7_bridge_2 : decode cX7_bridge 2 = .ok (.invokevirtual 76, 3) := by decide +kernel
theorem dX7_bridge_5 : decode cX7_bridge 5 = .ok (.ifCond .ne 6, 3) := by decide +kernel
theorem dX7_bridge_8 : decode cX7_bridge 8 = .ok (.bipush (-11), 2) := by decide +kernel
theorem dX7_bridge_10 : decode cX7_bridge 10 = .ok (.ireturn, 1) := by decide +kernel
theorem dX7_bridge_11 : decode cX7_bridge 11 = .ok (.iload_n 3, 1) := by decide +kernel
theorem dX7_bridge_12 : decode cX7_bridge 12 = .ok (.ifCond .lt 8, 3) := by decide +kernel
theorem dX7_bridge_15 : decode cX7_bridge 15 = .ok (.iload_n 3, 1) := by decide +kernel
theorem dX7_bridge_16 : decode cX7_bridge 16 = .ok (.iconst 4, 1) := by decide +kernel
theorem dX7_bridge_17 : decode cX7_bridge 17 = .ok (.if_icmp .le 6, 3) := by decide +kernel
theorem dX7_bridge_20 : decode cX7_bridge 20 = .ok (.bipush (-12), 2) := by decide +kernel
theorem dX7_bridge_22 : decode cX7_bridge 22 = .ok (.ireturn, 1) := by decide +kernel
theorem dX7_bridge_23 : decode cX7_bridge 23 = .ok (.aload_n 0, 1) := by decide +kernel
theorem dX7_bridge_24 : decode cX7_bridge 24 = .ok (.getfield 16, 3) := by decide +kernel
theorem dX7_bridge_27 : decode cX7_bridge 27 = .ok (.getfield 80, 3) := by decide +kernel
theorem dX7_bridge_30 : decode cX7_bridge 30 = .ok (.iload_n 1, 1) := by decide +kernel
theorem dX7_bridge_31 : decode cX7_bridge 31 = .ok (.aaload, 1) := by decide +kernel
theorem dX7_bridge_32 : decode cX7_bridge 32 = .ok (.astore 4, 2) := by decide +kernel
theorem dX7_bridge_34 : decode cX7_bridge 34 = .ok (.iload_n 2, 1) := by decide +kernel
theorem dX7_bridge_35 : decode cX7_bridge 35 = .ok (.ifCond .lt 12, 3) := by decide +kernel
theorem dX7_bridge_38 : decode cX7_bridge 38 = .ok (.iload_n 2, 1) := by decide +kernel
theorem dX7_bridge_39 : decode cX7_bridge 39 = .ok (.aload 4, 2) := by decide +kernel
theorem dX7_bridge_41 : decode cX7_bridge 41 = .ok (.getfield 104, 3) := by decide +kernel
theorem dX7_bridge_44 : decode cX7_bridge 44 = .ok (.if_icmp .lt 6, 3) := by decide +kernel
theorem dX7_bridge_47 : decode cX7_bridge 47 = .ok (.bipush (-13), 2) := by decide +kernel
theorem dX7_bridge_49 : decode cX7_bridge 49 = .ok (.ireturn, 1) := by decide +kernel
theorem dX7_bridge_50 : decode cX7_bridge 50 = .ok (.aload 4, 2) := by decide +kernel
theorem dX7_bridge_52 : decode cX7_bridge 52 = .ok (.getfield 166, 3) := by decide +kernel
theorem dX7_bridge_55 : decode cX7_bridge 55 = .ok (.iload_n 2, 1) := by decide +kernel
theorem dX7_bridge_56 : decode cX7_bridge 56 = .ok (.iadd, 1) := by decide +kernel
theorem dX7_bridge_57 : decode cX7_bridge 57 = .ok (.istore 5, 2) := by decide +kernel
theorem dX7_bridge_59 : decode cX7_bridge 59 = .ok (.iload_n 3, 1) := by decide +kernel
theorem dX7_bridge_60 : decode cX7_bridge 60 = .ok (.ifCond .ne 14, 3) := by decide +kernel
theorem dX7_bridge_63 : decode cX7_bridge 63 = .ok (.aload_n 0, 1) := by decide +kernel
theorem dX7_bridge_64 : decode cX7_bridge 64 = .ok (.getfield 16, 3) := by decide +kernel
theorem dX7_bridge_67 : decode cX7_bridge 67 = .ok (.getfield 169, 3) := by decide +kernel
theorem dX7_bridge_70 : decode cX7_bridge 70 = .ok (.iload 5, 2) := by decide +kernel
theorem dX7_bridge_72 : decode cX7_bridge 72 = .ok (.iaload, 1) := by decide +kernel
theorem dX7_bridge_73 : decode cX7_bridge 73 = .ok (.ireturn, 1) := by decide +kernel
theorem dX7_bridge_74 : decode cX7_bridge 74 = .ok (.aload_n 0, 1) := by decide +kernel
theorem dX7_bridge_75 : decode cX7_bridge 75 = .ok (.getfield 16, 3) := by decide +kernel
theorem dX7_bridge_78 : decode cX7_bridge 78 = .ok (.getfield 172, 3) := by decide +kernel
theorem dX7_bridge_81 : decode cX7_bridge 81 = .ok (.iload 5, 2) := by decide +kernel
theorem dX7_bridge_83 : decode cX7_bridge 83 = .ok (.iaload, 1) := by decide +kernel
theorem dX7_bridge_84 : decode cX7_bridge 84 = .ok (.istore 6, 2) := by decide +kernel
theorem dX7_bridge_86 : decode cX7_bridge 86 = .ok (.iload_n 3, 1) := by decide +kernel
theorem dX7_bridge_87 : decode cX7_bridge 87 = .ok (.iconst 1, 1) := by decide +kernel
theorem dX7_bridge_88 : decode cX7_bridge 88 = .ok (.if_icmp .ne 8, 3) := by decide +kernel
theorem dX7_bridge_91 : decode cX7_bridge 91 = .ok (.iload 6, 2) := by decide +kernel
theorem dX7_bridge_93 : decode cX7_bridge 93 = .ok (.goto 23, 3) := by decide +kernel
theorem dX7_bridge_96 : decode cX7_bridge 96 = .ok (.aload_n 0, 1) := by decide +kernel
theorem dX7_bridge_97 : decode cX7_bridge 97 = .ok (.getfield 16, 3) := by decide +kernel
theorem dX7_bridge_100 : decode cX7_bridge 100 = .ok (.getfield 131, 3) := by decide +kernel
theorem dX7_bridge_103 : decode cX7_bridge 103 = .ok (.iload 6, 2) := by decide +kernel
theorem dX7_bridge_105 : decode cX7_bridge 105 = .ok (.aaload, 1) := by decide +kernel
theorem dX7_bridge_106 : decode cX7_bridge 106 = .ok (.getfield 156, 3) := by decide +kernel
theorem dX7_bridge_109 : decode cX7_bridge 109 = .ok (.iload_n 3, 1) := by decide +kernel
theorem dX7_bridge_110 : decode cX7_bridge 110 = .ok (.iconst 2, 1) := by decide +kernel
theorem dX7_bridge_111 : decode cX7_bridge 111 = .ok (.isub, 1) := by decide +kernel
theorem dX7_bridge_112 : decode cX7_bridge 112 = .ok (.iaload, 1) := by decide +kernel
theorem dX7_bridge_113 : decode cX7_bridge 113 = .ok (.invokestatic 159, 3) := by decide +kernel
theorem dX7_bridge_116 : decode cX7_bridge 116 = .ok (.ireturn, 1) := by decide +kernel
theorem dX7_same_0 : decode cX7_same 0 = .ok (.aload_n 0, 1) := by decide +kernel
theorem dX7_same_1 : decode cX7_same 1 = .ok (.iload_n 1, 1) := by decide +kernel
theorem dX7_same_2 : decode cX7_same 2 = .ok (.invokevirtual 76, 3) := by decide +kernel
theorem dX7_same_5 : decode cX7_same 5 = .ok (.ifCond .eq 11, 3) := by decide +kernel
theorem dX7_same_8 : decode cX7_same 8 = .ok (.aload_n 0, 1) := by decide +kernel
theorem dX7_same_9 : decode cX7_same 9 = .ok (.iload_n 2, 1) := by decide +kernel
theorem dX7_same_10 : decode cX7_same 10 = .ok (.invokevirtual 76, 3) := by decide +kernel
theorem dX7_same_13 : decode cX7_same 13 = .ok (.ifCond .ne 6, 3) := by decide +kernel
theorem dX7_same_16 : decode cX7_same 16 = .ok (.bipush (-11), 2) := by decide +kernel
theorem dX7_same_18 : decode cX7_same 18 = .ok (.ireturn, 1) := by decide +kernel
theorem dX7_same_19 : decode cX7_same 19 = .ok (.iload_n 3, 1) := by decide +kernel
theorem dX7_same_20 : decode cX7_same 20 = .ok (.ifCond .eq 15, 3) := by decide +kernel
theorem dX7_same_23 : decode cX7_same 23 = .ok (.aload_n 0, 1) := by decide +kernel
theorem dX7_same_24 : decode cX7_same 24 = .ok (.getfield 16, 3) := by decide +kernel
theorem dX7_same_27 : decode cX7_same 27 = .ok (.iload_n 1, 1) := by decide +kernel
theorem dX7_same_28 : decode cX7_same 28 = .ok (.iload_n 2, 1) := by decide +kernel
theorem dX7_same_29 : decode cX7_same 29 = .ok (.invokevirtual 175, 3) := by decide +kernel
theorem dX7_same_32 : decode cX7_same 32 = .ok (.goto 12, 3) := by decide +kernel
theorem dX7_same_35 : decode cX7_same 35 = .ok (.aload_n 0, 1) := by decide +kernel
theorem dX7_same_36 : decode cX7_same 36 = .ok (.getfield 16, 3) := by decide +kernel
theorem dX7_same_39 : decode cX7_same 39 = .ok (.iload_n 1, 1) := by decide +kernel
theorem dX7_same_40 : decode cX7_same 40 = .ok (.iload_n 2, 1) := by decide +kernel
theorem dX7_same_41 : decode cX7_same 41 = .ok (.invokevirtual 178, 3) := by decide +kernel
theorem dX7_same_44 : decode cX7_same 44 = .ok (.invokestatic 124, 3) := by decide +kernel
theorem dX7_same_47 : decode cX7_same 47 = .ok (.ireturn, 1) := by decide +kernel
theorem dX7_lookup_0 : decode cX7_lookup 0 = .ok (.aload_n 0, 1) := by decide +kernel
theorem dX7_lookup_1 : decode cX7_lookup 1 = .ok (.iload_n 1, 1) := by decide +kernel
theorem dX7_lookup_2 : decode cX7_lookup 2 = .ok (.invokevirtual 76, 3) := by decide +kernel
theorem dX7_lookup_5 : decode cX7_lookup 5 = .ok (.ifCond .eq 11, 3) := by decide +kernel
theorem dX7_lookup_8 : decode cX7_lookup 8 = .ok (.aload_n 0, 1) := by decide +kernel
theorem dX7_lookup_9 : decode cX7_lookup 9 = .ok (.iload_n 2, 1) := by decide +kernel
theorem dX7_lookup_10 : decode cX7_lookup 10 = .ok (.invokevirtual 128, 3) := by decide +kernel
theorem dX7_lookup_13 : decode cX7_lookup 13 = .ok (.ifCond .ne 6, 3) := by decide +kernel
theorem dX7_lookup_16 : decode cX7_lookup 16 = .ok (.bipush (-11), 2) := by decide +kernel
theorem dX7_lookup_18 : decode cX7_lookup 18 = .ok (.ireturn, 1) := by decide +kernel
theorem dX7_lookup_19 : decode cX7_lookup 19 = .ok (.aload_n 0, 1) := by decide +kernel
theorem dX7_lookup_20 : decode cX7_lookup 20 = .ok (.getfield 44, 3) := by decide +kernel
theorem dX7_lookup_23 : decode cX7_lookup 23 = .ok (.aload_n 0, 1) := by decide +kernel
theorem dX7_lookup_24 : decode cX7_lookup 24 = .ok (.getfield 16, 3) := by decide +kernel
theorem dX7_lookup_27 : decode cX7_lookup 27 = .ok (.invokevirtual 181, 3) := by decide +kernel
theorem dX7_lookup_30 : decode cX7_lookup 30 = .ok (.aload_n 0, 1) := by decide +kernel
theorem dX7_lookup_31 : decode cX7_lookup 31 = .ok (.aload_n 0, 1) := by decide +kernel
theorem dX7_lookup_32 : decode cX7_lookup 32 = .ok (.getfield 44, 3) := by decide +kernel
theorem dX7_lookup_35 : decode cX7_lookup 35 = .ok (.iload_n 1, 1) := by decide +kernel
theorem dX7_lookup_36 : decode cX7_lookup 36 = .ok (.aload_n 0, 1) := by decide +kernel
theorem dX7_lookup_37 : decode cX7_lookup 37 = .ok (.getfield 16, 3) := by decide +kernel
theorem dX7_lookup_40 : decode cX7_lookup 40 = .ok (.getfield 131, 3) := by decide +kernel
theorem dX7_lookup_43 : decode cX7_lookup 43 = .ok (.iload_n 2, 1) := by decide +kernel
theorem dX7_lookup_44 : decode cX7_lookup 44 = .ok (.aaload, 1) := by decide +kernel
theorem dX7_lookup_45 : decode cX7_lookup 45 = .ok (.getfield 184, 3) := by decide +kernel
theorem dX7_lookup_48 : decode cX7_lookup 48 = .ok (.invokevirtual 187, 3) := by decide +kernel
theorem dX7_lookup_51 : decode cX7_lookup 51 = .ok (.invokevirtual 191, 3) := by decide +kernel
theorem dX7_lookup_54 : decode cX7_lookup 54 = .ok (.ireturn, 1) := by decide +kernel
theorem dX7_specific_0 : decode cX7_specific 0 = .ok (.aload_n 0, 1) := by decide +kernel
theorem dX7_specific_1 : decode cX7_specific 1 = .ok (.iload_n 1, 1) := by decide +kernel
theorem dX7_specific_2 : decode cX7_specific 2 = .ok (.invokevirtual 76, 3) := by decide +kernel
theorem dX7_specific_5 : decode cX7_specific 5 = .ok (.ifCond .eq 11, 3) := by decide +kernel
theorem dX7_specific_8 : decode cX7_specific 8 = .ok (.aload_n 0, 1) := by decide +kernel
theorem dX7_specific_9 : decode cX7_specific 9 = .ok (.iload_n 2, 1) := by decide +kernel
theorem dX7_specific_10 : decode cX7_specific 10 = .ok (.invokevirtual 128, 3) := by decide +kernel
theorem dX7_specific_13 : decode cX7_specific 13 = .ok (.ifCond .ne 6, 3) := by decide +kernel
theorem dX7_specific_16 : decode cX7_specific 16 = .ok (.bipush (-11), 2) := by decide +kernel
theorem dX7_specific_18 : decode cX7_specific 18 = .ok (.ireturn, 1) := by decide +kernel
theorem dX7_specific_19 : decode cX7_specific 19 = .ok (.aload_n 0, 1) := by decide +kernel
theorem dX7_specific_20 : decode cX7_specific 20 = .ok (.getfield 44, 3) := by decide +kernel
theorem dX7_specific_23 : decode cX7_specific 23 = .ok (.aload_n 0, 1) := by decide +kernel
theorem dX7_specific_24 : decode cX7_specific 24 = .ok (.getfield 16, 3) := by decide +kernel
theorem dX7_specific_27 : decode cX7_specific 27 = .ok (.invokevirtual 181, 3) := by decide +kernel
theorem dX7_specific_30 : decode cX7_specific 30 = .ok (.aload_n 0, 1) := by decide +kernel
theorem dX7_specific_31 : decode cX7_specific 31 = .ok (.getfield 44, 3) := by decide +kernel
theorem dX7_specific_34 : decode cX7_specific 34 = .ok (.iload_n 1, 1) := by decide +kernel
theorem dX7_specific_35 : decode cX7_specific 35 = .ok (.aload_n 0, 1) := by decide +kernel
theorem dX7_specific_36 : decode cX7_specific 36 = .ok (.getfield 16, 3) := by decide +kernel
theorem dX7_specific_39 : decode cX7_specific 39 = .ok (.getfield 131, 3) := by decide +kernel
theorem dX7_specific_42 : decode cX7_specific 42 = .ok (.iload_n 2, 1) := by decide +kernel
theorem dX7_specific_43 : decode cX7_specific 43 = .ok (.aaload, 1) := by decide +kernel
theorem dX7_specific_44 : decode cX7_specific 44 = .ok (.getfield 184, 3) := by decide +kernel
theorem dX7_specific_47 : decode cX7_specific 47 = .ok (.iload_n 3, 1) := by decide +kernel
theorem dX7_specific_48 : decode cX7_specific 48 = .ok (.invokevirtual 194, 3) := by decide +kernel
theorem dX7_specific_51 : decode cX7_specific 51 = .ok (.istore 4, 2) := by decide +kernel
theorem dX7_specific_53 : decode cX7_specific 53 = .ok (.iload 4, 2) := by decide +kernel
theorem dX7_specific_55 : decode cX7_specific 55 = .ok (.iconst (-1), 1) := by decide +kernel
theorem dX7_specific_56 : decode cX7_specific 56 = .ok (.if_icmp .ne 8, 3) := by decide +kernel
theorem dX7_specific_59 : decode cX7_specific 59 = .ok (.bipush (-13), 2) := by decide +kernel
theorem dX7_specific_61 : decode cX7_specific 61 = .ok (.goto 9, 3) := by decide +kernel
theorem dX7_specific_64 : decode cX7_specific 64 = .ok (.aload_n 0, 1) := by decide +kernel
theorem dX7_specific_65 : decode cX7_specific 65 = .ok (.iload 4, 2) := by decide +kernel
theorem dX7_specific_67 : decode cX7_specific 67 = .ok (.invokevirtual 191, 3) := by decide +kernel
theorem dX7_specific_70 : decode cX7_specific 70 = .ok (.ireturn, 1) := by decide +kernel
theorem dX7_may_0 : decode cX7_may 0 = .ok (.aload_n 0, 1) := by decide +kernel
theorem dX7_may_1 : decode cX7_may 1 = .ok (.iload_n 1, 1) := by decide +kernel
theorem dX7_may_2 : decode cX7_may 2 = .ok (.invokevirtual 76, 3) := by decide +kernel
theorem dX7_may_5 : decode cX7_may 5 = .ok (.ifCond .eq 28, 3) := by decide +kernel
theorem dX7_may_8 : decode cX7_may 8 = .ok (.aload_n 0, 1) := by decide +kernel
theorem dX7_may_9 : decode cX7_may 9 = .ok (.iload_n 2, 1) := by decide +kernel
theorem dX7_may_10 : decode cX7_may 10 = .ok (.invokevirtual 76, 3) := by decide +kernel
theorem dX7_may_13 : decode cX7_may 13 = .ok (.ifCond .eq 20, 3) := by decide +kernel
theorem dX7_may_16 : decode cX7_may 16 = .ok (.aload_n 0, 1) := by decide +kernel
theorem dX7_may_17 : decode cX7_may 17 = .ok (.iload_n 3, 1) := by decide +kernel
theorem dX7_may_18 : decode cX7_may 18 = .ok (.invokevirtual 128, 3) := by decide +kernel
theorem dX7_may_21 : decode cX7_may 21 = .ok (.ifCond .eq 12, 3) := by decide +kernel
theorem dX7_may_24 : decode cX7_may 24 = .ok (.aload_n 0, 1) := by decide +kernel
theorem dX7_may_25 : decode cX7_may 25 = .ok (.iload 4, 2) := by decide +kernel
theorem dX7_may_27 : decode cX7_may 27 = .ok (.invokevirtual 76, 3) := by decide +kernel
theorem dX7_may_30 : decode cX7_may 30 = .ok (.ifCond .ne 6, 3) := by decide +kernel
theorem dX7_may_33 : decode cX7_may 33 = .ok (.bipush (-11), 2) := by decide +kernel
theorem dX7_may_35 : decode cX7_may 35 = .ok (.ireturn, 1) := by decide +kernel
theorem dX7_may_36 : decode cX7_may 36 = .ok (.aload_n 0, 1) := by decide +kernel
theorem dX7_may_37 : decode cX7_may 37 = .ok (.getfield 44, 3) := by decide +kernel
theorem dX7_may_40 : decode cX7_may 40 = .ok (.aload_n 0, 1) := by decide +kernel
theorem dX7_may_41 : decode cX7_may 41 = .ok (.getfield 16, 3) := by decide +kernel
theorem dX7_may_44 : decode cX7_may 44 = .ok (.invokevirtual 181, 3) := by decide +kernel
theorem dX7_may_47 : decode cX7_may 47 = .ok (.aload_n 0, 1) := by decide +kernel
theorem dX7_may_48 : decode cX7_may 48 = .ok (.getfield 44, 3) := by decide +kernel
theorem dX7_may_51 : decode cX7_may 51 = .ok (.iload_n 2, 1) := by decide +kernel
theorem dX7_may_52 : decode cX7_may 52 = .ok (.aload_n 0, 1) := by decide +kernel
theorem dX7_may_53 : decode cX7_may 53 = .ok (.getfield 16, 3) := by decide +kernel
theorem dX7_may_56 : decode cX7_may 56 = .ok (.getfield 131, 3) := by decide +kernel
theorem dX7_may_59 : decode cX7_may 59 = .ok (.iload_n 3, 1) := by decide +kernel
theorem dX7_may_60 : decode cX7_may 60 = .ok (.aaload, 1) := by decide +kernel
theorem dX7_may_61 : decode cX7_may 61 = .ok (.getfield 184, 3) := by decide +kernel
theorem dX7_may_64 : decode cX7_may 64 = .ok (.invokevirtual 187, 3) := by decide +kernel
theorem dX7_may_67 : decode cX7_may 67 = .ok (.istore 5, 2) := by decide +kernel
theorem dX7_may_69 : decode cX7_may 69 = .ok (.iload 5, 2) := by decide +kernel
theorem dX7_may_71 : decode cX7_may 71 = .ok (.iconst (-1), 1) := by decide +kernel
theorem dX7_may_72 : decode cX7_may 72 = .ok (.if_icmp .ne 7, 3) := by decide +kernel
theorem dX7_may_75 : decode cX7_may 75 = .ok (.iconst (-1), 1) := by decide +kernel
theorem dX7_may_76 : decode cX7_may 76 = .ok (.goto 19, 3) := by decide +kernel
theorem dX7_may_79 : decode cX7_may 79 = .ok (.aload_n 0, 1) := by decide +kernel
theorem dX7_may_80 : decode cX7_may 80 = .ok (.getfield 44, 3) := by decide +kernel
theorem dX7_may_83 : decode cX7_may 83 = .ok (.iload_n 1, 1) := by decide +kernel
theorem dX7_may_84 : decode cX7_may 84 = .ok (.iload_n 2, 1) := by decide +kernel
theorem dX7_may_85 : decode cX7_may 85 = .ok (.iload 5, 2) := by decide +kernel
theorem dX7_may_87 : decode cX7_may 87 = .ok (.iload 4, 2) := by decide +kernel
theorem dX7_may_89 : decode cX7_may 89 = .ok (.invokevirtual 198, 3) := by decide +kernel
theorem dX7_may_92 : decode cX7_may 92 = .ok (.invokestatic 124, 3) := by decide +kernel
theorem dX7_may_95 : decode cX7_may 95 = .ok (.ireturn, 1) := by decide +kernel
theorem dX7_rule_0 : decode cX7_rule 0 = .ok (.aload_n 0, 1) := by decide +kernel
theorem dX7_rule_1 : decode cX7_rule 1 = .ok (.iload_n 2, 1) := by decide +kernel
theorem dX7_rule_2 : decode cX7_rule 2 = .ok (.invokevirtual 76, 3) := by decide +kernel
theorem dX7_rule_5 : decode cX7_rule 5 = .ok (.ifCond .eq 34, 3) := by decide +kernel
theorem dX7_rule_8 : decode cX7_rule 8 = .ok (.aload_n 0, 1) := by decide +kernel
theorem dX7_rule_9 : decode cX7_rule 9 = .ok (.iload_n 3, 1) := by decide +kernel
theorem dX7_rule_10 : decode cX7_rule 10 = .ok (.invokevirtual 76, 3) := by decide +kernel
theorem dX7_rule_13 : decode cX7_rule 13 = .ok (.ifCond .eq 26, 3) := by decide +kernel
theorem dX7_rule_16 : decode cX7_rule 16 = .ok (.aload_n 0, 1) := by decide +kernel
theorem dX7_rule_17 : decode cX7_rule 17 = .ok (.iload 4, 2) := by decide +kernel
theorem dX7_rule_19 : decode cX7_rule 19 = .ok (.invokevirtual 128, 3) := by decide +kernel
theorem dX7_rule_22 : decode cX7_rule 22 = .ok (.ifCond .eq 17, 3) := by decide +kernel
theorem dX7_rule_25 : decode cX7_rule 25 = .ok (.iload_n 1, 1) := by decide +kernel
theorem dX7_rule_26 : decode cX7_rule 26 = .ok (.iconst 3, 1) := by decide +kernel
theorem dX7_rule_27 : decode cX7_rule 27 = .ok (.if_icmp .eq 15, 3) := by decide +kernel
theorem dX7_rule_30 : decode cX7_rule 30 = .ok (.aload_n 0, 1) := by decide +kernel
theorem dX7_rule_31 : decode cX7_rule 31 = .ok (.iload 5, 2) := by decide +kernel
theorem dX7_rule_33 : decode cX7_rule 33 = .ok (.invokevirtual 76, 3) := by decide +kernel
theorem dX7_rule_36 : decode cX7_rule 36 = .ok (.ifCond .ne 6, 3) := by decide +kernel
theorem dX7_rule_39 : decode cX7_rule 39 = .ok (.bipush (-11), 2) := by decide +kernel
theorem dX7_rule_41 : decode cX7_rule 41 = .ok (.ireturn, 1) := by decide +kernel
theorem dX7_rule_42 : decode cX7_rule 42 = .ok (.iload_n 1, 1) := by decide +kernel
theorem dX7_rule_43 : decode cX7_rule 43 = .ok (.ifCond .lt 8, 3) := by decide +kernel
theorem dX7_rule_46 : decode cX7_rule 46 = .ok (.iload_n 1, 1) := by decide +kernel
theorem dX7_rule_47 : decode cX7_rule 47 = .ok (.iconst 3, 1) := by decide +kernel
theorem dX7_rule_48 : decode cX7_rule 48 = .ok (.if_icmp .le 6, 3) := by decide +kernel
theorem dX7_rule_51 : decode cX7_rule 51 = .ok (.bipush (-12), 2) := by decide +kernel
theorem dX7_rule_53 : decode cX7_rule 53 = .ok (.ireturn, 1) := by decide +kernel
theorem dX7_rule_54 : decode cX7_rule 54 = .ok (.aload_n 0, 1) := by decide +kernel
theorem dX7_rule_55 : decode cX7_rule 55 = .ok (.getfield 44, 3) := by decide +kernel
theorem dX7_rule_58 : decode cX7_rule 58 = .ok (.aload_n 0, 1) := by decide +kernel
theorem dX7_rule_59 : decode cX7_rule 59 = .ok (.getfield 16, 3) := by decide +kernel
theorem dX7_rule_62 : decode cX7_rule 62 = .ok (.invokevirtual 181, 3) := by decide +kernel
theorem dX7_rule_65 : decode cX7_rule 65 = .ok (.aload_n 0, 1) := by decide +kernel
theorem dX7_rule_66 : decode cX7_rule 66 = .ok (.getfield 44, 3) := by decide +kernel
theorem dX7_rule_69 : decode cX7_rule 69 = .ok (.iload_n 1, 1) := by decide +kernel
theorem dX7_rule_70 : decode cX7_rule 70 = .ok (.iload_n 2, 1) := by decide +kernel
theorem dX7_rule_71 : decode cX7_rule 71 = .ok (.iload_n 3, 1) := by decide +kernel
theorem dX7_rule_72 : decode cX7_rule 72 = .ok (.iload 4, 2) := by decide +kernel
theorem dX7_rule_74 : decode cX7_rule 74 = .ok (.iload 5, 2) := by decide +kernel
theorem dX7_rule_76 : decode cX7_rule 76 = .ok (.invokevirtual 202, 3) := by decide +kernel
theorem dX7_rule_79 : decode cX7_rule 79 = .ok (.istore 6, 2) := by decide +kernel
theorem dX7_rule_81 : decode cX7_rule 81 = .ok (.aload_n 0, 1) := by decide +kernel
theorem dX7_rule_82 : decode cX7_rule 82 = .ok (.aload_n 0, 1) := by decide +kernel
theorem dX7_rule_83 : decode cX7_rule 83 = .ok (.getfield 44, 3) := by decide +kernel
theorem dX7_rule_86 : decode cX7_rule 86 = .ok (.getfield 206, 3) := by decide +kernel
theorem dX7_rule_89 : decode cX7_rule 89 = .ok (.putfield 209, 3) := by decide +kernel
theorem dX7_rule_92 : decode cX7_rule 92 = .ok (.iload 6, 2) := by decide +kernel
theorem dX7_rule_94 : decode cX7_rule 94 = .ok (.ireturn, 1) := by decide +kernel
theorem dX7_hops_0 : decode cX7_hops 0 = .ok (.aload_n 0, 1) := by decide +kernel
theorem dX7_hops_1 : decode cX7_hops 1 = .ok (.getfield 209, 3) := by decide +kernel
theorem dX7_hops_4 : decode cX7_hops 4 = .ok (.ireturn, 1) := by decide +kernel
theorem dX7_conflicts_0 : decode cX7_conflicts 0 = .ok (.aload_n 0, 1) := by decide +kernel
theorem dX7_conflicts_1 : decode cX7_conflicts 1 = .ok (.iload_n 1, 1) := by decide +kernel
theorem dX7_conflicts_2 : decode cX7_conflicts 2 = .ok (.invokevirtual 76, 3) := by decide +kernel
theorem dX7_conflicts_5 : decode cX7_conflicts 5 = .ok (.ifCond .ne 6, 3) := by decide +kernel
theorem dX7_conflicts_8 : decode cX7_conflicts 8 = .ok (.bipush (-11), 2) := by decide +kernel
theorem dX7_conflicts_10 : decode cX7_conflicts 10 = .ok (.ireturn, 1) := by decide +kernel
theorem dX7_conflicts_11 : decode cX7_conflicts 11 = .ok (.aload_n 0, 1) := by decide +kernel
theorem dX7_conflicts_12 : decode cX7_conflicts 12 = .ok (.getfield 16, 3) := by decide +kernel
theorem dX7_conflicts_15 : decode cX7_conflicts 15 = .ok (.getfield 80, 3) := by decide +kernel
theorem dX7_conflicts_18 : decode cX7_conflicts 18 = .ok (.iload_n 1, 1) := by decide +kernel
theorem dX7_conflicts_19 : decode cX7_conflicts 19 = .ok (.aaload, 1) := by decide +kernel
theorem dX7_conflicts_20 : decode cX7_conflicts 20 = .ok (.getfield 92, 3) := by decide +kernel
theorem dX7_conflicts_23 : decode cX7_conflicts 23 = .ok (.ifCond .eq 6, 3) := by decide +kernel
theorem dX7_conflicts_26 : decode cX7_conflicts 26 = .ok (.bipush (-13), 2) := by decide +kernel
theorem dX7_conflicts_28 : decode cX7_conflicts 28 = .ok (.ireturn, 1) := by decide +kernel
theorem dX7_conflicts_29 : decode cX7_conflicts 29 = .ok (.aload_n 0, 1) := by decide +kernel
theorem dX7_conflicts_30 : decode cX7_conflicts 30 = .ok (.getfield 44, 3) := by decide +kernel
theorem dX7_conflicts_33 : decode cX7_conflicts 33 = .ok (.aload_n 0, 1) := by decide +kernel
theorem dX7_conflicts_34 : decode cX7_conflicts 34 = .ok (.getfield 16, 3) := by decide +kernel
theorem dX7_conflicts_37 : decode cX7_conflicts 37 = .ok (.invokevirtual 181, 3) := by decide +kernel
theorem dX7_conflicts_40 : decode cX7_conflicts 40 = .ok (.aload_n 0, 1) := by decide +kernel
theorem dX7_conflicts_41 : decode cX7_conflicts 41 = .ok (.getfield 44, 3) := by decide +kernel
theorem dX7_conflicts_44 : decode cX7_conflicts 44 = .ok (.iload_n 1, 1) := by decide +kernel
theorem dX7_conflicts_45 : decode cX7_conflicts 45 = .ok (.bipush (-3), 2) := by decide +kernel
theorem dX7_conflicts_47 : decode cX7_conflicts 47 = .ok (.invokevirtual 212, 3) := by decide +kernel
theorem dX7_conflicts_50 : decode cX7_conflicts 50 = .ok (.ireturn, 1) := by decide +kernel
theorem dX7_tally_0 : decode cX7_tally 0 = .ok (.aload_n 0, 1) := by decide +kernel
theorem dX7_tally_1 : decode cX7_tally 1 = .ok (.iload_n 1, 1) := by decide +kernel
theorem dX7_tally_2 : decode cX7_tally 2 = .ok (.invokevirtual 76, 3) := by decide +kernel
theorem dX7_tally_5 : decode cX7_tally 5 = .ok (.ifCond .ne 6, 3) := by decide +kernel
theorem dX7_tally_8 : decode cX7_tally 8 = .ok (.bipush (-11), 2) := by decide +kernel
theorem dX7_tally_10 : decode cX7_tally 10 = .ok (.ireturn, 1) := by decide +kernel
theorem dX7_tally_11 : decode cX7_tally 11 = .ok (.iload_n 2, 1) := by decide +kernel
theorem dX7_tally_12 : decode cX7_tally 12 = .ok (.bipush (-7), 2) := by decide +kernel
theorem dX7_tally_14 : decode cX7_tally 14 = .ok (.if_icmp .lt 7, 3) := by decide +kernel
theorem dX7_tally_17 : decode cX7_tally 17 = .ok (.iload_n 2, 1) := by decide +kernel
theorem dX7_tally_18 : decode cX7_tally 18 = .ok (.ifCond .le 6, 3) := by decide +kernel
theorem dX7_tally_21 : decode cX7_tally 21 = .ok (.bipush (-12), 2) := by decide +kernel
theorem dX7_tally_23 : decode cX7_tally 23 = .ok (.ireturn, 1) := by decide +kernel
theorem dX7_tally_24 : decode cX7_tally 24 = .ok (.aload_n 0, 1) := by decide +kernel
theorem dX7_tally_25 : decode cX7_tally 25 = .ok (.getfield 16, 3) := by decide +kernel
theorem dX7_tally_28 : decode cX7_tally 28 = .ok (.getfield 80, 3) := by decide +kernel
theorem dX7_tally_31 : decode cX7_tally 31 = .ok (.iload_n 1, 1) := by decide +kernel
theorem dX7_tally_32 : decode cX7_tally 32 = .ok (.aaload, 1) := by decide +kernel
theorem dX7_tally_33 : decode cX7_tally 33 = .ok (.getfield 92, 3) := by decide +kernel
theorem dX7_tally_36 : decode cX7_tally 36 = .ok (.ifCond .eq 6, 3) := by decide +kernel
theorem dX7_tally_39 : decode cX7_tally 39 = .ok (.bipush (-13), 2) := by decide +kernel
theorem dX7_tally_41 : decode cX7_tally 41 = .ok (.ireturn, 1) := by decide +kernel
theorem dX7_tally_42 : decode cX7_tally 42 = .ok (.aload_n 0, 1) := by decide +kernel
theorem dX7_tally_43 : decode cX7_tally 43 = .ok (.getfield 44, 3) := by decide +kernel
theorem dX7_tally_46 : decode cX7_tally 46 = .ok (.aload_n 0, 1) := by decide +kernel
theorem dX7_tally_47 : decode cX7_tally 47 = .ok (.getfield 16, 3) := by decide +kernel
theorem dX7_tally_50 : decode cX7_tally 50 = .ok (.invokevirtual 181, 3) := by decide +kernel
theorem dX7_tally_53 : decode cX7_tally 53 = .ok (.aload_n 0, 1) := by decide +kernel
theorem dX7_tally_54 : decode cX7_tally 54 = .ok (.getfield 44, 3) := by decide +kernel
theorem dX7_tally_57 : decode cX7_tally 57 = .ok (.iload_n 1, 1) := by decide +kernel
theorem dX7_tally_58 : decode cX7_tally 58 = .ok (.iload_n 2, 1) := by decide +kernel
theorem dX7_tally_59 : decode cX7_tally 59 = .ok (.invokevirtual 212, 3) := by decide +kernel
theorem dX7_tally_62 : decode cX7_tally 62 = .ok (.ireturn, 1) := by decide +kernel
theorem dX7_told_0 : decode cX7_told 0 = .ok (.iload_n 1, 1) := by decide +kernel
theorem dX7_told_1 : decode cX7_told 1 = .ok (.tableswitch 72 0 4 #[35, 43, 51, 59, 67], 35) := by decide +kernel
theorem dX7_told_36 : decode cX7_told 36 = .ok (.aload_n 0, 1) := by decide +kernel
theorem dX7_told_37 : decode cX7_told 37 = .ok (.getfield 16, 3) := by decide +kernel
theorem dX7_told_40 : decode cX7_told 40 = .ok (.getfield 73, 3) := by decide +kernel
theorem dX7_told_43 : decode cX7_told 43 = .ok (.ireturn, 1) := by decide +kernel
theorem dX7_told_44 : decode cX7_told 44 = .ok (.aload_n 0, 1) := by decide +kernel
theorem dX7_told_45 : decode cX7_told 45 = .ok (.getfield 16, 3) := by decide +kernel
theorem dX7_told_48 : decode cX7_told 48 = .ok (.getfield 215, 3) := by decide +kernel
theorem dX7_told_51 : decode cX7_told 51 = .ok (.ireturn, 1) := by decide +kernel
theorem dX7_told_52 : decode cX7_told 52 = .ok (.aload_n 0, 1) := by decide +kernel
theorem dX7_told_53 : decode cX7_told 53 = .ok (.getfield 16, 3) := by decide +kernel
theorem dX7_told_56 : decode cX7_told 56 = .ok (.getfield 216, 3) := by decide +kernel
theorem dX7_told_59 : decode cX7_told 59 = .ok (.ireturn, 1) := by decide +kernel
theorem dX7_told_60 : decode cX7_told 60 = .ok (.aload_n 0, 1) := by decide +kernel
theorem dX7_told_61 : decode cX7_told 61 = .ok (.getfield 16, 3) := by decide +kernel
theorem dX7_told_64 : decode cX7_told 64 = .ok (.getfield 217, 3) := by decide +kernel
theorem dX7_told_67 : decode cX7_told 67 = .ok (.ireturn, 1) := by decide +kernel
theorem dX7_told_68 : decode cX7_told 68 = .ok (.aload_n 0, 1) := by decide +kernel
theorem dX7_told_69 : decode cX7_told 69 = .ok (.getfield 48, 3) := by decide +kernel
theorem dX7_told_72 : decode cX7_told 72 = .ok (.ireturn, 1) := by decide +kernel
theorem dX7_told_73 : decode cX7_told 73 = .ok (.bipush (-12), 2) := by decide +kernel
theorem dX7_told_75 : decode cX7_told 75 = .ok (.ireturn, 1) := by decide +kernel
theorem dX7_put_0 : decode cX7_put 0 = .ok (.bipush 24, 2) := by decide +kernel
theorem dX7_put_2 : decode cX7_put 2 = .ok (.istore_n 2, 1) := by decide +kernel
theorem dX7_put_3 : decode cX7_put 3 = .ok (.iload_n 2, 1) := by decide +kernel
theorem dX7_put_4 : decode cX7_put 4 = .ok (.ifCond .lt 42, 3) := by decide +kernel
theorem dX7_put_7 : decode cX7_put 7 = .ok (.aload_n 0, 1) := by decide +kernel
theorem dX7_put_8 : decode cX7_put 8 = .ok (.getfield 48, 3) := by decide +kernel
theorem dX7_put_11 : decode cX7_put 11 = .ok (.sipush 4000, 3) := by decide +kernel
theorem dX7_put_14 : decode cX7_put 14 = .ok (.if_icmp .ge 32, 3) := by decide +kernel
theorem dX7_put_17 : decode cX7_put 17 = .ok (.aload_n 0, 1) := by decide +kernel
theorem dX7_put_18 : decode cX7_put 18 = .ok (.getfield 9, 3) := by decide +kernel
theorem dX7_put_21 : decode cX7_put 21 = .ok (.aload_n 0, 1) := by decide +kernel
theorem dX7_put_22 : decode cX7_put 22 = .ok (.getfield 48, 3) := by decide +kernel
theorem dX7_put_25 : decode cX7_put 25 = .ok (.iload_n 1, 1) := by decide +kernel
theorem dX7_put_26 : decode cX7_put 26 = .ok (.iload_n 2, 1) := by decide +kernel
theorem dX7_put_27 : decode cX7_put 27 = .ok (.iushr, 1) := by decide +kernel
theorem dX7_put_28 : decode cX7_put 28 = .ok (.i2b, 1) := by decide +kernel
theorem dX7_put_29 : decode cX7_put 29 = .ok (.bastore, 1) := by decide +kernel
theorem dX7_put_30 : decode cX7_put 30 = .ok (.aload_n 0, 1) := by decide +kernel
theorem dX7_put_31 : decode cX7_put 31 = .ok (.dup, 1) := by decide +kernel
theorem dX7_put_32 : decode cX7_put 32 = .ok (.getfield 48, 3) := by decide +kernel
theorem dX7_put_35 : decode cX7_put 35 = .ok (.iconst 1, 1) := by decide +kernel
theorem dX7_put_36 : decode cX7_put 36 = .ok (.iadd, 1) := by decide +kernel
theorem dX7_put_37 : decode cX7_put 37 = .ok (.putfield 48, 3) := by decide +kernel
theorem dX7_put_40 : decode cX7_put 40 = .ok (.iinc 2 (-8), 3) := by decide +kernel
theorem dX7_put_43 : decode cX7_put 43 = .ok (.goto (-40), 3) := by decide +kernel
theorem dX7_put_46 : decode cX7_put 46 = .ok (.return_, 1) := by decide +kernel
theorem dX7_isType_0 : decode cX7_isType 0 = .ok (.iload_n 1, 1) := by decide +kernel
theorem dX7_isType_1 : decode cX7_isType 1 = .ok (.ifCond .lt 18, 3) := by decide +kernel
theorem dX7_isType_4 : decode cX7_isType 4 = .ok (.iload_n 1, 1) := by decide +kernel
theorem dX7_isType_5 : decode cX7_isType 5 = .ok (.aload_n 0, 1) := by decide +kernel
theorem dX7_isType_6 : decode cX7_isType 6 = .ok (.getfield 16, 3) := by decide +kernel
theorem dX7_isType_9 : decode cX7_isType 9 = .ok (.getfield 73, 3) := by decide +kernel
theorem dX7_isType_12 : decode cX7_isType 12 = .ok (.if_icmp .ge 7, 3) := by decide +kernel
theorem dX7_isType_15 : decode cX7_isType 15 = .ok (.iconst 1, 1) := by decide +kernel
theorem dX7_isType_16 : decode cX7_isType 16 = .ok (.goto 4, 3) := by decide +kernel
theorem dX7_isType_19 : decode cX7_isType 19 = .ok (.iconst 0, 1) := by decide +kernel
theorem dX7_isType_20 : decode cX7_isType 20 = .ok (.ireturn, 1) := by decide +kernel
theorem dX7_isMember_0 : decode cX7_isMember 0 = .ok (.iload_n 1, 1) := by decide +kernel
theorem dX7_isMember_1 : decode cX7_isMember 1 = .ok (.ifCond .lt 18, 3) := by decide +kernel
theorem dX7_isMember_4 : decode cX7_isMember 4 = .ok (.iload_n 1, 1) := by decide +kernel
theorem dX7_isMember_5 : decode cX7_isMember 5 = .ok (.aload_n 0, 1) := by decide +kernel
theorem dX7_isMember_6 : decode cX7_isMember 6 = .ok (.getfield 16, 3) := by decide +kernel
theorem dX7_isMember_9 : decode cX7_isMember 9 = .ok (.getfield 215, 3) := by decide +kernel
theorem dX7_isMember_12 : decode cX7_isMember 12 = .ok (.if_icmp .ge 7, 3) := by decide +kernel
theorem dX7_isMember_15 : decode cX7_isMember 15 = .ok (.iconst 1, 1) := by decide +kernel
theorem dX7_isMember_16 : decode cX7_isMember 16 = .ok (.goto 4, 3) := by decide +kernel
theorem dX7_isMember_19 : decode cX7_isMember 19 = .ok (.iconst 0, 1) := by decide +kernel
theorem dX7_isMember_20 : decode cX7_isMember 20 = .ok (.ireturn, 1) := by decide +kernel
theorem dX7_tell_0 : decode cX7_tell 0 = .ok (.iload_n 1, 1) := by decide +kernel
theorem dX7_tell_1 : decode cX7_tell 1 = .ok (.sipush 1000, 3) := by decide +kernel
theorem dX7_tell_4 : decode cX7_tell 4 = .ok (.if_icmp .ge 7, 3) := by decide +kernel
theorem dX7_tell_7 : decode cX7_tell 7 = .ok (.iload_n 1, 1) := by decide +kernel
theorem dX7_tell_8 : decode cX7_tell 8 = .ok (.goto 15, 3) := by decide +kernel
theorem dX7_tell_11 : decode cX7_tell 11 = .ok (.sipush 1000, 3) := by decide +kernel
theorem dX7_tell_14 : decode cX7_tell 14 = .ok (.aload_n 0, 1) := by decide +kernel
theorem dX7_tell_15 : decode cX7_tell 15 = .ok (.getfield 16, 3) := by decide +kernel
theorem dX7_tell_18 : decode cX7_tell 18 = .ok (.iload_n 1, 1) := by decide +kernel
theorem dX7_tell_19 : decode cX7_tell 19 = .ok (.invokevirtual 220, 3) := by decide +kernel
theorem dX7_tell_22 : decode cX7_tell 22 = .ok (.iadd, 1) := by decide +kernel
theorem dX7_tell_23 : decode cX7_tell 23 = .ok (.ireturn, 1) := by decide +kernel
theorem dX7_yes_0 : decode cX7_yes 0 = .ok (.iload_n 0, 1) := by decide +kernel
theorem dX7_yes_1 : decode cX7_yes 1 = .ok (.ifCond .eq 7, 3) := by decide +kernel
theorem dX7_yes_4 : decode cX7_yes 4 = .ok (.iconst 1, 1) := by decide +kernel
theorem dX7_yes_5 : decode cX7_yes 5 = .ok (.goto 4, 3) := by decide +kernel
theorem dX7_yes_8 : decode cX7_yes 8 = .ok (.iconst 0, 1) := by decide +kernel
theorem dX7_yes_9 : decode cX7_yes 9 = .ok (.ireturn, 1) := by decide +kernel
theorem dX7_orNone_0 : decode cX7_orNone 0 = .ok (.iload_n 0, 1) := by decide +kernel
theorem dX7_orNone_1 : decode cX7_orNone 1 = .ok (.bipush (-9), 2) := by decide +kernel
theorem dX7_orNone_3 : decode cX7_orNone 3 = .ok (.if_icmp .ne 8, 3) := by decide +kernel
theorem dX7_orNone_6 : decode cX7_orNone 6 = .ok (.bipush (-13), 2) := by decide +kernel
theorem dX7_orNone_8 : decode cX7_orNone 8 = .ok (.goto 4, 3) := by decide +kernel
theorem dX7_orNone_11 : decode cX7_orNone 11 = .ok (.iload_n 0, 1) := by decide +kernel
theorem dX7_orNone_12 : decode cX7_orNone 12 = .ok (.ireturn, 1) := by decide +kernel
theorem dL_law_0 : decode cL_law 0 = .ok (.new 7, 3) := by decide +kernel
theorem dL_law_3 : decode cL_law 3 = .ok (.dup, 1) := by decide +kernel
theorem dL_law_4 : decode cL_law 4 = .ok (.invokespecial 9, 3) := by decide +kernel
theorem dL_law_7 : decode cL_law 7 = .ok (.astore_n 1, 1) := by decide +kernel
theorem dL_law_8 : decode cL_law 8 = .ok (.new 10, 3) := by decide +kernel
theorem dL_law_11 : decode cL_law 11 = .ok (.dup, 1) := by decide +kernel
theorem dL_law_12 : decode cL_law 12 = .ok (.invokespecial 12, 3) := by decide +kernel
theorem dL_law_15 : decode cL_law 15 = .ok (.astore_n 2, 1) := by decide +kernel
theorem dL_law_16 : decode cL_law 16 = .ok (.iconst 0, 1) := by decide +kernel
theorem dL_law_17 : decode cL_law 17 = .ok (.istore_n 3, 1) := by decide +kernel
theorem dL_law_18 : decode cL_law 18 = .ok (.iload_n 3, 1) := by decide +kernel
theorem dL_law_19 : decode cL_law 19 = .ok (.aload_n 0, 1) := by decide +kernel
theorem dL_law_20 : decode cL_law 20 = .ok (.arraylength, 1) := by decide +kernel
theorem dL_law_21 : decode cL_law 21 = .ok (.bipush 6, 2) := by decide +kernel
theorem dL_law_23 : decode cL_law 23 = .ok (.isub, 1) := by decide +kernel
theorem dL_law_24 : decode cL_law 24 = .ok (.if_icmp .gt 853, 3) := by decide +kernel
theorem dL_law_27 : decode cL_law 27 = .ok (.aload_n 0, 1) := by decide +kernel
theorem dL_law_28 : decode cL_law 28 = .ok (.iload_n 3, 1) := by decide +kernel
theorem dL_law_29 : decode cL_law 29 = .ok (.iaload, 1) := by decide +kernel
theorem dL_law_30 : decode cL_law 30 = .ok (.bipush 31, 2) := by decide +kernel
theorem dL_law_32 : decode cL_law 32 = .ok (.iand, 1) := by decide +kernel
theorem dL_law_33 : decode cL_law 33 = .ok (.tableswitch 838 0 20 #[99, 162, 185, 198, 211, 244, 277, 310, 343, 386, 419, 452, 495, 554, 587, 630, 683, 746, 759, 782, 815], 99) := by decide +kernel
theorem dL_law_132 : decode cL_law 132 = .ok (.aload_n 1, 1) := by decide +kernel
theorem dL_law_133 : decode cL_law 133 = .ok (.aload_n 0, 1) := by decide +kernel
theorem dL_law_134 : decode cL_law 134 = .ok (.iload_n 3, 1) := by decide +kernel
theorem dL_law_135 : decode cL_law 135 = .ok (.iconst 1, 1) := by decide +kernel
theorem dL_law_136 : decode cL_law 136 = .ok (.iadd, 1) := by decide +kernel
theorem dL_law_137 : decode cL_law 137 = .ok (.iaload, 1) := by decide +kernel
theorem dL_law_138 : decode cL_law 138 = .ok (.aload_n 0, 1) := by decide +kernel
theorem dL_law_139 : decode cL_law 139 = .ok (.iload_n 3, 1) := by decide +kernel
theorem dL_law_140 : decode cL_law 140 = .ok (.iconst 2, 1) := by decide +kernel
theorem dL_law_141 : decode cL_law 141 = .ok (.iadd, 1) := by decide +kernel
theorem dL_law_142 : decode cL_law 142 = .ok (.iaload, 1) := by decide +kernel
theorem dL_law_143 : decode cL_law 143 = .ok (.aload_n 0, 1) := by decide +kernel
theorem dL_law_144 : decode cL_law 144 = .ok (.iload_n 3, 1) := by decide +kernel
theorem dL_law_145 : decode cL_law 145 = .ok (.iconst 3, 1) := by decide +kernel
theorem dL_law_146 : decode cL_law 146 = .ok (.iadd, 1) := by decide +kernel
theorem dL_law_147 : decode cL_law 147 = .ok (.iaload, 1) := by decide +kernel
theorem dL_law_148 : decode cL_law 148 = .ok (.aload_n 0, 1) := by decide +kernel
theorem dL_law_149 : decode cL_law 149 = .ok (.iload_n 3, 1) := by decide +kernel
theorem dL_law_150 : decode cL_law 150 = .ok (.iconst 4, 1) := by decide +kernel
theorem dL_law_151 : decode cL_law 151 = .ok (.iadd, 1) := by decide +kernel
theorem dL_law_152 : decode cL_law 152 = .ok (.iaload, 1) := by decide +kernel
theorem dL_law_153 : decode cL_law 153 = .ok (.aload_n 0, 1) := by decide +kernel
theorem dL_law_154 : decode cL_law 154 = .ok (.iload_n 3, 1) := by decide +kernel
theorem dL_law_155 : decode cL_law 155 = .ok (.iconst 5, 1) := by decide +kernel
theorem dL_law_156 : decode cL_law 156 = .ok (.iadd, 1) := by decide +kernel
theorem dL_law_157 : decode cL_law 157 = .ok (.iaload, 1) := by decide +kernel
theorem dL_law_158 : decode cL_law 158 = .ok (.invokevirtual 13, 3) := by decide +kernel
theorem dL_law_161 : decode cL_law 161 = .ok (.aload_n 2, 1) := by decide +kernel
theorem dL_law_162 : decode cL_law 162 = .ok (.aload_n 0, 1) := by decide +kernel
theorem dL_law_163 : decode cL_law 163 = .ok (.iload_n 3, 1) := by decide +kernel
theorem dL_law_164 : decode cL_law 164 = .ok (.iconst 1, 1) := by decide +kernel
theorem dL_law_165 : decode cL_law 165 = .ok (.iadd, 1) := by decide +kernel
theorem dL_law_166 : decode cL_law 166 = .ok (.iaload, 1) := by decide +kernel
theorem dL_law_167 : decode cL_law 167 = .ok (.aload_n 0, 1) := by decide +kernel
theorem dL_law_168 : decode cL_law 168 = .ok (.iload_n 3, 1) := by decide +kernel
theorem dL_law_169 : decode cL_law 169 = .ok (.iconst 2, 1) := by decide +kernel
theorem dL_law_170 : decode cL_law 170 = .ok (.iadd, 1) := by decide +kernel
theorem dL_law_171 : decode cL_law 171 = .ok (.iaload, 1) := by decide +kernel
theorem dL_law_172 : decode cL_law 172 = .ok (.aload_n 0, 1) := by decide +kernel
theorem dL_law_173 : decode cL_law 173 = .ok (.iload_n 3, 1) := by decide +kernel
theorem dL_law_174 : decode cL_law 174 = .ok (.iconst 3, 1) := by decide +kernel
theorem dL_law_175 : decode cL_law 175 = .ok (.iadd, 1) := by decide +kernel
theorem dL_law_176 : decode cL_law 176 = .ok (.iaload, 1) := by decide +kernel
theorem dL_law_177 : decode cL_law 177 = .ok (.aload_n 0, 1) := by decide +kernel
theorem dL_law_178 : decode cL_law 178 = .ok (.iload_n 3, 1) := by decide +kernel
theorem dL_law_179 : decode cL_law 179 = .ok (.iconst 4, 1) := by decide +kernel
theorem dL_law_180 : decode cL_law 180 = .ok (.iadd, 1) := by decide +kernel
theorem dL_law_181 : decode cL_law 181 = .ok (.iaload, 1) := by decide +kernel
theorem dL_law_182 : decode cL_law 182 = .ok (.aload_n 0, 1) := by decide +kernel
theorem dL_law_183 : decode cL_law 183 = .ok (.iload_n 3, 1) := by decide +kernel
theorem dL_law_184 : decode cL_law 184 = .ok (.iconst 5, 1) := by decide +kernel
theorem dL_law_185 : decode cL_law 185 = .ok (.iadd, 1) := by decide +kernel
theorem dL_law_186 : decode cL_law 186 = .ok (.iaload, 1) := by decide +kernel
theorem dL_law_187 : decode cL_law 187 = .ok (.invokevirtual 17, 3) := by decide +kernel
theorem dL_law_190 : decode cL_law 190 = .ok (.if_icmp .eq 681, 3) := by decide +kernel
theorem dL_law_193 : decode cL_law 193 = .ok (.iconst 0, 1) := by decide +kernel
theorem dL_law_194 : decode cL_law 194 = .ok (.ireturn, 1) := by decide +kernel
theorem dL_law_195 : decode cL_law 195 = .ok (.aload_n 1, 1) := by decide +kernel
theorem dL_law_196 : decode cL_law 196 = .ok (.aload_n 0, 1) := by decide +kernel
theorem dL_law_197 : decode cL_law 197 = .ok (.iload_n 3, 1) := by decide +kernel
theorem dL_law_198 : decode cL_law 198 = .ok (.iconst 1, 1) := by decide +kernel
theorem dL_law_199 : decode cL_law 199 = .ok (.iadd, 1) := by decide +kernel
theorem dL_law_200 : decode cL_law 200 = .ok (.iaload, 1) := by decide +kernel
theorem dL_law_201 : decode cL_law 201 = .ok (.invokevirtual 18, 3) := by decide +kernel
theorem dL_law_204 : decode cL_law 204 = .ok (.aload_n 2, 1) := by decide +kernel
theorem dL_law_205 : decode cL_law 205 = .ok (.aload_n 0, 1) := by decide +kernel
theorem dL_law_206 : decode cL_law 206 = .ok (.iload_n 3, 1) := by decide +kernel
theorem dL_law_207 : decode cL_law 207 = .ok (.iconst 1, 1) := by decide +kernel
theorem dL_law_208 : decode cL_law 208 = .ok (.iadd, 1) := by decide +kernel
theorem dL_law_209 : decode cL_law 209 = .ok (.iaload, 1) := by decide +kernel
theorem dL_law_210 : decode cL_law 210 = .ok (.invokevirtual 22, 3) := by decide +kernel
theorem dL_law_213 : decode cL_law 213 = .ok (.if_icmp .eq 658, 3) := by decide +kernel
theorem dL_law_216 : decode cL_law 216 = .ok (.iconst 0, 1) := by decide +kernel
theorem dL_law_217 : decode cL_law 217 = .ok (.ireturn, 1) := by decide +kernel
theorem dL_law_218 : decode cL_law 218 = .ok (.aload_n 1, 1) := by decide +kernel
theorem dL_law_219 : decode cL_law 219 = .ok (.invokevirtual 23, 3) := by decide +kernel
theorem dL_law_222 : decode cL_law 222 = .ok (.aload_n 2, 1) := by decide +kernel
theorem dL_law_223 : decode cL_law 223 = .ok (.invokevirtual 27, 3) := by decide +kernel
theorem dL_law_226 : decode cL_law 226 = .ok (.if_icmp .eq 645, 3) := by decide +kernel
theorem dL_law_229 : decode cL_law 229 = .ok (.iconst 0, 1) := by decide +kernel
theorem dL_law_230 : decode cL_law 230 = .ok (.ireturn, 1) := by decide +kernel
theorem dL_law_231 : decode cL_law 231 = .ok (.aload_n 1, 1) := by decide +kernel
theorem dL_law_232 : decode cL_law 232 = .ok (.invokevirtual 28, 3) := by decide +kernel
theorem dL_law_235 : decode cL_law 235 = .ok (.aload_n 2, 1) := by decide +kernel
theorem dL_law_236 : decode cL_law 236 = .ok (.invokevirtual 31, 3) := by decide +kernel
theorem dL_law_239 : decode cL_law 239 = .ok (.if_icmp .eq 632, 3) := by decide +kernel
theorem dL_law_242 : decode cL_law 242 = .ok (.iconst 0, 1) := by decide +kernel
theorem dL_law_243 : decode cL_law 243 = .ok (.ireturn, 1) := by decide +kernel
theorem dL_law_244 : decode cL_law 244 = .ok (.aload_n 1, 1) := by decide +kernel
theorem dL_law_245 : decode cL_law 245 = .ok (.aload_n 0, 1) := by decide +kernel
theorem dL_law_246 : decode cL_law 246 = .ok (.iload_n 3, 1) := by decide +kernel
theorem dL_law_247 : decode cL_law 247 = .ok (.iconst 1, 1) := by decide +kernel
theorem dL_law_248 : decode cL_law 248 = .ok (.iadd, 1) := by decide +kernel
theorem dL_law_249 : decode cL_law 249 = .ok (.iaload, 1) := by decide +kernel
theorem dL_law_250 : decode cL_law 250 = .ok (.aload_n 0, 1) := by decide +kernel
theorem dL_law_251 : decode cL_law 251 = .ok (.iload_n 3, 1) := by decide +kernel
theorem dL_law_252 : decode cL_law 252 = .ok (.iconst 2, 1) := by decide +kernel
theorem dL_law_253 : decode cL_law 253 = .ok (.iadd, 1) := by decide +kernel
theorem dL_law_254 : decode cL_law 254 = .ok (.iaload, 1) := by decide +kernel
theorem dL_law_255 : decode cL_law 255 = .ok (.invokevirtual 32, 3) := by decide +kernel
theorem dL_law_258 : decode cL_law 258 = .ok (.aload_n 2, 1) := by decide +kernel
theorem dL_law_259 : decode cL_law 259 = .ok (.aload_n 0, 1) := by decide +kernel
theorem dL_law_260 : decode cL_law 260 = .ok (.iload_n 3, 1) := by decide +kernel
theorem dL_law_261 : decode cL_law 261 = .ok (.iconst 1, 1) := by decide +kernel
theorem dL_law_262 : decode cL_law 262 = .ok (.iadd, 1) := by decide +kernel
theorem dL_law_263 : decode cL_law 263 = .ok (.iaload, 1) := by decide +kernel
theorem dL_law_264 : decode cL_law 264 = .ok (.aload_n 0, 1) := by decide +kernel
theorem dL_law_265 : decode cL_law 265 = .ok (.iload_n 3, 1) := by decide +kernel
theorem dL_law_266 : decode cL_law 266 = .ok (.iconst 2, 1) := by decide +kernel
theorem dL_law_267 : decode cL_law 267 = .ok (.iadd, 1) := by decide +kernel
theorem dL_law_268 : decode cL_law 268 = .ok (.iaload, 1) := by decide +kernel
theorem dL_law_269 : decode cL_law 269 = .ok (.invokevirtual 36, 3) := by decide +kernel
theorem dL_law_272 : decode cL_law 272 = .ok (.if_icmp .eq 599, 3) := by decide +kernel
theorem dL_law_275 : decode cL_law 275 = .ok (.iconst 0, 1) := by decide +kernel
theorem dL_law_276 : decode cL_law 276 = .ok (.ireturn, 1) := by decide +kernel
theorem dL_law_277 : decode cL_law 277 = .ok (.aload_n 1, 1) := by decide +kernel
theorem dL_law_278 : decode cL_law 278 = .ok (.aload_n 0, 1) := by decide +kernel
theorem dL_law_279 : decode cL_law 279 = .ok (.iload_n 3, 1) := by decide +kernel
theorem dL_law_280 : decode cL_law 280 = .ok (.iconst 1, 1) := by decide +kernel
theorem dL_law_281 : decode cL_law 281 = .ok (.iadd, 1) := by decide +kernel
theorem dL_law_282 : decode cL_law 282 = .ok (.iaload, 1) := by decide +kernel
theorem dL_law_283 : decode cL_law 283 = .ok (.aload_n 0, 1) := by decide +kernel
theorem dL_law_284 : decode cL_law 284 = .ok (.iload_n 3, 1) := by decide +kernel
theorem dL_law_285 : decode cL_law 285 = .ok (.iconst 2, 1) := by decide +kernel
theorem dL_law_286 : decode cL_law 286 = .ok (.iadd, 1) := by decide +kernel
theorem dL_law_287 : decode cL_law 287 = .ok (.iaload, 1) := by decide +kernel
theorem dL_law_288 : decode cL_law 288 = .ok (.invokevirtual 37, 3) := by decide +kernel
theorem dL_law_291 : decode cL_law 291 = .ok (.aload_n 2, 1) := by decide +kernel
theorem dL_law_292 : decode cL_law 292 = .ok (.aload_n 0, 1) := by decide +kernel
theorem dL_law_293 : decode cL_law 293 = .ok (.iload_n 3, 1) := by decide +kernel
theorem dL_law_294 : decode cL_law 294 = .ok (.iconst 1, 1) := by decide +kernel
theorem dL_law_295 : decode cL_law 295 = .ok (.iadd, 1) := by decide +kernel
theorem dL_law_296 : decode cL_law 296 = .ok (.iaload, 1) := by decide +kernel
theorem dL_law_297 : decode cL_law 297 = .ok (.aload_n 0, 1) := by decide +kernel
theorem dL_law_298 : decode cL_law 298 = .ok (.iload_n 3, 1) := by decide +kernel
theorem dL_law_299 : decode cL_law 299 = .ok (.iconst 2, 1) := by decide +kernel
theorem dL_law_300 : decode cL_law 300 = .ok (.iadd, 1) := by decide +kernel
theorem dL_law_301 : decode cL_law 301 = .ok (.iaload, 1) := by decide +kernel
theorem dL_law_302 : decode cL_law 302 = .ok (.invokevirtual 40, 3) := by decide +kernel
theorem dL_law_305 : decode cL_law 305 = .ok (.if_icmp .eq 566, 3) := by decide +kernel
theorem dL_law_308 : decode cL_law 308 = .ok (.iconst 0, 1) := by decide +kernel
theorem dL_law_309 : decode cL_law 309 = .ok (.ireturn, 1) := by decide +kernel
theorem dL_law_310 : decode cL_law 310 = .ok (.aload_n 1, 1) := by decide +kernel
theorem dL_law_311 : decode cL_law 311 = .ok (.aload_n 0, 1) := by decide +kernel
theorem dL_law_312 : decode cL_law 312 = .ok (.iload_n 3, 1) := by decide +kernel
theorem dL_law_313 : decode cL_law 313 = .ok (.iconst 1, 1) := by decide +kernel
theorem dL_law_314 : decode cL_law 314 = .ok (.iadd, 1) := by decide +kernel
theorem dL_law_315 : decode cL_law 315 = .ok (.iaload, 1) := by decide +kernel
theorem dL_law_316 : decode cL_law 316 = .ok (.aload_n 0, 1) := by decide +kernel
theorem dL_law_317 : decode cL_law 317 = .ok (.iload_n 3, 1) := by decide +kernel
theorem dL_law_318 : decode cL_law 318 = .ok (.iconst 2, 1) := by decide +kernel
theorem dL_law_319 : decode cL_law 319 = .ok (.iadd, 1) := by decide +kernel
theorem dL_law_320 : decode cL_law 320 = .ok (.iaload, 1) := by decide +kernel
theorem dL_law_321 : decode cL_law 321 = .ok (.invokevirtual 41, 3) := by decide +kernel
theorem dL_law_324 : decode cL_law 324 = .ok (.aload_n 2, 1) := by decide +kernel
theorem dL_law_325 : decode cL_law 325 = .ok (.aload_n 0, 1) := by decide +kernel
theorem dL_law_326 : decode cL_law 326 = .ok (.iload_n 3, 1) := by decide +kernel
theorem dL_law_327 : decode cL_law 327 = .ok (.iconst 1, 1) := by decide +kernel
theorem dL_law_328 : decode cL_law 328 = .ok (.iadd, 1) := by decide +kernel
theorem dL_law_329 : decode cL_law 329 = .ok (.iaload, 1) := by decide +kernel
theorem dL_law_330 : decode cL_law 330 = .ok (.aload_n 0, 1) := by decide +kernel
theorem dL_law_331 : decode cL_law 331 = .ok (.iload_n 3, 1) := by decide +kernel
theorem dL_law_332 : decode cL_law 332 = .ok (.iconst 2, 1) := by decide +kernel
theorem dL_law_333 : decode cL_law 333 = .ok (.iadd, 1) := by decide +kernel
theorem dL_law_334 : decode cL_law 334 = .ok (.iaload, 1) := by decide +kernel
theorem dL_law_335 : decode cL_law 335 = .ok (.invokevirtual 44, 3) := by decide +kernel
theorem dL_law_338 : decode cL_law 338 = .ok (.if_icmp .eq 533, 3) := by decide +kernel
theorem dL_law_341 : decode cL_law 341 = .ok (.iconst 0, 1) := by decide +kernel
theorem dL_law_342 : decode cL_law 342 = .ok (.ireturn, 1) := by decide +kernel
theorem dL_law_343 : decode cL_law 343 = .ok (.aload_n 1, 1) := by decide +kernel
theorem dL_law_344 : decode cL_law 344 = .ok (.aload_n 0, 1) := by decide +kernel
theorem dL_law_345 : decode cL_law 345 = .ok (.iload_n 3, 1) := by decide +kernel
theorem dL_law_346 : decode cL_law 346 = .ok (.iconst 1, 1) := by decide +kernel
theorem dL_law_347 : decode cL_law 347 = .ok (.iadd, 1) := by decide +kernel
theorem dL_law_348 : decode cL_law 348 = .ok (.iaload, 1) := by decide +kernel
theorem dL_law_349 : decode cL_law 349 = .ok (.aload_n 0, 1) := by decide +kernel
theorem dL_law_350 : decode cL_law 350 = .ok (.iload_n 3, 1) := by decide +kernel
theorem dL_law_351 : decode cL_law 351 = .ok (.iconst 2, 1) := by decide +kernel
theorem dL_law_352 : decode cL_law 352 = .ok (.iadd, 1) := by decide +kernel
theorem dL_law_353 : decode cL_law 353 = .ok (.iaload, 1) := by decide +kernel
theorem dL_law_354 : decode cL_law 354 = .ok (.invokevirtual 45, 3) := by decide +kernel
theorem dL_law_357 : decode cL_law 357 = .ok (.aload_n 2, 1) := by decide +kernel
theorem dL_law_358 : decode cL_law 358 = .ok (.aload_n 0, 1) := by decide +kernel
theorem dL_law_359 : decode cL_law 359 = .ok (.iload_n 3, 1) := by decide +kernel
theorem dL_law_360 : decode cL_law 360 = .ok (.iconst 1, 1) := by decide +kernel
theorem dL_law_361 : decode cL_law 361 = .ok (.iadd, 1) := by decide +kernel
theorem dL_law_362 : decode cL_law 362 = .ok (.iaload, 1) := by decide +kernel
theorem dL_law_363 : decode cL_law 363 = .ok (.aload_n 0, 1) := by decide +kernel
theorem dL_law_364 : decode cL_law 364 = .ok (.iload_n 3, 1) := by decide +kernel
theorem dL_law_365 : decode cL_law 365 = .ok (.iconst 2, 1) := by decide +kernel
theorem dL_law_366 : decode cL_law 366 = .ok (.iadd, 1) := by decide +kernel
theorem dL_law_367 : decode cL_law 367 = .ok (.iaload, 1) := by decide +kernel
theorem dL_law_368 : decode cL_law 368 = .ok (.invokevirtual 48, 3) := by decide +kernel
theorem dL_law_371 : decode cL_law 371 = .ok (.if_icmp .eq 500, 3) := by decide +kernel
theorem dL_law_374 : decode cL_law 374 = .ok (.iconst 0, 1) := by decide +kernel
theorem dL_law_375 : decode cL_law 375 = .ok (.ireturn, 1) := by decide +kernel
theorem dL_law_376 : decode cL_law 376 = .ok (.aload_n 1, 1) := by decide +kernel
theorem dL_law_377 : decode cL_law 377 = .ok (.aload_n 0, 1) := by decide +kernel
theorem dL_law_378 : decode cL_law 378 = .ok (.iload_n 3, 1) := by decide +kernel
theorem dL_law_379 : decode cL_law 379 = .ok (.iconst 1, 1) := by decide +kernel
theorem dL_law_380 : decode cL_law 380 = .ok (.iadd, 1) := by decide +kernel
theorem dL_law_381 : decode cL_law 381 = .ok (.iaload, 1) := by decide +kernel
theorem dL_law_382 : decode cL_law 382 = .ok (.aload_n 0, 1) := by decide +kernel
theorem dL_law_383 : decode cL_law 383 = .ok (.iload_n 3, 1) := by decide +kernel
theorem dL_law_384 : decode cL_law 384 = .ok (.iconst 2, 1) := by decide +kernel
theorem dL_law_385 : decode cL_law 385 = .ok (.iadd, 1) := by decide +kernel
theorem dL_law_386 : decode cL_law 386 = .ok (.iaload, 1) := by decide +kernel
theorem dL_law_387 : decode cL_law 387 = .ok (.aload_n 0, 1) := by decide +kernel
theorem dL_law_388 : decode cL_law 388 = .ok (.iload_n 3, 1) := by decide +kernel
theorem dL_law_389 : decode cL_law 389 = .ok (.iconst 3, 1) := by decide +kernel
theorem dL_law_390 : decode cL_law 390 = .ok (.iadd, 1) := by decide +kernel
theorem dL_law_391 : decode cL_law 391 = .ok (.iaload, 1) := by decide +kernel
theorem dL_law_392 : decode cL_law 392 = .ok (.invokevirtual 49, 3) := by decide +kernel
theorem dL_law_395 : decode cL_law 395 = .ok (.aload_n 2, 1) := by decide +kernel
theorem dL_law_396 : decode cL_law 396 = .ok (.aload_n 0, 1) := by decide +kernel
theorem dL_law_397 : decode cL_law 397 = .ok (.iload_n 3, 1) := by decide +kernel
theorem dL_law_398 : decode cL_law 398 = .ok (.iconst 1, 1) := by decide +kernel
theorem dL_law_399 : decode cL_law 399 = .ok (.iadd, 1) := by decide +kernel
theorem dL_law_400 : decode cL_law 400 = .ok (.iaload, 1) := by decide +kernel
theorem dL_law_401 : decode cL_law 401 = .ok (.aload_n 0, 1) := by decide +kernel
theorem dL_law_402 : decode cL_law 402 = .ok (.iload_n 3, 1) := by decide +kernel
theorem dL_law_403 : decode cL_law 403 = .ok (.iconst 2, 1) := by decide +kernel
theorem dL_law_404 : decode cL_law 404 = .ok (.iadd, 1) := by decide +kernel
theorem dL_law_405 : decode cL_law 405 = .ok (.iaload, 1) := by decide +kernel
theorem dL_law_406 : decode cL_law 406 = .ok (.aload_n 0, 1) := by decide +kernel
theorem dL_law_407 : decode cL_law 407 = .ok (.iload_n 3, 1) := by decide +kernel
theorem dL_law_408 : decode cL_law 408 = .ok (.iconst 3, 1) := by decide +kernel
theorem dL_law_409 : decode cL_law 409 = .ok (.iadd, 1) := by decide +kernel
theorem dL_law_410 : decode cL_law 410 = .ok (.iaload, 1) := by decide +kernel
theorem dL_law_411 : decode cL_law 411 = .ok (.invokevirtual 53, 3) := by decide +kernel
theorem dL_law_414 : decode cL_law 414 = .ok (.if_icmp .eq 457, 3) := by decide +kernel
theorem dL_law_417 : decode cL_law 417 = .ok (.iconst 0, 1) := by decide +kernel
theorem dL_law_418 : decode cL_law 418 = .ok (.ireturn, 1) := by decide +kernel
theorem dL_law_419 : decode cL_law 419 = .ok (.aload_n 1, 1) := by decide +kernel
theorem dL_law_420 : decode cL_law 420 = .ok (.aload_n 0, 1) := by decide +kernel
theorem dL_law_421 : decode cL_law 421 = .ok (.iload_n 3, 1) := by decide +kernel
theorem dL_law_422 : decode cL_law 422 = .ok (.iconst 1, 1) := by decide +kernel
theorem dL_law_423 : decode cL_law 423 = .ok (.iadd, 1) := by decide +kernel
theorem dL_law_424 : decode cL_law 424 = .ok (.iaload, 1) := by decide +kernel
theorem dL_law_425 : decode cL_law 425 = .ok (.aload_n 0, 1) := by decide +kernel
theorem dL_law_426 : decode cL_law 426 = .ok (.iload_n 3, 1) := by decide +kernel
theorem dL_law_427 : decode cL_law 427 = .ok (.iconst 2, 1) := by decide +kernel
theorem dL_law_428 : decode cL_law 428 = .ok (.iadd, 1) := by decide +kernel
theorem dL_law_429 : decode cL_law 429 = .ok (.iaload, 1) := by decide +kernel
theorem dL_law_430 : decode cL_law 430 = .ok (.invokevirtual 54, 3) := by decide +kernel
theorem dL_law_433 : decode cL_law 433 = .ok (.aload_n 2, 1) := by decide +kernel
theorem dL_law_434 : decode cL_law 434 = .ok (.aload_n 0, 1) := by decide +kernel
theorem dL_law_435 : decode cL_law 435 = .ok (.iload_n 3, 1) := by decide +kernel
theorem dL_law_436 : decode cL_law 436 = .ok (.iconst 1, 1) := by decide +kernel
theorem dL_law_437 : decode cL_law 437 = .ok (.iadd, 1) := by decide +kernel
theorem dL_law_438 : decode cL_law 438 = .ok (.iaload, 1) := by decide +kernel
theorem dL_law_439 : decode cL_law 439 = .ok (.aload_n 0, 1) := by decide +kernel
theorem dL_law_440 : decode cL_law 440 = .ok (.iload_n 3, 1) := by decide +kernel
theorem dL_law_441 : decode cL_law 441 = .ok (.iconst 2, 1) := by decide +kernel
theorem dL_law_442 : decode cL_law 442 = .ok (.iadd, 1) := by decide +kernel
theorem dL_law_443 : decode cL_law 443 = .ok (.iaload, 1) := by decide +kernel
theorem dL_law_444 : decode cL_law 444 = .ok (.invokevirtual 57, 3) := by decide +kernel
theorem dL_law_447 : decode cL_law 447 = .ok (.if_icmp .eq 424, 3) := by decide +kernel
theorem dL_law_450 : decode cL_law 450 = .ok (.iconst 0, 1) := by decide +kernel
theorem dL_law_451 : decode cL_law 451 = .ok (.ireturn, 1) := by decide +kernel
theorem dL_law_452 : decode cL_law 452 = .ok (.aload_n 1, 1) := by decide +kernel
theorem dL_law_453 : decode cL_law 453 = .ok (.aload_n 0, 1) := by decide +kernel
theorem dL_law_454 : decode cL_law 454 = .ok (.iload_n 3, 1) := by decide +kernel
theorem dL_law_455 : decode cL_law 455 = .ok (.iconst 1, 1) := by decide +kernel
theorem dL_law_456 : decode cL_law 456 = .ok (.iadd, 1) := by decide +kernel
theorem dL_law_457 : decode cL_law 457 = .ok (.iaload, 1) := by decide +kernel
theorem dL_law_458 : decode cL_law 458 = .ok (.aload_n 0, 1) := by decide +kernel
theorem dL_law_459 : decode cL_law 459 = .ok (.iload_n 3, 1) := by decide +kernel
theorem dL_law_460 : decode cL_law 460 = .ok (.iconst 2, 1) := by decide +kernel
theorem dL_law_461 : decode cL_law 461 = .ok (.iadd, 1) := by decide +kernel
theorem dL_law_462 : decode cL_law 462 = .ok (.iaload, 1) := by decide +kernel
theorem dL_law_463 : decode cL_law 463 = .ok (.invokevirtual 58, 3) := by decide +kernel
theorem dL_law_466 : decode cL_law 466 = .ok (.aload_n 2, 1) := by decide +kernel
theorem dL_law_467 : decode cL_law 467 = .ok (.aload_n 0, 1) := by decide +kernel
theorem dL_law_468 : decode cL_law 468 = .ok (.iload_n 3, 1) := by decide +kernel
theorem dL_law_469 : decode cL_law 469 = .ok (.iconst 1, 1) := by decide +kernel
theorem dL_law_470 : decode cL_law 470 = .ok (.iadd, 1) := by decide +kernel
theorem dL_law_471 : decode cL_law 471 = .ok (.iaload, 1) := by decide +kernel
theorem dL_law_472 : decode cL_law 472 = .ok (.aload_n 0, 1) := by decide +kernel
theorem dL_law_473 : decode cL_law 473 = .ok (.iload_n 3, 1) := by decide +kernel
theorem dL_law_474 : decode cL_law 474 = .ok (.iconst 2, 1) := by decide +kernel
theorem dL_law_475 : decode cL_law 475 = .ok (.iadd, 1) := by decide +kernel
theorem dL_law_476 : decode cL_law 476 = .ok (.iaload, 1) := by decide +kernel
theorem dL_law_477 : decode cL_law 477 = .ok (.invokevirtual 61, 3) := by decide +kernel
theorem dL_law_480 : decode cL_law 480 = .ok (.if_icmp .eq 391, 3) := by decide +kernel
theorem dL_law_483 : decode cL_law 483 = .ok (.iconst 0, 1) := by decide +kernel
theorem dL_law_484 : decode cL_law 484 = .ok (.ireturn, 1) := by decide +kernel
theorem dL_law_485 : decode cL_law 485 = .ok (.aload_n 1, 1) := by decide +kernel
theorem dL_law_486 : decode cL_law 486 = .ok (.aload_n 0, 1) := by decide +kernel
theorem dL_law_487 : decode cL_law 487 = .ok (.iload_n 3, 1) := by decide +kernel
theorem dL_law_488 : decode cL_law 488 = .ok (.iconst 1, 1) := by decide +kernel
theorem dL_law_489 : decode cL_law 489 = .ok (.iadd, 1) := by decide +kernel
theorem dL_law_490 : decode cL_law 490 = .ok (.iaload, 1) := by decide +kernel
theorem dL_law_491 : decode cL_law 491 = .ok (.aload_n 0, 1) := by decide +kernel
theorem dL_law_492 : decode cL_law 492 = .ok (.iload_n 3, 1) := by decide +kernel
theorem dL_law_493 : decode cL_law 493 = .ok (.iconst 2, 1) := by decide +kernel
theorem dL_law_494 : decode cL_law 494 = .ok (.iadd, 1) := by decide +kernel
theorem dL_law_495 : decode cL_law 495 = .ok (.iaload, 1) := by decide +kernel
theorem dL_law_496 : decode cL_law 496 = .ok (.aload_n 0, 1) := by decide +kernel
theorem dL_law_497 : decode cL_law 497 = .ok (.iload_n 3, 1) := by decide +kernel
theorem dL_law_498 : decode cL_law 498 = .ok (.iconst 3, 1) := by decide +kernel
theorem dL_law_499 : decode cL_law 499 = .ok (.iadd, 1) := by decide +kernel
theorem dL_law_500 : decode cL_law 500 = .ok (.iaload, 1) := by decide +kernel
theorem dL_law_501 : decode cL_law 501 = .ok (.invokevirtual 62, 3) := by decide +kernel
theorem dL_law_504 : decode cL_law 504 = .ok (.aload_n 2, 1) := by decide +kernel
theorem dL_law_505 : decode cL_law 505 = .ok (.aload_n 0, 1) := by decide +kernel
theorem dL_law_506 : decode cL_law 506 = .ok (.iload_n 3, 1) := by decide +kernel
theorem dL_law_507 : decode cL_law 507 = .ok (.iconst 1, 1) := by decide +kernel
theorem dL_law_508 : decode cL_law 508 = .ok (.iadd, 1) := by decide +kernel
theorem dL_law_509 : decode cL_law 509 = .ok (.iaload, 1) := by decide +kernel
theorem dL_law_510 : decode cL_law 510 = .ok (.aload_n 0, 1) := by decide +kernel
theorem dL_law_511 : decode cL_law 511 = .ok (.iload_n 3, 1) := by decide +kernel
theorem dL_law_512 : decode cL_law 512 = .ok (.iconst 2, 1) := by decide +kernel
theorem dL_law_513 : decode cL_law 513 = .ok (.iadd, 1) := by decide +kernel
theorem dL_law_514 : decode cL_law 514 = .ok (.iaload, 1) := by decide +kernel
theorem dL_law_515 : decode cL_law 515 = .ok (.aload_n 0, 1) := by decide +kernel
theorem dL_law_516 : decode cL_law 516 = .ok (.iload_n 3, 1) := by decide +kernel
theorem dL_law_517 : decode cL_law 517 = .ok (.iconst 3, 1) := by decide +kernel
theorem dL_law_518 : decode cL_law 518 = .ok (.iadd, 1) := by decide +kernel
theorem dL_law_519 : decode cL_law 519 = .ok (.iaload, 1) := by decide +kernel
theorem dL_law_520 : decode cL_law 520 = .ok (.invokevirtual 65, 3) := by decide +kernel
theorem dL_law_523 : decode cL_law 523 = .ok (.if_icmp .eq 348, 3) := by decide +kernel
theorem dL_law_526 : decode cL_law 526 = .ok (.iconst 0, 1) := by decide +kernel
theorem dL_law_527 : decode cL_law 527 = .ok (.ireturn, 1) := by decide +kernel
theorem dL_law_528 : decode cL_law 528 = .ok (.aload_n 1, 1) := by decide +kernel
theorem dL_law_529 : decode cL_law 529 = .ok (.aload_n 0, 1) := by decide +kernel
theorem dL_law_530 : decode cL_law 530 = .ok (.iload_n 3, 1) := by decide +kernel
theorem dL_law_531 : decode cL_law 531 = .ok (.iconst 1, 1) := by decide +kernel
theorem dL_law_532 : decode cL_law 532 = .ok (.iadd, 1) := by decide +kernel
theorem dL_law_533 : decode cL_law 533 = .ok (.iaload, 1) := by decide +kernel
theorem dL_law_534 : decode cL_law 534 = .ok (.aload_n 0, 1) := by decide +kernel
theorem dL_law_535 : decode cL_law 535 = .ok (.iload_n 3, 1) := by decide +kernel
theorem dL_law_536 : decode cL_law 536 = .ok (.iconst 2, 1) := by decide +kernel
theorem dL_law_537 : decode cL_law 537 = .ok (.iadd, 1) := by decide +kernel
theorem dL_law_538 : decode cL_law 538 = .ok (.iaload, 1) := by decide +kernel
theorem dL_law_539 : decode cL_law 539 = .ok (.aload_n 0, 1) := by decide +kernel
theorem dL_law_540 : decode cL_law 540 = .ok (.iload_n 3, 1) := by decide +kernel
theorem dL_law_541 : decode cL_law 541 = .ok (.iconst 3, 1) := by decide +kernel
theorem dL_law_542 : decode cL_law 542 = .ok (.iadd, 1) := by decide +kernel
theorem dL_law_543 : decode cL_law 543 = .ok (.iaload, 1) := by decide +kernel
theorem dL_law_544 : decode cL_law 544 = .ok (.ifCond .eq 7, 3) := by decide +kernel
theorem dL_law_547 : decode cL_law 547 = .ok (.iconst 1, 1) := by decide +kernel
theorem dL_law_548 : decode cL_law 548 = .ok (.goto 4, 3) := by decide +kernel
theorem dL_law_551 : decode cL_law 551 = .ok (.iconst 0, 1) := by decide +kernel
theorem dL_law_552 : decode cL_law 552 = .ok (.invokevirtual 66, 3) := by decide +kernel
theorem dL_law_555 : decode cL_law 555 = .ok (.aload_n 2, 1) := by decide +kernel
theorem dL_law_556 : decode cL_law 556 = .ok (.aload_n 0, 1) := by decide +kernel
theorem dL_law_557 : decode cL_law 557 = .ok (.iload_n 3, 1) := by decide +kernel
theorem dL_law_558 : decode cL_law 558 = .ok (.iconst 1, 1) := by decide +kernel
theorem dL_law_559 : decode cL_law 559 = .ok (.iadd, 1) := by decide +kernel
theorem dL_law_560 : decode cL_law 560 = .ok (.iaload, 1) := by decide +kernel
theorem dL_law_561 : decode cL_law 561 = .ok (.aload_n 0, 1) := by decide +kernel
theorem dL_law_562 : decode cL_law 562 = .ok (.iload_n 3, 1) := by decide +kernel
theorem dL_law_563 : decode cL_law 563 = .ok (.iconst 2, 1) := by decide +kernel
theorem dL_law_564 : decode cL_law 564 = .ok (.iadd, 1) := by decide +kernel
theorem dL_law_565 : decode cL_law 565 = .ok (.iaload, 1) := by decide +kernel
theorem dL_law_566 : decode cL_law 566 = .ok (.aload_n 0, 1) := by decide +kernel
theorem dL_law_567 : decode cL_law 567 = .ok (.iload_n 3, 1) := by decide +kernel
theorem dL_law_568 : decode cL_law 568 = .ok (.iconst 3, 1) := by decide +kernel
theorem dL_law_569 : decode cL_law 569 = .ok (.iadd, 1) := by decide +kernel
theorem dL_law_570 : decode cL_law 570 = .ok (.iaload, 1) := by decide +kernel
theorem dL_law_571 : decode cL_law 571 = .ok (.ifCond .eq 7, 3) := by decide +kernel
theorem dL_law_574 : decode cL_law 574 = .ok (.iconst 1, 1) := by decide +kernel
theorem dL_law_575 : decode cL_law 575 = .ok (.goto 4, 3) := by decide +kernel
theorem dL_law_578 : decode cL_law 578 = .ok (.iconst 0, 1) := by decide +kernel
theorem dL_law_579 : decode cL_law 579 = .ok (.invokevirtual 70, 3) := by decide +kernel
theorem dL_law_582 : decode cL_law 582 = .ok (.if_icmp .eq 289, 3) := by decide +kernel
theorem dL_law_585 : decode cL_law 585 = .ok (.iconst 0, 1) := by decide +kernel
theorem dL_law_586 : decode cL_law 586 = .ok (.ireturn, 1) := by decide +kernel
theorem dL_law_587 : decode cL_law 587 = .ok (.aload_n 1, 1) := by decide +kernel
theorem dL_law_588 : decode cL_law 588 = .ok (.aload_n 0, 1) := by decide +kernel
theorem dL_law_589 : decode cL_law 589 = .ok (.iload_n 3, 1) := by decide +kernel
theorem dL_law_590 : decode cL_law 590 = .ok (.iconst 1, 1) := by decide +kernel
theorem dL_law_591 : decode cL_law 591 = .ok (.iadd, 1) := by decide +kernel
theorem dL_law_592 : decode cL_law 592 = .ok (.iaload, 1) := by decide +kernel
theorem dL_law_593 : decode cL_law 593 = .ok (.aload_n 0, 1) := by decide +kernel
theorem dL_law_594 : decode cL_law 594 = .ok (.iload_n 3, 1) := by decide +kernel
theorem dL_law_595 : decode cL_law 595 = .ok (.iconst 2, 1) := by decide +kernel
theorem dL_law_596 : decode cL_law 596 = .ok (.iadd, 1) := by decide +kernel
theorem dL_law_597 : decode cL_law 597 = .ok (.iaload, 1) := by decide +kernel
theorem dL_law_598 : decode cL_law 598 = .ok (.invokevirtual 71, 3) := by decide +kernel
theorem dL_law_601 : decode cL_law 601 = .ok (.aload_n 2, 1) := by decide +kernel
theorem dL_law_602 : decode cL_law 602 = .ok (.aload_n 0, 1) := by decide +kernel
theorem dL_law_603 : decode cL_law 603 = .ok (.iload_n 3, 1) := by decide +kernel
theorem dL_law_604 : decode cL_law 604 = .ok (.iconst 1, 1) := by decide +kernel
theorem dL_law_605 : decode cL_law 605 = .ok (.iadd, 1) := by decide +kernel
theorem dL_law_606 : decode cL_law 606 = .ok (.iaload, 1) := by decide +kernel
theorem dL_law_607 : decode cL_law 607 = .ok (.aload_n 0, 1) := by decide +kernel
theorem dL_law_608 : decode cL_law 608 = .ok (.iload_n 3, 1) := by decide +kernel
theorem dL_law_609 : decode cL_law 609 = .ok (.iconst 2, 1) := by decide +kernel
theorem dL_law_610 : decode cL_law 610 = .ok (.iadd, 1) := by decide +kernel
theorem dL_law_611 : decode cL_law 611 = .ok (.iaload, 1) := by decide +kernel
theorem dL_law_612 : decode cL_law 612 = .ok (.invokevirtual 74, 3) := by decide +kernel
theorem dL_law_615 : decode cL_law 615 = .ok (.if_icmp .eq 256, 3) := by decide +kernel
theorem dL_law_618 : decode cL_law 618 = .ok (.iconst 0, 1) := by decide +kernel
theorem dL_law_619 : decode cL_law 619 = .ok (.ireturn, 1) := by decide +kernel
theorem dL_law_620 : decode cL_law 620 = .ok (.aload_n 1, 1) := by decide +kernel
theorem dL_law_621 : decode cL_law 621 = .ok (.aload_n 0, 1) := by decide +kernel
theorem dL_law_622 : decode cL_law 622 = .ok (.iload_n 3, 1) := by decide +kernel
theorem dL_law_623 : decode cL_law 623 = .ok (.iconst 1, 1) := by decide +kernel
theorem dL_law_624 : decode cL_law 624 = .ok (.iadd, 1) := by decide +kernel
theorem dL_law_625 : decode cL_law 625 = .ok (.iaload, 1) := by decide +kernel
theorem dL_law_626 : decode cL_law 626 = .ok (.aload_n 0, 1) := by decide +kernel
theorem dL_law_627 : decode cL_law 627 = .ok (.iload_n 3, 1) := by decide +kernel
theorem dL_law_628 : decode cL_law 628 = .ok (.iconst 2, 1) := by decide +kernel
theorem dL_law_629 : decode cL_law 629 = .ok (.iadd, 1) := by decide +kernel
theorem dL_law_630 : decode cL_law 630 = .ok (.iaload, 1) := by decide +kernel
theorem dL_law_631 : decode cL_law 631 = .ok (.aload_n 0, 1) := by decide +kernel
theorem dL_law_632 : decode cL_law 632 = .ok (.iload_n 3, 1) := by decide +kernel
theorem dL_law_633 : decode cL_law 633 = .ok (.iconst 3, 1) := by decide +kernel
theorem dL_law_634 : decode cL_law 634 = .ok (.iadd, 1) := by decide +kernel
theorem dL_law_635 : decode cL_law 635 = .ok (.iaload, 1) := by decide +kernel
theorem dL_law_636 : decode cL_law 636 = .ok (.invokevirtual 75, 3) := by decide +kernel
theorem dL_law_639 : decode cL_law 639 = .ok (.aload_n 2, 1) := by decide +kernel
theorem dL_law_640 : decode cL_law 640 = .ok (.aload_n 0, 1) := by decide +kernel
theorem dL_law_641 : decode cL_law 641 = .ok (.iload_n 3, 1) := by decide +kernel
theorem dL_law_642 : decode cL_law 642 = .ok (.iconst 1, 1) := by decide +kernel
theorem dL_law_643 : decode cL_law 643 = .ok (.iadd, 1) := by decide +kernel
theorem dL_law_644 : decode cL_law 644 = .ok (.iaload, 1) := by decide +kernel
theorem dL_law_645 : decode cL_law 645 = .ok (.aload_n 0, 1) := by decide +kernel
theorem dL_law_646 : decode cL_law 646 = .ok (.iload_n 3, 1) := by decide +kernel
theorem dL_law_647 : decode cL_law 647 = .ok (.iconst 2, 1) := by decide +kernel
theorem dL_law_648 : decode cL_law 648 = .ok (.iadd, 1) := by decide +kernel
theorem dL_law_649 : decode cL_law 649 = .ok (.iaload, 1) := by decide +kernel
theorem dL_law_650 : decode cL_law 650 = .ok (.aload_n 0, 1) := by decide +kernel
theorem dL_law_651 : decode cL_law 651 = .ok (.iload_n 3, 1) := by decide +kernel
theorem dL_law_652 : decode cL_law 652 = .ok (.iconst 3, 1) := by decide +kernel
theorem dL_law_653 : decode cL_law 653 = .ok (.iadd, 1) := by decide +kernel
theorem dL_law_654 : decode cL_law 654 = .ok (.iaload, 1) := by decide +kernel
theorem dL_law_655 : decode cL_law 655 = .ok (.invokevirtual 78, 3) := by decide +kernel
theorem dL_law_658 : decode cL_law 658 = .ok (.if_icmp .eq 213, 3) := by decide +kernel
theorem dL_law_661 : decode cL_law 661 = .ok (.iconst 0, 1) := by decide +kernel
theorem dL_law_662 : decode cL_law 662 = .ok (.ireturn, 1) := by decide +kernel
theorem dL_law_663 : decode cL_law 663 = .ok (.aload_n 1, 1) := by decide +kernel
theorem dL_law_664 : decode cL_law 664 = .ok (.aload_n 0, 1) := by decide +kernel
theorem dL_law_665 : decode cL_law 665 = .ok (.iload_n 3, 1) := by decide +kernel
theorem dL_law_666 : decode cL_law 666 = .ok (.iconst 1, 1) := by decide +kernel
theorem dL_law_667 : decode cL_law 667 = .ok (.iadd, 1) := by decide +kernel
theorem dL_law_668 : decode cL_law 668 = .ok (.iaload, 1) := by decide +kernel
theorem dL_law_669 : decode cL_law 669 = .ok (.aload_n 0, 1) := by decide +kernel
theorem dL_law_670 : decode cL_law 670 = .ok (.iload_n 3, 1) := by decide +kernel
theorem dL_law_671 : decode cL_law 671 = .ok (.iconst 2, 1) := by decide +kernel
theorem dL_law_672 : decode cL_law 672 = .ok (.iadd, 1) := by decide +kernel
theorem dL_law_673 : decode cL_law 673 = .ok (.iaload, 1) := by decide +kernel
theorem dL_law_674 : decode cL_law 674 = .ok (.aload_n 0, 1) := by decide +kernel
theorem dL_law_675 : decode cL_law 675 = .ok (.iload_n 3, 1) := by decide +kernel
theorem dL_law_676 : decode cL_law 676 = .ok (.iconst 3, 1) := by decide +kernel
theorem dL_law_677 : decode cL_law 677 = .ok (.iadd, 1) := by decide +kernel
theorem dL_law_678 : decode cL_law 678 = .ok (.iaload, 1) := by decide +kernel
theorem dL_law_679 : decode cL_law 679 = .ok (.aload_n 0, 1) := by decide +kernel
theorem dL_law_680 : decode cL_law 680 = .ok (.iload_n 3, 1) := by decide +kernel
theorem dL_law_681 : decode cL_law 681 = .ok (.iconst 4, 1) := by decide +kernel
theorem dL_law_682 : decode cL_law 682 = .ok (.iadd, 1) := by decide +kernel
theorem dL_law_683 : decode cL_law 683 = .ok (.iaload, 1) := by decide +kernel
theorem dL_law_684 : decode cL_law 684 = .ok (.invokevirtual 79, 3) := by decide +kernel
theorem dL_law_687 : decode cL_law 687 = .ok (.aload_n 2, 1) := by decide +kernel
theorem dL_law_688 : decode cL_law 688 = .ok (.aload_n 0, 1) := by decide +kernel
theorem dL_law_689 : decode cL_law 689 = .ok (.iload_n 3, 1) := by decide +kernel
theorem dL_law_690 : decode cL_law 690 = .ok (.iconst 1, 1) := by decide +kernel
theorem dL_law_691 : decode cL_law 691 = .ok (.iadd, 1) := by decide +kernel
theorem dL_law_692 : decode cL_law 692 = .ok (.iaload, 1) := by decide +kernel
theorem dL_law_693 : decode cL_law 693 = .ok (.aload_n 0, 1) := by decide +kernel
theorem dL_law_694 : decode cL_law 694 = .ok (.iload_n 3, 1) := by decide +kernel
theorem dL_law_695 : decode cL_law 695 = .ok (.iconst 2, 1) := by decide +kernel
theorem dL_law_696 : decode cL_law 696 = .ok (.iadd, 1) := by decide +kernel
theorem dL_law_697 : decode cL_law 697 = .ok (.iaload, 1) := by decide +kernel
theorem dL_law_698 : decode cL_law 698 = .ok (.aload_n 0, 1) := by decide +kernel
theorem dL_law_699 : decode cL_law 699 = .ok (.iload_n 3, 1) := by decide +kernel
theorem dL_law_700 : decode cL_law 700 = .ok (.iconst 3, 1) := by decide +kernel
theorem dL_law_701 : decode cL_law 701 = .ok (.iadd, 1) := by decide +kernel
theorem dL_law_702 : decode cL_law 702 = .ok (.iaload, 1) := by decide +kernel
theorem dL_law_703 : decode cL_law 703 = .ok (.aload_n 0, 1) := by decide +kernel
theorem dL_law_704 : decode cL_law 704 = .ok (.iload_n 3, 1) := by decide +kernel
theorem dL_law_705 : decode cL_law 705 = .ok (.iconst 4, 1) := by decide +kernel
theorem dL_law_706 : decode cL_law 706 = .ok (.iadd, 1) := by decide +kernel
theorem dL_law_707 : decode cL_law 707 = .ok (.iaload, 1) := by decide +kernel
theorem dL_law_708 : decode cL_law 708 = .ok (.invokevirtual 83, 3) := by decide +kernel
theorem dL_law_711 : decode cL_law 711 = .ok (.if_icmp .eq 160, 3) := by decide +kernel
theorem dL_law_714 : decode cL_law 714 = .ok (.iconst 0, 1) := by decide +kernel
theorem dL_law_715 : decode cL_law 715 = .ok (.ireturn, 1) := by decide +kernel
theorem dL_law_716 : decode cL_law 716 = .ok (.aload_n 1, 1) := by decide +kernel
theorem dL_law_717 : decode cL_law 717 = .ok (.aload_n 0, 1) := by decide +kernel
theorem dL_law_718 : decode cL_law 718 = .ok (.iload_n 3, 1) := by decide +kernel
theorem dL_law_719 : decode cL_law 719 = .ok (.iconst 1, 1) := by decide +kernel
theorem dL_law_720 : decode cL_law 720 = .ok (.iadd, 1) := by decide +kernel
theorem dL_law_721 : decode cL_law 721 = .ok (.iaload, 1) := by decide +kernel
theorem dL_law_722 : decode cL_law 722 = .ok (.aload_n 0, 1) := by decide +kernel
theorem dL_law_723 : decode cL_law 723 = .ok (.iload_n 3, 1) := by decide +kernel
theorem dL_law_724 : decode cL_law 724 = .ok (.iconst 2, 1) := by decide +kernel
theorem dL_law_725 : decode cL_law 725 = .ok (.iadd, 1) := by decide +kernel
theorem dL_law_726 : decode cL_law 726 = .ok (.iaload, 1) := by decide +kernel
theorem dL_law_727 : decode cL_law 727 = .ok (.aload_n 0, 1) := by decide +kernel
theorem dL_law_728 : decode cL_law 728 = .ok (.iload_n 3, 1) := by decide +kernel
theorem dL_law_729 : decode cL_law 729 = .ok (.iconst 3, 1) := by decide +kernel
theorem dL_law_730 : decode cL_law 730 = .ok (.iadd, 1) := by decide +kernel
theorem dL_law_731 : decode cL_law 731 = .ok (.iaload, 1) := by decide +kernel
theorem dL_law_732 : decode cL_law 732 = .ok (.aload_n 0, 1) := by decide +kernel
theorem dL_law_733 : decode cL_law 733 = .ok (.iload_n 3, 1) := by decide +kernel
theorem dL_law_734 : decode cL_law 734 = .ok (.iconst 4, 1) := by decide +kernel
theorem dL_law_735 : decode cL_law 735 = .ok (.iadd, 1) := by decide +kernel
theorem dL_law_736 : decode cL_law 736 = .ok (.iaload, 1) := by decide +kernel
theorem dL_law_737 : decode cL_law 737 = .ok (.aload_n 0, 1) := by decide +kernel
theorem dL_law_738 : decode cL_law 738 = .ok (.iload_n 3, 1) := by decide +kernel
theorem dL_law_739 : decode cL_law 739 = .ok (.iconst 5, 1) := by decide +kernel
theorem dL_law_740 : decode cL_law 740 = .ok (.iadd, 1) := by decide +kernel
theorem dL_law_741 : decode cL_law 741 = .ok (.iaload, 1) := by decide +kernel
theorem dL_law_742 : decode cL_law 742 = .ok (.invokevirtual 84, 3) := by decide +kernel
theorem dL_law_745 : decode cL_law 745 = .ok (.aload_n 2, 1) := by decide +kernel
theorem dL_law_746 : decode cL_law 746 = .ok (.aload_n 0, 1) := by decide +kernel
theorem dL_law_747 : decode cL_law 747 = .ok (.iload_n 3, 1) := by decide +kernel
theorem dL_law_748 : decode cL_law 748 = .ok (.iconst 1, 1) := by decide +kernel
theorem dL_law_749 : decode cL_law 749 = .ok (.iadd, 1) := by decide +kernel
theorem dL_law_750 : decode cL_law 750 = .ok (.iaload, 1) := by decide +kernel
theorem dL_law_751 : decode cL_law 751 = .ok (.aload_n 0, 1) := by decide +kernel
theorem dL_law_752 : decode cL_law 752 = .ok (.iload_n 3, 1) := by decide +kernel
theorem dL_law_753 : decode cL_law 753 = .ok (.iconst 2, 1) := by decide +kernel
theorem dL_law_754 : decode cL_law 754 = .ok (.iadd, 1) := by decide +kernel
theorem dL_law_755 : decode cL_law 755 = .ok (.iaload, 1) := by decide +kernel
theorem dL_law_756 : decode cL_law 756 = .ok (.aload_n 0, 1) := by decide +kernel
theorem dL_law_757 : decode cL_law 757 = .ok (.iload_n 3, 1) := by decide +kernel
theorem dL_law_758 : decode cL_law 758 = .ok (.iconst 3, 1) := by decide +kernel
theorem dL_law_759 : decode cL_law 759 = .ok (.iadd, 1) := by decide +kernel
theorem dL_law_760 : decode cL_law 760 = .ok (.iaload, 1) := by decide +kernel
theorem dL_law_761 : decode cL_law 761 = .ok (.aload_n 0, 1) := by decide +kernel
theorem dL_law_762 : decode cL_law 762 = .ok (.iload_n 3, 1) := by decide +kernel
theorem dL_law_763 : decode cL_law 763 = .ok (.iconst 4, 1) := by decide +kernel
theorem dL_law_764 : decode cL_law 764 = .ok (.iadd, 1) := by decide +kernel
theorem dL_law_765 : decode cL_law 765 = .ok (.iaload, 1) := by decide +kernel
theorem dL_law_766 : decode cL_law 766 = .ok (.aload_n 0, 1) := by decide +kernel
theorem dL_law_767 : decode cL_law 767 = .ok (.iload_n 3, 1) := by decide +kernel
theorem dL_law_768 : decode cL_law 768 = .ok (.iconst 5, 1) := by decide +kernel
theorem dL_law_769 : decode cL_law 769 = .ok (.iadd, 1) := by decide +kernel
theorem dL_law_770 : decode cL_law 770 = .ok (.iaload, 1) := by decide +kernel
theorem dL_law_771 : decode cL_law 771 = .ok (.invokevirtual 87, 3) := by decide +kernel
theorem dL_law_774 : decode cL_law 774 = .ok (.if_icmp .eq 97, 3) := by decide +kernel
theorem dL_law_777 : decode cL_law 777 = .ok (.iconst 0, 1) := by decide +kernel
theorem dL_law_778 : decode cL_law 778 = .ok (.ireturn, 1) := by decide +kernel
theorem dL_law_779 : decode cL_law 779 = .ok (.aload_n 1, 1) := by decide +kernel
theorem dL_law_780 : decode cL_law 780 = .ok (.invokevirtual 88, 3) := by decide +kernel
theorem dL_law_783 : decode cL_law 783 = .ok (.aload_n 2, 1) := by decide +kernel
theorem dL_law_784 : decode cL_law 784 = .ok (.invokevirtual 91, 3) := by decide +kernel
theorem dL_law_787 : decode cL_law 787 = .ok (.if_icmp .eq 84, 3) := by decide +kernel
theorem dL_law_790 : decode cL_law 790 = .ok (.iconst 0, 1) := by decide +kernel
theorem dL_law_791 : decode cL_law 791 = .ok (.ireturn, 1) := by decide +kernel
theorem dL_law_792 : decode cL_law 792 = .ok (.aload_n 1, 1) := by decide +kernel
theorem dL_law_793 : decode cL_law 793 = .ok (.aload_n 0, 1) := by decide +kernel
theorem dL_law_794 : decode cL_law 794 = .ok (.iload_n 3, 1) := by decide +kernel
theorem dL_law_795 : decode cL_law 795 = .ok (.iconst 1, 1) := by decide +kernel
theorem dL_law_796 : decode cL_law 796 = .ok (.iadd, 1) := by decide +kernel
theorem dL_law_797 : decode cL_law 797 = .ok (.iaload, 1) := by decide +kernel
theorem dL_law_798 : decode cL_law 798 = .ok (.invokevirtual 92, 3) := by decide +kernel
theorem dL_law_801 : decode cL_law 801 = .ok (.aload_n 2, 1) := by decide +kernel
theorem dL_law_802 : decode cL_law 802 = .ok (.aload_n 0, 1) := by decide +kernel
theorem dL_law_803 : decode cL_law 803 = .ok (.iload_n 3, 1) := by decide +kernel
theorem dL_law_804 : decode cL_law 804 = .ok (.iconst 1, 1) := by decide +kernel
theorem dL_law_805 : decode cL_law 805 = .ok (.iadd, 1) := by decide +kernel
theorem dL_law_806 : decode cL_law 806 = .ok (.iaload, 1) := by decide +kernel
theorem dL_law_807 : decode cL_law 807 = .ok (.invokevirtual 95, 3) := by decide +kernel
theorem dL_law_810 : decode cL_law 810 = .ok (.if_icmp .eq 61, 3) := by decide +kernel
theorem dL_law_813 : decode cL_law 813 = .ok (.iconst 0, 1) := by decide +kernel
theorem dL_law_814 : decode cL_law 814 = .ok (.ireturn, 1) := by decide +kernel
theorem dL_law_815 : decode cL_law 815 = .ok (.aload_n 1, 1) := by decide +kernel
theorem dL_law_816 : decode cL_law 816 = .ok (.aload_n 0, 1) := by decide +kernel
theorem dL_law_817 : decode cL_law 817 = .ok (.iload_n 3, 1) := by decide +kernel
theorem dL_law_818 : decode cL_law 818 = .ok (.iconst 1, 1) := by decide +kernel
theorem dL_law_819 : decode cL_law 819 = .ok (.iadd, 1) := by decide +kernel
theorem dL_law_820 : decode cL_law 820 = .ok (.iaload, 1) := by decide +kernel
theorem dL_law_821 : decode cL_law 821 = .ok (.aload_n 0, 1) := by decide +kernel
theorem dL_law_822 : decode cL_law 822 = .ok (.iload_n 3, 1) := by decide +kernel
theorem dL_law_823 : decode cL_law 823 = .ok (.iconst 2, 1) := by decide +kernel
theorem dL_law_824 : decode cL_law 824 = .ok (.iadd, 1) := by decide +kernel
theorem dL_law_825 : decode cL_law 825 = .ok (.iaload, 1) := by decide +kernel
theorem dL_law_826 : decode cL_law 826 = .ok (.invokevirtual 96, 3) := by decide +kernel
theorem dL_law_829 : decode cL_law 829 = .ok (.aload_n 2, 1) := by decide +kernel
theorem dL_law_830 : decode cL_law 830 = .ok (.aload_n 0, 1) := by decide +kernel
theorem dL_law_831 : decode cL_law 831 = .ok (.iload_n 3, 1) := by decide +kernel
theorem dL_law_832 : decode cL_law 832 = .ok (.iconst 1, 1) := by decide +kernel
theorem dL_law_833 : decode cL_law 833 = .ok (.iadd, 1) := by decide +kernel
theorem dL_law_834 : decode cL_law 834 = .ok (.iaload, 1) := by decide +kernel
theorem dL_law_835 : decode cL_law 835 = .ok (.aload_n 0, 1) := by decide +kernel
theorem dL_law_836 : decode cL_law 836 = .ok (.iload_n 3, 1) := by decide +kernel
theorem dL_law_837 : decode cL_law 837 = .ok (.iconst 2, 1) := by decide +kernel
theorem dL_law_838 : decode cL_law 838 = .ok (.iadd, 1) := by decide +kernel
theorem dL_law_839 : decode cL_law 839 = .ok (.iaload, 1) := by decide +kernel
theorem dL_law_840 : decode cL_law 840 = .ok (.invokevirtual 99, 3) := by decide +kernel
theorem dL_law_843 : decode cL_law 843 = .ok (.if_icmp .eq 28, 3) := by decide +kernel
theorem dL_law_846 : decode cL_law 846 = .ok (.iconst 0, 1) := by decide +kernel
theorem dL_law_847 : decode cL_law 847 = .ok (.ireturn, 1) := by decide +kernel
theorem dL_law_848 : decode cL_law 848 = .ok (.aload_n 1, 1) := by decide +kernel
theorem dL_law_849 : decode cL_law 849 = .ok (.aload_n 0, 1) := by decide +kernel
theorem dL_law_850 : decode cL_law 850 = .ok (.iload_n 3, 1) := by decide +kernel
theorem dL_law_851 : decode cL_law 851 = .ok (.iconst 1, 1) := by decide +kernel
theorem dL_law_852 : decode cL_law 852 = .ok (.iadd, 1) := by decide +kernel
theorem dL_law_853 : decode cL_law 853 = .ok (.iaload, 1) := by decide +kernel
theorem dL_law_854 : decode cL_law 854 = .ok (.invokevirtual 100, 3) := by decide +kernel
theorem dL_law_857 : decode cL_law 857 = .ok (.aload_n 2, 1) := by decide +kernel
theorem dL_law_858 : decode cL_law 858 = .ok (.aload_n 0, 1) := by decide +kernel
theorem dL_law_859 : decode cL_law 859 = .ok (.iload_n 3, 1) := by decide +kernel
theorem dL_law_860 : decode cL_law 860 = .ok (.iconst 1, 1) := by decide +kernel
theorem dL_law_861 : decode cL_law 861 = .ok (.iadd, 1) := by decide +kernel
theorem dL_law_862 : decode cL_law 862 = .ok (.iaload, 1) := by decide +kernel
theorem dL_law_863 : decode cL_law 863 = .ok (.invokevirtual 103, 3) := by decide +kernel
theorem dL_law_866 : decode cL_law 866 = .ok (.if_icmp .eq 5, 3) := by decide +kernel
theorem dL_law_869 : decode cL_law 869 = .ok (.iconst 0, 1) := by decide +kernel
theorem dL_law_870 : decode cL_law 870 = .ok (.ireturn, 1) := by decide +kernel
theorem dL_law_871 : decode cL_law 871 = .ok (.iinc 3 6, 3) := by decide +kernel
theorem dL_law_874 : decode cL_law 874 = .ok (.goto (-856), 3) := by decide +kernel
theorem dL_law_877 : decode cL_law 877 = .ok (.iconst 1, 1) := by decide +kernel
theorem dL_law_878 : decode cL_law 878 = .ok (.ireturn, 1) := by decide +kernel
