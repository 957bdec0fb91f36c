theorem dX10_init_0 : decode cX10_init 0 = .ok (.aload_n 0, 1) := by decide +kernel
theorem dX10_init_1 : decode cX10_init 1 = .ok (.invokespecial 1, 3) := by decide +kernel
theorem dX10_init_4 : decode cX10_init 4 = .ok (.aload_n 0, 1) := by decide +kernel
theorem dX10_init_5 : decode cX10_init 5 = .ok (.new 7, 3) := by decide +kernel
theorem dX10_init_8 : decode cX10_init 8 = .ok (.dup, 1) := by decide +kernel
theorem dX10_init_9 : decode cX10_init 9 = .ok (.invokespecial 9, 3) := by decide +kernel
theorem dX10_init_12 : decode cX10_init 12 = .ok (.putfield 10, 3) := by decide +kernel
theorem dX10_init_15 : decode cX10_init 15 = .ok (.aload_n 0, 1) := by decide +kernel
theorem dX10_init_16 : decode cX10_init 16 = .ok (.new 16, 3) := by decide +kernel
theorem dX10_init_19 : decode cX10_init 19 = .ok (.dup, 1) := by decide +kernel
theorem dX10_init_20 : decode cX10_init 20 = .ok (.invokespecial 18, 3) := by decide +kernel
theorem dX10_init_23 : decode cX10_init 23 = .ok (.putfield 19, 3) := by decide +kernel
theorem dX10_init_26 : decode cX10_init 26 = .ok (.aload_n 0, 1) := by decide +kernel
theorem dX10_init_27 : decode cX10_init 27 = .ok (.new 23, 3) := by decide +kernel
theorem dX10_init_30 : decode cX10_init 30 = .ok (.dup, 1) := by decide +kernel
theorem dX10_init_31 : decode cX10_init 31 = .ok (.invokespecial 25, 3) := by decide +kernel
theorem dX10_init_34 : decode cX10_init 34 = .ok (.putfield 26, 3) := by decide +kernel
theorem dX10_init_37 : decode cX10_init 37 = .ok (.aload_n 0, 1) := by decide +kernel
theorem dX10_init_38 : decode cX10_init 38 = .ok (.new 30, 3) := by decide +kernel
theorem dX10_init_41 : decode cX10_init 41 = .ok (.dup, 1) := by decide +kernel
theorem dX10_init_42 : decode cX10_init 42 = .ok (.invokespecial 32, 3) := by decide +kernel
theorem dX10_init_45 : decode cX10_init 45 = .ok (.putfield 33, 3) := by decide +kernel
theorem dX10_init_48 : decode cX10_init 48 = .ok (.aload_n 0, 1) := by decide +kernel
theorem dX10_init_49 : decode cX10_init 49 = .ok (.iconst 2, 1) := by decide +kernel
theorem dX10_init_50 : decode cX10_init 50 = .ok (.anewarray 23, 3) := by decide +kernel
theorem dX10_init_53 : decode cX10_init 53 = .ok (.putfield 37, 3) := by decide +kernel
theorem dX10_init_56 : decode cX10_init 56 = .ok (.iconst 0, 1) := by decide +kernel
theorem dX10_init_57 : decode cX10_init 57 = .ok (.istore_n 1, 1) := by decide +kernel
theorem dX10_init_58 : decode cX10_init 58 = .ok (.iload_n 1, 1) := by decide +kernel
theorem dX10_init_59 : decode cX10_init 59 = .ok (.iconst 2, 1) := by decide +kernel
theorem dX10_init_60 : decode cX10_init 60 = .ok (.if_icmp .ge 22, 3) := by decide +kernel
theorem dX10_init_63 : decode cX10_init 63 = .ok (.aload_n 0, 1) := by decide +kernel
theorem dX10_init_64 : decode cX10_init 64 = .ok (.getfield 37, 3) := by decide +kernel
theorem dX10_init_67 : decode cX10_init 67 = .ok (.iload_n 1, 1) := by decide +kernel
theorem dX10_init_68 : decode cX10_init 68 = .ok (.new 23, 3) := by decide +kernel
theorem dX10_init_71 : decode cX10_init 71 = .ok (.dup, 1) := by decide +kernel
theorem dX10_init_72 : decode cX10_init 72 = .ok (.invokespecial 25, 3) := by decide +kernel
theorem dX10_init_75 : decode cX10_init 75 = .ok (.aastore, 1) := by decide +kernel
theorem dX10_init_76 : decode cX10_init 76 = .ok (.iinc 1 1, 3) := by decide +kernel
theorem dX10_init_79 : decode cX10_init 79 = .ok (.goto (-21), 3) := by decide +kernel
theorem dX10_init_82 : decode cX10_init 82 = .ok (.aload_n 0, 1) := by decide +kernel
theorem dX10_init_83 : decode cX10_init 83 = .ok (.iconst 2, 1) := by decide +kernel
theorem dX10_init_84 : decode cX10_init 84 = .ok (.newarray .boolean, 2) := by decide +kernel
theorem dX10_init_86 : decode cX10_init 86 = .ok (.putfield 41, 3) := by decide +kernel
theorem dX10_init_89 : decode cX10_init 89 = .ok (.aload_n 0, 1) := by decide +kernel
theorem dX10_init_90 : decode cX10_init 90 = .ok (.new 45, 3) := by decide +kernel
theorem dX10_init_93 : decode cX10_init 93 = .ok (.dup, 1) := by decide +kernel
theorem dX10_init_94 : decode cX10_init 94 = .ok (.invokespecial 47, 3) := by decide +kernel
theorem dX10_init_97 : decode cX10_init 97 = .ok (.putfield 48, 3) := by decide +kernel
theorem dX10_init_100 : decode cX10_init 100 = .ok (.aload_n 0, 1) := by decide +kernel
theorem dX10_init_101 : decode cX10_init 101 = .ok (.new 52, 3) := by decide +kernel
theorem dX10_init_104 : decode cX10_init 104 = .ok (.dup, 1) := by decide +kernel
theorem dX10_init_105 : decode cX10_init 105 = .ok (.invokespecial 54, 3) := by decide +kernel
theorem dX10_init_108 : decode cX10_init 108 = .ok (.putfield 55, 3) := by decide +kernel
theorem dX10_init_111 : decode cX10_init 111 = .ok (.aload_n 0, 1) := by decide +kernel
theorem dX10_init_112 : decode cX10_init 112 = .ok (.new 59, 3) := by decide +kernel
theorem dX10_init_115 : decode cX10_init 115 = .ok (.dup, 1) := by decide +kernel
theorem dX10_init_116 : decode cX10_init 116 = .ok (.invokespecial 61, 3) := by decide +kernel
theorem dX10_init_119 : decode cX10_init 119 = .ok (.putfield 62, 3) := by decide +kernel
theorem dX10_init_122 : decode cX10_init 122 = .ok (.aload_n 0, 1) := by decide +kernel
theorem dX10_init_123 : decode cX10_init 123 = .ok (.new 66, 3) := by decide +kernel
theorem dX10_init_126 : decode cX10_init 126 = .ok (.dup, 1) := by decide +kernel
theorem dX10_init_127 : decode cX10_init 127 = .ok (.invokespecial 68, 3) := by decide +kernel
theorem dX10_init_130 : decode cX10_init 130 = .ok (.putfield 69, 3) := by decide +kernel
theorem dX10_init_133 : decode cX10_init 133 = .ok (.return_, 1) := by decide +kernel
theorem dX10_feed_0 : decode cX10_feed 0 = .ok (.aload_n 0, 1) := by decide +kernel
theorem dX10_feed_1 : decode cX10_feed 1 = .ok (.getfield 10, 3) := by decide +kernel
theorem dX10_feed_4 : decode cX10_feed 4 = .ok (.invokevirtual 73, 3) := by decide +kernel
theorem dX10_feed_7 : decode cX10_feed 7 = .ok (.ifCond .ne 5, 3) := by decide +kernel
theorem dX10_feed_10 : decode cX10_feed 10 = .ok (.iconst (-1), 1) := by decide +kernel
theorem dX10_feed_11 : decode cX10_feed 11 = .ok (.ireturn, 1) := by decide +kernel
theorem dX10_feed_12 : decode cX10_feed 12 = .ok (.aload_n 0, 1) := by decide +kernel
theorem dX10_feed_13 : decode cX10_feed 13 = .ok (.getfield 10, 3) := by decide +kernel
theorem dX10_feed_16 : decode cX10_feed 16 = .ok (.iload_n 1, 1) := by decide +kernel
theorem dX10_feed_17 : decode cX10_feed 17 = .ok (.invokevirtual 77, 3) := by decide +kernel
theorem dX10_feed_20 : decode cX10_feed 20 = .ok (.aload_n 0, 1) := by decide +kernel
theorem dX10_feed_21 : decode cX10_feed 21 = .ok (.getfield 10, 3) := by decide +kernel
theorem dX10_feed_24 : decode cX10_feed 24 = .ok (.iload_n 2, 1) := by decide +kernel
theorem dX10_feed_25 : decode cX10_feed 25 = .ok (.invokevirtual 77, 3) := by decide +kernel
theorem dX10_feed_28 : decode cX10_feed 28 = .ok (.aload_n 0, 1) := by decide +kernel
theorem dX10_feed_29 : decode cX10_feed 29 = .ok (.getfield 10, 3) := by decide +kernel
theorem dX10_feed_32 : decode cX10_feed 32 = .ok (.iload_n 3, 1) := by decide +kernel
theorem dX10_feed_33 : decode cX10_feed 33 = .ok (.invokevirtual 77, 3) := by decide +kernel
theorem dX10_feed_36 : decode cX10_feed 36 = .ok (.aload_n 0, 1) := by decide +kernel
theorem dX10_feed_37 : decode cX10_feed 37 = .ok (.getfield 10, 3) := by decide +kernel
theorem dX10_feed_40 : decode cX10_feed 40 = .ok (.iload 4, 2) := by decide +kernel
theorem dX10_feed_42 : decode cX10_feed 42 = .ok (.invokevirtual 77, 3) := by decide +kernel
theorem dX10_feed_45 : decode cX10_feed 45 = .ok (.aload_n 0, 1) := by decide +kernel
theorem dX10_feed_46 : decode cX10_feed 46 = .ok (.getfield 10, 3) := by decide +kernel
theorem dX10_feed_49 : decode cX10_feed 49 = .ok (.iload 5, 2) := by decide +kernel
theorem dX10_feed_51 : decode cX10_feed 51 = .ok (.invokevirtual 77, 3) := by decide +kernel
theorem dX10_feed_54 : decode cX10_feed 54 = .ok (.aload_n 0, 1) := by decide +kernel
theorem dX10_feed_55 : decode cX10_feed 55 = .ok (.getfield 10, 3) := by decide +kernel
theorem dX10_feed_58 : decode cX10_feed 58 = .ok (.invokevirtual 81, 3) := by decide +kernel
theorem dX10_feed_61 : decode cX10_feed 61 = .ok (.ireturn, 1) := by decide +kernel
theorem dX10_end_0 : decode cX10_end 0 = .ok (.aload_n 0, 1) := by decide +kernel
theorem dX10_end_1 : decode cX10_end 1 = .ok (.getfield 10, 3) := by decide +kernel
theorem dX10_end_4 : decode cX10_end 4 = .ok (.iload_n 1, 1) := by decide +kernel
theorem dX10_end_5 : decode cX10_end 5 = .ok (.invokevirtual 85, 3) := by decide +kernel
theorem dX10_end_8 : decode cX10_end 8 = .ok (.ireturn, 1) := by decide +kernel
theorem dX10_path_0 : decode cX10_path 0 = .ok (.aload_n 0, 1) := by decide +kernel
theorem dX10_path_1 : decode cX10_path 1 = .ok (.getfield 19, 3) := by decide +kernel
theorem dX10_path_4 : decode cX10_path 4 = .ok (.aload_n 0, 1) := by decide +kernel
theorem dX10_path_5 : decode cX10_path 5 = .ok (.getfield 10, 3) := by decide +kernel
theorem dX10_path_8 : decode cX10_path 8 = .ok (.invokevirtual 89, 3) := by decide +kernel
theorem dX10_path_11 : decode cX10_path 11 = .ok (.aload_n 0, 1) := by decide +kernel
theorem dX10_path_12 : decode cX10_path 12 = .ok (.getfield 10, 3) := by decide +kernel
theorem dX10_path_15 : decode cX10_path 15 = .ok (.iconst 0, 1) := by decide +kernel
theorem dX10_path_16 : decode cX10_path 16 = .ok (.invokevirtual 85, 3) := by decide +kernel
theorem dX10_path_19 : decode cX10_path 19 = .ok (.pop, 1) := by decide +kernel
theorem dX10_path_20 : decode cX10_path 20 = .ok (.aload_n 0, 1) := by decide +kernel
theorem dX10_path_21 : decode cX10_path 21 = .ok (.getfield 19, 3) := by decide +kernel
theorem dX10_path_24 : decode cX10_path 24 = .ok (.invokevirtual 93, 3) := by decide +kernel
theorem dX10_path_27 : decode cX10_path 27 = .ok (.ifCond .eq 15, 3) := by decide +kernel
theorem dX10_path_30 : decode cX10_path 30 = .ok (.sipush (-1000), 3) := by decide +kernel
theorem dX10_path_33 : decode cX10_path 33 = .ok (.aload_n 0, 1) := by decide +kernel
theorem dX10_path_34 : decode cX10_path 34 = .ok (.getfield 19, 3) := by decide +kernel
theorem dX10_path_37 : decode cX10_path 37 = .ok (.invokevirtual 96, 3) := by decide +kernel
theorem dX10_path_40 : decode cX10_path 40 = .ok (.isub, 1) := by decide +kernel
theorem dX10_path_41 : decode cX10_path 41 = .ok (.ireturn, 1) := by decide +kernel
theorem dX10_path_42 : decode cX10_path 42 = .ok (.aload_n 0, 1) := by decide +kernel
theorem dX10_path_43 : decode cX10_path 43 = .ok (.getfield 33, 3) := by decide +kernel
theorem dX10_path_46 : decode cX10_path 46 = .ok (.aload_n 0, 1) := by decide +kernel
theorem dX10_path_47 : decode cX10_path 47 = .ok (.getfield 26, 3) := by decide +kernel
theorem dX10_path_50 : decode cX10_path 50 = .ok (.invokevirtual 99, 3) := by decide +kernel
theorem dX10_path_53 : decode cX10_path 53 = .ok (.aload_n 0, 1) := by decide +kernel
theorem dX10_path_54 : decode cX10_path 54 = .ok (.getfield 19, 3) := by decide +kernel
theorem dX10_path_57 : decode cX10_path 57 = .ok (.aload_n 0, 1) := by decide +kernel
theorem dX10_path_58 : decode cX10_path 58 = .ok (.getfield 26, 3) := by decide +kernel
theorem dX10_path_61 : decode cX10_path 61 = .ok (.invokevirtual 103, 3) := by decide +kernel
theorem dX10_path_64 : decode cX10_path 64 = .ok (.invokevirtual 107, 3) := by decide +kernel
theorem dX10_path_67 : decode cX10_path 67 = .ok (.istore_n 1, 1) := by decide +kernel
theorem dX10_path_68 : decode cX10_path 68 = .ok (.iload_n 1, 1) := by decide +kernel
theorem dX10_path_69 : decode cX10_path 69 = .ok (.ifCond .le 10, 3) := by decide +kernel
theorem dX10_path_72 : decode cX10_path 72 = .ok (.aload_n 0, 1) := by decide +kernel
theorem dX10_path_73 : decode cX10_path 73 = .ok (.getfield 33, 3) := by decide +kernel
theorem dX10_path_76 : decode cX10_path 76 = .ok (.invokevirtual 111, 3) := by decide +kernel
theorem dX10_path_79 : decode cX10_path 79 = .ok (.iload_n 1, 1) := by decide +kernel
theorem dX10_path_80 : decode cX10_path 80 = .ok (.ireturn, 1) := by decide +kernel
theorem dX10_fault_0 : decode cX10_fault 0 = .ok (.aload_n 0, 1) := by decide +kernel
theorem dX10_fault_1 : decode cX10_fault 1 = .ok (.getfield 19, 3) := by decide +kernel
theorem dX10_fault_4 : decode cX10_fault 4 = .ok (.invokevirtual 93, 3) := by decide +kernel
theorem dX10_fault_7 : decode cX10_fault 7 = .ok (.ireturn, 1) := by decide +kernel
theorem dX10_now_0 : decode cX10_now 0 = .ok (.aload_n 0, 1) := by decide +kernel
theorem dX10_now_1 : decode cX10_now 1 = .ok (.getfield 26, 3) := by decide +kernel
theorem dX10_now_4 : decode cX10_now 4 = .ok (.invokevirtual 103, 3) := by decide +kernel
theorem dX10_now_7 : decode cX10_now 7 = .ok (.astore_n 2, 1) := by decide +kernel
theorem dX10_now_8 : decode cX10_now 8 = .ok (.iload_n 1, 1) := by decide +kernel
theorem dX10_now_9 : decode cX10_now 9 = .ok (.tableswitch 117 0 9 #[55, 60, 65, 70, 75, 80, 85, 90, 101, 109], 55) := by decide +kernel
theorem dX10_now_64 : decode cX10_now 64 = .ok (.aload_n 2, 1) := by decide +kernel
theorem dX10_now_65 : decode cX10_now 65 = .ok (.invokevirtual 114, 3) := by decide +kernel
theorem dX10_now_68 : decode cX10_now 68 = .ok (.ireturn, 1) := by decide +kernel
theorem dX10_now_69 : decode cX10_now 69 = .ok (.aload_n 2, 1) := by decide +kernel
theorem dX10_now_70 : decode cX10_now 70 = .ok (.invokevirtual 119, 3) := by decide +kernel
theorem dX10_now_73 : decode cX10_now 73 = .ok (.ireturn, 1) := by decide +kernel
theorem dX10_now_74 : decode cX10_now 74 = .ok (.aload_n 2, 1) := by decide +kernel
theorem dX10_now_75 : decode cX10_now 75 = .ok (.invokevirtual 122, 3) := by decide +kernel
theorem dX10_now_78 : decode cX10_now 78 = .ok (.ireturn, 1) := by decide +kernel
theorem dX10_now_79 : decode cX10_now 79 = .ok (.aload_n 2, 1) := by decide +kernel
theorem dX10_now_80 : decode cX10_now 80 = .ok (.invokevirtual 125, 3) := by decide +kernel
theorem dX10_now_83 : decode cX10_now 83 = .ok (.ireturn, 1) := by decide +kernel
theorem dX10_now_84 : decode cX10_now 84 = .ok (.aload_n 2, 1) := by decide +kernel
theorem dX10_now_85 : decode cX10_now 85 = .ok (.invokevirtual 128, 3) := by decide +kernel
theorem dX10_now_88 : decode cX10_now 88 = .ok (.ireturn, 1) := by decide +kernel
theorem dX10_now_89 : decode cX10_now 89 = .ok (.aload_n 2, 1) := by decide +kernel
theorem dX10_now_90 : decode cX10_now 90 = .ok (.invokevirtual 131, 3) := by decide +kernel
theorem dX10_now_93 : decode cX10_now 93 = .ok (.ireturn, 1) := by decide +kernel
theorem dX10_now_94 : decode cX10_now 94 = .ok (.aload_n 2, 1) := by decide +kernel
theorem dX10_now_95 : decode cX10_now 95 = .ok (.invokevirtual 134, 3) := by decide +kernel
theorem dX10_now_98 : decode cX10_now 98 = .ok (.ireturn, 1) := by decide +kernel
theorem dX10_now_99 : decode cX10_now 99 = .ok (.aload_n 0, 1) := by decide +kernel
theorem dX10_now_100 : decode cX10_now 100 = .ok (.getfield 26, 3) := by decide +kernel
theorem dX10_now_103 : decode cX10_now 103 = .ok (.invokevirtual 137, 3) := by decide +kernel
theorem dX10_now_106 : decode cX10_now 106 = .ok (.invokevirtual 141, 3) := by decide +kernel
theorem dX10_now_109 : decode cX10_now 109 = .ok (.ireturn, 1) := by decide +kernel
theorem dX10_now_110 : decode cX10_now 110 = .ok (.aload_n 0, 1) := by decide +kernel
theorem dX10_now_111 : decode cX10_now 111 = .ok (.getfield 33, 3) := by decide +kernel
theorem dX10_now_114 : decode cX10_now 114 = .ok (.invokevirtual 146, 3) := by decide +kernel
theorem dX10_now_117 : decode cX10_now 117 = .ok (.ireturn, 1) := by decide +kernel
theorem dX10_now_118 : decode cX10_now 118 = .ok (.aload_n 0, 1) := by decide +kernel
theorem dX10_now_119 : decode cX10_now 119 = .ok (.getfield 10, 3) := by decide +kernel
theorem dX10_now_122 : decode cX10_now 122 = .ok (.invokevirtual 81, 3) := by decide +kernel
theorem dX10_now_125 : decode cX10_now 125 = .ok (.ireturn, 1) := by decide +kernel
theorem dX10_now_126 : decode cX10_now 126 = .ok (.iconst (-1), 1) := by decide +kernel
theorem dX10_now_127 : decode cX10_now 127 = .ok (.ireturn, 1) := by decide +kernel
theorem dX10_left_0 : decode cX10_left 0 = .ok (.aload_n 0, 1) := by decide +kernel
theorem dX10_left_1 : decode cX10_left 1 = .ok (.getfield 33, 3) := by decide +kernel
theorem dX10_left_4 : decode cX10_left 4 = .ok (.aload_n 0, 1) := by decide +kernel
theorem dX10_left_5 : decode cX10_left 5 = .ok (.getfield 26, 3) := by decide +kernel
theorem dX10_left_8 : decode cX10_left 8 = .ok (.invokevirtual 99, 3) := by decide +kernel
theorem dX10_left_11 : decode cX10_left 11 = .ok (.aload_n 0, 1) := by decide +kernel
theorem dX10_left_12 : decode cX10_left 12 = .ok (.aload_n 0, 1) := by decide +kernel
theorem dX10_left_13 : decode cX10_left 13 = .ok (.getfield 26, 3) := by decide +kernel
theorem dX10_left_16 : decode cX10_left 16 = .ok (.invokevirtual 103, 3) := by decide +kernel
theorem dX10_left_19 : decode cX10_left 19 = .ok (.invokevirtual 147, 3) := by decide +kernel
theorem dX10_left_22 : decode cX10_left 22 = .ok (.invokevirtual 150, 3) := by decide +kernel
theorem dX10_left_25 : decode cX10_left 25 = .ok (.ireturn, 1) := by decide +kernel
theorem dX10_right_0 : decode cX10_right 0 = .ok (.aload_n 0, 1) := by decide +kernel
theorem dX10_right_1 : decode cX10_right 1 = .ok (.getfield 33, 3) := by decide +kernel
theorem dX10_right_4 : decode cX10_right 4 = .ok (.aload_n 0, 1) := by decide +kernel
theorem dX10_right_5 : decode cX10_right 5 = .ok (.getfield 26, 3) := by decide +kernel
theorem dX10_right_8 : decode cX10_right 8 = .ok (.invokevirtual 99, 3) := by decide +kernel
theorem dX10_right_11 : decode cX10_right 11 = .ok (.aload_n 0, 1) := by decide +kernel
theorem dX10_right_12 : decode cX10_right 12 = .ok (.aload_n 0, 1) := by decide +kernel
theorem dX10_right_13 : decode cX10_right 13 = .ok (.getfield 26, 3) := by decide +kernel
theorem dX10_right_16 : decode cX10_right 16 = .ok (.invokevirtual 103, 3) := by decide +kernel
theorem dX10_right_19 : decode cX10_right 19 = .ok (.invokevirtual 154, 3) := by decide +kernel
theorem dX10_right_22 : decode cX10_right 22 = .ok (.invokevirtual 150, 3) := by decide +kernel
theorem dX10_right_25 : decode cX10_right 25 = .ok (.ireturn, 1) := by decide +kernel
theorem dX10_up_0 : decode cX10_up 0 = .ok (.aload_n 0, 1) := by decide +kernel
theorem dX10_up_1 : decode cX10_up 1 = .ok (.getfield 33, 3) := by decide +kernel
theorem dX10_up_4 : decode cX10_up 4 = .ok (.aload_n 0, 1) := by decide +kernel
theorem dX10_up_5 : decode cX10_up 5 = .ok (.getfield 26, 3) := by decide +kernel
theorem dX10_up_8 : decode cX10_up 8 = .ok (.invokevirtual 99, 3) := by decide +kernel
theorem dX10_up_11 : decode cX10_up 11 = .ok (.aload_n 0, 1) := by decide +kernel
theorem dX10_up_12 : decode cX10_up 12 = .ok (.aload_n 0, 1) := by decide +kernel
theorem dX10_up_13 : decode cX10_up 13 = .ok (.getfield 26, 3) := by decide +kernel
theorem dX10_up_16 : decode cX10_up 16 = .ok (.invokevirtual 103, 3) := by decide +kernel
theorem dX10_up_19 : decode cX10_up 19 = .ok (.invokevirtual 157, 3) := by decide +kernel
theorem dX10_up_22 : decode cX10_up 22 = .ok (.invokevirtual 150, 3) := by decide +kernel
theorem dX10_up_25 : decode cX10_up 25 = .ok (.ireturn, 1) := by decide +kernel
theorem dX10_go_0 : decode cX10_go 0 = .ok (.iload_n 1, 1) := by decide +kernel
theorem dX10_go_1 : decode cX10_go 1 = .ok (.iload_n 2, 1) := by decide +kernel
theorem dX10_go_2 : decode cX10_go 2 = .ok (.invokestatic 160, 3) := by decide +kernel
theorem dX10_go_5 : decode cX10_go 5 = .ok (.ifCond .eq 12, 3) := by decide +kernel
theorem dX10_go_8 : decode cX10_go 8 = .ok (.aload_n 0, 1) := by decide +kernel
theorem dX10_go_9 : decode cX10_go 9 = .ok (.iload_n 1, 1) := by decide +kernel
theorem dX10_go_10 : decode cX10_go 10 = .ok (.iload_n 2, 1) := by decide +kernel
theorem dX10_go_11 : decode cX10_go 11 = .ok (.invokevirtual 164, 3) := by decide +kernel
theorem dX10_go_14 : decode cX10_go 14 = .ok (.goto 4, 3) := by decide +kernel
theorem dX10_go_17 : decode cX10_go 17 = .ok (.iconst (-1), 1) := by decide +kernel
theorem dX10_go_18 : decode cX10_go 18 = .ok (.ireturn, 1) := by decide +kernel
theorem dX10_stepped_0 : decode cX10_stepped 0 = .ok (.iload_n 1, 1) := by decide +kernel
theorem dX10_stepped_1 : decode cX10_stepped 1 = .ok (.ifCond .ne 5, 3) := by decide +kernel
theorem dX10_stepped_4 : decode cX10_stepped 4 = .ok (.iconst (-1), 1) := by decide +kernel
theorem dX10_stepped_5 : decode cX10_stepped 5 = .ok (.ireturn, 1) := by decide +kernel
theorem dX10_stepped_6 : decode cX10_stepped 6 = .ok (.aload_n 0, 1) := by decide +kernel
theorem dX10_stepped_7 : decode cX10_stepped 7 = .ok (.getfield 33, 3) := by decide +kernel
theorem dX10_stepped_10 : decode cX10_stepped 10 = .ok (.invokevirtual 111, 3) := by decide +kernel
theorem dX10_stepped_13 : decode cX10_stepped 13 = .ok (.aload_n 0, 1) := by decide +kernel
theorem dX10_stepped_14 : decode cX10_stepped 14 = .ok (.getfield 26, 3) := by decide +kernel
theorem dX10_stepped_17 : decode cX10_stepped 17 = .ok (.invokevirtual 103, 3) := by decide +kernel
theorem dX10_stepped_20 : decode cX10_stepped 20 = .ok (.invokevirtual 168, 3) := by decide +kernel
theorem dX10_stepped_23 : decode cX10_stepped 23 = .ok (.ireturn, 1) := by decide +kernel
theorem dX10_moveTo_0 : decode cX10_moveTo 0 = .ok (.aload_n 0, 1) := by decide +kernel
theorem dX10_moveTo_1 : decode cX10_moveTo 1 = .ok (.getfield 26, 3) := by decide +kernel
theorem dX10_moveTo_4 : decode cX10_moveTo 4 = .ok (.invokevirtual 103, 3) := by decide +kernel
theorem dX10_moveTo_7 : decode cX10_moveTo 7 = .ok (.astore_n 3, 1) := by decide +kernel
theorem dX10_moveTo_8 : decode cX10_moveTo 8 = .ok (.aload_n 3, 1) := by decide +kernel
theorem dX10_moveTo_9 : decode cX10_moveTo 9 = .ok (.iload_n 1, 1) := by decide +kernel
theorem dX10_moveTo_10 : decode cX10_moveTo 10 = .ok (.iload_n 2, 1) := by decide +kernel
theorem dX10_moveTo_11 : decode cX10_moveTo 11 = .ok (.invokevirtual 171, 3) := by decide +kernel
theorem dX10_moveTo_14 : decode cX10_moveTo 14 = .ok (.ifCond .eq 5, 3) := by decide +kernel
theorem dX10_moveTo_17 : decode cX10_moveTo 17 = .ok (.iconst (-1), 1) := by decide +kernel
theorem dX10_moveTo_18 : decode cX10_moveTo 18 = .ok (.ireturn, 1) := by decide +kernel
theorem dX10_moveTo_19 : decode cX10_moveTo 19 = .ok (.aload_n 0, 1) := by decide +kernel
theorem dX10_moveTo_20 : decode cX10_moveTo 20 = .ok (.getfield 33, 3) := by decide +kernel
theorem dX10_moveTo_23 : decode cX10_moveTo 23 = .ok (.aload_n 0, 1) := by decide +kernel
theorem dX10_moveTo_24 : decode cX10_moveTo 24 = .ok (.getfield 26, 3) := by decide +kernel
theorem dX10_moveTo_27 : decode cX10_moveTo 27 = .ok (.invokevirtual 99, 3) := by decide +kernel
theorem dX10_moveTo_30 : decode cX10_moveTo 30 = .ok (.aload_n 3, 1) := by decide +kernel
theorem dX10_moveTo_31 : decode cX10_moveTo 31 = .ok (.iload_n 1, 1) := by decide +kernel
theorem dX10_moveTo_32 : decode cX10_moveTo 32 = .ok (.iload_n 2, 1) := by decide +kernel
theorem dX10_moveTo_33 : decode cX10_moveTo 33 = .ok (.invokevirtual 174, 3) := by decide +kernel
theorem dX10_moveTo_36 : decode cX10_moveTo 36 = .ok (.aload_n 0, 1) := by decide +kernel
theorem dX10_moveTo_37 : decode cX10_moveTo 37 = .ok (.getfield 33, 3) := by decide +kernel
theorem dX10_moveTo_40 : decode cX10_moveTo 40 = .ok (.invokevirtual 111, 3) := by decide +kernel
theorem dX10_moveTo_43 : decode cX10_moveTo 43 = .ok (.aload_n 3, 1) := by decide +kernel
theorem dX10_moveTo_44 : decode cX10_moveTo 44 = .ok (.invokevirtual 134, 3) := by decide +kernel
theorem dX10_moveTo_47 : decode cX10_moveTo 47 = .ok (.ireturn, 1) := by decide +kernel
theorem dX10_isPlace_0 : decode cX10_isPlace 0 = .ok (.iload_n 0, 1) := by decide +kernel
theorem dX10_isPlace_1 : decode cX10_isPlace 1 = .ok (.iconst 1, 1) := by decide +kernel
theorem dX10_isPlace_2 : decode cX10_isPlace 2 = .ok (.if_icmp .lt 26, 3) := by decide +kernel
theorem dX10_isPlace_5 : decode cX10_isPlace 5 = .ok (.iload_n 1, 1) := by decide +kernel
theorem dX10_isPlace_6 : decode cX10_isPlace 6 = .ok (.iconst 1, 1) := by decide +kernel
theorem dX10_isPlace_7 : decode cX10_isPlace 7 = .ok (.if_icmp .lt 21, 3) := by decide +kernel
theorem dX10_isPlace_10 : decode cX10_isPlace 10 = .ok (.iload_n 0, 1) := by decide +kernel
theorem dX10_isPlace_11 : decode cX10_isPlace 11 = .ok (.bipush 22, 2) := by decide +kernel
theorem dX10_isPlace_13 : decode cX10_isPlace 13 = .ok (.if_icmp .ge 15, 3) := by decide +kernel
theorem dX10_isPlace_16 : decode cX10_isPlace 16 = .ok (.iload_n 1, 1) := by decide +kernel
theorem dX10_isPlace_17 : decode cX10_isPlace 17 = .ok (.bipush 22, 2) := by decide +kernel
theorem dX10_isPlace_19 : decode cX10_isPlace 19 = .ok (.iload_n 0, 1) := by decide +kernel
theorem dX10_isPlace_20 : decode cX10_isPlace 20 = .ok (.isub, 1) := by decide +kernel
theorem dX10_isPlace_21 : decode cX10_isPlace 21 = .ok (.if_icmp .gt 7, 3) := by decide +kernel
theorem dX10_isPlace_24 : decode cX10_isPlace 24 = .ok (.iconst 1, 1) := by decide +kernel
theorem dX10_isPlace_25 : decode cX10_isPlace 25 = .ok (.goto 4, 3) := by decide +kernel
theorem dX10_isPlace_28 : decode cX10_isPlace 28 = .ok (.iconst 0, 1) := by decide +kernel
theorem dX10_isPlace_29 : decode cX10_isPlace 29 = .ok (.istore_n 2, 1) := by decide +kernel
theorem dX10_isPlace_30 : decode cX10_isPlace 30 = .ok (.iload_n 2, 1) := by decide +kernel
theorem dX10_isPlace_31 : decode cX10_isPlace 31 = .ok (.ifCond .eq 16, 3) := by decide +kernel
theorem dX10_isPlace_34 : decode cX10_isPlace 34 = .ok (.iload_n 0, 1) := by decide +kernel
theorem dX10_isPlace_35 : decode cX10_isPlace 35 = .ok (.iload_n 1, 1) := by decide +kernel
theorem dX10_isPlace_36 : decode cX10_isPlace 36 = .ok (.invokestatic 178, 3) := by decide +kernel
theorem dX10_isPlace_39 : decode cX10_isPlace 39 = .ok (.iconst 1, 1) := by decide +kernel
theorem dX10_isPlace_40 : decode cX10_isPlace 40 = .ok (.if_icmp .ne 7, 3) := by decide +kernel
theorem dX10_isPlace_43 : decode cX10_isPlace 43 = .ok (.iconst 1, 1) := by decide +kernel
theorem dX10_isPlace_44 : decode cX10_isPlace 44 = .ok (.goto 4, 3) := by decide +kernel
theorem dX10_isPlace_47 : decode cX10_isPlace 47 = .ok (.iconst 0, 1) := by decide +kernel
theorem dX10_isPlace_48 : decode cX10_isPlace 48 = .ok (.ireturn, 1) := by decide +kernel
theorem dX10_commonPart_0 : decode cX10_commonPart 0 = .ok (.iload_n 0, 1) := by decide +kernel
theorem dX10_commonPart_1 : decode cX10_commonPart 1 = .ok (.istore_n 2, 1) := by decide +kernel
theorem dX10_commonPart_2 : decode cX10_commonPart 2 = .ok (.iload_n 1, 1) := by decide +kernel
theorem dX10_commonPart_3 : decode cX10_commonPart 3 = .ok (.istore_n 3, 1) := by decide +kernel
theorem dX10_commonPart_4 : decode cX10_commonPart 4 = .ok (.iconst 0, 1) := by decide +kernel
theorem dX10_commonPart_5 : decode cX10_commonPart 5 = .ok (.istore 4, 2) := by decide +kernel
theorem dX10_commonPart_7 : decode cX10_commonPart 7 = .ok (.iload 4, 2) := by decide +kernel
theorem dX10_commonPart_9 : decode cX10_commonPart 9 = .ok (.bipush 22, 2) := by decide +kernel
theorem dX10_commonPart_11 : decode cX10_commonPart 11 = .ok (.if_icmp .ge 23, 3) := by decide +kernel
theorem dX10_commonPart_14 : decode cX10_commonPart 14 = .ok (.iload_n 3, 1) := by decide +kernel
theorem dX10_commonPart_15 : decode cX10_commonPart 15 = .ok (.ifCond .eq 19, 3) := by decide +kernel
theorem dX10_commonPart_18 : decode cX10_commonPart 18 = .ok (.iload_n 2, 1) := by decide +kernel
theorem dX10_commonPart_19 : decode cX10_commonPart 19 = .ok (.iload_n 3, 1) := by decide +kernel
theorem dX10_commonPart_20 : decode cX10_commonPart 20 = .ok (.irem, 1) := by decide +kernel
theorem dX10_commonPart_21 : decode cX10_commonPart 21 = .ok (.istore 5, 2) := by decide +kernel
theorem dX10_commonPart_23 : decode cX10_commonPart 23 = .ok (.iload_n 3, 1) := by decide +kernel
theorem dX10_commonPart_24 : decode cX10_commonPart 24 = .ok (.istore_n 2, 1) := by decide +kernel
theorem dX10_commonPart_25 : decode cX10_commonPart 25 = .ok (.iload 5, 2) := by decide +kernel
theorem dX10_commonPart_27 : decode cX10_commonPart 27 = .ok (.istore_n 3, 1) := by decide +kernel
theorem dX10_commonPart_28 : decode cX10_commonPart 28 = .ok (.iinc 4 1, 3) := by decide +kernel
theorem dX10_commonPart_31 : decode cX10_commonPart 31 = .ok (.goto (-24), 3) := by decide +kernel
theorem dX10_commonPart_34 : decode cX10_commonPart 34 = .ok (.iload_n 2, 1) := by decide +kernel
theorem dX10_commonPart_35 : decode cX10_commonPart 35 = .ok (.ireturn, 1) := by decide +kernel
theorem dX10_triple_0 : decode cX10_triple 0 = .ok (.aload_n 0, 1) := by decide +kernel
theorem dX10_triple_1 : decode cX10_triple 1 = .ok (.getfield 26, 3) := by decide +kernel
theorem dX10_triple_4 : decode cX10_triple 4 = .ok (.invokevirtual 103, 3) := by decide +kernel
theorem dX10_triple_7 : decode cX10_triple 7 = .ok (.astore_n 2, 1) := by decide +kernel
theorem dX10_triple_8 : decode cX10_triple 8 = .ok (.iload_n 1, 1) := by decide +kernel
theorem dX10_triple_9 : decode cX10_triple 9 = .ok (.tableswitch 58 0 2 #[27, 40, 53], 27) := by decide +kernel
theorem dX10_triple_36 : decode cX10_triple 36 = .ok (.aload_n 0, 1) := by decide +kernel
theorem dX10_triple_37 : decode cX10_triple 37 = .ok (.aload_n 2, 1) := by decide +kernel
theorem dX10_triple_38 : decode cX10_triple 38 = .ok (.invokevirtual 122, 3) := by decide +kernel
theorem dX10_triple_41 : decode cX10_triple 41 = .ok (.aload_n 2, 1) := by decide +kernel
theorem dX10_triple_42 : decode cX10_triple 42 = .ok (.invokevirtual 125, 3) := by decide +kernel
theorem dX10_triple_45 : decode cX10_triple 45 = .ok (.invokevirtual 181, 3) := by decide +kernel
theorem dX10_triple_48 : decode cX10_triple 48 = .ok (.lreturn, 1) := by decide +kernel
theorem dX10_triple_49 : decode cX10_triple 49 = .ok (.aload_n 0, 1) := by decide +kernel
theorem dX10_triple_50 : decode cX10_triple 50 = .ok (.aload_n 2, 1) := by decide +kernel
theorem dX10_triple_51 : decode cX10_triple 51 = .ok (.invokevirtual 128, 3) := by decide +kernel
theorem dX10_triple_54 : decode cX10_triple 54 = .ok (.aload_n 2, 1) := by decide +kernel
theorem dX10_triple_55 : decode cX10_triple 55 = .ok (.invokevirtual 131, 3) := by decide +kernel
theorem dX10_triple_58 : decode cX10_triple 58 = .ok (.invokevirtual 181, 3) := by decide +kernel
theorem dX10_triple_61 : decode cX10_triple 61 = .ok (.lreturn, 1) := by decide +kernel
theorem dX10_triple_62 : decode cX10_triple 62 = .ok (.aload_n 0, 1) := by decide +kernel
theorem dX10_triple_63 : decode cX10_triple 63 = .ok (.invokevirtual 185, 3) := by decide +kernel
theorem dX10_triple_66 : decode cX10_triple 66 = .ok (.lreturn, 1) := by decide +kernel
theorem dX10_triple_67 : decode cX10_triple 67 = .ok (.new 189, 3) := by decide +kernel
theorem dX10_triple_70 : decode cX10_triple 70 = .ok (.dup, 1) := by decide +kernel
theorem dX10_triple_71 : decode cX10_triple 71 = .ok (.invokespecial 191, 3) := by decide +kernel
theorem dX10_triple_74 : decode cX10_triple 74 = .ok (.athrow, 1) := by decide +kernel
theorem dX10_letter_0 : decode cX10_letter 0 = .ok (.aload_n 0, 1) := by decide +kernel
theorem dX10_letter_1 : decode cX10_letter 1 = .ok (.getfield 26, 3) := by decide +kernel
theorem dX10_letter_4 : decode cX10_letter 4 = .ok (.invokevirtual 103, 3) := by decide +kernel
theorem dX10_letter_7 : decode cX10_letter 7 = .ok (.astore_n 2, 1) := by decide +kernel
theorem dX10_letter_8 : decode cX10_letter 8 = .ok (.iload_n 1, 1) := by decide +kernel
theorem dX10_letter_9 : decode cX10_letter 9 = .ok (.iconst 1, 1) := by decide +kernel
theorem dX10_letter_10 : decode cX10_letter 10 = .ok (.if_icmp .lt 11, 3) := by decide +kernel
theorem dX10_letter_13 : decode cX10_letter 13 = .ok (.iload_n 1, 1) := by decide +kernel
theorem dX10_letter_14 : decode cX10_letter 14 = .ok (.aload_n 2, 1) := by decide +kernel
theorem dX10_letter_15 : decode cX10_letter 15 = .ok (.invokevirtual 168, 3) := by decide +kernel
theorem dX10_letter_18 : decode cX10_letter 18 = .ok (.if_icmp .le 5, 3) := by decide +kernel
theorem dX10_letter_21 : decode cX10_letter 21 = .ok (.iconst (-1), 1) := by decide +kernel
theorem dX10_letter_22 : decode cX10_letter 22 = .ok (.ireturn, 1) := by decide +kernel
theorem dX10_letter_23 : decode cX10_letter 23 = .ok (.aload_n 2, 1) := by decide +kernel
theorem dX10_letter_24 : decode cX10_letter 24 = .ok (.invokevirtual 114, 3) := by decide +kernel
theorem dX10_letter_27 : decode cX10_letter 27 = .ok (.aload_n 2, 1) := by decide +kernel
theorem dX10_letter_28 : decode cX10_letter 28 = .ok (.invokevirtual 119, 3) := by decide +kernel
theorem dX10_letter_31 : decode cX10_letter 31 = .ok (.iload_n 1, 1) := by decide +kernel
theorem dX10_letter_32 : decode cX10_letter 32 = .ok (.invokestatic 192, 3) := by decide +kernel
theorem dX10_letter_35 : decode cX10_letter 35 = .ok (.ifCond .eq 8, 3) := by decide +kernel
theorem dX10_letter_38 : decode cX10_letter 38 = .ok (.bipush 97, 2) := by decide +kernel
theorem dX10_letter_40 : decode cX10_letter 40 = .ok (.goto 5, 3) := by decide +kernel
theorem dX10_letter_43 : decode cX10_letter 43 = .ok (.bipush 98, 2) := by decide +kernel
theorem dX10_letter_45 : decode cX10_letter 45 = .ok (.ireturn, 1) := by decide +kernel
theorem dX10_cut_0 : decode cX10_cut 0 = .ok (.aload_n 0, 1) := by decide +kernel
theorem dX10_cut_1 : decode cX10_cut 1 = .ok (.getfield 26, 3) := by decide +kernel
theorem dX10_cut_4 : decode cX10_cut 4 = .ok (.invokevirtual 103, 3) := by decide +kernel
theorem dX10_cut_7 : decode cX10_cut 7 = .ok (.invokevirtual 114, 3) := by decide +kernel
theorem dX10_cut_10 : decode cX10_cut 10 = .ok (.istore_n 1, 1) := by decide +kernel
theorem dX10_cut_11 : decode cX10_cut 11 = .ok (.aload_n 0, 1) := by decide +kernel
theorem dX10_cut_12 : decode cX10_cut 12 = .ok (.getfield 26, 3) := by decide +kernel
theorem dX10_cut_15 : decode cX10_cut 15 = .ok (.invokevirtual 103, 3) := by decide +kernel
theorem dX10_cut_18 : decode cX10_cut 18 = .ok (.invokevirtual 168, 3) := by decide +kernel
theorem dX10_cut_21 : decode cX10_cut 21 = .ok (.istore_n 2, 1) := by decide +kernel
theorem dX10_cut_22 : decode cX10_cut 22 = .ok (.iconst 1, 1) := by decide +kernel
theorem dX10_cut_23 : decode cX10_cut 23 = .ok (.istore_n 3, 1) := by decide +kernel
theorem dX10_cut_24 : decode cX10_cut 24 = .ok (.iload_n 3, 1) := by decide +kernel
theorem dX10_cut_25 : decode cX10_cut 25 = .ok (.iload_n 2, 1) := by decide +kernel
theorem dX10_cut_26 : decode cX10_cut 26 = .ok (.if_icmp .gt 20, 3) := by decide +kernel
theorem dX10_cut_29 : decode cX10_cut 29 = .ok (.iload_n 3, 1) := by decide +kernel
theorem dX10_cut_30 : decode cX10_cut 30 = .ok (.iload_n 1, 1) := by decide +kernel
theorem dX10_cut_31 : decode cX10_cut 31 = .ok (.imul, 1) := by decide +kernel
theorem dX10_cut_32 : decode cX10_cut 32 = .ok (.iload_n 2, 1) := by decide +kernel
theorem dX10_cut_33 : decode cX10_cut 33 = .ok (.irem, 1) := by decide +kernel
theorem dX10_cut_34 : decode cX10_cut 34 = .ok (.iconst 1, 1) := by decide +kernel
theorem dX10_cut_35 : decode cX10_cut 35 = .ok (.if_icmp .ne 5, 3) := by decide +kernel
theorem dX10_cut_38 : decode cX10_cut 38 = .ok (.iload_n 3, 1) := by decide +kernel
theorem dX10_cut_39 : decode cX10_cut 39 = .ok (.ireturn, 1) := by decide +kernel
theorem dX10_cut_40 : decode cX10_cut 40 = .ok (.iinc 3 1, 3) := by decide +kernel
theorem dX10_cut_43 : decode cX10_cut 43 = .ok (.goto (-19), 3) := by decide +kernel
theorem dX10_cut_46 : decode cX10_cut 46 = .ok (.iconst (-1), 1) := by decide +kernel
theorem dX10_cut_47 : decode cX10_cut 47 = .ok (.ireturn, 1) := by decide +kernel
theorem dX10_matrix_0 : decode cX10_matrix 0 = .ok (.iload_n 1, 1) := by decide +kernel
theorem dX10_matrix_1 : decode cX10_matrix 1 = .ok (.ifCond .lt 17, 3) := by decide +kernel
theorem dX10_matrix_4 : decode cX10_matrix 4 = .ok (.iload_n 1, 1) := by decide +kernel
theorem dX10_matrix_5 : decode cX10_matrix 5 = .ok (.iconst 1, 1) := by decide +kernel
theorem dX10_matrix_6 : decode cX10_matrix 6 = .ok (.if_icmp .gt 12, 3) := by decide +kernel
theorem dX10_matrix_9 : decode cX10_matrix 9 = .ok (.iload_n 2, 1) := by decide +kernel
theorem dX10_matrix_10 : decode cX10_matrix 10 = .ok (.ifCond .lt 8, 3) := by decide +kernel
theorem dX10_matrix_13 : decode cX10_matrix 13 = .ok (.iload_n 2, 1) := by decide +kernel
theorem dX10_matrix_14 : decode cX10_matrix 14 = .ok (.iconst 1, 1) := by decide +kernel
theorem dX10_matrix_15 : decode cX10_matrix 15 = .ok (.if_icmp .le 11, 3) := by decide +kernel
theorem dX10_matrix_18 : decode cX10_matrix 18 = .ok (.new 189, 3) := by decide +kernel
theorem dX10_matrix_21 : decode cX10_matrix 21 = .ok (.dup, 1) := by decide +kernel
theorem dX10_matrix_22 : decode cX10_matrix 22 = .ok (.invokespecial 191, 3) := by decide +kernel
theorem dX10_matrix_25 : decode cX10_matrix 25 = .ok (.athrow, 1) := by decide +kernel
theorem dX10_matrix_26 : decode cX10_matrix 26 = .ok (.aload_n 0, 1) := by decide +kernel
theorem dX10_matrix_27 : decode cX10_matrix 27 = .ok (.getfield 55, 3) := by decide +kernel
theorem dX10_matrix_30 : decode cX10_matrix 30 = .ok (.aload_n 0, 1) := by decide +kernel
theorem dX10_matrix_31 : decode cX10_matrix 31 = .ok (.getfield 26, 3) := by decide +kernel
theorem dX10_matrix_34 : decode cX10_matrix 34 = .ok (.invokevirtual 103, 3) := by decide +kernel
theorem dX10_matrix_37 : decode cX10_matrix 37 = .ok (.invokevirtual 114, 3) := by decide +kernel
theorem dX10_matrix_40 : decode cX10_matrix 40 = .ok (.aload_n 0, 1) := by decide +kernel
theorem dX10_matrix_41 : decode cX10_matrix 41 = .ok (.getfield 26, 3) := by decide +kernel
theorem dX10_matrix_44 : decode cX10_matrix 44 = .ok (.invokevirtual 103, 3) := by decide +kernel
theorem dX10_matrix_47 : decode cX10_matrix 47 = .ok (.invokevirtual 119, 3) := by decide +kernel
theorem dX10_matrix_50 : decode cX10_matrix 50 = .ok (.invokevirtual 196, 3) := by decide +kernel
theorem dX10_matrix_53 : decode cX10_matrix 53 = .ok (.aload_n 0, 1) := by decide +kernel
theorem dX10_matrix_54 : decode cX10_matrix 54 = .ok (.getfield 55, 3) := by decide +kernel
theorem dX10_matrix_57 : decode cX10_matrix 57 = .ok (.iload_n 1, 1) := by decide +kernel
theorem dX10_matrix_58 : decode cX10_matrix 58 = .ok (.iload_n 2, 1) := by decide +kernel
theorem dX10_matrix_59 : decode cX10_matrix 59 = .ok (.invokevirtual 199, 3) := by decide +kernel
theorem dX10_matrix_62 : decode cX10_matrix 62 = .ok (.lreturn, 1) := by decide +kernel
theorem dX10_numberOf_0 : decode cX10_numberOf 0 = .ok (.aload_n 0, 1) := by decide +kernel
theorem dX10_numberOf_1 : decode cX10_numberOf 1 = .ok (.getfield 55, 3) := by decide +kernel
theorem dX10_numberOf_4 : decode cX10_numberOf 4 = .ok (.iload_n 1, 1) := by decide +kernel
theorem dX10_numberOf_5 : decode cX10_numberOf 5 = .ok (.iload_n 2, 1) := by decide +kernel
theorem dX10_numberOf_6 : decode cX10_numberOf 6 = .ok (.invokevirtual 196, 3) := by decide +kernel
theorem dX10_numberOf_9 : decode cX10_numberOf 9 = .ok (.aload_n 0, 1) := by decide +kernel
theorem dX10_numberOf_10 : decode cX10_numberOf 10 = .ok (.getfield 55, 3) := by decide +kernel
theorem dX10_numberOf_13 : decode cX10_numberOf 13 = .ok (.iconst 0, 1) := by decide +kernel
theorem dX10_numberOf_14 : decode cX10_numberOf 14 = .ok (.iconst 1, 1) := by decide +kernel
theorem dX10_numberOf_15 : decode cX10_numberOf 15 = .ok (.invokevirtual 199, 3) := by decide +kernel
theorem dX10_numberOf_18 : decode cX10_numberOf 18 = .ok (.lreturn, 1) := by decide +kernel
theorem dX10_numberHere_0 : decode cX10_numberHere 0 = .ok (.aload_n 0, 1) := by decide +kernel
theorem dX10_numberHere_1 : decode cX10_numberHere 1 = .ok (.aload_n 0, 1) := by decide +kernel
theorem dX10_numberHere_2 : decode cX10_numberHere 2 = .ok (.getfield 26, 3) := by decide +kernel
theorem dX10_numberHere_5 : decode cX10_numberHere 5 = .ok (.invokevirtual 103, 3) := by decide +kernel
theorem dX10_numberHere_8 : decode cX10_numberHere 8 = .ok (.invokevirtual 114, 3) := by decide +kernel
theorem dX10_numberHere_11 : decode cX10_numberHere 11 = .ok (.aload_n 0, 1) := by decide +kernel
theorem dX10_numberHere_12 : decode cX10_numberHere 12 = .ok (.getfield 26, 3) := by decide +kernel
theorem dX10_numberHere_15 : decode cX10_numberHere 15 = .ok (.invokevirtual 103, 3) := by decide +kernel
theorem dX10_numberHere_18 : decode cX10_numberHere 18 = .ok (.invokevirtual 119, 3) := by decide +kernel
theorem dX10_numberHere_21 : decode cX10_numberHere 21 = .ok (.invokevirtual 181, 3) := by decide +kernel
theorem dX10_numberHere_24 : decode cX10_numberHere 24 = .ok (.lreturn, 1) := by decide +kernel
theorem dX10_form_0 : decode cX10_form 0 = .ok (.iload_n 1, 1) := by decide +kernel
theorem dX10_form_1 : decode cX10_form 1 = .ok (.ifCond .lt 15, 3) := by decide +kernel
theorem dX10_form_4 : decode cX10_form 4 = .ok (.iload_n 1, 1) := by decide +kernel
theorem dX10_form_5 : decode cX10_form 5 = .ok (.iconst 2, 1) := by decide +kernel
theorem dX10_form_6 : decode cX10_form 6 = .ok (.if_icmp .gt 10, 3) := by decide +kernel
theorem dX10_form_9 : decode cX10_form 9 = .ok (.aload_n 0, 1) := by decide +kernel
theorem dX10_form_10 : decode cX10_form 10 = .ok (.invokevirtual 202, 3) := by decide +kernel
theorem dX10_form_13 : decode cX10_form 13 = .ok (.ifCond .ne 11, 3) := by decide +kernel
theorem dX10_form_16 : decode cX10_form 16 = .ok (.new 189, 3) := by decide +kernel
theorem dX10_form_19 : decode cX10_form 19 = .ok (.dup, 1) := by decide +kernel
theorem dX10_form_20 : decode cX10_form 20 = .ok (.invokespecial 191, 3) := by decide +kernel
theorem dX10_form_23 : decode cX10_form 23 = .ok (.athrow, 1) := by decide +kernel
theorem dX10_form_24 : decode cX10_form 24 = .ok (.aload_n 0, 1) := by decide +kernel
theorem dX10_form_25 : decode cX10_form 25 = .ok (.getfield 62, 3) := by decide +kernel
theorem dX10_form_28 : decode cX10_form 28 = .ok (.iload_n 1, 1) := by decide +kernel
theorem dX10_form_29 : decode cX10_form 29 = .ok (.invokevirtual 205, 3) := by decide +kernel
theorem dX10_form_32 : decode cX10_form 32 = .ok (.lreturn, 1) := by decide +kernel
theorem dX10_value_0 : decode cX10_value 0 = .ok (.iload_n 1, 1) := by decide +kernel
theorem dX10_value_1 : decode cX10_value 1 = .ok (.invokestatic 209, 3) := by decide +kernel
theorem dX10_value_4 : decode cX10_value 4 = .ok (.ifCond .eq 17, 3) := by decide +kernel
theorem dX10_value_7 : decode cX10_value 7 = .ok (.iload_n 2, 1) := by decide +kernel
theorem dX10_value_8 : decode cX10_value 8 = .ok (.invokestatic 209, 3) := by decide +kernel
theorem dX10_value_11 : decode cX10_value 11 = .ok (.ifCond .eq 10, 3) := by decide +kernel
theorem dX10_value_14 : decode cX10_value 14 = .ok (.aload_n 0, 1) := by decide +kernel
theorem dX10_value_15 : decode cX10_value 15 = .ok (.invokevirtual 202, 3) := by decide +kernel
theorem dX10_value_18 : decode cX10_value 18 = .ok (.ifCond .ne 7, 3) := by decide +kernel
theorem dX10_value_21 : decode cX10_value 21 = .ok (.ldc2_w 212, 3) := by decide +kernel
theorem dX10_value_24 : decode cX10_value 24 = .ok (.lreturn, 1) := by decide +kernel
theorem dX10_value_25 : decode cX10_value 25 = .ok (.aload_n 0, 1) := by decide +kernel
theorem dX10_value_26 : decode cX10_value 26 = .ok (.getfield 62, 3) := by decide +kernel
theorem dX10_value_29 : decode cX10_value 29 = .ok (.iload_n 1, 1) := by decide +kernel
theorem dX10_value_30 : decode cX10_value 30 = .ok (.i2l, 1) := by decide +kernel
theorem dX10_value_31 : decode cX10_value 31 = .ok (.iload_n 2, 1) := by decide +kernel
theorem dX10_value_32 : decode cX10_value 32 = .ok (.i2l, 1) := by decide +kernel
theorem dX10_value_33 : decode cX10_value 33 = .ok (.invokevirtual 214, 3) := by decide +kernel
theorem dX10_value_36 : decode cX10_value 36 = .ok (.lreturn, 1) := by decide +kernel
theorem dX10_round_0 : decode cX10_round 0 = .ok (.aload_n 0, 1) := by decide +kernel
theorem dX10_round_1 : decode cX10_round 1 = .ok (.invokevirtual 202, 3) := by decide +kernel
theorem dX10_round_4 : decode cX10_round 4 = .ok (.ifCond .ne 5, 3) := by decide +kernel
theorem dX10_round_7 : decode cX10_round 7 = .ok (.iconst (-1), 1) := by decide +kernel
theorem dX10_round_8 : decode cX10_round 8 = .ok (.ireturn, 1) := by decide +kernel
theorem dX10_round_9 : decode cX10_round 9 = .ok (.aload_n 0, 1) := by decide +kernel
theorem dX10_round_10 : decode cX10_round 10 = .ok (.getfield 62, 3) := by decide +kernel
theorem dX10_round_13 : decode cX10_round 13 = .ok (.invokevirtual 218, 3) := by decide +kernel
theorem dX10_round_16 : decode cX10_round 16 = .ok (.aload_n 0, 1) := by decide +kernel
theorem dX10_round_17 : decode cX10_round 17 = .ok (.getfield 62, 3) := by decide +kernel
theorem dX10_round_20 : decode cX10_round 20 = .ok (.invokevirtual 221, 3) := by decide +kernel
theorem dX10_round_23 : decode cX10_round 23 = .ok (.ireturn, 1) := by decide +kernel
theorem dX10_least_0 : decode cX10_least 0 = .ok (.aload_n 0, 1) := by decide +kernel
theorem dX10_least_1 : decode cX10_least 1 = .ok (.invokevirtual 202, 3) := by decide +kernel
theorem dX10_least_4 : decode cX10_least 4 = .ok (.ifCond .ne 7, 3) := by decide +kernel
theorem dX10_least_7 : decode cX10_least 7 = .ok (.ldc2_w 224, 3) := by decide +kernel
theorem dX10_least_10 : decode cX10_least 10 = .ok (.lreturn, 1) := by decide +kernel
theorem dX10_least_11 : decode cX10_least 11 = .ok (.aload_n 0, 1) := by decide +kernel
theorem dX10_least_12 : decode cX10_least 12 = .ok (.getfield 62, 3) := by decide +kernel
theorem dX10_least_15 : decode cX10_least 15 = .ok (.invokevirtual 218, 3) := by decide +kernel
theorem dX10_least_18 : decode cX10_least 18 = .ok (.aload_n 0, 1) := by decide +kernel
theorem dX10_least_19 : decode cX10_least 19 = .ok (.getfield 62, 3) := by decide +kernel
theorem dX10_least_22 : decode cX10_least 22 = .ok (.invokevirtual 226, 3) := by decide +kernel
theorem dX10_least_25 : decode cX10_least 25 = .ok (.lreturn, 1) := by decide +kernel
theorem dX10_setForm_0 : decode cX10_setForm 0 = .ok (.aload_n 0, 1) := by decide +kernel
theorem dX10_setForm_1 : decode cX10_setForm 1 = .ok (.invokevirtual 185, 3) := by decide +kernel
theorem dX10_setForm_4 : decode cX10_setForm 4 = .ok (.lstore_n 1, 1) := by decide +kernel
theorem dX10_setForm_5 : decode cX10_setForm 5 = .ok (.lload_n 1, 1) := by decide +kernel
theorem dX10_setForm_6 : decode cX10_setForm 6 = .ok (.ldc2_w 229, 3) := by decide +kernel
theorem dX10_setForm_9 : decode cX10_setForm 9 = .ok (.lcmp, 1) := by decide +kernel
theorem dX10_setForm_10 : decode cX10_setForm 10 = .ok (.ifCond .le 5, 3) := by decide +kernel
theorem dX10_setForm_13 : decode cX10_setForm 13 = .ok (.iconst 0, 1) := by decide +kernel
theorem dX10_setForm_14 : decode cX10_setForm 14 = .ok (.ireturn, 1) := by decide +kernel
theorem dX10_setForm_15 : decode cX10_setForm 15 = .ok (.aload_n 0, 1) := by decide +kernel
theorem dX10_setForm_16 : decode cX10_setForm 16 = .ok (.getfield 62, 3) := by decide +kernel
theorem dX10_setForm_19 : decode cX10_setForm 19 = .ok (.lload_n 1, 1) := by decide +kernel
theorem dX10_setForm_20 : decode cX10_setForm 20 = .ok (.aload_n 0, 1) := by decide +kernel
theorem dX10_setForm_21 : decode cX10_setForm 21 = .ok (.getfield 55, 3) := by decide +kernel
theorem dX10_setForm_24 : decode cX10_setForm 24 = .ok (.iconst 1, 1) := by decide +kernel
theorem dX10_setForm_25 : decode cX10_setForm 25 = .ok (.iconst 1, 1) := by decide +kernel
theorem dX10_setForm_26 : decode cX10_setForm 26 = .ok (.invokevirtual 199, 3) := by decide +kernel
theorem dX10_setForm_29 : decode cX10_setForm 29 = .ok (.invokevirtual 231, 3) := by decide +kernel
theorem dX10_setForm_32 : decode cX10_setForm 32 = .ok (.iconst 1, 1) := by decide +kernel
theorem dX10_setForm_33 : decode cX10_setForm 33 = .ok (.ireturn, 1) := by decide +kernel
theorem dX10_fitsValue_0 : decode cX10_fitsValue 0 = .ok (.iload_n 0, 1) := by decide +kernel
theorem dX10_fitsValue_1 : decode cX10_fitsValue 1 = .ok (.sipush (-999), 3) := by decide +kernel
theorem dX10_fitsValue_4 : decode cX10_fitsValue 4 = .ok (.if_icmp .lt 14, 3) := by decide +kernel
theorem dX10_fitsValue_7 : decode cX10_fitsValue 7 = .ok (.iload_n 0, 1) := by decide +kernel
theorem dX10_fitsValue_8 : decode cX10_fitsValue 8 = .ok (.sipush 999, 3) := by decide +kernel
theorem dX10_fitsValue_11 : decode cX10_fitsValue 11 = .ok (.if_icmp .gt 7, 3) := by decide +kernel
theorem dX10_fitsValue_14 : decode cX10_fitsValue 14 = .ok (.iconst 1, 1) := by decide +kernel
theorem dX10_fitsValue_15 : decode cX10_fitsValue 15 = .ok (.goto 4, 3) := by decide +kernel
theorem dX10_fitsValue_18 : decode cX10_fitsValue 18 = .ok (.iconst 0, 1) := by decide +kernel
theorem dX10_fitsValue_19 : decode cX10_fitsValue 19 = .ok (.ireturn, 1) := by decide +kernel
theorem dX10_upTo_0 : decode cX10_upTo 0 = .ok (.lload_n 1, 1) := by decide +kernel
theorem dX10_upTo_1 : decode cX10_upTo 1 = .ok (.lconst 1, 1) := by decide +kernel
theorem dX10_upTo_2 : decode cX10_upTo 2 = .ok (.lcmp, 1) := by decide +kernel
theorem dX10_upTo_3 : decode cX10_upTo 3 = .ok (.ifCond .lt 11, 3) := by decide +kernel
theorem dX10_upTo_6 : decode cX10_upTo 6 = .ok (.lload_n 1, 1) := by decide +kernel
theorem dX10_upTo_7 : decode cX10_upTo 7 = .ok (.ldc2_w 235, 3) := by decide +kernel
theorem dX10_upTo_10 : decode cX10_upTo 10 = .ok (.lcmp, 1) := by decide +kernel
theorem dX10_upTo_11 : decode cX10_upTo 11 = .ok (.ifCond .le 7, 3) := by decide +kernel
theorem dX10_upTo_14 : decode cX10_upTo 14 = .ok (.iconst (-1), 1) := by decide +kernel
theorem dX10_upTo_15 : decode cX10_upTo 15 = .ok (.goto 11, 3) := by decide +kernel
theorem dX10_upTo_18 : decode cX10_upTo 18 = .ok (.aload_n 0, 1) := by decide +kernel
theorem dX10_upTo_19 : decode cX10_upTo 19 = .ok (.getfield 69, 3) := by decide +kernel
theorem dX10_upTo_22 : decode cX10_upTo 22 = .ok (.lload_n 1, 1) := by decide +kernel
theorem dX10_upTo_23 : decode cX10_upTo 23 = .ok (.invokevirtual 237, 3) := by decide +kernel
theorem dX10_upTo_26 : decode cX10_upTo 26 = .ok (.ireturn, 1) := by decide +kernel
theorem dX10_markov_0 : decode cX10_markov 0 = .ok (.aload_n 0, 1) := by decide +kernel
theorem dX10_markov_1 : decode cX10_markov 1 = .ok (.getfield 69, 3) := by decide +kernel
theorem dX10_markov_4 : decode cX10_markov 4 = .ok (.iload_n 1, 1) := by decide +kernel
theorem dX10_markov_5 : decode cX10_markov 5 = .ok (.invokevirtual 241, 3) := by decide +kernel
theorem dX10_markov_8 : decode cX10_markov 8 = .ok (.lreturn, 1) := by decide +kernel
theorem dX10_rank_0 : decode cX10_rank 0 = .ok (.aload_n 0, 1) := by decide +kernel
theorem dX10_rank_1 : decode cX10_rank 1 = .ok (.getfield 69, 3) := by decide +kernel
theorem dX10_rank_4 : decode cX10_rank 4 = .ok (.lload_n 1, 1) := by decide +kernel
theorem dX10_rank_5 : decode cX10_rank 5 = .ok (.invokevirtual 244, 3) := by decide +kernel
theorem dX10_rank_8 : decode cX10_rank 8 = .ok (.ireturn, 1) := by decide +kernel
theorem dX10_triples_0 : decode cX10_triples 0 = .ok (.aload_n 0, 1) := by decide +kernel
theorem dX10_triples_1 : decode cX10_triples 1 = .ok (.getfield 69, 3) := by decide +kernel
theorem dX10_triples_4 : decode cX10_triples 4 = .ok (.lload_n 1, 1) := by decide +kernel
theorem dX10_triples_5 : decode cX10_triples 5 = .ok (.invokevirtual 247, 3) := by decide +kernel
theorem dX10_triples_8 : decode cX10_triples 8 = .ok (.istore_n 3, 1) := by decide +kernel
theorem dX10_triples_9 : decode cX10_triples 9 = .ok (.iload_n 3, 1) := by decide +kernel
theorem dX10_triples_10 : decode cX10_triples 10 = .ok (.ifCond .ne 7, 3) := by decide +kernel
theorem dX10_triples_13 : decode cX10_triples 13 = .ok (.iconst (-1), 1) := by decide +kernel
theorem dX10_triples_14 : decode cX10_triples 14 = .ok (.goto 4, 3) := by decide +kernel
theorem dX10_triples_17 : decode cX10_triples 17 = .ok (.iload_n 3, 1) := by decide +kernel
theorem dX10_triples_18 : decode cX10_triples 18 = .ok (.ireturn, 1) := by decide +kernel
theorem dX10_with_0 : decode cX10_with 0 = .ok (.aload_n 0, 1) := by decide +kernel
theorem dX10_with_1 : decode cX10_with 1 = .ok (.getfield 69, 3) := by decide +kernel
theorem dX10_with_4 : decode cX10_with 4 = .ok (.lload_n 1, 1) := by decide +kernel
theorem dX10_with_5 : decode cX10_with 5 = .ok (.invokevirtual 250, 3) := by decide +kernel
theorem dX10_with_8 : decode cX10_with 8 = .ok (.istore 4, 2) := by decide +kernel
theorem dX10_with_10 : decode cX10_with 10 = .ok (.iload_n 3, 1) := by decide +kernel
theorem dX10_with_11 : decode cX10_with 11 = .ok (.tableswitch 56 0 2 #[25, 35, 45], 25) := by decide +kernel
theorem dX10_with_36 : decode cX10_with 36 = .ok (.aload_n 0, 1) := by decide +kernel
theorem dX10_with_37 : decode cX10_with 37 = .ok (.getfield 69, 3) := by decide +kernel
theorem dX10_with_40 : decode cX10_with 40 = .ok (.iload 4, 2) := by decide +kernel
theorem dX10_with_42 : decode cX10_with 42 = .ok (.invokevirtual 253, 3) := by decide +kernel
theorem dX10_with_45 : decode cX10_with 45 = .ok (.lreturn, 1) := by decide +kernel
theorem dX10_with_46 : decode cX10_with 46 = .ok (.aload_n 0, 1) := by decide +kernel
theorem dX10_with_47 : decode cX10_with 47 = .ok (.getfield 69, 3) := by decide +kernel
theorem dX10_with_50 : decode cX10_with 50 = .ok (.iload 4, 2) := by decide +kernel
theorem dX10_with_52 : decode cX10_with 52 = .ok (.invokevirtual 256, 3) := by decide +kernel
theorem dX10_with_55 : decode cX10_with 55 = .ok (.lreturn, 1) := by decide +kernel
theorem dX10_with_56 : decode cX10_with 56 = .ok (.aload_n 0, 1) := by decide +kernel
theorem dX10_with_57 : decode cX10_with 57 = .ok (.getfield 69, 3) := by decide +kernel
theorem dX10_with_60 : decode cX10_with 60 = .ok (.iload 4, 2) := by decide +kernel
theorem dX10_with_62 : decode cX10_with 62 = .ok (.invokevirtual 259, 3) := by decide +kernel
theorem dX10_with_65 : decode cX10_with 65 = .ok (.i2l, 1) := by decide +kernel
theorem dX10_with_66 : decode cX10_with 66 = .ok (.lreturn, 1) := by decide +kernel
theorem dX10_with_67 : decode cX10_with 67 = .ok (.ldc2_w 224, 3) := by decide +kernel
theorem dX10_with_70 : decode cX10_with 70 = .ok (.lreturn, 1) := by decide +kernel
theorem dX10_spread_0 : decode cX10_spread 0 = .ok (.aload_n 0, 1) := by decide +kernel
theorem dX10_spread_1 : decode cX10_spread 1 = .ok (.invokevirtual 185, 3) := by decide +kernel
theorem dX10_spread_4 : decode cX10_spread 4 = .ok (.l2f, 1) := by decide +kernel
theorem dX10_spread_5 : decode cX10_spread 5 = .ok (.fstore_n 1, 1) := by decide +kernel
theorem dX10_spread_6 : decode cX10_spread 6 = .ok (.ldc_w 263, 3) := by decide +kernel
theorem dX10_spread_9 : decode cX10_spread 9 = .ok (.ldc_w 264, 3) := by decide +kernel
theorem dX10_spread_12 : decode cX10_spread 12 = .ok (.fload_n 1, 1) := by decide +kernel
theorem dX10_spread_13 : decode cX10_spread 13 = .ok (.fload_n 1, 1) := by decide +kernel
theorem dX10_spread_14 : decode cX10_spread 14 = .ok (.fmul, 1) := by decide +kernel
theorem dX10_spread_15 : decode cX10_spread 15 = .ok (.fdiv, 1) := by decide +kernel
theorem dX10_spread_16 : decode cX10_spread 16 = .ok (.fsub, 1) := by decide +kernel
theorem dX10_spread_17 : decode cX10_spread 17 = .ok (.invokestatic 265, 3) := by decide +kernel
theorem dX10_spread_20 : decode cX10_spread 20 = .ok (.ireturn, 1) := by decide +kernel
theorem dX10_bitsFromEight_0 : decode cX10_bitsFromEight 0 = .ok (.ldc_w 269, 3) := by decide +kernel
theorem dX10_bitsFromEight_3 : decode cX10_bitsFromEight 3 = .ok (.fload_n 0, 1) := by decide +kernel
theorem dX10_bitsFromEight_4 : decode cX10_bitsFromEight 4 = .ok (.ldc_w 270, 3) := by decide +kernel
theorem dX10_bitsFromEight_7 : decode cX10_bitsFromEight 7 = .ok (.fsub, 1) := by decide +kernel
theorem dX10_bitsFromEight_8 : decode cX10_bitsFromEight 8 = .ok (.ldc_w 271, 3) := by decide +kernel
theorem dX10_bitsFromEight_11 : decode cX10_bitsFromEight 11 = .ok (.fmul, 1) := by decide +kernel
theorem dX10_bitsFromEight_12 : decode cX10_bitsFromEight 12 = .ok (.f2i, 1) := by decide +kernel
theorem dX10_bitsFromEight_13 : decode cX10_bitsFromEight 13 = .ok (.iadd, 1) := by decide +kernel
theorem dX10_bitsFromEight_14 : decode cX10_bitsFromEight 14 = .ok (.ireturn, 1) := by decide +kernel
theorem dX10_mark_0 : decode cX10_mark 0 = .ok (.aload_n 0, 1) := by decide +kernel
theorem dX10_mark_1 : decode cX10_mark 1 = .ok (.getfield 26, 3) := by decide +kernel
theorem dX10_mark_4 : decode cX10_mark 4 = .ok (.invokevirtual 272, 3) := by decide +kernel
theorem dX10_mark_7 : decode cX10_mark 7 = .ok (.ifCond .eq 5, 3) := by decide +kernel
theorem dX10_mark_10 : decode cX10_mark 10 = .ok (.iconst 1, 1) := by decide +kernel
theorem dX10_mark_11 : decode cX10_mark 11 = .ok (.ireturn, 1) := by decide +kernel
theorem dX10_mark_12 : decode cX10_mark 12 = .ok (.aload_n 0, 1) := by decide +kernel
theorem dX10_mark_13 : decode cX10_mark 13 = .ok (.getfield 33, 3) := by decide +kernel
theorem dX10_mark_16 : decode cX10_mark 16 = .ok (.aload_n 0, 1) := by decide +kernel
theorem dX10_mark_17 : decode cX10_mark 17 = .ok (.getfield 26, 3) := by decide +kernel
theorem dX10_mark_20 : decode cX10_mark 20 = .ok (.invokevirtual 99, 3) := by decide +kernel
theorem dX10_mark_23 : decode cX10_mark 23 = .ok (.aload_n 0, 1) := by decide +kernel
theorem dX10_mark_24 : decode cX10_mark 24 = .ok (.invokevirtual 275, 3) := by decide +kernel
theorem dX10_mark_27 : decode cX10_mark 27 = .ok (.ifCond .ne 5, 3) := by decide +kernel
theorem dX10_mark_30 : decode cX10_mark 30 = .ok (.iconst (-1), 1) := by decide +kernel
theorem dX10_mark_31 : decode cX10_mark 31 = .ok (.ireturn, 1) := by decide +kernel
theorem dX10_mark_32 : decode cX10_mark 32 = .ok (.aload_n 0, 1) := by decide +kernel
theorem dX10_mark_33 : decode cX10_mark 33 = .ok (.getfield 33, 3) := by decide +kernel
theorem dX10_mark_36 : decode cX10_mark 36 = .ok (.invokevirtual 111, 3) := by decide +kernel
theorem dX10_mark_39 : decode cX10_mark 39 = .ok (.iconst 0, 1) := by decide +kernel
theorem dX10_mark_40 : decode cX10_mark 40 = .ok (.ireturn, 1) := by decide +kernel
theorem dX10_unmark_0 : decode cX10_unmark 0 = .ok (.aload_n 0, 1) := by decide +kernel
theorem dX10_unmark_1 : decode cX10_unmark 1 = .ok (.getfield 26, 3) := by decide +kernel
theorem dX10_unmark_4 : decode cX10_unmark 4 = .ok (.invokevirtual 137, 3) := by decide +kernel
theorem dX10_unmark_7 : decode cX10_unmark 7 = .ok (.aload_n 0, 1) := by decide +kernel
theorem dX10_unmark_8 : decode cX10_unmark 8 = .ok (.getfield 26, 3) := by decide +kernel
theorem dX10_unmark_11 : decode cX10_unmark 11 = .ok (.invokevirtual 103, 3) := by decide +kernel
theorem dX10_unmark_14 : decode cX10_unmark 14 = .ok (.invokevirtual 114, 3) := by decide +kernel
theorem dX10_unmark_17 : decode cX10_unmark 17 = .ok (.aload_n 0, 1) := by decide +kernel
theorem dX10_unmark_18 : decode cX10_unmark 18 = .ok (.getfield 26, 3) := by decide +kernel
theorem dX10_unmark_21 : decode cX10_unmark 21 = .ok (.invokevirtual 103, 3) := by decide +kernel
theorem dX10_unmark_24 : decode cX10_unmark 24 = .ok (.invokevirtual 119, 3) := by decide +kernel
theorem dX10_unmark_27 : decode cX10_unmark 27 = .ok (.invokevirtual 278, 3) := by decide +kernel
theorem dX10_unmark_30 : decode cX10_unmark 30 = .ok (.istore_n 1, 1) := by decide +kernel
theorem dX10_unmark_31 : decode cX10_unmark 31 = .ok (.iload_n 1, 1) := by decide +kernel
theorem dX10_unmark_32 : decode cX10_unmark 32 = .ok (.iconst (-1), 1) := by decide +kernel
theorem dX10_unmark_33 : decode cX10_unmark 33 = .ok (.if_icmp .ne 5, 3) := by decide +kernel
theorem dX10_unmark_36 : decode cX10_unmark 36 = .ok (.iconst 1, 1) := by decide +kernel
theorem dX10_unmark_37 : decode cX10_unmark 37 = .ok (.ireturn, 1) := by decide +kernel
theorem dX10_unmark_38 : decode cX10_unmark 38 = .ok (.aload_n 0, 1) := by decide +kernel
theorem dX10_unmark_39 : decode cX10_unmark 39 = .ok (.getfield 33, 3) := by decide +kernel
theorem dX10_unmark_42 : decode cX10_unmark 42 = .ok (.aload_n 0, 1) := by decide +kernel
theorem dX10_unmark_43 : decode cX10_unmark 43 = .ok (.getfield 26, 3) := by decide +kernel
theorem dX10_unmark_46 : decode cX10_unmark 46 = .ok (.invokevirtual 99, 3) := by decide +kernel
theorem dX10_unmark_49 : decode cX10_unmark 49 = .ok (.aload_n 0, 1) := by decide +kernel
theorem dX10_unmark_50 : decode cX10_unmark 50 = .ok (.getfield 26, 3) := by decide +kernel
theorem dX10_unmark_53 : decode cX10_unmark 53 = .ok (.invokevirtual 137, 3) := by decide +kernel
theorem dX10_unmark_56 : decode cX10_unmark 56 = .ok (.iload_n 1, 1) := by decide +kernel
theorem dX10_unmark_57 : decode cX10_unmark 57 = .ok (.invokevirtual 281, 3) := by decide +kernel
theorem dX10_unmark_60 : decode cX10_unmark 60 = .ok (.aload_n 0, 1) := by decide +kernel
theorem dX10_unmark_61 : decode cX10_unmark 61 = .ok (.getfield 33, 3) := by decide +kernel
theorem dX10_unmark_64 : decode cX10_unmark 64 = .ok (.invokevirtual 111, 3) := by decide +kernel
theorem dX10_unmark_67 : decode cX10_unmark 67 = .ok (.iconst 0, 1) := by decide +kernel
theorem dX10_unmark_68 : decode cX10_unmark 68 = .ok (.ireturn, 1) := by decide +kernel
theorem dX10_marked_0 : decode cX10_marked 0 = .ok (.aload_n 0, 1) := by decide +kernel
theorem dX10_marked_1 : decode cX10_marked 1 = .ok (.getfield 26, 3) := by decide +kernel
theorem dX10_marked_4 : decode cX10_marked 4 = .ok (.invokevirtual 137, 3) := by decide +kernel
theorem dX10_marked_7 : decode cX10_marked 7 = .ok (.astore_n 3, 1) := by decide +kernel
theorem dX10_marked_8 : decode cX10_marked 8 = .ok (.iload_n 2, 1) := by decide +kernel
theorem dX10_marked_9 : decode cX10_marked 9 = .ok (.tableswitch 47 0 2 #[27, 33, 40], 27) := by decide +kernel
theorem dX10_marked_36 : decode cX10_marked 36 = .ok (.aload_n 3, 1) := by decide +kernel
theorem dX10_marked_37 : decode cX10_marked 37 = .ok (.iload_n 1, 1) := by decide +kernel
theorem dX10_marked_38 : decode cX10_marked 38 = .ok (.invokevirtual 284, 3) := by decide +kernel
theorem dX10_marked_41 : decode cX10_marked 41 = .ok (.lreturn, 1) := by decide +kernel
theorem dX10_marked_42 : decode cX10_marked 42 = .ok (.aload_n 3, 1) := by decide +kernel
theorem dX10_marked_43 : decode cX10_marked 43 = .ok (.iload_n 1, 1) := by decide +kernel
theorem dX10_marked_44 : decode cX10_marked 44 = .ok (.invokevirtual 285, 3) := by decide +kernel
theorem dX10_marked_47 : decode cX10_marked 47 = .ok (.i2l, 1) := by decide +kernel
theorem dX10_marked_48 : decode cX10_marked 48 = .ok (.lreturn, 1) := by decide +kernel
theorem dX10_marked_49 : decode cX10_marked 49 = .ok (.aload_n 3, 1) := by decide +kernel
theorem dX10_marked_50 : decode cX10_marked 50 = .ok (.iload_n 1, 1) := by decide +kernel
theorem dX10_marked_51 : decode cX10_marked 51 = .ok (.invokevirtual 288, 3) := by decide +kernel
theorem dX10_marked_54 : decode cX10_marked 54 = .ok (.i2l, 1) := by decide +kernel
theorem dX10_marked_55 : decode cX10_marked 55 = .ok (.lreturn, 1) := by decide +kernel
theorem dX10_marked_56 : decode cX10_marked 56 = .ok (.ldc2_w 224, 3) := by decide +kernel
theorem dX10_marked_59 : decode cX10_marked 59 = .ok (.lreturn, 1) := by decide +kernel
theorem dX10_near_0 : decode cX10_near 0 = .ok (.iload_n 3, 1) := by decide +kernel
theorem dX10_near_1 : decode cX10_near 1 = .ok (.ifCond .eq 17, 3) := by decide +kernel
theorem dX10_near_4 : decode cX10_near 4 = .ok (.aload_n 0, 1) := by decide +kernel
theorem dX10_near_5 : decode cX10_near 5 = .ok (.getfield 26, 3) := by decide +kernel
theorem dX10_near_8 : decode cX10_near 8 = .ok (.invokevirtual 137, 3) := by decide +kernel
theorem dX10_near_11 : decode cX10_near 11 = .ok (.lload_n 1, 1) := by decide +kernel
theorem dX10_near_12 : decode cX10_near 12 = .ok (.invokevirtual 291, 3) := by decide +kernel
theorem dX10_near_15 : decode cX10_near 15 = .ok (.goto 14, 3) := by decide +kernel
theorem dX10_near_18 : decode cX10_near 18 = .ok (.aload_n 0, 1) := by decide +kernel
theorem dX10_near_19 : decode cX10_near 19 = .ok (.getfield 26, 3) := by decide +kernel
theorem dX10_near_22 : decode cX10_near 22 = .ok (.invokevirtual 137, 3) := by decide +kernel
theorem dX10_near_25 : decode cX10_near 25 = .ok (.lload_n 1, 1) := by decide +kernel
theorem dX10_near_26 : decode cX10_near 26 = .ok (.invokevirtual 295, 3) := by decide +kernel
theorem dX10_near_29 : decode cX10_near 29 = .ok (.lreturn, 1) := by decide +kernel
theorem dX10_jump_0 : decode cX10_jump 0 = .ok (.aload_n 0, 1) := by decide +kernel
theorem dX10_jump_1 : decode cX10_jump 1 = .ok (.getfield 26, 3) := by decide +kernel
theorem dX10_jump_4 : decode cX10_jump 4 = .ok (.invokevirtual 137, 3) := by decide +kernel
theorem dX10_jump_7 : decode cX10_jump 7 = .ok (.astore_n 2, 1) := by decide +kernel
theorem dX10_jump_8 : decode cX10_jump 8 = .ok (.aload_n 2, 1) := by decide +kernel
theorem dX10_jump_9 : decode cX10_jump 9 = .ok (.iload_n 1, 1) := by decide +kernel
theorem dX10_jump_10 : decode cX10_jump 10 = .ok (.invokevirtual 298, 3) := by decide +kernel
theorem dX10_jump_13 : decode cX10_jump 13 = .ok (.ifCond .eq 20, 3) := by decide +kernel
theorem dX10_jump_16 : decode cX10_jump 16 = .ok (.aload_n 0, 1) := by decide +kernel
theorem dX10_jump_17 : decode cX10_jump 17 = .ok (.aload_n 2, 1) := by decide +kernel
theorem dX10_jump_18 : decode cX10_jump 18 = .ok (.iload_n 1, 1) := by decide +kernel
theorem dX10_jump_19 : decode cX10_jump 19 = .ok (.invokevirtual 285, 3) := by decide +kernel
theorem dX10_jump_22 : decode cX10_jump 22 = .ok (.aload_n 2, 1) := by decide +kernel
theorem dX10_jump_23 : decode cX10_jump 23 = .ok (.iload_n 1, 1) := by decide +kernel
theorem dX10_jump_24 : decode cX10_jump 24 = .ok (.invokevirtual 288, 3) := by decide +kernel
theorem dX10_jump_27 : decode cX10_jump 27 = .ok (.invokevirtual 164, 3) := by decide +kernel
theorem dX10_jump_30 : decode cX10_jump 30 = .ok (.goto 4, 3) := by decide +kernel
theorem dX10_jump_33 : decode cX10_jump 33 = .ok (.iconst (-1), 1) := by decide +kernel
theorem dX10_jump_34 : decode cX10_jump 34 = .ok (.ireturn, 1) := by decide +kernel
theorem dX10_markHere_0 : decode cX10_markHere 0 = .ok (.aload_n 0, 1) := by decide +kernel
theorem dX10_markHere_1 : decode cX10_markHere 1 = .ok (.getfield 26, 3) := by decide +kernel
theorem dX10_markHere_4 : decode cX10_markHere 4 = .ok (.invokevirtual 272, 3) := by decide +kernel
theorem dX10_markHere_7 : decode cX10_markHere 7 = .ok (.ifCond .ne 16, 3) := by decide +kernel
theorem dX10_markHere_10 : decode cX10_markHere 10 = .ok (.aload_n 0, 1) := by decide +kernel
theorem dX10_markHere_11 : decode cX10_markHere 11 = .ok (.getfield 26, 3) := by decide +kernel
theorem dX10_markHere_14 : decode cX10_markHere 14 = .ok (.invokevirtual 137, 3) := by decide +kernel
theorem dX10_markHere_17 : decode cX10_markHere 17 = .ok (.invokevirtual 301, 3) := by decide +kernel
theorem dX10_markHere_20 : decode cX10_markHere 20 = .ok (.ifCond .eq 5, 3) := by decide +kernel
theorem dX10_markHere_23 : decode cX10_markHere 23 = .ok (.iconst 0, 1) := by decide +kernel
theorem dX10_markHere_24 : decode cX10_markHere 24 = .ok (.ireturn, 1) := by decide +kernel
theorem dX10_markHere_25 : decode cX10_markHere 25 = .ok (.aload_n 0, 1) := by decide +kernel
theorem dX10_markHere_26 : decode cX10_markHere 26 = .ok (.getfield 26, 3) := by decide +kernel
theorem dX10_markHere_29 : decode cX10_markHere 29 = .ok (.invokevirtual 103, 3) := by decide +kernel
theorem dX10_markHere_32 : decode cX10_markHere 32 = .ok (.astore_n 1, 1) := by decide +kernel
theorem dX10_markHere_33 : decode cX10_markHere 33 = .ok (.aload_n 0, 1) := by decide +kernel
theorem dX10_markHere_34 : decode cX10_markHere 34 = .ok (.getfield 26, 3) := by decide +kernel
theorem dX10_markHere_37 : decode cX10_markHere 37 = .ok (.invokevirtual 137, 3) := by decide +kernel
theorem dX10_markHere_40 : decode cX10_markHere 40 = .ok (.aload_n 0, 1) := by decide +kernel
theorem dX10_markHere_41 : decode cX10_markHere 41 = .ok (.invokevirtual 185, 3) := by decide +kernel
theorem dX10_markHere_44 : decode cX10_markHere 44 = .ok (.aload_n 1, 1) := by decide +kernel
theorem dX10_markHere_45 : decode cX10_markHere 45 = .ok (.invokevirtual 114, 3) := by decide +kernel
theorem dX10_markHere_48 : decode cX10_markHere 48 = .ok (.aload_n 1, 1) := by decide +kernel
theorem dX10_markHere_49 : decode cX10_markHere 49 = .ok (.invokevirtual 119, 3) := by decide +kernel
theorem dX10_markHere_52 : decode cX10_markHere 52 = .ok (.invokevirtual 304, 3) := by decide +kernel
theorem dX10_markHere_55 : decode cX10_markHere 55 = .ok (.iconst 1, 1) := by decide +kernel
theorem dX10_markHere_56 : decode cX10_markHere 56 = .ok (.ireturn, 1) := by decide +kernel
theorem dX10_told_0 : decode cX10_told 0 = .ok (.aload_n 0, 1) := by decide +kernel
theorem dX10_told_1 : decode cX10_told 1 = .ok (.getfield 48, 3) := by decide +kernel
theorem dX10_told_4 : decode cX10_told 4 = .ok (.aload_n 0, 1) := by decide +kernel
theorem dX10_told_5 : decode cX10_told 5 = .ok (.getfield 26, 3) := by decide +kernel
theorem dX10_told_8 : decode cX10_told 8 = .ok (.invokevirtual 103, 3) := by decide +kernel
theorem dX10_told_11 : decode cX10_told 11 = .ok (.invokevirtual 114, 3) := by decide +kernel
theorem dX10_told_14 : decode cX10_told 14 = .ok (.aload_n 0, 1) := by decide +kernel
theorem dX10_told_15 : decode cX10_told 15 = .ok (.getfield 26, 3) := by decide +kernel
theorem dX10_told_18 : decode cX10_told 18 = .ok (.invokevirtual 103, 3) := by decide +kernel
theorem dX10_told_21 : decode cX10_told 21 = .ok (.invokevirtual 119, 3) := by decide +kernel
theorem dX10_told_24 : decode cX10_told 24 = .ok (.invokevirtual 308, 3) := by decide +kernel
theorem dX10_told_27 : decode cX10_told 27 = .ok (.ireturn, 1) := by decide +kernel
theorem dX10_byteAt_0 : decode cX10_byteAt 0 = .ok (.aload_n 0, 1) := by decide +kernel
theorem dX10_byteAt_1 : decode cX10_byteAt 1 = .ok (.getfield 48, 3) := by decide +kernel
theorem dX10_byteAt_4 : decode cX10_byteAt 4 = .ok (.iload_n 1, 1) := by decide +kernel
theorem dX10_byteAt_5 : decode cX10_byteAt 5 = .ok (.invokevirtual 311, 3) := by decide +kernel
theorem dX10_byteAt_8 : decode cX10_byteAt 8 = .ok (.ireturn, 1) := by decide +kernel
theorem dX10_drawn_0 : decode cX10_drawn 0 = .ok (.iload_n 1, 1) := by decide +kernel
theorem dX10_drawn_1 : decode cX10_drawn 1 = .ok (.iconst 1, 1) := by decide +kernel
theorem dX10_drawn_2 : decode cX10_drawn 2 = .ok (.if_icmp .lt 9, 3) := by decide +kernel
theorem dX10_drawn_5 : decode cX10_drawn 5 = .ok (.iload_n 1, 1) := by decide +kernel
theorem dX10_drawn_6 : decode cX10_drawn 6 = .ok (.bipush 60, 2) := by decide +kernel
theorem dX10_drawn_8 : decode cX10_drawn 8 = .ok (.if_icmp .le 5, 3) := by decide +kernel
theorem dX10_drawn_11 : decode cX10_drawn 11 = .ok (.iconst (-1), 1) := by decide +kernel
theorem dX10_drawn_12 : decode cX10_drawn 12 = .ok (.ireturn, 1) := by decide +kernel
theorem dX10_drawn_13 : decode cX10_drawn 13 = .ok (.aload_n 0, 1) := by decide +kernel
theorem dX10_drawn_14 : decode cX10_drawn 14 = .ok (.getfield 33, 3) := by decide +kernel
theorem dX10_drawn_17 : decode cX10_drawn 17 = .ok (.aload_n 0, 1) := by decide +kernel
theorem dX10_drawn_18 : decode cX10_drawn 18 = .ok (.getfield 26, 3) := by decide +kernel
theorem dX10_drawn_21 : decode cX10_drawn 21 = .ok (.invokevirtual 99, 3) := by decide +kernel
theorem dX10_drawn_24 : decode cX10_drawn 24 = .ok (.iload_n 2, 1) := by decide +kernel
theorem dX10_drawn_25 : decode cX10_drawn 25 = .ok (.istore_n 3, 1) := by decide +kernel
theorem dX10_drawn_26 : decode cX10_drawn 26 = .ok (.iconst 0, 1) := by decide +kernel
theorem dX10_drawn_27 : decode cX10_drawn 27 = .ok (.istore 4, 2) := by decide +kernel
theorem dX10_drawn_29 : decode cX10_drawn 29 = .ok (.iconst 0, 1) := by decide +kernel
theorem dX10_drawn_30 : decode cX10_drawn 30 = .ok (.istore 5, 2) := by decide +kernel
theorem dX10_drawn_32 : decode cX10_drawn 32 = .ok (.iload 5, 2) := by decide +kernel
theorem dX10_drawn_34 : decode cX10_drawn 34 = .ok (.iload_n 1, 1) := by decide +kernel
theorem dX10_drawn_35 : decode cX10_drawn 35 = .ok (.if_icmp .ge 36, 3) := by decide +kernel
theorem dX10_drawn_38 : decode cX10_drawn 38 = .ok (.iload_n 3, 1) := by decide +kernel
theorem dX10_drawn_39 : decode cX10_drawn 39 = .ok (.ldc_w 314, 3) := by decide +kernel
theorem dX10_drawn_42 : decode cX10_drawn 42 = .ok (.imul, 1) := by decide +kernel
theorem dX10_drawn_43 : decode cX10_drawn 43 = .ok (.sipush 12345, 3) := by decide +kernel
theorem dX10_drawn_46 : decode cX10_drawn 46 = .ok (.iadd, 1) := by decide +kernel
theorem dX10_drawn_47 : decode cX10_drawn 47 = .ok (.istore_n 3, 1) := by decide +kernel
theorem dX10_drawn_48 : decode cX10_drawn 48 = .ok (.aload_n 0, 1) := by decide +kernel
theorem dX10_drawn_49 : decode cX10_drawn 49 = .ok (.iload_n 3, 1) := by decide +kernel
theorem dX10_drawn_50 : decode cX10_drawn 50 = .ok (.bipush 8, 2) := by decide +kernel
theorem dX10_drawn_52 : decode cX10_drawn 52 = .ok (.iushr, 1) := by decide +kernel
theorem dX10_drawn_53 : decode cX10_drawn 53 = .ok (.bipush 8, 2) := by decide +kernel
theorem dX10_drawn_55 : decode cX10_drawn 55 = .ok (.irem, 1) := by decide +kernel
theorem dX10_drawn_56 : decode cX10_drawn 56 = .ok (.invokevirtual 315, 3) := by decide +kernel
theorem dX10_drawn_59 : decode cX10_drawn 59 = .ok (.ifCond .eq 6, 3) := by decide +kernel
theorem dX10_drawn_62 : decode cX10_drawn 62 = .ok (.iinc 4 1, 3) := by decide +kernel
theorem dX10_drawn_65 : decode cX10_drawn 65 = .ok (.iinc 5 1, 3) := by decide +kernel
theorem dX10_drawn_68 : decode cX10_drawn 68 = .ok (.goto (-36), 3) := by decide +kernel
theorem dX10_drawn_71 : decode cX10_drawn 71 = .ok (.iload 4, 2) := by decide +kernel
theorem dX10_drawn_73 : decode cX10_drawn 73 = .ok (.ifCond .le 10, 3) := by decide +kernel
theorem dX10_drawn_76 : decode cX10_drawn 76 = .ok (.aload_n 0, 1) := by decide +kernel
theorem dX10_drawn_77 : decode cX10_drawn 77 = .ok (.getfield 33, 3) := by decide +kernel
theorem dX10_drawn_80 : decode cX10_drawn 80 = .ok (.invokevirtual 111, 3) := by decide +kernel
theorem dX10_drawn_83 : decode cX10_drawn 83 = .ok (.iload 4, 2) := by decide +kernel
theorem dX10_drawn_85 : decode cX10_drawn 85 = .ok (.ireturn, 1) := by decide +kernel
theorem dX10_doDrawn_0 : decode cX10_doDrawn 0 = .ok (.iload_n 1, 1) := by decide +kernel
theorem dX10_doDrawn_1 : decode cX10_doDrawn 1 = .ok (.ifCond .ne 14, 3) := by decide +kernel
theorem dX10_doDrawn_4 : decode cX10_doDrawn 4 = .ok (.aload_n 0, 1) := by decide +kernel
theorem dX10_doDrawn_5 : decode cX10_doDrawn 5 = .ok (.getfield 26, 3) := by decide +kernel
theorem dX10_doDrawn_8 : decode cX10_doDrawn 8 = .ok (.invokevirtual 103, 3) := by decide +kernel
theorem dX10_doDrawn_11 : decode cX10_doDrawn 11 = .ok (.invokevirtual 157, 3) := by decide +kernel
theorem dX10_doDrawn_14 : decode cX10_doDrawn 14 = .ok (.ireturn, 1) := by decide +kernel
theorem dX10_doDrawn_15 : decode cX10_doDrawn 15 = .ok (.iload_n 1, 1) := by decide +kernel
theorem dX10_doDrawn_16 : decode cX10_doDrawn 16 = .ok (.iconst 3, 1) := by decide +kernel
theorem dX10_doDrawn_17 : decode cX10_doDrawn 17 = .ok (.if_icmp .gt 14, 3) := by decide +kernel
theorem dX10_doDrawn_20 : decode cX10_doDrawn 20 = .ok (.aload_n 0, 1) := by decide +kernel
theorem dX10_doDrawn_21 : decode cX10_doDrawn 21 = .ok (.getfield 26, 3) := by decide +kernel
theorem dX10_doDrawn_24 : decode cX10_doDrawn 24 = .ok (.invokevirtual 103, 3) := by decide +kernel
theorem dX10_doDrawn_27 : decode cX10_doDrawn 27 = .ok (.invokevirtual 147, 3) := by decide +kernel
theorem dX10_doDrawn_30 : decode cX10_doDrawn 30 = .ok (.ireturn, 1) := by decide +kernel
theorem dX10_doDrawn_31 : decode cX10_doDrawn 31 = .ok (.iload_n 1, 1) := by decide +kernel
theorem dX10_doDrawn_32 : decode cX10_doDrawn 32 = .ok (.bipush 6, 2) := by decide +kernel
theorem dX10_doDrawn_34 : decode cX10_doDrawn 34 = .ok (.if_icmp .gt 16, 3) := by decide +kernel
theorem dX10_doDrawn_37 : decode cX10_doDrawn 37 = .ok (.aload_n 0, 1) := by decide +kernel
theorem dX10_doDrawn_38 : decode cX10_doDrawn 38 = .ok (.getfield 26, 3) := by decide +kernel
theorem dX10_doDrawn_41 : decode cX10_doDrawn 41 = .ok (.invokevirtual 103, 3) := by decide +kernel
theorem dX10_doDrawn_44 : decode cX10_doDrawn 44 = .ok (.invokevirtual 154, 3) := by decide +kernel
theorem dX10_doDrawn_47 : decode cX10_doDrawn 47 = .ok (.goto 7, 3) := by decide +kernel
theorem dX10_doDrawn_50 : decode cX10_doDrawn 50 = .ok (.aload_n 0, 1) := by decide +kernel
theorem dX10_doDrawn_51 : decode cX10_doDrawn 51 = .ok (.invokevirtual 275, 3) := by decide +kernel
theorem dX10_doDrawn_54 : decode cX10_doDrawn 54 = .ok (.ireturn, 1) := by decide +kernel
theorem dX10_undo_0 : decode cX10_undo 0 = .ok (.aload_n 0, 1) := by decide +kernel
theorem dX10_undo_1 : decode cX10_undo 1 = .ok (.getfield 33, 3) := by decide +kernel
theorem dX10_undo_4 : decode cX10_undo 4 = .ok (.aload_n 0, 1) := by decide +kernel
theorem dX10_undo_5 : decode cX10_undo 5 = .ok (.getfield 26, 3) := by decide +kernel
theorem dX10_undo_8 : decode cX10_undo 8 = .ok (.invokevirtual 318, 3) := by decide +kernel
theorem dX10_undo_11 : decode cX10_undo 11 = .ok (.ifCond .eq 13, 3) := by decide +kernel
theorem dX10_undo_14 : decode cX10_undo 14 = .ok (.aload_n 0, 1) := by decide +kernel
theorem dX10_undo_15 : decode cX10_undo 15 = .ok (.getfield 33, 3) := by decide +kernel
theorem dX10_undo_18 : decode cX10_undo 18 = .ok (.invokevirtual 146, 3) := by decide +kernel
theorem dX10_undo_21 : decode cX10_undo 21 = .ok (.goto 4, 3) := by decide +kernel
theorem dX10_undo_24 : decode cX10_undo 24 = .ok (.iconst (-1), 1) := by decide +kernel
theorem dX10_undo_25 : decode cX10_undo 25 = .ok (.ireturn, 1) := by decide +kernel
theorem dX10_image_0 : decode cX10_image 0 = .ok (.aload_n 0, 1) := by decide +kernel
theorem dX10_image_1 : decode cX10_image 1 = .ok (.iload_n 1, 1) := by decide +kernel
theorem dX10_image_2 : decode cX10_image 2 = .ok (.invokevirtual 322, 3) := by decide +kernel
theorem dX10_image_5 : decode cX10_image 5 = .ok (.astore_n 2, 1) := by decide +kernel
theorem dX10_image_6 : decode cX10_image 6 = .ok (.aload_n 2, 1) := by decide +kernel
theorem dX10_image_7 : decode cX10_image 7 = .ok (.ifnonnull 5, 3) := by decide +kernel
theorem dX10_image_10 : decode cX10_image 10 = .ok (.iconst 0, 1) := by decide +kernel
theorem dX10_image_11 : decode cX10_image 11 = .ok (.ireturn, 1) := by decide +kernel
theorem dX10_image_12 : decode cX10_image 12 = .ok (.aload_n 2, 1) := by decide +kernel
theorem dX10_image_13 : decode cX10_image 13 = .ok (.aload_n 0, 1) := by decide +kernel
theorem dX10_image_14 : decode cX10_image 14 = .ok (.getfield 26, 3) := by decide +kernel
theorem dX10_image_17 : decode cX10_image 17 = .ok (.invokevirtual 326, 3) := by decide +kernel
theorem dX10_image_20 : decode cX10_image 20 = .ok (.aload_n 0, 1) := by decide +kernel
theorem dX10_image_21 : decode cX10_image 21 = .ok (.getfield 41, 3) := by decide +kernel
theorem dX10_image_24 : decode cX10_image 24 = .ok (.iload_n 1, 1) := by decide +kernel
theorem dX10_image_25 : decode cX10_image 25 = .ok (.iconst 1, 1) := by decide +kernel
theorem dX10_image_26 : decode cX10_image 26 = .ok (.bastore, 1) := by decide +kernel
theorem dX10_image_27 : decode cX10_image 27 = .ok (.iconst 1, 1) := by decide +kernel
theorem dX10_image_28 : decode cX10_image 28 = .ok (.ireturn, 1) := by decide +kernel
theorem dX10_restore_0 : decode cX10_restore 0 = .ok (.aload_n 0, 1) := by decide +kernel
theorem dX10_restore_1 : decode cX10_restore 1 = .ok (.iload_n 1, 1) := by decide +kernel
theorem dX10_restore_2 : decode cX10_restore 2 = .ok (.invokevirtual 322, 3) := by decide +kernel
theorem dX10_restore_5 : decode cX10_restore 5 = .ok (.astore_n 2, 1) := by decide +kernel
theorem dX10_restore_6 : decode cX10_restore 6 = .ok (.aload_n 2, 1) := by decide +kernel
theorem dX10_restore_7 : decode cX10_restore 7 = .ok (.ifnull 12, 3) := by decide +kernel
theorem dX10_restore_10 : decode cX10_restore 10 = .ok (.aload_n 0, 1) := by decide +kernel
theorem dX10_restore_11 : decode cX10_restore 11 = .ok (.getfield 41, 3) := by decide +kernel
theorem dX10_restore_14 : decode cX10_restore 14 = .ok (.iload_n 1, 1) := by decide +kernel
theorem dX10_restore_15 : decode cX10_restore 15 = .ok (.baload, 1) := by decide +kernel
theorem dX10_restore_16 : decode cX10_restore 16 = .ok (.ifCond .ne 5, 3) := by decide +kernel
theorem dX10_restore_19 : decode cX10_restore 19 = .ok (.iconst 0, 1) := by decide +kernel
theorem dX10_restore_20 : decode cX10_restore 20 = .ok (.ireturn, 1) := by decide +kernel
theorem dX10_restore_21 : decode cX10_restore 21 = .ok (.aload_n 0, 1) := by decide +kernel
theorem dX10_restore_22 : decode cX10_restore 22 = .ok (.getfield 26, 3) := by decide +kernel
theorem dX10_restore_25 : decode cX10_restore 25 = .ok (.aload_n 2, 1) := by decide +kernel
theorem dX10_restore_26 : decode cX10_restore 26 = .ok (.invokevirtual 326, 3) := by decide +kernel
theorem dX10_restore_29 : decode cX10_restore 29 = .ok (.aload_n 0, 1) := by decide +kernel
theorem dX10_restore_30 : decode cX10_restore 30 = .ok (.getfield 33, 3) := by decide +kernel
theorem dX10_restore_33 : decode cX10_restore 33 = .ok (.invokevirtual 329, 3) := by decide +kernel
theorem dX10_restore_36 : decode cX10_restore 36 = .ok (.iconst 1, 1) := by decide +kernel
theorem dX10_restore_37 : decode cX10_restore 37 = .ok (.ireturn, 1) := by decide +kernel
theorem dX10_imageAt_0 : decode cX10_imageAt 0 = .ok (.iload_n 1, 1) := by decide +kernel
theorem dX10_imageAt_1 : decode cX10_imageAt 1 = .ok (.ifCond .lt 8, 3) := by decide +kernel
theorem dX10_imageAt_4 : decode cX10_imageAt 4 = .ok (.iload_n 1, 1) := by decide +kernel
theorem dX10_imageAt_5 : decode cX10_imageAt 5 = .ok (.iconst 2, 1) := by decide +kernel
theorem dX10_imageAt_6 : decode cX10_imageAt 6 = .ok (.if_icmp .lt 7, 3) := by decide +kernel
theorem dX10_imageAt_9 : decode cX10_imageAt 9 = .ok (.aconst_null, 1) := by decide +kernel
theorem dX10_imageAt_10 : decode cX10_imageAt 10 = .ok (.goto 9, 3) := by decide +kernel
theorem dX10_imageAt_13 : decode cX10_imageAt 13 = .ok (.aload_n 0, 1) := by decide +kernel
theorem dX10_imageAt_14 : decode cX10_imageAt 14 = .ok (.getfield 37, 3) := by decide +kernel
theorem dX10_imageAt_17 : decode cX10_imageAt 17 = .ok (.iload_n 1, 1) := by decide +kernel
theorem dX10_imageAt_18 : decode cX10_imageAt 18 = .ok (.aaload, 1) := by decide +kernel
theorem dX10_imageAt_19 : decode cX10_imageAt 19 = .ok (.areturn, 1) := by decide +kernel
