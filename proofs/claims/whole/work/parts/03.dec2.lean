theorem dX11_thrown_0 : decode cX11_thrown 0 = .ok (.aload_n 0, 1) := by decide +kernel
theorem dX11_thrown_1 : decode cX11_thrown 1 = .ok (.getfield 1, 3) := by decide +kernel
theorem dX11_thrown_4 : decode cX11_thrown 4 = .ok (.ireturn, 1) := by decide +kernel
theorem dX11_refuse_0 : decode cX11_refuse 0 = .ok (.aload_n 0, 1) := by decide +kernel
theorem dX11_refuse_1 : decode cX11_refuse 1 = .ok (.iconst 1, 1) := by decide +kernel
theorem dX11_refuse_2 : decode cX11_refuse 2 = .ok (.putfield 1, 3) := by decide +kernel
theorem dX11_refuse_5 : decode cX11_refuse 5 = .ok (.iconst 0, 1) := by decide +kernel
theorem dX11_refuse_6 : decode cX11_refuse 6 = .ok (.ireturn, 1) := by decide +kernel
theorem dX11_isIn_0 : decode cX11_isIn 0 = .ok (.lload_n 0, 1) := by decide +kernel
theorem dX11_isIn_1 : decode cX11_isIn 1 = .ok (.lload_n 2, 1) := by decide +kernel
theorem dX11_isIn_2 : decode cX11_isIn 2 = .ok (.lcmp, 1) := by decide +kernel
theorem dX11_isIn_3 : decode cX11_isIn 3 = .ok (.ifCond .lt 14, 3) := by decide +kernel
theorem dX11_isIn_6 : decode cX11_isIn 6 = .ok (.lload_n 0, 1) := by decide +kernel
theorem dX11_isIn_7 : decode cX11_isIn 7 = .ok (.lload 4, 2) := by decide +kernel
theorem dX11_isIn_9 : decode cX11_isIn 9 = .ok (.lcmp, 1) := by decide +kernel
theorem dX11_isIn_10 : decode cX11_isIn 10 = .ok (.ifCond .gt 7, 3) := by decide +kernel
theorem dX11_isIn_13 : decode cX11_isIn 13 = .ok (.iconst 1, 1) := by decide +kernel
theorem dX11_isIn_14 : decode cX11_isIn 14 = .ok (.goto 4, 3) := by decide +kernel
theorem dX11_isIn_17 : decode cX11_isIn 17 = .ok (.iconst 0, 1) := by decide +kernel
theorem dX11_isIn_18 : decode cX11_isIn 18 = .ok (.ireturn, 1) := by decide +kernel
theorem dX11_lay_0 : decode cX11_lay 0 = .ok (.bipush 24, 2) := by decide +kernel
theorem dX11_lay_2 : decode cX11_lay 2 = .ok (.istore_n 2, 1) := by decide +kernel
theorem dX11_lay_3 : decode cX11_lay 3 = .ok (.iload_n 2, 1) := by decide +kernel
theorem dX11_lay_4 : decode cX11_lay 4 = .ok (.ifCond .lt 35, 3) := by decide +kernel
theorem dX11_lay_7 : decode cX11_lay 7 = .ok (.aload_n 0, 1) := by decide +kernel
theorem dX11_lay_8 : decode cX11_lay 8 = .ok (.getfield 7, 3) := by decide +kernel
theorem dX11_lay_11 : decode cX11_lay 11 = .ok (.aload_n 0, 1) := by decide +kernel
theorem dX11_lay_12 : decode cX11_lay 12 = .ok (.getfield 11, 3) := by decide +kernel
theorem dX11_lay_15 : decode cX11_lay 15 = .ok (.iload_n 1, 1) := by decide +kernel
theorem dX11_lay_16 : decode cX11_lay 16 = .ok (.iload_n 2, 1) := by decide +kernel
theorem dX11_lay_17 : decode cX11_lay 17 = .ok (.iushr, 1) := by decide +kernel
theorem dX11_lay_18 : decode cX11_lay 18 = .ok (.sipush 255, 3) := by decide +kernel
theorem dX11_lay_21 : decode cX11_lay 21 = .ok (.iand, 1) := by decide +kernel
theorem dX11_lay_22 : decode cX11_lay 22 = .ok (.iastore, 1) := by decide +kernel
theorem dX11_lay_23 : decode cX11_lay 23 = .ok (.aload_n 0, 1) := by decide +kernel
theorem dX11_lay_24 : decode cX11_lay 24 = .ok (.dup, 1) := by decide +kernel
theorem dX11_lay_25 : decode cX11_lay 25 = .ok (.getfield 11, 3) := by decide +kernel
theorem dX11_lay_28 : decode cX11_lay 28 = .ok (.iconst 1, 1) := by decide +kernel
theorem dX11_lay_29 : decode cX11_lay 29 = .ok (.iadd, 1) := by decide +kernel
theorem dX11_lay_30 : decode cX11_lay 30 = .ok (.putfield 11, 3) := by decide +kernel
theorem dX11_lay_33 : decode cX11_lay 33 = .ok (.iinc 2 (-8), 3) := by decide +kernel
theorem dX11_lay_36 : decode cX11_lay 36 = .ok (.goto (-33), 3) := by decide +kernel
theorem dX11_lay_39 : decode cX11_lay 39 = .ok (.return_, 1) := by decide +kernel
theorem dX11_feed_0 : decode cX11_feed 0 = .ok (.aload_n 0, 1) := by decide +kernel
theorem dX11_feed_1 : decode cX11_feed 1 = .ok (.iconst 0, 1) := by decide +kernel
theorem dX11_feed_2 : decode cX11_feed 2 = .ok (.putfield 1, 3) := by decide +kernel
theorem dX11_feed_5 : decode cX11_feed 5 = .ok (.aload_n 0, 1) := by decide +kernel
theorem dX11_feed_6 : decode cX11_feed 6 = .ok (.getfield 11, 3) := by decide +kernel
theorem dX11_feed_9 : decode cX11_feed 9 = .ok (.bipush 20, 2) := by decide +kernel
theorem dX11_feed_11 : decode cX11_feed 11 = .ok (.iadd, 1) := by decide +kernel
theorem dX11_feed_12 : decode cX11_feed 12 = .ok (.sipush 240, 3) := by decide +kernel
theorem dX11_feed_15 : decode cX11_feed 15 = .ok (.if_icmp .le 5, 3) := by decide +kernel
theorem dX11_feed_18 : decode cX11_feed 18 = .ok (.iconst (-1), 1) := by decide +kernel
theorem dX11_feed_19 : decode cX11_feed 19 = .ok (.ireturn, 1) := by decide +kernel
theorem dX11_feed_20 : decode cX11_feed 20 = .ok (.aload_n 0, 1) := by decide +kernel
theorem dX11_feed_21 : decode cX11_feed 21 = .ok (.iload_n 1, 1) := by decide +kernel
theorem dX11_feed_22 : decode cX11_feed 22 = .ok (.invokevirtual 14, 3) := by decide +kernel
theorem dX11_feed_25 : decode cX11_feed 25 = .ok (.aload_n 0, 1) := by decide +kernel
theorem dX11_feed_26 : decode cX11_feed 26 = .ok (.iload_n 2, 1) := by decide +kernel
theorem dX11_feed_27 : decode cX11_feed 27 = .ok (.invokevirtual 14, 3) := by decide +kernel
theorem dX11_feed_30 : decode cX11_feed 30 = .ok (.aload_n 0, 1) := by decide +kernel
theorem dX11_feed_31 : decode cX11_feed 31 = .ok (.iload_n 3, 1) := by decide +kernel
theorem dX11_feed_32 : decode cX11_feed 32 = .ok (.invokevirtual 14, 3) := by decide +kernel
theorem dX11_feed_35 : decode cX11_feed 35 = .ok (.aload_n 0, 1) := by decide +kernel
theorem dX11_feed_36 : decode cX11_feed 36 = .ok (.iload 4, 2) := by decide +kernel
theorem dX11_feed_38 : decode cX11_feed 38 = .ok (.invokevirtual 14, 3) := by decide +kernel
theorem dX11_feed_41 : decode cX11_feed 41 = .ok (.aload_n 0, 1) := by decide +kernel
theorem dX11_feed_42 : decode cX11_feed 42 = .ok (.iload 5, 2) := by decide +kernel
theorem dX11_feed_44 : decode cX11_feed 44 = .ok (.invokevirtual 14, 3) := by decide +kernel
theorem dX11_feed_47 : decode cX11_feed 47 = .ok (.aload_n 0, 1) := by decide +kernel
theorem dX11_feed_48 : decode cX11_feed 48 = .ok (.getfield 11, 3) := by decide +kernel
theorem dX11_feed_51 : decode cX11_feed 51 = .ok (.ireturn, 1) := by decide +kernel
theorem dX11_end_0 : decode cX11_end 0 = .ok (.aload_n 0, 1) := by decide +kernel
theorem dX11_end_1 : decode cX11_end 1 = .ok (.iconst 0, 1) := by decide +kernel
theorem dX11_end_2 : decode cX11_end 2 = .ok (.putfield 1, 3) := by decide +kernel
theorem dX11_end_5 : decode cX11_end 5 = .ok (.iload_n 1, 1) := by decide +kernel
theorem dX11_end_6 : decode cX11_end 6 = .ok (.ifCond .lt 11, 3) := by decide +kernel
theorem dX11_end_9 : decode cX11_end 9 = .ok (.iload_n 1, 1) := by decide +kernel
theorem dX11_end_10 : decode cX11_end 10 = .ok (.aload_n 0, 1) := by decide +kernel
theorem dX11_end_11 : decode cX11_end 11 = .ok (.getfield 11, 3) := by decide +kernel
theorem dX11_end_14 : decode cX11_end 14 = .ok (.if_icmp .le 5, 3) := by decide +kernel
theorem dX11_end_17 : decode cX11_end 17 = .ok (.iconst 0, 1) := by decide +kernel
theorem dX11_end_18 : decode cX11_end 18 = .ok (.ireturn, 1) := by decide +kernel
theorem dX11_end_19 : decode cX11_end 19 = .ok (.aload_n 0, 1) := by decide +kernel
theorem dX11_end_20 : decode cX11_end 20 = .ok (.iload_n 1, 1) := by decide +kernel
theorem dX11_end_21 : decode cX11_end 21 = .ok (.putfield 11, 3) := by decide +kernel
theorem dX11_end_24 : decode cX11_end 24 = .ok (.iconst 1, 1) := by decide +kernel
theorem dX11_end_25 : decode cX11_end 25 = .ok (.ireturn, 1) := by decide +kernel
theorem dX11_init_0 : decode cX11_init 0 = .ok (.aload_n 0, 1) := by decide +kernel
theorem dX11_init_1 : decode cX11_init 1 = .ok (.invokespecial 18, 3) := by decide +kernel
theorem dX11_init_4 : decode cX11_init 4 = .ok (.aload_n 0, 1) := by decide +kernel
theorem dX11_init_5 : decode cX11_init 5 = .ok (.sipush 240, 3) := by decide +kernel
theorem dX11_init_8 : decode cX11_init 8 = .ok (.newarray .int, 2) := by decide +kernel
theorem dX11_init_10 : decode cX11_init 10 = .ok (.putfield 7, 3) := by decide +kernel
theorem dX11_init_13 : decode cX11_init 13 = .ok (.aload_n 0, 1) := by decide +kernel
theorem dX11_init_14 : decode cX11_init 14 = .ok (.bipush 35, 2) := by decide +kernel
theorem dX11_init_16 : decode cX11_init 16 = .ok (.newarray .int, 2) := by decide +kernel
theorem dX11_init_18 : decode cX11_init 18 = .ok (.putfield 24, 3) := by decide +kernel
theorem dX11_init_21 : decode cX11_init 21 = .ok (.aload_n 0, 1) := by decide +kernel
theorem dX11_init_22 : decode cX11_init 22 = .ok (.bipush 70, 2) := by decide +kernel
theorem dX11_init_24 : decode cX11_init 24 = .ok (.newarray .int, 2) := by decide +kernel
theorem dX11_init_26 : decode cX11_init 26 = .ok (.putfield 27, 3) := by decide +kernel
theorem dX11_init_29 : decode cX11_init 29 = .ok (.aload_n 0, 1) := by decide +kernel
theorem dX11_init_30 : decode cX11_init 30 = .ok (.sipush 280, 3) := by decide +kernel
theorem dX11_init_33 : decode cX11_init 33 = .ok (.newarray .int, 2) := by decide +kernel
theorem dX11_init_35 : decode cX11_init 35 = .ok (.putfield 30, 3) := by decide +kernel
theorem dX11_init_38 : decode cX11_init 38 = .ok (.aload_n 0, 1) := by decide +kernel
theorem dX11_init_39 : decode cX11_init 39 = .ok (.bipush 35, 2) := by decide +kernel
theorem dX11_init_41 : decode cX11_init 41 = .ok (.newarray .int, 2) := by decide +kernel
theorem dX11_init_43 : decode cX11_init 43 = .ok (.putfield 33, 3) := by decide +kernel
theorem dX11_init_46 : decode cX11_init 46 = .ok (.aload_n 0, 1) := by decide +kernel
theorem dX11_init_47 : decode cX11_init 47 = .ok (.bipush 35, 2) := by decide +kernel
theorem dX11_init_49 : decode cX11_init 49 = .ok (.newarray .int, 2) := by decide +kernel
theorem dX11_init_51 : decode cX11_init 51 = .ok (.putfield 36, 3) := by decide +kernel
theorem dX11_init_54 : decode cX11_init 54 = .ok (.aload_n 0, 1) := by decide +kernel
theorem dX11_init_55 : decode cX11_init 55 = .ok (.iconst 2, 1) := by decide +kernel
theorem dX11_init_56 : decode cX11_init 56 = .ok (.newarray .boolean, 2) := by decide +kernel
theorem dX11_init_58 : decode cX11_init 58 = .ok (.putfield 39, 3) := by decide +kernel
theorem dX11_init_61 : decode cX11_init 61 = .ok (.aload_n 0, 1) := by decide +kernel
theorem dX11_init_62 : decode cX11_init 62 = .ok (.bipush 22, 2) := by decide +kernel
theorem dX11_init_64 : decode cX11_init 64 = .ok (.newarray .int, 2) := by decide +kernel
theorem dX11_init_66 : decode cX11_init 66 = .ok (.putfield 43, 3) := by decide +kernel
theorem dX11_init_69 : decode cX11_init 69 = .ok (.aload_n 0, 1) := by decide +kernel
theorem dX11_init_70 : decode cX11_init 70 = .ok (.iconst 4, 1) := by decide +kernel
theorem dX11_init_71 : decode cX11_init 71 = .ok (.newarray .long, 2) := by decide +kernel
theorem dX11_init_73 : decode cX11_init 73 = .ok (.putfield 46, 3) := by decide +kernel
theorem dX11_init_76 : decode cX11_init 76 = .ok (.aload_n 0, 1) := by decide +kernel
theorem dX11_init_77 : decode cX11_init 77 = .ok (.sipush 400, 3) := by decide +kernel
theorem dX11_init_80 : decode cX11_init 80 = .ok (.newarray .long, 2) := by decide +kernel
theorem dX11_init_82 : decode cX11_init 82 = .ok (.putfield 50, 3) := by decide +kernel
theorem dX11_init_85 : decode cX11_init 85 = .ok (.aload_n 0, 1) := by decide +kernel
theorem dX11_init_86 : decode cX11_init 86 = .ok (.bipush 48, 2) := by decide +kernel
theorem dX11_init_88 : decode cX11_init 88 = .ok (.newarray .int, 2) := by decide +kernel
theorem dX11_init_90 : decode cX11_init 90 = .ok (.putfield 53, 3) := by decide +kernel
theorem dX11_init_93 : decode cX11_init 93 = .ok (.aload_n 0, 1) := by decide +kernel
theorem dX11_init_94 : decode cX11_init 94 = .ok (.getfield 24, 3) := by decide +kernel
theorem dX11_init_97 : decode cX11_init 97 = .ok (.iconst 0, 1) := by decide +kernel
theorem dX11_init_98 : decode cX11_init 98 = .ok (.iconst 1, 1) := by decide +kernel
theorem dX11_init_99 : decode cX11_init 99 = .ok (.iastore, 1) := by decide +kernel
theorem dX11_init_100 : decode cX11_init 100 = .ok (.aload_n 0, 1) := by decide +kernel
theorem dX11_init_101 : decode cX11_init 101 = .ok (.getfield 24, 3) := by decide +kernel
theorem dX11_init_104 : decode cX11_init 104 = .ok (.iconst 1, 1) := by decide +kernel
theorem dX11_init_105 : decode cX11_init 105 = .ok (.iconst 1, 1) := by decide +kernel
theorem dX11_init_106 : decode cX11_init 106 = .ok (.iastore, 1) := by decide +kernel
theorem dX11_init_107 : decode cX11_init 107 = .ok (.return_, 1) := by decide +kernel
theorem dX11_copy_0 : decode cX11_copy 0 = .ok (.iconst 0, 1) := by decide +kernel
theorem dX11_copy_1 : decode cX11_copy 1 = .ok (.istore 4, 2) := by decide +kernel
theorem dX11_copy_3 : decode cX11_copy 3 = .ok (.iload 4, 2) := by decide +kernel
theorem dX11_copy_5 : decode cX11_copy 5 = .ok (.bipush 35, 2) := by decide +kernel
theorem dX11_copy_7 : decode cX11_copy 7 = .ok (.if_icmp .ge 21, 3) := by decide +kernel
theorem dX11_copy_10 : decode cX11_copy 10 = .ok (.aload_n 2, 1) := by decide +kernel
theorem dX11_copy_11 : decode cX11_copy 11 = .ok (.iload_n 3, 1) := by decide +kernel
theorem dX11_copy_12 : decode cX11_copy 12 = .ok (.iload 4, 2) := by decide +kernel
theorem dX11_copy_14 : decode cX11_copy 14 = .ok (.iadd, 1) := by decide +kernel
theorem dX11_copy_15 : decode cX11_copy 15 = .ok (.aload_n 0, 1) := by decide +kernel
theorem dX11_copy_16 : decode cX11_copy 16 = .ok (.iload_n 1, 1) := by decide +kernel
theorem dX11_copy_17 : decode cX11_copy 17 = .ok (.iload 4, 2) := by decide +kernel
theorem dX11_copy_19 : decode cX11_copy 19 = .ok (.iadd, 1) := by decide +kernel
theorem dX11_copy_20 : decode cX11_copy 20 = .ok (.iaload, 1) := by decide +kernel
theorem dX11_copy_21 : decode cX11_copy 21 = .ok (.iastore, 1) := by decide +kernel
theorem dX11_copy_22 : decode cX11_copy 22 = .ok (.iinc 4 1, 3) := by decide +kernel
theorem dX11_copy_25 : decode cX11_copy 25 = .ok (.goto (-22), 3) := by decide +kernel
theorem dX11_copy_28 : decode cX11_copy 28 = .ok (.return_, 1) := by decide +kernel
theorem dX11_snap_0 : decode cX11_snap 0 = .ok (.aload_n 0, 1) := by decide +kernel
theorem dX11_snap_1 : decode cX11_snap 1 = .ok (.getfield 56, 3) := by decide +kernel
theorem dX11_snap_4 : decode cX11_snap 4 = .ok (.bipush 8, 2) := by decide +kernel
theorem dX11_snap_6 : decode cX11_snap 6 = .ok (.if_icmp .ne 43, 3) := by decide +kernel
theorem dX11_snap_9 : decode cX11_snap 9 = .ok (.iconst 0, 1) := by decide +kernel
theorem dX11_snap_10 : decode cX11_snap 10 = .ok (.istore_n 1, 1) := by decide +kernel
theorem dX11_snap_11 : decode cX11_snap 11 = .ok (.iload_n 1, 1) := by decide +kernel
theorem dX11_snap_12 : decode cX11_snap 12 = .ok (.sipush 245, 3) := by decide +kernel
theorem dX11_snap_15 : decode cX11_snap 15 = .ok (.if_icmp .ge 24, 3) := by decide +kernel
theorem dX11_snap_18 : decode cX11_snap 18 = .ok (.aload_n 0, 1) := by decide +kernel
theorem dX11_snap_19 : decode cX11_snap 19 = .ok (.getfield 30, 3) := by decide +kernel
theorem dX11_snap_22 : decode cX11_snap 22 = .ok (.iload_n 1, 1) := by decide +kernel
theorem dX11_snap_23 : decode cX11_snap 23 = .ok (.aload_n 0, 1) := by decide +kernel
theorem dX11_snap_24 : decode cX11_snap 24 = .ok (.getfield 30, 3) := by decide +kernel
theorem dX11_snap_27 : decode cX11_snap 27 = .ok (.iload_n 1, 1) := by decide +kernel
theorem dX11_snap_28 : decode cX11_snap 28 = .ok (.bipush 35, 2) := by decide +kernel
theorem dX11_snap_30 : decode cX11_snap 30 = .ok (.iadd, 1) := by decide +kernel
theorem dX11_snap_31 : decode cX11_snap 31 = .ok (.iaload, 1) := by decide +kernel
theorem dX11_snap_32 : decode cX11_snap 32 = .ok (.iastore, 1) := by decide +kernel
theorem dX11_snap_33 : decode cX11_snap 33 = .ok (.iinc 1 1, 3) := by decide +kernel
theorem dX11_snap_36 : decode cX11_snap 36 = .ok (.goto (-25), 3) := by decide +kernel
theorem dX11_snap_39 : decode cX11_snap 39 = .ok (.aload_n 0, 1) := by decide +kernel
theorem dX11_snap_40 : decode cX11_snap 40 = .ok (.dup, 1) := by decide +kernel
theorem dX11_snap_41 : decode cX11_snap 41 = .ok (.getfield 56, 3) := by decide +kernel
theorem dX11_snap_44 : decode cX11_snap 44 = .ok (.iconst 1, 1) := by decide +kernel
theorem dX11_snap_45 : decode cX11_snap 45 = .ok (.isub, 1) := by decide +kernel
theorem dX11_snap_46 : decode cX11_snap 46 = .ok (.putfield 56, 3) := by decide +kernel
theorem dX11_snap_49 : decode cX11_snap 49 = .ok (.aload_n 0, 1) := by decide +kernel
theorem dX11_snap_50 : decode cX11_snap 50 = .ok (.getfield 24, 3) := by decide +kernel
theorem dX11_snap_53 : decode cX11_snap 53 = .ok (.iconst 0, 1) := by decide +kernel
theorem dX11_snap_54 : decode cX11_snap 54 = .ok (.aload_n 0, 1) := by decide +kernel
theorem dX11_snap_55 : decode cX11_snap 55 = .ok (.getfield 30, 3) := by decide +kernel
theorem dX11_snap_58 : decode cX11_snap 58 = .ok (.bipush 35, 2) := by decide +kernel
theorem dX11_snap_60 : decode cX11_snap 60 = .ok (.aload_n 0, 1) := by decide +kernel
theorem dX11_snap_61 : decode cX11_snap 61 = .ok (.getfield 56, 3) := by decide +kernel
theorem dX11_snap_64 : decode cX11_snap 64 = .ok (.imul, 1) := by decide +kernel
theorem dX11_snap_65 : decode cX11_snap 65 = .ok (.invokestatic 59, 3) := by decide +kernel
theorem dX11_snap_68 : decode cX11_snap 68 = .ok (.aload_n 0, 1) := by decide +kernel
theorem dX11_snap_69 : decode cX11_snap 69 = .ok (.dup, 1) := by decide +kernel
theorem dX11_snap_70 : decode cX11_snap 70 = .ok (.getfield 56, 3) := by decide +kernel
theorem dX11_snap_73 : decode cX11_snap 73 = .ok (.iconst 1, 1) := by decide +kernel
theorem dX11_snap_74 : decode cX11_snap 74 = .ok (.iadd, 1) := by decide +kernel
theorem dX11_snap_75 : decode cX11_snap 75 = .ok (.putfield 56, 3) := by decide +kernel
theorem dX11_snap_78 : decode cX11_snap 78 = .ok (.return_, 1) := by decide +kernel
theorem dX11_stay_0 : decode cX11_stay 0 = .ok (.aload_n 0, 1) := by decide +kernel
theorem dX11_stay_1 : decode cX11_stay 1 = .ok (.getfield 24, 3) := by decide +kernel
theorem dX11_stay_4 : decode cX11_stay 4 = .ok (.iconst 0, 1) := by decide +kernel
theorem dX11_stay_5 : decode cX11_stay 5 = .ok (.aload_n 0, 1) := by decide +kernel
theorem dX11_stay_6 : decode cX11_stay 6 = .ok (.getfield 36, 3) := by decide +kernel
theorem dX11_stay_9 : decode cX11_stay 9 = .ok (.iconst 0, 1) := by decide +kernel
theorem dX11_stay_10 : decode cX11_stay 10 = .ok (.invokestatic 59, 3) := by decide +kernel
theorem dX11_stay_13 : decode cX11_stay 13 = .ok (.aload_n 0, 1) := by decide +kernel
theorem dX11_stay_14 : decode cX11_stay 14 = .ok (.getfield 33, 3) := by decide +kernel
theorem dX11_stay_17 : decode cX11_stay 17 = .ok (.iconst 0, 1) := by decide +kernel
theorem dX11_stay_18 : decode cX11_stay 18 = .ok (.aload_n 0, 1) := by decide +kernel
theorem dX11_stay_19 : decode cX11_stay 19 = .ok (.getfield 24, 3) := by decide +kernel
theorem dX11_stay_22 : decode cX11_stay 22 = .ok (.iconst 0, 1) := by decide +kernel
theorem dX11_stay_23 : decode cX11_stay 23 = .ok (.invokestatic 59, 3) := by decide +kernel
theorem dX11_stay_26 : decode cX11_stay 26 = .ok (.aload_n 0, 1) := by decide +kernel
theorem dX11_stay_27 : decode cX11_stay 27 = .ok (.invokevirtual 63, 3) := by decide +kernel
theorem dX11_stay_30 : decode cX11_stay 30 = .ok (.aload_n 0, 1) := by decide +kernel
theorem dX11_stay_31 : decode cX11_stay 31 = .ok (.getfield 36, 3) := by decide +kernel
theorem dX11_stay_34 : decode cX11_stay 34 = .ok (.iconst 0, 1) := by decide +kernel
theorem dX11_stay_35 : decode cX11_stay 35 = .ok (.aload_n 0, 1) := by decide +kernel
theorem dX11_stay_36 : decode cX11_stay 36 = .ok (.getfield 24, 3) := by decide +kernel
theorem dX11_stay_39 : decode cX11_stay 39 = .ok (.iconst 0, 1) := by decide +kernel
theorem dX11_stay_40 : decode cX11_stay 40 = .ok (.invokestatic 59, 3) := by decide +kernel
theorem dX11_stay_43 : decode cX11_stay 43 = .ok (.return_, 1) := by decide +kernel
theorem dX11_goesTo_0 : decode cX11_goesTo 0 = .ok (.aload_n 0, 1) := by decide +kernel
theorem dX11_goesTo_1 : decode cX11_goesTo 1 = .ok (.iconst 0, 1) := by decide +kernel
theorem dX11_goesTo_2 : decode cX11_goesTo 2 = .ok (.putfield 66, 3) := by decide +kernel
theorem dX11_goesTo_5 : decode cX11_goesTo 5 = .ok (.aload_n 0, 1) := by decide +kernel
theorem dX11_goesTo_6 : decode cX11_goesTo 6 = .ok (.iconst 1, 1) := by decide +kernel
theorem dX11_goesTo_7 : decode cX11_goesTo 7 = .ok (.putfield 69, 3) := by decide +kernel
theorem dX11_goesTo_10 : decode cX11_goesTo 10 = .ok (.aload_n 0, 1) := by decide +kernel
theorem dX11_goesTo_11 : decode cX11_goesTo 11 = .ok (.iconst 1, 1) := by decide +kernel
theorem dX11_goesTo_12 : decode cX11_goesTo 12 = .ok (.putfield 72, 3) := by decide +kernel
theorem dX11_goesTo_15 : decode cX11_goesTo 15 = .ok (.aload_n 0, 1) := by decide +kernel
theorem dX11_goesTo_16 : decode cX11_goesTo 16 = .ok (.iconst 0, 1) := by decide +kernel
theorem dX11_goesTo_17 : decode cX11_goesTo 17 = .ok (.putfield 75, 3) := by decide +kernel
theorem dX11_goesTo_20 : decode cX11_goesTo 20 = .ok (.aload_n 0, 1) := by decide +kernel
theorem dX11_goesTo_21 : decode cX11_goesTo 21 = .ok (.iconst 0, 1) := by decide +kernel
theorem dX11_goesTo_22 : decode cX11_goesTo 22 = .ok (.putfield 78, 3) := by decide +kernel
theorem dX11_goesTo_25 : decode cX11_goesTo 25 = .ok (.aload_n 0, 1) := by decide +kernel
theorem dX11_goesTo_26 : decode cX11_goesTo 26 = .ok (.getfield 66, 3) := by decide +kernel
theorem dX11_goesTo_29 : decode cX11_goesTo 29 = .ok (.aload_n 0, 1) := by decide +kernel
theorem dX11_goesTo_30 : decode cX11_goesTo 30 = .ok (.getfield 72, 3) := by decide +kernel
theorem dX11_goesTo_33 : decode cX11_goesTo 33 = .ok (.iadd, 1) := by decide +kernel
theorem dX11_goesTo_34 : decode cX11_goesTo 34 = .ok (.iload_n 1, 1) := by decide +kernel
theorem dX11_goesTo_35 : decode cX11_goesTo 35 = .ok (.if_icmp .ne 16, 3) := by decide +kernel
theorem dX11_goesTo_38 : decode cX11_goesTo 38 = .ok (.aload_n 0, 1) := by decide +kernel
theorem dX11_goesTo_39 : decode cX11_goesTo 39 = .ok (.getfield 69, 3) := by decide +kernel
theorem dX11_goesTo_42 : decode cX11_goesTo 42 = .ok (.aload_n 0, 1) := by decide +kernel
theorem dX11_goesTo_43 : decode cX11_goesTo 43 = .ok (.getfield 75, 3) := by decide +kernel
theorem dX11_goesTo_46 : decode cX11_goesTo 46 = .ok (.iadd, 1) := by decide +kernel
theorem dX11_goesTo_47 : decode cX11_goesTo 47 = .ok (.iload_n 2, 1) := by decide +kernel
theorem dX11_goesTo_48 : decode cX11_goesTo 48 = .ok (.if_icmp .eq 105, 3) := by decide +kernel
theorem dX11_goesTo_51 : decode cX11_goesTo 51 = .ok (.aload_n 0, 1) := by decide +kernel
theorem dX11_goesTo_52 : decode cX11_goesTo 52 = .ok (.getfield 66, 3) := by decide +kernel
theorem dX11_goesTo_55 : decode cX11_goesTo 55 = .ok (.aload_n 0, 1) := by decide +kernel
theorem dX11_goesTo_56 : decode cX11_goesTo 56 = .ok (.getfield 72, 3) := by decide +kernel
theorem dX11_goesTo_59 : decode cX11_goesTo 59 = .ok (.iadd, 1) := by decide +kernel
theorem dX11_goesTo_60 : decode cX11_goesTo 60 = .ok (.istore_n 3, 1) := by decide +kernel
theorem dX11_goesTo_61 : decode cX11_goesTo 61 = .ok (.aload_n 0, 1) := by decide +kernel
theorem dX11_goesTo_62 : decode cX11_goesTo 62 = .ok (.getfield 69, 3) := by decide +kernel
theorem dX11_goesTo_65 : decode cX11_goesTo 65 = .ok (.aload_n 0, 1) := by decide +kernel
theorem dX11_goesTo_66 : decode cX11_goesTo 66 = .ok (.getfield 75, 3) := by decide +kernel
theorem dX11_goesTo_69 : decode cX11_goesTo 69 = .ok (.iadd, 1) := by decide +kernel
theorem dX11_goesTo_70 : decode cX11_goesTo 70 = .ok (.istore 4, 2) := by decide +kernel
theorem dX11_goesTo_72 : decode cX11_goesTo 72 = .ok (.iload_n 1, 1) := by decide +kernel
theorem dX11_goesTo_73 : decode cX11_goesTo 73 = .ok (.iload 4, 2) := by decide +kernel
theorem dX11_goesTo_75 : decode cX11_goesTo 75 = .ok (.imul, 1) := by decide +kernel
theorem dX11_goesTo_76 : decode cX11_goesTo 76 = .ok (.iload_n 3, 1) := by decide +kernel
theorem dX11_goesTo_77 : decode cX11_goesTo 77 = .ok (.iload_n 2, 1) := by decide +kernel
theorem dX11_goesTo_78 : decode cX11_goesTo 78 = .ok (.imul, 1) := by decide +kernel
theorem dX11_goesTo_79 : decode cX11_goesTo 79 = .ok (.if_icmp .ge 7, 3) := by decide +kernel
theorem dX11_goesTo_82 : decode cX11_goesTo 82 = .ok (.iconst 1, 1) := by decide +kernel
theorem dX11_goesTo_83 : decode cX11_goesTo 83 = .ok (.goto 4, 3) := by decide +kernel
theorem dX11_goesTo_86 : decode cX11_goesTo 86 = .ok (.iconst 0, 1) := by decide +kernel
theorem dX11_goesTo_87 : decode cX11_goesTo 87 = .ok (.istore 5, 2) := by decide +kernel
theorem dX11_goesTo_89 : decode cX11_goesTo 89 = .ok (.aload_n 0, 1) := by decide +kernel
theorem dX11_goesTo_90 : decode cX11_goesTo 90 = .ok (.getfield 43, 3) := by decide +kernel
theorem dX11_goesTo_93 : decode cX11_goesTo 93 = .ok (.aload_n 0, 1) := by decide +kernel
theorem dX11_goesTo_94 : decode cX11_goesTo 94 = .ok (.getfield 78, 3) := by decide +kernel
theorem dX11_goesTo_97 : decode cX11_goesTo 97 = .ok (.iload 5, 2) := by decide +kernel
theorem dX11_goesTo_99 : decode cX11_goesTo 99 = .ok (.ifCond .eq 8, 3) := by decide +kernel
theorem dX11_goesTo_102 : decode cX11_goesTo 102 = .ok (.bipush 108, 2) := by decide +kernel
theorem dX11_goesTo_104 : decode cX11_goesTo 104 = .ok (.goto 5, 3) := by decide +kernel
theorem dX11_goesTo_107 : decode cX11_goesTo 107 = .ok (.bipush 114, 2) := by decide +kernel
theorem dX11_goesTo_109 : decode cX11_goesTo 109 = .ok (.iastore, 1) := by decide +kernel
theorem dX11_goesTo_110 : decode cX11_goesTo 110 = .ok (.aload_n 0, 1) := by decide +kernel
theorem dX11_goesTo_111 : decode cX11_goesTo 111 = .ok (.dup, 1) := by decide +kernel
theorem dX11_goesTo_112 : decode cX11_goesTo 112 = .ok (.getfield 78, 3) := by decide +kernel
theorem dX11_goesTo_115 : decode cX11_goesTo 115 = .ok (.iconst 1, 1) := by decide +kernel
theorem dX11_goesTo_116 : decode cX11_goesTo 116 = .ok (.iadd, 1) := by decide +kernel
theorem dX11_goesTo_117 : decode cX11_goesTo 117 = .ok (.putfield 78, 3) := by decide +kernel
theorem dX11_goesTo_120 : decode cX11_goesTo 120 = .ok (.iload 5, 2) := by decide +kernel
theorem dX11_goesTo_122 : decode cX11_goesTo 122 = .ok (.ifCond .eq 17, 3) := by decide +kernel
theorem dX11_goesTo_125 : decode cX11_goesTo 125 = .ok (.aload_n 0, 1) := by decide +kernel
theorem dX11_goesTo_126 : decode cX11_goesTo 126 = .ok (.iload_n 3, 1) := by decide +kernel
theorem dX11_goesTo_127 : decode cX11_goesTo 127 = .ok (.putfield 72, 3) := by decide +kernel
theorem dX11_goesTo_130 : decode cX11_goesTo 130 = .ok (.aload_n 0, 1) := by decide +kernel
theorem dX11_goesTo_131 : decode cX11_goesTo 131 = .ok (.iload 4, 2) := by decide +kernel
theorem dX11_goesTo_133 : decode cX11_goesTo 133 = .ok (.putfield 75, 3) := by decide +kernel
theorem dX11_goesTo_136 : decode cX11_goesTo 136 = .ok (.goto 14, 3) := by decide +kernel
theorem dX11_goesTo_139 : decode cX11_goesTo 139 = .ok (.aload_n 0, 1) := by decide +kernel
theorem dX11_goesTo_140 : decode cX11_goesTo 140 = .ok (.iload_n 3, 1) := by decide +kernel
theorem dX11_goesTo_141 : decode cX11_goesTo 141 = .ok (.putfield 66, 3) := by decide +kernel
theorem dX11_goesTo_144 : decode cX11_goesTo 144 = .ok (.aload_n 0, 1) := by decide +kernel
theorem dX11_goesTo_145 : decode cX11_goesTo 145 = .ok (.iload 4, 2) := by decide +kernel
theorem dX11_goesTo_147 : decode cX11_goesTo 147 = .ok (.putfield 69, 3) := by decide +kernel
theorem dX11_goesTo_150 : decode cX11_goesTo 150 = .ok (.goto (-125), 3) := by decide +kernel
theorem dX11_goesTo_153 : decode cX11_goesTo 153 = .ok (.return_, 1) := by decide +kernel
theorem dX11_lays_0 : decode cX11_lays 0 = .ok (.aload_n 0, 1) := by decide +kernel
theorem dX11_lays_1 : decode cX11_lays 1 = .ok (.aload_n 0, 1) := by decide +kernel
theorem dX11_lays_2 : decode cX11_lays 2 = .ok (.getfield 24, 3) := by decide +kernel
theorem dX11_lays_5 : decode cX11_lays 5 = .ok (.iconst 0, 1) := by decide +kernel
theorem dX11_lays_6 : decode cX11_lays 6 = .ok (.iaload, 1) := by decide +kernel
theorem dX11_lays_7 : decode cX11_lays 7 = .ok (.aload_n 0, 1) := by decide +kernel
theorem dX11_lays_8 : decode cX11_lays 8 = .ok (.getfield 24, 3) := by decide +kernel
theorem dX11_lays_11 : decode cX11_lays 11 = .ok (.iconst 1, 1) := by decide +kernel
theorem dX11_lays_12 : decode cX11_lays 12 = .ok (.iaload, 1) := by decide +kernel
theorem dX11_lays_13 : decode cX11_lays 13 = .ok (.invokevirtual 81, 3) := by decide +kernel
theorem dX11_lays_16 : decode cX11_lays 16 = .ok (.return_, 1) := by decide +kernel
theorem dX11_divisor_0 : decode cX11_divisor 0 = .ok (.iload_n 1, 1) := by decide +kernel
theorem dX11_divisor_1 : decode cX11_divisor 1 = .ok (.ifCond .ne 7, 3) := by decide +kernel
theorem dX11_divisor_4 : decode cX11_divisor 4 = .ok (.iload_n 0, 1) := by decide +kernel
theorem dX11_divisor_5 : decode cX11_divisor 5 = .ok (.goto 10, 3) := by decide +kernel
theorem dX11_divisor_8 : decode cX11_divisor 8 = .ok (.iload_n 1, 1) := by decide +kernel
theorem dX11_divisor_9 : decode cX11_divisor 9 = .ok (.iload_n 0, 1) := by decide +kernel
theorem dX11_divisor_10 : decode cX11_divisor 10 = .ok (.iload_n 1, 1) := by decide +kernel
theorem dX11_divisor_11 : decode cX11_divisor 11 = .ok (.irem, 1) := by decide +kernel
theorem dX11_divisor_12 : decode cX11_divisor 12 = .ok (.invokestatic 85, 3) := by decide +kernel
theorem dX11_divisor_15 : decode cX11_divisor 15 = .ok (.ireturn, 1) := by decide +kernel
theorem dX11_isPlace_0 : decode cX11_isPlace 0 = .ok (.iload_n 0, 1) := by decide +kernel
theorem dX11_isPlace_1 : decode cX11_isPlace 1 = .ok (.i2l, 1) := by decide +kernel
theorem dX11_isPlace_2 : decode cX11_isPlace 2 = .ok (.lconst 1, 1) := by decide +kernel
theorem dX11_isPlace_3 : decode cX11_isPlace 3 = .ok (.ldc2_w 89, 3) := by decide +kernel
theorem dX11_isPlace_6 : decode cX11_isPlace 6 = .ok (.invokestatic 91, 3) := by decide +kernel
theorem dX11_isPlace_9 : decode cX11_isPlace 9 = .ok (.ifCond .eq 36, 3) := by decide +kernel
theorem dX11_isPlace_12 : decode cX11_isPlace 12 = .ok (.iload_n 1, 1) := by decide +kernel
theorem dX11_isPlace_13 : decode cX11_isPlace 13 = .ok (.i2l, 1) := by decide +kernel
theorem dX11_isPlace_14 : decode cX11_isPlace 14 = .ok (.lconst 1, 1) := by decide +kernel
theorem dX11_isPlace_15 : decode cX11_isPlace 15 = .ok (.ldc2_w 89, 3) := by decide +kernel
theorem dX11_isPlace_18 : decode cX11_isPlace 18 = .ok (.invokestatic 91, 3) := by decide +kernel
theorem dX11_isPlace_21 : decode cX11_isPlace 21 = .ok (.ifCond .eq 24, 3) := by decide +kernel
theorem dX11_isPlace_24 : decode cX11_isPlace 24 = .ok (.iload_n 0, 1) := by decide +kernel
theorem dX11_isPlace_25 : decode cX11_isPlace 25 = .ok (.iload_n 1, 1) := by decide +kernel
theorem dX11_isPlace_26 : decode cX11_isPlace 26 = .ok (.iadd, 1) := by decide +kernel
theorem dX11_isPlace_27 : decode cX11_isPlace 27 = .ok (.bipush 22, 2) := by decide +kernel
theorem dX11_isPlace_29 : decode cX11_isPlace 29 = .ok (.if_icmp .gt 16, 3) := by decide +kernel
theorem dX11_isPlace_32 : decode cX11_isPlace 32 = .ok (.iload_n 0, 1) := by decide +kernel
theorem dX11_isPlace_33 : decode cX11_isPlace 33 = .ok (.iload_n 1, 1) := by decide +kernel
theorem dX11_isPlace_34 : decode cX11_isPlace 34 = .ok (.invokestatic 85, 3) := by decide +kernel
theorem dX11_isPlace_37 : decode cX11_isPlace 37 = .ok (.iconst 1, 1) := by decide +kernel
theorem dX11_isPlace_38 : decode cX11_isPlace 38 = .ok (.if_icmp .ne 7, 3) := by decide +kernel
theorem dX11_isPlace_41 : decode cX11_isPlace 41 = .ok (.iconst 1, 1) := by decide +kernel
theorem dX11_isPlace_42 : decode cX11_isPlace 42 = .ok (.goto 4, 3) := by decide +kernel
theorem dX11_isPlace_45 : decode cX11_isPlace 45 = .ok (.iconst 0, 1) := by decide +kernel
theorem dX11_isPlace_46 : decode cX11_isPlace 46 = .ok (.ireturn, 1) := by decide +kernel
theorem dX11_becomes_0 : decode cX11_becomes 0 = .ok (.aload_n 0, 1) := by decide +kernel
theorem dX11_becomes_1 : decode cX11_becomes 1 = .ok (.getfield 24, 3) := by decide +kernel
theorem dX11_becomes_4 : decode cX11_becomes 4 = .ok (.iconst 0, 1) := by decide +kernel
theorem dX11_becomes_5 : decode cX11_becomes 5 = .ok (.iload_n 1, 1) := by decide +kernel
theorem dX11_becomes_6 : decode cX11_becomes 6 = .ok (.iastore, 1) := by decide +kernel
theorem dX11_becomes_7 : decode cX11_becomes 7 = .ok (.aload_n 0, 1) := by decide +kernel
theorem dX11_becomes_8 : decode cX11_becomes 8 = .ok (.getfield 24, 3) := by decide +kernel
theorem dX11_becomes_11 : decode cX11_becomes 11 = .ok (.iconst 1, 1) := by decide +kernel
theorem dX11_becomes_12 : decode cX11_becomes 12 = .ok (.iload_n 2, 1) := by decide +kernel
theorem dX11_becomes_13 : decode cX11_becomes 13 = .ok (.iastore, 1) := by decide +kernel
theorem dX11_becomes_14 : decode cX11_becomes 14 = .ok (.return_, 1) := by decide +kernel
theorem dX11_steps_0 : decode cX11_steps 0 = .ok (.aload_n 0, 1) := by decide +kernel
theorem dX11_steps_1 : decode cX11_steps 1 = .ok (.invokevirtual 95, 3) := by decide +kernel
theorem dX11_steps_4 : decode cX11_steps 4 = .ok (.aload_n 0, 1) := by decide +kernel
theorem dX11_steps_5 : decode cX11_steps 5 = .ok (.getfield 24, 3) := by decide +kernel
theorem dX11_steps_8 : decode cX11_steps 8 = .ok (.iconst 0, 1) := by decide +kernel
theorem dX11_steps_9 : decode cX11_steps 9 = .ok (.iaload, 1) := by decide +kernel
theorem dX11_steps_10 : decode cX11_steps 10 = .ok (.istore_n 2, 1) := by decide +kernel
theorem dX11_steps_11 : decode cX11_steps 11 = .ok (.aload_n 0, 1) := by decide +kernel
theorem dX11_steps_12 : decode cX11_steps 12 = .ok (.getfield 24, 3) := by decide +kernel
theorem dX11_steps_15 : decode cX11_steps 15 = .ok (.iconst 1, 1) := by decide +kernel
theorem dX11_steps_16 : decode cX11_steps 16 = .ok (.iaload, 1) := by decide +kernel
theorem dX11_steps_17 : decode cX11_steps 17 = .ok (.istore_n 3, 1) := by decide +kernel
theorem dX11_steps_18 : decode cX11_steps 18 = .ok (.iload_n 1, 1) := by decide +kernel
theorem dX11_steps_19 : decode cX11_steps 19 = .ok (.lookupswitch 168 #[(108, 33), (114, 71), (117, 109)], 33) := by decide +kernel
theorem dX11_steps_52 : decode cX11_steps 52 = .ok (.iload_n 2, 1) := by decide +kernel
theorem dX11_steps_53 : decode cX11_steps 53 = .ok (.iload_n 3, 1) := by decide +kernel
theorem dX11_steps_54 : decode cX11_steps 54 = .ok (.iadd, 1) := by decide +kernel
theorem dX11_steps_55 : decode cX11_steps 55 = .ok (.aload_n 0, 1) := by decide +kernel
theorem dX11_steps_56 : decode cX11_steps 56 = .ok (.getfield 66, 3) := by decide +kernel
theorem dX11_steps_59 : decode cX11_steps 59 = .ok (.iadd, 1) := by decide +kernel
theorem dX11_steps_60 : decode cX11_steps 60 = .ok (.aload_n 0, 1) := by decide +kernel
theorem dX11_steps_61 : decode cX11_steps 61 = .ok (.getfield 69, 3) := by decide +kernel
theorem dX11_steps_64 : decode cX11_steps 64 = .ok (.iadd, 1) := by decide +kernel
theorem dX11_steps_65 : decode cX11_steps 65 = .ok (.bipush 22, 2) := by decide +kernel
theorem dX11_steps_67 : decode cX11_steps 67 = .ok (.if_icmp .le 5, 3) := by decide +kernel
theorem dX11_steps_70 : decode cX11_steps 70 = .ok (.iconst 0, 1) := by decide +kernel
theorem dX11_steps_71 : decode cX11_steps 71 = .ok (.ireturn, 1) := by decide +kernel
theorem dX11_steps_72 : decode cX11_steps 72 = .ok (.aload_n 0, 1) := by decide +kernel
theorem dX11_steps_73 : decode cX11_steps 73 = .ok (.iload_n 2, 1) := by decide +kernel
theorem dX11_steps_74 : decode cX11_steps 74 = .ok (.aload_n 0, 1) := by decide +kernel
theorem dX11_steps_75 : decode cX11_steps 75 = .ok (.getfield 66, 3) := by decide +kernel
theorem dX11_steps_78 : decode cX11_steps 78 = .ok (.iadd, 1) := by decide +kernel
theorem dX11_steps_79 : decode cX11_steps 79 = .ok (.iload_n 3, 1) := by decide +kernel
theorem dX11_steps_80 : decode cX11_steps 80 = .ok (.aload_n 0, 1) := by decide +kernel
theorem dX11_steps_81 : decode cX11_steps 81 = .ok (.getfield 69, 3) := by decide +kernel
theorem dX11_steps_84 : decode cX11_steps 84 = .ok (.iadd, 1) := by decide +kernel
theorem dX11_steps_85 : decode cX11_steps 85 = .ok (.invokevirtual 98, 3) := by decide +kernel
theorem dX11_steps_88 : decode cX11_steps 88 = .ok (.iconst 1, 1) := by decide +kernel
theorem dX11_steps_89 : decode cX11_steps 89 = .ok (.ireturn, 1) := by decide +kernel
theorem dX11_steps_90 : decode cX11_steps 90 = .ok (.iload_n 2, 1) := by decide +kernel
theorem dX11_steps_91 : decode cX11_steps 91 = .ok (.iload_n 3, 1) := by decide +kernel
theorem dX11_steps_92 : decode cX11_steps 92 = .ok (.iadd, 1) := by decide +kernel
theorem dX11_steps_93 : decode cX11_steps 93 = .ok (.aload_n 0, 1) := by decide +kernel
theorem dX11_steps_94 : decode cX11_steps 94 = .ok (.getfield 72, 3) := by decide +kernel
theorem dX11_steps_97 : decode cX11_steps 97 = .ok (.iadd, 1) := by decide +kernel
theorem dX11_steps_98 : decode cX11_steps 98 = .ok (.aload_n 0, 1) := by decide +kernel
theorem dX11_steps_99 : decode cX11_steps 99 = .ok (.getfield 75, 3) := by decide +kernel
theorem dX11_steps_102 : decode cX11_steps 102 = .ok (.iadd, 1) := by decide +kernel
theorem dX11_steps_103 : decode cX11_steps 103 = .ok (.bipush 22, 2) := by decide +kernel
theorem dX11_steps_105 : decode cX11_steps 105 = .ok (.if_icmp .le 5, 3) := by decide +kernel
theorem dX11_steps_108 : decode cX11_steps 108 = .ok (.iconst 0, 1) := by decide +kernel
theorem dX11_steps_109 : decode cX11_steps 109 = .ok (.ireturn, 1) := by decide +kernel
theorem dX11_steps_110 : decode cX11_steps 110 = .ok (.aload_n 0, 1) := by decide +kernel
theorem dX11_steps_111 : decode cX11_steps 111 = .ok (.iload_n 2, 1) := by decide +kernel
theorem dX11_steps_112 : decode cX11_steps 112 = .ok (.aload_n 0, 1) := by decide +kernel
theorem dX11_steps_113 : decode cX11_steps 113 = .ok (.getfield 72, 3) := by decide +kernel
theorem dX11_steps_116 : decode cX11_steps 116 = .ok (.iadd, 1) := by decide +kernel
theorem dX11_steps_117 : decode cX11_steps 117 = .ok (.iload_n 3, 1) := by decide +kernel
theorem dX11_steps_118 : decode cX11_steps 118 = .ok (.aload_n 0, 1) := by decide +kernel
theorem dX11_steps_119 : decode cX11_steps 119 = .ok (.getfield 75, 3) := by decide +kernel
theorem dX11_steps_122 : decode cX11_steps 122 = .ok (.iadd, 1) := by decide +kernel
theorem dX11_steps_123 : decode cX11_steps 123 = .ok (.invokevirtual 98, 3) := by decide +kernel
theorem dX11_steps_126 : decode cX11_steps 126 = .ok (.iconst 1, 1) := by decide +kernel
theorem dX11_steps_127 : decode cX11_steps 127 = .ok (.ireturn, 1) := by decide +kernel
theorem dX11_steps_128 : decode cX11_steps 128 = .ok (.aload_n 0, 1) := by decide +kernel
theorem dX11_steps_129 : decode cX11_steps 129 = .ok (.getfield 78, 3) := by decide +kernel
theorem dX11_steps_132 : decode cX11_steps 132 = .ok (.ifCond .ne 5, 3) := by decide +kernel
theorem dX11_steps_135 : decode cX11_steps 135 = .ok (.iconst 0, 1) := by decide +kernel
theorem dX11_steps_136 : decode cX11_steps 136 = .ok (.ireturn, 1) := by decide +kernel
theorem dX11_steps_137 : decode cX11_steps 137 = .ok (.aload_n 0, 1) := by decide +kernel
theorem dX11_steps_138 : decode cX11_steps 138 = .ok (.getfield 66, 3) := by decide +kernel
theorem dX11_steps_141 : decode cX11_steps 141 = .ok (.aload_n 0, 1) := by decide +kernel
theorem dX11_steps_142 : decode cX11_steps 142 = .ok (.getfield 69, 3) := by decide +kernel
theorem dX11_steps_145 : decode cX11_steps 145 = .ok (.iadd, 1) := by decide +kernel
theorem dX11_steps_146 : decode cX11_steps 146 = .ok (.aload_n 0, 1) := by decide +kernel
theorem dX11_steps_147 : decode cX11_steps 147 = .ok (.getfield 72, 3) := by decide +kernel
theorem dX11_steps_150 : decode cX11_steps 150 = .ok (.aload_n 0, 1) := by decide +kernel
theorem dX11_steps_151 : decode cX11_steps 151 = .ok (.getfield 75, 3) := by decide +kernel
theorem dX11_steps_154 : decode cX11_steps 154 = .ok (.iadd, 1) := by decide +kernel
theorem dX11_steps_155 : decode cX11_steps 155 = .ok (.if_icmp .le 18, 3) := by decide +kernel
theorem dX11_steps_158 : decode cX11_steps 158 = .ok (.aload_n 0, 1) := by decide +kernel
theorem dX11_steps_159 : decode cX11_steps 159 = .ok (.aload_n 0, 1) := by decide +kernel
theorem dX11_steps_160 : decode cX11_steps 160 = .ok (.getfield 66, 3) := by decide +kernel
theorem dX11_steps_163 : decode cX11_steps 163 = .ok (.aload_n 0, 1) := by decide +kernel
theorem dX11_steps_164 : decode cX11_steps 164 = .ok (.getfield 69, 3) := by decide +kernel
theorem dX11_steps_167 : decode cX11_steps 167 = .ok (.invokevirtual 98, 3) := by decide +kernel
theorem dX11_steps_170 : decode cX11_steps 170 = .ok (.goto 15, 3) := by decide +kernel
theorem dX11_steps_173 : decode cX11_steps 173 = .ok (.aload_n 0, 1) := by decide +kernel
theorem dX11_steps_174 : decode cX11_steps 174 = .ok (.aload_n 0, 1) := by decide +kernel
theorem dX11_steps_175 : decode cX11_steps 175 = .ok (.getfield 72, 3) := by decide +kernel
theorem dX11_steps_178 : decode cX11_steps 178 = .ok (.aload_n 0, 1) := by decide +kernel
theorem dX11_steps_179 : decode cX11_steps 179 = .ok (.getfield 75, 3) := by decide +kernel
theorem dX11_steps_182 : decode cX11_steps 182 = .ok (.invokevirtual 98, 3) := by decide +kernel
theorem dX11_steps_185 : decode cX11_steps 185 = .ok (.iconst 1, 1) := by decide +kernel
theorem dX11_steps_186 : decode cX11_steps 186 = .ok (.ireturn, 1) := by decide +kernel
theorem dX11_steps_187 : decode cX11_steps 187 = .ok (.aload_n 0, 1) := by decide +kernel
theorem dX11_steps_188 : decode cX11_steps 188 = .ok (.iconst 1, 1) := by decide +kernel
theorem dX11_steps_189 : decode cX11_steps 189 = .ok (.iconst 1, 1) := by decide +kernel
theorem dX11_steps_190 : decode cX11_steps 190 = .ok (.invokevirtual 98, 3) := by decide +kernel
theorem dX11_steps_193 : decode cX11_steps 193 = .ok (.iconst 1, 1) := by decide +kernel
theorem dX11_steps_194 : decode cX11_steps 194 = .ok (.ireturn, 1) := by decide +kernel
theorem dX11_stepsOnce_0 : decode cX11_stepsOnce 0 = .ok (.aload_n 0, 1) := by decide +kernel
theorem dX11_stepsOnce_1 : decode cX11_stepsOnce 1 = .ok (.iconst 0, 1) := by decide +kernel
theorem dX11_stepsOnce_2 : decode cX11_stepsOnce 2 = .ok (.putfield 1, 3) := by decide +kernel
theorem dX11_stepsOnce_5 : decode cX11_stepsOnce 5 = .ok (.aload_n 0, 1) := by decide +kernel
theorem dX11_stepsOnce_6 : decode cX11_stepsOnce 6 = .ok (.getfield 24, 3) := by decide +kernel
theorem dX11_stepsOnce_9 : decode cX11_stepsOnce 9 = .ok (.iconst 0, 1) := by decide +kernel
theorem dX11_stepsOnce_10 : decode cX11_stepsOnce 10 = .ok (.aload_n 0, 1) := by decide +kernel
theorem dX11_stepsOnce_11 : decode cX11_stepsOnce 11 = .ok (.getfield 33, 3) := by decide +kernel
theorem dX11_stepsOnce_14 : decode cX11_stepsOnce 14 = .ok (.iconst 0, 1) := by decide +kernel
theorem dX11_stepsOnce_15 : decode cX11_stepsOnce 15 = .ok (.invokestatic 59, 3) := by decide +kernel
theorem dX11_stepsOnce_18 : decode cX11_stepsOnce 18 = .ok (.aload_n 0, 1) := by decide +kernel
theorem dX11_stepsOnce_19 : decode cX11_stepsOnce 19 = .ok (.iload_n 1, 1) := by decide +kernel
theorem dX11_stepsOnce_20 : decode cX11_stepsOnce 20 = .ok (.invokevirtual 101, 3) := by decide +kernel
theorem dX11_stepsOnce_23 : decode cX11_stepsOnce 23 = .ok (.ifCond .ne 5, 3) := by decide +kernel
theorem dX11_stepsOnce_26 : decode cX11_stepsOnce 26 = .ok (.iconst (-1), 1) := by decide +kernel
theorem dX11_stepsOnce_27 : decode cX11_stepsOnce 27 = .ok (.ireturn, 1) := by decide +kernel
theorem dX11_stepsOnce_28 : decode cX11_stepsOnce 28 = .ok (.aload_n 0, 1) := by decide +kernel
theorem dX11_stepsOnce_29 : decode cX11_stepsOnce 29 = .ok (.invokevirtual 105, 3) := by decide +kernel
theorem dX11_stepsOnce_32 : decode cX11_stepsOnce 32 = .ok (.aload_n 0, 1) := by decide +kernel
theorem dX11_stepsOnce_33 : decode cX11_stepsOnce 33 = .ok (.getfield 24, 3) := by decide +kernel
theorem dX11_stepsOnce_36 : decode cX11_stepsOnce 36 = .ok (.iconst 0, 1) := by decide +kernel
theorem dX11_stepsOnce_37 : decode cX11_stepsOnce 37 = .ok (.iaload, 1) := by decide +kernel
theorem dX11_stepsOnce_38 : decode cX11_stepsOnce 38 = .ok (.aload_n 0, 1) := by decide +kernel
theorem dX11_stepsOnce_39 : decode cX11_stepsOnce 39 = .ok (.getfield 24, 3) := by decide +kernel
theorem dX11_stepsOnce_42 : decode cX11_stepsOnce 42 = .ok (.iconst 1, 1) := by decide +kernel
theorem dX11_stepsOnce_43 : decode cX11_stepsOnce 43 = .ok (.iaload, 1) := by decide +kernel
theorem dX11_stepsOnce_44 : decode cX11_stepsOnce 44 = .ok (.iadd, 1) := by decide +kernel
theorem dX11_stepsOnce_45 : decode cX11_stepsOnce 45 = .ok (.ireturn, 1) := by decide +kernel
theorem dX11_left_0 : decode cX11_left 0 = .ok (.aload_n 0, 1) := by decide +kernel
theorem dX11_left_1 : decode cX11_left 1 = .ok (.bipush 108, 2) := by decide +kernel
theorem dX11_left_3 : decode cX11_left 3 = .ok (.invokevirtual 108, 3) := by decide +kernel
theorem dX11_left_6 : decode cX11_left 6 = .ok (.ireturn, 1) := by decide +kernel
theorem dX11_right_0 : decode cX11_right 0 = .ok (.aload_n 0, 1) := by decide +kernel
theorem dX11_right_1 : decode cX11_right 1 = .ok (.bipush 114, 2) := by decide +kernel
theorem dX11_right_3 : decode cX11_right 3 = .ok (.invokevirtual 108, 3) := by decide +kernel
theorem dX11_right_6 : decode cX11_right 6 = .ok (.ireturn, 1) := by decide +kernel
theorem dX11_up_0 : decode cX11_up 0 = .ok (.aload_n 0, 1) := by decide +kernel
theorem dX11_up_1 : decode cX11_up 1 = .ok (.bipush 117, 2) := by decide +kernel
theorem dX11_up_3 : decode cX11_up 3 = .ok (.invokevirtual 108, 3) := by decide +kernel
theorem dX11_up_6 : decode cX11_up 6 = .ok (.ireturn, 1) := by decide +kernel
theorem dX11_depth_0 : decode cX11_depth 0 = .ok (.aload_n 0, 1) := by decide +kernel
theorem dX11_depth_1 : decode cX11_depth 1 = .ok (.invokevirtual 95, 3) := by decide +kernel
theorem dX11_depth_4 : decode cX11_depth 4 = .ok (.aload_n 0, 1) := by decide +kernel
theorem dX11_depth_5 : decode cX11_depth 5 = .ok (.getfield 78, 3) := by decide +kernel
theorem dX11_depth_8 : decode cX11_depth 8 = .ok (.ireturn, 1) := by decide +kernel
theorem dX11_goesThere_0 : decode cX11_goesThere 0 = .ok (.aload_n 0, 1) := by decide +kernel
theorem dX11_goesThere_1 : decode cX11_goesThere 1 = .ok (.getfield 24, 3) := by decide +kernel
theorem dX11_goesThere_4 : decode cX11_goesThere 4 = .ok (.iconst 0, 1) := by decide +kernel
theorem dX11_goesThere_5 : decode cX11_goesThere 5 = .ok (.iaload, 1) := by decide +kernel
theorem dX11_goesThere_6 : decode cX11_goesThere 6 = .ok (.iload_n 1, 1) := by decide +kernel
theorem dX11_goesThere_7 : decode cX11_goesThere 7 = .ok (.if_icmp .ne 15, 3) := by decide +kernel
theorem dX11_goesThere_10 : decode cX11_goesThere 10 = .ok (.aload_n 0, 1) := by decide +kernel
theorem dX11_goesThere_11 : decode cX11_goesThere 11 = .ok (.getfield 24, 3) := by decide +kernel
theorem dX11_goesThere_14 : decode cX11_goesThere 14 = .ok (.iconst 1, 1) := by decide +kernel
theorem dX11_goesThere_15 : decode cX11_goesThere 15 = .ok (.iaload, 1) := by decide +kernel
theorem dX11_goesThere_16 : decode cX11_goesThere 16 = .ok (.iload_n 2, 1) := by decide +kernel
theorem dX11_goesThere_17 : decode cX11_goesThere 17 = .ok (.if_icmp .ne 5, 3) := by decide +kernel
theorem dX11_goesThere_20 : decode cX11_goesThere 20 = .ok (.iconst (-1), 1) := by decide +kernel
theorem dX11_goesThere_21 : decode cX11_goesThere 21 = .ok (.ireturn, 1) := by decide +kernel
theorem dX11_goesThere_22 : decode cX11_goesThere 22 = .ok (.aload_n 0, 1) := by decide +kernel
theorem dX11_goesThere_23 : decode cX11_goesThere 23 = .ok (.invokevirtual 63, 3) := by decide +kernel
theorem dX11_goesThere_26 : decode cX11_goesThere 26 = .ok (.aload_n 0, 1) := by decide +kernel
theorem dX11_goesThere_27 : decode cX11_goesThere 27 = .ok (.iload_n 1, 1) := by decide +kernel
theorem dX11_goesThere_28 : decode cX11_goesThere 28 = .ok (.iload_n 2, 1) := by decide +kernel
theorem dX11_goesThere_29 : decode cX11_goesThere 29 = .ok (.invokevirtual 98, 3) := by decide +kernel
theorem dX11_goesThere_32 : decode cX11_goesThere 32 = .ok (.aload_n 0, 1) := by decide +kernel
theorem dX11_goesThere_33 : decode cX11_goesThere 33 = .ok (.invokevirtual 112, 3) := by decide +kernel
theorem dX11_goesThere_36 : decode cX11_goesThere 36 = .ok (.ireturn, 1) := by decide +kernel
theorem dX11_go_0 : decode cX11_go 0 = .ok (.aload_n 0, 1) := by decide +kernel
theorem dX11_go_1 : decode cX11_go 1 = .ok (.iconst 0, 1) := by decide +kernel
theorem dX11_go_2 : decode cX11_go 2 = .ok (.putfield 1, 3) := by decide +kernel
theorem dX11_go_5 : decode cX11_go 5 = .ok (.iload_n 1, 1) := by decide +kernel
theorem dX11_go_6 : decode cX11_go 6 = .ok (.iload_n 2, 1) := by decide +kernel
theorem dX11_go_7 : decode cX11_go 7 = .ok (.invokestatic 116, 3) := by decide +kernel
theorem dX11_go_10 : decode cX11_go 10 = .ok (.ifCond .eq 12, 3) := by decide +kernel
theorem dX11_go_13 : decode cX11_go 13 = .ok (.aload_n 0, 1) := by decide +kernel
theorem dX11_go_14 : decode cX11_go 14 = .ok (.iload_n 1, 1) := by decide +kernel
theorem dX11_go_15 : decode cX11_go 15 = .ok (.iload_n 2, 1) := by decide +kernel
theorem dX11_go_16 : decode cX11_go 16 = .ok (.invokevirtual 120, 3) := by decide +kernel
theorem dX11_go_19 : decode cX11_go 19 = .ok (.goto 4, 3) := by decide +kernel
theorem dX11_go_22 : decode cX11_go 22 = .ok (.iconst (-1), 1) := by decide +kernel
theorem dX11_go_23 : decode cX11_go 23 = .ok (.ireturn, 1) := by decide +kernel
theorem dX11_isA_0 : decode cX11_isA 0 = .ok (.iload_n 1, 1) := by decide +kernel
theorem dX11_isA_1 : decode cX11_isA 1 = .ok (.iconst 1, 1) := by decide +kernel
theorem dX11_isA_2 : decode cX11_isA 2 = .ok (.if_icmp .ne 15, 3) := by decide +kernel
theorem dX11_isA_5 : decode cX11_isA 5 = .ok (.iload_n 0, 1) := by decide +kernel
theorem dX11_isA_6 : decode cX11_isA 6 = .ok (.ifCond .ne 7, 3) := by decide +kernel
theorem dX11_isA_9 : decode cX11_isA 9 = .ok (.iconst 1, 1) := by decide +kernel
theorem dX11_isA_10 : decode cX11_isA 10 = .ok (.goto 27, 3) := by decide +kernel
theorem dX11_isA_13 : decode cX11_isA 13 = .ok (.iconst 0, 1) := by decide +kernel
theorem dX11_isA_14 : decode cX11_isA 14 = .ok (.goto 23, 3) := by decide +kernel
theorem dX11_isA_17 : decode cX11_isA 17 = .ok (.iload_n 2, 1) := by decide +kernel
theorem dX11_isA_18 : decode cX11_isA 18 = .ok (.iload_n 0, 1) := by decide +kernel
theorem dX11_isA_19 : decode cX11_isA 19 = .ok (.imul, 1) := by decide +kernel
theorem dX11_isA_20 : decode cX11_isA 20 = .ok (.iload_n 1, 1) := by decide +kernel
theorem dX11_isA_21 : decode cX11_isA 21 = .ok (.irem, 1) := by decide +kernel
theorem dX11_isA_22 : decode cX11_isA 22 = .ok (.iload_n 2, 1) := by decide +kernel
theorem dX11_isA_23 : decode cX11_isA 23 = .ok (.iconst 1, 1) := by decide +kernel
theorem dX11_isA_24 : decode cX11_isA 24 = .ok (.isub, 1) := by decide +kernel
theorem dX11_isA_25 : decode cX11_isA 25 = .ok (.iload_n 0, 1) := by decide +kernel
theorem dX11_isA_26 : decode cX11_isA 26 = .ok (.imul, 1) := by decide +kernel
theorem dX11_isA_27 : decode cX11_isA 27 = .ok (.iload_n 1, 1) := by decide +kernel
theorem dX11_isA_28 : decode cX11_isA 28 = .ok (.irem, 1) := by decide +kernel
theorem dX11_isA_29 : decode cX11_isA 29 = .ok (.if_icmp .le 7, 3) := by decide +kernel
theorem dX11_isA_32 : decode cX11_isA 32 = .ok (.iconst 1, 1) := by decide +kernel
theorem dX11_isA_33 : decode cX11_isA 33 = .ok (.goto 4, 3) := by decide +kernel
theorem dX11_isA_36 : decode cX11_isA 36 = .ok (.iconst 0, 1) := by decide +kernel
theorem dX11_isA_37 : decode cX11_isA 37 = .ok (.ireturn, 1) := by decide +kernel
theorem dX11_laysMatrix_0 : decode cX11_laysMatrix 0 = .ok (.aload_n 0, 1) := by decide +kernel
theorem dX11_laysMatrix_1 : decode cX11_laysMatrix 1 = .ok (.getfield 46, 3) := by decide +kernel
theorem dX11_laysMatrix_4 : decode cX11_laysMatrix 4 = .ok (.iconst 0, 1) := by decide +kernel
theorem dX11_laysMatrix_5 : decode cX11_laysMatrix 5 = .ok (.lconst 1, 1) := by decide +kernel
theorem dX11_laysMatrix_6 : decode cX11_laysMatrix 6 = .ok (.lastore, 1) := by decide +kernel
theorem dX11_laysMatrix_7 : decode cX11_laysMatrix 7 = .ok (.aload_n 0, 1) := by decide +kernel
theorem dX11_laysMatrix_8 : decode cX11_laysMatrix 8 = .ok (.getfield 46, 3) := by decide +kernel
theorem dX11_laysMatrix_11 : decode cX11_laysMatrix 11 = .ok (.iconst 1, 1) := by decide +kernel
theorem dX11_laysMatrix_12 : decode cX11_laysMatrix 12 = .ok (.lconst 0, 1) := by decide +kernel
theorem dX11_laysMatrix_13 : decode cX11_laysMatrix 13 = .ok (.lastore, 1) := by decide +kernel
theorem dX11_laysMatrix_14 : decode cX11_laysMatrix 14 = .ok (.aload_n 0, 1) := by decide +kernel
theorem dX11_laysMatrix_15 : decode cX11_laysMatrix 15 = .ok (.getfield 46, 3) := by decide +kernel
theorem dX11_laysMatrix_18 : decode cX11_laysMatrix 18 = .ok (.iconst 2, 1) := by decide +kernel
theorem dX11_laysMatrix_19 : decode cX11_laysMatrix 19 = .ok (.lconst 0, 1) := by decide +kernel
theorem dX11_laysMatrix_20 : decode cX11_laysMatrix 20 = .ok (.lastore, 1) := by decide +kernel
theorem dX11_laysMatrix_21 : decode cX11_laysMatrix 21 = .ok (.aload_n 0, 1) := by decide +kernel
theorem dX11_laysMatrix_22 : decode cX11_laysMatrix 22 = .ok (.getfield 46, 3) := by decide +kernel
theorem dX11_laysMatrix_25 : decode cX11_laysMatrix 25 = .ok (.iconst 3, 1) := by decide +kernel
theorem dX11_laysMatrix_26 : decode cX11_laysMatrix 26 = .ok (.lconst 1, 1) := by decide +kernel
theorem dX11_laysMatrix_27 : decode cX11_laysMatrix 27 = .ok (.lastore, 1) := by decide +kernel
theorem dX11_laysMatrix_28 : decode cX11_laysMatrix 28 = .ok (.iconst 1, 1) := by decide +kernel
theorem dX11_laysMatrix_29 : decode cX11_laysMatrix 29 = .ok (.istore_n 3, 1) := by decide +kernel
theorem dX11_laysMatrix_30 : decode cX11_laysMatrix 30 = .ok (.iload_n 3, 1) := by decide +kernel
theorem dX11_laysMatrix_31 : decode cX11_laysMatrix 31 = .ok (.iload_n 1, 1) := by decide +kernel
theorem dX11_laysMatrix_32 : decode cX11_laysMatrix 32 = .ok (.iload_n 2, 1) := by decide +kernel
theorem dX11_laysMatrix_33 : decode cX11_laysMatrix 33 = .ok (.iadd, 1) := by decide +kernel
theorem dX11_laysMatrix_34 : decode cX11_laysMatrix 34 = .ok (.if_icmp .gt 119, 3) := by decide +kernel
theorem dX11_laysMatrix_37 : decode cX11_laysMatrix 37 = .ok (.iload_n 1, 1) := by decide +kernel
theorem dX11_laysMatrix_38 : decode cX11_laysMatrix 38 = .ok (.iload_n 1, 1) := by decide +kernel
theorem dX11_laysMatrix_39 : decode cX11_laysMatrix 39 = .ok (.iload_n 2, 1) := by decide +kernel
theorem dX11_laysMatrix_40 : decode cX11_laysMatrix 40 = .ok (.iadd, 1) := by decide +kernel
theorem dX11_laysMatrix_41 : decode cX11_laysMatrix 41 = .ok (.iload_n 3, 1) := by decide +kernel
theorem dX11_laysMatrix_42 : decode cX11_laysMatrix 42 = .ok (.invokestatic 123, 3) := by decide +kernel
theorem dX11_laysMatrix_45 : decode cX11_laysMatrix 45 = .ok (.istore 4, 2) := by decide +kernel
theorem dX11_laysMatrix_47 : decode cX11_laysMatrix 47 = .ok (.iload 4, 2) := by decide +kernel
theorem dX11_laysMatrix_49 : decode cX11_laysMatrix 49 = .ok (.ifCond .eq 9, 3) := by decide +kernel
theorem dX11_laysMatrix_52 : decode cX11_laysMatrix 52 = .ok (.ldc2_w 127, 3) := by decide +kernel
theorem dX11_laysMatrix_55 : decode cX11_laysMatrix 55 = .ok (.goto 6, 3) := by decide +kernel
theorem dX11_laysMatrix_58 : decode cX11_laysMatrix 58 = .ok (.ldc2_w 129, 3) := by decide +kernel
theorem dX11_laysMatrix_61 : decode cX11_laysMatrix 61 = .ok (.lstore 5, 2) := by decide +kernel
theorem dX11_laysMatrix_63 : decode cX11_laysMatrix 63 = .ok (.iload 4, 2) := by decide +kernel
theorem dX11_laysMatrix_65 : decode cX11_laysMatrix 65 = .ok (.ifCond .eq 7, 3) := by decide +kernel
theorem dX11_laysMatrix_68 : decode cX11_laysMatrix 68 = .ok (.lconst 1, 1) := by decide +kernel
theorem dX11_laysMatrix_69 : decode cX11_laysMatrix 69 = .ok (.goto 6, 3) := by decide +kernel
theorem dX11_laysMatrix_72 : decode cX11_laysMatrix 72 = .ok (.ldc2_w 127, 3) := by decide +kernel
theorem dX11_laysMatrix_75 : decode cX11_laysMatrix 75 = .ok (.lstore 7, 2) := by decide +kernel
theorem dX11_laysMatrix_77 : decode cX11_laysMatrix 77 = .ok (.iconst 0, 1) := by decide +kernel
theorem dX11_laysMatrix_78 : decode cX11_laysMatrix 78 = .ok (.istore 9, 2) := by decide +kernel
theorem dX11_laysMatrix_80 : decode cX11_laysMatrix 80 = .ok (.iload 9, 2) := by decide +kernel
theorem dX11_laysMatrix_82 : decode cX11_laysMatrix 82 = .ok (.iconst 4, 1) := by decide +kernel
theorem dX11_laysMatrix_83 : decode cX11_laysMatrix 83 = .ok (.if_icmp .ge 64, 3) := by decide +kernel
theorem dX11_laysMatrix_86 : decode cX11_laysMatrix 86 = .ok (.aload_n 0, 1) := by decide +kernel
theorem dX11_laysMatrix_87 : decode cX11_laysMatrix 87 = .ok (.getfield 46, 3) := by decide +kernel
theorem dX11_laysMatrix_90 : decode cX11_laysMatrix 90 = .ok (.iload 9, 2) := by decide +kernel
theorem dX11_laysMatrix_92 : decode cX11_laysMatrix 92 = .ok (.laload, 1) := by decide +kernel
theorem dX11_laysMatrix_93 : decode cX11_laysMatrix 93 = .ok (.lstore 10, 2) := by decide +kernel
theorem dX11_laysMatrix_95 : decode cX11_laysMatrix 95 = .ok (.aload_n 0, 1) := by decide +kernel
theorem dX11_laysMatrix_96 : decode cX11_laysMatrix 96 = .ok (.getfield 46, 3) := by decide +kernel
theorem dX11_laysMatrix_99 : decode cX11_laysMatrix 99 = .ok (.iload 9, 2) := by decide +kernel
theorem dX11_laysMatrix_101 : decode cX11_laysMatrix 101 = .ok (.iconst 1, 1) := by decide +kernel
theorem dX11_laysMatrix_102 : decode cX11_laysMatrix 102 = .ok (.iadd, 1) := by decide +kernel
theorem dX11_laysMatrix_103 : decode cX11_laysMatrix 103 = .ok (.laload, 1) := by decide +kernel
theorem dX11_laysMatrix_104 : decode cX11_laysMatrix 104 = .ok (.lstore 12, 2) := by decide +kernel
theorem dX11_laysMatrix_106 : decode cX11_laysMatrix 106 = .ok (.aload_n 0, 1) := by decide +kernel
theorem dX11_laysMatrix_107 : decode cX11_laysMatrix 107 = .ok (.getfield 46, 3) := by decide +kernel
theorem dX11_laysMatrix_110 : decode cX11_laysMatrix 110 = .ok (.iload 9, 2) := by decide +kernel
theorem dX11_laysMatrix_112 : decode cX11_laysMatrix 112 = .ok (.lload 10, 2) := by decide +kernel
theorem dX11_laysMatrix_114 : decode cX11_laysMatrix 114 = .ok (.lload 5, 2) := by decide +kernel
theorem dX11_laysMatrix_116 : decode cX11_laysMatrix 116 = .ok (.lmul, 1) := by decide +kernel
theorem dX11_laysMatrix_117 : decode cX11_laysMatrix 117 = .ok (.lload 12, 2) := by decide +kernel
theorem dX11_laysMatrix_119 : decode cX11_laysMatrix 119 = .ok (.lload 7, 2) := by decide +kernel
theorem dX11_laysMatrix_121 : decode cX11_laysMatrix 121 = .ok (.lmul, 1) := by decide +kernel
theorem dX11_laysMatrix_122 : decode cX11_laysMatrix 122 = .ok (.ladd, 1) := by decide +kernel
theorem dX11_laysMatrix_123 : decode cX11_laysMatrix 123 = .ok (.lastore, 1) := by decide +kernel
theorem dX11_laysMatrix_124 : decode cX11_laysMatrix 124 = .ok (.aload_n 0, 1) := by decide +kernel
theorem dX11_laysMatrix_125 : decode cX11_laysMatrix 125 = .ok (.getfield 46, 3) := by decide +kernel
theorem dX11_laysMatrix_128 : decode cX11_laysMatrix 128 = .ok (.iload 9, 2) := by decide +kernel
theorem dX11_laysMatrix_130 : decode cX11_laysMatrix 130 = .ok (.iconst 1, 1) := by decide +kernel
theorem dX11_laysMatrix_131 : decode cX11_laysMatrix 131 = .ok (.iadd, 1) := by decide +kernel
theorem dX11_laysMatrix_132 : decode cX11_laysMatrix 132 = .ok (.lload 10, 2) := by decide +kernel
theorem dX11_laysMatrix_134 : decode cX11_laysMatrix 134 = .ok (.lload 7, 2) := by decide +kernel
theorem dX11_laysMatrix_136 : decode cX11_laysMatrix 136 = .ok (.lmul, 1) := by decide +kernel
theorem dX11_laysMatrix_137 : decode cX11_laysMatrix 137 = .ok (.lload 12, 2) := by decide +kernel
theorem dX11_laysMatrix_139 : decode cX11_laysMatrix 139 = .ok (.ladd, 1) := by decide +kernel
theorem dX11_laysMatrix_140 : decode cX11_laysMatrix 140 = .ok (.lastore, 1) := by decide +kernel
theorem dX11_laysMatrix_141 : decode cX11_laysMatrix 141 = .ok (.iinc 9 2, 3) := by decide +kernel
theorem dX11_laysMatrix_144 : decode cX11_laysMatrix 144 = .ok (.goto (-64), 3) := by decide +kernel
theorem dX11_laysMatrix_147 : decode cX11_laysMatrix 147 = .ok (.iinc 3 1, 3) := by decide +kernel
theorem dX11_laysMatrix_150 : decode cX11_laysMatrix 150 = .ok (.goto (-120), 3) := by decide +kernel
theorem dX11_laysMatrix_153 : decode cX11_laysMatrix 153 = .ok (.return_, 1) := by decide +kernel
theorem dX11_numberOf_0 : decode cX11_numberOf 0 = .ok (.aload_n 0, 1) := by decide +kernel
theorem dX11_numberOf_1 : decode cX11_numberOf 1 = .ok (.iload_n 1, 1) := by decide +kernel
theorem dX11_numberOf_2 : decode cX11_numberOf 2 = .ok (.iload_n 2, 1) := by decide +kernel
theorem dX11_numberOf_3 : decode cX11_numberOf 3 = .ok (.invokevirtual 131, 3) := by decide +kernel
theorem dX11_numberOf_6 : decode cX11_numberOf 6 = .ok (.aload_n 0, 1) := by decide +kernel
theorem dX11_numberOf_7 : decode cX11_numberOf 7 = .ok (.getfield 46, 3) := by decide +kernel
theorem dX11_numberOf_10 : decode cX11_numberOf 10 = .ok (.iconst 1, 1) := by decide +kernel
theorem dX11_numberOf_11 : decode cX11_numberOf 11 = .ok (.laload, 1) := by decide +kernel
theorem dX11_numberOf_12 : decode cX11_numberOf 12 = .ok (.lreturn, 1) := by decide +kernel
theorem dX11_number_0 : decode cX11_number 0 = .ok (.aload_n 0, 1) := by decide +kernel
theorem dX11_number_1 : decode cX11_number 1 = .ok (.aload_n 0, 1) := by decide +kernel
theorem dX11_number_2 : decode cX11_number 2 = .ok (.getfield 24, 3) := by decide +kernel
theorem dX11_number_5 : decode cX11_number 5 = .ok (.iconst 0, 1) := by decide +kernel
theorem dX11_number_6 : decode cX11_number 6 = .ok (.iaload, 1) := by decide +kernel
theorem dX11_number_7 : decode cX11_number 7 = .ok (.aload_n 0, 1) := by decide +kernel
theorem dX11_number_8 : decode cX11_number 8 = .ok (.getfield 24, 3) := by decide +kernel
theorem dX11_number_11 : decode cX11_number 11 = .ok (.iconst 1, 1) := by decide +kernel
theorem dX11_number_12 : decode cX11_number 12 = .ok (.iaload, 1) := by decide +kernel
theorem dX11_number_13 : decode cX11_number 13 = .ok (.invokevirtual 134, 3) := by decide +kernel
theorem dX11_number_16 : decode cX11_number 16 = .ok (.lreturn, 1) := by decide +kernel
theorem dX11_triple_0 : decode cX11_triple 0 = .ok (.aload_n 0, 1) := by decide +kernel
theorem dX11_triple_1 : decode cX11_triple 1 = .ok (.iconst 0, 1) := by decide +kernel
theorem dX11_triple_2 : decode cX11_triple 2 = .ok (.putfield 1, 3) := by decide +kernel
theorem dX11_triple_5 : decode cX11_triple 5 = .ok (.aload_n 0, 1) := by decide +kernel
theorem dX11_triple_6 : decode cX11_triple 6 = .ok (.invokevirtual 95, 3) := by decide +kernel
theorem dX11_triple_9 : decode cX11_triple 9 = .ok (.iload_n 1, 1) := by decide +kernel
theorem dX11_triple_10 : decode cX11_triple 10 = .ok (.tableswitch 57 0 2 #[26, 39, 52], 26) := by decide +kernel
theorem dX11_triple_36 : decode cX11_triple 36 = .ok (.aload_n 0, 1) := by decide +kernel
theorem dX11_triple_37 : decode cX11_triple 37 = .ok (.aload_n 0, 1) := by decide +kernel
theorem dX11_triple_38 : decode cX11_triple 38 = .ok (.getfield 66, 3) := by decide +kernel
theorem dX11_triple_41 : decode cX11_triple 41 = .ok (.aload_n 0, 1) := by decide +kernel
theorem dX11_triple_42 : decode cX11_triple 42 = .ok (.getfield 69, 3) := by decide +kernel
theorem dX11_triple_45 : decode cX11_triple 45 = .ok (.invokevirtual 134, 3) := by decide +kernel
theorem dX11_triple_48 : decode cX11_triple 48 = .ok (.lreturn, 1) := by decide +kernel
theorem dX11_triple_49 : decode cX11_triple 49 = .ok (.aload_n 0, 1) := by decide +kernel
theorem dX11_triple_50 : decode cX11_triple 50 = .ok (.aload_n 0, 1) := by decide +kernel
theorem dX11_triple_51 : decode cX11_triple 51 = .ok (.getfield 72, 3) := by decide +kernel
theorem dX11_triple_54 : decode cX11_triple 54 = .ok (.aload_n 0, 1) := by decide +kernel
theorem dX11_triple_55 : decode cX11_triple 55 = .ok (.getfield 75, 3) := by decide +kernel
theorem dX11_triple_58 : decode cX11_triple 58 = .ok (.invokevirtual 134, 3) := by decide +kernel
theorem dX11_triple_61 : decode cX11_triple 61 = .ok (.lreturn, 1) := by decide +kernel
theorem dX11_triple_62 : decode cX11_triple 62 = .ok (.aload_n 0, 1) := by decide +kernel
theorem dX11_triple_63 : decode cX11_triple 63 = .ok (.invokevirtual 138, 3) := by decide +kernel
theorem dX11_triple_66 : decode cX11_triple 66 = .ok (.lreturn, 1) := by decide +kernel
theorem dX11_triple_67 : decode cX11_triple 67 = .ok (.aload_n 0, 1) := by decide +kernel
theorem dX11_triple_68 : decode cX11_triple 68 = .ok (.invokevirtual 142, 3) := by decide +kernel
theorem dX11_triple_71 : decode cX11_triple 71 = .ok (.i2l, 1) := by decide +kernel
theorem dX11_triple_72 : decode cX11_triple 72 = .ok (.lreturn, 1) := by decide +kernel
theorem dX11_letter_0 : decode cX11_letter 0 = .ok (.aload_n 0, 1) := by decide +kernel
theorem dX11_letter_1 : decode cX11_letter 1 = .ok (.iconst 0, 1) := by decide +kernel
theorem dX11_letter_2 : decode cX11_letter 2 = .ok (.putfield 1, 3) := by decide +kernel
theorem dX11_letter_5 : decode cX11_letter 5 = .ok (.aload_n 0, 1) := by decide +kernel
theorem dX11_letter_6 : decode cX11_letter 6 = .ok (.getfield 24, 3) := by decide +kernel
theorem dX11_letter_9 : decode cX11_letter 9 = .ok (.iconst 0, 1) := by decide +kernel
theorem dX11_letter_10 : decode cX11_letter 10 = .ok (.iaload, 1) := by decide +kernel
theorem dX11_letter_11 : decode cX11_letter 11 = .ok (.aload_n 0, 1) := by decide +kernel
theorem dX11_letter_12 : decode cX11_letter 12 = .ok (.getfield 24, 3) := by decide +kernel
theorem dX11_letter_15 : decode cX11_letter 15 = .ok (.iconst 1, 1) := by decide +kernel
theorem dX11_letter_16 : decode cX11_letter 16 = .ok (.iaload, 1) := by decide +kernel
theorem dX11_letter_17 : decode cX11_letter 17 = .ok (.iadd, 1) := by decide +kernel
theorem dX11_letter_18 : decode cX11_letter 18 = .ok (.istore_n 2, 1) := by decide +kernel
theorem dX11_letter_19 : decode cX11_letter 19 = .ok (.iload_n 1, 1) := by decide +kernel
theorem dX11_letter_20 : decode cX11_letter 20 = .ok (.i2l, 1) := by decide +kernel
theorem dX11_letter_21 : decode cX11_letter 21 = .ok (.lconst 1, 1) := by decide +kernel
theorem dX11_letter_22 : decode cX11_letter 22 = .ok (.iload_n 2, 1) := by decide +kernel
theorem dX11_letter_23 : decode cX11_letter 23 = .ok (.i2l, 1) := by decide +kernel
theorem dX11_letter_24 : decode cX11_letter 24 = .ok (.invokestatic 91, 3) := by decide +kernel
theorem dX11_letter_27 : decode cX11_letter 27 = .ok (.ifCond .ne 7, 3) := by decide +kernel
theorem dX11_letter_30 : decode cX11_letter 30 = .ok (.iconst (-1), 1) := by decide +kernel
theorem dX11_letter_31 : decode cX11_letter 31 = .ok (.goto 24, 3) := by decide +kernel
theorem dX11_letter_34 : decode cX11_letter 34 = .ok (.aload_n 0, 1) := by decide +kernel
theorem dX11_letter_35 : decode cX11_letter 35 = .ok (.getfield 24, 3) := by decide +kernel
theorem dX11_letter_38 : decode cX11_letter 38 = .ok (.iconst 0, 1) := by decide +kernel
theorem dX11_letter_39 : decode cX11_letter 39 = .ok (.iaload, 1) := by decide +kernel
theorem dX11_letter_40 : decode cX11_letter 40 = .ok (.iload_n 2, 1) := by decide +kernel
theorem dX11_letter_41 : decode cX11_letter 41 = .ok (.iload_n 1, 1) := by decide +kernel
theorem dX11_letter_42 : decode cX11_letter 42 = .ok (.invokestatic 123, 3) := by decide +kernel
theorem dX11_letter_45 : decode cX11_letter 45 = .ok (.ifCond .eq 8, 3) := by decide +kernel
theorem dX11_letter_48 : decode cX11_letter 48 = .ok (.bipush 97, 2) := by decide +kernel
theorem dX11_letter_50 : decode cX11_letter 50 = .ok (.goto 5, 3) := by decide +kernel
theorem dX11_letter_53 : decode cX11_letter 53 = .ok (.bipush 98, 2) := by decide +kernel
theorem dX11_letter_55 : decode cX11_letter 55 = .ok (.ireturn, 1) := by decide +kernel
theorem dX11_cut_0 : decode cX11_cut 0 = .ok (.aload_n 0, 1) := by decide +kernel
theorem dX11_cut_1 : decode cX11_cut 1 = .ok (.iconst 0, 1) := by decide +kernel
theorem dX11_cut_2 : decode cX11_cut 2 = .ok (.putfield 1, 3) := by decide +kernel
theorem dX11_cut_5 : decode cX11_cut 5 = .ok (.iconst 1, 1) := by decide +kernel
theorem dX11_cut_6 : decode cX11_cut 6 = .ok (.istore_n 1, 1) := by decide +kernel
theorem dX11_cut_7 : decode cX11_cut 7 = .ok (.iload_n 1, 1) := by decide +kernel
theorem dX11_cut_8 : decode cX11_cut 8 = .ok (.aload_n 0, 1) := by decide +kernel
theorem dX11_cut_9 : decode cX11_cut 9 = .ok (.getfield 24, 3) := by decide +kernel
theorem dX11_cut_12 : decode cX11_cut 12 = .ok (.iconst 0, 1) := by decide +kernel
theorem dX11_cut_13 : decode cX11_cut 13 = .ok (.iaload, 1) := by decide +kernel
theorem dX11_cut_14 : decode cX11_cut 14 = .ok (.imul, 1) := by decide +kernel
theorem dX11_cut_15 : decode cX11_cut 15 = .ok (.aload_n 0, 1) := by decide +kernel
theorem dX11_cut_16 : decode cX11_cut 16 = .ok (.getfield 24, 3) := by decide +kernel
theorem dX11_cut_19 : decode cX11_cut 19 = .ok (.iconst 0, 1) := by decide +kernel
theorem dX11_cut_20 : decode cX11_cut 20 = .ok (.iaload, 1) := by decide +kernel
theorem dX11_cut_21 : decode cX11_cut 21 = .ok (.aload_n 0, 1) := by decide +kernel
theorem dX11_cut_22 : decode cX11_cut 22 = .ok (.getfield 24, 3) := by decide +kernel
theorem dX11_cut_25 : decode cX11_cut 25 = .ok (.iconst 1, 1) := by decide +kernel
theorem dX11_cut_26 : decode cX11_cut 26 = .ok (.iaload, 1) := by decide +kernel
theorem dX11_cut_27 : decode cX11_cut 27 = .ok (.iadd, 1) := by decide +kernel
theorem dX11_cut_28 : decode cX11_cut 28 = .ok (.irem, 1) := by decide +kernel
theorem dX11_cut_29 : decode cX11_cut 29 = .ok (.iconst 1, 1) := by decide +kernel
theorem dX11_cut_30 : decode cX11_cut 30 = .ok (.if_icmp .eq 9, 3) := by decide +kernel
theorem dX11_cut_33 : decode cX11_cut 33 = .ok (.iinc 1 1, 3) := by decide +kernel
theorem dX11_cut_36 : decode cX11_cut 36 = .ok (.goto (-29), 3) := by decide +kernel
theorem dX11_cut_39 : decode cX11_cut 39 = .ok (.iload_n 1, 1) := by decide +kernel
theorem dX11_cut_40 : decode cX11_cut 40 = .ok (.ireturn, 1) := by decide +kernel
theorem dX11_matrix_0 : decode cX11_matrix 0 = .ok (.aload_n 0, 1) := by decide +kernel
theorem dX11_matrix_1 : decode cX11_matrix 1 = .ok (.iconst 0, 1) := by decide +kernel
theorem dX11_matrix_2 : decode cX11_matrix 2 = .ok (.putfield 1, 3) := by decide +kernel
theorem dX11_matrix_5 : decode cX11_matrix 5 = .ok (.iload_n 1, 1) := by decide +kernel
theorem dX11_matrix_6 : decode cX11_matrix 6 = .ok (.i2l, 1) := by decide +kernel
theorem dX11_matrix_7 : decode cX11_matrix 7 = .ok (.lconst 0, 1) := by decide +kernel
theorem dX11_matrix_8 : decode cX11_matrix 8 = .ok (.lconst 1, 1) := by decide +kernel
theorem dX11_matrix_9 : decode cX11_matrix 9 = .ok (.invokestatic 91, 3) := by decide +kernel
theorem dX11_matrix_12 : decode cX11_matrix 12 = .ok (.ifCond .eq 13, 3) := by decide +kernel
theorem dX11_matrix_15 : decode cX11_matrix 15 = .ok (.iload_n 2, 1) := by decide +kernel
theorem dX11_matrix_16 : decode cX11_matrix 16 = .ok (.i2l, 1) := by decide +kernel
theorem dX11_matrix_17 : decode cX11_matrix 17 = .ok (.lconst 0, 1) := by decide +kernel
theorem dX11_matrix_18 : decode cX11_matrix 18 = .ok (.lconst 1, 1) := by decide +kernel
theorem dX11_matrix_19 : decode cX11_matrix 19 = .ok (.invokestatic 91, 3) := by decide +kernel
theorem dX11_matrix_22 : decode cX11_matrix 22 = .ok (.ifCond .ne 9, 3) := by decide +kernel
theorem dX11_matrix_25 : decode cX11_matrix 25 = .ok (.aload_n 0, 1) := by decide +kernel
theorem dX11_matrix_26 : decode cX11_matrix 26 = .ok (.invokevirtual 142, 3) := by decide +kernel
theorem dX11_matrix_29 : decode cX11_matrix 29 = .ok (.i2l, 1) := by decide +kernel
theorem dX11_matrix_30 : decode cX11_matrix 30 = .ok (.lreturn, 1) := by decide +kernel
theorem dX11_matrix_31 : decode cX11_matrix 31 = .ok (.aload_n 0, 1) := by decide +kernel
theorem dX11_matrix_32 : decode cX11_matrix 32 = .ok (.aload_n 0, 1) := by decide +kernel
theorem dX11_matrix_33 : decode cX11_matrix 33 = .ok (.getfield 24, 3) := by decide +kernel
theorem dX11_matrix_36 : decode cX11_matrix 36 = .ok (.iconst 0, 1) := by decide +kernel
theorem dX11_matrix_37 : decode cX11_matrix 37 = .ok (.iaload, 1) := by decide +kernel
theorem dX11_matrix_38 : decode cX11_matrix 38 = .ok (.aload_n 0, 1) := by decide +kernel
theorem dX11_matrix_39 : decode cX11_matrix 39 = .ok (.getfield 24, 3) := by decide +kernel
theorem dX11_matrix_42 : decode cX11_matrix 42 = .ok (.iconst 1, 1) := by decide +kernel
theorem dX11_matrix_43 : decode cX11_matrix 43 = .ok (.iaload, 1) := by decide +kernel
theorem dX11_matrix_44 : decode cX11_matrix 44 = .ok (.invokevirtual 131, 3) := by decide +kernel
theorem dX11_matrix_47 : decode cX11_matrix 47 = .ok (.aload_n 0, 1) := by decide +kernel
theorem dX11_matrix_48 : decode cX11_matrix 48 = .ok (.getfield 46, 3) := by decide +kernel
theorem dX11_matrix_51 : decode cX11_matrix 51 = .ok (.iconst 2, 1) := by decide +kernel
theorem dX11_matrix_52 : decode cX11_matrix 52 = .ok (.iload_n 1, 1) := by decide +kernel
theorem dX11_matrix_53 : decode cX11_matrix 53 = .ok (.imul, 1) := by decide +kernel
theorem dX11_matrix_54 : decode cX11_matrix 54 = .ok (.iload_n 2, 1) := by decide +kernel
theorem dX11_matrix_55 : decode cX11_matrix 55 = .ok (.iadd, 1) := by decide +kernel
theorem dX11_matrix_56 : decode cX11_matrix 56 = .ok (.laload, 1) := by decide +kernel
theorem dX11_matrix_57 : decode cX11_matrix 57 = .ok (.lreturn, 1) := by decide +kernel
theorem dX11_laysForm_0 : decode cX11_laysForm 0 = .ok (.aload_n 0, 1) := by decide +kernel
theorem dX11_laysForm_1 : decode cX11_laysForm 1 = .ok (.invokevirtual 138, 3) := by decide +kernel
theorem dX11_laysForm_4 : decode cX11_laysForm 4 = .ok (.lstore_n 1, 1) := by decide +kernel
theorem dX11_laysForm_5 : decode cX11_laysForm 5 = .ok (.lload_n 1, 1) := by decide +kernel
theorem dX11_laysForm_6 : decode cX11_laysForm 6 = .ok (.ldc2_w 145, 3) := by decide +kernel
theorem dX11_laysForm_9 : decode cX11_laysForm 9 = .ok (.lcmp, 1) := by decide +kernel
theorem dX11_laysForm_10 : decode cX11_laysForm 10 = .ok (.ifCond .le 5, 3) := by decide +kernel
theorem dX11_laysForm_13 : decode cX11_laysForm 13 = .ok (.iconst 0, 1) := by decide +kernel
theorem dX11_laysForm_14 : decode cX11_laysForm 14 = .ok (.ireturn, 1) := by decide +kernel
theorem dX11_laysForm_15 : decode cX11_laysForm 15 = .ok (.aload_n 0, 1) := by decide +kernel
theorem dX11_laysForm_16 : decode cX11_laysForm 16 = .ok (.getfield 46, 3) := by decide +kernel
theorem dX11_laysForm_19 : decode cX11_laysForm 19 = .ok (.iconst 3, 1) := by decide +kernel
theorem dX11_laysForm_20 : decode cX11_laysForm 20 = .ok (.laload, 1) := by decide +kernel
theorem dX11_laysForm_21 : decode cX11_laysForm 21 = .ok (.lstore_n 3, 1) := by decide +kernel
theorem dX11_laysForm_22 : decode cX11_laysForm 22 = .ok (.aload_n 0, 1) := by decide +kernel
theorem dX11_laysForm_23 : decode cX11_laysForm 23 = .ok (.lload_n 1, 1) := by decide +kernel
theorem dX11_laysForm_24 : decode cX11_laysForm 24 = .ok (.putfield 147, 3) := by decide +kernel
theorem dX11_laysForm_27 : decode cX11_laysForm 27 = .ok (.aload_n 0, 1) := by decide +kernel
theorem dX11_laysForm_28 : decode cX11_laysForm 28 = .ok (.ldc2_w 151, 3) := by decide +kernel
theorem dX11_laysForm_31 : decode cX11_laysForm 31 = .ok (.lload_n 1, 1) := by decide +kernel
theorem dX11_laysForm_32 : decode cX11_laysForm 32 = .ok (.lmul, 1) := by decide +kernel
theorem dX11_laysForm_33 : decode cX11_laysForm 33 = .ok (.ldc2_w 127, 3) := by decide +kernel
theorem dX11_laysForm_36 : decode cX11_laysForm 36 = .ok (.lload_n 3, 1) := by decide +kernel
theorem dX11_laysForm_37 : decode cX11_laysForm 37 = .ok (.lmul, 1) := by decide +kernel
theorem dX11_laysForm_38 : decode cX11_laysForm 38 = .ok (.lsub, 1) := by decide +kernel
theorem dX11_laysForm_39 : decode cX11_laysForm 39 = .ok (.putfield 153, 3) := by decide +kernel
theorem dX11_laysForm_42 : decode cX11_laysForm 42 = .ok (.aload_n 0, 1) := by decide +kernel
theorem dX11_laysForm_43 : decode cX11_laysForm 43 = .ok (.lload_n 3, 1) := by decide +kernel
theorem dX11_laysForm_44 : decode cX11_laysForm 44 = .ok (.lload_n 3, 1) := by decide +kernel
theorem dX11_laysForm_45 : decode cX11_laysForm 45 = .ok (.lmul, 1) := by decide +kernel
theorem dX11_laysForm_46 : decode cX11_laysForm 46 = .ok (.lconst 1, 1) := by decide +kernel
theorem dX11_laysForm_47 : decode cX11_laysForm 47 = .ok (.ladd, 1) := by decide +kernel
theorem dX11_laysForm_48 : decode cX11_laysForm 48 = .ok (.lload_n 1, 1) := by decide +kernel
theorem dX11_laysForm_49 : decode cX11_laysForm 49 = .ok (.ldiv, 1) := by decide +kernel
theorem dX11_laysForm_50 : decode cX11_laysForm 50 = .ok (.ldc2_w 151, 3) := by decide +kernel
theorem dX11_laysForm_53 : decode cX11_laysForm 53 = .ok (.lload_n 3, 1) := by decide +kernel
theorem dX11_laysForm_54 : decode cX11_laysForm 54 = .ok (.lmul, 1) := by decide +kernel
theorem dX11_laysForm_55 : decode cX11_laysForm 55 = .ok (.lsub, 1) := by decide +kernel
theorem dX11_laysForm_56 : decode cX11_laysForm 56 = .ok (.putfield 156, 3) := by decide +kernel
theorem dX11_laysForm_59 : decode cX11_laysForm 59 = .ok (.aload_n 0, 1) := by decide +kernel
theorem dX11_laysForm_60 : decode cX11_laysForm 60 = .ok (.ldc2_w 159, 3) := by decide +kernel
theorem dX11_laysForm_63 : decode cX11_laysForm 63 = .ok (.lload_n 1, 1) := by decide +kernel
theorem dX11_laysForm_64 : decode cX11_laysForm 64 = .ok (.lmul, 1) := by decide +kernel
theorem dX11_laysForm_65 : decode cX11_laysForm 65 = .ok (.lload_n 1, 1) := by decide +kernel
theorem dX11_laysForm_66 : decode cX11_laysForm 66 = .ok (.lmul, 1) := by decide +kernel
theorem dX11_laysForm_67 : decode cX11_laysForm 67 = .ok (.ldc2_w 161, 3) := by decide +kernel
theorem dX11_laysForm_70 : decode cX11_laysForm 70 = .ok (.lsub, 1) := by decide +kernel
theorem dX11_laysForm_71 : decode cX11_laysForm 71 = .ok (.putfield 163, 3) := by decide +kernel
theorem dX11_laysForm_74 : decode cX11_laysForm 74 = .ok (.aload_n 0, 1) := by decide +kernel
theorem dX11_laysForm_75 : decode cX11_laysForm 75 = .ok (.lconst 0, 1) := by decide +kernel
theorem dX11_laysForm_76 : decode cX11_laysForm 76 = .ok (.putfield 166, 3) := by decide +kernel
theorem dX11_laysForm_79 : decode cX11_laysForm 79 = .ok (.ldc2_w 169, 3) := by decide +kernel
theorem dX11_laysForm_82 : decode cX11_laysForm 82 = .ok (.lstore 5, 2) := by decide +kernel
theorem dX11_laysForm_84 : decode cX11_laysForm 84 = .ok (.lload 5, 2) := by decide +kernel
theorem dX11_laysForm_86 : decode cX11_laysForm 86 = .ok (.lconst 0, 1) := by decide +kernel
theorem dX11_laysForm_87 : decode cX11_laysForm 87 = .ok (.lcmp, 1) := by decide +kernel
theorem dX11_laysForm_88 : decode cX11_laysForm 88 = .ok (.ifCond .le 60, 3) := by decide +kernel
theorem dX11_laysForm_91 : decode cX11_laysForm 91 = .ok (.aload_n 0, 1) := by decide +kernel
theorem dX11_laysForm_92 : decode cX11_laysForm 92 = .ok (.getfield 166, 3) := by decide +kernel
theorem dX11_laysForm_95 : decode cX11_laysForm 95 = .ok (.lload 5, 2) := by decide +kernel
theorem dX11_laysForm_97 : decode cX11_laysForm 97 = .ok (.ladd, 1) := by decide +kernel
theorem dX11_laysForm_98 : decode cX11_laysForm 98 = .ok (.ldc2_w 171, 3) := by decide +kernel
theorem dX11_laysForm_101 : decode cX11_laysForm 101 = .ok (.lcmp, 1) := by decide +kernel
theorem dX11_laysForm_102 : decode cX11_laysForm 102 = .ok (.ifCond .gt 37, 3) := by decide +kernel
theorem dX11_laysForm_105 : decode cX11_laysForm 105 = .ok (.aload_n 0, 1) := by decide +kernel
theorem dX11_laysForm_106 : decode cX11_laysForm 106 = .ok (.getfield 166, 3) := by decide +kernel
theorem dX11_laysForm_109 : decode cX11_laysForm 109 = .ok (.lload 5, 2) := by decide +kernel
theorem dX11_laysForm_111 : decode cX11_laysForm 111 = .ok (.ladd, 1) := by decide +kernel
theorem dX11_laysForm_112 : decode cX11_laysForm 112 = .ok (.aload_n 0, 1) := by decide +kernel
theorem dX11_laysForm_113 : decode cX11_laysForm 113 = .ok (.getfield 166, 3) := by decide +kernel
theorem dX11_laysForm_116 : decode cX11_laysForm 116 = .ok (.lload 5, 2) := by decide +kernel
theorem dX11_laysForm_118 : decode cX11_laysForm 118 = .ok (.ladd, 1) := by decide +kernel
theorem dX11_laysForm_119 : decode cX11_laysForm 119 = .ok (.lmul, 1) := by decide +kernel
theorem dX11_laysForm_120 : decode cX11_laysForm 120 = .ok (.aload_n 0, 1) := by decide +kernel
theorem dX11_laysForm_121 : decode cX11_laysForm 121 = .ok (.getfield 163, 3) := by decide +kernel
theorem dX11_laysForm_124 : decode cX11_laysForm 124 = .ok (.lcmp, 1) := by decide +kernel
theorem dX11_laysForm_125 : decode cX11_laysForm 125 = .ok (.ifCond .gt 14, 3) := by decide +kernel
theorem dX11_laysForm_128 : decode cX11_laysForm 128 = .ok (.aload_n 0, 1) := by decide +kernel
theorem dX11_laysForm_129 : decode cX11_laysForm 129 = .ok (.dup, 1) := by decide +kernel
theorem dX11_laysForm_130 : decode cX11_laysForm 130 = .ok (.getfield 166, 3) := by decide +kernel
theorem dX11_laysForm_133 : decode cX11_laysForm 133 = .ok (.lload 5, 2) := by decide +kernel
theorem dX11_laysForm_135 : decode cX11_laysForm 135 = .ok (.ladd, 1) := by decide +kernel
theorem dX11_laysForm_136 : decode cX11_laysForm 136 = .ok (.putfield 166, 3) := by decide +kernel
theorem dX11_laysForm_139 : decode cX11_laysForm 139 = .ok (.lload 5, 2) := by decide +kernel
theorem dX11_laysForm_141 : decode cX11_laysForm 141 = .ok (.iconst 1, 1) := by decide +kernel
theorem dX11_laysForm_142 : decode cX11_laysForm 142 = .ok (.lshr, 1) := by decide +kernel
theorem dX11_laysForm_143 : decode cX11_laysForm 143 = .ok (.lstore 5, 2) := by decide +kernel
theorem dX11_laysForm_145 : decode cX11_laysForm 145 = .ok (.goto (-61), 3) := by decide +kernel
theorem dX11_laysForm_148 : decode cX11_laysForm 148 = .ok (.iconst 1, 1) := by decide +kernel
theorem dX11_laysForm_149 : decode cX11_laysForm 149 = .ok (.ireturn, 1) := by decide +kernel
theorem dX11_form_0 : decode cX11_form 0 = .ok (.aload_n 0, 1) := by decide +kernel
theorem dX11_form_1 : decode cX11_form 1 = .ok (.iconst 0, 1) := by decide +kernel
theorem dX11_form_2 : decode cX11_form 2 = .ok (.putfield 1, 3) := by decide +kernel
theorem dX11_form_5 : decode cX11_form 5 = .ok (.iload_n 1, 1) := by decide +kernel
theorem dX11_form_6 : decode cX11_form 6 = .ok (.i2l, 1) := by decide +kernel
theorem dX11_form_7 : decode cX11_form 7 = .ok (.lconst 0, 1) := by decide +kernel
theorem dX11_form_8 : decode cX11_form 8 = .ok (.ldc2_w 127, 3) := by decide +kernel
theorem dX11_form_11 : decode cX11_form 11 = .ok (.invokestatic 91, 3) := by decide +kernel
theorem dX11_form_14 : decode cX11_form 14 = .ok (.ifCond .eq 10, 3) := by decide +kernel
theorem dX11_form_17 : decode cX11_form 17 = .ok (.aload_n 0, 1) := by decide +kernel
theorem dX11_form_18 : decode cX11_form 18 = .ok (.invokevirtual 173, 3) := by decide +kernel
theorem dX11_form_21 : decode cX11_form 21 = .ok (.ifCond .ne 9, 3) := by decide +kernel
theorem dX11_form_24 : decode cX11_form 24 = .ok (.aload_n 0, 1) := by decide +kernel
theorem dX11_form_25 : decode cX11_form 25 = .ok (.invokevirtual 142, 3) := by decide +kernel
theorem dX11_form_28 : decode cX11_form 28 = .ok (.i2l, 1) := by decide +kernel
theorem dX11_form_29 : decode cX11_form 29 = .ok (.lreturn, 1) := by decide +kernel
theorem dX11_form_30 : decode cX11_form 30 = .ok (.iload_n 1, 1) := by decide +kernel
theorem dX11_form_31 : decode cX11_form 31 = .ok (.ifCond .ne 10, 3) := by decide +kernel
theorem dX11_form_34 : decode cX11_form 34 = .ok (.aload_n 0, 1) := by decide +kernel
theorem dX11_form_35 : decode cX11_form 35 = .ok (.getfield 147, 3) := by decide +kernel
theorem dX11_form_38 : decode cX11_form 38 = .ok (.goto 19, 3) := by decide +kernel
theorem dX11_form_41 : decode cX11_form 41 = .ok (.iload_n 1, 1) := by decide +kernel
theorem dX11_form_42 : decode cX11_form 42 = .ok (.iconst 1, 1) := by decide +kernel
theorem dX11_form_43 : decode cX11_form 43 = .ok (.if_icmp .ne 10, 3) := by decide +kernel
theorem dX11_form_46 : decode cX11_form 46 = .ok (.aload_n 0, 1) := by decide +kernel
theorem dX11_form_47 : decode cX11_form 47 = .ok (.getfield 153, 3) := by decide +kernel
theorem dX11_form_50 : decode cX11_form 50 = .ok (.goto 7, 3) := by decide +kernel
theorem dX11_form_53 : decode cX11_form 53 = .ok (.aload_n 0, 1) := by decide +kernel
theorem dX11_form_54 : decode cX11_form 54 = .ok (.getfield 156, 3) := by decide +kernel
theorem dX11_form_57 : decode cX11_form 57 = .ok (.lreturn, 1) := by decide +kernel
theorem dX11_value_0 : decode cX11_value 0 = .ok (.aload_n 0, 1) := by decide +kernel
theorem dX11_value_1 : decode cX11_value 1 = .ok (.iconst 0, 1) := by decide +kernel
theorem dX11_value_2 : decode cX11_value 2 = .ok (.putfield 1, 3) := by decide +kernel
theorem dX11_value_5 : decode cX11_value 5 = .ok (.iload_n 1, 1) := by decide +kernel
theorem dX11_value_6 : decode cX11_value 6 = .ok (.i2l, 1) := by decide +kernel
theorem dX11_value_7 : decode cX11_value 7 = .ok (.ldc2_w 177, 3) := by decide +kernel
theorem dX11_value_10 : decode cX11_value 10 = .ok (.ldc2_w 179, 3) := by decide +kernel
theorem dX11_value_13 : decode cX11_value 13 = .ok (.invokestatic 91, 3) := by decide +kernel
theorem dX11_value_16 : decode cX11_value 16 = .ok (.ifCond .eq 24, 3) := by decide +kernel
theorem dX11_value_19 : decode cX11_value 19 = .ok (.iload_n 2, 1) := by decide +kernel
theorem dX11_value_20 : decode cX11_value 20 = .ok (.i2l, 1) := by decide +kernel
theorem dX11_value_21 : decode cX11_value 21 = .ok (.ldc2_w 177, 3) := by decide +kernel
theorem dX11_value_24 : decode cX11_value 24 = .ok (.ldc2_w 179, 3) := by decide +kernel
theorem dX11_value_27 : decode cX11_value 27 = .ok (.invokestatic 91, 3) := by decide +kernel
theorem dX11_value_30 : decode cX11_value 30 = .ok (.ifCond .eq 10, 3) := by decide +kernel
theorem dX11_value_33 : decode cX11_value 33 = .ok (.aload_n 0, 1) := by decide +kernel
theorem dX11_value_34 : decode cX11_value 34 = .ok (.invokevirtual 173, 3) := by decide +kernel
theorem dX11_value_37 : decode cX11_value 37 = .ok (.ifCond .ne 7, 3) := by decide +kernel
theorem dX11_value_40 : decode cX11_value 40 = .ok (.ldc2_w 181, 3) := by decide +kernel
theorem dX11_value_43 : decode cX11_value 43 = .ok (.lreturn, 1) := by decide +kernel
theorem dX11_value_44 : decode cX11_value 44 = .ok (.aload_n 0, 1) := by decide +kernel
theorem dX11_value_45 : decode cX11_value 45 = .ok (.getfield 147, 3) := by decide +kernel
theorem dX11_value_48 : decode cX11_value 48 = .ok (.iload_n 1, 1) := by decide +kernel
theorem dX11_value_49 : decode cX11_value 49 = .ok (.i2l, 1) := by decide +kernel
theorem dX11_value_50 : decode cX11_value 50 = .ok (.lmul, 1) := by decide +kernel
theorem dX11_value_51 : decode cX11_value 51 = .ok (.iload_n 1, 1) := by decide +kernel
theorem dX11_value_52 : decode cX11_value 52 = .ok (.i2l, 1) := by decide +kernel
theorem dX11_value_53 : decode cX11_value 53 = .ok (.lmul, 1) := by decide +kernel
theorem dX11_value_54 : decode cX11_value 54 = .ok (.aload_n 0, 1) := by decide +kernel
theorem dX11_value_55 : decode cX11_value 55 = .ok (.getfield 153, 3) := by decide +kernel
theorem dX11_value_58 : decode cX11_value 58 = .ok (.iload_n 1, 1) := by decide +kernel
theorem dX11_value_59 : decode cX11_value 59 = .ok (.i2l, 1) := by decide +kernel
theorem dX11_value_60 : decode cX11_value 60 = .ok (.lmul, 1) := by decide +kernel
theorem dX11_value_61 : decode cX11_value 61 = .ok (.iload_n 2, 1) := by decide +kernel
theorem dX11_value_62 : decode cX11_value 62 = .ok (.i2l, 1) := by decide +kernel
theorem dX11_value_63 : decode cX11_value 63 = .ok (.lmul, 1) := by decide +kernel
theorem dX11_value_64 : decode cX11_value 64 = .ok (.ladd, 1) := by decide +kernel
theorem dX11_value_65 : decode cX11_value 65 = .ok (.aload_n 0, 1) := by decide +kernel
theorem dX11_value_66 : decode cX11_value 66 = .ok (.getfield 156, 3) := by decide +kernel
theorem dX11_value_69 : decode cX11_value 69 = .ok (.iload_n 2, 1) := by decide +kernel
theorem dX11_value_70 : decode cX11_value 70 = .ok (.i2l, 1) := by decide +kernel
theorem dX11_value_71 : decode cX11_value 71 = .ok (.lmul, 1) := by decide +kernel
theorem dX11_value_72 : decode cX11_value 72 = .ok (.iload_n 2, 1) := by decide +kernel
theorem dX11_value_73 : decode cX11_value 73 = .ok (.i2l, 1) := by decide +kernel
theorem dX11_value_74 : decode cX11_value 74 = .ok (.lmul, 1) := by decide +kernel
theorem dX11_value_75 : decode cX11_value 75 = .ok (.ladd, 1) := by decide +kernel
theorem dX11_value_76 : decode cX11_value 76 = .ok (.lreturn, 1) := by decide +kernel
theorem dX11_formOn_0 : decode cX11_formOn 0 = .ok (.ldc2_w 127, 3) := by decide +kernel
theorem dX11_formOn_3 : decode cX11_formOn 3 = .ok (.aload_n 0, 1) := by decide +kernel
theorem dX11_formOn_4 : decode cX11_formOn 4 = .ok (.getfield 156, 3) := by decide +kernel
theorem dX11_formOn_7 : decode cX11_formOn 7 = .ok (.lconst 0, 1) := by decide +kernel
theorem dX11_formOn_8 : decode cX11_formOn 8 = .ok (.lcmp, 1) := by decide +kernel
theorem dX11_formOn_9 : decode cX11_formOn 9 = .ok (.ifCond .ge 11, 3) := by decide +kernel
theorem dX11_formOn_12 : decode cX11_formOn 12 = .ok (.aload_n 0, 1) := by decide +kernel
theorem dX11_formOn_13 : decode cX11_formOn 13 = .ok (.getfield 156, 3) := by decide +kernel
theorem dX11_formOn_16 : decode cX11_formOn 16 = .ok (.lneg, 1) := by decide +kernel
theorem dX11_formOn_17 : decode cX11_formOn 17 = .ok (.goto 7, 3) := by decide +kernel
theorem dX11_formOn_20 : decode cX11_formOn 20 = .ok (.aload_n 0, 1) := by decide +kernel
theorem dX11_formOn_21 : decode cX11_formOn 21 = .ok (.getfield 156, 3) := by decide +kernel
theorem dX11_formOn_24 : decode cX11_formOn 24 = .ok (.lmul, 1) := by decide +kernel
theorem dX11_formOn_25 : decode cX11_formOn 25 = .ok (.lstore_n 1, 1) := by decide +kernel
theorem dX11_formOn_26 : decode cX11_formOn 26 = .ok (.aload_n 0, 1) := by decide +kernel
theorem dX11_formOn_27 : decode cX11_formOn 27 = .ok (.getfield 166, 3) := by decide +kernel
theorem dX11_formOn_30 : decode cX11_formOn 30 = .ok (.aload_n 0, 1) := by decide +kernel
theorem dX11_formOn_31 : decode cX11_formOn 31 = .ok (.getfield 153, 3) := by decide +kernel
theorem dX11_formOn_34 : decode cX11_formOn 34 = .ok (.ladd, 1) := by decide +kernel
theorem dX11_formOn_35 : decode cX11_formOn 35 = .ok (.lload_n 1, 1) := by decide +kernel
theorem dX11_formOn_36 : decode cX11_formOn 36 = .ok (.lrem, 1) := by decide +kernel
theorem dX11_formOn_37 : decode cX11_formOn 37 = .ok (.lstore_n 3, 1) := by decide +kernel
theorem dX11_formOn_38 : decode cX11_formOn 38 = .ok (.lload_n 3, 1) := by decide +kernel
theorem dX11_formOn_39 : decode cX11_formOn 39 = .ok (.lconst 0, 1) := by decide +kernel
theorem dX11_formOn_40 : decode cX11_formOn 40 = .ok (.lcmp, 1) := by decide +kernel
theorem dX11_formOn_41 : decode cX11_formOn 41 = .ok (.ifCond .ge 7, 3) := by decide +kernel
theorem dX11_formOn_44 : decode cX11_formOn 44 = .ok (.lload_n 3, 1) := by decide +kernel
theorem dX11_formOn_45 : decode cX11_formOn 45 = .ok (.lload_n 1, 1) := by decide +kernel
theorem dX11_formOn_46 : decode cX11_formOn 46 = .ok (.ladd, 1) := by decide +kernel
theorem dX11_formOn_47 : decode cX11_formOn 47 = .ok (.lstore_n 3, 1) := by decide +kernel
theorem dX11_formOn_48 : decode cX11_formOn 48 = .ok (.aload_n 0, 1) := by decide +kernel
theorem dX11_formOn_49 : decode cX11_formOn 49 = .ok (.getfield 166, 3) := by decide +kernel
theorem dX11_formOn_52 : decode cX11_formOn 52 = .ok (.lload_n 3, 1) := by decide +kernel
theorem dX11_formOn_53 : decode cX11_formOn 53 = .ok (.lsub, 1) := by decide +kernel
theorem dX11_formOn_54 : decode cX11_formOn 54 = .ok (.lstore 5, 2) := by decide +kernel
theorem dX11_formOn_56 : decode cX11_formOn 56 = .ok (.lload 5, 2) := by decide +kernel
theorem dX11_formOn_58 : decode cX11_formOn 58 = .ok (.lload 5, 2) := by decide +kernel
theorem dX11_formOn_60 : decode cX11_formOn 60 = .ok (.lmul, 1) := by decide +kernel
theorem dX11_formOn_61 : decode cX11_formOn 61 = .ok (.aload_n 0, 1) := by decide +kernel
theorem dX11_formOn_62 : decode cX11_formOn 62 = .ok (.getfield 163, 3) := by decide +kernel
theorem dX11_formOn_65 : decode cX11_formOn 65 = .ok (.lsub, 1) := by decide +kernel
theorem dX11_formOn_66 : decode cX11_formOn 66 = .ok (.ldc2_w 161, 3) := by decide +kernel
theorem dX11_formOn_69 : decode cX11_formOn 69 = .ok (.aload_n 0, 1) := by decide +kernel
theorem dX11_formOn_70 : decode cX11_formOn 70 = .ok (.getfield 156, 3) := by decide +kernel
theorem dX11_formOn_73 : decode cX11_formOn 73 = .ok (.lmul, 1) := by decide +kernel
theorem dX11_formOn_74 : decode cX11_formOn 74 = .ok (.ldiv, 1) := by decide +kernel
theorem dX11_formOn_75 : decode cX11_formOn 75 = .ok (.lstore 7, 2) := by decide +kernel
theorem dX11_formOn_77 : decode cX11_formOn 77 = .ok (.aload_n 0, 1) := by decide +kernel
theorem dX11_formOn_78 : decode cX11_formOn 78 = .ok (.aload_n 0, 1) := by decide +kernel
theorem dX11_formOn_79 : decode cX11_formOn 79 = .ok (.getfield 156, 3) := by decide +kernel
theorem dX11_formOn_82 : decode cX11_formOn 82 = .ok (.putfield 147, 3) := by decide +kernel
theorem dX11_formOn_85 : decode cX11_formOn 85 = .ok (.aload_n 0, 1) := by decide +kernel
theorem dX11_formOn_86 : decode cX11_formOn 86 = .ok (.lload 5, 2) := by decide +kernel
theorem dX11_formOn_88 : decode cX11_formOn 88 = .ok (.putfield 153, 3) := by decide +kernel
theorem dX11_formOn_91 : decode cX11_formOn 91 = .ok (.aload_n 0, 1) := by decide +kernel
theorem dX11_formOn_92 : decode cX11_formOn 92 = .ok (.lload 7, 2) := by decide +kernel
theorem dX11_formOn_94 : decode cX11_formOn 94 = .ok (.putfield 156, 3) := by decide +kernel
theorem dX11_formOn_97 : decode cX11_formOn 97 = .ok (.return_, 1) := by decide +kernel
theorem dX11_laysRound_0 : decode cX11_laysRound 0 = .ok (.aload_n 0, 1) := by decide +kernel
theorem dX11_laysRound_1 : decode cX11_laysRound 1 = .ok (.getfield 147, 3) := by decide +kernel
theorem dX11_laysRound_4 : decode cX11_laysRound 4 = .ok (.lstore_n 1, 1) := by decide +kernel
theorem dX11_laysRound_5 : decode cX11_laysRound 5 = .ok (.aload_n 0, 1) := by decide +kernel
theorem dX11_laysRound_6 : decode cX11_laysRound 6 = .ok (.getfield 153, 3) := by decide +kernel
theorem dX11_laysRound_9 : decode cX11_laysRound 9 = .ok (.lstore_n 3, 1) := by decide +kernel
theorem dX11_laysRound_10 : decode cX11_laysRound 10 = .ok (.aload_n 0, 1) := by decide +kernel
theorem dX11_laysRound_11 : decode cX11_laysRound 11 = .ok (.getfield 156, 3) := by decide +kernel
theorem dX11_laysRound_14 : decode cX11_laysRound 14 = .ok (.lstore 5, 2) := by decide +kernel
theorem dX11_laysRound_16 : decode cX11_laysRound 16 = .ok (.aload_n 0, 1) := by decide +kernel
theorem dX11_laysRound_17 : decode cX11_laysRound 17 = .ok (.getfield 147, 3) := by decide +kernel
theorem dX11_laysRound_20 : decode cX11_laysRound 20 = .ok (.lstore 7, 2) := by decide +kernel
theorem dX11_laysRound_22 : decode cX11_laysRound 22 = .ok (.aload_n 0, 1) := by decide +kernel
theorem dX11_laysRound_23 : decode cX11_laysRound 23 = .ok (.getfield 153, 3) := by decide +kernel
theorem dX11_laysRound_26 : decode cX11_laysRound 26 = .ok (.lstore 9, 2) := by decide +kernel
theorem dX11_laysRound_28 : decode cX11_laysRound 28 = .ok (.aload_n 0, 1) := by decide +kernel
theorem dX11_laysRound_29 : decode cX11_laysRound 29 = .ok (.getfield 156, 3) := by decide +kernel
theorem dX11_laysRound_32 : decode cX11_laysRound 32 = .ok (.lstore 11, 2) := by decide +kernel
theorem dX11_laysRound_34 : decode cX11_laysRound 34 = .ok (.aload_n 0, 1) := by decide +kernel
theorem dX11_laysRound_35 : decode cX11_laysRound 35 = .ok (.lload_n 1, 1) := by decide +kernel
theorem dX11_laysRound_36 : decode cX11_laysRound 36 = .ok (.putfield 147, 3) := by decide +kernel
theorem dX11_laysRound_39 : decode cX11_laysRound 39 = .ok (.aload_n 0, 1) := by decide +kernel
theorem dX11_laysRound_40 : decode cX11_laysRound 40 = .ok (.lload_n 3, 1) := by decide +kernel
theorem dX11_laysRound_41 : decode cX11_laysRound 41 = .ok (.putfield 153, 3) := by decide +kernel
theorem dX11_laysRound_44 : decode cX11_laysRound 44 = .ok (.aload_n 0, 1) := by decide +kernel
theorem dX11_laysRound_45 : decode cX11_laysRound 45 = .ok (.lload 5, 2) := by decide +kernel
theorem dX11_laysRound_47 : decode cX11_laysRound 47 = .ok (.putfield 156, 3) := by decide +kernel
theorem dX11_laysRound_50 : decode cX11_laysRound 50 = .ok (.aload_n 0, 1) := by decide +kernel
theorem dX11_laysRound_51 : decode cX11_laysRound 51 = .ok (.invokevirtual 183, 3) := by decide +kernel
theorem dX11_laysRound_54 : decode cX11_laysRound 54 = .ok (.aload_n 0, 1) := by decide +kernel
theorem dX11_laysRound_55 : decode cX11_laysRound 55 = .ok (.getfield 147, 3) := by decide +kernel
theorem dX11_laysRound_58 : decode cX11_laysRound 58 = .ok (.lstore_n 1, 1) := by decide +kernel
theorem dX11_laysRound_59 : decode cX11_laysRound 59 = .ok (.aload_n 0, 1) := by decide +kernel
theorem dX11_laysRound_60 : decode cX11_laysRound 60 = .ok (.getfield 153, 3) := by decide +kernel
theorem dX11_laysRound_63 : decode cX11_laysRound 63 = .ok (.lstore_n 3, 1) := by decide +kernel
theorem dX11_laysRound_64 : decode cX11_laysRound 64 = .ok (.aload_n 0, 1) := by decide +kernel
theorem dX11_laysRound_65 : decode cX11_laysRound 65 = .ok (.getfield 156, 3) := by decide +kernel
theorem dX11_laysRound_68 : decode cX11_laysRound 68 = .ok (.lstore 5, 2) := by decide +kernel
theorem dX11_laysRound_70 : decode cX11_laysRound 70 = .ok (.aload_n 0, 1) := by decide +kernel
theorem dX11_laysRound_71 : decode cX11_laysRound 71 = .ok (.lload 7, 2) := by decide +kernel
theorem dX11_laysRound_73 : decode cX11_laysRound 73 = .ok (.putfield 147, 3) := by decide +kernel
theorem dX11_laysRound_76 : decode cX11_laysRound 76 = .ok (.aload_n 0, 1) := by decide +kernel
theorem dX11_laysRound_77 : decode cX11_laysRound 77 = .ok (.lload 9, 2) := by decide +kernel
theorem dX11_laysRound_79 : decode cX11_laysRound 79 = .ok (.putfield 153, 3) := by decide +kernel
theorem dX11_laysRound_82 : decode cX11_laysRound 82 = .ok (.aload_n 0, 1) := by decide +kernel
theorem dX11_laysRound_83 : decode cX11_laysRound 83 = .ok (.lload 11, 2) := by decide +kernel
theorem dX11_laysRound_85 : decode cX11_laysRound 85 = .ok (.putfield 156, 3) := by decide +kernel
theorem dX11_laysRound_88 : decode cX11_laysRound 88 = .ok (.aload_n 0, 1) := by decide +kernel
theorem dX11_laysRound_89 : decode cX11_laysRound 89 = .ok (.invokevirtual 183, 3) := by decide +kernel
theorem dX11_laysRound_92 : decode cX11_laysRound 92 = .ok (.aload_n 0, 1) := by decide +kernel
theorem dX11_laysRound_93 : decode cX11_laysRound 93 = .ok (.invokevirtual 183, 3) := by decide +kernel
theorem dX11_laysRound_96 : decode cX11_laysRound 96 = .ok (.aload_n 0, 1) := by decide +kernel
theorem dX11_laysRound_97 : decode cX11_laysRound 97 = .ok (.getfield 147, 3) := by decide +kernel
theorem dX11_laysRound_100 : decode cX11_laysRound 100 = .ok (.lload_n 1, 1) := by decide +kernel
theorem dX11_laysRound_101 : decode cX11_laysRound 101 = .ok (.lcmp, 1) := by decide +kernel
theorem dX11_laysRound_102 : decode cX11_laysRound 102 = .ok (.ifCond .ne (-86), 3) := by decide +kernel
theorem dX11_laysRound_105 : decode cX11_laysRound 105 = .ok (.aload_n 0, 1) := by decide +kernel
theorem dX11_laysRound_106 : decode cX11_laysRound 106 = .ok (.getfield 153, 3) := by decide +kernel
theorem dX11_laysRound_109 : decode cX11_laysRound 109 = .ok (.lload_n 3, 1) := by decide +kernel
theorem dX11_laysRound_110 : decode cX11_laysRound 110 = .ok (.lcmp, 1) := by decide +kernel
theorem dX11_laysRound_111 : decode cX11_laysRound 111 = .ok (.ifCond .ne (-95), 3) := by decide +kernel
theorem dX11_laysRound_114 : decode cX11_laysRound 114 = .ok (.aload_n 0, 1) := by decide +kernel
theorem dX11_laysRound_115 : decode cX11_laysRound 115 = .ok (.getfield 156, 3) := by decide +kernel
theorem dX11_laysRound_118 : decode cX11_laysRound 118 = .ok (.lload 5, 2) := by decide +kernel
theorem dX11_laysRound_120 : decode cX11_laysRound 120 = .ok (.lcmp, 1) := by decide +kernel
theorem dX11_laysRound_121 : decode cX11_laysRound 121 = .ok (.ifCond .ne (-105), 3) := by decide +kernel
theorem dX11_laysRound_124 : decode cX11_laysRound 124 = .ok (.iconst 0, 1) := by decide +kernel
theorem dX11_laysRound_125 : decode cX11_laysRound 125 = .ok (.istore 7, 2) := by decide +kernel
theorem dX11_laysRound_127 : decode cX11_laysRound 127 = .ok (.aload_n 0, 1) := by decide +kernel
theorem dX11_laysRound_128 : decode cX11_laysRound 128 = .ok (.lconst 0, 1) := by decide +kernel
theorem dX11_laysRound_129 : decode cX11_laysRound 129 = .ok (.putfield 186, 3) := by decide +kernel
theorem dX11_laysRound_132 : decode cX11_laysRound 132 = .ok (.aload_n 0, 1) := by decide +kernel
theorem dX11_laysRound_133 : decode cX11_laysRound 133 = .ok (.getfield 147, 3) := by decide +kernel
theorem dX11_laysRound_136 : decode cX11_laysRound 136 = .ok (.lconst 0, 1) := by decide +kernel
theorem dX11_laysRound_137 : decode cX11_laysRound 137 = .ok (.lcmp, 1) := by decide +kernel
theorem dX11_laysRound_138 : decode cX11_laysRound 138 = .ok (.ifCond .ge 11, 3) := by decide +kernel
theorem dX11_laysRound_141 : decode cX11_laysRound 141 = .ok (.aload_n 0, 1) := by decide +kernel
theorem dX11_laysRound_142 : decode cX11_laysRound 142 = .ok (.getfield 147, 3) := by decide +kernel
theorem dX11_laysRound_145 : decode cX11_laysRound 145 = .ok (.lneg, 1) := by decide +kernel
theorem dX11_laysRound_146 : decode cX11_laysRound 146 = .ok (.goto 7, 3) := by decide +kernel
theorem dX11_laysRound_149 : decode cX11_laysRound 149 = .ok (.aload_n 0, 1) := by decide +kernel
theorem dX11_laysRound_150 : decode cX11_laysRound 150 = .ok (.getfield 147, 3) := by decide +kernel
theorem dX11_laysRound_153 : decode cX11_laysRound 153 = .ok (.lstore 8, 2) := by decide +kernel
theorem dX11_laysRound_155 : decode cX11_laysRound 155 = .ok (.iload 7, 2) := by decide +kernel
theorem dX11_laysRound_157 : decode cX11_laysRound 157 = .ok (.ifCond .eq 13, 3) := by decide +kernel
theorem dX11_laysRound_160 : decode cX11_laysRound 160 = .ok (.lload 8, 2) := by decide +kernel
theorem dX11_laysRound_162 : decode cX11_laysRound 162 = .ok (.aload_n 0, 1) := by decide +kernel
theorem dX11_laysRound_163 : decode cX11_laysRound 163 = .ok (.getfield 186, 3) := by decide +kernel
theorem dX11_laysRound_166 : decode cX11_laysRound 166 = .ok (.lcmp, 1) := by decide +kernel
theorem dX11_laysRound_167 : decode cX11_laysRound 167 = .ok (.ifCond .ge 9, 3) := by decide +kernel
theorem dX11_laysRound_170 : decode cX11_laysRound 170 = .ok (.aload_n 0, 1) := by decide +kernel
theorem dX11_laysRound_171 : decode cX11_laysRound 171 = .ok (.lload 8, 2) := by decide +kernel
theorem dX11_laysRound_173 : decode cX11_laysRound 173 = .ok (.putfield 186, 3) := by decide +kernel
theorem dX11_laysRound_176 : decode cX11_laysRound 176 = .ok (.iinc 7 1, 3) := by decide +kernel
theorem dX11_laysRound_179 : decode cX11_laysRound 179 = .ok (.aload_n 0, 1) := by decide +kernel
theorem dX11_laysRound_180 : decode cX11_laysRound 180 = .ok (.invokevirtual 183, 3) := by decide +kernel
theorem dX11_laysRound_183 : decode cX11_laysRound 183 = .ok (.aload_n 0, 1) := by decide +kernel
theorem dX11_laysRound_184 : decode cX11_laysRound 184 = .ok (.getfield 147, 3) := by decide +kernel
theorem dX11_laysRound_187 : decode cX11_laysRound 187 = .ok (.lload_n 1, 1) := by decide +kernel
theorem dX11_laysRound_188 : decode cX11_laysRound 188 = .ok (.lcmp, 1) := by decide +kernel
theorem dX11_laysRound_189 : decode cX11_laysRound 189 = .ok (.ifCond .ne (-57), 3) := by decide +kernel
theorem dX11_laysRound_192 : decode cX11_laysRound 192 = .ok (.aload_n 0, 1) := by decide +kernel
theorem dX11_laysRound_193 : decode cX11_laysRound 193 = .ok (.getfield 153, 3) := by decide +kernel
theorem dX11_laysRound_196 : decode cX11_laysRound 196 = .ok (.lload_n 3, 1) := by decide +kernel
theorem dX11_laysRound_197 : decode cX11_laysRound 197 = .ok (.lcmp, 1) := by decide +kernel
theorem dX11_laysRound_198 : decode cX11_laysRound 198 = .ok (.ifCond .ne (-66), 3) := by decide +kernel
theorem dX11_laysRound_201 : decode cX11_laysRound 201 = .ok (.aload_n 0, 1) := by decide +kernel
theorem dX11_laysRound_202 : decode cX11_laysRound 202 = .ok (.getfield 156, 3) := by decide +kernel
theorem dX11_laysRound_205 : decode cX11_laysRound 205 = .ok (.lload 5, 2) := by decide +kernel
theorem dX11_laysRound_207 : decode cX11_laysRound 207 = .ok (.lcmp, 1) := by decide +kernel
theorem dX11_laysRound_208 : decode cX11_laysRound 208 = .ok (.ifCond .ne (-76), 3) := by decide +kernel
theorem dX11_laysRound_211 : decode cX11_laysRound 211 = .ok (.iload 7, 2) := by decide +kernel
theorem dX11_laysRound_213 : decode cX11_laysRound 213 = .ok (.ireturn, 1) := by decide +kernel
theorem dX11_round_0 : decode cX11_round 0 = .ok (.aload_n 0, 1) := by decide +kernel
theorem dX11_round_1 : decode cX11_round 1 = .ok (.iconst 0, 1) := by decide +kernel
theorem dX11_round_2 : decode cX11_round 2 = .ok (.putfield 1, 3) := by decide +kernel
theorem dX11_round_5 : decode cX11_round 5 = .ok (.aload_n 0, 1) := by decide +kernel
theorem dX11_round_6 : decode cX11_round 6 = .ok (.invokevirtual 173, 3) := by decide +kernel
theorem dX11_round_9 : decode cX11_round 9 = .ok (.ifCond .eq 10, 3) := by decide +kernel
theorem dX11_round_12 : decode cX11_round 12 = .ok (.aload_n 0, 1) := by decide +kernel
theorem dX11_round_13 : decode cX11_round 13 = .ok (.invokevirtual 189, 3) := by decide +kernel
theorem dX11_round_16 : decode cX11_round 16 = .ok (.goto 4, 3) := by decide +kernel
theorem dX11_round_19 : decode cX11_round 19 = .ok (.iconst (-1), 1) := by decide +kernel
theorem dX11_round_20 : decode cX11_round 20 = .ok (.ireturn, 1) := by decide +kernel
theorem dX11_least_0 : decode cX11_least 0 = .ok (.aload_n 0, 1) := by decide +kernel
theorem dX11_least_1 : decode cX11_least 1 = .ok (.iconst 0, 1) := by decide +kernel
theorem dX11_least_2 : decode cX11_least 2 = .ok (.putfield 1, 3) := by decide +kernel
theorem dX11_least_5 : decode cX11_least 5 = .ok (.aload_n 0, 1) := by decide +kernel
theorem dX11_least_6 : decode cX11_least 6 = .ok (.invokevirtual 173, 3) := by decide +kernel
theorem dX11_least_9 : decode cX11_least 9 = .ok (.ifCond .ne 7, 3) := by decide +kernel
theorem dX11_least_12 : decode cX11_least 12 = .ok (.ldc2_w 192, 3) := by decide +kernel
theorem dX11_least_15 : decode cX11_least 15 = .ok (.lreturn, 1) := by decide +kernel
theorem dX11_least_16 : decode cX11_least 16 = .ok (.aload_n 0, 1) := by decide +kernel
theorem dX11_least_17 : decode cX11_least 17 = .ok (.invokevirtual 189, 3) := by decide +kernel
theorem dX11_least_20 : decode cX11_least 20 = .ok (.pop, 1) := by decide +kernel
theorem dX11_least_21 : decode cX11_least 21 = .ok (.aload_n 0, 1) := by decide +kernel
theorem dX11_least_22 : decode cX11_least 22 = .ok (.getfield 186, 3) := by decide +kernel
theorem dX11_least_25 : decode cX11_least 25 = .ok (.lreturn, 1) := by decide +kernel
theorem dX11_comes_0 : decode cX11_comes 0 = .ok (.iconst 0, 1) := by decide +kernel
theorem dX11_comes_1 : decode cX11_comes 1 = .ok (.istore_n 3, 1) := by decide +kernel
theorem dX11_comes_2 : decode cX11_comes 2 = .ok (.iload_n 3, 1) := by decide +kernel
theorem dX11_comes_3 : decode cX11_comes 3 = .ok (.aload_n 0, 1) := by decide +kernel
theorem dX11_comes_4 : decode cX11_comes 4 = .ok (.getfield 194, 3) := by decide +kernel
theorem dX11_comes_7 : decode cX11_comes 7 = .ok (.if_icmp .ge 20, 3) := by decide +kernel
theorem dX11_comes_10 : decode cX11_comes 10 = .ok (.aload_n 0, 1) := by decide +kernel
theorem dX11_comes_11 : decode cX11_comes 11 = .ok (.getfield 50, 3) := by decide +kernel
theorem dX11_comes_14 : decode cX11_comes 14 = .ok (.iload_n 3, 1) := by decide +kernel
theorem dX11_comes_15 : decode cX11_comes 15 = .ok (.laload, 1) := by decide +kernel
theorem dX11_comes_16 : decode cX11_comes 16 = .ok (.lload_n 1, 1) := by decide +kernel
theorem dX11_comes_17 : decode cX11_comes 17 = .ok (.lcmp, 1) := by decide +kernel
theorem dX11_comes_18 : decode cX11_comes 18 = .ok (.ifCond .ge 9, 3) := by decide +kernel
theorem dX11_comes_21 : decode cX11_comes 21 = .ok (.iinc 3 1, 3) := by decide +kernel
theorem dX11_comes_24 : decode cX11_comes 24 = .ok (.goto (-22), 3) := by decide +kernel
theorem dX11_comes_27 : decode cX11_comes 27 = .ok (.iload_n 3, 1) := by decide +kernel
theorem dX11_comes_28 : decode cX11_comes 28 = .ok (.aload_n 0, 1) := by decide +kernel
theorem dX11_comes_29 : decode cX11_comes 29 = .ok (.getfield 194, 3) := by decide +kernel
theorem dX11_comes_32 : decode cX11_comes 32 = .ok (.if_icmp .ge 15, 3) := by decide +kernel
theorem dX11_comes_35 : decode cX11_comes 35 = .ok (.aload_n 0, 1) := by decide +kernel
theorem dX11_comes_36 : decode cX11_comes 36 = .ok (.getfield 50, 3) := by decide +kernel
theorem dX11_comes_39 : decode cX11_comes 39 = .ok (.iload_n 3, 1) := by decide +kernel
theorem dX11_comes_40 : decode cX11_comes 40 = .ok (.laload, 1) := by decide +kernel
theorem dX11_comes_41 : decode cX11_comes 41 = .ok (.lload_n 1, 1) := by decide +kernel
theorem dX11_comes_42 : decode cX11_comes 42 = .ok (.lcmp, 1) := by decide +kernel
theorem dX11_comes_43 : decode cX11_comes 43 = .ok (.ifCond .ne 4, 3) := by decide +kernel
theorem dX11_comes_46 : decode cX11_comes 46 = .ok (.return_, 1) := by decide +kernel
theorem dX11_comes_47 : decode cX11_comes 47 = .ok (.aload_n 0, 1) := by decide +kernel
theorem dX11_comes_48 : decode cX11_comes 48 = .ok (.getfield 194, 3) := by decide +kernel
theorem dX11_comes_51 : decode cX11_comes 51 = .ok (.istore 4, 2) := by decide +kernel
theorem dX11_comes_53 : decode cX11_comes 53 = .ok (.iload 4, 2) := by decide +kernel
theorem dX11_comes_55 : decode cX11_comes 55 = .ok (.iload_n 3, 1) := by decide +kernel
theorem dX11_comes_56 : decode cX11_comes 56 = .ok (.if_icmp .le 25, 3) := by decide +kernel
theorem dX11_comes_59 : decode cX11_comes 59 = .ok (.aload_n 0, 1) := by decide +kernel
theorem dX11_comes_60 : decode cX11_comes 60 = .ok (.getfield 50, 3) := by decide +kernel
theorem dX11_comes_63 : decode cX11_comes 63 = .ok (.iload 4, 2) := by decide +kernel
theorem dX11_comes_65 : decode cX11_comes 65 = .ok (.aload_n 0, 1) := by decide +kernel
theorem dX11_comes_66 : decode cX11_comes 66 = .ok (.getfield 50, 3) := by decide +kernel
theorem dX11_comes_69 : decode cX11_comes 69 = .ok (.iload 4, 2) := by decide +kernel
theorem dX11_comes_71 : decode cX11_comes 71 = .ok (.iconst 1, 1) := by decide +kernel
theorem dX11_comes_72 : decode cX11_comes 72 = .ok (.isub, 1) := by decide +kernel
theorem dX11_comes_73 : decode cX11_comes 73 = .ok (.laload, 1) := by decide +kernel
theorem dX11_comes_74 : decode cX11_comes 74 = .ok (.lastore, 1) := by decide +kernel
theorem dX11_comes_75 : decode cX11_comes 75 = .ok (.iinc 4 (-1), 3) := by decide +kernel
theorem dX11_comes_78 : decode cX11_comes 78 = .ok (.goto (-25), 3) := by decide +kernel
theorem dX11_comes_81 : decode cX11_comes 81 = .ok (.aload_n 0, 1) := by decide +kernel
theorem dX11_comes_82 : decode cX11_comes 82 = .ok (.getfield 50, 3) := by decide +kernel
theorem dX11_comes_85 : decode cX11_comes 85 = .ok (.iload_n 3, 1) := by decide +kernel
theorem dX11_comes_86 : decode cX11_comes 86 = .ok (.lload_n 1, 1) := by decide +kernel
theorem dX11_comes_87 : decode cX11_comes 87 = .ok (.lastore, 1) := by decide +kernel
theorem dX11_comes_88 : decode cX11_comes 88 = .ok (.aload_n 0, 1) := by decide +kernel
theorem dX11_comes_89 : decode cX11_comes 89 = .ok (.dup, 1) := by decide +kernel
theorem dX11_comes_90 : decode cX11_comes 90 = .ok (.getfield 194, 3) := by decide +kernel
theorem dX11_comes_93 : decode cX11_comes 93 = .ok (.iconst 1, 1) := by decide +kernel
theorem dX11_comes_94 : decode cX11_comes 94 = .ok (.iadd, 1) := by decide +kernel
theorem dX11_comes_95 : decode cX11_comes 95 = .ok (.putfield 194, 3) := by decide +kernel
theorem dX11_comes_98 : decode cX11_comes 98 = .ok (.return_, 1) := by decide +kernel
theorem dX11_grows_0 : decode cX11_grows 0 = .ok (.aload_n 0, 1) := by decide +kernel
theorem dX11_grows_1 : decode cX11_grows 1 = .ok (.lload 5, 2) := by decide +kernel
theorem dX11_grows_3 : decode cX11_grows 3 = .ok (.invokevirtual 197, 3) := by decide +kernel
theorem dX11_grows_6 : decode cX11_grows 6 = .ok (.lload 5, 2) := by decide +kernel
theorem dX11_grows_8 : decode cX11_grows 8 = .ok (.aload_n 0, 1) := by decide +kernel
theorem dX11_grows_9 : decode cX11_grows 9 = .ok (.getfield 201, 3) := by decide +kernel
theorem dX11_grows_12 : decode cX11_grows 12 = .ok (.lcmp, 1) := by decide +kernel
theorem dX11_grows_13 : decode cX11_grows 13 = .ok (.ifCond .ne 39, 3) := by decide +kernel
theorem dX11_grows_16 : decode cX11_grows 16 = .ok (.aload_n 0, 1) := by decide +kernel
theorem dX11_grows_17 : decode cX11_grows 17 = .ok (.getfield 204, 3) := by decide +kernel
theorem dX11_grows_20 : decode cX11_grows 20 = .ok (.ifCond .eq 12, 3) := by decide +kernel
theorem dX11_grows_23 : decode cX11_grows 23 = .ok (.lload_n 1, 1) := by decide +kernel
theorem dX11_grows_24 : decode cX11_grows 24 = .ok (.aload_n 0, 1) := by decide +kernel
theorem dX11_grows_25 : decode cX11_grows 25 = .ok (.getfield 207, 3) := by decide +kernel
theorem dX11_grows_28 : decode cX11_grows 28 = .ok (.lcmp, 1) := by decide +kernel
theorem dX11_grows_29 : decode cX11_grows 29 = .ok (.ifCond .ge 13, 3) := by decide +kernel
theorem dX11_grows_32 : decode cX11_grows 32 = .ok (.aload_n 0, 1) := by decide +kernel
theorem dX11_grows_33 : decode cX11_grows 33 = .ok (.lload_n 1, 1) := by decide +kernel
theorem dX11_grows_34 : decode cX11_grows 34 = .ok (.putfield 207, 3) := by decide +kernel
theorem dX11_grows_37 : decode cX11_grows 37 = .ok (.aload_n 0, 1) := by decide +kernel
theorem dX11_grows_38 : decode cX11_grows 38 = .ok (.lload_n 3, 1) := by decide +kernel
theorem dX11_grows_39 : decode cX11_grows 39 = .ok (.putfield 210, 3) := by decide +kernel
theorem dX11_grows_42 : decode cX11_grows 42 = .ok (.aload_n 0, 1) := by decide +kernel
theorem dX11_grows_43 : decode cX11_grows 43 = .ok (.dup, 1) := by decide +kernel
theorem dX11_grows_44 : decode cX11_grows 44 = .ok (.getfield 204, 3) := by decide +kernel
theorem dX11_grows_47 : decode cX11_grows 47 = .ok (.iconst 1, 1) := by decide +kernel
theorem dX11_grows_48 : decode cX11_grows 48 = .ok (.iadd, 1) := by decide +kernel
theorem dX11_grows_49 : decode cX11_grows 49 = .ok (.putfield 204, 3) := by decide +kernel
theorem dX11_grows_52 : decode cX11_grows 52 = .ok (.lload 5, 2) := by decide +kernel
theorem dX11_grows_54 : decode cX11_grows 54 = .ok (.ldc2_w 213, 3) := by decide +kernel
theorem dX11_grows_57 : decode cX11_grows 57 = .ok (.lload_n 3, 1) := by decide +kernel
theorem dX11_grows_58 : decode cX11_grows 58 = .ok (.ladd, 1) := by decide +kernel
theorem dX11_grows_59 : decode cX11_grows 59 = .ok (.ldc2_w 151, 3) := by decide +kernel
theorem dX11_grows_62 : decode cX11_grows 62 = .ok (.lload_n 1, 1) := by decide +kernel
theorem dX11_grows_63 : decode cX11_grows 63 = .ok (.lmul, 1) := by decide +kernel
theorem dX11_grows_64 : decode cX11_grows 64 = .ok (.ldiv, 1) := by decide +kernel
theorem dX11_grows_65 : decode cX11_grows 65 = .ok (.lcmp, 1) := by decide +kernel
theorem dX11_grows_66 : decode cX11_grows 66 = .ok (.ifCond .gt 20, 3) := by decide +kernel
theorem dX11_grows_69 : decode cX11_grows 69 = .ok (.aload_n 0, 1) := by decide +kernel
theorem dX11_grows_70 : decode cX11_grows 70 = .ok (.lload_n 1, 1) := by decide +kernel
theorem dX11_grows_71 : decode cX11_grows 71 = .ok (.lload 5, 2) := by decide +kernel
theorem dX11_grows_73 : decode cX11_grows 73 = .ok (.ldc2_w 151, 3) := by decide +kernel
theorem dX11_grows_76 : decode cX11_grows 76 = .ok (.lload_n 1, 1) := by decide +kernel
theorem dX11_grows_77 : decode cX11_grows 77 = .ok (.lmul, 1) := by decide +kernel
theorem dX11_grows_78 : decode cX11_grows 78 = .ok (.lload 5, 2) := by decide +kernel
theorem dX11_grows_80 : decode cX11_grows 80 = .ok (.lmul, 1) := by decide +kernel
theorem dX11_grows_81 : decode cX11_grows 81 = .ok (.lload_n 3, 1) := by decide +kernel
theorem dX11_grows_82 : decode cX11_grows 82 = .ok (.lsub, 1) := by decide +kernel
theorem dX11_grows_83 : decode cX11_grows 83 = .ok (.invokevirtual 215, 3) := by decide +kernel
theorem dX11_grows_86 : decode cX11_grows 86 = .ok (.lload 5, 2) := by decide +kernel
theorem dX11_grows_88 : decode cX11_grows 88 = .ok (.ldc2_w 213, 3) := by decide +kernel
theorem dX11_grows_91 : decode cX11_grows 91 = .ok (.lload_n 1, 1) := by decide +kernel
theorem dX11_grows_92 : decode cX11_grows 92 = .ok (.ladd, 1) := by decide +kernel
theorem dX11_grows_93 : decode cX11_grows 93 = .ok (.ldc2_w 151, 3) := by decide +kernel
theorem dX11_grows_96 : decode cX11_grows 96 = .ok (.lload_n 3, 1) := by decide +kernel
theorem dX11_grows_97 : decode cX11_grows 97 = .ok (.lmul, 1) := by decide +kernel
theorem dX11_grows_98 : decode cX11_grows 98 = .ok (.ldiv, 1) := by decide +kernel
theorem dX11_grows_99 : decode cX11_grows 99 = .ok (.lcmp, 1) := by decide +kernel
theorem dX11_grows_100 : decode cX11_grows 100 = .ok (.ifCond .gt 20, 3) := by decide +kernel
theorem dX11_grows_103 : decode cX11_grows 103 = .ok (.aload_n 0, 1) := by decide +kernel
theorem dX11_grows_104 : decode cX11_grows 104 = .ok (.lload_n 3, 1) := by decide +kernel
theorem dX11_grows_105 : decode cX11_grows 105 = .ok (.lload 5, 2) := by decide +kernel
theorem dX11_grows_107 : decode cX11_grows 107 = .ok (.ldc2_w 151, 3) := by decide +kernel
theorem dX11_grows_110 : decode cX11_grows 110 = .ok (.lload_n 3, 1) := by decide +kernel
theorem dX11_grows_111 : decode cX11_grows 111 = .ok (.lmul, 1) := by decide +kernel
theorem dX11_grows_112 : decode cX11_grows 112 = .ok (.lload 5, 2) := by decide +kernel
theorem dX11_grows_114 : decode cX11_grows 114 = .ok (.lmul, 1) := by decide +kernel
theorem dX11_grows_115 : decode cX11_grows 115 = .ok (.lload_n 1, 1) := by decide +kernel
theorem dX11_grows_116 : decode cX11_grows 116 = .ok (.lsub, 1) := by decide +kernel
theorem dX11_grows_117 : decode cX11_grows 117 = .ok (.invokevirtual 215, 3) := by decide +kernel
theorem dX11_grows_120 : decode cX11_grows 120 = .ok (.return_, 1) := by decide +kernel
theorem dX11_laysNumbers_0 : decode cX11_laysNumbers 0 = .ok (.aload_n 0, 1) := by decide +kernel
theorem dX11_laysNumbers_1 : decode cX11_laysNumbers 1 = .ok (.lload_n 1, 1) := by decide +kernel
theorem dX11_laysNumbers_2 : decode cX11_laysNumbers 2 = .ok (.putfield 201, 3) := by decide +kernel
theorem dX11_laysNumbers_5 : decode cX11_laysNumbers 5 = .ok (.aload_n 0, 1) := by decide +kernel
theorem dX11_laysNumbers_6 : decode cX11_laysNumbers 6 = .ok (.iconst 0, 1) := by decide +kernel
theorem dX11_laysNumbers_7 : decode cX11_laysNumbers 7 = .ok (.putfield 194, 3) := by decide +kernel
theorem dX11_laysNumbers_10 : decode cX11_laysNumbers 10 = .ok (.aload_n 0, 1) := by decide +kernel
theorem dX11_laysNumbers_11 : decode cX11_laysNumbers 11 = .ok (.iconst 0, 1) := by decide +kernel
theorem dX11_laysNumbers_12 : decode cX11_laysNumbers 12 = .ok (.putfield 204, 3) := by decide +kernel
theorem dX11_laysNumbers_15 : decode cX11_laysNumbers 15 = .ok (.aload_n 0, 1) := by decide +kernel
theorem dX11_laysNumbers_16 : decode cX11_laysNumbers 16 = .ok (.lconst 1, 1) := by decide +kernel
theorem dX11_laysNumbers_17 : decode cX11_laysNumbers 17 = .ok (.invokevirtual 197, 3) := by decide +kernel
theorem dX11_laysNumbers_20 : decode cX11_laysNumbers 20 = .ok (.aload_n 0, 1) := by decide +kernel
theorem dX11_laysNumbers_21 : decode cX11_laysNumbers 21 = .ok (.ldc2_w 127, 3) := by decide +kernel
theorem dX11_laysNumbers_24 : decode cX11_laysNumbers 24 = .ok (.invokevirtual 197, 3) := by decide +kernel
theorem dX11_laysNumbers_27 : decode cX11_laysNumbers 27 = .ok (.aload_n 0, 1) := by decide +kernel
theorem dX11_laysNumbers_28 : decode cX11_laysNumbers 28 = .ok (.lconst 1, 1) := by decide +kernel
theorem dX11_laysNumbers_29 : decode cX11_laysNumbers 29 = .ok (.ldc2_w 127, 3) := by decide +kernel
theorem dX11_laysNumbers_32 : decode cX11_laysNumbers 32 = .ok (.ldc2_w 129, 3) := by decide +kernel
theorem dX11_laysNumbers_35 : decode cX11_laysNumbers 35 = .ok (.invokevirtual 215, 3) := by decide +kernel
theorem dX11_laysNumbers_38 : decode cX11_laysNumbers 38 = .ok (.return_, 1) := by decide +kernel
theorem dX11_upTo_0 : decode cX11_upTo 0 = .ok (.aload_n 0, 1) := by decide +kernel
theorem dX11_upTo_1 : decode cX11_upTo 1 = .ok (.iconst 0, 1) := by decide +kernel
theorem dX11_upTo_2 : decode cX11_upTo 2 = .ok (.putfield 1, 3) := by decide +kernel
theorem dX11_upTo_5 : decode cX11_upTo 5 = .ok (.lload_n 1, 1) := by decide +kernel
theorem dX11_upTo_6 : decode cX11_upTo 6 = .ok (.lconst 1, 1) := by decide +kernel
theorem dX11_upTo_7 : decode cX11_upTo 7 = .ok (.ldc2_w 213, 3) := by decide +kernel
theorem dX11_upTo_10 : decode cX11_upTo 10 = .ok (.invokestatic 91, 3) := by decide +kernel
theorem dX11_upTo_13 : decode cX11_upTo 13 = .ok (.ifCond .ne 5, 3) := by decide +kernel
theorem dX11_upTo_16 : decode cX11_upTo 16 = .ok (.iconst (-1), 1) := by decide +kernel
theorem dX11_upTo_17 : decode cX11_upTo 17 = .ok (.ireturn, 1) := by decide +kernel
theorem dX11_upTo_18 : decode cX11_upTo 18 = .ok (.aload_n 0, 1) := by decide +kernel
theorem dX11_upTo_19 : decode cX11_upTo 19 = .ok (.lconst 0, 1) := by decide +kernel
theorem dX11_upTo_20 : decode cX11_upTo 20 = .ok (.invokevirtual 219, 3) := by decide +kernel
theorem dX11_upTo_23 : decode cX11_upTo 23 = .ok (.iconst 0, 1) := by decide +kernel
theorem dX11_upTo_24 : decode cX11_upTo 24 = .ok (.istore_n 3, 1) := by decide +kernel
theorem dX11_upTo_25 : decode cX11_upTo 25 = .ok (.iload_n 3, 1) := by decide +kernel
theorem dX11_upTo_26 : decode cX11_upTo 26 = .ok (.aload_n 0, 1) := by decide +kernel
theorem dX11_upTo_27 : decode cX11_upTo 27 = .ok (.getfield 194, 3) := by decide +kernel
theorem dX11_upTo_30 : decode cX11_upTo 30 = .ok (.if_icmp .ge 20, 3) := by decide +kernel
theorem dX11_upTo_33 : decode cX11_upTo 33 = .ok (.aload_n 0, 1) := by decide +kernel
theorem dX11_upTo_34 : decode cX11_upTo 34 = .ok (.getfield 50, 3) := by decide +kernel
theorem dX11_upTo_37 : decode cX11_upTo 37 = .ok (.iload_n 3, 1) := by decide +kernel
theorem dX11_upTo_38 : decode cX11_upTo 38 = .ok (.laload, 1) := by decide +kernel
theorem dX11_upTo_39 : decode cX11_upTo 39 = .ok (.lload_n 1, 1) := by decide +kernel
theorem dX11_upTo_40 : decode cX11_upTo 40 = .ok (.lcmp, 1) := by decide +kernel
theorem dX11_upTo_41 : decode cX11_upTo 41 = .ok (.ifCond .gt 9, 3) := by decide +kernel
theorem dX11_upTo_44 : decode cX11_upTo 44 = .ok (.iinc 3 1, 3) := by decide +kernel
theorem dX11_upTo_47 : decode cX11_upTo 47 = .ok (.goto (-22), 3) := by decide +kernel
theorem dX11_upTo_50 : decode cX11_upTo 50 = .ok (.iload_n 3, 1) := by decide +kernel
theorem dX11_upTo_51 : decode cX11_upTo 51 = .ok (.ireturn, 1) := by decide +kernel
theorem dX11_markov_0 : decode cX11_markov 0 = .ok (.aload_n 0, 1) := by decide +kernel
theorem dX11_markov_1 : decode cX11_markov 1 = .ok (.iconst 0, 1) := by decide +kernel
theorem dX11_markov_2 : decode cX11_markov 2 = .ok (.putfield 1, 3) := by decide +kernel
theorem dX11_markov_5 : decode cX11_markov 5 = .ok (.aload_n 0, 1) := by decide +kernel
theorem dX11_markov_6 : decode cX11_markov 6 = .ok (.lconst 0, 1) := by decide +kernel
theorem dX11_markov_7 : decode cX11_markov 7 = .ok (.invokevirtual 219, 3) := by decide +kernel
theorem dX11_markov_10 : decode cX11_markov 10 = .ok (.iload_n 1, 1) := by decide +kernel
theorem dX11_markov_11 : decode cX11_markov 11 = .ok (.i2l, 1) := by decide +kernel
theorem dX11_markov_12 : decode cX11_markov 12 = .ok (.lconst 0, 1) := by decide +kernel
theorem dX11_markov_13 : decode cX11_markov 13 = .ok (.aload_n 0, 1) := by decide +kernel
theorem dX11_markov_14 : decode cX11_markov 14 = .ok (.getfield 194, 3) := by decide +kernel
theorem dX11_markov_17 : decode cX11_markov 17 = .ok (.iconst 1, 1) := by decide +kernel
theorem dX11_markov_18 : decode cX11_markov 18 = .ok (.isub, 1) := by decide +kernel
theorem dX11_markov_19 : decode cX11_markov 19 = .ok (.i2l, 1) := by decide +kernel
theorem dX11_markov_20 : decode cX11_markov 20 = .ok (.invokestatic 91, 3) := by decide +kernel
theorem dX11_markov_23 : decode cX11_markov 23 = .ok (.ifCond .eq 12, 3) := by decide +kernel
theorem dX11_markov_26 : decode cX11_markov 26 = .ok (.aload_n 0, 1) := by decide +kernel
theorem dX11_markov_27 : decode cX11_markov 27 = .ok (.getfield 50, 3) := by decide +kernel
theorem dX11_markov_30 : decode cX11_markov 30 = .ok (.iload_n 1, 1) := by decide +kernel
theorem dX11_markov_31 : decode cX11_markov 31 = .ok (.laload, 1) := by decide +kernel
theorem dX11_markov_32 : decode cX11_markov 32 = .ok (.goto 6, 3) := by decide +kernel
theorem dX11_markov_35 : decode cX11_markov 35 = .ok (.ldc2_w 192, 3) := by decide +kernel
theorem dX11_markov_38 : decode cX11_markov 38 = .ok (.lreturn, 1) := by decide +kernel
theorem dX11_rank_0 : decode cX11_rank 0 = .ok (.aload_n 0, 1) := by decide +kernel
theorem dX11_rank_1 : decode cX11_rank 1 = .ok (.iconst 0, 1) := by decide +kernel
theorem dX11_rank_2 : decode cX11_rank 2 = .ok (.putfield 1, 3) := by decide +kernel
theorem dX11_rank_5 : decode cX11_rank 5 = .ok (.aload_n 0, 1) := by decide +kernel
theorem dX11_rank_6 : decode cX11_rank 6 = .ok (.lconst 0, 1) := by decide +kernel
theorem dX11_rank_7 : decode cX11_rank 7 = .ok (.invokevirtual 219, 3) := by decide +kernel
theorem dX11_rank_10 : decode cX11_rank 10 = .ok (.iconst 0, 1) := by decide +kernel
theorem dX11_rank_11 : decode cX11_rank 11 = .ok (.istore_n 3, 1) := by decide +kernel
theorem dX11_rank_12 : decode cX11_rank 12 = .ok (.iload_n 3, 1) := by decide +kernel
theorem dX11_rank_13 : decode cX11_rank 13 = .ok (.aload_n 0, 1) := by decide +kernel
theorem dX11_rank_14 : decode cX11_rank 14 = .ok (.getfield 194, 3) := by decide +kernel
theorem dX11_rank_17 : decode cX11_rank 17 = .ok (.if_icmp .ge 22, 3) := by decide +kernel
theorem dX11_rank_20 : decode cX11_rank 20 = .ok (.aload_n 0, 1) := by decide +kernel
theorem dX11_rank_21 : decode cX11_rank 21 = .ok (.getfield 50, 3) := by decide +kernel
theorem dX11_rank_24 : decode cX11_rank 24 = .ok (.iload_n 3, 1) := by decide +kernel
theorem dX11_rank_25 : decode cX11_rank 25 = .ok (.laload, 1) := by decide +kernel
theorem dX11_rank_26 : decode cX11_rank 26 = .ok (.lload_n 1, 1) := by decide +kernel
theorem dX11_rank_27 : decode cX11_rank 27 = .ok (.lcmp, 1) := by decide +kernel
theorem dX11_rank_28 : decode cX11_rank 28 = .ok (.ifCond .ne 5, 3) := by decide +kernel
theorem dX11_rank_31 : decode cX11_rank 31 = .ok (.iload_n 3, 1) := by decide +kernel
theorem dX11_rank_32 : decode cX11_rank 32 = .ok (.ireturn, 1) := by decide +kernel
theorem dX11_rank_33 : decode cX11_rank 33 = .ok (.iinc 3 1, 3) := by decide +kernel
theorem dX11_rank_36 : decode cX11_rank 36 = .ok (.goto (-24), 3) := by decide +kernel
theorem dX11_rank_39 : decode cX11_rank 39 = .ok (.iconst (-1), 1) := by decide +kernel
theorem dX11_rank_40 : decode cX11_rank 40 = .ok (.ireturn, 1) := by decide +kernel
theorem dX11_triples_0 : decode cX11_triples 0 = .ok (.aload_n 0, 1) := by decide +kernel
theorem dX11_triples_1 : decode cX11_triples 1 = .ok (.iconst 0, 1) := by decide +kernel
theorem dX11_triples_2 : decode cX11_triples 2 = .ok (.putfield 1, 3) := by decide +kernel
theorem dX11_triples_5 : decode cX11_triples 5 = .ok (.lload_n 1, 1) := by decide +kernel
theorem dX11_triples_6 : decode cX11_triples 6 = .ok (.ldc2_w 129, 3) := by decide +kernel
theorem dX11_triples_9 : decode cX11_triples 9 = .ok (.ldc2_w 213, 3) := by decide +kernel
theorem dX11_triples_12 : decode cX11_triples 12 = .ok (.invokestatic 91, 3) := by decide +kernel
theorem dX11_triples_15 : decode cX11_triples 15 = .ok (.ifCond .ne 5, 3) := by decide +kernel
theorem dX11_triples_18 : decode cX11_triples 18 = .ok (.iconst (-1), 1) := by decide +kernel
theorem dX11_triples_19 : decode cX11_triples 19 = .ok (.ireturn, 1) := by decide +kernel
theorem dX11_triples_20 : decode cX11_triples 20 = .ok (.aload_n 0, 1) := by decide +kernel
theorem dX11_triples_21 : decode cX11_triples 21 = .ok (.lload_n 1, 1) := by decide +kernel
theorem dX11_triples_22 : decode cX11_triples 22 = .ok (.invokevirtual 219, 3) := by decide +kernel
theorem dX11_triples_25 : decode cX11_triples 25 = .ok (.aload_n 0, 1) := by decide +kernel
theorem dX11_triples_26 : decode cX11_triples 26 = .ok (.getfield 204, 3) := by decide +kernel
theorem dX11_triples_29 : decode cX11_triples 29 = .ok (.ifCond .ne 7, 3) := by decide +kernel
theorem dX11_triples_32 : decode cX11_triples 32 = .ok (.iconst (-1), 1) := by decide +kernel
theorem dX11_triples_33 : decode cX11_triples 33 = .ok (.goto 7, 3) := by decide +kernel
theorem dX11_triples_36 : decode cX11_triples 36 = .ok (.aload_n 0, 1) := by decide +kernel
theorem dX11_triples_37 : decode cX11_triples 37 = .ok (.getfield 204, 3) := by decide +kernel
theorem dX11_triples_40 : decode cX11_triples 40 = .ok (.ireturn, 1) := by decide +kernel
theorem dX11_down_0 : decode cX11_down 0 = .ok (.lload_n 0, 1) := by decide +kernel
theorem dX11_down_1 : decode cX11_down 1 = .ok (.lstore 6, 2) := by decide +kernel
theorem dX11_down_3 : decode cX11_down 3 = .ok (.lload_n 2, 1) := by decide +kernel
theorem dX11_down_4 : decode cX11_down 4 = .ok (.lstore 8, 2) := by decide +kernel
theorem dX11_down_6 : decode cX11_down 6 = .ok (.lload 4, 2) := by decide +kernel
theorem dX11_down_8 : decode cX11_down 8 = .ok (.lstore 10, 2) := by decide +kernel
theorem dX11_down_10 : decode cX11_down 10 = .ok (.iconst 0, 1) := by decide +kernel
theorem dX11_down_11 : decode cX11_down 11 = .ok (.istore 12, 2) := by decide +kernel
theorem dX11_down_13 : decode cX11_down 13 = .ok (.lload 6, 2) := by decide +kernel
theorem dX11_down_15 : decode cX11_down 15 = .ok (.lconst 1, 1) := by decide +kernel
theorem dX11_down_16 : decode cX11_down 16 = .ok (.lcmp, 1) := by decide +kernel
theorem dX11_down_17 : decode cX11_down 17 = .ok (.ifCond .ne 17, 3) := by decide +kernel
theorem dX11_down_20 : decode cX11_down 20 = .ok (.lload 8, 2) := by decide +kernel
theorem dX11_down_22 : decode cX11_down 22 = .ok (.lconst 1, 1) := by decide +kernel
theorem dX11_down_23 : decode cX11_down 23 = .ok (.lcmp, 1) := by decide +kernel
theorem dX11_down_24 : decode cX11_down 24 = .ok (.ifCond .ne 10, 3) := by decide +kernel
theorem dX11_down_27 : decode cX11_down 27 = .ok (.lload 10, 2) := by decide +kernel
theorem dX11_down_29 : decode cX11_down 29 = .ok (.lconst 1, 1) := by decide +kernel
theorem dX11_down_30 : decode cX11_down 30 = .ok (.lcmp, 1) := by decide +kernel
theorem dX11_down_31 : decode cX11_down 31 = .ok (.ifCond .eq 81, 3) := by decide +kernel
theorem dX11_down_34 : decode cX11_down 34 = .ok (.lload 10, 2) := by decide +kernel
theorem dX11_down_36 : decode cX11_down 36 = .ok (.lload 6, 2) := by decide +kernel
theorem dX11_down_38 : decode cX11_down 38 = .ok (.lcmp, 1) := by decide +kernel
theorem dX11_down_39 : decode cX11_down 39 = .ok (.ifCond .lt 28, 3) := by decide +kernel
theorem dX11_down_42 : decode cX11_down 42 = .ok (.lload 10, 2) := by decide +kernel
theorem dX11_down_44 : decode cX11_down 44 = .ok (.lload 8, 2) := by decide +kernel
theorem dX11_down_46 : decode cX11_down 46 = .ok (.lcmp, 1) := by decide +kernel
theorem dX11_down_47 : decode cX11_down 47 = .ok (.ifCond .lt 20, 3) := by decide +kernel
theorem dX11_down_50 : decode cX11_down 50 = .ok (.ldc2_w 151, 3) := by decide +kernel
theorem dX11_down_53 : decode cX11_down 53 = .ok (.lload 6, 2) := by decide +kernel
theorem dX11_down_55 : decode cX11_down 55 = .ok (.lmul, 1) := by decide +kernel
theorem dX11_down_56 : decode cX11_down 56 = .ok (.lload 8, 2) := by decide +kernel
theorem dX11_down_58 : decode cX11_down 58 = .ok (.lmul, 1) := by decide +kernel
theorem dX11_down_59 : decode cX11_down 59 = .ok (.lload 10, 2) := by decide +kernel
theorem dX11_down_61 : decode cX11_down 61 = .ok (.lsub, 1) := by decide +kernel
theorem dX11_down_62 : decode cX11_down 62 = .ok (.lstore 10, 2) := by decide +kernel
theorem dX11_down_64 : decode cX11_down 64 = .ok (.goto 42, 3) := by decide +kernel
theorem dX11_down_67 : decode cX11_down 67 = .ok (.lload 8, 2) := by decide +kernel
theorem dX11_down_69 : decode cX11_down 69 = .ok (.lload 6, 2) := by decide +kernel
theorem dX11_down_71 : decode cX11_down 71 = .ok (.lcmp, 1) := by decide +kernel
theorem dX11_down_72 : decode cX11_down 72 = .ok (.ifCond .lt 20, 3) := by decide +kernel
theorem dX11_down_75 : decode cX11_down 75 = .ok (.ldc2_w 151, 3) := by decide +kernel
theorem dX11_down_78 : decode cX11_down 78 = .ok (.lload 6, 2) := by decide +kernel
theorem dX11_down_80 : decode cX11_down 80 = .ok (.lmul, 1) := by decide +kernel
theorem dX11_down_81 : decode cX11_down 81 = .ok (.lload 10, 2) := by decide +kernel
theorem dX11_down_83 : decode cX11_down 83 = .ok (.lmul, 1) := by decide +kernel
theorem dX11_down_84 : decode cX11_down 84 = .ok (.lload 8, 2) := by decide +kernel
theorem dX11_down_86 : decode cX11_down 86 = .ok (.lsub, 1) := by decide +kernel
theorem dX11_down_87 : decode cX11_down 87 = .ok (.lstore 8, 2) := by decide +kernel
theorem dX11_down_89 : decode cX11_down 89 = .ok (.goto 17, 3) := by decide +kernel
theorem dX11_down_92 : decode cX11_down 92 = .ok (.ldc2_w 151, 3) := by decide +kernel
theorem dX11_down_95 : decode cX11_down 95 = .ok (.lload 8, 2) := by decide +kernel
theorem dX11_down_97 : decode cX11_down 97 = .ok (.lmul, 1) := by decide +kernel
theorem dX11_down_98 : decode cX11_down 98 = .ok (.lload 10, 2) := by decide +kernel
theorem dX11_down_100 : decode cX11_down 100 = .ok (.lmul, 1) := by decide +kernel
theorem dX11_down_101 : decode cX11_down 101 = .ok (.lload 6, 2) := by decide +kernel
theorem dX11_down_103 : decode cX11_down 103 = .ok (.lsub, 1) := by decide +kernel
theorem dX11_down_104 : decode cX11_down 104 = .ok (.lstore 6, 2) := by decide +kernel
theorem dX11_down_106 : decode cX11_down 106 = .ok (.iinc 12 1, 3) := by decide +kernel
theorem dX11_down_109 : decode cX11_down 109 = .ok (.goto (-96), 3) := by decide +kernel
theorem dX11_down_112 : decode cX11_down 112 = .ok (.iload 12, 2) := by decide +kernel
theorem dX11_down_114 : decode cX11_down 114 = .ok (.ireturn, 1) := by decide +kernel
theorem dX11_with_0 : decode cX11_with 0 = .ok (.aload_n 0, 1) := by decide +kernel
theorem dX11_with_1 : decode cX11_with 1 = .ok (.iconst 0, 1) := by decide +kernel
theorem dX11_with_2 : decode cX11_with 2 = .ok (.putfield 1, 3) := by decide +kernel
theorem dX11_with_5 : decode cX11_with 5 = .ok (.lload_n 1, 1) := by decide +kernel
theorem dX11_with_6 : decode cX11_with 6 = .ok (.ldc2_w 129, 3) := by decide +kernel
theorem dX11_with_9 : decode cX11_with 9 = .ok (.ldc2_w 213, 3) := by decide +kernel
theorem dX11_with_12 : decode cX11_with 12 = .ok (.invokestatic 91, 3) := by decide +kernel
theorem dX11_with_15 : decode cX11_with 15 = .ok (.ifCond .eq 15, 3) := by decide +kernel
theorem dX11_with_18 : decode cX11_with 18 = .ok (.iload_n 3, 1) := by decide +kernel
theorem dX11_with_19 : decode cX11_with 19 = .ok (.i2l, 1) := by decide +kernel
theorem dX11_with_20 : decode cX11_with 20 = .ok (.lconst 0, 1) := by decide +kernel
theorem dX11_with_21 : decode cX11_with 21 = .ok (.ldc2_w 127, 3) := by decide +kernel
theorem dX11_with_24 : decode cX11_with 24 = .ok (.invokestatic 91, 3) := by decide +kernel
theorem dX11_with_27 : decode cX11_with 27 = .ok (.ifCond .ne 7, 3) := by decide +kernel
theorem dX11_with_30 : decode cX11_with 30 = .ok (.ldc2_w 192, 3) := by decide +kernel
theorem dX11_with_33 : decode cX11_with 33 = .ok (.lreturn, 1) := by decide +kernel
theorem dX11_with_34 : decode cX11_with 34 = .ok (.aload_n 0, 1) := by decide +kernel
theorem dX11_with_35 : decode cX11_with 35 = .ok (.lload_n 1, 1) := by decide +kernel
theorem dX11_with_36 : decode cX11_with 36 = .ok (.invokevirtual 219, 3) := by decide +kernel
theorem dX11_with_39 : decode cX11_with 39 = .ok (.aload_n 0, 1) := by decide +kernel
theorem dX11_with_40 : decode cX11_with 40 = .ok (.getfield 204, 3) := by decide +kernel
theorem dX11_with_43 : decode cX11_with 43 = .ok (.ifCond .ne 7, 3) := by decide +kernel
theorem dX11_with_46 : decode cX11_with 46 = .ok (.ldc2_w 192, 3) := by decide +kernel
theorem dX11_with_49 : decode cX11_with 49 = .ok (.lreturn, 1) := by decide +kernel
theorem dX11_with_50 : decode cX11_with 50 = .ok (.iload_n 3, 1) := by decide +kernel
theorem dX11_with_51 : decode cX11_with 51 = .ok (.ifCond .ne 10, 3) := by decide +kernel
theorem dX11_with_54 : decode cX11_with 54 = .ok (.aload_n 0, 1) := by decide +kernel
theorem dX11_with_55 : decode cX11_with 55 = .ok (.getfield 207, 3) := by decide +kernel
theorem dX11_with_58 : decode cX11_with 58 = .ok (.goto 28, 3) := by decide +kernel
theorem dX11_with_61 : decode cX11_with 61 = .ok (.iload_n 3, 1) := by decide +kernel
theorem dX11_with_62 : decode cX11_with 62 = .ok (.iconst 1, 1) := by decide +kernel
theorem dX11_with_63 : decode cX11_with 63 = .ok (.if_icmp .ne 10, 3) := by decide +kernel
theorem dX11_with_66 : decode cX11_with 66 = .ok (.aload_n 0, 1) := by decide +kernel
theorem dX11_with_67 : decode cX11_with 67 = .ok (.getfield 210, 3) := by decide +kernel
theorem dX11_with_70 : decode cX11_with 70 = .ok (.goto 16, 3) := by decide +kernel
theorem dX11_with_73 : decode cX11_with 73 = .ok (.aload_n 0, 1) := by decide +kernel
theorem dX11_with_74 : decode cX11_with 74 = .ok (.getfield 207, 3) := by decide +kernel
theorem dX11_with_77 : decode cX11_with 77 = .ok (.aload_n 0, 1) := by decide +kernel
theorem dX11_with_78 : decode cX11_with 78 = .ok (.getfield 210, 3) := by decide +kernel
theorem dX11_with_81 : decode cX11_with 81 = .ok (.lload_n 1, 1) := by decide +kernel
theorem dX11_with_82 : decode cX11_with 82 = .ok (.invokestatic 222, 3) := by decide +kernel
theorem dX11_with_85 : decode cX11_with 85 = .ok (.i2l, 1) := by decide +kernel
theorem dX11_with_86 : decode cX11_with 86 = .ok (.lreturn, 1) := by decide +kernel
theorem dX11_spread_0 : decode cX11_spread 0 = .ok (.aload_n 0, 1) := by decide +kernel
theorem dX11_spread_1 : decode cX11_spread 1 = .ok (.iconst 0, 1) := by decide +kernel
theorem dX11_spread_2 : decode cX11_spread 2 = .ok (.putfield 1, 3) := by decide +kernel
theorem dX11_spread_5 : decode cX11_spread 5 = .ok (.aload_n 0, 1) := by decide +kernel
theorem dX11_spread_6 : decode cX11_spread 6 = .ok (.invokevirtual 138, 3) := by decide +kernel
theorem dX11_spread_9 : decode cX11_spread 9 = .ok (.l2f, 1) := by decide +kernel
theorem dX11_spread_10 : decode cX11_spread 10 = .ok (.fstore_n 1, 1) := by decide +kernel
theorem dX11_spread_11 : decode cX11_spread 11 = .ok (.ldc 226, 2) := by decide +kernel
theorem dX11_spread_13 : decode cX11_spread 13 = .ok (.ldc 227, 2) := by decide +kernel
theorem dX11_spread_15 : decode cX11_spread 15 = .ok (.fload_n 1, 1) := by decide +kernel
theorem dX11_spread_16 : decode cX11_spread 16 = .ok (.fload_n 1, 1) := by decide +kernel
theorem dX11_spread_17 : decode cX11_spread 17 = .ok (.fmul, 1) := by decide +kernel
theorem dX11_spread_18 : decode cX11_spread 18 = .ok (.fdiv, 1) := by decide +kernel
theorem dX11_spread_19 : decode cX11_spread 19 = .ok (.fsub, 1) := by decide +kernel
theorem dX11_spread_20 : decode cX11_spread 20 = .ok (.invokestatic 228, 3) := by decide +kernel
theorem dX11_spread_23 : decode cX11_spread 23 = .ok (.ireturn, 1) := by decide +kernel
theorem dX11_markP_0 : decode cX11_markP 0 = .ok (.aload_n 0, 1) := by decide +kernel
theorem dX11_markP_1 : decode cX11_markP 1 = .ok (.getfield 24, 3) := by decide +kernel
theorem dX11_markP_4 : decode cX11_markP 4 = .ok (.iconst 3, 1) := by decide +kernel
theorem dX11_markP_5 : decode cX11_markP 5 = .ok (.iconst 2, 1) := by decide +kernel
theorem dX11_markP_6 : decode cX11_markP 6 = .ok (.iload_n 1, 1) := by decide +kernel
theorem dX11_markP_7 : decode cX11_markP 7 = .ok (.imul, 1) := by decide +kernel
theorem dX11_markP_8 : decode cX11_markP 8 = .ok (.iadd, 1) := by decide +kernel
theorem dX11_markP_9 : decode cX11_markP 9 = .ok (.iaload, 1) := by decide +kernel
theorem dX11_markP_10 : decode cX11_markP 10 = .ok (.ireturn, 1) := by decide +kernel
theorem dX11_markQ_0 : decode cX11_markQ 0 = .ok (.aload_n 0, 1) := by decide +kernel
theorem dX11_markQ_1 : decode cX11_markQ 1 = .ok (.getfield 24, 3) := by decide +kernel
theorem dX11_markQ_4 : decode cX11_markQ 4 = .ok (.iconst 3, 1) := by decide +kernel
theorem dX11_markQ_5 : decode cX11_markQ 5 = .ok (.iconst 2, 1) := by decide +kernel
theorem dX11_markQ_6 : decode cX11_markQ 6 = .ok (.iload_n 1, 1) := by decide +kernel
theorem dX11_markQ_7 : decode cX11_markQ 7 = .ok (.imul, 1) := by decide +kernel
theorem dX11_markQ_8 : decode cX11_markQ 8 = .ok (.iadd, 1) := by decide +kernel
theorem dX11_markQ_9 : decode cX11_markQ 9 = .ok (.iconst 1, 1) := by decide +kernel
theorem dX11_markQ_10 : decode cX11_markQ 10 = .ok (.iadd, 1) := by decide +kernel
theorem dX11_markQ_11 : decode cX11_markQ 11 = .ok (.iaload, 1) := by decide +kernel
theorem dX11_markQ_12 : decode cX11_markQ 12 = .ok (.ireturn, 1) := by decide +kernel
theorem dX11_markNumber_0 : decode cX11_markNumber 0 = .ok (.aload_n 0, 1) := by decide +kernel
theorem dX11_markNumber_1 : decode cX11_markNumber 1 = .ok (.aload_n 0, 1) := by decide +kernel
theorem dX11_markNumber_2 : decode cX11_markNumber 2 = .ok (.iload_n 1, 1) := by decide +kernel
theorem dX11_markNumber_3 : decode cX11_markNumber 3 = .ok (.invokevirtual 234, 3) := by decide +kernel
theorem dX11_markNumber_6 : decode cX11_markNumber 6 = .ok (.aload_n 0, 1) := by decide +kernel
theorem dX11_markNumber_7 : decode cX11_markNumber 7 = .ok (.iload_n 1, 1) := by decide +kernel
theorem dX11_markNumber_8 : decode cX11_markNumber 8 = .ok (.invokevirtual 237, 3) := by decide +kernel
theorem dX11_markNumber_11 : decode cX11_markNumber 11 = .ok (.invokevirtual 134, 3) := by decide +kernel
theorem dX11_markNumber_14 : decode cX11_markNumber 14 = .ok (.lreturn, 1) := by decide +kernel
theorem dX11_markHere_0 : decode cX11_markHere 0 = .ok (.iconst 0, 1) := by decide +kernel
theorem dX11_markHere_1 : decode cX11_markHere 1 = .ok (.istore_n 1, 1) := by decide +kernel
theorem dX11_markHere_2 : decode cX11_markHere 2 = .ok (.iload_n 1, 1) := by decide +kernel
theorem dX11_markHere_3 : decode cX11_markHere 3 = .ok (.aload_n 0, 1) := by decide +kernel
theorem dX11_markHere_4 : decode cX11_markHere 4 = .ok (.getfield 24, 3) := by decide +kernel
theorem dX11_markHere_7 : decode cX11_markHere 7 = .ok (.iconst 2, 1) := by decide +kernel
theorem dX11_markHere_8 : decode cX11_markHere 8 = .ok (.iaload, 1) := by decide +kernel
theorem dX11_markHere_9 : decode cX11_markHere 9 = .ok (.if_icmp .ge 39, 3) := by decide +kernel
theorem dX11_markHere_12 : decode cX11_markHere 12 = .ok (.aload_n 0, 1) := by decide +kernel
theorem dX11_markHere_13 : decode cX11_markHere 13 = .ok (.iload_n 1, 1) := by decide +kernel
theorem dX11_markHere_14 : decode cX11_markHere 14 = .ok (.invokevirtual 234, 3) := by decide +kernel
theorem dX11_markHere_17 : decode cX11_markHere 17 = .ok (.aload_n 0, 1) := by decide +kernel
theorem dX11_markHere_18 : decode cX11_markHere 18 = .ok (.getfield 24, 3) := by decide +kernel
theorem dX11_markHere_21 : decode cX11_markHere 21 = .ok (.iconst 0, 1) := by decide +kernel
theorem dX11_markHere_22 : decode cX11_markHere 22 = .ok (.iaload, 1) := by decide +kernel
theorem dX11_markHere_23 : decode cX11_markHere 23 = .ok (.if_icmp .ne 19, 3) := by decide +kernel
theorem dX11_markHere_26 : decode cX11_markHere 26 = .ok (.aload_n 0, 1) := by decide +kernel
theorem dX11_markHere_27 : decode cX11_markHere 27 = .ok (.iload_n 1, 1) := by decide +kernel
theorem dX11_markHere_28 : decode cX11_markHere 28 = .ok (.invokevirtual 237, 3) := by decide +kernel
theorem dX11_markHere_31 : decode cX11_markHere 31 = .ok (.aload_n 0, 1) := by decide +kernel
theorem dX11_markHere_32 : decode cX11_markHere 32 = .ok (.getfield 24, 3) := by decide +kernel
theorem dX11_markHere_35 : decode cX11_markHere 35 = .ok (.iconst 1, 1) := by decide +kernel
theorem dX11_markHere_36 : decode cX11_markHere 36 = .ok (.iaload, 1) := by decide +kernel
theorem dX11_markHere_37 : decode cX11_markHere 37 = .ok (.if_icmp .ne 5, 3) := by decide +kernel
theorem dX11_markHere_40 : decode cX11_markHere 40 = .ok (.iload_n 1, 1) := by decide +kernel
theorem dX11_markHere_41 : decode cX11_markHere 41 = .ok (.ireturn, 1) := by decide +kernel
theorem dX11_markHere_42 : decode cX11_markHere 42 = .ok (.iinc 1 1, 3) := by decide +kernel
theorem dX11_markHere_45 : decode cX11_markHere 45 = .ok (.goto (-43), 3) := by decide +kernel
theorem dX11_markHere_48 : decode cX11_markHere 48 = .ok (.iconst (-1), 1) := by decide +kernel
theorem dX11_markHere_49 : decode cX11_markHere 49 = .ok (.ireturn, 1) := by decide +kernel
theorem dX11_marks_0 : decode cX11_marks 0 = .ok (.aload_n 0, 1) := by decide +kernel
theorem dX11_marks_1 : decode cX11_marks 1 = .ok (.getfield 24, 3) := by decide +kernel
theorem dX11_marks_4 : decode cX11_marks 4 = .ok (.iconst 2, 1) := by decide +kernel
theorem dX11_marks_5 : decode cX11_marks 5 = .ok (.iaload, 1) := by decide +kernel
theorem dX11_marks_6 : decode cX11_marks 6 = .ok (.istore_n 1, 1) := by decide +kernel
theorem dX11_marks_7 : decode cX11_marks 7 = .ok (.aload_n 0, 1) := by decide +kernel
theorem dX11_marks_8 : decode cX11_marks 8 = .ok (.invokevirtual 138, 3) := by decide +kernel
theorem dX11_marks_11 : decode cX11_marks 11 = .ok (.lstore_n 2, 1) := by decide +kernel
theorem dX11_marks_12 : decode cX11_marks 12 = .ok (.iload_n 1, 1) := by decide +kernel
theorem dX11_marks_13 : decode cX11_marks 13 = .ok (.ifCond .le 57, 3) := by decide +kernel
theorem dX11_marks_16 : decode cX11_marks 16 = .ok (.aload_n 0, 1) := by decide +kernel
theorem dX11_marks_17 : decode cX11_marks 17 = .ok (.iload_n 1, 1) := by decide +kernel
theorem dX11_marks_18 : decode cX11_marks 18 = .ok (.iconst 1, 1) := by decide +kernel
theorem dX11_marks_19 : decode cX11_marks 19 = .ok (.isub, 1) := by decide +kernel
theorem dX11_marks_20 : decode cX11_marks 20 = .ok (.invokevirtual 240, 3) := by decide +kernel
theorem dX11_marks_23 : decode cX11_marks 23 = .ok (.lload_n 2, 1) := by decide +kernel
theorem dX11_marks_24 : decode cX11_marks 24 = .ok (.lcmp, 1) := by decide +kernel
theorem dX11_marks_25 : decode cX11_marks 25 = .ok (.ifCond .le 45, 3) := by decide +kernel
theorem dX11_marks_28 : decode cX11_marks 28 = .ok (.aload_n 0, 1) := by decide +kernel
theorem dX11_marks_29 : decode cX11_marks 29 = .ok (.getfield 24, 3) := by decide +kernel
theorem dX11_marks_32 : decode cX11_marks 32 = .ok (.iconst 3, 1) := by decide +kernel
theorem dX11_marks_33 : decode cX11_marks 33 = .ok (.iconst 2, 1) := by decide +kernel
theorem dX11_marks_34 : decode cX11_marks 34 = .ok (.iload_n 1, 1) := by decide +kernel
theorem dX11_marks_35 : decode cX11_marks 35 = .ok (.imul, 1) := by decide +kernel
theorem dX11_marks_36 : decode cX11_marks 36 = .ok (.iadd, 1) := by decide +kernel
theorem dX11_marks_37 : decode cX11_marks 37 = .ok (.aload_n 0, 1) := by decide +kernel
theorem dX11_marks_38 : decode cX11_marks 38 = .ok (.iload_n 1, 1) := by decide +kernel
theorem dX11_marks_39 : decode cX11_marks 39 = .ok (.iconst 1, 1) := by decide +kernel
theorem dX11_marks_40 : decode cX11_marks 40 = .ok (.isub, 1) := by decide +kernel
theorem dX11_marks_41 : decode cX11_marks 41 = .ok (.invokevirtual 234, 3) := by decide +kernel
theorem dX11_marks_44 : decode cX11_marks 44 = .ok (.iastore, 1) := by decide +kernel
theorem dX11_marks_45 : decode cX11_marks 45 = .ok (.aload_n 0, 1) := by decide +kernel
theorem dX11_marks_46 : decode cX11_marks 46 = .ok (.getfield 24, 3) := by decide +kernel
theorem dX11_marks_49 : decode cX11_marks 49 = .ok (.iconst 3, 1) := by decide +kernel
theorem dX11_marks_50 : decode cX11_marks 50 = .ok (.iconst 2, 1) := by decide +kernel
theorem dX11_marks_51 : decode cX11_marks 51 = .ok (.iload_n 1, 1) := by decide +kernel
theorem dX11_marks_52 : decode cX11_marks 52 = .ok (.imul, 1) := by decide +kernel
theorem dX11_marks_53 : decode cX11_marks 53 = .ok (.iadd, 1) := by decide +kernel
theorem dX11_marks_54 : decode cX11_marks 54 = .ok (.iconst 1, 1) := by decide +kernel
theorem dX11_marks_55 : decode cX11_marks 55 = .ok (.iadd, 1) := by decide +kernel
theorem dX11_marks_56 : decode cX11_marks 56 = .ok (.aload_n 0, 1) := by decide +kernel
theorem dX11_marks_57 : decode cX11_marks 57 = .ok (.iload_n 1, 1) := by decide +kernel
theorem dX11_marks_58 : decode cX11_marks 58 = .ok (.iconst 1, 1) := by decide +kernel
theorem dX11_marks_59 : decode cX11_marks 59 = .ok (.isub, 1) := by decide +kernel
theorem dX11_marks_60 : decode cX11_marks 60 = .ok (.invokevirtual 237, 3) := by decide +kernel
theorem dX11_marks_63 : decode cX11_marks 63 = .ok (.iastore, 1) := by decide +kernel
theorem dX11_marks_64 : decode cX11_marks 64 = .ok (.iinc 1 (-1), 3) := by decide +kernel
theorem dX11_marks_67 : decode cX11_marks 67 = .ok (.goto (-55), 3) := by decide +kernel
theorem dX11_marks_70 : decode cX11_marks 70 = .ok (.aload_n 0, 1) := by decide +kernel
theorem dX11_marks_71 : decode cX11_marks 71 = .ok (.getfield 24, 3) := by decide +kernel
theorem dX11_marks_74 : decode cX11_marks 74 = .ok (.iconst 3, 1) := by decide +kernel
theorem dX11_marks_75 : decode cX11_marks 75 = .ok (.iconst 2, 1) := by decide +kernel
theorem dX11_marks_76 : decode cX11_marks 76 = .ok (.iload_n 1, 1) := by decide +kernel
theorem dX11_marks_77 : decode cX11_marks 77 = .ok (.imul, 1) := by decide +kernel
theorem dX11_marks_78 : decode cX11_marks 78 = .ok (.iadd, 1) := by decide +kernel
theorem dX11_marks_79 : decode cX11_marks 79 = .ok (.aload_n 0, 1) := by decide +kernel
theorem dX11_marks_80 : decode cX11_marks 80 = .ok (.getfield 24, 3) := by decide +kernel
theorem dX11_marks_83 : decode cX11_marks 83 = .ok (.iconst 0, 1) := by decide +kernel
theorem dX11_marks_84 : decode cX11_marks 84 = .ok (.iaload, 1) := by decide +kernel
theorem dX11_marks_85 : decode cX11_marks 85 = .ok (.iastore, 1) := by decide +kernel
theorem dX11_marks_86 : decode cX11_marks 86 = .ok (.aload_n 0, 1) := by decide +kernel
theorem dX11_marks_87 : decode cX11_marks 87 = .ok (.getfield 24, 3) := by decide +kernel
theorem dX11_marks_90 : decode cX11_marks 90 = .ok (.iconst 3, 1) := by decide +kernel
theorem dX11_marks_91 : decode cX11_marks 91 = .ok (.iconst 2, 1) := by decide +kernel
theorem dX11_marks_92 : decode cX11_marks 92 = .ok (.iload_n 1, 1) := by decide +kernel
theorem dX11_marks_93 : decode cX11_marks 93 = .ok (.imul, 1) := by decide +kernel
theorem dX11_marks_94 : decode cX11_marks 94 = .ok (.iadd, 1) := by decide +kernel
theorem dX11_marks_95 : decode cX11_marks 95 = .ok (.iconst 1, 1) := by decide +kernel
theorem dX11_marks_96 : decode cX11_marks 96 = .ok (.iadd, 1) := by decide +kernel
theorem dX11_marks_97 : decode cX11_marks 97 = .ok (.aload_n 0, 1) := by decide +kernel
theorem dX11_marks_98 : decode cX11_marks 98 = .ok (.getfield 24, 3) := by decide +kernel
theorem dX11_marks_101 : decode cX11_marks 101 = .ok (.iconst 1, 1) := by decide +kernel
theorem dX11_marks_102 : decode cX11_marks 102 = .ok (.iaload, 1) := by decide +kernel
theorem dX11_marks_103 : decode cX11_marks 103 = .ok (.iastore, 1) := by decide +kernel
theorem dX11_marks_104 : decode cX11_marks 104 = .ok (.aload_n 0, 1) := by decide +kernel
theorem dX11_marks_105 : decode cX11_marks 105 = .ok (.getfield 24, 3) := by decide +kernel
theorem dX11_marks_108 : decode cX11_marks 108 = .ok (.iconst 2, 1) := by decide +kernel
theorem dX11_marks_109 : decode cX11_marks 109 = .ok (.dup2, 1) := by decide +kernel
theorem dX11_marks_110 : decode cX11_marks 110 = .ok (.iaload, 1) := by decide +kernel
theorem dX11_marks_111 : decode cX11_marks 111 = .ok (.iconst 1, 1) := by decide +kernel
theorem dX11_marks_112 : decode cX11_marks 112 = .ok (.iadd, 1) := by decide +kernel
theorem dX11_marks_113 : decode cX11_marks 113 = .ok (.iastore, 1) := by decide +kernel
theorem dX11_marks_114 : decode cX11_marks 114 = .ok (.return_, 1) := by decide +kernel
theorem dX11_mark_0 : decode cX11_mark 0 = .ok (.aload_n 0, 1) := by decide +kernel
theorem dX11_mark_1 : decode cX11_mark 1 = .ok (.iconst 0, 1) := by decide +kernel
theorem dX11_mark_2 : decode cX11_mark 2 = .ok (.putfield 1, 3) := by decide +kernel
theorem dX11_mark_5 : decode cX11_mark 5 = .ok (.aload_n 0, 1) := by decide +kernel
theorem dX11_mark_6 : decode cX11_mark 6 = .ok (.invokevirtual 244, 3) := by decide +kernel
theorem dX11_mark_9 : decode cX11_mark 9 = .ok (.iconst (-1), 1) := by decide +kernel
theorem dX11_mark_10 : decode cX11_mark 10 = .ok (.if_icmp .eq 5, 3) := by decide +kernel
theorem dX11_mark_13 : decode cX11_mark 13 = .ok (.iconst 1, 1) := by decide +kernel
theorem dX11_mark_14 : decode cX11_mark 14 = .ok (.ireturn, 1) := by decide +kernel
theorem dX11_mark_15 : decode cX11_mark 15 = .ok (.aload_n 0, 1) := by decide +kernel
theorem dX11_mark_16 : decode cX11_mark 16 = .ok (.getfield 24, 3) := by decide +kernel
theorem dX11_mark_19 : decode cX11_mark 19 = .ok (.iconst 2, 1) := by decide +kernel
theorem dX11_mark_20 : decode cX11_mark 20 = .ok (.iaload, 1) := by decide +kernel
theorem dX11_mark_21 : decode cX11_mark 21 = .ok (.bipush 16, 2) := by decide +kernel
theorem dX11_mark_23 : decode cX11_mark 23 = .ok (.if_icmp .ne 5, 3) := by decide +kernel
theorem dX11_mark_26 : decode cX11_mark 26 = .ok (.iconst (-1), 1) := by decide +kernel
theorem dX11_mark_27 : decode cX11_mark 27 = .ok (.ireturn, 1) := by decide +kernel
theorem dX11_mark_28 : decode cX11_mark 28 = .ok (.aload_n 0, 1) := by decide +kernel
theorem dX11_mark_29 : decode cX11_mark 29 = .ok (.invokevirtual 63, 3) := by decide +kernel
theorem dX11_mark_32 : decode cX11_mark 32 = .ok (.aload_n 0, 1) := by decide +kernel
theorem dX11_mark_33 : decode cX11_mark 33 = .ok (.invokevirtual 247, 3) := by decide +kernel
theorem dX11_mark_36 : decode cX11_mark 36 = .ok (.iconst 0, 1) := by decide +kernel
theorem dX11_mark_37 : decode cX11_mark 37 = .ok (.ireturn, 1) := by decide +kernel
theorem dX11_unmark_0 : decode cX11_unmark 0 = .ok (.aload_n 0, 1) := by decide +kernel
theorem dX11_unmark_1 : decode cX11_unmark 1 = .ok (.iconst 0, 1) := by decide +kernel
theorem dX11_unmark_2 : decode cX11_unmark 2 = .ok (.putfield 1, 3) := by decide +kernel
theorem dX11_unmark_5 : decode cX11_unmark 5 = .ok (.aload_n 0, 1) := by decide +kernel
theorem dX11_unmark_6 : decode cX11_unmark 6 = .ok (.invokevirtual 244, 3) := by decide +kernel
theorem dX11_unmark_9 : decode cX11_unmark 9 = .ok (.istore_n 1, 1) := by decide +kernel
theorem dX11_unmark_10 : decode cX11_unmark 10 = .ok (.iload_n 1, 1) := by decide +kernel
theorem dX11_unmark_11 : decode cX11_unmark 11 = .ok (.iconst (-1), 1) := by decide +kernel
theorem dX11_unmark_12 : decode cX11_unmark 12 = .ok (.if_icmp .ne 5, 3) := by decide +kernel
theorem dX11_unmark_15 : decode cX11_unmark 15 = .ok (.iconst 1, 1) := by decide +kernel
theorem dX11_unmark_16 : decode cX11_unmark 16 = .ok (.ireturn, 1) := by decide +kernel
theorem dX11_unmark_17 : decode cX11_unmark 17 = .ok (.aload_n 0, 1) := by decide +kernel
theorem dX11_unmark_18 : decode cX11_unmark 18 = .ok (.invokevirtual 63, 3) := by decide +kernel
theorem dX11_unmark_21 : decode cX11_unmark 21 = .ok (.aload_n 0, 1) := by decide +kernel
theorem dX11_unmark_22 : decode cX11_unmark 22 = .ok (.getfield 24, 3) := by decide +kernel
theorem dX11_unmark_25 : decode cX11_unmark 25 = .ok (.iconst 2, 1) := by decide +kernel
theorem dX11_unmark_26 : decode cX11_unmark 26 = .ok (.dup2, 1) := by decide +kernel
theorem dX11_unmark_27 : decode cX11_unmark 27 = .ok (.iaload, 1) := by decide +kernel
theorem dX11_unmark_28 : decode cX11_unmark 28 = .ok (.iconst 1, 1) := by decide +kernel
theorem dX11_unmark_29 : decode cX11_unmark 29 = .ok (.isub, 1) := by decide +kernel
theorem dX11_unmark_30 : decode cX11_unmark 30 = .ok (.iastore, 1) := by decide +kernel
theorem dX11_unmark_31 : decode cX11_unmark 31 = .ok (.iconst 2, 1) := by decide +kernel
theorem dX11_unmark_32 : decode cX11_unmark 32 = .ok (.iload_n 1, 1) := by decide +kernel
theorem dX11_unmark_33 : decode cX11_unmark 33 = .ok (.imul, 1) := by decide +kernel
theorem dX11_unmark_34 : decode cX11_unmark 34 = .ok (.istore_n 2, 1) := by decide +kernel
theorem dX11_unmark_35 : decode cX11_unmark 35 = .ok (.iload_n 2, 1) := by decide +kernel
theorem dX11_unmark_36 : decode cX11_unmark 36 = .ok (.iconst 2, 1) := by decide +kernel
theorem dX11_unmark_37 : decode cX11_unmark 37 = .ok (.aload_n 0, 1) := by decide +kernel
theorem dX11_unmark_38 : decode cX11_unmark 38 = .ok (.getfield 24, 3) := by decide +kernel
theorem dX11_unmark_41 : decode cX11_unmark 41 = .ok (.iconst 2, 1) := by decide +kernel
theorem dX11_unmark_42 : decode cX11_unmark 42 = .ok (.iaload, 1) := by decide +kernel
theorem dX11_unmark_43 : decode cX11_unmark 43 = .ok (.imul, 1) := by decide +kernel
theorem dX11_unmark_44 : decode cX11_unmark 44 = .ok (.if_icmp .ge 27, 3) := by decide +kernel
theorem dX11_unmark_47 : decode cX11_unmark 47 = .ok (.aload_n 0, 1) := by decide +kernel
theorem dX11_unmark_48 : decode cX11_unmark 48 = .ok (.getfield 24, 3) := by decide +kernel
theorem dX11_unmark_51 : decode cX11_unmark 51 = .ok (.iconst 3, 1) := by decide +kernel
theorem dX11_unmark_52 : decode cX11_unmark 52 = .ok (.iload_n 2, 1) := by decide +kernel
theorem dX11_unmark_53 : decode cX11_unmark 53 = .ok (.iadd, 1) := by decide +kernel
theorem dX11_unmark_54 : decode cX11_unmark 54 = .ok (.aload_n 0, 1) := by decide +kernel
theorem dX11_unmark_55 : decode cX11_unmark 55 = .ok (.getfield 24, 3) := by decide +kernel
theorem dX11_unmark_58 : decode cX11_unmark 58 = .ok (.iconst 3, 1) := by decide +kernel
theorem dX11_unmark_59 : decode cX11_unmark 59 = .ok (.iload_n 2, 1) := by decide +kernel
theorem dX11_unmark_60 : decode cX11_unmark 60 = .ok (.iadd, 1) := by decide +kernel
theorem dX11_unmark_61 : decode cX11_unmark 61 = .ok (.iconst 2, 1) := by decide +kernel
theorem dX11_unmark_62 : decode cX11_unmark 62 = .ok (.iadd, 1) := by decide +kernel
theorem dX11_unmark_63 : decode cX11_unmark 63 = .ok (.iaload, 1) := by decide +kernel
theorem dX11_unmark_64 : decode cX11_unmark 64 = .ok (.iastore, 1) := by decide +kernel
theorem dX11_unmark_65 : decode cX11_unmark 65 = .ok (.iinc 2 1, 3) := by decide +kernel
theorem dX11_unmark_68 : decode cX11_unmark 68 = .ok (.goto (-33), 3) := by decide +kernel
theorem dX11_unmark_71 : decode cX11_unmark 71 = .ok (.iconst 0, 1) := by decide +kernel
theorem dX11_unmark_72 : decode cX11_unmark 72 = .ok (.ireturn, 1) := by decide +kernel
theorem dX11_marked_0 : decode cX11_marked 0 = .ok (.aload_n 0, 1) := by decide +kernel
theorem dX11_marked_1 : decode cX11_marked 1 = .ok (.iconst 0, 1) := by decide +kernel
theorem dX11_marked_2 : decode cX11_marked 2 = .ok (.putfield 1, 3) := by decide +kernel
theorem dX11_marked_5 : decode cX11_marked 5 = .ok (.iload_n 1, 1) := by decide +kernel
theorem dX11_marked_6 : decode cX11_marked 6 = .ok (.i2l, 1) := by decide +kernel
theorem dX11_marked_7 : decode cX11_marked 7 = .ok (.lconst 0, 1) := by decide +kernel
theorem dX11_marked_8 : decode cX11_marked 8 = .ok (.aload_n 0, 1) := by decide +kernel
theorem dX11_marked_9 : decode cX11_marked 9 = .ok (.getfield 24, 3) := by decide +kernel
theorem dX11_marked_12 : decode cX11_marked 12 = .ok (.iconst 2, 1) := by decide +kernel
theorem dX11_marked_13 : decode cX11_marked 13 = .ok (.iaload, 1) := by decide +kernel
theorem dX11_marked_14 : decode cX11_marked 14 = .ok (.iconst 1, 1) := by decide +kernel
theorem dX11_marked_15 : decode cX11_marked 15 = .ok (.isub, 1) := by decide +kernel
theorem dX11_marked_16 : decode cX11_marked 16 = .ok (.i2l, 1) := by decide +kernel
theorem dX11_marked_17 : decode cX11_marked 17 = .ok (.invokestatic 91, 3) := by decide +kernel
theorem dX11_marked_20 : decode cX11_marked 20 = .ok (.ifCond .ne 7, 3) := by decide +kernel
theorem dX11_marked_23 : decode cX11_marked 23 = .ok (.ldc2_w 192, 3) := by decide +kernel
theorem dX11_marked_26 : decode cX11_marked 26 = .ok (.lreturn, 1) := by decide +kernel
theorem dX11_marked_27 : decode cX11_marked 27 = .ok (.iload_n 2, 1) := by decide +kernel
theorem dX11_marked_28 : decode cX11_marked 28 = .ok (.tableswitch 48 0 2 #[28, 34, 41], 28) := by decide +kernel
theorem dX11_marked_56 : decode cX11_marked 56 = .ok (.aload_n 0, 1) := by decide +kernel
theorem dX11_marked_57 : decode cX11_marked 57 = .ok (.iload_n 1, 1) := by decide +kernel
theorem dX11_marked_58 : decode cX11_marked 58 = .ok (.invokevirtual 240, 3) := by decide +kernel
theorem dX11_marked_61 : decode cX11_marked 61 = .ok (.lreturn, 1) := by decide +kernel
theorem dX11_marked_62 : decode cX11_marked 62 = .ok (.aload_n 0, 1) := by decide +kernel
theorem dX11_marked_63 : decode cX11_marked 63 = .ok (.iload_n 1, 1) := by decide +kernel
theorem dX11_marked_64 : decode cX11_marked 64 = .ok (.invokevirtual 234, 3) := by decide +kernel
theorem dX11_marked_67 : decode cX11_marked 67 = .ok (.i2l, 1) := by decide +kernel
theorem dX11_marked_68 : decode cX11_marked 68 = .ok (.lreturn, 1) := by decide +kernel
theorem dX11_marked_69 : decode cX11_marked 69 = .ok (.aload_n 0, 1) := by decide +kernel
theorem dX11_marked_70 : decode cX11_marked 70 = .ok (.iload_n 1, 1) := by decide +kernel
theorem dX11_marked_71 : decode cX11_marked 71 = .ok (.invokevirtual 237, 3) := by decide +kernel
theorem dX11_marked_74 : decode cX11_marked 74 = .ok (.i2l, 1) := by decide +kernel
theorem dX11_marked_75 : decode cX11_marked 75 = .ok (.lreturn, 1) := by decide +kernel
theorem dX11_marked_76 : decode cX11_marked 76 = .ok (.ldc2_w 192, 3) := by decide +kernel
theorem dX11_marked_79 : decode cX11_marked 79 = .ok (.lreturn, 1) := by decide +kernel
theorem dX11_near_0 : decode cX11_near 0 = .ok (.aload_n 0, 1) := by decide +kernel
theorem dX11_near_1 : decode cX11_near 1 = .ok (.iconst 0, 1) := by decide +kernel
theorem dX11_near_2 : decode cX11_near 2 = .ok (.putfield 1, 3) := by decide +kernel
theorem dX11_near_5 : decode cX11_near 5 = .ok (.ldc2_w 192, 3) := by decide +kernel
theorem dX11_near_8 : decode cX11_near 8 = .ok (.lstore 4, 2) := by decide +kernel
theorem dX11_near_10 : decode cX11_near 10 = .ok (.iconst 0, 1) := by decide +kernel
theorem dX11_near_11 : decode cX11_near 11 = .ok (.istore 6, 2) := by decide +kernel
theorem dX11_near_13 : decode cX11_near 13 = .ok (.iload 6, 2) := by decide +kernel
theorem dX11_near_15 : decode cX11_near 15 = .ok (.aload_n 0, 1) := by decide +kernel
theorem dX11_near_16 : decode cX11_near 16 = .ok (.getfield 24, 3) := by decide +kernel
theorem dX11_near_19 : decode cX11_near 19 = .ok (.iconst 2, 1) := by decide +kernel
theorem dX11_near_20 : decode cX11_near 20 = .ok (.iaload, 1) := by decide +kernel
theorem dX11_near_21 : decode cX11_near 21 = .ok (.if_icmp .ge 51, 3) := by decide +kernel
theorem dX11_near_24 : decode cX11_near 24 = .ok (.aload_n 0, 1) := by decide +kernel
theorem dX11_near_25 : decode cX11_near 25 = .ok (.iload 6, 2) := by decide +kernel
theorem dX11_near_27 : decode cX11_near 27 = .ok (.invokevirtual 240, 3) := by decide +kernel
theorem dX11_near_30 : decode cX11_near 30 = .ok (.lstore 7, 2) := by decide +kernel
theorem dX11_near_32 : decode cX11_near 32 = .ok (.iload_n 3, 1) := by decide +kernel
theorem dX11_near_33 : decode cX11_near 33 = .ok (.ifCond .eq 22, 3) := by decide +kernel
theorem dX11_near_36 : decode cX11_near 36 = .ok (.lload 7, 2) := by decide +kernel
theorem dX11_near_38 : decode cX11_near 38 = .ok (.lload_n 1, 1) := by decide +kernel
theorem dX11_near_39 : decode cX11_near 39 = .ok (.lcmp, 1) := by decide +kernel
theorem dX11_near_40 : decode cX11_near 40 = .ok (.ifCond .lt 26, 3) := by decide +kernel
theorem dX11_near_43 : decode cX11_near 43 = .ok (.lload 4, 2) := by decide +kernel
theorem dX11_near_45 : decode cX11_near 45 = .ok (.ldc2_w 192, 3) := by decide +kernel
theorem dX11_near_48 : decode cX11_near 48 = .ok (.lcmp, 1) := by decide +kernel
theorem dX11_near_49 : decode cX11_near 49 = .ok (.ifCond .ne 17, 3) := by decide +kernel
theorem dX11_near_52 : decode cX11_near 52 = .ok (.goto 10, 3) := by decide +kernel
theorem dX11_near_55 : decode cX11_near 55 = .ok (.lload 7, 2) := by decide +kernel
theorem dX11_near_57 : decode cX11_near 57 = .ok (.lload_n 1, 1) := by decide +kernel
theorem dX11_near_58 : decode cX11_near 58 = .ok (.lcmp, 1) := by decide +kernel
theorem dX11_near_59 : decode cX11_near 59 = .ok (.ifCond .gt 7, 3) := by decide +kernel
theorem dX11_near_62 : decode cX11_near 62 = .ok (.lload 7, 2) := by decide +kernel
theorem dX11_near_64 : decode cX11_near 64 = .ok (.lstore 4, 2) := by decide +kernel
theorem dX11_near_66 : decode cX11_near 66 = .ok (.iinc 6 1, 3) := by decide +kernel
theorem dX11_near_69 : decode cX11_near 69 = .ok (.goto (-56), 3) := by decide +kernel
theorem dX11_near_72 : decode cX11_near 72 = .ok (.lload 4, 2) := by decide +kernel
theorem dX11_near_74 : decode cX11_near 74 = .ok (.lreturn, 1) := by decide +kernel
theorem dX11_jump_0 : decode cX11_jump 0 = .ok (.aload_n 0, 1) := by decide +kernel
theorem dX11_jump_1 : decode cX11_jump 1 = .ok (.iconst 0, 1) := by decide +kernel
theorem dX11_jump_2 : decode cX11_jump 2 = .ok (.putfield 1, 3) := by decide +kernel
theorem dX11_jump_5 : decode cX11_jump 5 = .ok (.iload_n 1, 1) := by decide +kernel
theorem dX11_jump_6 : decode cX11_jump 6 = .ok (.i2l, 1) := by decide +kernel
theorem dX11_jump_7 : decode cX11_jump 7 = .ok (.lconst 0, 1) := by decide +kernel
theorem dX11_jump_8 : decode cX11_jump 8 = .ok (.aload_n 0, 1) := by decide +kernel
theorem dX11_jump_9 : decode cX11_jump 9 = .ok (.getfield 24, 3) := by decide +kernel
theorem dX11_jump_12 : decode cX11_jump 12 = .ok (.iconst 2, 1) := by decide +kernel
theorem dX11_jump_13 : decode cX11_jump 13 = .ok (.iaload, 1) := by decide +kernel
theorem dX11_jump_14 : decode cX11_jump 14 = .ok (.iconst 1, 1) := by decide +kernel
theorem dX11_jump_15 : decode cX11_jump 15 = .ok (.isub, 1) := by decide +kernel
theorem dX11_jump_16 : decode cX11_jump 16 = .ok (.i2l, 1) := by decide +kernel
theorem dX11_jump_17 : decode cX11_jump 17 = .ok (.invokestatic 91, 3) := by decide +kernel
theorem dX11_jump_20 : decode cX11_jump 20 = .ok (.ifCond .eq 20, 3) := by decide +kernel
theorem dX11_jump_23 : decode cX11_jump 23 = .ok (.aload_n 0, 1) := by decide +kernel
theorem dX11_jump_24 : decode cX11_jump 24 = .ok (.aload_n 0, 1) := by decide +kernel
theorem dX11_jump_25 : decode cX11_jump 25 = .ok (.iload_n 1, 1) := by decide +kernel
theorem dX11_jump_26 : decode cX11_jump 26 = .ok (.invokevirtual 234, 3) := by decide +kernel
theorem dX11_jump_29 : decode cX11_jump 29 = .ok (.aload_n 0, 1) := by decide +kernel
theorem dX11_jump_30 : decode cX11_jump 30 = .ok (.iload_n 1, 1) := by decide +kernel
theorem dX11_jump_31 : decode cX11_jump 31 = .ok (.invokevirtual 237, 3) := by decide +kernel
theorem dX11_jump_34 : decode cX11_jump 34 = .ok (.invokevirtual 120, 3) := by decide +kernel
theorem dX11_jump_37 : decode cX11_jump 37 = .ok (.goto 4, 3) := by decide +kernel
theorem dX11_jump_40 : decode cX11_jump 40 = .ok (.iconst (-1), 1) := by decide +kernel
theorem dX11_jump_41 : decode cX11_jump 41 = .ok (.ireturn, 1) := by decide +kernel
theorem dX11_told_0 : decode cX11_told 0 = .ok (.aload_n 0, 1) := by decide +kernel
theorem dX11_told_1 : decode cX11_told 1 = .ok (.iconst 0, 1) := by decide +kernel
theorem dX11_told_2 : decode cX11_told 2 = .ok (.putfield 1, 3) := by decide +kernel
theorem dX11_told_5 : decode cX11_told 5 = .ok (.aload_n 0, 1) := by decide +kernel
theorem dX11_told_6 : decode cX11_told 6 = .ok (.invokevirtual 95, 3) := by decide +kernel
theorem dX11_told_9 : decode cX11_told 9 = .ok (.aload_n 0, 1) := by decide +kernel
theorem dX11_told_10 : decode cX11_told 10 = .ok (.iconst 0, 1) := by decide +kernel
theorem dX11_told_11 : decode cX11_told 11 = .ok (.putfield 250, 3) := by decide +kernel
theorem dX11_told_14 : decode cX11_told 14 = .ok (.iconst 0, 1) := by decide +kernel
theorem dX11_told_15 : decode cX11_told 15 = .ok (.istore_n 1, 1) := by decide +kernel
theorem dX11_told_16 : decode cX11_told 16 = .ok (.iload_n 1, 1) := by decide +kernel
theorem dX11_told_17 : decode cX11_told 17 = .ok (.aload_n 0, 1) := by decide +kernel
theorem dX11_told_18 : decode cX11_told 18 = .ok (.getfield 78, 3) := by decide +kernel
theorem dX11_told_21 : decode cX11_told 21 = .ok (.if_icmp .ge 128, 3) := by decide +kernel
theorem dX11_told_24 : decode cX11_told 24 = .ok (.iconst 1, 1) := by decide +kernel
theorem dX11_told_25 : decode cX11_told 25 = .ok (.istore_n 2, 1) := by decide +kernel
theorem dX11_told_26 : decode cX11_told 26 = .ok (.iload_n 1, 1) := by decide +kernel
theorem dX11_told_27 : decode cX11_told 27 = .ok (.iload_n 2, 1) := by decide +kernel
theorem dX11_told_28 : decode cX11_told 28 = .ok (.iadd, 1) := by decide +kernel
theorem dX11_told_29 : decode cX11_told 29 = .ok (.aload_n 0, 1) := by decide +kernel
theorem dX11_told_30 : decode cX11_told 30 = .ok (.getfield 78, 3) := by decide +kernel
theorem dX11_told_33 : decode cX11_told 33 = .ok (.if_icmp .ge 26, 3) := by decide +kernel
theorem dX11_told_36 : decode cX11_told 36 = .ok (.aload_n 0, 1) := by decide +kernel
theorem dX11_told_37 : decode cX11_told 37 = .ok (.getfield 43, 3) := by decide +kernel
theorem dX11_told_40 : decode cX11_told 40 = .ok (.iload_n 1, 1) := by decide +kernel
theorem dX11_told_41 : decode cX11_told 41 = .ok (.iload_n 2, 1) := by decide +kernel
theorem dX11_told_42 : decode cX11_told 42 = .ok (.iadd, 1) := by decide +kernel
theorem dX11_told_43 : decode cX11_told 43 = .ok (.iaload, 1) := by decide +kernel
theorem dX11_told_44 : decode cX11_told 44 = .ok (.aload_n 0, 1) := by decide +kernel
theorem dX11_told_45 : decode cX11_told 45 = .ok (.getfield 43, 3) := by decide +kernel
theorem dX11_told_48 : decode cX11_told 48 = .ok (.iload_n 1, 1) := by decide +kernel
theorem dX11_told_49 : decode cX11_told 49 = .ok (.iaload, 1) := by decide +kernel
theorem dX11_told_50 : decode cX11_told 50 = .ok (.if_icmp .ne 9, 3) := by decide +kernel
theorem dX11_told_53 : decode cX11_told 53 = .ok (.iinc 2 1, 3) := by decide +kernel
theorem dX11_told_56 : decode cX11_told 56 = .ok (.goto (-30), 3) := by decide +kernel
theorem dX11_told_59 : decode cX11_told 59 = .ok (.aload_n 0, 1) := by decide +kernel
theorem dX11_told_60 : decode cX11_told 60 = .ok (.getfield 53, 3) := by decide +kernel
theorem dX11_told_63 : decode cX11_told 63 = .ok (.aload_n 0, 1) := by decide +kernel
theorem dX11_told_64 : decode cX11_told 64 = .ok (.getfield 250, 3) := by decide +kernel
theorem dX11_told_67 : decode cX11_told 67 = .ok (.aload_n 0, 1) := by decide +kernel
theorem dX11_told_68 : decode cX11_told 68 = .ok (.getfield 43, 3) := by decide +kernel
theorem dX11_told_71 : decode cX11_told 71 = .ok (.iload_n 1, 1) := by decide +kernel
theorem dX11_told_72 : decode cX11_told 72 = .ok (.iaload, 1) := by decide +kernel
theorem dX11_told_73 : decode cX11_told 73 = .ok (.iastore, 1) := by decide +kernel
theorem dX11_told_74 : decode cX11_told 74 = .ok (.aload_n 0, 1) := by decide +kernel
theorem dX11_told_75 : decode cX11_told 75 = .ok (.dup, 1) := by decide +kernel
theorem dX11_told_76 : decode cX11_told 76 = .ok (.getfield 250, 3) := by decide +kernel
theorem dX11_told_79 : decode cX11_told 79 = .ok (.iconst 1, 1) := by decide +kernel
theorem dX11_told_80 : decode cX11_told 80 = .ok (.iadd, 1) := by decide +kernel
theorem dX11_told_81 : decode cX11_told 81 = .ok (.putfield 250, 3) := by decide +kernel
theorem dX11_told_84 : decode cX11_told 84 = .ok (.iload_n 2, 1) := by decide +kernel
theorem dX11_told_85 : decode cX11_told 85 = .ok (.bipush 9, 2) := by decide +kernel
theorem dX11_told_87 : decode cX11_told 87 = .ok (.if_icmp .le 8, 3) := by decide +kernel
theorem dX11_told_90 : decode cX11_told 90 = .ok (.bipush 10, 2) := by decide +kernel
theorem dX11_told_92 : decode cX11_told 92 = .ok (.goto 4, 3) := by decide +kernel
theorem dX11_told_95 : decode cX11_told 95 = .ok (.iconst 1, 1) := by decide +kernel
theorem dX11_told_96 : decode cX11_told 96 = .ok (.istore_n 3, 1) := by decide +kernel
theorem dX11_told_97 : decode cX11_told 97 = .ok (.iload_n 3, 1) := by decide +kernel
theorem dX11_told_98 : decode cX11_told 98 = .ok (.ifCond .le 44, 3) := by decide +kernel
theorem dX11_told_101 : decode cX11_told 101 = .ok (.iload_n 2, 1) := by decide +kernel
theorem dX11_told_102 : decode cX11_told 102 = .ok (.iconst 1, 1) := by decide +kernel
theorem dX11_told_103 : decode cX11_told 103 = .ok (.if_icmp .le 39, 3) := by decide +kernel
theorem dX11_told_106 : decode cX11_told 106 = .ok (.aload_n 0, 1) := by decide +kernel
theorem dX11_told_107 : decode cX11_told 107 = .ok (.getfield 53, 3) := by decide +kernel
theorem dX11_told_110 : decode cX11_told 110 = .ok (.aload_n 0, 1) := by decide +kernel
theorem dX11_told_111 : decode cX11_told 111 = .ok (.getfield 250, 3) := by decide +kernel
theorem dX11_told_114 : decode cX11_told 114 = .ok (.bipush 48, 2) := by decide +kernel
theorem dX11_told_116 : decode cX11_told 116 = .ok (.iload_n 2, 1) := by decide +kernel
theorem dX11_told_117 : decode cX11_told 117 = .ok (.iload_n 3, 1) := by decide +kernel
theorem dX11_told_118 : decode cX11_told 118 = .ok (.idiv, 1) := by decide +kernel
theorem dX11_told_119 : decode cX11_told 119 = .ok (.bipush 10, 2) := by decide +kernel
theorem dX11_told_121 : decode cX11_told 121 = .ok (.irem, 1) := by decide +kernel
theorem dX11_told_122 : decode cX11_told 122 = .ok (.iadd, 1) := by decide +kernel
theorem dX11_told_123 : decode cX11_told 123 = .ok (.iastore, 1) := by decide +kernel
theorem dX11_told_124 : decode cX11_told 124 = .ok (.aload_n 0, 1) := by decide +kernel
theorem dX11_told_125 : decode cX11_told 125 = .ok (.dup, 1) := by decide +kernel
theorem dX11_told_126 : decode cX11_told 126 = .ok (.getfield 250, 3) := by decide +kernel
theorem dX11_told_129 : decode cX11_told 129 = .ok (.iconst 1, 1) := by decide +kernel
theorem dX11_told_130 : decode cX11_told 130 = .ok (.iadd, 1) := by decide +kernel
theorem dX11_told_131 : decode cX11_told 131 = .ok (.putfield 250, 3) := by decide +kernel
theorem dX11_told_134 : decode cX11_told 134 = .ok (.iload_n 3, 1) := by decide +kernel
theorem dX11_told_135 : decode cX11_told 135 = .ok (.bipush 10, 2) := by decide +kernel
theorem dX11_told_137 : decode cX11_told 137 = .ok (.idiv, 1) := by decide +kernel
theorem dX11_told_138 : decode cX11_told 138 = .ok (.istore_n 3, 1) := by decide +kernel
theorem dX11_told_139 : decode cX11_told 139 = .ok (.goto (-42), 3) := by decide +kernel
theorem dX11_told_142 : decode cX11_told 142 = .ok (.iload_n 1, 1) := by decide +kernel
theorem dX11_told_143 : decode cX11_told 143 = .ok (.iload_n 2, 1) := by decide +kernel
theorem dX11_told_144 : decode cX11_told 144 = .ok (.iadd, 1) := by decide +kernel
theorem dX11_told_145 : decode cX11_told 145 = .ok (.istore_n 1, 1) := by decide +kernel
theorem dX11_told_146 : decode cX11_told 146 = .ok (.goto (-130), 3) := by decide +kernel
theorem dX11_told_149 : decode cX11_told 149 = .ok (.aload_n 0, 1) := by decide +kernel
theorem dX11_told_150 : decode cX11_told 150 = .ok (.getfield 250, 3) := by decide +kernel
theorem dX11_told_153 : decode cX11_told 153 = .ok (.ireturn, 1) := by decide +kernel
theorem dX11_byteAt_0 : decode cX11_byteAt 0 = .ok (.aload_n 0, 1) := by decide +kernel
theorem dX11_byteAt_1 : decode cX11_byteAt 1 = .ok (.iconst 0, 1) := by decide +kernel
theorem dX11_byteAt_2 : decode cX11_byteAt 2 = .ok (.putfield 1, 3) := by decide +kernel
theorem dX11_byteAt_5 : decode cX11_byteAt 5 = .ok (.iload_n 1, 1) := by decide +kernel
theorem dX11_byteAt_6 : decode cX11_byteAt 6 = .ok (.i2l, 1) := by decide +kernel
theorem dX11_byteAt_7 : decode cX11_byteAt 7 = .ok (.lconst 0, 1) := by decide +kernel
theorem dX11_byteAt_8 : decode cX11_byteAt 8 = .ok (.aload_n 0, 1) := by decide +kernel
theorem dX11_byteAt_9 : decode cX11_byteAt 9 = .ok (.getfield 250, 3) := by decide +kernel
theorem dX11_byteAt_12 : decode cX11_byteAt 12 = .ok (.iconst 1, 1) := by decide +kernel
theorem dX11_byteAt_13 : decode cX11_byteAt 13 = .ok (.isub, 1) := by decide +kernel
theorem dX11_byteAt_14 : decode cX11_byteAt 14 = .ok (.i2l, 1) := by decide +kernel
theorem dX11_byteAt_15 : decode cX11_byteAt 15 = .ok (.invokestatic 91, 3) := by decide +kernel
theorem dX11_byteAt_18 : decode cX11_byteAt 18 = .ok (.ifCond .eq 12, 3) := by decide +kernel
theorem dX11_byteAt_21 : decode cX11_byteAt 21 = .ok (.aload_n 0, 1) := by decide +kernel
theorem dX11_byteAt_22 : decode cX11_byteAt 22 = .ok (.getfield 53, 3) := by decide +kernel
theorem dX11_byteAt_25 : decode cX11_byteAt 25 = .ok (.iload_n 1, 1) := by decide +kernel
theorem dX11_byteAt_26 : decode cX11_byteAt 26 = .ok (.iaload, 1) := by decide +kernel
theorem dX11_byteAt_27 : decode cX11_byteAt 27 = .ok (.goto 4, 3) := by decide +kernel
theorem dX11_byteAt_30 : decode cX11_byteAt 30 = .ok (.iconst (-1), 1) := by decide +kernel
theorem dX11_byteAt_31 : decode cX11_byteAt 31 = .ok (.ireturn, 1) := by decide +kernel
theorem dX11_here_0 : decode cX11_here 0 = .ok (.aload_n 0, 1) := by decide +kernel
theorem dX11_here_1 : decode cX11_here 1 = .ok (.getfield 253, 3) := by decide +kernel
theorem dX11_here_4 : decode cX11_here 4 = .ok (.aload_n 0, 1) := by decide +kernel
theorem dX11_here_5 : decode cX11_here 5 = .ok (.getfield 256, 3) := by decide +kernel
theorem dX11_here_8 : decode cX11_here 8 = .ok (.if_icmp .ge 30, 3) := by decide +kernel
theorem dX11_here_11 : decode cX11_here 11 = .ok (.aload_n 0, 1) := by decide +kernel
theorem dX11_here_12 : decode cX11_here 12 = .ok (.getfield 7, 3) := by decide +kernel
theorem dX11_here_15 : decode cX11_here 15 = .ok (.aload_n 0, 1) := by decide +kernel
theorem dX11_here_16 : decode cX11_here 16 = .ok (.getfield 253, 3) := by decide +kernel
theorem dX11_here_19 : decode cX11_here 19 = .ok (.iaload, 1) := by decide +kernel
theorem dX11_here_20 : decode cX11_here 20 = .ok (.bipush 32, 2) := by decide +kernel
theorem dX11_here_22 : decode cX11_here 22 = .ok (.if_icmp .ne 16, 3) := by decide +kernel
theorem dX11_here_25 : decode cX11_here 25 = .ok (.aload_n 0, 1) := by decide +kernel
theorem dX11_here_26 : decode cX11_here 26 = .ok (.dup, 1) := by decide +kernel
theorem dX11_here_27 : decode cX11_here 27 = .ok (.getfield 253, 3) := by decide +kernel
theorem dX11_here_30 : decode cX11_here 30 = .ok (.iconst 1, 1) := by decide +kernel
theorem dX11_here_31 : decode cX11_here 31 = .ok (.iadd, 1) := by decide +kernel
theorem dX11_here_32 : decode cX11_here 32 = .ok (.putfield 253, 3) := by decide +kernel
theorem dX11_here_35 : decode cX11_here 35 = .ok (.goto (-35), 3) := by decide +kernel
theorem dX11_here_38 : decode cX11_here 38 = .ok (.aload_n 0, 1) := by decide +kernel
theorem dX11_here_39 : decode cX11_here 39 = .ok (.getfield 253, 3) := by decide +kernel
theorem dX11_here_42 : decode cX11_here 42 = .ok (.aload_n 0, 1) := by decide +kernel
theorem dX11_here_43 : decode cX11_here 43 = .ok (.getfield 256, 3) := by decide +kernel
theorem dX11_here_46 : decode cX11_here 46 = .ok (.if_icmp .ge 15, 3) := by decide +kernel
theorem dX11_here_49 : decode cX11_here 49 = .ok (.aload_n 0, 1) := by decide +kernel
theorem dX11_here_50 : decode cX11_here 50 = .ok (.getfield 7, 3) := by decide +kernel
theorem dX11_here_53 : decode cX11_here 53 = .ok (.aload_n 0, 1) := by decide +kernel
theorem dX11_here_54 : decode cX11_here 54 = .ok (.getfield 253, 3) := by decide +kernel
theorem dX11_here_57 : decode cX11_here 57 = .ok (.iaload, 1) := by decide +kernel
theorem dX11_here_58 : decode cX11_here 58 = .ok (.goto 4, 3) := by decide +kernel
theorem dX11_here_61 : decode cX11_here 61 = .ok (.iconst 0, 1) := by decide +kernel
theorem dX11_here_62 : decode cX11_here 62 = .ok (.ireturn, 1) := by decide +kernel
theorem dX11_bad_0 : decode cX11_bad 0 = .ok (.aload_n 0, 1) := by decide +kernel
theorem dX11_bad_1 : decode cX11_bad 1 = .ok (.getfield 259, 3) := by decide +kernel
theorem dX11_bad_4 : decode cX11_bad 4 = .ok (.ifCond .eq 4, 3) := by decide +kernel
theorem dX11_bad_7 : decode cX11_bad 7 = .ok (.return_, 1) := by decide +kernel
theorem dX11_bad_8 : decode cX11_bad 8 = .ok (.aload_n 0, 1) := by decide +kernel
theorem dX11_bad_9 : decode cX11_bad 9 = .ok (.iload_n 1, 1) := by decide +kernel
theorem dX11_bad_10 : decode cX11_bad 10 = .ok (.putfield 259, 3) := by decide +kernel
theorem dX11_bad_13 : decode cX11_bad 13 = .ok (.aload_n 0, 1) := by decide +kernel
theorem dX11_bad_14 : decode cX11_bad 14 = .ok (.iload_n 2, 1) := by decide +kernel
theorem dX11_bad_15 : decode cX11_bad 15 = .ok (.putfield 262, 3) := by decide +kernel
theorem dX11_bad_18 : decode cX11_bad 18 = .ok (.return_, 1) := by decide +kernel
theorem dX11_isDigit_0 : decode cX11_isDigit 0 = .ok (.iload_n 0, 1) := by decide +kernel
theorem dX11_isDigit_1 : decode cX11_isDigit 1 = .ok (.bipush 48, 2) := by decide +kernel
theorem dX11_isDigit_3 : decode cX11_isDigit 3 = .ok (.if_icmp .lt 13, 3) := by decide +kernel
theorem dX11_isDigit_6 : decode cX11_isDigit 6 = .ok (.iload_n 0, 1) := by decide +kernel
theorem dX11_isDigit_7 : decode cX11_isDigit 7 = .ok (.bipush 57, 2) := by decide +kernel
theorem dX11_isDigit_9 : decode cX11_isDigit 9 = .ok (.if_icmp .gt 7, 3) := by decide +kernel
theorem dX11_isDigit_12 : decode cX11_isDigit 12 = .ok (.iconst 1, 1) := by decide +kernel
theorem dX11_isDigit_13 : decode cX11_isDigit 13 = .ok (.goto 4, 3) := by decide +kernel
theorem dX11_isDigit_16 : decode cX11_isDigit 16 = .ok (.iconst 0, 1) := by decide +kernel
theorem dX11_isDigit_17 : decode cX11_isDigit 17 = .ok (.ireturn, 1) := by decide +kernel
theorem dX11_often_0 : decode cX11_often 0 = .ok (.aload_n 0, 1) := by decide +kernel
theorem dX11_often_1 : decode cX11_often 1 = .ok (.invokevirtual 265, 3) := by decide +kernel
theorem dX11_often_4 : decode cX11_often 4 = .ok (.invokestatic 268, 3) := by decide +kernel
theorem dX11_often_7 : decode cX11_often 7 = .ok (.ifCond .ne 5, 3) := by decide +kernel
theorem dX11_often_10 : decode cX11_often 10 = .ok (.iconst 1, 1) := by decide +kernel
theorem dX11_often_11 : decode cX11_often 11 = .ok (.ireturn, 1) := by decide +kernel
theorem dX11_often_12 : decode cX11_often 12 = .ok (.aload_n 0, 1) := by decide +kernel
theorem dX11_often_13 : decode cX11_often 13 = .ok (.getfield 253, 3) := by decide +kernel
theorem dX11_often_16 : decode cX11_often 16 = .ok (.istore_n 1, 1) := by decide +kernel
theorem dX11_often_17 : decode cX11_often 17 = .ok (.iconst 0, 1) := by decide +kernel
theorem dX11_often_18 : decode cX11_often 18 = .ok (.istore_n 2, 1) := by decide +kernel
theorem dX11_often_19 : decode cX11_often 19 = .ok (.aload_n 0, 1) := by decide +kernel
theorem dX11_often_20 : decode cX11_often 20 = .ok (.getfield 253, 3) := by decide +kernel
theorem dX11_often_23 : decode cX11_often 23 = .ok (.aload_n 0, 1) := by decide +kernel
theorem dX11_often_24 : decode cX11_often 24 = .ok (.getfield 256, 3) := by decide +kernel
theorem dX11_often_27 : decode cX11_often 27 = .ok (.if_icmp .ge 59, 3) := by decide +kernel
theorem dX11_often_30 : decode cX11_often 30 = .ok (.aload_n 0, 1) := by decide +kernel
theorem dX11_often_31 : decode cX11_often 31 = .ok (.getfield 7, 3) := by decide +kernel
theorem dX11_often_34 : decode cX11_often 34 = .ok (.aload_n 0, 1) := by decide +kernel
theorem dX11_often_35 : decode cX11_often 35 = .ok (.getfield 253, 3) := by decide +kernel
theorem dX11_often_38 : decode cX11_often 38 = .ok (.iaload, 1) := by decide +kernel
theorem dX11_often_39 : decode cX11_often 39 = .ok (.invokestatic 268, 3) := by decide +kernel
theorem dX11_often_42 : decode cX11_often 42 = .ok (.ifCond .eq 44, 3) := by decide +kernel
theorem dX11_often_45 : decode cX11_often 45 = .ok (.aload_n 0, 1) := by decide +kernel
theorem dX11_often_46 : decode cX11_often 46 = .ok (.getfield 253, 3) := by decide +kernel
theorem dX11_often_49 : decode cX11_often 49 = .ok (.iload_n 1, 1) := by decide +kernel
theorem dX11_often_50 : decode cX11_often 50 = .ok (.isub, 1) := by decide +kernel
theorem dX11_often_51 : decode cX11_often 51 = .ok (.iconst 2, 1) := by decide +kernel
theorem dX11_often_52 : decode cX11_often 52 = .ok (.if_icmp .ge 21, 3) := by decide +kernel
theorem dX11_often_55 : decode cX11_often 55 = .ok (.bipush 10, 2) := by decide +kernel
theorem dX11_often_57 : decode cX11_often 57 = .ok (.iload_n 2, 1) := by decide +kernel
theorem dX11_often_58 : decode cX11_often 58 = .ok (.imul, 1) := by decide +kernel
theorem dX11_often_59 : decode cX11_often 59 = .ok (.aload_n 0, 1) := by decide +kernel
theorem dX11_often_60 : decode cX11_often 60 = .ok (.getfield 7, 3) := by decide +kernel
theorem dX11_often_63 : decode cX11_often 63 = .ok (.aload_n 0, 1) := by decide +kernel
theorem dX11_often_64 : decode cX11_often 64 = .ok (.getfield 253, 3) := by decide +kernel
theorem dX11_often_67 : decode cX11_often 67 = .ok (.iaload, 1) := by decide +kernel
theorem dX11_often_68 : decode cX11_often 68 = .ok (.iadd, 1) := by decide +kernel
theorem dX11_often_69 : decode cX11_often 69 = .ok (.bipush 48, 2) := by decide +kernel
theorem dX11_often_71 : decode cX11_often 71 = .ok (.isub, 1) := by decide +kernel
theorem dX11_often_72 : decode cX11_often 72 = .ok (.istore_n 2, 1) := by decide +kernel
theorem dX11_often_73 : decode cX11_often 73 = .ok (.aload_n 0, 1) := by decide +kernel
theorem dX11_often_74 : decode cX11_often 74 = .ok (.dup, 1) := by decide +kernel
theorem dX11_often_75 : decode cX11_often 75 = .ok (.getfield 253, 3) := by decide +kernel
theorem dX11_often_78 : decode cX11_often 78 = .ok (.iconst 1, 1) := by decide +kernel
theorem dX11_often_79 : decode cX11_often 79 = .ok (.iadd, 1) := by decide +kernel
theorem dX11_often_80 : decode cX11_often 80 = .ok (.putfield 253, 3) := by decide +kernel
theorem dX11_often_83 : decode cX11_often 83 = .ok (.goto (-64), 3) := by decide +kernel
theorem dX11_often_86 : decode cX11_often 86 = .ok (.aload_n 0, 1) := by decide +kernel
theorem dX11_often_87 : decode cX11_often 87 = .ok (.getfield 253, 3) := by decide +kernel
theorem dX11_often_90 : decode cX11_often 90 = .ok (.iload_n 1, 1) := by decide +kernel
theorem dX11_often_91 : decode cX11_often 91 = .ok (.isub, 1) := by decide +kernel
theorem dX11_often_92 : decode cX11_often 92 = .ok (.iconst 2, 1) := by decide +kernel
theorem dX11_often_93 : decode cX11_often 93 = .ok (.if_icmp .gt 8, 3) := by decide +kernel
theorem dX11_often_96 : decode cX11_often 96 = .ok (.iload_n 2, 1) := by decide +kernel
theorem dX11_often_97 : decode cX11_often 97 = .ok (.iconst 1, 1) := by decide +kernel
theorem dX11_often_98 : decode cX11_often 98 = .ok (.if_icmp .ge 9, 3) := by decide +kernel
theorem dX11_often_101 : decode cX11_often 101 = .ok (.aload_n 0, 1) := by decide +kernel
theorem dX11_often_102 : decode cX11_often 102 = .ok (.iconst 2, 1) := by decide +kernel
theorem dX11_often_103 : decode cX11_often 103 = .ok (.iload_n 1, 1) := by decide +kernel
theorem dX11_often_104 : decode cX11_often 104 = .ok (.invokevirtual 271, 3) := by decide +kernel
theorem dX11_often_107 : decode cX11_often 107 = .ok (.iload_n 2, 1) := by decide +kernel
theorem dX11_often_108 : decode cX11_often 108 = .ok (.ireturn, 1) := by decide +kernel
theorem dX11_reads_0 : decode cX11_reads 0 = .ok (.aload_n 0, 1) := by decide +kernel
theorem dX11_reads_1 : decode cX11_reads 1 = .ok (.getfield 259, 3) := by decide +kernel
theorem dX11_reads_4 : decode cX11_reads 4 = .ok (.ifCond .ne 118, 3) := by decide +kernel
theorem dX11_reads_7 : decode cX11_reads 7 = .ok (.aload_n 0, 1) := by decide +kernel
theorem dX11_reads_8 : decode cX11_reads 8 = .ok (.invokevirtual 265, 3) := by decide +kernel
theorem dX11_reads_11 : decode cX11_reads 11 = .ok (.istore_n 2, 1) := by decide +kernel
theorem dX11_reads_12 : decode cX11_reads 12 = .ok (.aload_n 0, 1) := by decide +kernel
theorem dX11_reads_13 : decode cX11_reads 13 = .ok (.getfield 253, 3) := by decide +kernel
theorem dX11_reads_16 : decode cX11_reads 16 = .ok (.istore_n 3, 1) := by decide +kernel
theorem dX11_reads_17 : decode cX11_reads 17 = .ok (.iload_n 2, 1) := by decide +kernel
theorem dX11_reads_18 : decode cX11_reads 18 = .ok (.ifCond .ne 28, 3) := by decide +kernel
theorem dX11_reads_21 : decode cX11_reads 21 = .ok (.aload_n 0, 1) := by decide +kernel
theorem dX11_reads_22 : decode cX11_reads 22 = .ok (.getfield 253, 3) := by decide +kernel
theorem dX11_reads_25 : decode cX11_reads 25 = .ok (.aload_n 0, 1) := by decide +kernel
theorem dX11_reads_26 : decode cX11_reads 26 = .ok (.getfield 256, 3) := by decide +kernel
theorem dX11_reads_29 : decode cX11_reads 29 = .ok (.if_icmp .lt 17, 3) := by decide +kernel
theorem dX11_reads_32 : decode cX11_reads 32 = .ok (.iload_n 1, 1) := by decide +kernel
theorem dX11_reads_33 : decode cX11_reads 33 = .ok (.ifCond .eq 12, 3) := by decide +kernel
theorem dX11_reads_36 : decode cX11_reads 36 = .ok (.aload_n 0, 1) := by decide +kernel
theorem dX11_reads_37 : decode cX11_reads 37 = .ok (.iconst 1, 1) := by decide +kernel
theorem dX11_reads_38 : decode cX11_reads 38 = .ok (.aload_n 0, 1) := by decide +kernel
theorem dX11_reads_39 : decode cX11_reads 39 = .ok (.getfield 256, 3) := by decide +kernel
theorem dX11_reads_42 : decode cX11_reads 42 = .ok (.invokevirtual 271, 3) := by decide +kernel
theorem dX11_reads_45 : decode cX11_reads 45 = .ok (.return_, 1) := by decide +kernel
theorem dX11_reads_46 : decode cX11_reads 46 = .ok (.iload_n 2, 1) := by decide +kernel
theorem dX11_reads_47 : decode cX11_reads 47 = .ok (.bipush 93, 2) := by decide +kernel
theorem dX11_reads_49 : decode cX11_reads 49 = .ok (.if_icmp .ne 8, 3) := by decide +kernel
theorem dX11_reads_52 : decode cX11_reads 52 = .ok (.iload_n 1, 1) := by decide +kernel
theorem dX11_reads_53 : decode cX11_reads 53 = .ok (.ifCond .eq 4, 3) := by decide +kernel
theorem dX11_reads_56 : decode cX11_reads 56 = .ok (.return_, 1) := by decide +kernel
theorem dX11_reads_57 : decode cX11_reads 57 = .ok (.aload_n 0, 1) := by decide +kernel
theorem dX11_reads_58 : decode cX11_reads 58 = .ok (.dup, 1) := by decide +kernel
theorem dX11_reads_59 : decode cX11_reads 59 = .ok (.getfield 253, 3) := by decide +kernel
theorem dX11_reads_62 : decode cX11_reads 62 = .ok (.iconst 1, 1) := by decide +kernel
theorem dX11_reads_63 : decode cX11_reads 63 = .ok (.iadd, 1) := by decide +kernel
theorem dX11_reads_64 : decode cX11_reads 64 = .ok (.putfield 253, 3) := by decide +kernel
theorem dX11_reads_67 : decode cX11_reads 67 = .ok (.iload_n 2, 1) := by decide +kernel
theorem dX11_reads_68 : decode cX11_reads 68 = .ok (.bipush 108, 2) := by decide +kernel
theorem dX11_reads_70 : decode cX11_reads 70 = .ok (.if_icmp .eq 15, 3) := by decide +kernel
theorem dX11_reads_73 : decode cX11_reads 73 = .ok (.iload_n 2, 1) := by decide +kernel
theorem dX11_reads_74 : decode cX11_reads 74 = .ok (.bipush 114, 2) := by decide +kernel
theorem dX11_reads_76 : decode cX11_reads 76 = .ok (.if_icmp .eq 9, 3) := by decide +kernel
theorem dX11_reads_79 : decode cX11_reads 79 = .ok (.iload_n 2, 1) := by decide +kernel
theorem dX11_reads_80 : decode cX11_reads 80 = .ok (.bipush 117, 2) := by decide +kernel
theorem dX11_reads_82 : decode cX11_reads 82 = .ok (.if_icmp .ne 11, 3) := by decide +kernel
theorem dX11_reads_85 : decode cX11_reads 85 = .ok (.aload_n 0, 1) := by decide +kernel
theorem dX11_reads_86 : decode cX11_reads 86 = .ok (.invokevirtual 274, 3) := by decide +kernel
theorem dX11_reads_89 : decode cX11_reads 89 = .ok (.pop, 1) := by decide +kernel
theorem dX11_reads_90 : decode cX11_reads 90 = .ok (.goto 29, 3) := by decide +kernel
theorem dX11_reads_93 : decode cX11_reads 93 = .ok (.iload_n 2, 1) := by decide +kernel
theorem dX11_reads_94 : decode cX11_reads 94 = .ok (.bipush 91, 2) := by decide +kernel
theorem dX11_reads_96 : decode cX11_reads 96 = .ok (.if_icmp .ne 11, 3) := by decide +kernel
theorem dX11_reads_99 : decode cX11_reads 99 = .ok (.aload_n 0, 1) := by decide +kernel
theorem dX11_reads_100 : decode cX11_reads 100 = .ok (.iload_n 3, 1) := by decide +kernel
theorem dX11_reads_101 : decode cX11_reads 101 = .ok (.invokevirtual 277, 3) := by decide +kernel
theorem dX11_reads_104 : decode cX11_reads 104 = .ok (.goto 15, 3) := by decide +kernel
theorem dX11_reads_107 : decode cX11_reads 107 = .ok (.iload_n 2, 1) := by decide +kernel
theorem dX11_reads_108 : decode cX11_reads 108 = .ok (.bipush 104, 2) := by decide +kernel
theorem dX11_reads_110 : decode cX11_reads 110 = .ok (.if_icmp .eq 9, 3) := by decide +kernel
theorem dX11_reads_113 : decode cX11_reads 113 = .ok (.aload_n 0, 1) := by decide +kernel
theorem dX11_reads_114 : decode cX11_reads 114 = .ok (.iconst 1, 1) := by decide +kernel
theorem dX11_reads_115 : decode cX11_reads 115 = .ok (.iload_n 3, 1) := by decide +kernel
theorem dX11_reads_116 : decode cX11_reads 116 = .ok (.invokevirtual 271, 3) := by decide +kernel
theorem dX11_reads_119 : decode cX11_reads 119 = .ok (.goto (-119), 3) := by decide +kernel
theorem dX11_reads_122 : decode cX11_reads 122 = .ok (.return_, 1) := by decide +kernel
theorem dX11_readsBracket_0 : decode cX11_readsBracket 0 = .ok (.aload_n 0, 1) := by decide +kernel
theorem dX11_readsBracket_1 : decode cX11_readsBracket 1 = .ok (.getfield 280, 3) := by decide +kernel
theorem dX11_readsBracket_4 : decode cX11_readsBracket 4 = .ok (.iconst 3, 1) := by decide +kernel
theorem dX11_readsBracket_5 : decode cX11_readsBracket 5 = .ok (.if_icmp .ne 10, 3) := by decide +kernel
theorem dX11_readsBracket_8 : decode cX11_readsBracket 8 = .ok (.aload_n 0, 1) := by decide +kernel
theorem dX11_readsBracket_9 : decode cX11_readsBracket 9 = .ok (.iconst 3, 1) := by decide +kernel
theorem dX11_readsBracket_10 : decode cX11_readsBracket 10 = .ok (.iload_n 1, 1) := by decide +kernel
theorem dX11_readsBracket_11 : decode cX11_readsBracket 11 = .ok (.invokevirtual 271, 3) := by decide +kernel
theorem dX11_readsBracket_14 : decode cX11_readsBracket 14 = .ok (.return_, 1) := by decide +kernel
theorem dX11_readsBracket_15 : decode cX11_readsBracket 15 = .ok (.aload_n 0, 1) := by decide +kernel
theorem dX11_readsBracket_16 : decode cX11_readsBracket 16 = .ok (.dup, 1) := by decide +kernel
theorem dX11_readsBracket_17 : decode cX11_readsBracket 17 = .ok (.getfield 280, 3) := by decide +kernel
theorem dX11_readsBracket_20 : decode cX11_readsBracket 20 = .ok (.iconst 1, 1) := by decide +kernel
theorem dX11_readsBracket_21 : decode cX11_readsBracket 21 = .ok (.iadd, 1) := by decide +kernel
theorem dX11_readsBracket_22 : decode cX11_readsBracket 22 = .ok (.putfield 280, 3) := by decide +kernel
theorem dX11_readsBracket_25 : decode cX11_readsBracket 25 = .ok (.aload_n 0, 1) := by decide +kernel
theorem dX11_readsBracket_26 : decode cX11_readsBracket 26 = .ok (.iconst 1, 1) := by decide +kernel
theorem dX11_readsBracket_27 : decode cX11_readsBracket 27 = .ok (.invokevirtual 283, 3) := by decide +kernel
theorem dX11_readsBracket_30 : decode cX11_readsBracket 30 = .ok (.aload_n 0, 1) := by decide +kernel
theorem dX11_readsBracket_31 : decode cX11_readsBracket 31 = .ok (.dup, 1) := by decide +kernel
theorem dX11_readsBracket_32 : decode cX11_readsBracket 32 = .ok (.getfield 280, 3) := by decide +kernel
theorem dX11_readsBracket_35 : decode cX11_readsBracket 35 = .ok (.iconst 1, 1) := by decide +kernel
theorem dX11_readsBracket_36 : decode cX11_readsBracket 36 = .ok (.isub, 1) := by decide +kernel
theorem dX11_readsBracket_37 : decode cX11_readsBracket 37 = .ok (.putfield 280, 3) := by decide +kernel
theorem dX11_readsBracket_40 : decode cX11_readsBracket 40 = .ok (.aload_n 0, 1) := by decide +kernel
theorem dX11_readsBracket_41 : decode cX11_readsBracket 41 = .ok (.getfield 259, 3) := by decide +kernel
theorem dX11_readsBracket_44 : decode cX11_readsBracket 44 = .ok (.ifCond .eq 4, 3) := by decide +kernel
theorem dX11_readsBracket_47 : decode cX11_readsBracket 47 = .ok (.return_, 1) := by decide +kernel
theorem dX11_readsBracket_48 : decode cX11_readsBracket 48 = .ok (.aload_n 0, 1) := by decide +kernel
theorem dX11_readsBracket_49 : decode cX11_readsBracket 49 = .ok (.dup, 1) := by decide +kernel
theorem dX11_readsBracket_50 : decode cX11_readsBracket 50 = .ok (.getfield 253, 3) := by decide +kernel
theorem dX11_readsBracket_53 : decode cX11_readsBracket 53 = .ok (.iconst 1, 1) := by decide +kernel
theorem dX11_readsBracket_54 : decode cX11_readsBracket 54 = .ok (.iadd, 1) := by decide +kernel
theorem dX11_readsBracket_55 : decode cX11_readsBracket 55 = .ok (.putfield 253, 3) := by decide +kernel
theorem dX11_readsBracket_58 : decode cX11_readsBracket 58 = .ok (.aload_n 0, 1) := by decide +kernel
theorem dX11_readsBracket_59 : decode cX11_readsBracket 59 = .ok (.invokevirtual 274, 3) := by decide +kernel
theorem dX11_readsBracket_62 : decode cX11_readsBracket 62 = .ok (.pop, 1) := by decide +kernel
theorem dX11_readsBracket_63 : decode cX11_readsBracket 63 = .ok (.return_, 1) := by decide +kernel
theorem dX11_skips_0 : decode cX11_skips 0 = .ok (.iconst 1, 1) := by decide +kernel
theorem dX11_skips_1 : decode cX11_skips 1 = .ok (.istore_n 1, 1) := by decide +kernel
theorem dX11_skips_2 : decode cX11_skips 2 = .ok (.iload_n 1, 1) := by decide +kernel
theorem dX11_skips_3 : decode cX11_skips 3 = .ok (.ifCond .le 50, 3) := by decide +kernel
theorem dX11_skips_6 : decode cX11_skips 6 = .ok (.aload_n 0, 1) := by decide +kernel
theorem dX11_skips_7 : decode cX11_skips 7 = .ok (.getfield 7, 3) := by decide +kernel
theorem dX11_skips_10 : decode cX11_skips 10 = .ok (.aload_n 0, 1) := by decide +kernel
theorem dX11_skips_11 : decode cX11_skips 11 = .ok (.getfield 253, 3) := by decide +kernel
theorem dX11_skips_14 : decode cX11_skips 14 = .ok (.iaload, 1) := by decide +kernel
theorem dX11_skips_15 : decode cX11_skips 15 = .ok (.bipush 91, 2) := by decide +kernel
theorem dX11_skips_17 : decode cX11_skips 17 = .ok (.if_icmp .ne 6, 3) := by decide +kernel
theorem dX11_skips_20 : decode cX11_skips 20 = .ok (.iinc 1 1, 3) := by decide +kernel
theorem dX11_skips_23 : decode cX11_skips 23 = .ok (.aload_n 0, 1) := by decide +kernel
theorem dX11_skips_24 : decode cX11_skips 24 = .ok (.getfield 7, 3) := by decide +kernel
theorem dX11_skips_27 : decode cX11_skips 27 = .ok (.aload_n 0, 1) := by decide +kernel
theorem dX11_skips_28 : decode cX11_skips 28 = .ok (.getfield 253, 3) := by decide +kernel
theorem dX11_skips_31 : decode cX11_skips 31 = .ok (.iaload, 1) := by decide +kernel
theorem dX11_skips_32 : decode cX11_skips 32 = .ok (.bipush 93, 2) := by decide +kernel
theorem dX11_skips_34 : decode cX11_skips 34 = .ok (.if_icmp .ne 6, 3) := by decide +kernel
theorem dX11_skips_37 : decode cX11_skips 37 = .ok (.iinc 1 (-1), 3) := by decide +kernel
theorem dX11_skips_40 : decode cX11_skips 40 = .ok (.aload_n 0, 1) := by decide +kernel
theorem dX11_skips_41 : decode cX11_skips 41 = .ok (.dup, 1) := by decide +kernel
theorem dX11_skips_42 : decode cX11_skips 42 = .ok (.getfield 253, 3) := by decide +kernel
theorem dX11_skips_45 : decode cX11_skips 45 = .ok (.iconst 1, 1) := by decide +kernel
theorem dX11_skips_46 : decode cX11_skips 46 = .ok (.iadd, 1) := by decide +kernel
theorem dX11_skips_47 : decode cX11_skips 47 = .ok (.putfield 253, 3) := by decide +kernel
theorem dX11_skips_50 : decode cX11_skips 50 = .ok (.goto (-48), 3) := by decide +kernel
theorem dX11_skips_53 : decode cX11_skips 53 = .ok (.return_, 1) := by decide +kernel
theorem dX11_does_0 : decode cX11_does 0 = .ok (.iconst 0, 1) := by decide +kernel
theorem dX11_does_1 : decode cX11_does 1 = .ok (.istore_n 3, 1) := by decide +kernel
theorem dX11_does_2 : decode cX11_does 2 = .ok (.iload_n 3, 1) := by decide +kernel
theorem dX11_does_3 : decode cX11_does 3 = .ok (.iload_n 2, 1) := by decide +kernel
theorem dX11_does_4 : decode cX11_does 4 = .ok (.if_icmp .ge 52, 3) := by decide +kernel
theorem dX11_does_7 : decode cX11_does 7 = .ok (.aload_n 0, 1) := by decide +kernel
theorem dX11_does_8 : decode cX11_does 8 = .ok (.getfield 287, 3) := by decide +kernel
theorem dX11_does_11 : decode cX11_does 11 = .ok (.ifCond .ne 45, 3) := by decide +kernel
theorem dX11_does_14 : decode cX11_does 14 = .ok (.aload_n 0, 1) := by decide +kernel
theorem dX11_does_15 : decode cX11_does 15 = .ok (.getfield 291, 3) := by decide +kernel
theorem dX11_does_18 : decode cX11_does 18 = .ok (.sipush 500, 3) := by decide +kernel
theorem dX11_does_21 : decode cX11_does 21 = .ok (.if_icmp .eq 11, 3) := by decide +kernel
theorem dX11_does_24 : decode cX11_does 24 = .ok (.aload_n 0, 1) := by decide +kernel
theorem dX11_does_25 : decode cX11_does 25 = .ok (.iload_n 1, 1) := by decide +kernel
theorem dX11_does_26 : decode cX11_does 26 = .ok (.invokevirtual 101, 3) := by decide +kernel
theorem dX11_does_29 : decode cX11_does 29 = .ok (.ifCond .ne 11, 3) := by decide +kernel
theorem dX11_does_32 : decode cX11_does 32 = .ok (.aload_n 0, 1) := by decide +kernel
theorem dX11_does_33 : decode cX11_does 33 = .ok (.iconst 1, 1) := by decide +kernel
theorem dX11_does_34 : decode cX11_does 34 = .ok (.putfield 287, 3) := by decide +kernel
theorem dX11_does_37 : decode cX11_does 37 = .ok (.goto 13, 3) := by decide +kernel
theorem dX11_does_40 : decode cX11_does 40 = .ok (.aload_n 0, 1) := by decide +kernel
theorem dX11_does_41 : decode cX11_does 41 = .ok (.dup, 1) := by decide +kernel
theorem dX11_does_42 : decode cX11_does 42 = .ok (.getfield 291, 3) := by decide +kernel
theorem dX11_does_45 : decode cX11_does 45 = .ok (.iconst 1, 1) := by decide +kernel
theorem dX11_does_46 : decode cX11_does 46 = .ok (.iadd, 1) := by decide +kernel
theorem dX11_does_47 : decode cX11_does 47 = .ok (.putfield 291, 3) := by decide +kernel
theorem dX11_does_50 : decode cX11_does 50 = .ok (.iinc 3 1, 3) := by decide +kernel
theorem dX11_does_53 : decode cX11_does 53 = .ok (.goto (-51), 3) := by decide +kernel
theorem dX11_does_56 : decode cX11_does 56 = .ok (.return_, 1) := by decide +kernel
theorem dX11_goes_0 : decode cX11_goes 0 = .ok (.aload_n 0, 1) := by decide +kernel
theorem dX11_goes_1 : decode cX11_goes 1 = .ok (.getfield 287, 3) := by decide +kernel
theorem dX11_goes_4 : decode cX11_goes 4 = .ok (.ifCond .ne 137, 3) := by decide +kernel
theorem dX11_goes_7 : decode cX11_goes 7 = .ok (.aload_n 0, 1) := by decide +kernel
theorem dX11_goes_8 : decode cX11_goes 8 = .ok (.invokevirtual 265, 3) := by decide +kernel
theorem dX11_goes_11 : decode cX11_goes 11 = .ok (.istore_n 2, 1) := by decide +kernel
theorem dX11_goes_12 : decode cX11_goes 12 = .ok (.aload_n 0, 1) := by decide +kernel
theorem dX11_goes_13 : decode cX11_goes 13 = .ok (.getfield 253, 3) := by decide +kernel
theorem dX11_goes_16 : decode cX11_goes 16 = .ok (.aload_n 0, 1) := by decide +kernel
theorem dX11_goes_17 : decode cX11_goes 17 = .ok (.getfield 256, 3) := by decide +kernel
theorem dX11_goes_20 : decode cX11_goes 20 = .ok (.if_icmp .ge 13, 3) := by decide +kernel
theorem dX11_goes_23 : decode cX11_goes 23 = .ok (.iload_n 2, 1) := by decide +kernel
theorem dX11_goes_24 : decode cX11_goes 24 = .ok (.bipush 93, 2) := by decide +kernel
theorem dX11_goes_26 : decode cX11_goes 26 = .ok (.if_icmp .ne 8, 3) := by decide +kernel
theorem dX11_goes_29 : decode cX11_goes 29 = .ok (.iload_n 1, 1) := by decide +kernel
theorem dX11_goes_30 : decode cX11_goes 30 = .ok (.ifCond .eq 4, 3) := by decide +kernel
theorem dX11_goes_33 : decode cX11_goes 33 = .ok (.return_, 1) := by decide +kernel
theorem dX11_goes_34 : decode cX11_goes 34 = .ok (.aload_n 0, 1) := by decide +kernel
theorem dX11_goes_35 : decode cX11_goes 35 = .ok (.dup, 1) := by decide +kernel
theorem dX11_goes_36 : decode cX11_goes 36 = .ok (.getfield 253, 3) := by decide +kernel
theorem dX11_goes_39 : decode cX11_goes 39 = .ok (.iconst 1, 1) := by decide +kernel
theorem dX11_goes_40 : decode cX11_goes 40 = .ok (.iadd, 1) := by decide +kernel
theorem dX11_goes_41 : decode cX11_goes 41 = .ok (.putfield 253, 3) := by decide +kernel
theorem dX11_goes_44 : decode cX11_goes 44 = .ok (.iload_n 2, 1) := by decide +kernel
theorem dX11_goes_45 : decode cX11_goes 45 = .ok (.bipush 104, 2) := by decide +kernel
theorem dX11_goes_47 : decode cX11_goes 47 = .ok (.if_icmp .ne 13, 3) := by decide +kernel
theorem dX11_goes_50 : decode cX11_goes 50 = .ok (.aload_n 0, 1) := by decide +kernel
theorem dX11_goes_51 : decode cX11_goes 51 = .ok (.bipush 104, 2) := by decide +kernel
theorem dX11_goes_53 : decode cX11_goes 53 = .ok (.iconst 1, 1) := by decide +kernel
theorem dX11_goes_54 : decode cX11_goes 54 = .ok (.invokevirtual 294, 3) := by decide +kernel
theorem dX11_goes_57 : decode cX11_goes 57 = .ok (.goto 81, 3) := by decide +kernel
theorem dX11_goes_60 : decode cX11_goes 60 = .ok (.iload_n 2, 1) := by decide +kernel
theorem dX11_goes_61 : decode cX11_goes 61 = .ok (.bipush 91, 2) := by decide +kernel
theorem dX11_goes_63 : decode cX11_goes 63 = .ok (.if_icmp .ne 66, 3) := by decide +kernel
theorem dX11_goes_66 : decode cX11_goes 66 = .ok (.aload_n 0, 1) := by decide +kernel
theorem dX11_goes_67 : decode cX11_goes 67 = .ok (.getfield 253, 3) := by decide +kernel
theorem dX11_goes_70 : decode cX11_goes 70 = .ok (.istore_n 3, 1) := by decide +kernel
theorem dX11_goes_71 : decode cX11_goes 71 = .ok (.aload_n 0, 1) := by decide +kernel
theorem dX11_goes_72 : decode cX11_goes 72 = .ok (.invokevirtual 297, 3) := by decide +kernel
theorem dX11_goes_75 : decode cX11_goes 75 = .ok (.aload_n 0, 1) := by decide +kernel
theorem dX11_goes_76 : decode cX11_goes 76 = .ok (.invokevirtual 274, 3) := by decide +kernel
theorem dX11_goes_79 : decode cX11_goes 79 = .ok (.istore 4, 2) := by decide +kernel
theorem dX11_goes_81 : decode cX11_goes 81 = .ok (.aload_n 0, 1) := by decide +kernel
theorem dX11_goes_82 : decode cX11_goes 82 = .ok (.getfield 253, 3) := by decide +kernel
theorem dX11_goes_85 : decode cX11_goes 85 = .ok (.istore 5, 2) := by decide +kernel
theorem dX11_goes_87 : decode cX11_goes 87 = .ok (.iconst 0, 1) := by decide +kernel
theorem dX11_goes_88 : decode cX11_goes 88 = .ok (.istore 6, 2) := by decide +kernel
theorem dX11_goes_90 : decode cX11_goes 90 = .ok (.iload 6, 2) := by decide +kernel
theorem dX11_goes_92 : decode cX11_goes 92 = .ok (.iload 4, 2) := by decide +kernel
theorem dX11_goes_94 : decode cX11_goes 94 = .ok (.if_icmp .ge 26, 3) := by decide +kernel
theorem dX11_goes_97 : decode cX11_goes 97 = .ok (.aload_n 0, 1) := by decide +kernel
theorem dX11_goes_98 : decode cX11_goes 98 = .ok (.getfield 287, 3) := by decide +kernel
theorem dX11_goes_101 : decode cX11_goes 101 = .ok (.ifCond .ne 19, 3) := by decide +kernel
theorem dX11_goes_104 : decode cX11_goes 104 = .ok (.aload_n 0, 1) := by decide +kernel
theorem dX11_goes_105 : decode cX11_goes 105 = .ok (.iload_n 3, 1) := by decide +kernel
theorem dX11_goes_106 : decode cX11_goes 106 = .ok (.putfield 253, 3) := by decide +kernel
theorem dX11_goes_109 : decode cX11_goes 109 = .ok (.aload_n 0, 1) := by decide +kernel
theorem dX11_goes_110 : decode cX11_goes 110 = .ok (.iconst 1, 1) := by decide +kernel
theorem dX11_goes_111 : decode cX11_goes 111 = .ok (.invokevirtual 300, 3) := by decide +kernel
theorem dX11_goes_114 : decode cX11_goes 114 = .ok (.iinc 6 1, 3) := by decide +kernel
theorem dX11_goes_117 : decode cX11_goes 117 = .ok (.goto (-27), 3) := by decide +kernel
theorem dX11_goes_120 : decode cX11_goes 120 = .ok (.aload_n 0, 1) := by decide +kernel
theorem dX11_goes_121 : decode cX11_goes 121 = .ok (.iload 5, 2) := by decide +kernel
theorem dX11_goes_123 : decode cX11_goes 123 = .ok (.putfield 253, 3) := by decide +kernel
theorem dX11_goes_126 : decode cX11_goes 126 = .ok (.goto 12, 3) := by decide +kernel
theorem dX11_goes_129 : decode cX11_goes 129 = .ok (.aload_n 0, 1) := by decide +kernel
theorem dX11_goes_130 : decode cX11_goes 130 = .ok (.iload_n 2, 1) := by decide +kernel
theorem dX11_goes_131 : decode cX11_goes 131 = .ok (.aload_n 0, 1) := by decide +kernel
theorem dX11_goes_132 : decode cX11_goes 132 = .ok (.invokevirtual 274, 3) := by decide +kernel
theorem dX11_goes_135 : decode cX11_goes 135 = .ok (.invokevirtual 294, 3) := by decide +kernel
theorem dX11_goes_138 : decode cX11_goes 138 = .ok (.goto (-138), 3) := by decide +kernel
theorem dX11_goes_141 : decode cX11_goes 141 = .ok (.return_, 1) := by decide +kernel
theorem dX11_path_0 : decode cX11_path 0 = .ok (.aload_n 0, 1) := by decide +kernel
theorem dX11_path_1 : decode cX11_path 1 = .ok (.iconst 0, 1) := by decide +kernel
theorem dX11_path_2 : decode cX11_path 2 = .ok (.putfield 1, 3) := by decide +kernel
theorem dX11_path_5 : decode cX11_path 5 = .ok (.aload_n 0, 1) := by decide +kernel
theorem dX11_path_6 : decode cX11_path 6 = .ok (.aload_n 0, 1) := by decide +kernel
theorem dX11_path_7 : decode cX11_path 7 = .ok (.getfield 11, 3) := by decide +kernel
theorem dX11_path_10 : decode cX11_path 10 = .ok (.putfield 256, 3) := by decide +kernel
theorem dX11_path_13 : decode cX11_path 13 = .ok (.aload_n 0, 1) := by decide +kernel
theorem dX11_path_14 : decode cX11_path 14 = .ok (.iconst 0, 1) := by decide +kernel
theorem dX11_path_15 : decode cX11_path 15 = .ok (.putfield 11, 3) := by decide +kernel
theorem dX11_path_18 : decode cX11_path 18 = .ok (.aload_n 0, 1) := by decide +kernel
theorem dX11_path_19 : decode cX11_path 19 = .ok (.iconst 0, 1) := by decide +kernel
theorem dX11_path_20 : decode cX11_path 20 = .ok (.putfield 259, 3) := by decide +kernel
theorem dX11_path_23 : decode cX11_path 23 = .ok (.aload_n 0, 1) := by decide +kernel
theorem dX11_path_24 : decode cX11_path 24 = .ok (.iconst 0, 1) := by decide +kernel
theorem dX11_path_25 : decode cX11_path 25 = .ok (.putfield 253, 3) := by decide +kernel
theorem dX11_path_28 : decode cX11_path 28 = .ok (.aload_n 0, 1) := by decide +kernel
theorem dX11_path_29 : decode cX11_path 29 = .ok (.iconst 0, 1) := by decide +kernel
theorem dX11_path_30 : decode cX11_path 30 = .ok (.putfield 280, 3) := by decide +kernel
theorem dX11_path_33 : decode cX11_path 33 = .ok (.aload_n 0, 1) := by decide +kernel
theorem dX11_path_34 : decode cX11_path 34 = .ok (.getfield 256, 3) := by decide +kernel
theorem dX11_path_37 : decode cX11_path 37 = .ok (.sipush 200, 3) := by decide +kernel
theorem dX11_path_40 : decode cX11_path 40 = .ok (.if_icmp .le 11, 3) := by decide +kernel
theorem dX11_path_43 : decode cX11_path 43 = .ok (.aload_n 0, 1) := by decide +kernel
theorem dX11_path_44 : decode cX11_path 44 = .ok (.iconst 1, 1) := by decide +kernel
theorem dX11_path_45 : decode cX11_path 45 = .ok (.sipush 200, 3) := by decide +kernel
theorem dX11_path_48 : decode cX11_path 48 = .ok (.invokevirtual 271, 3) := by decide +kernel
theorem dX11_path_51 : decode cX11_path 51 = .ok (.aload_n 0, 1) := by decide +kernel
theorem dX11_path_52 : decode cX11_path 52 = .ok (.iconst 0, 1) := by decide +kernel
theorem dX11_path_53 : decode cX11_path 53 = .ok (.invokevirtual 283, 3) := by decide +kernel
theorem dX11_path_56 : decode cX11_path 56 = .ok (.aload_n 0, 1) := by decide +kernel
theorem dX11_path_57 : decode cX11_path 57 = .ok (.getfield 259, 3) := by decide +kernel
theorem dX11_path_60 : decode cX11_path 60 = .ok (.ifCond .eq 12, 3) := by decide +kernel
theorem dX11_path_63 : decode cX11_path 63 = .ok (.sipush (-1000), 3) := by decide +kernel
theorem dX11_path_66 : decode cX11_path 66 = .ok (.aload_n 0, 1) := by decide +kernel
theorem dX11_path_67 : decode cX11_path 67 = .ok (.getfield 262, 3) := by decide +kernel
theorem dX11_path_70 : decode cX11_path 70 = .ok (.isub, 1) := by decide +kernel
theorem dX11_path_71 : decode cX11_path 71 = .ok (.ireturn, 1) := by decide +kernel
theorem dX11_path_72 : decode cX11_path 72 = .ok (.aload_n 0, 1) := by decide +kernel
theorem dX11_path_73 : decode cX11_path 73 = .ok (.getfield 24, 3) := by decide +kernel
theorem dX11_path_76 : decode cX11_path 76 = .ok (.iconst 0, 1) := by decide +kernel
theorem dX11_path_77 : decode cX11_path 77 = .ok (.aload_n 0, 1) := by decide +kernel
theorem dX11_path_78 : decode cX11_path 78 = .ok (.getfield 33, 3) := by decide +kernel
theorem dX11_path_81 : decode cX11_path 81 = .ok (.iconst 0, 1) := by decide +kernel
theorem dX11_path_82 : decode cX11_path 82 = .ok (.invokestatic 59, 3) := by decide +kernel
theorem dX11_path_85 : decode cX11_path 85 = .ok (.aload_n 0, 1) := by decide +kernel
theorem dX11_path_86 : decode cX11_path 86 = .ok (.iconst 0, 1) := by decide +kernel
theorem dX11_path_87 : decode cX11_path 87 = .ok (.putfield 253, 3) := by decide +kernel
theorem dX11_path_90 : decode cX11_path 90 = .ok (.aload_n 0, 1) := by decide +kernel
theorem dX11_path_91 : decode cX11_path 91 = .ok (.iconst 0, 1) := by decide +kernel
theorem dX11_path_92 : decode cX11_path 92 = .ok (.putfield 291, 3) := by decide +kernel
theorem dX11_path_95 : decode cX11_path 95 = .ok (.aload_n 0, 1) := by decide +kernel
theorem dX11_path_96 : decode cX11_path 96 = .ok (.iconst 0, 1) := by decide +kernel
theorem dX11_path_97 : decode cX11_path 97 = .ok (.putfield 287, 3) := by decide +kernel
theorem dX11_path_100 : decode cX11_path 100 = .ok (.aload_n 0, 1) := by decide +kernel
theorem dX11_path_101 : decode cX11_path 101 = .ok (.iconst 0, 1) := by decide +kernel
theorem dX11_path_102 : decode cX11_path 102 = .ok (.invokevirtual 300, 3) := by decide +kernel
theorem dX11_path_105 : decode cX11_path 105 = .ok (.aload_n 0, 1) := by decide +kernel
theorem dX11_path_106 : decode cX11_path 106 = .ok (.getfield 291, 3) := by decide +kernel
theorem dX11_path_109 : decode cX11_path 109 = .ok (.ifCond .le 7, 3) := by decide +kernel
theorem dX11_path_112 : decode cX11_path 112 = .ok (.aload_n 0, 1) := by decide +kernel
theorem dX11_path_113 : decode cX11_path 113 = .ok (.invokevirtual 105, 3) := by decide +kernel
theorem dX11_path_116 : decode cX11_path 116 = .ok (.aload_n 0, 1) := by decide +kernel
theorem dX11_path_117 : decode cX11_path 117 = .ok (.getfield 291, 3) := by decide +kernel
theorem dX11_path_120 : decode cX11_path 120 = .ok (.ireturn, 1) := by decide +kernel
theorem dX11_fault_0 : decode cX11_fault 0 = .ok (.aload_n 0, 1) := by decide +kernel
theorem dX11_fault_1 : decode cX11_fault 1 = .ok (.iconst 0, 1) := by decide +kernel
theorem dX11_fault_2 : decode cX11_fault 2 = .ok (.putfield 1, 3) := by decide +kernel
theorem dX11_fault_5 : decode cX11_fault 5 = .ok (.aload_n 0, 1) := by decide +kernel
theorem dX11_fault_6 : decode cX11_fault 6 = .ok (.getfield 259, 3) := by decide +kernel
theorem dX11_fault_9 : decode cX11_fault 9 = .ok (.ireturn, 1) := by decide +kernel
theorem dX11_draw_0 : decode cX11_draw 0 = .ok (.aload_n 0, 1) := by decide +kernel
theorem dX11_draw_1 : decode cX11_draw 1 = .ok (.aload_n 0, 1) := by decide +kernel
theorem dX11_draw_2 : decode cX11_draw 2 = .ok (.getfield 303, 3) := by decide +kernel
theorem dX11_draw_5 : decode cX11_draw 5 = .ok (.ldc_w 306, 3) := by decide +kernel
theorem dX11_draw_8 : decode cX11_draw 8 = .ok (.imul, 1) := by decide +kernel
theorem dX11_draw_9 : decode cX11_draw 9 = .ok (.sipush 12345, 3) := by decide +kernel
theorem dX11_draw_12 : decode cX11_draw 12 = .ok (.iadd, 1) := by decide +kernel
theorem dX11_draw_13 : decode cX11_draw 13 = .ok (.putfield 303, 3) := by decide +kernel
theorem dX11_draw_16 : decode cX11_draw 16 = .ok (.aload_n 0, 1) := by decide +kernel
theorem dX11_draw_17 : decode cX11_draw 17 = .ok (.getfield 303, 3) := by decide +kernel
theorem dX11_draw_20 : decode cX11_draw 20 = .ok (.bipush 8, 2) := by decide +kernel
theorem dX11_draw_22 : decode cX11_draw 22 = .ok (.iushr, 1) := by decide +kernel
theorem dX11_draw_23 : decode cX11_draw 23 = .ok (.iload_n 1, 1) := by decide +kernel
theorem dX11_draw_24 : decode cX11_draw 24 = .ok (.irem, 1) := by decide +kernel
theorem dX11_draw_25 : decode cX11_draw 25 = .ok (.ireturn, 1) := by decide +kernel
theorem dX11_draws_0 : decode cX11_draws 0 = .ok (.aload_n 0, 1) := by decide +kernel
theorem dX11_draws_1 : decode cX11_draws 1 = .ok (.bipush 8, 2) := by decide +kernel
theorem dX11_draws_3 : decode cX11_draws 3 = .ok (.invokevirtual 307, 3) := by decide +kernel
theorem dX11_draws_6 : decode cX11_draws 6 = .ok (.istore_n 1, 1) := by decide +kernel
theorem dX11_draws_7 : decode cX11_draws 7 = .ok (.iload_n 1, 1) := by decide +kernel
theorem dX11_draws_8 : decode cX11_draws 8 = .ok (.bipush 7, 2) := by decide +kernel
theorem dX11_draws_10 : decode cX11_draws 10 = .ok (.if_icmp .ge 29, 3) := by decide +kernel
theorem dX11_draws_13 : decode cX11_draws 13 = .ok (.aload_n 0, 1) := by decide +kernel
theorem dX11_draws_14 : decode cX11_draws 14 = .ok (.iload_n 1, 1) := by decide +kernel
theorem dX11_draws_15 : decode cX11_draws 15 = .ok (.ifCond .ne 8, 3) := by decide +kernel
theorem dX11_draws_18 : decode cX11_draws 18 = .ok (.bipush 117, 2) := by decide +kernel
theorem dX11_draws_20 : decode cX11_draws 20 = .ok (.goto 15, 3) := by decide +kernel
theorem dX11_draws_23 : decode cX11_draws 23 = .ok (.iload_n 1, 1) := by decide +kernel
theorem dX11_draws_24 : decode cX11_draws 24 = .ok (.iconst 4, 1) := by decide +kernel
theorem dX11_draws_25 : decode cX11_draws 25 = .ok (.if_icmp .ge 8, 3) := by decide +kernel
theorem dX11_draws_28 : decode cX11_draws 28 = .ok (.bipush 108, 2) := by decide +kernel
theorem dX11_draws_30 : decode cX11_draws 30 = .ok (.goto 5, 3) := by decide +kernel
theorem dX11_draws_33 : decode cX11_draws 33 = .ok (.bipush 114, 2) := by decide +kernel
theorem dX11_draws_35 : decode cX11_draws 35 = .ok (.invokevirtual 101, 3) := by decide +kernel
theorem dX11_draws_38 : decode cX11_draws 38 = .ok (.ireturn, 1) := by decide +kernel
theorem dX11_draws_39 : decode cX11_draws 39 = .ok (.aload_n 0, 1) := by decide +kernel
theorem dX11_draws_40 : decode cX11_draws 40 = .ok (.invokevirtual 244, 3) := by decide +kernel
theorem dX11_draws_43 : decode cX11_draws 43 = .ok (.iconst (-1), 1) := by decide +kernel
theorem dX11_draws_44 : decode cX11_draws 44 = .ok (.if_icmp .ne 14, 3) := by decide +kernel
theorem dX11_draws_47 : decode cX11_draws 47 = .ok (.aload_n 0, 1) := by decide +kernel
theorem dX11_draws_48 : decode cX11_draws 48 = .ok (.getfield 24, 3) := by decide +kernel
theorem dX11_draws_51 : decode cX11_draws 51 = .ok (.iconst 2, 1) := by decide +kernel
theorem dX11_draws_52 : decode cX11_draws 52 = .ok (.iaload, 1) := by decide +kernel
theorem dX11_draws_53 : decode cX11_draws 53 = .ok (.bipush 16, 2) := by decide +kernel
theorem dX11_draws_55 : decode cX11_draws 55 = .ok (.if_icmp .ne 5, 3) := by decide +kernel
theorem dX11_draws_58 : decode cX11_draws 58 = .ok (.iconst 0, 1) := by decide +kernel
theorem dX11_draws_59 : decode cX11_draws 59 = .ok (.ireturn, 1) := by decide +kernel
theorem dX11_draws_60 : decode cX11_draws 60 = .ok (.aload_n 0, 1) := by decide +kernel
theorem dX11_draws_61 : decode cX11_draws 61 = .ok (.invokevirtual 247, 3) := by decide +kernel
theorem dX11_draws_64 : decode cX11_draws 64 = .ok (.iconst 1, 1) := by decide +kernel
theorem dX11_draws_65 : decode cX11_draws 65 = .ok (.ireturn, 1) := by decide +kernel
theorem dX11_drawn_0 : decode cX11_drawn 0 = .ok (.aload_n 0, 1) := by decide +kernel
theorem dX11_drawn_1 : decode cX11_drawn 1 = .ok (.iconst 0, 1) := by decide +kernel
theorem dX11_drawn_2 : decode cX11_drawn 2 = .ok (.putfield 1, 3) := by decide +kernel
theorem dX11_drawn_5 : decode cX11_drawn 5 = .ok (.iload_n 1, 1) := by decide +kernel
theorem dX11_drawn_6 : decode cX11_drawn 6 = .ok (.i2l, 1) := by decide +kernel
theorem dX11_drawn_7 : decode cX11_drawn 7 = .ok (.lconst 1, 1) := by decide +kernel
theorem dX11_drawn_8 : decode cX11_drawn 8 = .ok (.ldc2_w 310, 3) := by decide +kernel
theorem dX11_drawn_11 : decode cX11_drawn 11 = .ok (.invokestatic 91, 3) := by decide +kernel
theorem dX11_drawn_14 : decode cX11_drawn 14 = .ok (.ifCond .ne 5, 3) := by decide +kernel
theorem dX11_drawn_17 : decode cX11_drawn 17 = .ok (.iconst (-1), 1) := by decide +kernel
theorem dX11_drawn_18 : decode cX11_drawn 18 = .ok (.ireturn, 1) := by decide +kernel
theorem dX11_drawn_19 : decode cX11_drawn 19 = .ok (.aload_n 0, 1) := by decide +kernel
theorem dX11_drawn_20 : decode cX11_drawn 20 = .ok (.getfield 24, 3) := by decide +kernel
theorem dX11_drawn_23 : decode cX11_drawn 23 = .ok (.iconst 0, 1) := by decide +kernel
theorem dX11_drawn_24 : decode cX11_drawn 24 = .ok (.aload_n 0, 1) := by decide +kernel
theorem dX11_drawn_25 : decode cX11_drawn 25 = .ok (.getfield 33, 3) := by decide +kernel
theorem dX11_drawn_28 : decode cX11_drawn 28 = .ok (.iconst 0, 1) := by decide +kernel
theorem dX11_drawn_29 : decode cX11_drawn 29 = .ok (.invokestatic 59, 3) := by decide +kernel
theorem dX11_drawn_32 : decode cX11_drawn 32 = .ok (.aload_n 0, 1) := by decide +kernel
theorem dX11_drawn_33 : decode cX11_drawn 33 = .ok (.iload_n 2, 1) := by decide +kernel
theorem dX11_drawn_34 : decode cX11_drawn 34 = .ok (.putfield 303, 3) := by decide +kernel
theorem dX11_drawn_37 : decode cX11_drawn 37 = .ok (.iconst 0, 1) := by decide +kernel
theorem dX11_drawn_38 : decode cX11_drawn 38 = .ok (.istore_n 3, 1) := by decide +kernel
theorem dX11_drawn_39 : decode cX11_drawn 39 = .ok (.iconst 0, 1) := by decide +kernel
theorem dX11_drawn_40 : decode cX11_drawn 40 = .ok (.istore 4, 2) := by decide +kernel
theorem dX11_drawn_42 : decode cX11_drawn 42 = .ok (.iload 4, 2) := by decide +kernel
theorem dX11_drawn_44 : decode cX11_drawn 44 = .ok (.iload_n 1, 1) := by decide +kernel
theorem dX11_drawn_45 : decode cX11_drawn 45 = .ok (.if_icmp .ge 19, 3) := by decide +kernel
theorem dX11_drawn_48 : decode cX11_drawn 48 = .ok (.aload_n 0, 1) := by decide +kernel
theorem dX11_drawn_49 : decode cX11_drawn 49 = .ok (.invokevirtual 312, 3) := by decide +kernel
theorem dX11_drawn_52 : decode cX11_drawn 52 = .ok (.ifCond .eq 6, 3) := by decide +kernel
theorem dX11_drawn_55 : decode cX11_drawn 55 = .ok (.iinc 3 1, 3) := by decide +kernel
theorem dX11_drawn_58 : decode cX11_drawn 58 = .ok (.iinc 4 1, 3) := by decide +kernel
theorem dX11_drawn_61 : decode cX11_drawn 61 = .ok (.goto (-19), 3) := by decide +kernel
theorem dX11_drawn_64 : decode cX11_drawn 64 = .ok (.iload_n 3, 1) := by decide +kernel
theorem dX11_drawn_65 : decode cX11_drawn 65 = .ok (.ifCond .le 7, 3) := by decide +kernel
theorem dX11_drawn_68 : decode cX11_drawn 68 = .ok (.aload_n 0, 1) := by decide +kernel
theorem dX11_drawn_69 : decode cX11_drawn 69 = .ok (.invokevirtual 105, 3) := by decide +kernel
theorem dX11_drawn_72 : decode cX11_drawn 72 = .ok (.iload_n 3, 1) := by decide +kernel
theorem dX11_drawn_73 : decode cX11_drawn 73 = .ok (.ireturn, 1) := by decide +kernel
theorem dX11_now_0 : decode cX11_now 0 = .ok (.aload_n 0, 1) := by decide +kernel
theorem dX11_now_1 : decode cX11_now 1 = .ok (.iconst 0, 1) := by decide +kernel
theorem dX11_now_2 : decode cX11_now 2 = .ok (.putfield 1, 3) := by decide +kernel
theorem dX11_now_5 : decode cX11_now 5 = .ok (.aload_n 0, 1) := by decide +kernel
theorem dX11_now_6 : decode cX11_now 6 = .ok (.invokevirtual 95, 3) := by decide +kernel
theorem dX11_now_9 : decode cX11_now 9 = .ok (.iload_n 1, 1) := by decide +kernel
theorem dX11_now_10 : decode cX11_now 10 = .ok (.tableswitch 110 0 9 #[54, 61, 68, 73, 78, 83, 88, 93, 100, 105], 54) := by decide +kernel
theorem dX11_now_64 : decode cX11_now 64 = .ok (.aload_n 0, 1) := by decide +kernel
theorem dX11_now_65 : decode cX11_now 65 = .ok (.getfield 24, 3) := by decide +kernel
theorem dX11_now_68 : decode cX11_now 68 = .ok (.iconst 0, 1) := by decide +kernel
theorem dX11_now_69 : decode cX11_now 69 = .ok (.iaload, 1) := by decide +kernel
theorem dX11_now_70 : decode cX11_now 70 = .ok (.ireturn, 1) := by decide +kernel
theorem dX11_now_71 : decode cX11_now 71 = .ok (.aload_n 0, 1) := by decide +kernel
theorem dX11_now_72 : decode cX11_now 72 = .ok (.getfield 24, 3) := by decide +kernel
theorem dX11_now_75 : decode cX11_now 75 = .ok (.iconst 1, 1) := by decide +kernel
theorem dX11_now_76 : decode cX11_now 76 = .ok (.iaload, 1) := by decide +kernel
theorem dX11_now_77 : decode cX11_now 77 = .ok (.ireturn, 1) := by decide +kernel
theorem dX11_now_78 : decode cX11_now 78 = .ok (.aload_n 0, 1) := by decide +kernel
theorem dX11_now_79 : decode cX11_now 79 = .ok (.getfield 66, 3) := by decide +kernel
theorem dX11_now_82 : decode cX11_now 82 = .ok (.ireturn, 1) := by decide +kernel
theorem dX11_now_83 : decode cX11_now 83 = .ok (.aload_n 0, 1) := by decide +kernel
theorem dX11_now_84 : decode cX11_now 84 = .ok (.getfield 69, 3) := by decide +kernel
theorem dX11_now_87 : decode cX11_now 87 = .ok (.ireturn, 1) := by decide +kernel
theorem dX11_now_88 : decode cX11_now 88 = .ok (.aload_n 0, 1) := by decide +kernel
theorem dX11_now_89 : decode cX11_now 89 = .ok (.getfield 72, 3) := by decide +kernel
theorem dX11_now_92 : decode cX11_now 92 = .ok (.ireturn, 1) := by decide +kernel
theorem dX11_now_93 : decode cX11_now 93 = .ok (.aload_n 0, 1) := by decide +kernel
theorem dX11_now_94 : decode cX11_now 94 = .ok (.getfield 75, 3) := by decide +kernel
theorem dX11_now_97 : decode cX11_now 97 = .ok (.ireturn, 1) := by decide +kernel
theorem dX11_now_98 : decode cX11_now 98 = .ok (.aload_n 0, 1) := by decide +kernel
theorem dX11_now_99 : decode cX11_now 99 = .ok (.getfield 78, 3) := by decide +kernel
theorem dX11_now_102 : decode cX11_now 102 = .ok (.ireturn, 1) := by decide +kernel
theorem dX11_now_103 : decode cX11_now 103 = .ok (.aload_n 0, 1) := by decide +kernel
theorem dX11_now_104 : decode cX11_now 104 = .ok (.getfield 24, 3) := by decide +kernel
theorem dX11_now_107 : decode cX11_now 107 = .ok (.iconst 2, 1) := by decide +kernel
theorem dX11_now_108 : decode cX11_now 108 = .ok (.iaload, 1) := by decide +kernel
theorem dX11_now_109 : decode cX11_now 109 = .ok (.ireturn, 1) := by decide +kernel
theorem dX11_now_110 : decode cX11_now 110 = .ok (.aload_n 0, 1) := by decide +kernel
theorem dX11_now_111 : decode cX11_now 111 = .ok (.getfield 56, 3) := by decide +kernel
theorem dX11_now_114 : decode cX11_now 114 = .ok (.ireturn, 1) := by decide +kernel
theorem dX11_now_115 : decode cX11_now 115 = .ok (.aload_n 0, 1) := by decide +kernel
theorem dX11_now_116 : decode cX11_now 116 = .ok (.getfield 11, 3) := by decide +kernel
theorem dX11_now_119 : decode cX11_now 119 = .ok (.ireturn, 1) := by decide +kernel
theorem dX11_now_120 : decode cX11_now 120 = .ok (.iconst (-1), 1) := by decide +kernel
theorem dX11_now_121 : decode cX11_now 121 = .ok (.ireturn, 1) := by decide +kernel
theorem dX11_undo_0 : decode cX11_undo 0 = .ok (.aload_n 0, 1) := by decide +kernel
theorem dX11_undo_1 : decode cX11_undo 1 = .ok (.iconst 0, 1) := by decide +kernel
theorem dX11_undo_2 : decode cX11_undo 2 = .ok (.putfield 1, 3) := by decide +kernel
theorem dX11_undo_5 : decode cX11_undo 5 = .ok (.aload_n 0, 1) := by decide +kernel
theorem dX11_undo_6 : decode cX11_undo 6 = .ok (.getfield 56, 3) := by decide +kernel
theorem dX11_undo_9 : decode cX11_undo 9 = .ok (.ifCond .ne 5, 3) := by decide +kernel
theorem dX11_undo_12 : decode cX11_undo 12 = .ok (.iconst (-1), 1) := by decide +kernel
theorem dX11_undo_13 : decode cX11_undo 13 = .ok (.ireturn, 1) := by decide +kernel
theorem dX11_undo_14 : decode cX11_undo 14 = .ok (.aload_n 0, 1) := by decide +kernel
theorem dX11_undo_15 : decode cX11_undo 15 = .ok (.dup, 1) := by decide +kernel
theorem dX11_undo_16 : decode cX11_undo 16 = .ok (.getfield 56, 3) := by decide +kernel
theorem dX11_undo_19 : decode cX11_undo 19 = .ok (.iconst 1, 1) := by decide +kernel
theorem dX11_undo_20 : decode cX11_undo 20 = .ok (.isub, 1) := by decide +kernel
theorem dX11_undo_21 : decode cX11_undo 21 = .ok (.putfield 56, 3) := by decide +kernel
theorem dX11_undo_24 : decode cX11_undo 24 = .ok (.aload_n 0, 1) := by decide +kernel
theorem dX11_undo_25 : decode cX11_undo 25 = .ok (.getfield 30, 3) := by decide +kernel
theorem dX11_undo_28 : decode cX11_undo 28 = .ok (.bipush 35, 2) := by decide +kernel
theorem dX11_undo_30 : decode cX11_undo 30 = .ok (.aload_n 0, 1) := by decide +kernel
theorem dX11_undo_31 : decode cX11_undo 31 = .ok (.getfield 56, 3) := by decide +kernel
theorem dX11_undo_34 : decode cX11_undo 34 = .ok (.imul, 1) := by decide +kernel
theorem dX11_undo_35 : decode cX11_undo 35 = .ok (.aload_n 0, 1) := by decide +kernel
theorem dX11_undo_36 : decode cX11_undo 36 = .ok (.getfield 24, 3) := by decide +kernel
theorem dX11_undo_39 : decode cX11_undo 39 = .ok (.iconst 0, 1) := by decide +kernel
theorem dX11_undo_40 : decode cX11_undo 40 = .ok (.invokestatic 59, 3) := by decide +kernel
theorem dX11_undo_43 : decode cX11_undo 43 = .ok (.aload_n 0, 1) := by decide +kernel
theorem dX11_undo_44 : decode cX11_undo 44 = .ok (.getfield 56, 3) := by decide +kernel
theorem dX11_undo_47 : decode cX11_undo 47 = .ok (.ireturn, 1) := by decide +kernel
theorem dX11_image_0 : decode cX11_image 0 = .ok (.aload_n 0, 1) := by decide +kernel
theorem dX11_image_1 : decode cX11_image 1 = .ok (.iconst 0, 1) := by decide +kernel
theorem dX11_image_2 : decode cX11_image 2 = .ok (.putfield 1, 3) := by decide +kernel
theorem dX11_image_5 : decode cX11_image 5 = .ok (.iload_n 1, 1) := by decide +kernel
theorem dX11_image_6 : decode cX11_image 6 = .ok (.i2l, 1) := by decide +kernel
theorem dX11_image_7 : decode cX11_image 7 = .ok (.lconst 0, 1) := by decide +kernel
theorem dX11_image_8 : decode cX11_image 8 = .ok (.lconst 1, 1) := by decide +kernel
theorem dX11_image_9 : decode cX11_image 9 = .ok (.invokestatic 91, 3) := by decide +kernel
theorem dX11_image_12 : decode cX11_image 12 = .ok (.ifCond .ne 5, 3) := by decide +kernel
theorem dX11_image_15 : decode cX11_image 15 = .ok (.iconst 0, 1) := by decide +kernel
theorem dX11_image_16 : decode cX11_image 16 = .ok (.ireturn, 1) := by decide +kernel
theorem dX11_image_17 : decode cX11_image 17 = .ok (.aload_n 0, 1) := by decide +kernel
theorem dX11_image_18 : decode cX11_image 18 = .ok (.getfield 24, 3) := by decide +kernel
theorem dX11_image_21 : decode cX11_image 21 = .ok (.iconst 0, 1) := by decide +kernel
theorem dX11_image_22 : decode cX11_image 22 = .ok (.aload_n 0, 1) := by decide +kernel
theorem dX11_image_23 : decode cX11_image 23 = .ok (.getfield 27, 3) := by decide +kernel
theorem dX11_image_26 : decode cX11_image 26 = .ok (.bipush 35, 2) := by decide +kernel
theorem dX11_image_28 : decode cX11_image 28 = .ok (.iload_n 1, 1) := by decide +kernel
theorem dX11_image_29 : decode cX11_image 29 = .ok (.imul, 1) := by decide +kernel
theorem dX11_image_30 : decode cX11_image 30 = .ok (.invokestatic 59, 3) := by decide +kernel
theorem dX11_image_33 : decode cX11_image 33 = .ok (.aload_n 0, 1) := by decide +kernel
theorem dX11_image_34 : decode cX11_image 34 = .ok (.getfield 39, 3) := by decide +kernel
theorem dX11_image_37 : decode cX11_image 37 = .ok (.iload_n 1, 1) := by decide +kernel
theorem dX11_image_38 : decode cX11_image 38 = .ok (.iconst 1, 1) := by decide +kernel
theorem dX11_image_39 : decode cX11_image 39 = .ok (.bastore, 1) := by decide +kernel
theorem dX11_image_40 : decode cX11_image 40 = .ok (.iconst 1, 1) := by decide +kernel
theorem dX11_image_41 : decode cX11_image 41 = .ok (.ireturn, 1) := by decide +kernel
theorem dX11_restore_0 : decode cX11_restore 0 = .ok (.aload_n 0, 1) := by decide +kernel
theorem dX11_restore_1 : decode cX11_restore 1 = .ok (.iconst 0, 1) := by decide +kernel
theorem dX11_restore_2 : decode cX11_restore 2 = .ok (.putfield 1, 3) := by decide +kernel
theorem dX11_restore_5 : decode cX11_restore 5 = .ok (.iload_n 1, 1) := by decide +kernel
theorem dX11_restore_6 : decode cX11_restore 6 = .ok (.i2l, 1) := by decide +kernel
theorem dX11_restore_7 : decode cX11_restore 7 = .ok (.lconst 0, 1) := by decide +kernel
theorem dX11_restore_8 : decode cX11_restore 8 = .ok (.lconst 1, 1) := by decide +kernel
theorem dX11_restore_9 : decode cX11_restore 9 = .ok (.invokestatic 91, 3) := by decide +kernel
theorem dX11_restore_12 : decode cX11_restore 12 = .ok (.ifCond .eq 12, 3) := by decide +kernel
theorem dX11_restore_15 : decode cX11_restore 15 = .ok (.aload_n 0, 1) := by decide +kernel
theorem dX11_restore_16 : decode cX11_restore 16 = .ok (.getfield 39, 3) := by decide +kernel
theorem dX11_restore_19 : decode cX11_restore 19 = .ok (.iload_n 1, 1) := by decide +kernel
theorem dX11_restore_20 : decode cX11_restore 20 = .ok (.baload, 1) := by decide +kernel
theorem dX11_restore_21 : decode cX11_restore 21 = .ok (.ifCond .ne 5, 3) := by decide +kernel
theorem dX11_restore_24 : decode cX11_restore 24 = .ok (.iconst 0, 1) := by decide +kernel
theorem dX11_restore_25 : decode cX11_restore 25 = .ok (.ireturn, 1) := by decide +kernel
theorem dX11_restore_26 : decode cX11_restore 26 = .ok (.aload_n 0, 1) := by decide +kernel
theorem dX11_restore_27 : decode cX11_restore 27 = .ok (.getfield 27, 3) := by decide +kernel
theorem dX11_restore_30 : decode cX11_restore 30 = .ok (.bipush 35, 2) := by decide +kernel
theorem dX11_restore_32 : decode cX11_restore 32 = .ok (.iload_n 1, 1) := by decide +kernel
theorem dX11_restore_33 : decode cX11_restore 33 = .ok (.imul, 1) := by decide +kernel
theorem dX11_restore_34 : decode cX11_restore 34 = .ok (.aload_n 0, 1) := by decide +kernel
theorem dX11_restore_35 : decode cX11_restore 35 = .ok (.getfield 24, 3) := by decide +kernel
theorem dX11_restore_38 : decode cX11_restore 38 = .ok (.iconst 0, 1) := by decide +kernel
theorem dX11_restore_39 : decode cX11_restore 39 = .ok (.invokestatic 59, 3) := by decide +kernel
theorem dX11_restore_42 : decode cX11_restore 42 = .ok (.aload_n 0, 1) := by decide +kernel
theorem dX11_restore_43 : decode cX11_restore 43 = .ok (.iconst 0, 1) := by decide +kernel
theorem dX11_restore_44 : decode cX11_restore 44 = .ok (.putfield 56, 3) := by decide +kernel
theorem dX11_restore_47 : decode cX11_restore 47 = .ok (.iconst 1, 1) := by decide +kernel
theorem dX11_restore_48 : decode cX11_restore 48 = .ok (.ireturn, 1) := by decide +kernel
