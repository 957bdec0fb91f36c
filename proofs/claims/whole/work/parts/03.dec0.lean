theorem dX0_init_0 : decode cX0_init 0 = .ok (.aload_n 0, 1) := by decide +kernel
theorem dX0_init_1 : decode cX0_init 1 = .ok (.invokespecial 1, 3) := by decide +kernel
theorem dX0_init_4 : decode cX0_init 4 = .ok (.aload_n 0, 1) := by decide +kernel
theorem dX0_init_5 : decode cX0_init 5 = .ok (.sipush 200, 3) := by decide +kernel
theorem dX0_init_8 : decode cX0_init 8 = .ok (.newarray .int, 2) := by decide +kernel
theorem dX0_init_10 : decode cX0_init 10 = .ok (.putfield 9, 3) := by decide +kernel
theorem dX0_init_13 : decode cX0_init 13 = .ok (.aload_n 0, 1) := by decide +kernel
theorem dX0_init_14 : decode cX0_init 14 = .ok (.sipush 200, 3) := by decide +kernel
theorem dX0_init_17 : decode cX0_init 17 = .ok (.newarray .int, 2) := by decide +kernel
theorem dX0_init_19 : decode cX0_init 19 = .ok (.putfield 13, 3) := by decide +kernel
theorem dX0_init_22 : decode cX0_init 22 = .ok (.aload_n 0, 1) := by decide +kernel
theorem dX0_init_23 : decode cX0_init 23 = .ok (.sipush 200, 3) := by decide +kernel
theorem dX0_init_26 : decode cX0_init 26 = .ok (.newarray .int, 2) := by decide +kernel
theorem dX0_init_28 : decode cX0_init 28 = .ok (.putfield 16, 3) := by decide +kernel
theorem dX0_init_31 : decode cX0_init 31 = .ok (.aload_n 0, 1) := by decide +kernel
theorem dX0_init_32 : decode cX0_init 32 = .ok (.sipush 200, 3) := by decide +kernel
theorem dX0_init_35 : decode cX0_init 35 = .ok (.newarray .int, 2) := by decide +kernel
theorem dX0_init_37 : decode cX0_init 37 = .ok (.putfield 19, 3) := by decide +kernel
theorem dX0_init_40 : decode cX0_init 40 = .ok (.aload_n 0, 1) := by decide +kernel
theorem dX0_init_41 : decode cX0_init 41 = .ok (.iconst 3, 1) := by decide +kernel
theorem dX0_init_42 : decode cX0_init 42 = .ok (.newarray .int, 2) := by decide +kernel
theorem dX0_init_44 : decode cX0_init 44 = .ok (.putfield 22, 3) := by decide +kernel
theorem dX0_init_47 : decode cX0_init 47 = .ok (.return_, 1) := by decide +kernel
theorem dX0_faultKind_0 : decode cX0_faultKind 0 = .ok (.aload_n 0, 1) := by decide +kernel
theorem dX0_faultKind_1 : decode cX0_faultKind 1 = .ok (.getfield 25, 3) := by decide +kernel
theorem dX0_faultKind_4 : decode cX0_faultKind 4 = .ok (.ireturn, 1) := by decide +kernel
theorem dX0_faultPlace_0 : decode cX0_faultPlace 0 = .ok (.aload_n 0, 1) := by decide +kernel
theorem dX0_faultPlace_1 : decode cX0_faultPlace 1 = .ok (.getfield 29, 3) := by decide +kernel
theorem dX0_faultPlace_4 : decode cX0_faultPlace 4 = .ok (.ireturn, 1) := by decide +kernel
theorem dX0_read_0 : decode cX0_read 0 = .ok (.aload_n 0, 1) := by decide +kernel
theorem dX0_read_1 : decode cX0_read 1 = .ok (.iconst 0, 1) := by decide +kernel
theorem dX0_read_2 : decode cX0_read 2 = .ok (.putfield 32, 3) := by decide +kernel
theorem dX0_read_5 : decode cX0_read 5 = .ok (.aload_n 0, 1) := by decide +kernel
theorem dX0_read_6 : decode cX0_read 6 = .ok (.iconst 0, 1) := by decide +kernel
theorem dX0_read_7 : decode cX0_read 7 = .ok (.putfield 35, 3) := by decide +kernel
theorem dX0_read_10 : decode cX0_read 10 = .ok (.aload_n 0, 1) := by decide +kernel
theorem dX0_read_11 : decode cX0_read 11 = .ok (.iconst 0, 1) := by decide +kernel
theorem dX0_read_12 : decode cX0_read 12 = .ok (.putfield 38, 3) := by decide +kernel
theorem dX0_read_15 : decode cX0_read 15 = .ok (.aload_n 0, 1) := by decide +kernel
theorem dX0_read_16 : decode cX0_read 16 = .ok (.iconst (-1), 1) := by decide +kernel
theorem dX0_read_17 : decode cX0_read 17 = .ok (.putfield 42, 3) := by decide +kernel
theorem dX0_read_20 : decode cX0_read 20 = .ok (.aload_n 0, 1) := by decide +kernel
theorem dX0_read_21 : decode cX0_read 21 = .ok (.iconst 0, 1) := by decide +kernel
theorem dX0_read_22 : decode cX0_read 22 = .ok (.putfield 25, 3) := by decide +kernel
theorem dX0_read_25 : decode cX0_read 25 = .ok (.aload_n 0, 1) := by decide +kernel
theorem dX0_read_26 : decode cX0_read 26 = .ok (.iconst 0, 1) := by decide +kernel
theorem dX0_read_27 : decode cX0_read 27 = .ok (.putfield 29, 3) := by decide +kernel
theorem dX0_read_30 : decode cX0_read 30 = .ok (.aload_n 1, 1) := by decide +kernel
theorem dX0_read_31 : decode cX0_read 31 = .ok (.invokevirtual 45, 3) := by decide +kernel
theorem dX0_read_34 : decode cX0_read 34 = .ok (.istore_n 2, 1) := by decide +kernel
theorem dX0_read_35 : decode cX0_read 35 = .ok (.iload_n 2, 1) := by decide +kernel
theorem dX0_read_36 : decode cX0_read 36 = .ok (.sipush 200, 3) := by decide +kernel
theorem dX0_read_39 : decode cX0_read 39 = .ok (.if_icmp .le 12, 3) := by decide +kernel
theorem dX0_read_42 : decode cX0_read 42 = .ok (.aload_n 0, 1) := by decide +kernel
theorem dX0_read_43 : decode cX0_read 43 = .ok (.iconst 1, 1) := by decide +kernel
theorem dX0_read_44 : decode cX0_read 44 = .ok (.sipush 200, 3) := by decide +kernel
theorem dX0_read_47 : decode cX0_read 47 = .ok (.invokevirtual 51, 3) := by decide +kernel
theorem dX0_read_50 : decode cX0_read 50 = .ok (.return_, 1) := by decide +kernel
theorem dX0_read_51 : decode cX0_read 51 = .ok (.iconst 0, 1) := by decide +kernel
theorem dX0_read_52 : decode cX0_read 52 = .ok (.istore_n 3, 1) := by decide +kernel
theorem dX0_read_53 : decode cX0_read 53 = .ok (.iconst 0, 1) := by decide +kernel
theorem dX0_read_54 : decode cX0_read 54 = .ok (.istore 4, 2) := by decide +kernel
theorem dX0_read_56 : decode cX0_read 56 = .ok (.iload 4, 2) := by decide +kernel
theorem dX0_read_58 : decode cX0_read 58 = .ok (.sipush 200, 3) := by decide +kernel
theorem dX0_read_61 : decode cX0_read 61 = .ok (.if_icmp .ge 54, 3) := by decide +kernel
theorem dX0_read_64 : decode cX0_read 64 = .ok (.iload_n 3, 1) := by decide +kernel
theorem dX0_read_65 : decode cX0_read 65 = .ok (.iload_n 2, 1) := by decide +kernel
theorem dX0_read_66 : decode cX0_read 66 = .ok (.if_icmp .ge 49, 3) := by decide +kernel
theorem dX0_read_69 : decode cX0_read 69 = .ok (.aload_n 0, 1) := by decide +kernel
theorem dX0_read_70 : decode cX0_read 70 = .ok (.getfield 25, 3) := by decide +kernel
theorem dX0_read_73 : decode cX0_read 73 = .ok (.ifCond .ne 42, 3) := by decide +kernel
theorem dX0_read_76 : decode cX0_read 76 = .ok (.iload_n 3, 1) := by decide +kernel
theorem dX0_read_77 : decode cX0_read 77 = .ok (.aload_n 1, 1) := by decide +kernel
theorem dX0_read_78 : decode cX0_read 78 = .ok (.iload_n 3, 1) := by decide +kernel
theorem dX0_read_79 : decode cX0_read 79 = .ok (.invokevirtual 55, 3) := by decide +kernel
theorem dX0_read_82 : decode cX0_read 82 = .ok (.invokestatic 59, 3) := by decide +kernel
theorem dX0_read_85 : decode cX0_read 85 = .ok (.ifCond .eq 12, 3) := by decide +kernel
theorem dX0_read_88 : decode cX0_read 88 = .ok (.aload_n 0, 1) := by decide +kernel
theorem dX0_read_89 : decode cX0_read 89 = .ok (.aload_n 1, 1) := by decide +kernel
theorem dX0_read_90 : decode cX0_read 90 = .ok (.iload_n 3, 1) := by decide +kernel
theorem dX0_read_91 : decode cX0_read 91 = .ok (.invokevirtual 63, 3) := by decide +kernel
theorem dX0_read_94 : decode cX0_read 94 = .ok (.goto 13, 3) := by decide +kernel
theorem dX0_read_97 : decode cX0_read 97 = .ok (.aload_n 0, 1) := by decide +kernel
theorem dX0_read_98 : decode cX0_read 98 = .ok (.aload_n 1, 1) := by decide +kernel
theorem dX0_read_99 : decode cX0_read 99 = .ok (.iload_n 3, 1) := by decide +kernel
theorem dX0_read_100 : decode cX0_read 100 = .ok (.invokevirtual 55, 3) := by decide +kernel
theorem dX0_read_103 : decode cX0_read 103 = .ok (.iload_n 3, 1) := by decide +kernel
theorem dX0_read_104 : decode cX0_read 104 = .ok (.invokevirtual 67, 3) := by decide +kernel
theorem dX0_read_107 : decode cX0_read 107 = .ok (.iadd, 1) := by decide +kernel
theorem dX0_read_108 : decode cX0_read 108 = .ok (.istore_n 3, 1) := by decide +kernel
theorem dX0_read_109 : decode cX0_read 109 = .ok (.iinc 4 1, 3) := by decide +kernel
theorem dX0_read_112 : decode cX0_read 112 = .ok (.goto (-56), 3) := by decide +kernel
theorem dX0_read_115 : decode cX0_read 115 = .ok (.aload_n 0, 1) := by decide +kernel
theorem dX0_read_116 : decode cX0_read 116 = .ok (.getfield 25, 3) := by decide +kernel
theorem dX0_read_119 : decode cX0_read 119 = .ok (.ifCond .ne 16, 3) := by decide +kernel
theorem dX0_read_122 : decode cX0_read 122 = .ok (.aload_n 0, 1) := by decide +kernel
theorem dX0_read_123 : decode cX0_read 123 = .ok (.getfield 35, 3) := by decide +kernel
theorem dX0_read_126 : decode cX0_read 126 = .ok (.ifCond .le 9, 3) := by decide +kernel
theorem dX0_read_129 : decode cX0_read 129 = .ok (.aload_n 0, 1) := by decide +kernel
theorem dX0_read_130 : decode cX0_read 130 = .ok (.iconst 1, 1) := by decide +kernel
theorem dX0_read_131 : decode cX0_read 131 = .ok (.iload_n 2, 1) := by decide +kernel
theorem dX0_read_132 : decode cX0_read 132 = .ok (.invokevirtual 51, 3) := by decide +kernel
theorem dX0_read_135 : decode cX0_read 135 = .ok (.return_, 1) := by decide +kernel
theorem dX0_fail_0 : decode cX0_fail 0 = .ok (.aload_n 0, 1) := by decide +kernel
theorem dX0_fail_1 : decode cX0_fail 1 = .ok (.iload_n 1, 1) := by decide +kernel
theorem dX0_fail_2 : decode cX0_fail 2 = .ok (.putfield 25, 3) := by decide +kernel
theorem dX0_fail_5 : decode cX0_fail 5 = .ok (.aload_n 0, 1) := by decide +kernel
theorem dX0_fail_6 : decode cX0_fail 6 = .ok (.iload_n 2, 1) := by decide +kernel
theorem dX0_fail_7 : decode cX0_fail 7 = .ok (.putfield 29, 3) := by decide +kernel
theorem dX0_fail_10 : decode cX0_fail 10 = .ok (.return_, 1) := by decide +kernel
theorem dX0_isDigit_0 : decode cX0_isDigit 0 = .ok (.iload_n 0, 1) := by decide +kernel
theorem dX0_isDigit_1 : decode cX0_isDigit 1 = .ok (.bipush 48, 2) := by decide +kernel
theorem dX0_isDigit_3 : decode cX0_isDigit 3 = .ok (.if_icmp .lt 13, 3) := by decide +kernel
theorem dX0_isDigit_6 : decode cX0_isDigit 6 = .ok (.iload_n 0, 1) := by decide +kernel
theorem dX0_isDigit_7 : decode cX0_isDigit 7 = .ok (.bipush 57, 2) := by decide +kernel
theorem dX0_isDigit_9 : decode cX0_isDigit 9 = .ok (.if_icmp .gt 7, 3) := by decide +kernel
theorem dX0_isDigit_12 : decode cX0_isDigit 12 = .ok (.iconst 1, 1) := by decide +kernel
theorem dX0_isDigit_13 : decode cX0_isDigit 13 = .ok (.goto 4, 3) := by decide +kernel
theorem dX0_isDigit_16 : decode cX0_isDigit 16 = .ok (.iconst 0, 1) := by decide +kernel
theorem dX0_isDigit_17 : decode cX0_isDigit 17 = .ok (.ireturn, 1) := by decide +kernel
theorem dX0_readNumber_0 : decode cX0_readNumber 0 = .ok (.iconst 0, 1) := by decide +kernel
theorem dX0_readNumber_1 : decode cX0_readNumber 1 = .ok (.istore_n 3, 1) := by decide +kernel
theorem dX0_readNumber_2 : decode cX0_readNumber 2 = .ok (.iconst 0, 1) := by decide +kernel
theorem dX0_readNumber_3 : decode cX0_readNumber 3 = .ok (.istore 4, 2) := by decide +kernel
theorem dX0_readNumber_5 : decode cX0_readNumber 5 = .ok (.iload 4, 2) := by decide +kernel
theorem dX0_readNumber_7 : decode cX0_readNumber 7 = .ok (.sipush 200, 3) := by decide +kernel
theorem dX0_readNumber_10 : decode cX0_readNumber 10 = .ok (.if_icmp .ge 45, 3) := by decide +kernel
theorem dX0_readNumber_13 : decode cX0_readNumber 13 = .ok (.aload_n 1, 1) := by decide +kernel
theorem dX0_readNumber_14 : decode cX0_readNumber 14 = .ok (.iload_n 2, 1) := by decide +kernel
theorem dX0_readNumber_15 : decode cX0_readNumber 15 = .ok (.iload 4, 2) := by decide +kernel
theorem dX0_readNumber_17 : decode cX0_readNumber 17 = .ok (.iadd, 1) := by decide +kernel
theorem dX0_readNumber_18 : decode cX0_readNumber 18 = .ok (.invokevirtual 55, 3) := by decide +kernel
theorem dX0_readNumber_21 : decode cX0_readNumber 21 = .ok (.invokestatic 59, 3) := by decide +kernel
theorem dX0_readNumber_24 : decode cX0_readNumber 24 = .ok (.ifCond .eq 31, 3) := by decide +kernel
theorem dX0_readNumber_27 : decode cX0_readNumber 27 = .ok (.iload_n 3, 1) := by decide +kernel
theorem dX0_readNumber_28 : decode cX0_readNumber 28 = .ok (.bipush 10, 2) := by decide +kernel
theorem dX0_readNumber_30 : decode cX0_readNumber 30 = .ok (.imul, 1) := by decide +kernel
theorem dX0_readNumber_31 : decode cX0_readNumber 31 = .ok (.aload_n 1, 1) := by decide +kernel
theorem dX0_readNumber_32 : decode cX0_readNumber 32 = .ok (.iload_n 2, 1) := by decide +kernel
theorem dX0_readNumber_33 : decode cX0_readNumber 33 = .ok (.iload 4, 2) := by decide +kernel
theorem dX0_readNumber_35 : decode cX0_readNumber 35 = .ok (.iadd, 1) := by decide +kernel
theorem dX0_readNumber_36 : decode cX0_readNumber 36 = .ok (.invokevirtual 55, 3) := by decide +kernel
theorem dX0_readNumber_39 : decode cX0_readNumber 39 = .ok (.iadd, 1) := by decide +kernel
theorem dX0_readNumber_40 : decode cX0_readNumber 40 = .ok (.bipush 48, 2) := by decide +kernel
theorem dX0_readNumber_42 : decode cX0_readNumber 42 = .ok (.isub, 1) := by decide +kernel
theorem dX0_readNumber_43 : decode cX0_readNumber 43 = .ok (.bipush 100, 2) := by decide +kernel
theorem dX0_readNumber_45 : decode cX0_readNumber 45 = .ok (.invokestatic 71, 3) := by decide +kernel
theorem dX0_readNumber_48 : decode cX0_readNumber 48 = .ok (.istore_n 3, 1) := by decide +kernel
theorem dX0_readNumber_49 : decode cX0_readNumber 49 = .ok (.iinc 4 1, 3) := by decide +kernel
theorem dX0_readNumber_52 : decode cX0_readNumber 52 = .ok (.goto (-47), 3) := by decide +kernel
theorem dX0_readNumber_55 : decode cX0_readNumber 55 = .ok (.aload_n 0, 1) := by decide +kernel
theorem dX0_readNumber_56 : decode cX0_readNumber 56 = .ok (.getfield 38, 3) := by decide +kernel
theorem dX0_readNumber_59 : decode cX0_readNumber 59 = .ok (.ifCond .ne 12, 3) := by decide +kernel
theorem dX0_readNumber_62 : decode cX0_readNumber 62 = .ok (.aload_n 0, 1) := by decide +kernel
theorem dX0_readNumber_63 : decode cX0_readNumber 63 = .ok (.iconst 1, 1) := by decide +kernel
theorem dX0_readNumber_64 : decode cX0_readNumber 64 = .ok (.iload_n 2, 1) := by decide +kernel
theorem dX0_readNumber_65 : decode cX0_readNumber 65 = .ok (.invokevirtual 51, 3) := by decide +kernel
theorem dX0_readNumber_68 : decode cX0_readNumber 68 = .ok (.goto 57, 3) := by decide +kernel
theorem dX0_readNumber_71 : decode cX0_readNumber 71 = .ok (.iload 4, 2) := by decide +kernel
theorem dX0_readNumber_73 : decode cX0_readNumber 73 = .ok (.iconst 2, 1) := by decide +kernel
theorem dX0_readNumber_74 : decode cX0_readNumber 74 = .ok (.if_icmp .gt 14, 3) := by decide +kernel
theorem dX0_readNumber_77 : decode cX0_readNumber 77 = .ok (.iload_n 3, 1) := by decide +kernel
theorem dX0_readNumber_78 : decode cX0_readNumber 78 = .ok (.iconst 1, 1) := by decide +kernel
theorem dX0_readNumber_79 : decode cX0_readNumber 79 = .ok (.if_icmp .lt 9, 3) := by decide +kernel
theorem dX0_readNumber_82 : decode cX0_readNumber 82 = .ok (.iload_n 3, 1) := by decide +kernel
theorem dX0_readNumber_83 : decode cX0_readNumber 83 = .ok (.bipush 99, 2) := by decide +kernel
theorem dX0_readNumber_85 : decode cX0_readNumber 85 = .ok (.if_icmp .le 12, 3) := by decide +kernel
theorem dX0_readNumber_88 : decode cX0_readNumber 88 = .ok (.aload_n 0, 1) := by decide +kernel
theorem dX0_readNumber_89 : decode cX0_readNumber 89 = .ok (.iconst 2, 1) := by decide +kernel
theorem dX0_readNumber_90 : decode cX0_readNumber 90 = .ok (.iload_n 2, 1) := by decide +kernel
theorem dX0_readNumber_91 : decode cX0_readNumber 91 = .ok (.invokevirtual 51, 3) := by decide +kernel
theorem dX0_readNumber_94 : decode cX0_readNumber 94 = .ok (.goto 31, 3) := by decide +kernel
theorem dX0_readNumber_97 : decode cX0_readNumber 97 = .ok (.aload_n 0, 1) := by decide +kernel
theorem dX0_readNumber_98 : decode cX0_readNumber 98 = .ok (.getfield 42, 3) := by decide +kernel
theorem dX0_readNumber_101 : decode cX0_readNumber 101 = .ok (.ifCond .lt 24, 3) := by decide +kernel
theorem dX0_readNumber_104 : decode cX0_readNumber 104 = .ok (.aload_n 0, 1) := by decide +kernel
theorem dX0_readNumber_105 : decode cX0_readNumber 105 = .ok (.getfield 42, 3) := by decide +kernel
theorem dX0_readNumber_108 : decode cX0_readNumber 108 = .ok (.aload_n 0, 1) := by decide +kernel
theorem dX0_readNumber_109 : decode cX0_readNumber 109 = .ok (.getfield 32, 3) := by decide +kernel
theorem dX0_readNumber_112 : decode cX0_readNumber 112 = .ok (.if_icmp .ge 13, 3) := by decide +kernel
theorem dX0_readNumber_115 : decode cX0_readNumber 115 = .ok (.aload_n 0, 1) := by decide +kernel
theorem dX0_readNumber_116 : decode cX0_readNumber 116 = .ok (.getfield 13, 3) := by decide +kernel
theorem dX0_readNumber_119 : decode cX0_readNumber 119 = .ok (.aload_n 0, 1) := by decide +kernel
theorem dX0_readNumber_120 : decode cX0_readNumber 120 = .ok (.getfield 42, 3) := by decide +kernel
theorem dX0_readNumber_123 : decode cX0_readNumber 123 = .ok (.iload_n 3, 1) := by decide +kernel
theorem dX0_readNumber_124 : decode cX0_readNumber 124 = .ok (.iastore, 1) := by decide +kernel
theorem dX0_readNumber_125 : decode cX0_readNumber 125 = .ok (.aload_n 0, 1) := by decide +kernel
theorem dX0_readNumber_126 : decode cX0_readNumber 126 = .ok (.iconst 0, 1) := by decide +kernel
theorem dX0_readNumber_127 : decode cX0_readNumber 127 = .ok (.putfield 38, 3) := by decide +kernel
theorem dX0_readNumber_130 : decode cX0_readNumber 130 = .ok (.iload 4, 2) := by decide +kernel
theorem dX0_readNumber_132 : decode cX0_readNumber 132 = .ok (.ireturn, 1) := by decide +kernel
theorem dX0_readSign_0 : decode cX0_readSign 0 = .ok (.iload_n 1, 1) := by decide +kernel
theorem dX0_readSign_1 : decode cX0_readSign 1 = .ok (.lookupswitch 114 #[(32, 67), (91, 98), (93, 106), (104, 84), (108, 70), (114, 70), (117, 70)], 67) := by decide +kernel
theorem dX0_readSign_68 : decode cX0_readSign 68 = .ok (.goto 53, 3) := by decide +kernel
theorem dX0_readSign_71 : decode cX0_readSign 71 = .ok (.aload_n 0, 1) := by decide +kernel
theorem dX0_readSign_72 : decode cX0_readSign 72 = .ok (.iload_n 1, 1) := by decide +kernel
theorem dX0_readSign_73 : decode cX0_readSign 73 = .ok (.iconst 0, 1) := by decide +kernel
theorem dX0_readSign_74 : decode cX0_readSign 74 = .ok (.invokevirtual 76, 3) := by decide +kernel
theorem dX0_readSign_77 : decode cX0_readSign 77 = .ok (.aload_n 0, 1) := by decide +kernel
theorem dX0_readSign_78 : decode cX0_readSign 78 = .ok (.iconst 1, 1) := by decide +kernel
theorem dX0_readSign_79 : decode cX0_readSign 79 = .ok (.putfield 38, 3) := by decide +kernel
theorem dX0_readSign_82 : decode cX0_readSign 82 = .ok (.goto 39, 3) := by decide +kernel
theorem dX0_readSign_85 : decode cX0_readSign 85 = .ok (.aload_n 0, 1) := by decide +kernel
theorem dX0_readSign_86 : decode cX0_readSign 86 = .ok (.iload_n 1, 1) := by decide +kernel
theorem dX0_readSign_87 : decode cX0_readSign 87 = .ok (.iconst 0, 1) := by decide +kernel
theorem dX0_readSign_88 : decode cX0_readSign 88 = .ok (.invokevirtual 76, 3) := by decide +kernel
theorem dX0_readSign_91 : decode cX0_readSign 91 = .ok (.aload_n 0, 1) := by decide +kernel
theorem dX0_readSign_92 : decode cX0_readSign 92 = .ok (.iconst 0, 1) := by decide +kernel
theorem dX0_readSign_93 : decode cX0_readSign 93 = .ok (.putfield 38, 3) := by decide +kernel
theorem dX0_readSign_96 : decode cX0_readSign 96 = .ok (.goto 25, 3) := by decide +kernel
theorem dX0_readSign_99 : decode cX0_readSign 99 = .ok (.aload_n 0, 1) := by decide +kernel
theorem dX0_readSign_100 : decode cX0_readSign 100 = .ok (.iload_n 2, 1) := by decide +kernel
theorem dX0_readSign_101 : decode cX0_readSign 101 = .ok (.invokevirtual 79, 3) := by decide +kernel
theorem dX0_readSign_104 : decode cX0_readSign 104 = .ok (.goto 17, 3) := by decide +kernel
theorem dX0_readSign_107 : decode cX0_readSign 107 = .ok (.aload_n 0, 1) := by decide +kernel
theorem dX0_readSign_108 : decode cX0_readSign 108 = .ok (.iload_n 2, 1) := by decide +kernel
theorem dX0_readSign_109 : decode cX0_readSign 109 = .ok (.invokevirtual 83, 3) := by decide +kernel
theorem dX0_readSign_112 : decode cX0_readSign 112 = .ok (.goto 9, 3) := by decide +kernel
theorem dX0_readSign_115 : decode cX0_readSign 115 = .ok (.aload_n 0, 1) := by decide +kernel
theorem dX0_readSign_116 : decode cX0_readSign 116 = .ok (.iconst 1, 1) := by decide +kernel
theorem dX0_readSign_117 : decode cX0_readSign 117 = .ok (.iload_n 2, 1) := by decide +kernel
theorem dX0_readSign_118 : decode cX0_readSign 118 = .ok (.invokevirtual 51, 3) := by decide +kernel
theorem dX0_readSign_121 : decode cX0_readSign 121 = .ok (.iconst 1, 1) := by decide +kernel
theorem dX0_readSign_122 : decode cX0_readSign 122 = .ok (.ireturn, 1) := by decide +kernel
theorem dX0_openBracket_0 : decode cX0_openBracket 0 = .ok (.aload_n 0, 1) := by decide +kernel
theorem dX0_openBracket_1 : decode cX0_openBracket 1 = .ok (.getfield 35, 3) := by decide +kernel
theorem dX0_openBracket_4 : decode cX0_openBracket 4 = .ok (.iconst 3, 1) := by decide +kernel
theorem dX0_openBracket_5 : decode cX0_openBracket 5 = .ok (.if_icmp .lt 10, 3) := by decide +kernel
theorem dX0_openBracket_8 : decode cX0_openBracket 8 = .ok (.aload_n 0, 1) := by decide +kernel
theorem dX0_openBracket_9 : decode cX0_openBracket 9 = .ok (.iconst 3, 1) := by decide +kernel
theorem dX0_openBracket_10 : decode cX0_openBracket 10 = .ok (.iload_n 1, 1) := by decide +kernel
theorem dX0_openBracket_11 : decode cX0_openBracket 11 = .ok (.invokevirtual 51, 3) := by decide +kernel
theorem dX0_openBracket_14 : decode cX0_openBracket 14 = .ok (.return_, 1) := by decide +kernel
theorem dX0_openBracket_15 : decode cX0_openBracket 15 = .ok (.aload_n 0, 1) := by decide +kernel
theorem dX0_openBracket_16 : decode cX0_openBracket 16 = .ok (.getfield 22, 3) := by decide +kernel
theorem dX0_openBracket_19 : decode cX0_openBracket 19 = .ok (.aload_n 0, 1) := by decide +kernel
theorem dX0_openBracket_20 : decode cX0_openBracket 20 = .ok (.getfield 35, 3) := by decide +kernel
theorem dX0_openBracket_23 : decode cX0_openBracket 23 = .ok (.aload_n 0, 1) := by decide +kernel
theorem dX0_openBracket_24 : decode cX0_openBracket 24 = .ok (.getfield 32, 3) := by decide +kernel
theorem dX0_openBracket_27 : decode cX0_openBracket 27 = .ok (.iastore, 1) := by decide +kernel
theorem dX0_openBracket_28 : decode cX0_openBracket 28 = .ok (.aload_n 0, 1) := by decide +kernel
theorem dX0_openBracket_29 : decode cX0_openBracket 29 = .ok (.dup, 1) := by decide +kernel
theorem dX0_openBracket_30 : decode cX0_openBracket 30 = .ok (.getfield 35, 3) := by decide +kernel
theorem dX0_openBracket_33 : decode cX0_openBracket 33 = .ok (.iconst 1, 1) := by decide +kernel
theorem dX0_openBracket_34 : decode cX0_openBracket 34 = .ok (.iadd, 1) := by decide +kernel
theorem dX0_openBracket_35 : decode cX0_openBracket 35 = .ok (.putfield 35, 3) := by decide +kernel
theorem dX0_openBracket_38 : decode cX0_openBracket 38 = .ok (.aload_n 0, 1) := by decide +kernel
theorem dX0_openBracket_39 : decode cX0_openBracket 39 = .ok (.iconst 0, 1) := by decide +kernel
theorem dX0_openBracket_40 : decode cX0_openBracket 40 = .ok (.putfield 38, 3) := by decide +kernel
theorem dX0_openBracket_43 : decode cX0_openBracket 43 = .ok (.return_, 1) := by decide +kernel
theorem dX0_closeBracket_0 : decode cX0_closeBracket 0 = .ok (.aload_n 0, 1) := by decide +kernel
theorem dX0_closeBracket_1 : decode cX0_closeBracket 1 = .ok (.getfield 35, 3) := by decide +kernel
theorem dX0_closeBracket_4 : decode cX0_closeBracket 4 = .ok (.iconst 1, 1) := by decide +kernel
theorem dX0_closeBracket_5 : decode cX0_closeBracket 5 = .ok (.if_icmp .ge 10, 3) := by decide +kernel
theorem dX0_closeBracket_8 : decode cX0_closeBracket 8 = .ok (.aload_n 0, 1) := by decide +kernel
theorem dX0_closeBracket_9 : decode cX0_closeBracket 9 = .ok (.iconst 1, 1) := by decide +kernel
theorem dX0_closeBracket_10 : decode cX0_closeBracket 10 = .ok (.iload_n 1, 1) := by decide +kernel
theorem dX0_closeBracket_11 : decode cX0_closeBracket 11 = .ok (.invokevirtual 51, 3) := by decide +kernel
theorem dX0_closeBracket_14 : decode cX0_closeBracket 14 = .ok (.return_, 1) := by decide +kernel
theorem dX0_closeBracket_15 : decode cX0_closeBracket 15 = .ok (.aload_n 0, 1) := by decide +kernel
theorem dX0_closeBracket_16 : decode cX0_closeBracket 16 = .ok (.dup, 1) := by decide +kernel
theorem dX0_closeBracket_17 : decode cX0_closeBracket 17 = .ok (.getfield 35, 3) := by decide +kernel
theorem dX0_closeBracket_20 : decode cX0_closeBracket 20 = .ok (.iconst 1, 1) := by decide +kernel
theorem dX0_closeBracket_21 : decode cX0_closeBracket 21 = .ok (.isub, 1) := by decide +kernel
theorem dX0_closeBracket_22 : decode cX0_closeBracket 22 = .ok (.putfield 35, 3) := by decide +kernel
theorem dX0_closeBracket_25 : decode cX0_closeBracket 25 = .ok (.aload_n 0, 1) := by decide +kernel
theorem dX0_closeBracket_26 : decode cX0_closeBracket 26 = .ok (.getfield 22, 3) := by decide +kernel
theorem dX0_closeBracket_29 : decode cX0_closeBracket 29 = .ok (.aload_n 0, 1) := by decide +kernel
theorem dX0_closeBracket_30 : decode cX0_closeBracket 30 = .ok (.getfield 35, 3) := by decide +kernel
theorem dX0_closeBracket_33 : decode cX0_closeBracket 33 = .ok (.iaload, 1) := by decide +kernel
theorem dX0_closeBracket_34 : decode cX0_closeBracket 34 = .ok (.istore_n 2, 1) := by decide +kernel
theorem dX0_closeBracket_35 : decode cX0_closeBracket 35 = .ok (.aload_n 0, 1) := by decide +kernel
theorem dX0_closeBracket_36 : decode cX0_closeBracket 36 = .ok (.iconst (-1), 1) := by decide +kernel
theorem dX0_closeBracket_37 : decode cX0_closeBracket 37 = .ok (.putfield 42, 3) := by decide +kernel
theorem dX0_closeBracket_40 : decode cX0_closeBracket 40 = .ok (.iload_n 2, 1) := by decide +kernel
theorem dX0_closeBracket_41 : decode cX0_closeBracket 41 = .ok (.aload_n 0, 1) := by decide +kernel
theorem dX0_closeBracket_42 : decode cX0_closeBracket 42 = .ok (.getfield 32, 3) := by decide +kernel
theorem dX0_closeBracket_45 : decode cX0_closeBracket 45 = .ok (.if_icmp .ge 10, 3) := by decide +kernel
theorem dX0_closeBracket_48 : decode cX0_closeBracket 48 = .ok (.aload_n 0, 1) := by decide +kernel
theorem dX0_closeBracket_49 : decode cX0_closeBracket 49 = .ok (.bipush 93, 2) := by decide +kernel
theorem dX0_closeBracket_51 : decode cX0_closeBracket 51 = .ok (.iload_n 2, 1) := by decide +kernel
theorem dX0_closeBracket_52 : decode cX0_closeBracket 52 = .ok (.invokevirtual 76, 3) := by decide +kernel
theorem dX0_closeBracket_55 : decode cX0_closeBracket 55 = .ok (.aload_n 0, 1) := by decide +kernel
theorem dX0_closeBracket_56 : decode cX0_closeBracket 56 = .ok (.iconst 1, 1) := by decide +kernel
theorem dX0_closeBracket_57 : decode cX0_closeBracket 57 = .ok (.putfield 38, 3) := by decide +kernel
theorem dX0_closeBracket_60 : decode cX0_closeBracket 60 = .ok (.return_, 1) := by decide +kernel
theorem dX0_putAct_0 : decode cX0_putAct 0 = .ok (.aload_n 0, 1) := by decide +kernel
theorem dX0_putAct_1 : decode cX0_putAct 1 = .ok (.getfield 32, 3) := by decide +kernel
theorem dX0_putAct_4 : decode cX0_putAct 4 = .ok (.sipush 200, 3) := by decide +kernel
theorem dX0_putAct_7 : decode cX0_putAct 7 = .ok (.if_icmp .lt 4, 3) := by decide +kernel
theorem dX0_putAct_10 : decode cX0_putAct 10 = .ok (.return_, 1) := by decide +kernel
theorem dX0_putAct_11 : decode cX0_putAct 11 = .ok (.aload_n 0, 1) := by decide +kernel
theorem dX0_putAct_12 : decode cX0_putAct 12 = .ok (.getfield 9, 3) := by decide +kernel
theorem dX0_putAct_15 : decode cX0_putAct 15 = .ok (.aload_n 0, 1) := by decide +kernel
theorem dX0_putAct_16 : decode cX0_putAct 16 = .ok (.getfield 32, 3) := by decide +kernel
theorem dX0_putAct_19 : decode cX0_putAct 19 = .ok (.iload_n 1, 1) := by decide +kernel
theorem dX0_putAct_20 : decode cX0_putAct 20 = .ok (.iastore, 1) := by decide +kernel
theorem dX0_putAct_21 : decode cX0_putAct 21 = .ok (.aload_n 0, 1) := by decide +kernel
theorem dX0_putAct_22 : decode cX0_putAct 22 = .ok (.getfield 13, 3) := by decide +kernel
theorem dX0_putAct_25 : decode cX0_putAct 25 = .ok (.aload_n 0, 1) := by decide +kernel
theorem dX0_putAct_26 : decode cX0_putAct 26 = .ok (.getfield 32, 3) := by decide +kernel
theorem dX0_putAct_29 : decode cX0_putAct 29 = .ok (.iconst 1, 1) := by decide +kernel
theorem dX0_putAct_30 : decode cX0_putAct 30 = .ok (.iastore, 1) := by decide +kernel
theorem dX0_putAct_31 : decode cX0_putAct 31 = .ok (.aload_n 0, 1) := by decide +kernel
theorem dX0_putAct_32 : decode cX0_putAct 32 = .ok (.getfield 16, 3) := by decide +kernel
theorem dX0_putAct_35 : decode cX0_putAct 35 = .ok (.aload_n 0, 1) := by decide +kernel
theorem dX0_putAct_36 : decode cX0_putAct 36 = .ok (.getfield 32, 3) := by decide +kernel
theorem dX0_putAct_39 : decode cX0_putAct 39 = .ok (.iload_n 2, 1) := by decide +kernel
theorem dX0_putAct_40 : decode cX0_putAct 40 = .ok (.iastore, 1) := by decide +kernel
theorem dX0_putAct_41 : decode cX0_putAct 41 = .ok (.aload_n 0, 1) := by decide +kernel
theorem dX0_putAct_42 : decode cX0_putAct 42 = .ok (.getfield 19, 3) := by decide +kernel
theorem dX0_putAct_45 : decode cX0_putAct 45 = .ok (.aload_n 0, 1) := by decide +kernel
theorem dX0_putAct_46 : decode cX0_putAct 46 = .ok (.getfield 32, 3) := by decide +kernel
theorem dX0_putAct_49 : decode cX0_putAct 49 = .ok (.iconst 0, 1) := by decide +kernel
theorem dX0_putAct_50 : decode cX0_putAct 50 = .ok (.iastore, 1) := by decide +kernel
theorem dX0_putAct_51 : decode cX0_putAct 51 = .ok (.aload_n 0, 1) := by decide +kernel
theorem dX0_putAct_52 : decode cX0_putAct 52 = .ok (.aload_n 0, 1) := by decide +kernel
theorem dX0_putAct_53 : decode cX0_putAct 53 = .ok (.getfield 32, 3) := by decide +kernel
theorem dX0_putAct_56 : decode cX0_putAct 56 = .ok (.putfield 42, 3) := by decide +kernel
theorem dX0_putAct_59 : decode cX0_putAct 59 = .ok (.aload_n 0, 1) := by decide +kernel
theorem dX0_putAct_60 : decode cX0_putAct 60 = .ok (.dup, 1) := by decide +kernel
theorem dX0_putAct_61 : decode cX0_putAct 61 = .ok (.getfield 32, 3) := by decide +kernel
theorem dX0_putAct_64 : decode cX0_putAct 64 = .ok (.iconst 1, 1) := by decide +kernel
theorem dX0_putAct_65 : decode cX0_putAct 65 = .ok (.iadd, 1) := by decide +kernel
theorem dX0_putAct_66 : decode cX0_putAct 66 = .ok (.putfield 32, 3) := by decide +kernel
theorem dX0_putAct_69 : decode cX0_putAct 69 = .ok (.return_, 1) := by decide +kernel
theorem dX0_run_0 : decode cX0_run 0 = .ok (.iconst 0, 1) := by decide +kernel
theorem dX0_run_1 : decode cX0_run 1 = .ok (.istore_n 2, 1) := by decide +kernel
theorem dX0_run_2 : decode cX0_run 2 = .ok (.iconst 0, 1) := by decide +kernel
theorem dX0_run_3 : decode cX0_run 3 = .ok (.istore_n 3, 1) := by decide +kernel
theorem dX0_run_4 : decode cX0_run 4 = .ok (.iconst 0, 1) := by decide +kernel
theorem dX0_run_5 : decode cX0_run 5 = .ok (.istore 4, 2) := by decide +kernel
theorem dX0_run_7 : decode cX0_run 7 = .ok (.iload 4, 2) := by decide +kernel
theorem dX0_run_9 : decode cX0_run 9 = .ok (.ldc 86, 2) := by decide +kernel
theorem dX0_run_11 : decode cX0_run 11 = .ok (.if_icmp .ge 92, 3) := by decide +kernel
theorem dX0_run_14 : decode cX0_run 14 = .ok (.iload_n 3, 1) := by decide +kernel
theorem dX0_run_15 : decode cX0_run 15 = .ok (.ifCond .lt 88, 3) := by decide +kernel
theorem dX0_run_18 : decode cX0_run 18 = .ok (.iload_n 3, 1) := by decide +kernel
theorem dX0_run_19 : decode cX0_run 19 = .ok (.aload_n 0, 1) := by decide +kernel
theorem dX0_run_20 : decode cX0_run 20 = .ok (.getfield 32, 3) := by decide +kernel
theorem dX0_run_23 : decode cX0_run 23 = .ok (.if_icmp .ge 80, 3) := by decide +kernel
theorem dX0_run_26 : decode cX0_run 26 = .ok (.aload_n 0, 1) := by decide +kernel
theorem dX0_run_27 : decode cX0_run 27 = .ok (.getfield 9, 3) := by decide +kernel
theorem dX0_run_30 : decode cX0_run 30 = .ok (.iload_n 3, 1) := by decide +kernel
theorem dX0_run_31 : decode cX0_run 31 = .ok (.iaload, 1) := by decide +kernel
theorem dX0_run_32 : decode cX0_run 32 = .ok (.bipush 93, 2) := by decide +kernel
theorem dX0_run_34 : decode cX0_run 34 = .ok (.if_icmp .ne 12, 3) := by decide +kernel
theorem dX0_run_37 : decode cX0_run 37 = .ok (.aload_n 0, 1) := by decide +kernel
theorem dX0_run_38 : decode cX0_run 38 = .ok (.iload_n 3, 1) := by decide +kernel
theorem dX0_run_39 : decode cX0_run 39 = .ok (.invokevirtual 87, 3) := by decide +kernel
theorem dX0_run_42 : decode cX0_run 42 = .ok (.istore_n 3, 1) := by decide +kernel
theorem dX0_run_43 : decode cX0_run 43 = .ok (.goto 54, 3) := by decide +kernel
theorem dX0_run_46 : decode cX0_run 46 = .ok (.aload_n 0, 1) := by decide +kernel
theorem dX0_run_47 : decode cX0_run 47 = .ok (.getfield 13, 3) := by decide +kernel
theorem dX0_run_50 : decode cX0_run 50 = .ok (.iload_n 3, 1) := by decide +kernel
theorem dX0_run_51 : decode cX0_run 51 = .ok (.iaload, 1) := by decide +kernel
theorem dX0_run_52 : decode cX0_run 52 = .ok (.sipush 500, 3) := by decide +kernel
theorem dX0_run_55 : decode cX0_run 55 = .ok (.iload_n 2, 1) := by decide +kernel
theorem dX0_run_56 : decode cX0_run 56 = .ok (.isub, 1) := by decide +kernel
theorem dX0_run_57 : decode cX0_run 57 = .ok (.invokestatic 71, 3) := by decide +kernel
theorem dX0_run_60 : decode cX0_run 60 = .ok (.istore 5, 2) := by decide +kernel
theorem dX0_run_62 : decode cX0_run 62 = .ok (.aload_n 1, 1) := by decide +kernel
theorem dX0_run_63 : decode cX0_run 63 = .ok (.aload_n 0, 1) := by decide +kernel
theorem dX0_run_64 : decode cX0_run 64 = .ok (.getfield 9, 3) := by decide +kernel
theorem dX0_run_67 : decode cX0_run 67 = .ok (.iload_n 3, 1) := by decide +kernel
theorem dX0_run_68 : decode cX0_run 68 = .ok (.iaload, 1) := by decide +kernel
theorem dX0_run_69 : decode cX0_run 69 = .ok (.iload 5, 2) := by decide +kernel
theorem dX0_run_71 : decode cX0_run 71 = .ok (.invokestatic 90, 3) := by decide +kernel
theorem dX0_run_74 : decode cX0_run 74 = .ok (.istore 6, 2) := by decide +kernel
theorem dX0_run_76 : decode cX0_run 76 = .ok (.iload_n 2, 1) := by decide +kernel
theorem dX0_run_77 : decode cX0_run 77 = .ok (.iload 6, 2) := by decide +kernel
theorem dX0_run_79 : decode cX0_run 79 = .ok (.iadd, 1) := by decide +kernel
theorem dX0_run_80 : decode cX0_run 80 = .ok (.istore_n 2, 1) := by decide +kernel
theorem dX0_run_81 : decode cX0_run 81 = .ok (.iload 6, 2) := by decide +kernel
theorem dX0_run_83 : decode cX0_run 83 = .ok (.aload_n 0, 1) := by decide +kernel
theorem dX0_run_84 : decode cX0_run 84 = .ok (.getfield 13, 3) := by decide +kernel
theorem dX0_run_87 : decode cX0_run 87 = .ok (.iload_n 3, 1) := by decide +kernel
theorem dX0_run_88 : decode cX0_run 88 = .ok (.iaload, 1) := by decide +kernel
theorem dX0_run_89 : decode cX0_run 89 = .ok (.if_icmp .ge 5, 3) := by decide +kernel
theorem dX0_run_92 : decode cX0_run 92 = .ok (.iload_n 2, 1) := by decide +kernel
theorem dX0_run_93 : decode cX0_run 93 = .ok (.ireturn, 1) := by decide +kernel
theorem dX0_run_94 : decode cX0_run 94 = .ok (.iinc 3 1, 3) := by decide +kernel
theorem dX0_run_97 : decode cX0_run 97 = .ok (.iinc 4 1, 3) := by decide +kernel
theorem dX0_run_100 : decode cX0_run 100 = .ok (.goto (-93), 3) := by decide +kernel
theorem dX0_run_103 : decode cX0_run 103 = .ok (.iload_n 2, 1) := by decide +kernel
theorem dX0_run_104 : decode cX0_run 104 = .ok (.ireturn, 1) := by decide +kernel
theorem dX0_afterBracket_0 : decode cX0_afterBracket 0 = .ok (.aload_n 0, 1) := by decide +kernel
theorem dX0_afterBracket_1 : decode cX0_afterBracket 1 = .ok (.getfield 19, 3) := by decide +kernel
theorem dX0_afterBracket_4 : decode cX0_afterBracket 4 = .ok (.iload_n 1, 1) := by decide +kernel
theorem dX0_afterBracket_5 : decode cX0_afterBracket 5 = .ok (.dup2, 1) := by decide +kernel
theorem dX0_afterBracket_6 : decode cX0_afterBracket 6 = .ok (.iaload, 1) := by decide +kernel
theorem dX0_afterBracket_7 : decode cX0_afterBracket 7 = .ok (.iconst 1, 1) := by decide +kernel
theorem dX0_afterBracket_8 : decode cX0_afterBracket 8 = .ok (.iadd, 1) := by decide +kernel
theorem dX0_afterBracket_9 : decode cX0_afterBracket 9 = .ok (.iastore, 1) := by decide +kernel
theorem dX0_afterBracket_10 : decode cX0_afterBracket 10 = .ok (.aload_n 0, 1) := by decide +kernel
theorem dX0_afterBracket_11 : decode cX0_afterBracket 11 = .ok (.getfield 19, 3) := by decide +kernel
theorem dX0_afterBracket_14 : decode cX0_afterBracket 14 = .ok (.iload_n 1, 1) := by decide +kernel
theorem dX0_afterBracket_15 : decode cX0_afterBracket 15 = .ok (.iaload, 1) := by decide +kernel
theorem dX0_afterBracket_16 : decode cX0_afterBracket 16 = .ok (.aload_n 0, 1) := by decide +kernel
theorem dX0_afterBracket_17 : decode cX0_afterBracket 17 = .ok (.getfield 13, 3) := by decide +kernel
theorem dX0_afterBracket_20 : decode cX0_afterBracket 20 = .ok (.iload_n 1, 1) := by decide +kernel
theorem dX0_afterBracket_21 : decode cX0_afterBracket 21 = .ok (.iaload, 1) := by decide +kernel
theorem dX0_afterBracket_22 : decode cX0_afterBracket 22 = .ok (.if_icmp .ge 10, 3) := by decide +kernel
theorem dX0_afterBracket_25 : decode cX0_afterBracket 25 = .ok (.aload_n 0, 1) := by decide +kernel
theorem dX0_afterBracket_26 : decode cX0_afterBracket 26 = .ok (.getfield 16, 3) := by decide +kernel
theorem dX0_afterBracket_29 : decode cX0_afterBracket 29 = .ok (.iload_n 1, 1) := by decide +kernel
theorem dX0_afterBracket_30 : decode cX0_afterBracket 30 = .ok (.iaload, 1) := by decide +kernel
theorem dX0_afterBracket_31 : decode cX0_afterBracket 31 = .ok (.ireturn, 1) := by decide +kernel
theorem dX0_afterBracket_32 : decode cX0_afterBracket 32 = .ok (.aload_n 0, 1) := by decide +kernel
theorem dX0_afterBracket_33 : decode cX0_afterBracket 33 = .ok (.getfield 19, 3) := by decide +kernel
theorem dX0_afterBracket_36 : decode cX0_afterBracket 36 = .ok (.iload_n 1, 1) := by decide +kernel
theorem dX0_afterBracket_37 : decode cX0_afterBracket 37 = .ok (.iconst 0, 1) := by decide +kernel
theorem dX0_afterBracket_38 : decode cX0_afterBracket 38 = .ok (.iastore, 1) := by decide +kernel
theorem dX0_afterBracket_39 : decode cX0_afterBracket 39 = .ok (.iload_n 1, 1) := by decide +kernel
theorem dX0_afterBracket_40 : decode cX0_afterBracket 40 = .ok (.iconst 1, 1) := by decide +kernel
theorem dX0_afterBracket_41 : decode cX0_afterBracket 41 = .ok (.iadd, 1) := by decide +kernel
theorem dX0_afterBracket_42 : decode cX0_afterBracket 42 = .ok (.ireturn, 1) := by decide +kernel
theorem dX0_doOften_0 : decode cX0_doOften 0 = .ok (.iconst 0, 1) := by decide +kernel
theorem dX0_doOften_1 : decode cX0_doOften 1 = .ok (.istore_n 3, 1) := by decide +kernel
theorem dX0_doOften_2 : decode cX0_doOften 2 = .ok (.iload_n 3, 1) := by decide +kernel
theorem dX0_doOften_3 : decode cX0_doOften 3 = .ok (.iload_n 2, 1) := by decide +kernel
theorem dX0_doOften_4 : decode cX0_doOften 4 = .ok (.if_icmp .ge 17, 3) := by decide +kernel
theorem dX0_doOften_7 : decode cX0_doOften 7 = .ok (.aload_n 0, 1) := by decide +kernel
theorem dX0_doOften_8 : decode cX0_doOften 8 = .ok (.iload_n 1, 1) := by decide +kernel
theorem dX0_doOften_9 : decode cX0_doOften 9 = .ok (.invokestatic 94, 3) := by decide +kernel
theorem dX0_doOften_12 : decode cX0_doOften 12 = .ok (.ifCond .eq 9, 3) := by decide +kernel
theorem dX0_doOften_15 : decode cX0_doOften 15 = .ok (.iinc 3 1, 3) := by decide +kernel
theorem dX0_doOften_18 : decode cX0_doOften 18 = .ok (.goto (-16), 3) := by decide +kernel
theorem dX0_doOften_21 : decode cX0_doOften 21 = .ok (.iload_n 3, 1) := by decide +kernel
theorem dX0_doOften_22 : decode cX0_doOften 22 = .ok (.ireturn, 1) := by decide +kernel
theorem dX0_doOnce_0 : decode cX0_doOnce 0 = .ok (.iload_n 1, 1) := by decide +kernel
theorem dX0_doOnce_1 : decode cX0_doOnce 1 = .ok (.lookupswitch 50 #[(108, 35), (114, 40), (117, 45)], 35) := by decide +kernel
theorem dX0_doOnce_36 : decode cX0_doOnce 36 = .ok (.aload_n 0, 1) := by decide +kernel
theorem dX0_doOnce_37 : decode cX0_doOnce 37 = .ok (.invokevirtual 98, 3) := by decide +kernel
theorem dX0_doOnce_40 : decode cX0_doOnce 40 = .ok (.ireturn, 1) := by decide +kernel
theorem dX0_doOnce_41 : decode cX0_doOnce 41 = .ok (.aload_n 0, 1) := by decide +kernel
theorem dX0_doOnce_42 : decode cX0_doOnce 42 = .ok (.invokevirtual 104, 3) := by decide +kernel
theorem dX0_doOnce_45 : decode cX0_doOnce 45 = .ok (.ireturn, 1) := by decide +kernel
theorem dX0_doOnce_46 : decode cX0_doOnce 46 = .ok (.aload_n 0, 1) := by decide +kernel
theorem dX0_doOnce_47 : decode cX0_doOnce 47 = .ok (.invokevirtual 107, 3) := by decide +kernel
theorem dX0_doOnce_50 : decode cX0_doOnce 50 = .ok (.ireturn, 1) := by decide +kernel
theorem dX0_doOnce_51 : decode cX0_doOnce 51 = .ok (.aload_n 0, 1) := by decide +kernel
theorem dX0_doOnce_52 : decode cX0_doOnce 52 = .ok (.invokevirtual 110, 3) := by decide +kernel
theorem dX0_doOnce_55 : decode cX0_doOnce 55 = .ok (.iconst 1, 1) := by decide +kernel
theorem dX0_doOnce_56 : decode cX0_doOnce 56 = .ok (.ireturn, 1) := by decide +kernel
theorem dX1_init_0 : decode cX1_init 0 = .ok (.aload_n 0, 1) := by decide +kernel
theorem dX1_init_1 : decode cX1_init 1 = .ok (.invokespecial 1, 3) := by decide +kernel
theorem dX1_init_4 : decode cX1_init 4 = .ok (.aload_n 0, 1) := by decide +kernel
theorem dX1_init_5 : decode cX1_init 5 = .ok (.ldc2_w 7, 3) := by decide +kernel
theorem dX1_init_8 : decode cX1_init 8 = .ok (.ldc2_w 9, 3) := by decide +kernel
theorem dX1_init_11 : decode cX1_init 11 = .ok (.invokevirtual 11, 3) := by decide +kernel
theorem dX1_init_14 : decode cX1_init 14 = .ok (.return_, 1) := by decide +kernel
theorem dX1_set_0 : decode cX1_set 0 = .ok (.lload_n 1, 1) := by decide +kernel
theorem dX1_set_1 : decode cX1_set 1 = .ok (.lconst 1, 1) := by decide +kernel
theorem dX1_set_2 : decode cX1_set 2 = .ok (.lcmp, 1) := by decide +kernel
theorem dX1_set_3 : decode cX1_set 3 = .ok (.ifCond .ge 4, 3) := by decide +kernel
theorem dX1_set_6 : decode cX1_set 6 = .ok (.return_, 1) := by decide +kernel
theorem dX1_set_7 : decode cX1_set 7 = .ok (.lload_n 3, 1) := by decide +kernel
theorem dX1_set_8 : decode cX1_set 8 = .ok (.lload_n 3, 1) := by decide +kernel
theorem dX1_set_9 : decode cX1_set 9 = .ok (.lmul, 1) := by decide +kernel
theorem dX1_set_10 : decode cX1_set 10 = .ok (.lconst 1, 1) := by decide +kernel
theorem dX1_set_11 : decode cX1_set 11 = .ok (.ladd, 1) := by decide +kernel
theorem dX1_set_12 : decode cX1_set 12 = .ok (.lload_n 1, 1) := by decide +kernel
theorem dX1_set_13 : decode cX1_set 13 = .ok (.ldiv, 1) := by decide +kernel
theorem dX1_set_14 : decode cX1_set 14 = .ok (.lstore 5, 2) := by decide +kernel
theorem dX1_set_16 : decode cX1_set 16 = .ok (.aload_n 0, 1) := by decide +kernel
theorem dX1_set_17 : decode cX1_set 17 = .ok (.lload_n 1, 1) := by decide +kernel
theorem dX1_set_18 : decode cX1_set 18 = .ok (.putfield 17, 3) := by decide +kernel
theorem dX1_set_21 : decode cX1_set 21 = .ok (.aload_n 0, 1) := by decide +kernel
theorem dX1_set_22 : decode cX1_set 22 = .ok (.ldc2_w 9, 3) := by decide +kernel
theorem dX1_set_25 : decode cX1_set 25 = .ok (.lload_n 1, 1) := by decide +kernel
theorem dX1_set_26 : decode cX1_set 26 = .ok (.lmul, 1) := by decide +kernel
theorem dX1_set_27 : decode cX1_set 27 = .ok (.ldc2_w 21, 3) := by decide +kernel
theorem dX1_set_30 : decode cX1_set 30 = .ok (.lload_n 3, 1) := by decide +kernel
theorem dX1_set_31 : decode cX1_set 31 = .ok (.lmul, 1) := by decide +kernel
theorem dX1_set_32 : decode cX1_set 32 = .ok (.lsub, 1) := by decide +kernel
theorem dX1_set_33 : decode cX1_set 33 = .ok (.putfield 23, 3) := by decide +kernel
theorem dX1_set_36 : decode cX1_set 36 = .ok (.aload_n 0, 1) := by decide +kernel
theorem dX1_set_37 : decode cX1_set 37 = .ok (.lload 5, 2) := by decide +kernel
theorem dX1_set_39 : decode cX1_set 39 = .ok (.ldc2_w 9, 3) := by decide +kernel
theorem dX1_set_42 : decode cX1_set 42 = .ok (.lload_n 3, 1) := by decide +kernel
theorem dX1_set_43 : decode cX1_set 43 = .ok (.lmul, 1) := by decide +kernel
theorem dX1_set_44 : decode cX1_set 44 = .ok (.lsub, 1) := by decide +kernel
theorem dX1_set_45 : decode cX1_set 45 = .ok (.putfield 26, 3) := by decide +kernel
theorem dX1_set_48 : decode cX1_set 48 = .ok (.aload_n 0, 1) := by decide +kernel
theorem dX1_set_49 : decode cX1_set 49 = .ok (.ldc2_w 29, 3) := by decide +kernel
theorem dX1_set_52 : decode cX1_set 52 = .ok (.lload_n 1, 1) := by decide +kernel
theorem dX1_set_53 : decode cX1_set 53 = .ok (.lmul, 1) := by decide +kernel
theorem dX1_set_54 : decode cX1_set 54 = .ok (.lload_n 1, 1) := by decide +kernel
theorem dX1_set_55 : decode cX1_set 55 = .ok (.lmul, 1) := by decide +kernel
theorem dX1_set_56 : decode cX1_set 56 = .ok (.ldc2_w 31, 3) := by decide +kernel
theorem dX1_set_59 : decode cX1_set 59 = .ok (.lsub, 1) := by decide +kernel
theorem dX1_set_60 : decode cX1_set 60 = .ok (.putfield 33, 3) := by decide +kernel
theorem dX1_set_63 : decode cX1_set 63 = .ok (.aload_n 0, 1) := by decide +kernel
theorem dX1_set_64 : decode cX1_set 64 = .ok (.ldc2_w 9, 3) := by decide +kernel
theorem dX1_set_67 : decode cX1_set 67 = .ok (.lload_n 1, 1) := by decide +kernel
theorem dX1_set_68 : decode cX1_set 68 = .ok (.lmul, 1) := by decide +kernel
theorem dX1_set_69 : decode cX1_set 69 = .ok (.lconst 1, 1) := by decide +kernel
theorem dX1_set_70 : decode cX1_set 70 = .ok (.lsub, 1) := by decide +kernel
theorem dX1_set_71 : decode cX1_set 71 = .ok (.putfield 36, 3) := by decide +kernel
theorem dX1_set_74 : decode cX1_set 74 = .ok (.return_, 1) := by decide +kernel
theorem dX1_coefficient_0 : decode cX1_coefficient 0 = .ok (.iload_n 1, 1) := by decide +kernel
theorem dX1_coefficient_1 : decode cX1_coefficient 1 = .ok (.ifCond .ne 8, 3) := by decide +kernel
theorem dX1_coefficient_4 : decode cX1_coefficient 4 = .ok (.aload_n 0, 1) := by decide +kernel
theorem dX1_coefficient_5 : decode cX1_coefficient 5 = .ok (.getfield 17, 3) := by decide +kernel
theorem dX1_coefficient_8 : decode cX1_coefficient 8 = .ok (.lreturn, 1) := by decide +kernel
theorem dX1_coefficient_9 : decode cX1_coefficient 9 = .ok (.iload_n 1, 1) := by decide +kernel
theorem dX1_coefficient_10 : decode cX1_coefficient 10 = .ok (.iconst 1, 1) := by decide +kernel
theorem dX1_coefficient_11 : decode cX1_coefficient 11 = .ok (.if_icmp .ne 10, 3) := by decide +kernel
theorem dX1_coefficient_14 : decode cX1_coefficient 14 = .ok (.aload_n 0, 1) := by decide +kernel
theorem dX1_coefficient_15 : decode cX1_coefficient 15 = .ok (.getfield 23, 3) := by decide +kernel
theorem dX1_coefficient_18 : decode cX1_coefficient 18 = .ok (.goto 7, 3) := by decide +kernel
theorem dX1_coefficient_21 : decode cX1_coefficient 21 = .ok (.aload_n 0, 1) := by decide +kernel
theorem dX1_coefficient_22 : decode cX1_coefficient 22 = .ok (.getfield 26, 3) := by decide +kernel
theorem dX1_coefficient_25 : decode cX1_coefficient 25 = .ok (.lreturn, 1) := by decide +kernel
theorem dX1_valueAt_0 : decode cX1_valueAt 0 = .ok (.aload_n 0, 1) := by decide +kernel
theorem dX1_valueAt_1 : decode cX1_valueAt 1 = .ok (.getfield 17, 3) := by decide +kernel
theorem dX1_valueAt_4 : decode cX1_valueAt 4 = .ok (.lload_n 1, 1) := by decide +kernel
theorem dX1_valueAt_5 : decode cX1_valueAt 5 = .ok (.lmul, 1) := by decide +kernel
theorem dX1_valueAt_6 : decode cX1_valueAt 6 = .ok (.lload_n 1, 1) := by decide +kernel
theorem dX1_valueAt_7 : decode cX1_valueAt 7 = .ok (.lmul, 1) := by decide +kernel
theorem dX1_valueAt_8 : decode cX1_valueAt 8 = .ok (.aload_n 0, 1) := by decide +kernel
theorem dX1_valueAt_9 : decode cX1_valueAt 9 = .ok (.getfield 23, 3) := by decide +kernel
theorem dX1_valueAt_12 : decode cX1_valueAt 12 = .ok (.lload_n 1, 1) := by decide +kernel
theorem dX1_valueAt_13 : decode cX1_valueAt 13 = .ok (.lmul, 1) := by decide +kernel
theorem dX1_valueAt_14 : decode cX1_valueAt 14 = .ok (.lload_n 3, 1) := by decide +kernel
theorem dX1_valueAt_15 : decode cX1_valueAt 15 = .ok (.lmul, 1) := by decide +kernel
theorem dX1_valueAt_16 : decode cX1_valueAt 16 = .ok (.ladd, 1) := by decide +kernel
theorem dX1_valueAt_17 : decode cX1_valueAt 17 = .ok (.aload_n 0, 1) := by decide +kernel
theorem dX1_valueAt_18 : decode cX1_valueAt 18 = .ok (.getfield 26, 3) := by decide +kernel
theorem dX1_valueAt_21 : decode cX1_valueAt 21 = .ok (.lload_n 3, 1) := by decide +kernel
theorem dX1_valueAt_22 : decode cX1_valueAt 22 = .ok (.lmul, 1) := by decide +kernel
theorem dX1_valueAt_23 : decode cX1_valueAt 23 = .ok (.lload_n 3, 1) := by decide +kernel
theorem dX1_valueAt_24 : decode cX1_valueAt 24 = .ok (.lmul, 1) := by decide +kernel
theorem dX1_valueAt_25 : decode cX1_valueAt 25 = .ok (.ladd, 1) := by decide +kernel
theorem dX1_valueAt_26 : decode cX1_valueAt 26 = .ok (.lreturn, 1) := by decide +kernel
theorem dX1_roundSize_0 : decode cX1_roundSize 0 = .ok (.aload_n 0, 1) := by decide +kernel
theorem dX1_roundSize_1 : decode cX1_roundSize 1 = .ok (.getfield 39, 3) := by decide +kernel
theorem dX1_roundSize_4 : decode cX1_roundSize 4 = .ok (.ireturn, 1) := by decide +kernel
theorem dX1_roundLeast_0 : decode cX1_roundLeast 0 = .ok (.aload_n 0, 1) := by decide +kernel
theorem dX1_roundLeast_1 : decode cX1_roundLeast 1 = .ok (.getfield 43, 3) := by decide +kernel
theorem dX1_roundLeast_4 : decode cX1_roundLeast 4 = .ok (.lreturn, 1) := by decide +kernel
theorem dX1_goRound_0 : decode cX1_goRound 0 = .ok (.aload_n 0, 1) := by decide +kernel
theorem dX1_goRound_1 : decode cX1_goRound 1 = .ok (.getfield 17, 3) := by decide +kernel
theorem dX1_goRound_4 : decode cX1_goRound 4 = .ok (.lstore_n 1, 1) := by decide +kernel
theorem dX1_goRound_5 : decode cX1_goRound 5 = .ok (.aload_n 0, 1) := by decide +kernel
theorem dX1_goRound_6 : decode cX1_goRound 6 = .ok (.getfield 23, 3) := by decide +kernel
theorem dX1_goRound_9 : decode cX1_goRound 9 = .ok (.lstore_n 3, 1) := by decide +kernel
theorem dX1_goRound_10 : decode cX1_goRound 10 = .ok (.aload_n 0, 1) := by decide +kernel
theorem dX1_goRound_11 : decode cX1_goRound 11 = .ok (.iconst 0, 1) := by decide +kernel
theorem dX1_goRound_12 : decode cX1_goRound 12 = .ok (.putfield 39, 3) := by decide +kernel
theorem dX1_goRound_15 : decode cX1_goRound 15 = .ok (.aload_n 0, 1) := by decide +kernel
theorem dX1_goRound_16 : decode cX1_goRound 16 = .ok (.aload_n 0, 1) := by decide +kernel
theorem dX1_goRound_17 : decode cX1_goRound 17 = .ok (.getfield 17, 3) := by decide +kernel
theorem dX1_goRound_20 : decode cX1_goRound 20 = .ok (.invokestatic 46, 3) := by decide +kernel
theorem dX1_goRound_23 : decode cX1_goRound 23 = .ok (.putfield 43, 3) := by decide +kernel
theorem dX1_goRound_26 : decode cX1_goRound 26 = .ok (.iconst 0, 1) := by decide +kernel
theorem dX1_goRound_27 : decode cX1_goRound 27 = .ok (.istore 5, 2) := by decide +kernel
theorem dX1_goRound_29 : decode cX1_goRound 29 = .ok (.iload 5, 2) := by decide +kernel
theorem dX1_goRound_31 : decode cX1_goRound 31 = .ok (.ldc 52, 2) := by decide +kernel
theorem dX1_goRound_33 : decode cX1_goRound 33 = .ok (.if_icmp .ge 60, 3) := by decide +kernel
theorem dX1_goRound_36 : decode cX1_goRound 36 = .ok (.aload_n 0, 1) := by decide +kernel
theorem dX1_goRound_37 : decode cX1_goRound 37 = .ok (.aload_n 0, 1) := by decide +kernel
theorem dX1_goRound_38 : decode cX1_goRound 38 = .ok (.getfield 43, 3) := by decide +kernel
theorem dX1_goRound_41 : decode cX1_goRound 41 = .ok (.aload_n 0, 1) := by decide +kernel
theorem dX1_goRound_42 : decode cX1_goRound 42 = .ok (.getfield 17, 3) := by decide +kernel
theorem dX1_goRound_45 : decode cX1_goRound 45 = .ok (.invokestatic 46, 3) := by decide +kernel
theorem dX1_goRound_48 : decode cX1_goRound 48 = .ok (.invokestatic 53, 3) := by decide +kernel
theorem dX1_goRound_51 : decode cX1_goRound 51 = .ok (.putfield 43, 3) := by decide +kernel
theorem dX1_goRound_54 : decode cX1_goRound 54 = .ok (.aload_n 0, 1) := by decide +kernel
theorem dX1_goRound_55 : decode cX1_goRound 55 = .ok (.invokevirtual 57, 3) := by decide +kernel
theorem dX1_goRound_58 : decode cX1_goRound 58 = .ok (.aload_n 0, 1) := by decide +kernel
theorem dX1_goRound_59 : decode cX1_goRound 59 = .ok (.dup, 1) := by decide +kernel
theorem dX1_goRound_60 : decode cX1_goRound 60 = .ok (.getfield 39, 3) := by decide +kernel
theorem dX1_goRound_63 : decode cX1_goRound 63 = .ok (.iconst 1, 1) := by decide +kernel
theorem dX1_goRound_64 : decode cX1_goRound 64 = .ok (.iadd, 1) := by decide +kernel
theorem dX1_goRound_65 : decode cX1_goRound 65 = .ok (.putfield 39, 3) := by decide +kernel
theorem dX1_goRound_68 : decode cX1_goRound 68 = .ok (.aload_n 0, 1) := by decide +kernel
theorem dX1_goRound_69 : decode cX1_goRound 69 = .ok (.getfield 17, 3) := by decide +kernel
theorem dX1_goRound_72 : decode cX1_goRound 72 = .ok (.lload_n 1, 1) := by decide +kernel
theorem dX1_goRound_73 : decode cX1_goRound 73 = .ok (.lcmp, 1) := by decide +kernel
theorem dX1_goRound_74 : decode cX1_goRound 74 = .ok (.ifCond .ne 13, 3) := by decide +kernel
theorem dX1_goRound_77 : decode cX1_goRound 77 = .ok (.aload_n 0, 1) := by decide +kernel
theorem dX1_goRound_78 : decode cX1_goRound 78 = .ok (.getfield 23, 3) := by decide +kernel
theorem dX1_goRound_81 : decode cX1_goRound 81 = .ok (.lload_n 3, 1) := by decide +kernel
theorem dX1_goRound_82 : decode cX1_goRound 82 = .ok (.lcmp, 1) := by decide +kernel
theorem dX1_goRound_83 : decode cX1_goRound 83 = .ok (.ifCond .ne 4, 3) := by decide +kernel
theorem dX1_goRound_86 : decode cX1_goRound 86 = .ok (.return_, 1) := by decide +kernel
theorem dX1_goRound_87 : decode cX1_goRound 87 = .ok (.iinc 5 1, 3) := by decide +kernel
theorem dX1_goRound_90 : decode cX1_goRound 90 = .ok (.goto (-61), 3) := by decide +kernel
theorem dX1_goRound_93 : decode cX1_goRound 93 = .ok (.return_, 1) := by decide +kernel
theorem dX1_goToNext_0 : decode cX1_goToNext 0 = .ok (.ldc2_w 21, 3) := by decide +kernel
theorem dX1_goToNext_3 : decode cX1_goToNext 3 = .ok (.aload_n 0, 1) := by decide +kernel
theorem dX1_goToNext_4 : decode cX1_goToNext 4 = .ok (.getfield 26, 3) := by decide +kernel
theorem dX1_goToNext_7 : decode cX1_goToNext 7 = .ok (.invokestatic 46, 3) := by decide +kernel
theorem dX1_goToNext_10 : decode cX1_goToNext 10 = .ok (.lmul, 1) := by decide +kernel
theorem dX1_goToNext_11 : decode cX1_goToNext 11 = .ok (.lstore_n 1, 1) := by decide +kernel
theorem dX1_goToNext_12 : decode cX1_goToNext 12 = .ok (.lload_n 1, 1) := by decide +kernel
theorem dX1_goToNext_13 : decode cX1_goToNext 13 = .ok (.lconst 0, 1) := by decide +kernel
theorem dX1_goToNext_14 : decode cX1_goToNext 14 = .ok (.lcmp, 1) := by decide +kernel
theorem dX1_goToNext_15 : decode cX1_goToNext 15 = .ok (.ifCond .ne 4, 3) := by decide +kernel
theorem dX1_goToNext_18 : decode cX1_goToNext 18 = .ok (.return_, 1) := by decide +kernel
theorem dX1_goToNext_19 : decode cX1_goToNext 19 = .ok (.aload_n 0, 1) := by decide +kernel
theorem dX1_goToNext_20 : decode cX1_goToNext 20 = .ok (.getfield 36, 3) := by decide +kernel
theorem dX1_goToNext_23 : decode cX1_goToNext 23 = .ok (.aload_n 0, 1) := by decide +kernel
theorem dX1_goToNext_24 : decode cX1_goToNext 24 = .ok (.getfield 36, 3) := by decide +kernel
theorem dX1_goToNext_27 : decode cX1_goToNext 27 = .ok (.aload_n 0, 1) := by decide +kernel
theorem dX1_goToNext_28 : decode cX1_goToNext 28 = .ok (.getfield 23, 3) := by decide +kernel
theorem dX1_goToNext_31 : decode cX1_goToNext 31 = .ok (.ladd, 1) := by decide +kernel
theorem dX1_goToNext_32 : decode cX1_goToNext 32 = .ok (.lload_n 1, 1) := by decide +kernel
theorem dX1_goToNext_33 : decode cX1_goToNext 33 = .ok (.invokestatic 60, 3) := by decide +kernel
theorem dX1_goToNext_36 : decode cX1_goToNext 36 = .ok (.lsub, 1) := by decide +kernel
theorem dX1_goToNext_37 : decode cX1_goToNext 37 = .ok (.lstore_n 3, 1) := by decide +kernel
theorem dX1_goToNext_38 : decode cX1_goToNext 38 = .ok (.lload_n 3, 1) := by decide +kernel
theorem dX1_goToNext_39 : decode cX1_goToNext 39 = .ok (.lload_n 3, 1) := by decide +kernel
theorem dX1_goToNext_40 : decode cX1_goToNext 40 = .ok (.lmul, 1) := by decide +kernel
theorem dX1_goToNext_41 : decode cX1_goToNext 41 = .ok (.aload_n 0, 1) := by decide +kernel
theorem dX1_goToNext_42 : decode cX1_goToNext 42 = .ok (.getfield 33, 3) := by decide +kernel
theorem dX1_goToNext_45 : decode cX1_goToNext 45 = .ok (.lsub, 1) := by decide +kernel
theorem dX1_goToNext_46 : decode cX1_goToNext 46 = .ok (.ldc2_w 31, 3) := by decide +kernel
theorem dX1_goToNext_49 : decode cX1_goToNext 49 = .ok (.aload_n 0, 1) := by decide +kernel
theorem dX1_goToNext_50 : decode cX1_goToNext 50 = .ok (.getfield 26, 3) := by decide +kernel
theorem dX1_goToNext_53 : decode cX1_goToNext 53 = .ok (.lmul, 1) := by decide +kernel
theorem dX1_goToNext_54 : decode cX1_goToNext 54 = .ok (.ldiv, 1) := by decide +kernel
theorem dX1_goToNext_55 : decode cX1_goToNext 55 = .ok (.lstore 5, 2) := by decide +kernel
theorem dX1_goToNext_57 : decode cX1_goToNext 57 = .ok (.aload_n 0, 1) := by decide +kernel
theorem dX1_goToNext_58 : decode cX1_goToNext 58 = .ok (.aload_n 0, 1) := by decide +kernel
theorem dX1_goToNext_59 : decode cX1_goToNext 59 = .ok (.getfield 26, 3) := by decide +kernel
theorem dX1_goToNext_62 : decode cX1_goToNext 62 = .ok (.putfield 17, 3) := by decide +kernel
theorem dX1_goToNext_65 : decode cX1_goToNext 65 = .ok (.aload_n 0, 1) := by decide +kernel
theorem dX1_goToNext_66 : decode cX1_goToNext 66 = .ok (.lload_n 3, 1) := by decide +kernel
theorem dX1_goToNext_67 : decode cX1_goToNext 67 = .ok (.putfield 23, 3) := by decide +kernel
theorem dX1_goToNext_70 : decode cX1_goToNext 70 = .ok (.aload_n 0, 1) := by decide +kernel
theorem dX1_goToNext_71 : decode cX1_goToNext 71 = .ok (.lload 5, 2) := by decide +kernel
theorem dX1_goToNext_73 : decode cX1_goToNext 73 = .ok (.putfield 26, 3) := by decide +kernel
theorem dX1_goToNext_76 : decode cX1_goToNext 76 = .ok (.return_, 1) := by decide +kernel
theorem dX2_init_0 : decode cX2_init 0 = .ok (.aload_n 0, 1) := by decide +kernel
theorem dX2_init_1 : decode cX2_init 1 = .ok (.invokespecial 3, 3) := by decide +kernel
theorem dX2_init_4 : decode cX2_init 4 = .ok (.aload_n 0, 1) := by decide +kernel
theorem dX2_init_5 : decode cX2_init 5 = .ok (.bipush 9, 2) := by decide +kernel
theorem dX2_init_7 : decode cX2_init 7 = .ok (.anewarray 11, 3) := by decide +kernel
theorem dX2_init_10 : decode cX2_init 10 = .ok (.putfield 13, 3) := by decide +kernel
theorem dX2_init_13 : decode cX2_init 13 = .ok (.iconst 0, 1) := by decide +kernel
theorem dX2_init_14 : decode cX2_init 14 = .ok (.istore_n 1, 1) := by decide +kernel
theorem dX2_init_15 : decode cX2_init 15 = .ok (.iload_n 1, 1) := by decide +kernel
theorem dX2_init_16 : decode cX2_init 16 = .ok (.bipush 9, 2) := by decide +kernel
theorem dX2_init_18 : decode cX2_init 18 = .ok (.if_icmp .ge 22, 3) := by decide +kernel
theorem dX2_init_21 : decode cX2_init 21 = .ok (.aload_n 0, 1) := by decide +kernel
theorem dX2_init_22 : decode cX2_init 22 = .ok (.getfield 13, 3) := by decide +kernel
theorem dX2_init_25 : decode cX2_init 25 = .ok (.iload_n 1, 1) := by decide +kernel
theorem dX2_init_26 : decode cX2_init 26 = .ok (.new 11, 3) := by decide +kernel
theorem dX2_init_29 : decode cX2_init 29 = .ok (.dup, 1) := by decide +kernel
theorem dX2_init_30 : decode cX2_init 30 = .ok (.invokespecial 17, 3) := by decide +kernel
theorem dX2_init_33 : decode cX2_init 33 = .ok (.aastore, 1) := by decide +kernel
theorem dX2_init_34 : decode cX2_init 34 = .ok (.iinc 1 1, 3) := by decide +kernel
theorem dX2_init_37 : decode cX2_init 37 = .ok (.goto (-22), 3) := by decide +kernel
theorem dX2_init_40 : decode cX2_init 40 = .ok (.aload_n 0, 1) := by decide +kernel
theorem dX2_init_41 : decode cX2_init 41 = .ok (.iconst 0, 1) := by decide +kernel
theorem dX2_init_42 : decode cX2_init 42 = .ok (.putfield 18, 3) := by decide +kernel
theorem dX2_init_45 : decode cX2_init 45 = .ok (.aload_n 0, 1) := by decide +kernel
theorem dX2_init_46 : decode cX2_init 46 = .ok (.iconst 0, 1) := by decide +kernel
theorem dX2_init_47 : decode cX2_init 47 = .ok (.putfield 22, 3) := by decide +kernel
theorem dX2_init_50 : decode cX2_init 50 = .ok (.return_, 1) := by decide +kernel
theorem dX2_size_0 : decode cX2_size 0 = .ok (.aload_n 0, 1) := by decide +kernel
theorem dX2_size_1 : decode cX2_size 1 = .ok (.getfield 22, 3) := by decide +kernel
theorem dX2_size_4 : decode cX2_size 4 = .ok (.ireturn, 1) := by decide +kernel
theorem dX2_note_0 : decode cX2_note 0 = .ok (.aload_n 0, 1) := by decide +kernel
theorem dX2_note_1 : decode cX2_note 1 = .ok (.getfield 13, 3) := by decide +kernel
theorem dX2_note_4 : decode cX2_note 4 = .ok (.aload_n 0, 1) := by decide +kernel
theorem dX2_note_5 : decode cX2_note 5 = .ok (.getfield 18, 3) := by decide +kernel
theorem dX2_note_8 : decode cX2_note 8 = .ok (.aaload, 1) := by decide +kernel
theorem dX2_note_9 : decode cX2_note 9 = .ok (.aload_n 1, 1) := by decide +kernel
theorem dX2_note_10 : decode cX2_note 10 = .ok (.invokevirtual 25, 3) := by decide +kernel
theorem dX2_note_13 : decode cX2_note 13 = .ok (.return_, 1) := by decide +kernel
theorem dX2_keep_0 : decode cX2_keep 0 = .ok (.aload_n 0, 1) := by decide +kernel
theorem dX2_keep_1 : decode cX2_keep 1 = .ok (.aload_n 0, 1) := by decide +kernel
theorem dX2_keep_2 : decode cX2_keep 2 = .ok (.getfield 18, 3) := by decide +kernel
theorem dX2_keep_5 : decode cX2_keep 5 = .ok (.iconst 1, 1) := by decide +kernel
theorem dX2_keep_6 : decode cX2_keep 6 = .ok (.iadd, 1) := by decide +kernel
theorem dX2_keep_7 : decode cX2_keep 7 = .ok (.bipush 9, 2) := by decide +kernel
theorem dX2_keep_9 : decode cX2_keep 9 = .ok (.irem, 1) := by decide +kernel
theorem dX2_keep_10 : decode cX2_keep 10 = .ok (.putfield 18, 3) := by decide +kernel
theorem dX2_keep_13 : decode cX2_keep 13 = .ok (.aload_n 0, 1) := by decide +kernel
theorem dX2_keep_14 : decode cX2_keep 14 = .ok (.aload_n 0, 1) := by decide +kernel
theorem dX2_keep_15 : decode cX2_keep 15 = .ok (.getfield 22, 3) := by decide +kernel
theorem dX2_keep_18 : decode cX2_keep 18 = .ok (.iconst 1, 1) := by decide +kernel
theorem dX2_keep_19 : decode cX2_keep 19 = .ok (.iadd, 1) := by decide +kernel
theorem dX2_keep_20 : decode cX2_keep 20 = .ok (.bipush 8, 2) := by decide +kernel
theorem dX2_keep_22 : decode cX2_keep 22 = .ok (.invokestatic 29, 3) := by decide +kernel
theorem dX2_keep_25 : decode cX2_keep 25 = .ok (.putfield 22, 3) := by decide +kernel
theorem dX2_keep_28 : decode cX2_keep 28 = .ok (.return_, 1) := by decide +kernel
theorem dX2_takeBack_0 : decode cX2_takeBack 0 = .ok (.aload_n 0, 1) := by decide +kernel
theorem dX2_takeBack_1 : decode cX2_takeBack 1 = .ok (.getfield 22, 3) := by decide +kernel
theorem dX2_takeBack_4 : decode cX2_takeBack 4 = .ok (.ifCond .ne 5, 3) := by decide +kernel
theorem dX2_takeBack_7 : decode cX2_takeBack 7 = .ok (.iconst 0, 1) := by decide +kernel
theorem dX2_takeBack_8 : decode cX2_takeBack 8 = .ok (.ireturn, 1) := by decide +kernel
theorem dX2_takeBack_9 : decode cX2_takeBack 9 = .ok (.aload_n 0, 1) := by decide +kernel
theorem dX2_takeBack_10 : decode cX2_takeBack 10 = .ok (.aload_n 0, 1) := by decide +kernel
theorem dX2_takeBack_11 : decode cX2_takeBack 11 = .ok (.getfield 18, 3) := by decide +kernel
theorem dX2_takeBack_14 : decode cX2_takeBack 14 = .ok (.bipush 9, 2) := by decide +kernel
theorem dX2_takeBack_16 : decode cX2_takeBack 16 = .ok (.iadd, 1) := by decide +kernel
theorem dX2_takeBack_17 : decode cX2_takeBack 17 = .ok (.iconst 1, 1) := by decide +kernel
theorem dX2_takeBack_18 : decode cX2_takeBack 18 = .ok (.isub, 1) := by decide +kernel
theorem dX2_takeBack_19 : decode cX2_takeBack 19 = .ok (.bipush 9, 2) := by decide +kernel
theorem dX2_takeBack_21 : decode cX2_takeBack 21 = .ok (.irem, 1) := by decide +kernel
theorem dX2_takeBack_22 : decode cX2_takeBack 22 = .ok (.putfield 18, 3) := by decide +kernel
theorem dX2_takeBack_25 : decode cX2_takeBack 25 = .ok (.aload_n 0, 1) := by decide +kernel
theorem dX2_takeBack_26 : decode cX2_takeBack 26 = .ok (.dup, 1) := by decide +kernel
theorem dX2_takeBack_27 : decode cX2_takeBack 27 = .ok (.getfield 22, 3) := by decide +kernel
theorem dX2_takeBack_30 : decode cX2_takeBack 30 = .ok (.iconst 1, 1) := by decide +kernel
theorem dX2_takeBack_31 : decode cX2_takeBack 31 = .ok (.isub, 1) := by decide +kernel
theorem dX2_takeBack_32 : decode cX2_takeBack 32 = .ok (.putfield 22, 3) := by decide +kernel
theorem dX2_takeBack_35 : decode cX2_takeBack 35 = .ok (.aload_n 1, 1) := by decide +kernel
theorem dX2_takeBack_36 : decode cX2_takeBack 36 = .ok (.aload_n 0, 1) := by decide +kernel
theorem dX2_takeBack_37 : decode cX2_takeBack 37 = .ok (.getfield 13, 3) := by decide +kernel
theorem dX2_takeBack_40 : decode cX2_takeBack 40 = .ok (.aload_n 0, 1) := by decide +kernel
theorem dX2_takeBack_41 : decode cX2_takeBack 41 = .ok (.getfield 18, 3) := by decide +kernel
theorem dX2_takeBack_44 : decode cX2_takeBack 44 = .ok (.aaload, 1) := by decide +kernel
theorem dX2_takeBack_45 : decode cX2_takeBack 45 = .ok (.invokevirtual 25, 3) := by decide +kernel
theorem dX2_takeBack_48 : decode cX2_takeBack 48 = .ok (.iconst 1, 1) := by decide +kernel
theorem dX2_takeBack_49 : decode cX2_takeBack 49 = .ok (.ireturn, 1) := by decide +kernel
theorem dX2_forget_0 : decode cX2_forget 0 = .ok (.aload_n 0, 1) := by decide +kernel
theorem dX2_forget_1 : decode cX2_forget 1 = .ok (.iconst 0, 1) := by decide +kernel
theorem dX2_forget_2 : decode cX2_forget 2 = .ok (.putfield 22, 3) := by decide +kernel
theorem dX2_forget_5 : decode cX2_forget 5 = .ok (.return_, 1) := by decide +kernel
theorem dX3_init_0 : decode cX3_init 0 = .ok (.aload_n 0, 1) := by decide +kernel
theorem dX3_init_1 : decode cX3_init 1 = .ok (.invokespecial 3, 3) := by decide +kernel
theorem dX3_init_4 : decode cX3_init 4 = .ok (.aload_n 0, 1) := by decide +kernel
theorem dX3_init_5 : decode cX3_init 5 = .ok (.bipush 16, 2) := by decide +kernel
theorem dX3_init_7 : decode cX3_init 7 = .ok (.newarray .long, 2) := by decide +kernel
theorem dX3_init_9 : decode cX3_init 9 = .ok (.putfield 9, 3) := by decide +kernel
theorem dX3_init_12 : decode cX3_init 12 = .ok (.aload_n 0, 1) := by decide +kernel
theorem dX3_init_13 : decode cX3_init 13 = .ok (.bipush 16, 2) := by decide +kernel
theorem dX3_init_15 : decode cX3_init 15 = .ok (.newarray .int, 2) := by decide +kernel
theorem dX3_init_17 : decode cX3_init 17 = .ok (.putfield 15, 3) := by decide +kernel
theorem dX3_init_20 : decode cX3_init 20 = .ok (.aload_n 0, 1) := by decide +kernel
theorem dX3_init_21 : decode cX3_init 21 = .ok (.bipush 16, 2) := by decide +kernel
theorem dX3_init_23 : decode cX3_init 23 = .ok (.newarray .int, 2) := by decide +kernel
theorem dX3_init_25 : decode cX3_init 25 = .ok (.putfield 19, 3) := by decide +kernel
theorem dX3_init_28 : decode cX3_init 28 = .ok (.aload_n 0, 1) := by decide +kernel
theorem dX3_init_29 : decode cX3_init 29 = .ok (.iconst 0, 1) := by decide +kernel
theorem dX3_init_30 : decode cX3_init 30 = .ok (.putfield 22, 3) := by decide +kernel
theorem dX3_init_33 : decode cX3_init 33 = .ok (.return_, 1) := by decide +kernel
theorem dX3_copyFrom_0 : decode cX3_copyFrom 0 = .ok (.aload_n 0, 1) := by decide +kernel
theorem dX3_copyFrom_1 : decode cX3_copyFrom 1 = .ok (.aload_n 1, 1) := by decide +kernel
theorem dX3_copyFrom_2 : decode cX3_copyFrom 2 = .ok (.getfield 22, 3) := by decide +kernel
theorem dX3_copyFrom_5 : decode cX3_copyFrom 5 = .ok (.putfield 22, 3) := by decide +kernel
theorem dX3_copyFrom_8 : decode cX3_copyFrom 8 = .ok (.iconst 0, 1) := by decide +kernel
theorem dX3_copyFrom_9 : decode cX3_copyFrom 9 = .ok (.istore_n 2, 1) := by decide +kernel
theorem dX3_copyFrom_10 : decode cX3_copyFrom 10 = .ok (.iload_n 2, 1) := by decide +kernel
theorem dX3_copyFrom_11 : decode cX3_copyFrom 11 = .ok (.aload_n 0, 1) := by decide +kernel
theorem dX3_copyFrom_12 : decode cX3_copyFrom 12 = .ok (.getfield 22, 3) := by decide +kernel
theorem dX3_copyFrom_15 : decode cX3_copyFrom 15 = .ok (.if_icmp .ge 16, 3) := by decide +kernel
theorem dX3_copyFrom_18 : decode cX3_copyFrom 18 = .ok (.aload_n 0, 1) := by decide +kernel
theorem dX3_copyFrom_19 : decode cX3_copyFrom 19 = .ok (.aload_n 1, 1) := by decide +kernel
theorem dX3_copyFrom_20 : decode cX3_copyFrom 20 = .ok (.iload_n 2, 1) := by decide +kernel
theorem dX3_copyFrom_21 : decode cX3_copyFrom 21 = .ok (.iload_n 2, 1) := by decide +kernel
theorem dX3_copyFrom_22 : decode cX3_copyFrom 22 = .ok (.invokevirtual 26, 3) := by decide +kernel
theorem dX3_copyFrom_25 : decode cX3_copyFrom 25 = .ok (.iinc 2 1, 3) := by decide +kernel
theorem dX3_copyFrom_28 : decode cX3_copyFrom 28 = .ok (.goto (-18), 3) := by decide +kernel
theorem dX3_copyFrom_31 : decode cX3_copyFrom 31 = .ok (.return_, 1) := by decide +kernel
theorem dX3_copyRow_0 : decode cX3_copyRow 0 = .ok (.aload_n 0, 1) := by decide +kernel
theorem dX3_copyRow_1 : decode cX3_copyRow 1 = .ok (.getfield 9, 3) := by decide +kernel
theorem dX3_copyRow_4 : decode cX3_copyRow 4 = .ok (.iload_n 3, 1) := by decide +kernel
theorem dX3_copyRow_5 : decode cX3_copyRow 5 = .ok (.aload_n 1, 1) := by decide +kernel
theorem dX3_copyRow_6 : decode cX3_copyRow 6 = .ok (.getfield 9, 3) := by decide +kernel
theorem dX3_copyRow_9 : decode cX3_copyRow 9 = .ok (.iload_n 2, 1) := by decide +kernel
theorem dX3_copyRow_10 : decode cX3_copyRow 10 = .ok (.laload, 1) := by decide +kernel
theorem dX3_copyRow_11 : decode cX3_copyRow 11 = .ok (.lastore, 1) := by decide +kernel
theorem dX3_copyRow_12 : decode cX3_copyRow 12 = .ok (.aload_n 0, 1) := by decide +kernel
theorem dX3_copyRow_13 : decode cX3_copyRow 13 = .ok (.getfield 15, 3) := by decide +kernel
theorem dX3_copyRow_16 : decode cX3_copyRow 16 = .ok (.iload_n 3, 1) := by decide +kernel
theorem dX3_copyRow_17 : decode cX3_copyRow 17 = .ok (.aload_n 1, 1) := by decide +kernel
theorem dX3_copyRow_18 : decode cX3_copyRow 18 = .ok (.getfield 15, 3) := by decide +kernel
theorem dX3_copyRow_21 : decode cX3_copyRow 21 = .ok (.iload_n 2, 1) := by decide +kernel
theorem dX3_copyRow_22 : decode cX3_copyRow 22 = .ok (.iaload, 1) := by decide +kernel
theorem dX3_copyRow_23 : decode cX3_copyRow 23 = .ok (.iastore, 1) := by decide +kernel
theorem dX3_copyRow_24 : decode cX3_copyRow 24 = .ok (.aload_n 0, 1) := by decide +kernel
theorem dX3_copyRow_25 : decode cX3_copyRow 25 = .ok (.getfield 19, 3) := by decide +kernel
theorem dX3_copyRow_28 : decode cX3_copyRow 28 = .ok (.iload_n 3, 1) := by decide +kernel
theorem dX3_copyRow_29 : decode cX3_copyRow 29 = .ok (.aload_n 1, 1) := by decide +kernel
theorem dX3_copyRow_30 : decode cX3_copyRow 30 = .ok (.getfield 19, 3) := by decide +kernel
theorem dX3_copyRow_33 : decode cX3_copyRow 33 = .ok (.iload_n 2, 1) := by decide +kernel
theorem dX3_copyRow_34 : decode cX3_copyRow 34 = .ok (.iaload, 1) := by decide +kernel
theorem dX3_copyRow_35 : decode cX3_copyRow 35 = .ok (.iastore, 1) := by decide +kernel
theorem dX3_copyRow_36 : decode cX3_copyRow 36 = .ok (.return_, 1) := by decide +kernel
theorem dX3_size_0 : decode cX3_size 0 = .ok (.aload_n 0, 1) := by decide +kernel
theorem dX3_size_1 : decode cX3_size 1 = .ok (.getfield 22, 3) := by decide +kernel
theorem dX3_size_4 : decode cX3_size 4 = .ok (.ireturn, 1) := by decide +kernel
theorem dX3_isFull_0 : decode cX3_isFull 0 = .ok (.aload_n 0, 1) := by decide +kernel
theorem dX3_isFull_1 : decode cX3_isFull 1 = .ok (.getfield 22, 3) := by decide +kernel
theorem dX3_isFull_4 : decode cX3_isFull 4 = .ok (.bipush 16, 2) := by decide +kernel
theorem dX3_isFull_6 : decode cX3_isFull 6 = .ok (.if_icmp .lt 7, 3) := by decide +kernel
theorem dX3_isFull_9 : decode cX3_isFull 9 = .ok (.iconst 1, 1) := by decide +kernel
theorem dX3_isFull_10 : decode cX3_isFull 10 = .ok (.goto 4, 3) := by decide +kernel
theorem dX3_isFull_13 : decode cX3_isFull 13 = .ok (.iconst 0, 1) := by decide +kernel
theorem dX3_isFull_14 : decode cX3_isFull 14 = .ok (.ireturn, 1) := by decide +kernel
theorem dX3_has_0 : decode cX3_has 0 = .ok (.iload_n 1, 1) := by decide +kernel
theorem dX3_has_1 : decode cX3_has 1 = .ok (.ifCond .lt 15, 3) := by decide +kernel
theorem dX3_has_4 : decode cX3_has 4 = .ok (.iload_n 1, 1) := by decide +kernel
theorem dX3_has_5 : decode cX3_has 5 = .ok (.aload_n 0, 1) := by decide +kernel
theorem dX3_has_6 : decode cX3_has 6 = .ok (.getfield 22, 3) := by decide +kernel
theorem dX3_has_9 : decode cX3_has 9 = .ok (.if_icmp .ge 7, 3) := by decide +kernel
theorem dX3_has_12 : decode cX3_has 12 = .ok (.iconst 1, 1) := by decide +kernel
theorem dX3_has_13 : decode cX3_has 13 = .ok (.goto 4, 3) := by decide +kernel
theorem dX3_has_16 : decode cX3_has 16 = .ok (.iconst 0, 1) := by decide +kernel
theorem dX3_has_17 : decode cX3_has 17 = .ok (.ireturn, 1) := by decide +kernel
theorem dX3_numberAt_0 : decode cX3_numberAt 0 = .ok (.aload_n 0, 1) := by decide +kernel
theorem dX3_numberAt_1 : decode cX3_numberAt 1 = .ok (.iload_n 1, 1) := by decide +kernel
theorem dX3_numberAt_2 : decode cX3_numberAt 2 = .ok (.invokevirtual 30, 3) := by decide +kernel
theorem dX3_numberAt_5 : decode cX3_numberAt 5 = .ok (.ifCond .eq 12, 3) := by decide +kernel
theorem dX3_numberAt_8 : decode cX3_numberAt 8 = .ok (.aload_n 0, 1) := by decide +kernel
theorem dX3_numberAt_9 : decode cX3_numberAt 9 = .ok (.getfield 9, 3) := by decide +kernel
theorem dX3_numberAt_12 : decode cX3_numberAt 12 = .ok (.iload_n 1, 1) := by decide +kernel
theorem dX3_numberAt_13 : decode cX3_numberAt 13 = .ok (.laload, 1) := by decide +kernel
theorem dX3_numberAt_14 : decode cX3_numberAt 14 = .ok (.goto 6, 3) := by decide +kernel
theorem dX3_numberAt_17 : decode cX3_numberAt 17 = .ok (.ldc2_w 34, 3) := by decide +kernel
theorem dX3_numberAt_20 : decode cX3_numberAt 20 = .ok (.lreturn, 1) := by decide +kernel
theorem dX3_pAt_0 : decode cX3_pAt 0 = .ok (.aload_n 0, 1) := by decide +kernel
theorem dX3_pAt_1 : decode cX3_pAt 1 = .ok (.iload_n 1, 1) := by decide +kernel
theorem dX3_pAt_2 : decode cX3_pAt 2 = .ok (.invokevirtual 30, 3) := by decide +kernel
theorem dX3_pAt_5 : decode cX3_pAt 5 = .ok (.ifCond .eq 12, 3) := by decide +kernel
theorem dX3_pAt_8 : decode cX3_pAt 8 = .ok (.aload_n 0, 1) := by decide +kernel
theorem dX3_pAt_9 : decode cX3_pAt 9 = .ok (.getfield 15, 3) := by decide +kernel
theorem dX3_pAt_12 : decode cX3_pAt 12 = .ok (.iload_n 1, 1) := by decide +kernel
theorem dX3_pAt_13 : decode cX3_pAt 13 = .ok (.iaload, 1) := by decide +kernel
theorem dX3_pAt_14 : decode cX3_pAt 14 = .ok (.goto 4, 3) := by decide +kernel
theorem dX3_pAt_17 : decode cX3_pAt 17 = .ok (.iconst (-1), 1) := by decide +kernel
theorem dX3_pAt_18 : decode cX3_pAt 18 = .ok (.ireturn, 1) := by decide +kernel
theorem dX3_qAt_0 : decode cX3_qAt 0 = .ok (.aload_n 0, 1) := by decide +kernel
theorem dX3_qAt_1 : decode cX3_qAt 1 = .ok (.iload_n 1, 1) := by decide +kernel
theorem dX3_qAt_2 : decode cX3_qAt 2 = .ok (.invokevirtual 30, 3) := by decide +kernel
theorem dX3_qAt_5 : decode cX3_qAt 5 = .ok (.ifCond .eq 12, 3) := by decide +kernel
theorem dX3_qAt_8 : decode cX3_qAt 8 = .ok (.aload_n 0, 1) := by decide +kernel
theorem dX3_qAt_9 : decode cX3_qAt 9 = .ok (.getfield 19, 3) := by decide +kernel
theorem dX3_qAt_12 : decode cX3_qAt 12 = .ok (.iload_n 1, 1) := by decide +kernel
theorem dX3_qAt_13 : decode cX3_qAt 13 = .ok (.iaload, 1) := by decide +kernel
theorem dX3_qAt_14 : decode cX3_qAt 14 = .ok (.goto 4, 3) := by decide +kernel
theorem dX3_qAt_17 : decode cX3_qAt 17 = .ok (.iconst (-1), 1) := by decide +kernel
theorem dX3_qAt_18 : decode cX3_qAt 18 = .ok (.ireturn, 1) := by decide +kernel
theorem dX3_indexOf_0 : decode cX3_indexOf 0 = .ok (.iconst 0, 1) := by decide +kernel
theorem dX3_indexOf_1 : decode cX3_indexOf 1 = .ok (.istore_n 3, 1) := by decide +kernel
theorem dX3_indexOf_2 : decode cX3_indexOf 2 = .ok (.iload_n 3, 1) := by decide +kernel
theorem dX3_indexOf_3 : decode cX3_indexOf 3 = .ok (.aload_n 0, 1) := by decide +kernel
theorem dX3_indexOf_4 : decode cX3_indexOf 4 = .ok (.getfield 22, 3) := by decide +kernel
theorem dX3_indexOf_7 : decode cX3_indexOf 7 = .ok (.if_icmp .ge 31, 3) := by decide +kernel
theorem dX3_indexOf_10 : decode cX3_indexOf 10 = .ok (.aload_n 0, 1) := by decide +kernel
theorem dX3_indexOf_11 : decode cX3_indexOf 11 = .ok (.getfield 15, 3) := by decide +kernel
theorem dX3_indexOf_14 : decode cX3_indexOf 14 = .ok (.iload_n 3, 1) := by decide +kernel
theorem dX3_indexOf_15 : decode cX3_indexOf 15 = .ok (.iaload, 1) := by decide +kernel
theorem dX3_indexOf_16 : decode cX3_indexOf 16 = .ok (.iload_n 1, 1) := by decide +kernel
theorem dX3_indexOf_17 : decode cX3_indexOf 17 = .ok (.if_icmp .ne 15, 3) := by decide +kernel
theorem dX3_indexOf_20 : decode cX3_indexOf 20 = .ok (.aload_n 0, 1) := by decide +kernel
theorem dX3_indexOf_21 : decode cX3_indexOf 21 = .ok (.getfield 19, 3) := by decide +kernel
theorem dX3_indexOf_24 : decode cX3_indexOf 24 = .ok (.iload_n 3, 1) := by decide +kernel
theorem dX3_indexOf_25 : decode cX3_indexOf 25 = .ok (.iaload, 1) := by decide +kernel
theorem dX3_indexOf_26 : decode cX3_indexOf 26 = .ok (.iload_n 2, 1) := by decide +kernel
theorem dX3_indexOf_27 : decode cX3_indexOf 27 = .ok (.if_icmp .ne 5, 3) := by decide +kernel
theorem dX3_indexOf_30 : decode cX3_indexOf 30 = .ok (.iload_n 3, 1) := by decide +kernel
theorem dX3_indexOf_31 : decode cX3_indexOf 31 = .ok (.ireturn, 1) := by decide +kernel
theorem dX3_indexOf_32 : decode cX3_indexOf 32 = .ok (.iinc 3 1, 3) := by decide +kernel
theorem dX3_indexOf_35 : decode cX3_indexOf 35 = .ok (.goto (-33), 3) := by decide +kernel
theorem dX3_indexOf_38 : decode cX3_indexOf 38 = .ok (.iconst (-1), 1) := by decide +kernel
theorem dX3_indexOf_39 : decode cX3_indexOf 39 = .ok (.ireturn, 1) := by decide +kernel
theorem dX3_put_0 : decode cX3_put 0 = .ok (.aload_n 0, 1) := by decide +kernel
theorem dX3_put_1 : decode cX3_put 1 = .ok (.invokevirtual 36, 3) := by decide +kernel
theorem dX3_put_4 : decode cX3_put 4 = .ok (.ifCond .eq 4, 3) := by decide +kernel
theorem dX3_put_7 : decode cX3_put 7 = .ok (.return_, 1) := by decide +kernel
theorem dX3_put_8 : decode cX3_put 8 = .ok (.aload_n 0, 1) := by decide +kernel
theorem dX3_put_9 : decode cX3_put 9 = .ok (.getfield 22, 3) := by decide +kernel
theorem dX3_put_12 : decode cX3_put 12 = .ok (.istore 5, 2) := by decide +kernel
theorem dX3_put_14 : decode cX3_put 14 = .ok (.iload 5, 2) := by decide +kernel
theorem dX3_put_16 : decode cX3_put 16 = .ok (.ifCond .le 34, 3) := by decide +kernel
theorem dX3_put_19 : decode cX3_put 19 = .ok (.aload_n 0, 1) := by decide +kernel
theorem dX3_put_20 : decode cX3_put 20 = .ok (.getfield 9, 3) := by decide +kernel
theorem dX3_put_23 : decode cX3_put 23 = .ok (.iload 5, 2) := by decide +kernel
theorem dX3_put_25 : decode cX3_put 25 = .ok (.iconst 1, 1) := by decide +kernel
theorem dX3_put_26 : decode cX3_put 26 = .ok (.isub, 1) := by decide +kernel
theorem dX3_put_27 : decode cX3_put 27 = .ok (.laload, 1) := by decide +kernel
theorem dX3_put_28 : decode cX3_put 28 = .ok (.lload_n 1, 1) := by decide +kernel
theorem dX3_put_29 : decode cX3_put 29 = .ok (.lcmp, 1) := by decide +kernel
theorem dX3_put_30 : decode cX3_put 30 = .ok (.ifCond .le 20, 3) := by decide +kernel
theorem dX3_put_33 : decode cX3_put 33 = .ok (.aload_n 0, 1) := by decide +kernel
theorem dX3_put_34 : decode cX3_put 34 = .ok (.aload_n 0, 1) := by decide +kernel
theorem dX3_put_35 : decode cX3_put 35 = .ok (.iload 5, 2) := by decide +kernel
theorem dX3_put_37 : decode cX3_put 37 = .ok (.iconst 1, 1) := by decide +kernel
theorem dX3_put_38 : decode cX3_put 38 = .ok (.isub, 1) := by decide +kernel
theorem dX3_put_39 : decode cX3_put 39 = .ok (.iload 5, 2) := by decide +kernel
theorem dX3_put_41 : decode cX3_put 41 = .ok (.invokevirtual 26, 3) := by decide +kernel
theorem dX3_put_44 : decode cX3_put 44 = .ok (.iinc 5 (-1), 3) := by decide +kernel
theorem dX3_put_47 : decode cX3_put 47 = .ok (.goto (-33), 3) := by decide +kernel
theorem dX3_put_50 : decode cX3_put 50 = .ok (.aload_n 0, 1) := by decide +kernel
theorem dX3_put_51 : decode cX3_put 51 = .ok (.getfield 9, 3) := by decide +kernel
theorem dX3_put_54 : decode cX3_put 54 = .ok (.iload 5, 2) := by decide +kernel
theorem dX3_put_56 : decode cX3_put 56 = .ok (.lload_n 1, 1) := by decide +kernel
theorem dX3_put_57 : decode cX3_put 57 = .ok (.lastore, 1) := by decide +kernel
theorem dX3_put_58 : decode cX3_put 58 = .ok (.aload_n 0, 1) := by decide +kernel
theorem dX3_put_59 : decode cX3_put 59 = .ok (.getfield 15, 3) := by decide +kernel
theorem dX3_put_62 : decode cX3_put 62 = .ok (.iload 5, 2) := by decide +kernel
theorem dX3_put_64 : decode cX3_put 64 = .ok (.iload_n 3, 1) := by decide +kernel
theorem dX3_put_65 : decode cX3_put 65 = .ok (.iastore, 1) := by decide +kernel
theorem dX3_put_66 : decode cX3_put 66 = .ok (.aload_n 0, 1) := by decide +kernel
theorem dX3_put_67 : decode cX3_put 67 = .ok (.getfield 19, 3) := by decide +kernel
theorem dX3_put_70 : decode cX3_put 70 = .ok (.iload 5, 2) := by decide +kernel
theorem dX3_put_72 : decode cX3_put 72 = .ok (.iload 4, 2) := by decide +kernel
theorem dX3_put_74 : decode cX3_put 74 = .ok (.iastore, 1) := by decide +kernel
theorem dX3_put_75 : decode cX3_put 75 = .ok (.aload_n 0, 1) := by decide +kernel
theorem dX3_put_76 : decode cX3_put 76 = .ok (.dup, 1) := by decide +kernel
theorem dX3_put_77 : decode cX3_put 77 = .ok (.getfield 22, 3) := by decide +kernel
theorem dX3_put_80 : decode cX3_put 80 = .ok (.iconst 1, 1) := by decide +kernel
theorem dX3_put_81 : decode cX3_put 81 = .ok (.iadd, 1) := by decide +kernel
theorem dX3_put_82 : decode cX3_put 82 = .ok (.putfield 22, 3) := by decide +kernel
theorem dX3_put_85 : decode cX3_put 85 = .ok (.return_, 1) := by decide +kernel
theorem dX3_drop_0 : decode cX3_drop 0 = .ok (.aload_n 0, 1) := by decide +kernel
theorem dX3_drop_1 : decode cX3_drop 1 = .ok (.iload_n 1, 1) := by decide +kernel
theorem dX3_drop_2 : decode cX3_drop 2 = .ok (.invokevirtual 30, 3) := by decide +kernel
theorem dX3_drop_5 : decode cX3_drop 5 = .ok (.ifCond .ne 4, 3) := by decide +kernel
theorem dX3_drop_8 : decode cX3_drop 8 = .ok (.return_, 1) := by decide +kernel
theorem dX3_drop_9 : decode cX3_drop 9 = .ok (.iload_n 1, 1) := by decide +kernel
theorem dX3_drop_10 : decode cX3_drop 10 = .ok (.iconst 1, 1) := by decide +kernel
theorem dX3_drop_11 : decode cX3_drop 11 = .ok (.iadd, 1) := by decide +kernel
theorem dX3_drop_12 : decode cX3_drop 12 = .ok (.istore_n 2, 1) := by decide +kernel
theorem dX3_drop_13 : decode cX3_drop 13 = .ok (.iload_n 2, 1) := by decide +kernel
theorem dX3_drop_14 : decode cX3_drop 14 = .ok (.aload_n 0, 1) := by decide +kernel
theorem dX3_drop_15 : decode cX3_drop 15 = .ok (.getfield 22, 3) := by decide +kernel
theorem dX3_drop_18 : decode cX3_drop 18 = .ok (.if_icmp .ge 18, 3) := by decide +kernel
theorem dX3_drop_21 : decode cX3_drop 21 = .ok (.aload_n 0, 1) := by decide +kernel
theorem dX3_drop_22 : decode cX3_drop 22 = .ok (.aload_n 0, 1) := by decide +kernel
theorem dX3_drop_23 : decode cX3_drop 23 = .ok (.iload_n 2, 1) := by decide +kernel
theorem dX3_drop_24 : decode cX3_drop 24 = .ok (.iload_n 2, 1) := by decide +kernel
theorem dX3_drop_25 : decode cX3_drop 25 = .ok (.iconst 1, 1) := by decide +kernel
theorem dX3_drop_26 : decode cX3_drop 26 = .ok (.isub, 1) := by decide +kernel
theorem dX3_drop_27 : decode cX3_drop 27 = .ok (.invokevirtual 26, 3) := by decide +kernel
theorem dX3_drop_30 : decode cX3_drop 30 = .ok (.iinc 2 1, 3) := by decide +kernel
theorem dX3_drop_33 : decode cX3_drop 33 = .ok (.goto (-20), 3) := by decide +kernel
theorem dX3_drop_36 : decode cX3_drop 36 = .ok (.aload_n 0, 1) := by decide +kernel
theorem dX3_drop_37 : decode cX3_drop 37 = .ok (.dup, 1) := by decide +kernel
theorem dX3_drop_38 : decode cX3_drop 38 = .ok (.getfield 22, 3) := by decide +kernel
theorem dX3_drop_41 : decode cX3_drop 41 = .ok (.iconst 1, 1) := by decide +kernel
theorem dX3_drop_42 : decode cX3_drop 42 = .ok (.isub, 1) := by decide +kernel
theorem dX3_drop_43 : decode cX3_drop 43 = .ok (.putfield 22, 3) := by decide +kernel
theorem dX3_drop_46 : decode cX3_drop 46 = .ok (.return_, 1) := by decide +kernel
theorem dX3_lastTo_0 : decode cX3_lastTo 0 = .ok (.ldc2_w 34, 3) := by decide +kernel
theorem dX3_lastTo_3 : decode cX3_lastTo 3 = .ok (.lstore_n 3, 1) := by decide +kernel
theorem dX3_lastTo_4 : decode cX3_lastTo 4 = .ok (.iconst 0, 1) := by decide +kernel
theorem dX3_lastTo_5 : decode cX3_lastTo 5 = .ok (.istore 5, 2) := by decide +kernel
theorem dX3_lastTo_7 : decode cX3_lastTo 7 = .ok (.iload 5, 2) := by decide +kernel
theorem dX3_lastTo_9 : decode cX3_lastTo 9 = .ok (.aload_n 0, 1) := by decide +kernel
theorem dX3_lastTo_10 : decode cX3_lastTo 10 = .ok (.getfield 22, 3) := by decide +kernel
theorem dX3_lastTo_13 : decode cX3_lastTo 13 = .ok (.if_icmp .ge 29, 3) := by decide +kernel
theorem dX3_lastTo_16 : decode cX3_lastTo 16 = .ok (.aload_n 0, 1) := by decide +kernel
theorem dX3_lastTo_17 : decode cX3_lastTo 17 = .ok (.getfield 9, 3) := by decide +kernel
theorem dX3_lastTo_20 : decode cX3_lastTo 20 = .ok (.iload 5, 2) := by decide +kernel
theorem dX3_lastTo_22 : decode cX3_lastTo 22 = .ok (.laload, 1) := by decide +kernel
theorem dX3_lastTo_23 : decode cX3_lastTo 23 = .ok (.lload_n 1, 1) := by decide +kernel
theorem dX3_lastTo_24 : decode cX3_lastTo 24 = .ok (.lcmp, 1) := by decide +kernel
theorem dX3_lastTo_25 : decode cX3_lastTo 25 = .ok (.ifCond .gt 17, 3) := by decide +kernel
theorem dX3_lastTo_28 : decode cX3_lastTo 28 = .ok (.aload_n 0, 1) := by decide +kernel
theorem dX3_lastTo_29 : decode cX3_lastTo 29 = .ok (.getfield 9, 3) := by decide +kernel
theorem dX3_lastTo_32 : decode cX3_lastTo 32 = .ok (.iload 5, 2) := by decide +kernel
theorem dX3_lastTo_34 : decode cX3_lastTo 34 = .ok (.laload, 1) := by decide +kernel
theorem dX3_lastTo_35 : decode cX3_lastTo 35 = .ok (.lstore_n 3, 1) := by decide +kernel
theorem dX3_lastTo_36 : decode cX3_lastTo 36 = .ok (.iinc 5 1, 3) := by decide +kernel
theorem dX3_lastTo_39 : decode cX3_lastTo 39 = .ok (.goto (-32), 3) := by decide +kernel
theorem dX3_lastTo_42 : decode cX3_lastTo 42 = .ok (.lload_n 3, 1) := by decide +kernel
theorem dX3_lastTo_43 : decode cX3_lastTo 43 = .ok (.lreturn, 1) := by decide +kernel
theorem dX3_nextFrom_0 : decode cX3_nextFrom 0 = .ok (.iconst 0, 1) := by decide +kernel
theorem dX3_nextFrom_1 : decode cX3_nextFrom 1 = .ok (.istore_n 3, 1) := by decide +kernel
theorem dX3_nextFrom_2 : decode cX3_nextFrom 2 = .ok (.iload_n 3, 1) := by decide +kernel
theorem dX3_nextFrom_3 : decode cX3_nextFrom 3 = .ok (.aload_n 0, 1) := by decide +kernel
theorem dX3_nextFrom_4 : decode cX3_nextFrom 4 = .ok (.getfield 22, 3) := by decide +kernel
theorem dX3_nextFrom_7 : decode cX3_nextFrom 7 = .ok (.if_icmp .ge 27, 3) := by decide +kernel
theorem dX3_nextFrom_10 : decode cX3_nextFrom 10 = .ok (.aload_n 0, 1) := by decide +kernel
theorem dX3_nextFrom_11 : decode cX3_nextFrom 11 = .ok (.getfield 9, 3) := by decide +kernel
theorem dX3_nextFrom_14 : decode cX3_nextFrom 14 = .ok (.iload_n 3, 1) := by decide +kernel
theorem dX3_nextFrom_15 : decode cX3_nextFrom 15 = .ok (.laload, 1) := by decide +kernel
theorem dX3_nextFrom_16 : decode cX3_nextFrom 16 = .ok (.lload_n 1, 1) := by decide +kernel
theorem dX3_nextFrom_17 : decode cX3_nextFrom 17 = .ok (.lcmp, 1) := by decide +kernel
theorem dX3_nextFrom_18 : decode cX3_nextFrom 18 = .ok (.ifCond .lt 10, 3) := by decide +kernel
theorem dX3_nextFrom_21 : decode cX3_nextFrom 21 = .ok (.aload_n 0, 1) := by decide +kernel
theorem dX3_nextFrom_22 : decode cX3_nextFrom 22 = .ok (.getfield 9, 3) := by decide +kernel
theorem dX3_nextFrom_25 : decode cX3_nextFrom 25 = .ok (.iload_n 3, 1) := by decide +kernel
theorem dX3_nextFrom_26 : decode cX3_nextFrom 26 = .ok (.laload, 1) := by decide +kernel
theorem dX3_nextFrom_27 : decode cX3_nextFrom 27 = .ok (.lreturn, 1) := by decide +kernel
theorem dX3_nextFrom_28 : decode cX3_nextFrom 28 = .ok (.iinc 3 1, 3) := by decide +kernel
theorem dX3_nextFrom_31 : decode cX3_nextFrom 31 = .ok (.goto (-29), 3) := by decide +kernel
theorem dX3_nextFrom_34 : decode cX3_nextFrom 34 = .ok (.ldc2_w 34, 3) := by decide +kernel
theorem dX3_nextFrom_37 : decode cX3_nextFrom 37 = .ok (.lreturn, 1) := by decide +kernel
theorem dX4_init_0 : decode cX4_init 0 = .ok (.aload_n 0, 1) := by decide +kernel
theorem dX4_init_1 : decode cX4_init 1 = .ok (.invokespecial 3, 3) := by decide +kernel
theorem dX4_init_4 : decode cX4_init 4 = .ok (.aload_n 0, 1) := by decide +kernel
theorem dX4_init_5 : decode cX4_init 5 = .ok (.invokevirtual 9, 3) := by decide +kernel
theorem dX4_init_8 : decode cX4_init 8 = .ok (.return_, 1) := by decide +kernel
theorem dX4_goHome_0 : decode cX4_goHome 0 = .ok (.aload_n 0, 1) := by decide +kernel
theorem dX4_goHome_1 : decode cX4_goHome 1 = .ok (.iconst 0, 1) := by decide +kernel
theorem dX4_goHome_2 : decode cX4_goHome 2 = .ok (.putfield 14, 3) := by decide +kernel
theorem dX4_goHome_5 : decode cX4_goHome 5 = .ok (.aload_n 0, 1) := by decide +kernel
theorem dX4_goHome_6 : decode cX4_goHome 6 = .ok (.iconst 1, 1) := by decide +kernel
theorem dX4_goHome_7 : decode cX4_goHome 7 = .ok (.putfield 18, 3) := by decide +kernel
theorem dX4_goHome_10 : decode cX4_goHome 10 = .ok (.aload_n 0, 1) := by decide +kernel
theorem dX4_goHome_11 : decode cX4_goHome 11 = .ok (.iconst 1, 1) := by decide +kernel
theorem dX4_goHome_12 : decode cX4_goHome 12 = .ok (.putfield 21, 3) := by decide +kernel
theorem dX4_goHome_15 : decode cX4_goHome 15 = .ok (.aload_n 0, 1) := by decide +kernel
theorem dX4_goHome_16 : decode cX4_goHome 16 = .ok (.iconst 0, 1) := by decide +kernel
theorem dX4_goHome_17 : decode cX4_goHome 17 = .ok (.putfield 24, 3) := by decide +kernel
theorem dX4_goHome_20 : decode cX4_goHome 20 = .ok (.aload_n 0, 1) := by decide +kernel
theorem dX4_goHome_21 : decode cX4_goHome 21 = .ok (.iconst 0, 1) := by decide +kernel
theorem dX4_goHome_22 : decode cX4_goHome 22 = .ok (.putfield 27, 3) := by decide +kernel
theorem dX4_goHome_25 : decode cX4_goHome 25 = .ok (.return_, 1) := by decide +kernel
theorem dX4_copyFrom_0 : decode cX4_copyFrom 0 = .ok (.aload_n 0, 1) := by decide +kernel
theorem dX4_copyFrom_1 : decode cX4_copyFrom 1 = .ok (.aload_n 1, 1) := by decide +kernel
theorem dX4_copyFrom_2 : decode cX4_copyFrom 2 = .ok (.getfield 14, 3) := by decide +kernel
theorem dX4_copyFrom_5 : decode cX4_copyFrom 5 = .ok (.putfield 14, 3) := by decide +kernel
theorem dX4_copyFrom_8 : decode cX4_copyFrom 8 = .ok (.aload_n 0, 1) := by decide +kernel
theorem dX4_copyFrom_9 : decode cX4_copyFrom 9 = .ok (.aload_n 1, 1) := by decide +kernel
theorem dX4_copyFrom_10 : decode cX4_copyFrom 10 = .ok (.getfield 18, 3) := by decide +kernel
theorem dX4_copyFrom_13 : decode cX4_copyFrom 13 = .ok (.putfield 18, 3) := by decide +kernel
theorem dX4_copyFrom_16 : decode cX4_copyFrom 16 = .ok (.aload_n 0, 1) := by decide +kernel
theorem dX4_copyFrom_17 : decode cX4_copyFrom 17 = .ok (.aload_n 1, 1) := by decide +kernel
theorem dX4_copyFrom_18 : decode cX4_copyFrom 18 = .ok (.getfield 21, 3) := by decide +kernel
theorem dX4_copyFrom_21 : decode cX4_copyFrom 21 = .ok (.putfield 21, 3) := by decide +kernel
theorem dX4_copyFrom_24 : decode cX4_copyFrom 24 = .ok (.aload_n 0, 1) := by decide +kernel
theorem dX4_copyFrom_25 : decode cX4_copyFrom 25 = .ok (.aload_n 1, 1) := by decide +kernel
theorem dX4_copyFrom_26 : decode cX4_copyFrom 26 = .ok (.getfield 24, 3) := by decide +kernel
theorem dX4_copyFrom_29 : decode cX4_copyFrom 29 = .ok (.putfield 24, 3) := by decide +kernel
theorem dX4_copyFrom_32 : decode cX4_copyFrom 32 = .ok (.aload_n 0, 1) := by decide +kernel
theorem dX4_copyFrom_33 : decode cX4_copyFrom 33 = .ok (.aload_n 1, 1) := by decide +kernel
theorem dX4_copyFrom_34 : decode cX4_copyFrom 34 = .ok (.getfield 27, 3) := by decide +kernel
theorem dX4_copyFrom_37 : decode cX4_copyFrom 37 = .ok (.putfield 27, 3) := by decide +kernel
theorem dX4_copyFrom_40 : decode cX4_copyFrom 40 = .ok (.return_, 1) := by decide +kernel
theorem dX4_lowP_0 : decode cX4_lowP 0 = .ok (.aload_n 0, 1) := by decide +kernel
theorem dX4_lowP_1 : decode cX4_lowP 1 = .ok (.getfield 14, 3) := by decide +kernel
theorem dX4_lowP_4 : decode cX4_lowP 4 = .ok (.ireturn, 1) := by decide +kernel
theorem dX4_lowQ_0 : decode cX4_lowQ 0 = .ok (.aload_n 0, 1) := by decide +kernel
theorem dX4_lowQ_1 : decode cX4_lowQ 1 = .ok (.getfield 18, 3) := by decide +kernel
theorem dX4_lowQ_4 : decode cX4_lowQ 4 = .ok (.ireturn, 1) := by decide +kernel
theorem dX4_highP_0 : decode cX4_highP 0 = .ok (.aload_n 0, 1) := by decide +kernel
theorem dX4_highP_1 : decode cX4_highP 1 = .ok (.getfield 21, 3) := by decide +kernel
theorem dX4_highP_4 : decode cX4_highP 4 = .ok (.ireturn, 1) := by decide +kernel
theorem dX4_highQ_0 : decode cX4_highQ 0 = .ok (.aload_n 0, 1) := by decide +kernel
theorem dX4_highQ_1 : decode cX4_highQ 1 = .ok (.getfield 24, 3) := by decide +kernel
theorem dX4_highQ_4 : decode cX4_highQ 4 = .ok (.ireturn, 1) := by decide +kernel
theorem dX4_steps_0 : decode cX4_steps 0 = .ok (.aload_n 0, 1) := by decide +kernel
theorem dX4_steps_1 : decode cX4_steps 1 = .ok (.getfield 27, 3) := by decide +kernel
theorem dX4_steps_4 : decode cX4_steps 4 = .ok (.ireturn, 1) := by decide +kernel
theorem dX4_p_0 : decode cX4_p 0 = .ok (.aload_n 0, 1) := by decide +kernel
theorem dX4_p_1 : decode cX4_p 1 = .ok (.getfield 14, 3) := by decide +kernel
theorem dX4_p_4 : decode cX4_p 4 = .ok (.aload_n 0, 1) := by decide +kernel
theorem dX4_p_5 : decode cX4_p 5 = .ok (.getfield 21, 3) := by decide +kernel
theorem dX4_p_8 : decode cX4_p 8 = .ok (.iadd, 1) := by decide +kernel
theorem dX4_p_9 : decode cX4_p 9 = .ok (.ireturn, 1) := by decide +kernel
theorem dX4_q_0 : decode cX4_q 0 = .ok (.aload_n 0, 1) := by decide +kernel
theorem dX4_q_1 : decode cX4_q 1 = .ok (.getfield 18, 3) := by decide +kernel
theorem dX4_q_4 : decode cX4_q 4 = .ok (.aload_n 0, 1) := by decide +kernel
theorem dX4_q_5 : decode cX4_q 5 = .ok (.getfield 24, 3) := by decide +kernel
theorem dX4_q_8 : decode cX4_q 8 = .ok (.iadd, 1) := by decide +kernel
theorem dX4_q_9 : decode cX4_q 9 = .ok (.ireturn, 1) := by decide +kernel
theorem dX4_together_0 : decode cX4_together 0 = .ok (.aload_n 0, 1) := by decide +kernel
theorem dX4_together_1 : decode cX4_together 1 = .ok (.invokevirtual 30, 3) := by decide +kernel
theorem dX4_together_4 : decode cX4_together 4 = .ok (.aload_n 0, 1) := by decide +kernel
theorem dX4_together_5 : decode cX4_together 5 = .ok (.invokevirtual 34, 3) := by decide +kernel
theorem dX4_together_8 : decode cX4_together 8 = .ok (.iadd, 1) := by decide +kernel
theorem dX4_together_9 : decode cX4_together 9 = .ok (.ireturn, 1) := by decide +kernel
theorem dX4_isAt_0 : decode cX4_isAt 0 = .ok (.iload_n 1, 1) := by decide +kernel
theorem dX4_isAt_1 : decode cX4_isAt 1 = .ok (.aload_n 0, 1) := by decide +kernel
theorem dX4_isAt_2 : decode cX4_isAt 2 = .ok (.invokevirtual 30, 3) := by decide +kernel
theorem dX4_isAt_5 : decode cX4_isAt 5 = .ok (.if_icmp .ne 15, 3) := by decide +kernel
theorem dX4_isAt_8 : decode cX4_isAt 8 = .ok (.iload_n 2, 1) := by decide +kernel
theorem dX4_isAt_9 : decode cX4_isAt 9 = .ok (.aload_n 0, 1) := by decide +kernel
theorem dX4_isAt_10 : decode cX4_isAt 10 = .ok (.invokevirtual 34, 3) := by decide +kernel
theorem dX4_isAt_13 : decode cX4_isAt 13 = .ok (.if_icmp .ne 7, 3) := by decide +kernel
theorem dX4_isAt_16 : decode cX4_isAt 16 = .ok (.iconst 1, 1) := by decide +kernel
theorem dX4_isAt_17 : decode cX4_isAt 17 = .ok (.goto 4, 3) := by decide +kernel
theorem dX4_isAt_20 : decode cX4_isAt 20 = .ok (.iconst 0, 1) := by decide +kernel
theorem dX4_isAt_21 : decode cX4_isAt 21 = .ok (.ireturn, 1) := by decide +kernel
theorem dX4_stepLeft_0 : decode cX4_stepLeft 0 = .ok (.aload_n 0, 1) := by decide +kernel
theorem dX4_stepLeft_1 : decode cX4_stepLeft 1 = .ok (.invokevirtual 37, 3) := by decide +kernel
theorem dX4_stepLeft_4 : decode cX4_stepLeft 4 = .ok (.aload_n 0, 1) := by decide +kernel
theorem dX4_stepLeft_5 : decode cX4_stepLeft 5 = .ok (.getfield 14, 3) := by decide +kernel
theorem dX4_stepLeft_8 : decode cX4_stepLeft 8 = .ok (.iadd, 1) := by decide +kernel
theorem dX4_stepLeft_9 : decode cX4_stepLeft 9 = .ok (.aload_n 0, 1) := by decide +kernel
theorem dX4_stepLeft_10 : decode cX4_stepLeft 10 = .ok (.getfield 18, 3) := by decide +kernel
theorem dX4_stepLeft_13 : decode cX4_stepLeft 13 = .ok (.iadd, 1) := by decide +kernel
theorem dX4_stepLeft_14 : decode cX4_stepLeft 14 = .ok (.bipush 22, 2) := by decide +kernel
theorem dX4_stepLeft_16 : decode cX4_stepLeft 16 = .ok (.if_icmp .le 5, 3) := by decide +kernel
theorem dX4_stepLeft_19 : decode cX4_stepLeft 19 = .ok (.iconst 0, 1) := by decide +kernel
theorem dX4_stepLeft_20 : decode cX4_stepLeft 20 = .ok (.ireturn, 1) := by decide +kernel
theorem dX4_stepLeft_21 : decode cX4_stepLeft 21 = .ok (.aload_n 0, 1) := by decide +kernel
theorem dX4_stepLeft_22 : decode cX4_stepLeft 22 = .ok (.dup, 1) := by decide +kernel
theorem dX4_stepLeft_23 : decode cX4_stepLeft 23 = .ok (.getfield 21, 3) := by decide +kernel
theorem dX4_stepLeft_26 : decode cX4_stepLeft 26 = .ok (.aload_n 0, 1) := by decide +kernel
theorem dX4_stepLeft_27 : decode cX4_stepLeft 27 = .ok (.getfield 14, 3) := by decide +kernel
theorem dX4_stepLeft_30 : decode cX4_stepLeft 30 = .ok (.iadd, 1) := by decide +kernel
theorem dX4_stepLeft_31 : decode cX4_stepLeft 31 = .ok (.putfield 21, 3) := by decide +kernel
theorem dX4_stepLeft_34 : decode cX4_stepLeft 34 = .ok (.aload_n 0, 1) := by decide +kernel
theorem dX4_stepLeft_35 : decode cX4_stepLeft 35 = .ok (.dup, 1) := by decide +kernel
theorem dX4_stepLeft_36 : decode cX4_stepLeft 36 = .ok (.getfield 24, 3) := by decide +kernel
theorem dX4_stepLeft_39 : decode cX4_stepLeft 39 = .ok (.aload_n 0, 1) := by decide +kernel
theorem dX4_stepLeft_40 : decode cX4_stepLeft 40 = .ok (.getfield 18, 3) := by decide +kernel
theorem dX4_stepLeft_43 : decode cX4_stepLeft 43 = .ok (.iadd, 1) := by decide +kernel
theorem dX4_stepLeft_44 : decode cX4_stepLeft 44 = .ok (.putfield 24, 3) := by decide +kernel
theorem dX4_stepLeft_47 : decode cX4_stepLeft 47 = .ok (.aload_n 0, 1) := by decide +kernel
theorem dX4_stepLeft_48 : decode cX4_stepLeft 48 = .ok (.dup, 1) := by decide +kernel
theorem dX4_stepLeft_49 : decode cX4_stepLeft 49 = .ok (.getfield 27, 3) := by decide +kernel
theorem dX4_stepLeft_52 : decode cX4_stepLeft 52 = .ok (.iconst 1, 1) := by decide +kernel
theorem dX4_stepLeft_53 : decode cX4_stepLeft 53 = .ok (.iadd, 1) := by decide +kernel
theorem dX4_stepLeft_54 : decode cX4_stepLeft 54 = .ok (.putfield 27, 3) := by decide +kernel
theorem dX4_stepLeft_57 : decode cX4_stepLeft 57 = .ok (.iconst 1, 1) := by decide +kernel
theorem dX4_stepLeft_58 : decode cX4_stepLeft 58 = .ok (.ireturn, 1) := by decide +kernel
theorem dX4_stepRight_0 : decode cX4_stepRight 0 = .ok (.aload_n 0, 1) := by decide +kernel
theorem dX4_stepRight_1 : decode cX4_stepRight 1 = .ok (.invokevirtual 37, 3) := by decide +kernel
theorem dX4_stepRight_4 : decode cX4_stepRight 4 = .ok (.aload_n 0, 1) := by decide +kernel
theorem dX4_stepRight_5 : decode cX4_stepRight 5 = .ok (.getfield 21, 3) := by decide +kernel
theorem dX4_stepRight_8 : decode cX4_stepRight 8 = .ok (.iadd, 1) := by decide +kernel
theorem dX4_stepRight_9 : decode cX4_stepRight 9 = .ok (.aload_n 0, 1) := by decide +kernel
theorem dX4_stepRight_10 : decode cX4_stepRight 10 = .ok (.getfield 24, 3) := by decide +kernel
theorem dX4_stepRight_13 : decode cX4_stepRight 13 = .ok (.iadd, 1) := by decide +kernel
theorem dX4_stepRight_14 : decode cX4_stepRight 14 = .ok (.bipush 22, 2) := by decide +kernel
theorem dX4_stepRight_16 : decode cX4_stepRight 16 = .ok (.if_icmp .le 5, 3) := by decide +kernel
theorem dX4_stepRight_19 : decode cX4_stepRight 19 = .ok (.iconst 0, 1) := by decide +kernel
theorem dX4_stepRight_20 : decode cX4_stepRight 20 = .ok (.ireturn, 1) := by decide +kernel
theorem dX4_stepRight_21 : decode cX4_stepRight 21 = .ok (.aload_n 0, 1) := by decide +kernel
theorem dX4_stepRight_22 : decode cX4_stepRight 22 = .ok (.dup, 1) := by decide +kernel
theorem dX4_stepRight_23 : decode cX4_stepRight 23 = .ok (.getfield 14, 3) := by decide +kernel
theorem dX4_stepRight_26 : decode cX4_stepRight 26 = .ok (.aload_n 0, 1) := by decide +kernel
theorem dX4_stepRight_27 : decode cX4_stepRight 27 = .ok (.getfield 21, 3) := by decide +kernel
theorem dX4_stepRight_30 : decode cX4_stepRight 30 = .ok (.iadd, 1) := by decide +kernel
theorem dX4_stepRight_31 : decode cX4_stepRight 31 = .ok (.putfield 14, 3) := by decide +kernel
theorem dX4_stepRight_34 : decode cX4_stepRight 34 = .ok (.aload_n 0, 1) := by decide +kernel
theorem dX4_stepRight_35 : decode cX4_stepRight 35 = .ok (.dup, 1) := by decide +kernel
theorem dX4_stepRight_36 : decode cX4_stepRight 36 = .ok (.getfield 18, 3) := by decide +kernel
theorem dX4_stepRight_39 : decode cX4_stepRight 39 = .ok (.aload_n 0, 1) := by decide +kernel
theorem dX4_stepRight_40 : decode cX4_stepRight 40 = .ok (.getfield 24, 3) := by decide +kernel
theorem dX4_stepRight_43 : decode cX4_stepRight 43 = .ok (.iadd, 1) := by decide +kernel
theorem dX4_stepRight_44 : decode cX4_stepRight 44 = .ok (.putfield 18, 3) := by decide +kernel
theorem dX4_stepRight_47 : decode cX4_stepRight 47 = .ok (.aload_n 0, 1) := by decide +kernel
theorem dX4_stepRight_48 : decode cX4_stepRight 48 = .ok (.dup, 1) := by decide +kernel
theorem dX4_stepRight_49 : decode cX4_stepRight 49 = .ok (.getfield 27, 3) := by decide +kernel
theorem dX4_stepRight_52 : decode cX4_stepRight 52 = .ok (.iconst 1, 1) := by decide +kernel
theorem dX4_stepRight_53 : decode cX4_stepRight 53 = .ok (.iadd, 1) := by decide +kernel
theorem dX4_stepRight_54 : decode cX4_stepRight 54 = .ok (.putfield 27, 3) := by decide +kernel
theorem dX4_stepRight_57 : decode cX4_stepRight 57 = .ok (.iconst 1, 1) := by decide +kernel
theorem dX4_stepRight_58 : decode cX4_stepRight 58 = .ok (.ireturn, 1) := by decide +kernel
theorem dX4_stepUp_0 : decode cX4_stepUp 0 = .ok (.aload_n 0, 1) := by decide +kernel
theorem dX4_stepUp_1 : decode cX4_stepUp 1 = .ok (.getfield 27, 3) := by decide +kernel
theorem dX4_stepUp_4 : decode cX4_stepUp 4 = .ok (.ifCond .ne 5, 3) := by decide +kernel
theorem dX4_stepUp_7 : decode cX4_stepUp 7 = .ok (.iconst 0, 1) := by decide +kernel
theorem dX4_stepUp_8 : decode cX4_stepUp 8 = .ok (.ireturn, 1) := by decide +kernel
theorem dX4_stepUp_9 : decode cX4_stepUp 9 = .ok (.aload_n 0, 1) := by decide +kernel
theorem dX4_stepUp_10 : decode cX4_stepUp 10 = .ok (.getfield 14, 3) := by decide +kernel
theorem dX4_stepUp_13 : decode cX4_stepUp 13 = .ok (.aload_n 0, 1) := by decide +kernel
theorem dX4_stepUp_14 : decode cX4_stepUp 14 = .ok (.getfield 18, 3) := by decide +kernel
theorem dX4_stepUp_17 : decode cX4_stepUp 17 = .ok (.iadd, 1) := by decide +kernel
theorem dX4_stepUp_18 : decode cX4_stepUp 18 = .ok (.aload_n 0, 1) := by decide +kernel
theorem dX4_stepUp_19 : decode cX4_stepUp 19 = .ok (.getfield 21, 3) := by decide +kernel
theorem dX4_stepUp_22 : decode cX4_stepUp 22 = .ok (.aload_n 0, 1) := by decide +kernel
theorem dX4_stepUp_23 : decode cX4_stepUp 23 = .ok (.getfield 24, 3) := by decide +kernel
theorem dX4_stepUp_26 : decode cX4_stepUp 26 = .ok (.iadd, 1) := by decide +kernel
theorem dX4_stepUp_27 : decode cX4_stepUp 27 = .ok (.if_icmp .le 32, 3) := by decide +kernel
theorem dX4_stepUp_30 : decode cX4_stepUp 30 = .ok (.aload_n 0, 1) := by decide +kernel
theorem dX4_stepUp_31 : decode cX4_stepUp 31 = .ok (.dup, 1) := by decide +kernel
theorem dX4_stepUp_32 : decode cX4_stepUp 32 = .ok (.getfield 14, 3) := by decide +kernel
theorem dX4_stepUp_35 : decode cX4_stepUp 35 = .ok (.aload_n 0, 1) := by decide +kernel
theorem dX4_stepUp_36 : decode cX4_stepUp 36 = .ok (.getfield 21, 3) := by decide +kernel
theorem dX4_stepUp_39 : decode cX4_stepUp 39 = .ok (.isub, 1) := by decide +kernel
theorem dX4_stepUp_40 : decode cX4_stepUp 40 = .ok (.putfield 14, 3) := by decide +kernel
theorem dX4_stepUp_43 : decode cX4_stepUp 43 = .ok (.aload_n 0, 1) := by decide +kernel
theorem dX4_stepUp_44 : decode cX4_stepUp 44 = .ok (.dup, 1) := by decide +kernel
theorem dX4_stepUp_45 : decode cX4_stepUp 45 = .ok (.getfield 18, 3) := by decide +kernel
theorem dX4_stepUp_48 : decode cX4_stepUp 48 = .ok (.aload_n 0, 1) := by decide +kernel
theorem dX4_stepUp_49 : decode cX4_stepUp 49 = .ok (.getfield 24, 3) := by decide +kernel
theorem dX4_stepUp_52 : decode cX4_stepUp 52 = .ok (.isub, 1) := by decide +kernel
theorem dX4_stepUp_53 : decode cX4_stepUp 53 = .ok (.putfield 18, 3) := by decide +kernel
theorem dX4_stepUp_56 : decode cX4_stepUp 56 = .ok (.goto 29, 3) := by decide +kernel
theorem dX4_stepUp_59 : decode cX4_stepUp 59 = .ok (.aload_n 0, 1) := by decide +kernel
theorem dX4_stepUp_60 : decode cX4_stepUp 60 = .ok (.dup, 1) := by decide +kernel
theorem dX4_stepUp_61 : decode cX4_stepUp 61 = .ok (.getfield 21, 3) := by decide +kernel
theorem dX4_stepUp_64 : decode cX4_stepUp 64 = .ok (.aload_n 0, 1) := by decide +kernel
theorem dX4_stepUp_65 : decode cX4_stepUp 65 = .ok (.getfield 14, 3) := by decide +kernel
theorem dX4_stepUp_68 : decode cX4_stepUp 68 = .ok (.isub, 1) := by decide +kernel
theorem dX4_stepUp_69 : decode cX4_stepUp 69 = .ok (.putfield 21, 3) := by decide +kernel
theorem dX4_stepUp_72 : decode cX4_stepUp 72 = .ok (.aload_n 0, 1) := by decide +kernel
theorem dX4_stepUp_73 : decode cX4_stepUp 73 = .ok (.dup, 1) := by decide +kernel
theorem dX4_stepUp_74 : decode cX4_stepUp 74 = .ok (.getfield 24, 3) := by decide +kernel
theorem dX4_stepUp_77 : decode cX4_stepUp 77 = .ok (.aload_n 0, 1) := by decide +kernel
theorem dX4_stepUp_78 : decode cX4_stepUp 78 = .ok (.getfield 18, 3) := by decide +kernel
theorem dX4_stepUp_81 : decode cX4_stepUp 81 = .ok (.isub, 1) := by decide +kernel
theorem dX4_stepUp_82 : decode cX4_stepUp 82 = .ok (.putfield 24, 3) := by decide +kernel
theorem dX4_stepUp_85 : decode cX4_stepUp 85 = .ok (.aload_n 0, 1) := by decide +kernel
theorem dX4_stepUp_86 : decode cX4_stepUp 86 = .ok (.dup, 1) := by decide +kernel
theorem dX4_stepUp_87 : decode cX4_stepUp 87 = .ok (.getfield 27, 3) := by decide +kernel
theorem dX4_stepUp_90 : decode cX4_stepUp 90 = .ok (.iconst 1, 1) := by decide +kernel
theorem dX4_stepUp_91 : decode cX4_stepUp 91 = .ok (.isub, 1) := by decide +kernel
theorem dX4_stepUp_92 : decode cX4_stepUp 92 = .ok (.putfield 27, 3) := by decide +kernel
theorem dX4_stepUp_95 : decode cX4_stepUp 95 = .ok (.iconst 1, 1) := by decide +kernel
theorem dX4_stepUp_96 : decode cX4_stepUp 96 = .ok (.ireturn, 1) := by decide +kernel
theorem dX4_sideOf_0 : decode cX4_sideOf 0 = .ok (.iload_n 1, 1) := by decide +kernel
theorem dX4_sideOf_1 : decode cX4_sideOf 1 = .ok (.aload_n 0, 1) := by decide +kernel
theorem dX4_sideOf_2 : decode cX4_sideOf 2 = .ok (.invokevirtual 34, 3) := by decide +kernel
theorem dX4_sideOf_5 : decode cX4_sideOf 5 = .ok (.imul, 1) := by decide +kernel
theorem dX4_sideOf_6 : decode cX4_sideOf 6 = .ok (.iload_n 2, 1) := by decide +kernel
theorem dX4_sideOf_7 : decode cX4_sideOf 7 = .ok (.aload_n 0, 1) := by decide +kernel
theorem dX4_sideOf_8 : decode cX4_sideOf 8 = .ok (.invokevirtual 30, 3) := by decide +kernel
theorem dX4_sideOf_11 : decode cX4_sideOf 11 = .ok (.imul, 1) := by decide +kernel
theorem dX4_sideOf_12 : decode cX4_sideOf 12 = .ok (.invokestatic 40, 3) := by decide +kernel
theorem dX4_sideOf_15 : decode cX4_sideOf 15 = .ok (.ireturn, 1) := by decide +kernel
theorem dX4_stepToSide_0 : decode cX4_stepToSide 0 = .ok (.iload_n 1, 1) := by decide +kernel
theorem dX4_stepToSide_1 : decode cX4_stepToSide 1 = .ok (.ifCond .ge 10, 3) := by decide +kernel
theorem dX4_stepToSide_4 : decode cX4_stepToSide 4 = .ok (.aload_n 0, 1) := by decide +kernel
theorem dX4_stepToSide_5 : decode cX4_stepToSide 5 = .ok (.invokevirtual 46, 3) := by decide +kernel
theorem dX4_stepToSide_8 : decode cX4_stepToSide 8 = .ok (.goto 7, 3) := by decide +kernel
theorem dX4_stepToSide_11 : decode cX4_stepToSide 11 = .ok (.aload_n 0, 1) := by decide +kernel
theorem dX4_stepToSide_12 : decode cX4_stepToSide 12 = .ok (.invokevirtual 50, 3) := by decide +kernel
theorem dX4_stepToSide_15 : decode cX4_stepToSide 15 = .ok (.ireturn, 1) := by decide +kernel
theorem dX4_walkTo_0 : decode cX4_walkTo 0 = .ok (.aload_n 0, 1) := by decide +kernel
theorem dX4_walkTo_1 : decode cX4_walkTo 1 = .ok (.invokevirtual 9, 3) := by decide +kernel
theorem dX4_walkTo_4 : decode cX4_walkTo 4 = .ok (.iconst 0, 1) := by decide +kernel
theorem dX4_walkTo_5 : decode cX4_walkTo 5 = .ok (.istore_n 3, 1) := by decide +kernel
theorem dX4_walkTo_6 : decode cX4_walkTo 6 = .ok (.iload_n 3, 1) := by decide +kernel
theorem dX4_walkTo_7 : decode cX4_walkTo 7 = .ok (.bipush 22, 2) := by decide +kernel
theorem dX4_walkTo_9 : decode cX4_walkTo 9 = .ok (.if_icmp .ge 29, 3) := by decide +kernel
theorem dX4_walkTo_12 : decode cX4_walkTo 12 = .ok (.aload_n 0, 1) := by decide +kernel
theorem dX4_walkTo_13 : decode cX4_walkTo 13 = .ok (.iload_n 1, 1) := by decide +kernel
theorem dX4_walkTo_14 : decode cX4_walkTo 14 = .ok (.iload_n 2, 1) := by decide +kernel
theorem dX4_walkTo_15 : decode cX4_walkTo 15 = .ok (.invokevirtual 53, 3) := by decide +kernel
theorem dX4_walkTo_18 : decode cX4_walkTo 18 = .ok (.ifCond .ne 20, 3) := by decide +kernel
theorem dX4_walkTo_21 : decode cX4_walkTo 21 = .ok (.aload_n 0, 1) := by decide +kernel
theorem dX4_walkTo_22 : decode cX4_walkTo 22 = .ok (.aload_n 0, 1) := by decide +kernel
theorem dX4_walkTo_23 : decode cX4_walkTo 23 = .ok (.iload_n 1, 1) := by decide +kernel
theorem dX4_walkTo_24 : decode cX4_walkTo 24 = .ok (.iload_n 2, 1) := by decide +kernel
theorem dX4_walkTo_25 : decode cX4_walkTo 25 = .ok (.invokevirtual 57, 3) := by decide +kernel
theorem dX4_walkTo_28 : decode cX4_walkTo 28 = .ok (.invokevirtual 60, 3) := by decide +kernel
theorem dX4_walkTo_31 : decode cX4_walkTo 31 = .ok (.pop, 1) := by decide +kernel
theorem dX4_walkTo_32 : decode cX4_walkTo 32 = .ok (.iinc 3 1, 3) := by decide +kernel
theorem dX4_walkTo_35 : decode cX4_walkTo 35 = .ok (.goto (-29), 3) := by decide +kernel
theorem dX4_walkTo_38 : decode cX4_walkTo 38 = .ok (.return_, 1) := by decide +kernel
theorem dX5_init_0 : decode cX5_init 0 = .ok (.aload_n 0, 1) := by decide +kernel
theorem dX5_init_1 : decode cX5_init 1 = .ok (.invokespecial 3, 3) := by decide +kernel
theorem dX5_init_4 : decode cX5_init 4 = .ok (.aload_n 0, 1) := by decide +kernel
theorem dX5_init_5 : decode cX5_init 5 = .ok (.new 9, 3) := by decide +kernel
theorem dX5_init_8 : decode cX5_init 8 = .ok (.dup, 1) := by decide +kernel
theorem dX5_init_9 : decode cX5_init 9 = .ok (.invokespecial 11, 3) := by decide +kernel
theorem dX5_init_12 : decode cX5_init 12 = .ok (.putfield 12, 3) := by decide +kernel
theorem dX5_init_15 : decode cX5_init 15 = .ok (.aload_n 0, 1) := by decide +kernel
theorem dX5_init_16 : decode cX5_init 16 = .ok (.new 18, 3) := by decide +kernel
theorem dX5_init_19 : decode cX5_init 19 = .ok (.dup, 1) := by decide +kernel
theorem dX5_init_20 : decode cX5_init 20 = .ok (.invokespecial 20, 3) := by decide +kernel
theorem dX5_init_23 : decode cX5_init 23 = .ok (.putfield 21, 3) := by decide +kernel
theorem dX5_init_26 : decode cX5_init 26 = .ok (.return_, 1) := by decide +kernel
theorem dX5_place_0 : decode cX5_place 0 = .ok (.aload_n 0, 1) := by decide +kernel
theorem dX5_place_1 : decode cX5_place 1 = .ok (.getfield 12, 3) := by decide +kernel
theorem dX5_place_4 : decode cX5_place 4 = .ok (.areturn, 1) := by decide +kernel
theorem dX5_marks_0 : decode cX5_marks 0 = .ok (.aload_n 0, 1) := by decide +kernel
theorem dX5_marks_1 : decode cX5_marks 1 = .ok (.getfield 21, 3) := by decide +kernel
theorem dX5_marks_4 : decode cX5_marks 4 = .ok (.areturn, 1) := by decide +kernel
theorem dX5_isMarked_0 : decode cX5_isMarked 0 = .ok (.aload_n 0, 1) := by decide +kernel
theorem dX5_isMarked_1 : decode cX5_isMarked 1 = .ok (.getfield 21, 3) := by decide +kernel
theorem dX5_isMarked_4 : decode cX5_isMarked 4 = .ok (.aload_n 0, 1) := by decide +kernel
theorem dX5_isMarked_5 : decode cX5_isMarked 5 = .ok (.getfield 12, 3) := by decide +kernel
theorem dX5_isMarked_8 : decode cX5_isMarked 8 = .ok (.invokevirtual 25, 3) := by decide +kernel
theorem dX5_isMarked_11 : decode cX5_isMarked 11 = .ok (.aload_n 0, 1) := by decide +kernel
theorem dX5_isMarked_12 : decode cX5_isMarked 12 = .ok (.getfield 12, 3) := by decide +kernel
theorem dX5_isMarked_15 : decode cX5_isMarked 15 = .ok (.invokevirtual 29, 3) := by decide +kernel
theorem dX5_isMarked_18 : decode cX5_isMarked 18 = .ok (.invokevirtual 32, 3) := by decide +kernel
theorem dX5_isMarked_21 : decode cX5_isMarked 21 = .ok (.iconst (-1), 1) := by decide +kernel
theorem dX5_isMarked_22 : decode cX5_isMarked 22 = .ok (.if_icmp .eq 7, 3) := by decide +kernel
theorem dX5_isMarked_25 : decode cX5_isMarked 25 = .ok (.iconst 1, 1) := by decide +kernel
theorem dX5_isMarked_26 : decode cX5_isMarked 26 = .ok (.goto 4, 3) := by decide +kernel
theorem dX5_isMarked_29 : decode cX5_isMarked 29 = .ok (.iconst 0, 1) := by decide +kernel
theorem dX5_isMarked_30 : decode cX5_isMarked 30 = .ok (.ireturn, 1) := by decide +kernel
theorem dX5_copyFrom_0 : decode cX5_copyFrom 0 = .ok (.aload_n 0, 1) := by decide +kernel
theorem dX5_copyFrom_1 : decode cX5_copyFrom 1 = .ok (.getfield 12, 3) := by decide +kernel
theorem dX5_copyFrom_4 : decode cX5_copyFrom 4 = .ok (.aload_n 1, 1) := by decide +kernel
theorem dX5_copyFrom_5 : decode cX5_copyFrom 5 = .ok (.getfield 12, 3) := by decide +kernel
theorem dX5_copyFrom_8 : decode cX5_copyFrom 8 = .ok (.invokevirtual 36, 3) := by decide +kernel
theorem dX5_copyFrom_11 : decode cX5_copyFrom 11 = .ok (.aload_n 0, 1) := by decide +kernel
theorem dX5_copyFrom_12 : decode cX5_copyFrom 12 = .ok (.getfield 21, 3) := by decide +kernel
theorem dX5_copyFrom_15 : decode cX5_copyFrom 15 = .ok (.aload_n 1, 1) := by decide +kernel
theorem dX5_copyFrom_16 : decode cX5_copyFrom 16 = .ok (.getfield 21, 3) := by decide +kernel
theorem dX5_copyFrom_19 : decode cX5_copyFrom 19 = .ok (.invokevirtual 40, 3) := by decide +kernel
theorem dX5_copyFrom_22 : decode cX5_copyFrom 22 = .ok (.return_, 1) := by decide +kernel
theorem dX6_init_0 : decode cX6_init 0 = .ok (.aload_n 0, 1) := by decide +kernel
theorem dX6_init_1 : decode cX6_init 1 = .ok (.invokespecial 3, 3) := by decide +kernel
theorem dX6_init_4 : decode cX6_init 4 = .ok (.aload_n 0, 1) := by decide +kernel
theorem dX6_init_5 : decode cX6_init 5 = .ok (.sipush 160, 3) := by decide +kernel
theorem dX6_init_8 : decode cX6_init 8 = .ok (.newarray .long, 2) := by decide +kernel
theorem dX6_init_10 : decode cX6_init 10 = .ok (.putfield 11, 3) := by decide +kernel
theorem dX6_init_13 : decode cX6_init 13 = .ok (.aload_n 0, 1) := by decide +kernel
theorem dX6_init_14 : decode cX6_init 14 = .ok (.sipush 160, 3) := by decide +kernel
theorem dX6_init_17 : decode cX6_init 17 = .ok (.newarray .long, 2) := by decide +kernel
theorem dX6_init_19 : decode cX6_init 19 = .ok (.putfield 15, 3) := by decide +kernel
theorem dX6_init_22 : decode cX6_init 22 = .ok (.aload_n 0, 1) := by decide +kernel
theorem dX6_init_23 : decode cX6_init 23 = .ok (.sipush 160, 3) := by decide +kernel
theorem dX6_init_26 : decode cX6_init 26 = .ok (.newarray .long, 2) := by decide +kernel
theorem dX6_init_28 : decode cX6_init 28 = .ok (.putfield 18, 3) := by decide +kernel
theorem dX6_init_31 : decode cX6_init 31 = .ok (.aload_n 0, 1) := by decide +kernel
theorem dX6_init_32 : decode cX6_init 32 = .ok (.sipush 160, 3) := by decide +kernel
theorem dX6_init_35 : decode cX6_init 35 = .ok (.newarray .int, 2) := by decide +kernel
theorem dX6_init_37 : decode cX6_init 37 = .ok (.putfield 21, 3) := by decide +kernel
theorem dX6_init_40 : decode cX6_init 40 = .ok (.aload_n 0, 1) := by decide +kernel
theorem dX6_init_41 : decode cX6_init 41 = .ok (.sipush 160, 3) := by decide +kernel
theorem dX6_init_44 : decode cX6_init 44 = .ok (.newarray .long, 2) := by decide +kernel
theorem dX6_init_46 : decode cX6_init 46 = .ok (.putfield 25, 3) := by decide +kernel
theorem dX6_init_49 : decode cX6_init 49 = .ok (.aload_n 0, 1) := by decide +kernel
theorem dX6_init_50 : decode cX6_init 50 = .ok (.iconst 0, 1) := by decide +kernel
theorem dX6_init_51 : decode cX6_init 51 = .ok (.putfield 28, 3) := by decide +kernel
theorem dX6_init_54 : decode cX6_init 54 = .ok (.aload_n 0, 1) := by decide +kernel
theorem dX6_init_55 : decode cX6_init 55 = .ok (.iconst 0, 1) := by decide +kernel
theorem dX6_init_56 : decode cX6_init 56 = .ok (.putfield 32, 3) := by decide +kernel
theorem dX6_init_59 : decode cX6_init 59 = .ok (.return_, 1) := by decide +kernel
theorem dX6_countUpTo_0 : decode cX6_countUpTo 0 = .ok (.aload_n 0, 1) := by decide +kernel
theorem dX6_countUpTo_1 : decode cX6_countUpTo 1 = .ok (.invokevirtual 35, 3) := by decide +kernel
theorem dX6_countUpTo_4 : decode cX6_countUpTo 4 = .ok (.iconst 0, 1) := by decide +kernel
theorem dX6_countUpTo_5 : decode cX6_countUpTo 5 = .ok (.istore_n 3, 1) := by decide +kernel
theorem dX6_countUpTo_6 : decode cX6_countUpTo 6 = .ok (.iload_n 3, 1) := by decide +kernel
theorem dX6_countUpTo_7 : decode cX6_countUpTo 7 = .ok (.aload_n 0, 1) := by decide +kernel
theorem dX6_countUpTo_8 : decode cX6_countUpTo 8 = .ok (.getfield 32, 3) := by decide +kernel
theorem dX6_countUpTo_11 : decode cX6_countUpTo 11 = .ok (.if_icmp .ge 20, 3) := by decide +kernel
theorem dX6_countUpTo_14 : decode cX6_countUpTo 14 = .ok (.aload_n 0, 1) := by decide +kernel
theorem dX6_countUpTo_15 : decode cX6_countUpTo 15 = .ok (.getfield 25, 3) := by decide +kernel
theorem dX6_countUpTo_18 : decode cX6_countUpTo 18 = .ok (.iload_n 3, 1) := by decide +kernel
theorem dX6_countUpTo_19 : decode cX6_countUpTo 19 = .ok (.laload, 1) := by decide +kernel
theorem dX6_countUpTo_20 : decode cX6_countUpTo 20 = .ok (.lload_n 1, 1) := by decide +kernel
theorem dX6_countUpTo_21 : decode cX6_countUpTo 21 = .ok (.lcmp, 1) := by decide +kernel
theorem dX6_countUpTo_22 : decode cX6_countUpTo 22 = .ok (.ifCond .gt 9, 3) := by decide +kernel
theorem dX6_countUpTo_25 : decode cX6_countUpTo 25 = .ok (.iinc 3 1, 3) := by decide +kernel
theorem dX6_countUpTo_28 : decode cX6_countUpTo 28 = .ok (.goto (-22), 3) := by decide +kernel
theorem dX6_countUpTo_31 : decode cX6_countUpTo 31 = .ok (.iload_n 3, 1) := by decide +kernel
theorem dX6_countUpTo_32 : decode cX6_countUpTo 32 = .ok (.ireturn, 1) := by decide +kernel
theorem dX6_numberAt_0 : decode cX6_numberAt 0 = .ok (.aload_n 0, 1) := by decide +kernel
theorem dX6_numberAt_1 : decode cX6_numberAt 1 = .ok (.invokevirtual 35, 3) := by decide +kernel
theorem dX6_numberAt_4 : decode cX6_numberAt 4 = .ok (.iload_n 1, 1) := by decide +kernel
theorem dX6_numberAt_5 : decode cX6_numberAt 5 = .ok (.ifCond .lt 20, 3) := by decide +kernel
theorem dX6_numberAt_8 : decode cX6_numberAt 8 = .ok (.iload_n 1, 1) := by decide +kernel
theorem dX6_numberAt_9 : decode cX6_numberAt 9 = .ok (.aload_n 0, 1) := by decide +kernel
theorem dX6_numberAt_10 : decode cX6_numberAt 10 = .ok (.getfield 32, 3) := by decide +kernel
theorem dX6_numberAt_13 : decode cX6_numberAt 13 = .ok (.if_icmp .ge 12, 3) := by decide +kernel
theorem dX6_numberAt_16 : decode cX6_numberAt 16 = .ok (.aload_n 0, 1) := by decide +kernel
theorem dX6_numberAt_17 : decode cX6_numberAt 17 = .ok (.getfield 25, 3) := by decide +kernel
theorem dX6_numberAt_20 : decode cX6_numberAt 20 = .ok (.iload_n 1, 1) := by decide +kernel
theorem dX6_numberAt_21 : decode cX6_numberAt 21 = .ok (.laload, 1) := by decide +kernel
theorem dX6_numberAt_22 : decode cX6_numberAt 22 = .ok (.goto 6, 3) := by decide +kernel
theorem dX6_numberAt_25 : decode cX6_numberAt 25 = .ok (.ldc2_w 38, 3) := by decide +kernel
theorem dX6_numberAt_28 : decode cX6_numberAt 28 = .ok (.lreturn, 1) := by decide +kernel
theorem dX6_rankOf_0 : decode cX6_rankOf 0 = .ok (.aload_n 0, 1) := by decide +kernel
theorem dX6_rankOf_1 : decode cX6_rankOf 1 = .ok (.lload_n 1, 1) := by decide +kernel
theorem dX6_rankOf_2 : decode cX6_rankOf 2 = .ok (.invokevirtual 40, 3) := by decide +kernel
theorem dX6_rankOf_5 : decode cX6_rankOf 5 = .ok (.iconst 1, 1) := by decide +kernel
theorem dX6_rankOf_6 : decode cX6_rankOf 6 = .ok (.isub, 1) := by decide +kernel
theorem dX6_rankOf_7 : decode cX6_rankOf 7 = .ok (.istore_n 3, 1) := by decide +kernel
theorem dX6_rankOf_8 : decode cX6_rankOf 8 = .ok (.aload_n 0, 1) := by decide +kernel
theorem dX6_rankOf_9 : decode cX6_rankOf 9 = .ok (.iload_n 3, 1) := by decide +kernel
theorem dX6_rankOf_10 : decode cX6_rankOf 10 = .ok (.invokevirtual 44, 3) := by decide +kernel
theorem dX6_rankOf_13 : decode cX6_rankOf 13 = .ok (.lload_n 1, 1) := by decide +kernel
theorem dX6_rankOf_14 : decode cX6_rankOf 14 = .ok (.lcmp, 1) := by decide +kernel
theorem dX6_rankOf_15 : decode cX6_rankOf 15 = .ok (.ifCond .ne 11, 3) := by decide +kernel
theorem dX6_rankOf_18 : decode cX6_rankOf 18 = .ok (.iload_n 3, 1) := by decide +kernel
theorem dX6_rankOf_19 : decode cX6_rankOf 19 = .ok (.ifCond .lt 7, 3) := by decide +kernel
theorem dX6_rankOf_22 : decode cX6_rankOf 22 = .ok (.iload_n 3, 1) := by decide +kernel
theorem dX6_rankOf_23 : decode cX6_rankOf 23 = .ok (.goto 4, 3) := by decide +kernel
theorem dX6_rankOf_26 : decode cX6_rankOf 26 = .ok (.iconst (-1), 1) := by decide +kernel
theorem dX6_rankOf_27 : decode cX6_rankOf 27 = .ok (.ireturn, 1) := by decide +kernel
theorem dX6_rowOf_0 : decode cX6_rowOf 0 = .ok (.aload_n 0, 1) := by decide +kernel
theorem dX6_rowOf_1 : decode cX6_rowOf 1 = .ok (.invokevirtual 35, 3) := by decide +kernel
theorem dX6_rowOf_4 : decode cX6_rowOf 4 = .ok (.iconst 0, 1) := by decide +kernel
theorem dX6_rowOf_5 : decode cX6_rowOf 5 = .ok (.istore_n 3, 1) := by decide +kernel
theorem dX6_rowOf_6 : decode cX6_rowOf 6 = .ok (.iload_n 3, 1) := by decide +kernel
theorem dX6_rowOf_7 : decode cX6_rowOf 7 = .ok (.aload_n 0, 1) := by decide +kernel
theorem dX6_rowOf_8 : decode cX6_rowOf 8 = .ok (.getfield 28, 3) := by decide +kernel
theorem dX6_rowOf_11 : decode cX6_rowOf 11 = .ok (.if_icmp .ge 22, 3) := by decide +kernel
theorem dX6_rowOf_14 : decode cX6_rowOf 14 = .ok (.aload_n 0, 1) := by decide +kernel
theorem dX6_rowOf_15 : decode cX6_rowOf 15 = .ok (.getfield 18, 3) := by decide +kernel
theorem dX6_rowOf_18 : decode cX6_rowOf 18 = .ok (.iload_n 3, 1) := by decide +kernel
theorem dX6_rowOf_19 : decode cX6_rowOf 19 = .ok (.laload, 1) := by decide +kernel
theorem dX6_rowOf_20 : decode cX6_rowOf 20 = .ok (.lload_n 1, 1) := by decide +kernel
theorem dX6_rowOf_21 : decode cX6_rowOf 21 = .ok (.lcmp, 1) := by decide +kernel
theorem dX6_rowOf_22 : decode cX6_rowOf 22 = .ok (.ifCond .ne 5, 3) := by decide +kernel
theorem dX6_rowOf_25 : decode cX6_rowOf 25 = .ok (.iload_n 3, 1) := by decide +kernel
theorem dX6_rowOf_26 : decode cX6_rowOf 26 = .ok (.ireturn, 1) := by decide +kernel
theorem dX6_rowOf_27 : decode cX6_rowOf 27 = .ok (.iinc 3 1, 3) := by decide +kernel
theorem dX6_rowOf_30 : decode cX6_rowOf 30 = .ok (.goto (-24), 3) := by decide +kernel
theorem dX6_rowOf_33 : decode cX6_rowOf 33 = .ok (.iconst (-1), 1) := by decide +kernel
theorem dX6_rowOf_34 : decode cX6_rowOf 34 = .ok (.ireturn, 1) := by decide +kernel
theorem dX6_countGreatest_0 : decode cX6_countGreatest 0 = .ok (.aload_n 0, 1) := by decide +kernel
theorem dX6_countGreatest_1 : decode cX6_countGreatest 1 = .ok (.invokevirtual 35, 3) := by decide +kernel
theorem dX6_countGreatest_4 : decode cX6_countGreatest 4 = .ok (.iconst 0, 1) := by decide +kernel
theorem dX6_countGreatest_5 : decode cX6_countGreatest 5 = .ok (.istore_n 3, 1) := by decide +kernel
theorem dX6_countGreatest_6 : decode cX6_countGreatest 6 = .ok (.iconst 0, 1) := by decide +kernel
theorem dX6_countGreatest_7 : decode cX6_countGreatest 7 = .ok (.istore 4, 2) := by decide +kernel
theorem dX6_countGreatest_9 : decode cX6_countGreatest 9 = .ok (.iload 4, 2) := by decide +kernel
theorem dX6_countGreatest_11 : decode cX6_countGreatest 11 = .ok (.aload_n 0, 1) := by decide +kernel
theorem dX6_countGreatest_12 : decode cX6_countGreatest 12 = .ok (.getfield 28, 3) := by decide +kernel
theorem dX6_countGreatest_15 : decode cX6_countGreatest 15 = .ok (.if_icmp .ge 24, 3) := by decide +kernel
theorem dX6_countGreatest_18 : decode cX6_countGreatest 18 = .ok (.aload_n 0, 1) := by decide +kernel
theorem dX6_countGreatest_19 : decode cX6_countGreatest 19 = .ok (.getfield 18, 3) := by decide +kernel
theorem dX6_countGreatest_22 : decode cX6_countGreatest 22 = .ok (.iload 4, 2) := by decide +kernel
theorem dX6_countGreatest_24 : decode cX6_countGreatest 24 = .ok (.laload, 1) := by decide +kernel
theorem dX6_countGreatest_25 : decode cX6_countGreatest 25 = .ok (.lload_n 1, 1) := by decide +kernel
theorem dX6_countGreatest_26 : decode cX6_countGreatest 26 = .ok (.lcmp, 1) := by decide +kernel
theorem dX6_countGreatest_27 : decode cX6_countGreatest 27 = .ok (.ifCond .ne 6, 3) := by decide +kernel
theorem dX6_countGreatest_30 : decode cX6_countGreatest 30 = .ok (.iinc 3 1, 3) := by decide +kernel
theorem dX6_countGreatest_33 : decode cX6_countGreatest 33 = .ok (.iinc 4 1, 3) := by decide +kernel
theorem dX6_countGreatest_36 : decode cX6_countGreatest 36 = .ok (.goto (-27), 3) := by decide +kernel
theorem dX6_countGreatest_39 : decode cX6_countGreatest 39 = .ok (.iload_n 3, 1) := by decide +kernel
theorem dX6_countGreatest_40 : decode cX6_countGreatest 40 = .ok (.ireturn, 1) := by decide +kernel
theorem dX6_has_0 : decode cX6_has 0 = .ok (.iload_n 1, 1) := by decide +kernel
theorem dX6_has_1 : decode cX6_has 1 = .ok (.ifCond .lt 15, 3) := by decide +kernel
theorem dX6_has_4 : decode cX6_has 4 = .ok (.iload_n 1, 1) := by decide +kernel
theorem dX6_has_5 : decode cX6_has 5 = .ok (.aload_n 0, 1) := by decide +kernel
theorem dX6_has_6 : decode cX6_has 6 = .ok (.getfield 28, 3) := by decide +kernel
theorem dX6_has_9 : decode cX6_has 9 = .ok (.if_icmp .ge 7, 3) := by decide +kernel
theorem dX6_has_12 : decode cX6_has 12 = .ok (.iconst 1, 1) := by decide +kernel
theorem dX6_has_13 : decode cX6_has 13 = .ok (.goto 4, 3) := by decide +kernel
theorem dX6_has_16 : decode cX6_has 16 = .ok (.iconst 0, 1) := by decide +kernel
theorem dX6_has_17 : decode cX6_has 17 = .ok (.ireturn, 1) := by decide +kernel
theorem dX6_leastAt_0 : decode cX6_leastAt 0 = .ok (.aload_n 0, 1) := by decide +kernel
theorem dX6_leastAt_1 : decode cX6_leastAt 1 = .ok (.iload_n 1, 1) := by decide +kernel
theorem dX6_leastAt_2 : decode cX6_leastAt 2 = .ok (.invokevirtual 48, 3) := by decide +kernel
theorem dX6_leastAt_5 : decode cX6_leastAt 5 = .ok (.ifCond .eq 12, 3) := by decide +kernel
theorem dX6_leastAt_8 : decode cX6_leastAt 8 = .ok (.aload_n 0, 1) := by decide +kernel
theorem dX6_leastAt_9 : decode cX6_leastAt 9 = .ok (.getfield 11, 3) := by decide +kernel
theorem dX6_leastAt_12 : decode cX6_leastAt 12 = .ok (.iload_n 1, 1) := by decide +kernel
theorem dX6_leastAt_13 : decode cX6_leastAt 13 = .ok (.laload, 1) := by decide +kernel
theorem dX6_leastAt_14 : decode cX6_leastAt 14 = .ok (.goto 6, 3) := by decide +kernel
theorem dX6_leastAt_17 : decode cX6_leastAt 17 = .ok (.ldc2_w 38, 3) := by decide +kernel
theorem dX6_leastAt_20 : decode cX6_leastAt 20 = .ok (.lreturn, 1) := by decide +kernel
theorem dX6_middleAt_0 : decode cX6_middleAt 0 = .ok (.aload_n 0, 1) := by decide +kernel
theorem dX6_middleAt_1 : decode cX6_middleAt 1 = .ok (.iload_n 1, 1) := by decide +kernel
theorem dX6_middleAt_2 : decode cX6_middleAt 2 = .ok (.invokevirtual 48, 3) := by decide +kernel
theorem dX6_middleAt_5 : decode cX6_middleAt 5 = .ok (.ifCond .eq 12, 3) := by decide +kernel
theorem dX6_middleAt_8 : decode cX6_middleAt 8 = .ok (.aload_n 0, 1) := by decide +kernel
theorem dX6_middleAt_9 : decode cX6_middleAt 9 = .ok (.getfield 15, 3) := by decide +kernel
theorem dX6_middleAt_12 : decode cX6_middleAt 12 = .ok (.iload_n 1, 1) := by decide +kernel
theorem dX6_middleAt_13 : decode cX6_middleAt 13 = .ok (.laload, 1) := by decide +kernel
theorem dX6_middleAt_14 : decode cX6_middleAt 14 = .ok (.goto 6, 3) := by decide +kernel
theorem dX6_middleAt_17 : decode cX6_middleAt 17 = .ok (.ldc2_w 38, 3) := by decide +kernel
theorem dX6_middleAt_20 : decode cX6_middleAt 20 = .ok (.lreturn, 1) := by decide +kernel
theorem dX6_stepsDownAt_0 : decode cX6_stepsDownAt 0 = .ok (.aload_n 0, 1) := by decide +kernel
theorem dX6_stepsDownAt_1 : decode cX6_stepsDownAt 1 = .ok (.iload_n 1, 1) := by decide +kernel
theorem dX6_stepsDownAt_2 : decode cX6_stepsDownAt 2 = .ok (.invokevirtual 48, 3) := by decide +kernel
theorem dX6_stepsDownAt_5 : decode cX6_stepsDownAt 5 = .ok (.ifCond .eq 12, 3) := by decide +kernel
theorem dX6_stepsDownAt_8 : decode cX6_stepsDownAt 8 = .ok (.aload_n 0, 1) := by decide +kernel
theorem dX6_stepsDownAt_9 : decode cX6_stepsDownAt 9 = .ok (.getfield 21, 3) := by decide +kernel
theorem dX6_stepsDownAt_12 : decode cX6_stepsDownAt 12 = .ok (.iload_n 1, 1) := by decide +kernel
theorem dX6_stepsDownAt_13 : decode cX6_stepsDownAt 13 = .ok (.iaload, 1) := by decide +kernel
theorem dX6_stepsDownAt_14 : decode cX6_stepsDownAt 14 = .ok (.goto 4, 3) := by decide +kernel
theorem dX6_stepsDownAt_17 : decode cX6_stepsDownAt 17 = .ok (.iconst (-1), 1) := by decide +kernel
theorem dX6_stepsDownAt_18 : decode cX6_stepsDownAt 18 = .ok (.ireturn, 1) := by decide +kernel
theorem dX6_fill_0 : decode cX6_fill 0 = .ok (.aload_n 0, 1) := by decide +kernel
theorem dX6_fill_1 : decode cX6_fill 1 = .ok (.getfield 28, 3) := by decide +kernel
theorem dX6_fill_4 : decode cX6_fill 4 = .ok (.ifCond .le 4, 3) := by decide +kernel
theorem dX6_fill_7 : decode cX6_fill 7 = .ok (.return_, 1) := by decide +kernel
theorem dX6_fill_8 : decode cX6_fill 8 = .ok (.aload_n 0, 1) := by decide +kernel
theorem dX6_fill_9 : decode cX6_fill 9 = .ok (.lconst 1, 1) := by decide +kernel
theorem dX6_fill_10 : decode cX6_fill 10 = .ok (.ldc2_w 52, 3) := by decide +kernel
theorem dX6_fill_13 : decode cX6_fill 13 = .ok (.ldc2_w 54, 3) := by decide +kernel
theorem dX6_fill_16 : decode cX6_fill 16 = .ok (.iconst 2, 1) := by decide +kernel
theorem dX6_fill_17 : decode cX6_fill 17 = .ok (.invokevirtual 56, 3) := by decide +kernel
theorem dX6_fill_20 : decode cX6_fill 20 = .ok (.iconst 0, 1) := by decide +kernel
theorem dX6_fill_21 : decode cX6_fill 21 = .ok (.istore_n 1, 1) := by decide +kernel
theorem dX6_fill_22 : decode cX6_fill 22 = .ok (.iload_n 1, 1) := by decide +kernel
theorem dX6_fill_23 : decode cX6_fill 23 = .ok (.aload_n 0, 1) := by decide +kernel
theorem dX6_fill_24 : decode cX6_fill 24 = .ok (.getfield 28, 3) := by decide +kernel
theorem dX6_fill_27 : decode cX6_fill 27 = .ok (.if_icmp .ge 71, 3) := by decide +kernel
theorem dX6_fill_30 : decode cX6_fill 30 = .ok (.iload_n 1, 1) := by decide +kernel
theorem dX6_fill_31 : decode cX6_fill 31 = .ok (.sipush 160, 3) := by decide +kernel
theorem dX6_fill_34 : decode cX6_fill 34 = .ok (.if_icmp .ge 64, 3) := by decide +kernel
theorem dX6_fill_37 : decode cX6_fill 37 = .ok (.aload_n 0, 1) := by decide +kernel
theorem dX6_fill_38 : decode cX6_fill 38 = .ok (.getfield 11, 3) := by decide +kernel
theorem dX6_fill_41 : decode cX6_fill 41 = .ok (.iload_n 1, 1) := by decide +kernel
theorem dX6_fill_42 : decode cX6_fill 42 = .ok (.laload, 1) := by decide +kernel
theorem dX6_fill_43 : decode cX6_fill 43 = .ok (.lstore_n 2, 1) := by decide +kernel
theorem dX6_fill_44 : decode cX6_fill 44 = .ok (.aload_n 0, 1) := by decide +kernel
theorem dX6_fill_45 : decode cX6_fill 45 = .ok (.getfield 15, 3) := by decide +kernel
theorem dX6_fill_48 : decode cX6_fill 48 = .ok (.iload_n 1, 1) := by decide +kernel
theorem dX6_fill_49 : decode cX6_fill 49 = .ok (.laload, 1) := by decide +kernel
theorem dX6_fill_50 : decode cX6_fill 50 = .ok (.lstore 4, 2) := by decide +kernel
theorem dX6_fill_52 : decode cX6_fill 52 = .ok (.aload_n 0, 1) := by decide +kernel
theorem dX6_fill_53 : decode cX6_fill 53 = .ok (.getfield 18, 3) := by decide +kernel
theorem dX6_fill_56 : decode cX6_fill 56 = .ok (.iload_n 1, 1) := by decide +kernel
theorem dX6_fill_57 : decode cX6_fill 57 = .ok (.laload, 1) := by decide +kernel
theorem dX6_fill_58 : decode cX6_fill 58 = .ok (.lstore 6, 2) := by decide +kernel
theorem dX6_fill_60 : decode cX6_fill 60 = .ok (.aload_n 0, 1) := by decide +kernel
theorem dX6_fill_61 : decode cX6_fill 61 = .ok (.getfield 21, 3) := by decide +kernel
theorem dX6_fill_64 : decode cX6_fill 64 = .ok (.iload_n 1, 1) := by decide +kernel
theorem dX6_fill_65 : decode cX6_fill 65 = .ok (.iaload, 1) := by decide +kernel
theorem dX6_fill_66 : decode cX6_fill 66 = .ok (.iconst 1, 1) := by decide +kernel
theorem dX6_fill_67 : decode cX6_fill 67 = .ok (.iadd, 1) := by decide +kernel
theorem dX6_fill_68 : decode cX6_fill 68 = .ok (.istore 8, 2) := by decide +kernel
theorem dX6_fill_70 : decode cX6_fill 70 = .ok (.aload_n 0, 1) := by decide +kernel
theorem dX6_fill_71 : decode cX6_fill 71 = .ok (.lload_n 2, 1) := by decide +kernel
theorem dX6_fill_72 : decode cX6_fill 72 = .ok (.lload 6, 2) := by decide +kernel
theorem dX6_fill_74 : decode cX6_fill 74 = .ok (.lload 4, 2) := by decide +kernel
theorem dX6_fill_76 : decode cX6_fill 76 = .ok (.iload 8, 2) := by decide +kernel
theorem dX6_fill_78 : decode cX6_fill 78 = .ok (.invokevirtual 60, 3) := by decide +kernel
theorem dX6_fill_81 : decode cX6_fill 81 = .ok (.aload_n 0, 1) := by decide +kernel
theorem dX6_fill_82 : decode cX6_fill 82 = .ok (.lload 4, 2) := by decide +kernel
theorem dX6_fill_84 : decode cX6_fill 84 = .ok (.lload 6, 2) := by decide +kernel
theorem dX6_fill_86 : decode cX6_fill 86 = .ok (.lload_n 2, 1) := by decide +kernel
theorem dX6_fill_87 : decode cX6_fill 87 = .ok (.iload 8, 2) := by decide +kernel
theorem dX6_fill_89 : decode cX6_fill 89 = .ok (.invokevirtual 60, 3) := by decide +kernel
theorem dX6_fill_92 : decode cX6_fill 92 = .ok (.iinc 1 1, 3) := by decide +kernel
theorem dX6_fill_95 : decode cX6_fill 95 = .ok (.goto (-73), 3) := by decide +kernel
theorem dX6_fill_98 : decode cX6_fill 98 = .ok (.aload_n 0, 1) := by decide +kernel
theorem dX6_fill_99 : decode cX6_fill 99 = .ok (.invokevirtual 63, 3) := by decide +kernel
theorem dX6_fill_102 : decode cX6_fill 102 = .ok (.return_, 1) := by decide +kernel
theorem dX6_putNext_0 : decode cX6_putNext 0 = .ok (.lload_n 3, 1) := by decide +kernel
theorem dX6_putNext_1 : decode cX6_putNext 1 = .ok (.lconst 1, 1) := by decide +kernel
theorem dX6_putNext_2 : decode cX6_putNext 2 = .ok (.lcmp, 1) := by decide +kernel
theorem dX6_putNext_3 : decode cX6_putNext 3 = .ok (.ifCond .lt 20, 3) := by decide +kernel
theorem dX6_putNext_6 : decode cX6_putNext 6 = .ok (.lload_n 1, 1) := by decide +kernel
theorem dX6_putNext_7 : decode cX6_putNext 7 = .ok (.ldc2_w 66, 3) := by decide +kernel
theorem dX6_putNext_10 : decode cX6_putNext 10 = .ok (.lload 5, 2) := by decide +kernel
theorem dX6_putNext_12 : decode cX6_putNext 12 = .ok (.ladd, 1) := by decide +kernel
theorem dX6_putNext_13 : decode cX6_putNext 13 = .ok (.ldc2_w 68, 3) := by decide +kernel
theorem dX6_putNext_16 : decode cX6_putNext 16 = .ok (.lload_n 3, 1) := by decide +kernel
theorem dX6_putNext_17 : decode cX6_putNext 17 = .ok (.lmul, 1) := by decide +kernel
theorem dX6_putNext_18 : decode cX6_putNext 18 = .ok (.ldiv, 1) := by decide +kernel
theorem dX6_putNext_19 : decode cX6_putNext 19 = .ok (.lcmp, 1) := by decide +kernel
theorem dX6_putNext_20 : decode cX6_putNext 20 = .ok (.ifCond .le 4, 3) := by decide +kernel
theorem dX6_putNext_23 : decode cX6_putNext 23 = .ok (.return_, 1) := by decide +kernel
theorem dX6_putNext_24 : decode cX6_putNext 24 = .ok (.aload_n 0, 1) := by decide +kernel
theorem dX6_putNext_25 : decode cX6_putNext 25 = .ok (.lload_n 1, 1) := by decide +kernel
theorem dX6_putNext_26 : decode cX6_putNext 26 = .ok (.lload_n 3, 1) := by decide +kernel
theorem dX6_putNext_27 : decode cX6_putNext 27 = .ok (.ldc2_w 68, 3) := by decide +kernel
theorem dX6_putNext_30 : decode cX6_putNext 30 = .ok (.lload_n 1, 1) := by decide +kernel
theorem dX6_putNext_31 : decode cX6_putNext 31 = .ok (.lmul, 1) := by decide +kernel
theorem dX6_putNext_32 : decode cX6_putNext 32 = .ok (.lload_n 3, 1) := by decide +kernel
theorem dX6_putNext_33 : decode cX6_putNext 33 = .ok (.lmul, 1) := by decide +kernel
theorem dX6_putNext_34 : decode cX6_putNext 34 = .ok (.lload 5, 2) := by decide +kernel
theorem dX6_putNext_36 : decode cX6_putNext 36 = .ok (.lsub, 1) := by decide +kernel
theorem dX6_putNext_37 : decode cX6_putNext 37 = .ok (.iload 7, 2) := by decide +kernel
theorem dX6_putNext_39 : decode cX6_putNext 39 = .ok (.invokevirtual 56, 3) := by decide +kernel
theorem dX6_putNext_42 : decode cX6_putNext 42 = .ok (.return_, 1) := by decide +kernel
theorem dX6_putRow_0 : decode cX6_putRow 0 = .ok (.aload_n 0, 1) := by decide +kernel
theorem dX6_putRow_1 : decode cX6_putRow 1 = .ok (.getfield 28, 3) := by decide +kernel
theorem dX6_putRow_4 : decode cX6_putRow 4 = .ok (.sipush 160, 3) := by decide +kernel
theorem dX6_putRow_7 : decode cX6_putRow 7 = .ok (.if_icmp .lt 4, 3) := by decide +kernel
theorem dX6_putRow_10 : decode cX6_putRow 10 = .ok (.return_, 1) := by decide +kernel
theorem dX6_putRow_11 : decode cX6_putRow 11 = .ok (.aload_n 0, 1) := by decide +kernel
theorem dX6_putRow_12 : decode cX6_putRow 12 = .ok (.getfield 28, 3) := by decide +kernel
theorem dX6_putRow_15 : decode cX6_putRow 15 = .ok (.istore 8, 2) := by decide +kernel
theorem dX6_putRow_17 : decode cX6_putRow 17 = .ok (.iload 8, 2) := by decide +kernel
theorem dX6_putRow_19 : decode cX6_putRow 19 = .ok (.ifCond .le 117, 3) := by decide +kernel
theorem dX6_putRow_22 : decode cX6_putRow 22 = .ok (.aload_n 0, 1) := by decide +kernel
theorem dX6_putRow_23 : decode cX6_putRow 23 = .ok (.getfield 18, 3) := by decide +kernel
theorem dX6_putRow_26 : decode cX6_putRow 26 = .ok (.iload 8, 2) := by decide +kernel
theorem dX6_putRow_28 : decode cX6_putRow 28 = .ok (.iconst 1, 1) := by decide +kernel
theorem dX6_putRow_29 : decode cX6_putRow 29 = .ok (.isub, 1) := by decide +kernel
theorem dX6_putRow_30 : decode cX6_putRow 30 = .ok (.laload, 1) := by decide +kernel
theorem dX6_putRow_31 : decode cX6_putRow 31 = .ok (.lload 5, 2) := by decide +kernel
theorem dX6_putRow_33 : decode cX6_putRow 33 = .ok (.lcmp, 1) := by decide +kernel
theorem dX6_putRow_34 : decode cX6_putRow 34 = .ok (.ifCond .gt 32, 3) := by decide +kernel
theorem dX6_putRow_37 : decode cX6_putRow 37 = .ok (.aload_n 0, 1) := by decide +kernel
theorem dX6_putRow_38 : decode cX6_putRow 38 = .ok (.getfield 18, 3) := by decide +kernel
theorem dX6_putRow_41 : decode cX6_putRow 41 = .ok (.iload 8, 2) := by decide +kernel
theorem dX6_putRow_43 : decode cX6_putRow 43 = .ok (.iconst 1, 1) := by decide +kernel
theorem dX6_putRow_44 : decode cX6_putRow 44 = .ok (.isub, 1) := by decide +kernel
theorem dX6_putRow_45 : decode cX6_putRow 45 = .ok (.laload, 1) := by decide +kernel
theorem dX6_putRow_46 : decode cX6_putRow 46 = .ok (.lload 5, 2) := by decide +kernel
theorem dX6_putRow_48 : decode cX6_putRow 48 = .ok (.lcmp, 1) := by decide +kernel
theorem dX6_putRow_49 : decode cX6_putRow 49 = .ok (.ifCond .ne 87, 3) := by decide +kernel
theorem dX6_putRow_52 : decode cX6_putRow 52 = .ok (.aload_n 0, 1) := by decide +kernel
theorem dX6_putRow_53 : decode cX6_putRow 53 = .ok (.getfield 11, 3) := by decide +kernel
theorem dX6_putRow_56 : decode cX6_putRow 56 = .ok (.iload 8, 2) := by decide +kernel
theorem dX6_putRow_58 : decode cX6_putRow 58 = .ok (.iconst 1, 1) := by decide +kernel
theorem dX6_putRow_59 : decode cX6_putRow 59 = .ok (.isub, 1) := by decide +kernel
theorem dX6_putRow_60 : decode cX6_putRow 60 = .ok (.laload, 1) := by decide +kernel
theorem dX6_putRow_61 : decode cX6_putRow 61 = .ok (.lload_n 1, 1) := by decide +kernel
theorem dX6_putRow_62 : decode cX6_putRow 62 = .ok (.lcmp, 1) := by decide +kernel
theorem dX6_putRow_63 : decode cX6_putRow 63 = .ok (.ifCond .le 73, 3) := by decide +kernel
theorem dX6_putRow_66 : decode cX6_putRow 66 = .ok (.aload_n 0, 1) := by decide +kernel
theorem dX6_putRow_67 : decode cX6_putRow 67 = .ok (.getfield 11, 3) := by decide +kernel
theorem dX6_putRow_70 : decode cX6_putRow 70 = .ok (.iload 8, 2) := by decide +kernel
theorem dX6_putRow_72 : decode cX6_putRow 72 = .ok (.aload_n 0, 1) := by decide +kernel
theorem dX6_putRow_73 : decode cX6_putRow 73 = .ok (.getfield 11, 3) := by decide +kernel
theorem dX6_putRow_76 : decode cX6_putRow 76 = .ok (.iload 8, 2) := by decide +kernel
theorem dX6_putRow_78 : decode cX6_putRow 78 = .ok (.iconst 1, 1) := by decide +kernel
theorem dX6_putRow_79 : decode cX6_putRow 79 = .ok (.isub, 1) := by decide +kernel
theorem dX6_putRow_80 : decode cX6_putRow 80 = .ok (.laload, 1) := by decide +kernel
theorem dX6_putRow_81 : decode cX6_putRow 81 = .ok (.lastore, 1) := by decide +kernel
theorem dX6_putRow_82 : decode cX6_putRow 82 = .ok (.aload_n 0, 1) := by decide +kernel
theorem dX6_putRow_83 : decode cX6_putRow 83 = .ok (.getfield 15, 3) := by decide +kernel
theorem dX6_putRow_86 : decode cX6_putRow 86 = .ok (.iload 8, 2) := by decide +kernel
theorem dX6_putRow_88 : decode cX6_putRow 88 = .ok (.aload_n 0, 1) := by decide +kernel
theorem dX6_putRow_89 : decode cX6_putRow 89 = .ok (.getfield 15, 3) := by decide +kernel
theorem dX6_putRow_92 : decode cX6_putRow 92 = .ok (.iload 8, 2) := by decide +kernel
theorem dX6_putRow_94 : decode cX6_putRow 94 = .ok (.iconst 1, 1) := by decide +kernel
theorem dX6_putRow_95 : decode cX6_putRow 95 = .ok (.isub, 1) := by decide +kernel
theorem dX6_putRow_96 : decode cX6_putRow 96 = .ok (.laload, 1) := by decide +kernel
theorem dX6_putRow_97 : decode cX6_putRow 97 = .ok (.lastore, 1) := by decide +kernel
theorem dX6_putRow_98 : decode cX6_putRow 98 = .ok (.aload_n 0, 1) := by decide +kernel
theorem dX6_putRow_99 : decode cX6_putRow 99 = .ok (.getfield 18, 3) := by decide +kernel
theorem dX6_putRow_102 : decode cX6_putRow 102 = .ok (.iload 8, 2) := by decide +kernel
theorem dX6_putRow_104 : decode cX6_putRow 104 = .ok (.aload_n 0, 1) := by decide +kernel
theorem dX6_putRow_105 : decode cX6_putRow 105 = .ok (.getfield 18, 3) := by decide +kernel
theorem dX6_putRow_108 : decode cX6_putRow 108 = .ok (.iload 8, 2) := by decide +kernel
theorem dX6_putRow_110 : decode cX6_putRow 110 = .ok (.iconst 1, 1) := by decide +kernel
theorem dX6_putRow_111 : decode cX6_putRow 111 = .ok (.isub, 1) := by decide +kernel
theorem dX6_putRow_112 : decode cX6_putRow 112 = .ok (.laload, 1) := by decide +kernel
theorem dX6_putRow_113 : decode cX6_putRow 113 = .ok (.lastore, 1) := by decide +kernel
theorem dX6_putRow_114 : decode cX6_putRow 114 = .ok (.aload_n 0, 1) := by decide +kernel
theorem dX6_putRow_115 : decode cX6_putRow 115 = .ok (.getfield 21, 3) := by decide +kernel
theorem dX6_putRow_118 : decode cX6_putRow 118 = .ok (.iload 8, 2) := by decide +kernel
theorem dX6_putRow_120 : decode cX6_putRow 120 = .ok (.aload_n 0, 1) := by decide +kernel
theorem dX6_putRow_121 : decode cX6_putRow 121 = .ok (.getfield 21, 3) := by decide +kernel
theorem dX6_putRow_124 : decode cX6_putRow 124 = .ok (.iload 8, 2) := by decide +kernel
theorem dX6_putRow_126 : decode cX6_putRow 126 = .ok (.iconst 1, 1) := by decide +kernel
theorem dX6_putRow_127 : decode cX6_putRow 127 = .ok (.isub, 1) := by decide +kernel
theorem dX6_putRow_128 : decode cX6_putRow 128 = .ok (.iaload, 1) := by decide +kernel
theorem dX6_putRow_129 : decode cX6_putRow 129 = .ok (.iastore, 1) := by decide +kernel
theorem dX6_putRow_130 : decode cX6_putRow 130 = .ok (.iinc 8 (-1), 3) := by decide +kernel
theorem dX6_putRow_133 : decode cX6_putRow 133 = .ok (.goto (-116), 3) := by decide +kernel
theorem dX6_putRow_136 : decode cX6_putRow 136 = .ok (.aload_n 0, 1) := by decide +kernel
theorem dX6_putRow_137 : decode cX6_putRow 137 = .ok (.getfield 11, 3) := by decide +kernel
theorem dX6_putRow_140 : decode cX6_putRow 140 = .ok (.iload 8, 2) := by decide +kernel
theorem dX6_putRow_142 : decode cX6_putRow 142 = .ok (.lload_n 1, 1) := by decide +kernel
theorem dX6_putRow_143 : decode cX6_putRow 143 = .ok (.lastore, 1) := by decide +kernel
theorem dX6_putRow_144 : decode cX6_putRow 144 = .ok (.aload_n 0, 1) := by decide +kernel
theorem dX6_putRow_145 : decode cX6_putRow 145 = .ok (.getfield 15, 3) := by decide +kernel
theorem dX6_putRow_148 : decode cX6_putRow 148 = .ok (.iload 8, 2) := by decide +kernel
theorem dX6_putRow_150 : decode cX6_putRow 150 = .ok (.lload_n 3, 1) := by decide +kernel
theorem dX6_putRow_151 : decode cX6_putRow 151 = .ok (.lastore, 1) := by decide +kernel
theorem dX6_putRow_152 : decode cX6_putRow 152 = .ok (.aload_n 0, 1) := by decide +kernel
theorem dX6_putRow_153 : decode cX6_putRow 153 = .ok (.getfield 18, 3) := by decide +kernel
theorem dX6_putRow_156 : decode cX6_putRow 156 = .ok (.iload 8, 2) := by decide +kernel
theorem dX6_putRow_158 : decode cX6_putRow 158 = .ok (.lload 5, 2) := by decide +kernel
theorem dX6_putRow_160 : decode cX6_putRow 160 = .ok (.lastore, 1) := by decide +kernel
theorem dX6_putRow_161 : decode cX6_putRow 161 = .ok (.aload_n 0, 1) := by decide +kernel
theorem dX6_putRow_162 : decode cX6_putRow 162 = .ok (.getfield 21, 3) := by decide +kernel
theorem dX6_putRow_165 : decode cX6_putRow 165 = .ok (.iload 8, 2) := by decide +kernel
theorem dX6_putRow_167 : decode cX6_putRow 167 = .ok (.iload 7, 2) := by decide +kernel
theorem dX6_putRow_169 : decode cX6_putRow 169 = .ok (.iastore, 1) := by decide +kernel
theorem dX6_putRow_170 : decode cX6_putRow 170 = .ok (.aload_n 0, 1) := by decide +kernel
theorem dX6_putRow_171 : decode cX6_putRow 171 = .ok (.dup, 1) := by decide +kernel
theorem dX6_putRow_172 : decode cX6_putRow 172 = .ok (.getfield 28, 3) := by decide +kernel
theorem dX6_putRow_175 : decode cX6_putRow 175 = .ok (.iconst 1, 1) := by decide +kernel
theorem dX6_putRow_176 : decode cX6_putRow 176 = .ok (.iadd, 1) := by decide +kernel
theorem dX6_putRow_177 : decode cX6_putRow 177 = .ok (.putfield 28, 3) := by decide +kernel
theorem dX6_putRow_180 : decode cX6_putRow 180 = .ok (.return_, 1) := by decide +kernel
theorem dX6_fillNumbers_0 : decode cX6_fillNumbers 0 = .ok (.aload_n 0, 1) := by decide +kernel
theorem dX6_fillNumbers_1 : decode cX6_fillNumbers 1 = .ok (.getfield 25, 3) := by decide +kernel
theorem dX6_fillNumbers_4 : decode cX6_fillNumbers 4 = .ok (.iconst 0, 1) := by decide +kernel
theorem dX6_fillNumbers_5 : decode cX6_fillNumbers 5 = .ok (.lconst 1, 1) := by decide +kernel
theorem dX6_fillNumbers_6 : decode cX6_fillNumbers 6 = .ok (.lastore, 1) := by decide +kernel
theorem dX6_fillNumbers_7 : decode cX6_fillNumbers 7 = .ok (.aload_n 0, 1) := by decide +kernel
theorem dX6_fillNumbers_8 : decode cX6_fillNumbers 8 = .ok (.getfield 25, 3) := by decide +kernel
theorem dX6_fillNumbers_11 : decode cX6_fillNumbers 11 = .ok (.iconst 1, 1) := by decide +kernel
theorem dX6_fillNumbers_12 : decode cX6_fillNumbers 12 = .ok (.ldc2_w 52, 3) := by decide +kernel
theorem dX6_fillNumbers_15 : decode cX6_fillNumbers 15 = .ok (.lastore, 1) := by decide +kernel
theorem dX6_fillNumbers_16 : decode cX6_fillNumbers 16 = .ok (.aload_n 0, 1) := by decide +kernel
theorem dX6_fillNumbers_17 : decode cX6_fillNumbers 17 = .ok (.iconst 2, 1) := by decide +kernel
theorem dX6_fillNumbers_18 : decode cX6_fillNumbers 18 = .ok (.putfield 32, 3) := by decide +kernel
theorem dX6_fillNumbers_21 : decode cX6_fillNumbers 21 = .ok (.iconst 0, 1) := by decide +kernel
theorem dX6_fillNumbers_22 : decode cX6_fillNumbers 22 = .ok (.istore_n 1, 1) := by decide +kernel
theorem dX6_fillNumbers_23 : decode cX6_fillNumbers 23 = .ok (.iload_n 1, 1) := by decide +kernel
theorem dX6_fillNumbers_24 : decode cX6_fillNumbers 24 = .ok (.aload_n 0, 1) := by decide +kernel
theorem dX6_fillNumbers_25 : decode cX6_fillNumbers 25 = .ok (.getfield 28, 3) := by decide +kernel
theorem dX6_fillNumbers_28 : decode cX6_fillNumbers 28 = .ok (.if_icmp .ge 65, 3) := by decide +kernel
theorem dX6_fillNumbers_31 : decode cX6_fillNumbers 31 = .ok (.aload_n 0, 1) := by decide +kernel
theorem dX6_fillNumbers_32 : decode cX6_fillNumbers 32 = .ok (.getfield 32, 3) := by decide +kernel
theorem dX6_fillNumbers_35 : decode cX6_fillNumbers 35 = .ok (.sipush 160, 3) := by decide +kernel
theorem dX6_fillNumbers_38 : decode cX6_fillNumbers 38 = .ok (.if_icmp .ge 49, 3) := by decide +kernel
theorem dX6_fillNumbers_41 : decode cX6_fillNumbers 41 = .ok (.aload_n 0, 1) := by decide +kernel
theorem dX6_fillNumbers_42 : decode cX6_fillNumbers 42 = .ok (.getfield 18, 3) := by decide +kernel
theorem dX6_fillNumbers_45 : decode cX6_fillNumbers 45 = .ok (.iload_n 1, 1) := by decide +kernel
theorem dX6_fillNumbers_46 : decode cX6_fillNumbers 46 = .ok (.laload, 1) := by decide +kernel
theorem dX6_fillNumbers_47 : decode cX6_fillNumbers 47 = .ok (.aload_n 0, 1) := by decide +kernel
theorem dX6_fillNumbers_48 : decode cX6_fillNumbers 48 = .ok (.getfield 25, 3) := by decide +kernel
theorem dX6_fillNumbers_51 : decode cX6_fillNumbers 51 = .ok (.aload_n 0, 1) := by decide +kernel
theorem dX6_fillNumbers_52 : decode cX6_fillNumbers 52 = .ok (.getfield 32, 3) := by decide +kernel
theorem dX6_fillNumbers_55 : decode cX6_fillNumbers 55 = .ok (.iconst 1, 1) := by decide +kernel
theorem dX6_fillNumbers_56 : decode cX6_fillNumbers 56 = .ok (.isub, 1) := by decide +kernel
theorem dX6_fillNumbers_57 : decode cX6_fillNumbers 57 = .ok (.laload, 1) := by decide +kernel
theorem dX6_fillNumbers_58 : decode cX6_fillNumbers 58 = .ok (.lcmp, 1) := by decide +kernel
theorem dX6_fillNumbers_59 : decode cX6_fillNumbers 59 = .ok (.ifCond .eq 28, 3) := by decide +kernel
theorem dX6_fillNumbers_62 : decode cX6_fillNumbers 62 = .ok (.aload_n 0, 1) := by decide +kernel
theorem dX6_fillNumbers_63 : decode cX6_fillNumbers 63 = .ok (.getfield 25, 3) := by decide +kernel
theorem dX6_fillNumbers_66 : decode cX6_fillNumbers 66 = .ok (.aload_n 0, 1) := by decide +kernel
theorem dX6_fillNumbers_67 : decode cX6_fillNumbers 67 = .ok (.getfield 32, 3) := by decide +kernel
theorem dX6_fillNumbers_70 : decode cX6_fillNumbers 70 = .ok (.aload_n 0, 1) := by decide +kernel
theorem dX6_fillNumbers_71 : decode cX6_fillNumbers 71 = .ok (.getfield 18, 3) := by decide +kernel
theorem dX6_fillNumbers_74 : decode cX6_fillNumbers 74 = .ok (.iload_n 1, 1) := by decide +kernel
theorem dX6_fillNumbers_75 : decode cX6_fillNumbers 75 = .ok (.laload, 1) := by decide +kernel
theorem dX6_fillNumbers_76 : decode cX6_fillNumbers 76 = .ok (.lastore, 1) := by decide +kernel
theorem dX6_fillNumbers_77 : decode cX6_fillNumbers 77 = .ok (.aload_n 0, 1) := by decide +kernel
theorem dX6_fillNumbers_78 : decode cX6_fillNumbers 78 = .ok (.dup, 1) := by decide +kernel
theorem dX6_fillNumbers_79 : decode cX6_fillNumbers 79 = .ok (.getfield 32, 3) := by decide +kernel
theorem dX6_fillNumbers_82 : decode cX6_fillNumbers 82 = .ok (.iconst 1, 1) := by decide +kernel
theorem dX6_fillNumbers_83 : decode cX6_fillNumbers 83 = .ok (.iadd, 1) := by decide +kernel
theorem dX6_fillNumbers_84 : decode cX6_fillNumbers 84 = .ok (.putfield 32, 3) := by decide +kernel
theorem dX6_fillNumbers_87 : decode cX6_fillNumbers 87 = .ok (.iinc 1 1, 3) := by decide +kernel
theorem dX6_fillNumbers_90 : decode cX6_fillNumbers 90 = .ok (.goto (-67), 3) := by decide +kernel
theorem dX6_fillNumbers_93 : decode cX6_fillNumbers 93 = .ok (.return_, 1) := by decide +kernel
theorem dX7_init_0 : decode cX7_init 0 = .ok (.aload_n 0, 1) := by decide +kernel
theorem dX7_init_1 : decode cX7_init 1 = .ok (.invokespecial 3, 3) := by decide +kernel
theorem dX7_init_4 : decode cX7_init 4 = .ok (.aload_n 0, 1) := by decide +kernel
theorem dX7_init_5 : decode cX7_init 5 = .ok (.sipush 240, 3) := by decide +kernel
theorem dX7_init_8 : decode cX7_init 8 = .ok (.newarray .byte, 2) := by decide +kernel
theorem dX7_init_10 : decode cX7_init 10 = .ok (.putfield 11, 3) := by decide +kernel
theorem dX7_init_13 : decode cX7_init 13 = .ok (.aload_n 0, 1) := by decide +kernel
theorem dX7_init_14 : decode cX7_init 14 = .ok (.iconst 0, 1) := by decide +kernel
theorem dX7_init_15 : decode cX7_init 15 = .ok (.putfield 15, 3) := by decide +kernel
theorem dX7_init_18 : decode cX7_init 18 = .ok (.return_, 1) := by decide +kernel
theorem dX7_length_0 : decode cX7_length 0 = .ok (.aload_n 0, 1) := by decide +kernel
theorem dX7_length_1 : decode cX7_length 1 = .ok (.getfield 15, 3) := by decide +kernel
theorem dX7_length_4 : decode cX7_length 4 = .ok (.ireturn, 1) := by decide +kernel
theorem dX7_hasRoom_0 : decode cX7_hasRoom 0 = .ok (.aload_n 0, 1) := by decide +kernel
theorem dX7_hasRoom_1 : decode cX7_hasRoom 1 = .ok (.getfield 15, 3) := by decide +kernel
theorem dX7_hasRoom_4 : decode cX7_hasRoom 4 = .ok (.bipush 20, 2) := by decide +kernel
theorem dX7_hasRoom_6 : decode cX7_hasRoom 6 = .ok (.iadd, 1) := by decide +kernel
theorem dX7_hasRoom_7 : decode cX7_hasRoom 7 = .ok (.sipush 240, 3) := by decide +kernel
theorem dX7_hasRoom_10 : decode cX7_hasRoom 10 = .ok (.if_icmp .gt 7, 3) := by decide +kernel
theorem dX7_hasRoom_13 : decode cX7_hasRoom 13 = .ok (.iconst 1, 1) := by decide +kernel
theorem dX7_hasRoom_14 : decode cX7_hasRoom 14 = .ok (.goto 4, 3) := by decide +kernel
theorem dX7_hasRoom_17 : decode cX7_hasRoom 17 = .ok (.iconst 0, 1) := by decide +kernel
theorem dX7_hasRoom_18 : decode cX7_hasRoom 18 = .ok (.ireturn, 1) := by decide +kernel
theorem dX7_putNumber_0 : decode cX7_putNumber 0 = .ok (.bipush 24, 2) := by decide +kernel
theorem dX7_putNumber_2 : decode cX7_putNumber 2 = .ok (.istore_n 2, 1) := by decide +kernel
theorem dX7_putNumber_3 : decode cX7_putNumber 3 = .ok (.iload_n 2, 1) := by decide +kernel
theorem dX7_putNumber_4 : decode cX7_putNumber 4 = .ok (.ifCond .lt 42, 3) := by decide +kernel
theorem dX7_putNumber_7 : decode cX7_putNumber 7 = .ok (.aload_n 0, 1) := by decide +kernel
theorem dX7_putNumber_8 : decode cX7_putNumber 8 = .ok (.getfield 15, 3) := by decide +kernel
theorem dX7_putNumber_11 : decode cX7_putNumber 11 = .ok (.sipush 240, 3) := by decide +kernel
theorem dX7_putNumber_14 : decode cX7_putNumber 14 = .ok (.if_icmp .ge 32, 3) := by decide +kernel
theorem dX7_putNumber_17 : decode cX7_putNumber 17 = .ok (.aload_n 0, 1) := by decide +kernel
theorem dX7_putNumber_18 : decode cX7_putNumber 18 = .ok (.getfield 11, 3) := by decide +kernel
theorem dX7_putNumber_21 : decode cX7_putNumber 21 = .ok (.aload_n 0, 1) := by decide +kernel
theorem dX7_putNumber_22 : decode cX7_putNumber 22 = .ok (.getfield 15, 3) := by decide +kernel
theorem dX7_putNumber_25 : decode cX7_putNumber 25 = .ok (.iload_n 1, 1) := by decide +kernel
theorem dX7_putNumber_26 : decode cX7_putNumber 26 = .ok (.iload_n 2, 1) := by decide +kernel
theorem dX7_putNumber_27 : decode cX7_putNumber 27 = .ok (.iushr, 1) := by decide +kernel
theorem dX7_putNumber_28 : decode cX7_putNumber 28 = .ok (.i2b, 1) := by decide +kernel
theorem dX7_putNumber_29 : decode cX7_putNumber 29 = .ok (.bastore, 1) := by decide +kernel
theorem dX7_putNumber_30 : decode cX7_putNumber 30 = .ok (.aload_n 0, 1) := by decide +kernel
theorem dX7_putNumber_31 : decode cX7_putNumber 31 = .ok (.dup, 1) := by decide +kernel
theorem dX7_putNumber_32 : decode cX7_putNumber 32 = .ok (.getfield 15, 3) := by decide +kernel
theorem dX7_putNumber_35 : decode cX7_putNumber 35 = .ok (.iconst 1, 1) := by decide +kernel
theorem dX7_putNumber_36 : decode cX7_putNumber 36 = .ok (.iadd, 1) := by decide +kernel
theorem dX7_putNumber_37 : decode cX7_putNumber 37 = .ok (.putfield 15, 3) := by decide +kernel
theorem dX7_putNumber_40 : decode cX7_putNumber 40 = .ok (.iinc 2 (-8), 3) := by decide +kernel
theorem dX7_putNumber_43 : decode cX7_putNumber 43 = .ok (.goto (-40), 3) := by decide +kernel
theorem dX7_putNumber_46 : decode cX7_putNumber 46 = .ok (.return_, 1) := by decide +kernel
theorem dX7_cutTo_0 : decode cX7_cutTo 0 = .ok (.iload_n 1, 1) := by decide +kernel
theorem dX7_cutTo_1 : decode cX7_cutTo 1 = .ok (.ifCond .lt 11, 3) := by decide +kernel
theorem dX7_cutTo_4 : decode cX7_cutTo 4 = .ok (.iload_n 1, 1) := by decide +kernel
theorem dX7_cutTo_5 : decode cX7_cutTo 5 = .ok (.aload_n 0, 1) := by decide +kernel
theorem dX7_cutTo_6 : decode cX7_cutTo 6 = .ok (.getfield 15, 3) := by decide +kernel
theorem dX7_cutTo_9 : decode cX7_cutTo 9 = .ok (.if_icmp .le 5, 3) := by decide +kernel
theorem dX7_cutTo_12 : decode cX7_cutTo 12 = .ok (.iconst 0, 1) := by decide +kernel
theorem dX7_cutTo_13 : decode cX7_cutTo 13 = .ok (.ireturn, 1) := by decide +kernel
theorem dX7_cutTo_14 : decode cX7_cutTo 14 = .ok (.aload_n 0, 1) := by decide +kernel
theorem dX7_cutTo_15 : decode cX7_cutTo 15 = .ok (.iload_n 1, 1) := by decide +kernel
theorem dX7_cutTo_16 : decode cX7_cutTo 16 = .ok (.putfield 15, 3) := by decide +kernel
theorem dX7_cutTo_19 : decode cX7_cutTo 19 = .ok (.iconst 1, 1) := by decide +kernel
theorem dX7_cutTo_20 : decode cX7_cutTo 20 = .ok (.ireturn, 1) := by decide +kernel
theorem dX7_at_0 : decode cX7_at 0 = .ok (.iload_n 1, 1) := by decide +kernel
theorem dX7_at_1 : decode cX7_at 1 = .ok (.ifCond .lt 24, 3) := by decide +kernel
theorem dX7_at_4 : decode cX7_at 4 = .ok (.iload_n 1, 1) := by decide +kernel
theorem dX7_at_5 : decode cX7_at 5 = .ok (.aload_n 0, 1) := by decide +kernel
theorem dX7_at_6 : decode cX7_at 6 = .ok (.getfield 15, 3) := by decide +kernel
theorem dX7_at_9 : decode cX7_at 9 = .ok (.if_icmp .ge 16, 3) := by decide +kernel
theorem dX7_at_12 : decode cX7_at 12 = .ok (.aload_n 0, 1) := by decide +kernel
theorem dX7_at_13 : decode cX7_at 13 = .ok (.getfield 11, 3) := by decide +kernel
theorem dX7_at_16 : decode cX7_at 16 = .ok (.iload_n 1, 1) := by decide +kernel
theorem dX7_at_17 : decode cX7_at 17 = .ok (.baload, 1) := by decide +kernel
theorem dX7_at_18 : decode cX7_at 18 = .ok (.sipush 255, 3) := by decide +kernel
theorem dX7_at_21 : decode cX7_at 21 = .ok (.iand, 1) := by decide +kernel
theorem dX7_at_22 : decode cX7_at 22 = .ok (.goto 4, 3) := by decide +kernel
theorem dX7_at_25 : decode cX7_at 25 = .ok (.iconst (-1), 1) := by decide +kernel
theorem dX7_at_26 : decode cX7_at 26 = .ok (.ireturn, 1) := by decide +kernel
theorem dX8_init_0 : decode cX8_init 0 = .ok (.aload_n 0, 1) := by decide +kernel
theorem dX8_init_1 : decode cX8_init 1 = .ok (.invokespecial 3, 3) := by decide +kernel
theorem dX8_init_4 : decode cX8_init 4 = .ok (.aload_n 0, 1) := by decide +kernel
theorem dX8_init_5 : decode cX8_init 5 = .ok (.bipush 44, 2) := by decide +kernel
theorem dX8_init_7 : decode cX8_init 7 = .ok (.newarray .byte, 2) := by decide +kernel
theorem dX8_init_9 : decode cX8_init 9 = .ok (.putfield 11, 3) := by decide +kernel
theorem dX8_init_12 : decode cX8_init 12 = .ok (.aload_n 0, 1) := by decide +kernel
theorem dX8_init_13 : decode cX8_init 13 = .ok (.new 15, 3) := by decide +kernel
theorem dX8_init_16 : decode cX8_init 16 = .ok (.dup, 1) := by decide +kernel
theorem dX8_init_17 : decode cX8_init 17 = .ok (.invokespecial 17, 3) := by decide +kernel
theorem dX8_init_20 : decode cX8_init 20 = .ok (.putfield 18, 3) := by decide +kernel
theorem dX8_init_23 : decode cX8_init 23 = .ok (.aload_n 0, 1) := by decide +kernel
theorem dX8_init_24 : decode cX8_init 24 = .ok (.iconst 0, 1) := by decide +kernel
theorem dX8_init_25 : decode cX8_init 25 = .ok (.putfield 22, 3) := by decide +kernel
theorem dX8_init_28 : decode cX8_init 28 = .ok (.return_, 1) := by decide +kernel
theorem dX8_at_0 : decode cX8_at 0 = .ok (.iload_n 1, 1) := by decide +kernel
theorem dX8_at_1 : decode cX8_at 1 = .ok (.ifCond .lt 20, 3) := by decide +kernel
theorem dX8_at_4 : decode cX8_at 4 = .ok (.iload_n 1, 1) := by decide +kernel
theorem dX8_at_5 : decode cX8_at 5 = .ok (.aload_n 0, 1) := by decide +kernel
theorem dX8_at_6 : decode cX8_at 6 = .ok (.getfield 22, 3) := by decide +kernel
theorem dX8_at_9 : decode cX8_at 9 = .ok (.if_icmp .ge 12, 3) := by decide +kernel
theorem dX8_at_12 : decode cX8_at 12 = .ok (.aload_n 0, 1) := by decide +kernel
theorem dX8_at_13 : decode cX8_at 13 = .ok (.getfield 11, 3) := by decide +kernel
theorem dX8_at_16 : decode cX8_at 16 = .ok (.iload_n 1, 1) := by decide +kernel
theorem dX8_at_17 : decode cX8_at 17 = .ok (.baload, 1) := by decide +kernel
theorem dX8_at_18 : decode cX8_at 18 = .ok (.goto 4, 3) := by decide +kernel
theorem dX8_at_21 : decode cX8_at 21 = .ok (.iconst (-1), 1) := by decide +kernel
theorem dX8_at_22 : decode cX8_at 22 = .ok (.ireturn, 1) := by decide +kernel
theorem dX8_tell_0 : decode cX8_tell 0 = .ok (.aload_n 0, 1) := by decide +kernel
theorem dX8_tell_1 : decode cX8_tell 1 = .ok (.iconst 0, 1) := by decide +kernel
theorem dX8_tell_2 : decode cX8_tell 2 = .ok (.putfield 22, 3) := by decide +kernel
theorem dX8_tell_5 : decode cX8_tell 5 = .ok (.aload_n 0, 1) := by decide +kernel
theorem dX8_tell_6 : decode cX8_tell 6 = .ok (.getfield 18, 3) := by decide +kernel
theorem dX8_tell_9 : decode cX8_tell 9 = .ok (.invokevirtual 26, 3) := by decide +kernel
theorem dX8_tell_12 : decode cX8_tell 12 = .ok (.iconst 0, 1) := by decide +kernel
theorem dX8_tell_13 : decode cX8_tell 13 = .ok (.istore_n 3, 1) := by decide +kernel
theorem dX8_tell_14 : decode cX8_tell 14 = .ok (.iload_n 3, 1) := by decide +kernel
theorem dX8_tell_15 : decode cX8_tell 15 = .ok (.bipush 22, 2) := by decide +kernel
theorem dX8_tell_17 : decode cX8_tell 17 = .ok (.if_icmp .ge 70, 3) := by decide +kernel
theorem dX8_tell_20 : decode cX8_tell 20 = .ok (.aload_n 0, 1) := by decide +kernel
theorem dX8_tell_21 : decode cX8_tell 21 = .ok (.getfield 18, 3) := by decide +kernel
theorem dX8_tell_24 : decode cX8_tell 24 = .ok (.iload_n 1, 1) := by decide +kernel
theorem dX8_tell_25 : decode cX8_tell 25 = .ok (.iload_n 2, 1) := by decide +kernel
theorem dX8_tell_26 : decode cX8_tell 26 = .ok (.invokevirtual 29, 3) := by decide +kernel
theorem dX8_tell_29 : decode cX8_tell 29 = .ok (.ifCond .ne 58, 3) := by decide +kernel
theorem dX8_tell_32 : decode cX8_tell 32 = .ok (.aload_n 0, 1) := by decide +kernel
theorem dX8_tell_33 : decode cX8_tell 33 = .ok (.getfield 18, 3) := by decide +kernel
theorem dX8_tell_36 : decode cX8_tell 36 = .ok (.iload_n 1, 1) := by decide +kernel
theorem dX8_tell_37 : decode cX8_tell 37 = .ok (.iload_n 2, 1) := by decide +kernel
theorem dX8_tell_38 : decode cX8_tell 38 = .ok (.invokevirtual 33, 3) := by decide +kernel
theorem dX8_tell_41 : decode cX8_tell 41 = .ok (.istore 4, 2) := by decide +kernel
theorem dX8_tell_43 : decode cX8_tell 43 = .ok (.aload_n 0, 1) := by decide +kernel
theorem dX8_tell_44 : decode cX8_tell 44 = .ok (.iload 4, 2) := by decide +kernel
theorem dX8_tell_46 : decode cX8_tell 46 = .ok (.iload_n 1, 1) := by decide +kernel
theorem dX8_tell_47 : decode cX8_tell 47 = .ok (.iload_n 2, 1) := by decide +kernel
theorem dX8_tell_48 : decode cX8_tell 48 = .ok (.invokevirtual 37, 3) := by decide +kernel
theorem dX8_tell_51 : decode cX8_tell 51 = .ok (.istore 5, 2) := by decide +kernel
theorem dX8_tell_53 : decode cX8_tell 53 = .ok (.aload_n 0, 1) := by decide +kernel
theorem dX8_tell_54 : decode cX8_tell 54 = .ok (.iload 4, 2) := by decide +kernel
theorem dX8_tell_56 : decode cX8_tell 56 = .ok (.ifCond .ge 8, 3) := by decide +kernel
theorem dX8_tell_59 : decode cX8_tell 59 = .ok (.bipush 108, 2) := by decide +kernel
theorem dX8_tell_61 : decode cX8_tell 61 = .ok (.goto 5, 3) := by decide +kernel
theorem dX8_tell_64 : decode cX8_tell 64 = .ok (.bipush 114, 2) := by decide +kernel
theorem dX8_tell_66 : decode cX8_tell 66 = .ok (.invokevirtual 41, 3) := by decide +kernel
theorem dX8_tell_69 : decode cX8_tell 69 = .ok (.iload 5, 2) := by decide +kernel
theorem dX8_tell_71 : decode cX8_tell 71 = .ok (.iconst 1, 1) := by decide +kernel
theorem dX8_tell_72 : decode cX8_tell 72 = .ok (.if_icmp .le 9, 3) := by decide +kernel
theorem dX8_tell_75 : decode cX8_tell 75 = .ok (.aload_n 0, 1) := by decide +kernel
theorem dX8_tell_76 : decode cX8_tell 76 = .ok (.iload 5, 2) := by decide +kernel
theorem dX8_tell_78 : decode cX8_tell 78 = .ok (.invokevirtual 45, 3) := by decide +kernel
theorem dX8_tell_81 : decode cX8_tell 81 = .ok (.iinc 3 1, 3) := by decide +kernel
theorem dX8_tell_84 : decode cX8_tell 84 = .ok (.goto (-70), 3) := by decide +kernel
theorem dX8_tell_87 : decode cX8_tell 87 = .ok (.aload_n 0, 1) := by decide +kernel
theorem dX8_tell_88 : decode cX8_tell 88 = .ok (.getfield 22, 3) := by decide +kernel
theorem dX8_tell_91 : decode cX8_tell 91 = .ok (.ireturn, 1) := by decide +kernel
theorem dX8_goOn_0 : decode cX8_goOn 0 = .ok (.iconst 0, 1) := by decide +kernel
theorem dX8_goOn_1 : decode cX8_goOn 1 = .ok (.istore 4, 2) := by decide +kernel
theorem dX8_goOn_3 : decode cX8_goOn 3 = .ok (.iload 4, 2) := by decide +kernel
theorem dX8_goOn_5 : decode cX8_goOn 5 = .ok (.bipush 22, 2) := by decide +kernel
theorem dX8_goOn_7 : decode cX8_goOn 7 = .ok (.if_icmp .ge 33, 3) := by decide +kernel
theorem dX8_goOn_10 : decode cX8_goOn 10 = .ok (.aload_n 0, 1) := by decide +kernel
theorem dX8_goOn_11 : decode cX8_goOn 11 = .ok (.getfield 18, 3) := by decide +kernel
theorem dX8_goOn_14 : decode cX8_goOn 14 = .ok (.iload_n 2, 1) := by decide +kernel
theorem dX8_goOn_15 : decode cX8_goOn 15 = .ok (.iload_n 3, 1) := by decide +kernel
theorem dX8_goOn_16 : decode cX8_goOn 16 = .ok (.invokevirtual 33, 3) := by decide +kernel
theorem dX8_goOn_19 : decode cX8_goOn 19 = .ok (.iload_n 1, 1) := by decide +kernel
theorem dX8_goOn_20 : decode cX8_goOn 20 = .ok (.if_icmp .ne 20, 3) := by decide +kernel
theorem dX8_goOn_23 : decode cX8_goOn 23 = .ok (.aload_n 0, 1) := by decide +kernel
theorem dX8_goOn_24 : decode cX8_goOn 24 = .ok (.getfield 18, 3) := by decide +kernel
theorem dX8_goOn_27 : decode cX8_goOn 27 = .ok (.iload_n 1, 1) := by decide +kernel
theorem dX8_goOn_28 : decode cX8_goOn 28 = .ok (.invokevirtual 48, 3) := by decide +kernel
theorem dX8_goOn_31 : decode cX8_goOn 31 = .ok (.ifCond .eq 9, 3) := by decide +kernel
theorem dX8_goOn_34 : decode cX8_goOn 34 = .ok (.iinc 4 1, 3) := by decide +kernel
theorem dX8_goOn_37 : decode cX8_goOn 37 = .ok (.goto (-34), 3) := by decide +kernel
theorem dX8_goOn_40 : decode cX8_goOn 40 = .ok (.iload 4, 2) := by decide +kernel
theorem dX8_goOn_42 : decode cX8_goOn 42 = .ok (.ireturn, 1) := by decide +kernel
theorem dX8_putNumber_0 : decode cX8_putNumber 0 = .ok (.iload_n 1, 1) := by decide +kernel
theorem dX8_putNumber_1 : decode cX8_putNumber 1 = .ok (.bipush 9, 2) := by decide +kernel
theorem dX8_putNumber_3 : decode cX8_putNumber 3 = .ok (.if_icmp .le 14, 3) := by decide +kernel
theorem dX8_putNumber_6 : decode cX8_putNumber 6 = .ok (.aload_n 0, 1) := by decide +kernel
theorem dX8_putNumber_7 : decode cX8_putNumber 7 = .ok (.bipush 48, 2) := by decide +kernel
theorem dX8_putNumber_9 : decode cX8_putNumber 9 = .ok (.iload_n 1, 1) := by decide +kernel
theorem dX8_putNumber_10 : decode cX8_putNumber 10 = .ok (.bipush 10, 2) := by decide +kernel
theorem dX8_putNumber_12 : decode cX8_putNumber 12 = .ok (.idiv, 1) := by decide +kernel
theorem dX8_putNumber_13 : decode cX8_putNumber 13 = .ok (.iadd, 1) := by decide +kernel
theorem dX8_putNumber_14 : decode cX8_putNumber 14 = .ok (.invokevirtual 41, 3) := by decide +kernel
theorem dX8_putNumber_17 : decode cX8_putNumber 17 = .ok (.aload_n 0, 1) := by decide +kernel
theorem dX8_putNumber_18 : decode cX8_putNumber 18 = .ok (.bipush 48, 2) := by decide +kernel
theorem dX8_putNumber_20 : decode cX8_putNumber 20 = .ok (.iload_n 1, 1) := by decide +kernel
theorem dX8_putNumber_21 : decode cX8_putNumber 21 = .ok (.bipush 10, 2) := by decide +kernel
theorem dX8_putNumber_23 : decode cX8_putNumber 23 = .ok (.irem, 1) := by decide +kernel
theorem dX8_putNumber_24 : decode cX8_putNumber 24 = .ok (.iadd, 1) := by decide +kernel
theorem dX8_putNumber_25 : decode cX8_putNumber 25 = .ok (.invokevirtual 41, 3) := by decide +kernel
theorem dX8_putNumber_28 : decode cX8_putNumber 28 = .ok (.return_, 1) := by decide +kernel
theorem dX8_put_0 : decode cX8_put 0 = .ok (.aload_n 0, 1) := by decide +kernel
theorem dX8_put_1 : decode cX8_put 1 = .ok (.getfield 22, 3) := by decide +kernel
theorem dX8_put_4 : decode cX8_put 4 = .ok (.bipush 44, 2) := by decide +kernel
theorem dX8_put_6 : decode cX8_put 6 = .ok (.if_icmp .ge 24, 3) := by decide +kernel
theorem dX8_put_9 : decode cX8_put 9 = .ok (.aload_n 0, 1) := by decide +kernel
theorem dX8_put_10 : decode cX8_put 10 = .ok (.getfield 11, 3) := by decide +kernel
theorem dX8_put_13 : decode cX8_put 13 = .ok (.aload_n 0, 1) := by decide +kernel
theorem dX8_put_14 : decode cX8_put 14 = .ok (.getfield 22, 3) := by decide +kernel
theorem dX8_put_17 : decode cX8_put 17 = .ok (.iload_n 1, 1) := by decide +kernel
theorem dX8_put_18 : decode cX8_put 18 = .ok (.i2b, 1) := by decide +kernel
theorem dX8_put_19 : decode cX8_put 19 = .ok (.bastore, 1) := by decide +kernel
theorem dX8_put_20 : decode cX8_put 20 = .ok (.aload_n 0, 1) := by decide +kernel
theorem dX8_put_21 : decode cX8_put 21 = .ok (.dup, 1) := by decide +kernel
theorem dX8_put_22 : decode cX8_put 22 = .ok (.getfield 22, 3) := by decide +kernel
theorem dX8_put_25 : decode cX8_put 25 = .ok (.iconst 1, 1) := by decide +kernel
theorem dX8_put_26 : decode cX8_put 26 = .ok (.iadd, 1) := by decide +kernel
theorem dX8_put_27 : decode cX8_put 27 = .ok (.putfield 22, 3) := by decide +kernel
theorem dX8_put_30 : decode cX8_put 30 = .ok (.return_, 1) := by decide +kernel
theorem dX9_init_0 : decode cX9_init 0 = .ok (.aload_n 0, 1) := by decide +kernel
theorem dX9_init_1 : decode cX9_init 1 = .ok (.invokespecial 1, 3) := by decide +kernel
theorem dX9_init_4 : decode cX9_init 4 = .ok (.aload_n 0, 1) := by decide +kernel
theorem dX9_init_5 : decode cX9_init 5 = .ok (.iconst 0, 1) := by decide +kernel
theorem dX9_init_6 : decode cX9_init 6 = .ok (.iconst 1, 1) := by decide +kernel
theorem dX9_init_7 : decode cX9_init 7 = .ok (.invokevirtual 7, 3) := by decide +kernel
theorem dX9_init_10 : decode cX9_init 10 = .ok (.return_, 1) := by decide +kernel
theorem dX9_letterIsA_0 : decode cX9_letterIsA 0 = .ok (.iload_n 0, 1) := by decide +kernel
theorem dX9_letterIsA_1 : decode cX9_letterIsA 1 = .ok (.iload_n 1, 1) := by decide +kernel
theorem dX9_letterIsA_2 : decode cX9_letterIsA 2 = .ok (.iadd, 1) := by decide +kernel
theorem dX9_letterIsA_3 : decode cX9_letterIsA 3 = .ok (.istore_n 3, 1) := by decide +kernel
theorem dX9_letterIsA_4 : decode cX9_letterIsA 4 = .ok (.iload_n 0, 1) := by decide +kernel
theorem dX9_letterIsA_5 : decode cX9_letterIsA 5 = .ok (.ifCond .eq 8, 3) := by decide +kernel
theorem dX9_letterIsA_8 : decode cX9_letterIsA 8 = .ok (.iload_n 3, 1) := by decide +kernel
theorem dX9_letterIsA_9 : decode cX9_letterIsA 9 = .ok (.iconst 1, 1) := by decide +kernel
theorem dX9_letterIsA_10 : decode cX9_letterIsA 10 = .ok (.if_icmp .ge 5, 3) := by decide +kernel
theorem dX9_letterIsA_13 : decode cX9_letterIsA 13 = .ok (.iconst 1, 1) := by decide +kernel
theorem dX9_letterIsA_14 : decode cX9_letterIsA 14 = .ok (.ireturn, 1) := by decide +kernel
theorem dX9_letterIsA_15 : decode cX9_letterIsA 15 = .ok (.iload_n 2, 1) := by decide +kernel
theorem dX9_letterIsA_16 : decode cX9_letterIsA 16 = .ok (.iload_n 0, 1) := by decide +kernel
theorem dX9_letterIsA_17 : decode cX9_letterIsA 17 = .ok (.imul, 1) := by decide +kernel
theorem dX9_letterIsA_18 : decode cX9_letterIsA 18 = .ok (.iload_n 3, 1) := by decide +kernel
theorem dX9_letterIsA_19 : decode cX9_letterIsA 19 = .ok (.irem, 1) := by decide +kernel
theorem dX9_letterIsA_20 : decode cX9_letterIsA 20 = .ok (.iload_n 2, 1) := by decide +kernel
theorem dX9_letterIsA_21 : decode cX9_letterIsA 21 = .ok (.iconst 1, 1) := by decide +kernel
theorem dX9_letterIsA_22 : decode cX9_letterIsA 22 = .ok (.isub, 1) := by decide +kernel
theorem dX9_letterIsA_23 : decode cX9_letterIsA 23 = .ok (.iload_n 0, 1) := by decide +kernel
theorem dX9_letterIsA_24 : decode cX9_letterIsA 24 = .ok (.imul, 1) := by decide +kernel
theorem dX9_letterIsA_25 : decode cX9_letterIsA 25 = .ok (.iload_n 3, 1) := by decide +kernel
theorem dX9_letterIsA_26 : decode cX9_letterIsA 26 = .ok (.irem, 1) := by decide +kernel
theorem dX9_letterIsA_27 : decode cX9_letterIsA 27 = .ok (.if_icmp .le 7, 3) := by decide +kernel
theorem dX9_letterIsA_30 : decode cX9_letterIsA 30 = .ok (.iconst 1, 1) := by decide +kernel
theorem dX9_letterIsA_31 : decode cX9_letterIsA 31 = .ok (.goto 4, 3) := by decide +kernel
theorem dX9_letterIsA_34 : decode cX9_letterIsA 34 = .ok (.iconst 0, 1) := by decide +kernel
theorem dX9_letterIsA_35 : decode cX9_letterIsA 35 = .ok (.ireturn, 1) := by decide +kernel
theorem dX9_setTo_0 : decode cX9_setTo 0 = .ok (.aload_n 0, 1) := by decide +kernel
theorem dX9_setTo_1 : decode cX9_setTo 1 = .ok (.lconst 1, 1) := by decide +kernel
theorem dX9_setTo_2 : decode cX9_setTo 2 = .ok (.putfield 13, 3) := by decide +kernel
theorem dX9_setTo_5 : decode cX9_setTo 5 = .ok (.aload_n 0, 1) := by decide +kernel
theorem dX9_setTo_6 : decode cX9_setTo 6 = .ok (.lconst 0, 1) := by decide +kernel
theorem dX9_setTo_7 : decode cX9_setTo 7 = .ok (.putfield 17, 3) := by decide +kernel
theorem dX9_setTo_10 : decode cX9_setTo 10 = .ok (.aload_n 0, 1) := by decide +kernel
theorem dX9_setTo_11 : decode cX9_setTo 11 = .ok (.lconst 0, 1) := by decide +kernel
theorem dX9_setTo_12 : decode cX9_setTo 12 = .ok (.putfield 20, 3) := by decide +kernel
theorem dX9_setTo_15 : decode cX9_setTo 15 = .ok (.aload_n 0, 1) := by decide +kernel
theorem dX9_setTo_16 : decode cX9_setTo 16 = .ok (.lconst 1, 1) := by decide +kernel
theorem dX9_setTo_17 : decode cX9_setTo 17 = .ok (.putfield 23, 3) := by decide +kernel
theorem dX9_setTo_20 : decode cX9_setTo 20 = .ok (.iconst 1, 1) := by decide +kernel
theorem dX9_setTo_21 : decode cX9_setTo 21 = .ok (.istore_n 3, 1) := by decide +kernel
theorem dX9_setTo_22 : decode cX9_setTo 22 = .ok (.iload_n 3, 1) := by decide +kernel
theorem dX9_setTo_23 : decode cX9_setTo 23 = .ok (.iload_n 1, 1) := by decide +kernel
theorem dX9_setTo_24 : decode cX9_setTo 24 = .ok (.iload_n 2, 1) := by decide +kernel
theorem dX9_setTo_25 : decode cX9_setTo 25 = .ok (.iadd, 1) := by decide +kernel
theorem dX9_setTo_26 : decode cX9_setTo 26 = .ok (.if_icmp .gt 41, 3) := by decide +kernel
theorem dX9_setTo_29 : decode cX9_setTo 29 = .ok (.iload_n 1, 1) := by decide +kernel
theorem dX9_setTo_30 : decode cX9_setTo 30 = .ok (.iload_n 2, 1) := by decide +kernel
theorem dX9_setTo_31 : decode cX9_setTo 31 = .ok (.iload_n 3, 1) := by decide +kernel
theorem dX9_setTo_32 : decode cX9_setTo 32 = .ok (.invokestatic 26, 3) := by decide +kernel
theorem dX9_setTo_35 : decode cX9_setTo 35 = .ok (.ifCond .eq 15, 3) := by decide +kernel
theorem dX9_setTo_38 : decode cX9_setTo 38 = .ok (.aload_n 0, 1) := by decide +kernel
theorem dX9_setTo_39 : decode cX9_setTo 39 = .ok (.ldc2_w 30, 3) := by decide +kernel
theorem dX9_setTo_42 : decode cX9_setTo 42 = .ok (.lconst 1, 1) := by decide +kernel
theorem dX9_setTo_43 : decode cX9_setTo 43 = .ok (.lconst 1, 1) := by decide +kernel
theorem dX9_setTo_44 : decode cX9_setTo 44 = .ok (.invokevirtual 32, 3) := by decide +kernel
theorem dX9_setTo_47 : decode cX9_setTo 47 = .ok (.goto 14, 3) := by decide +kernel
theorem dX9_setTo_50 : decode cX9_setTo 50 = .ok (.aload_n 0, 1) := by decide +kernel
theorem dX9_setTo_51 : decode cX9_setTo 51 = .ok (.ldc2_w 36, 3) := by decide +kernel
theorem dX9_setTo_54 : decode cX9_setTo 54 = .ok (.ldc2_w 30, 3) := by decide +kernel
theorem dX9_setTo_57 : decode cX9_setTo 57 = .ok (.lconst 1, 1) := by decide +kernel
theorem dX9_setTo_58 : decode cX9_setTo 58 = .ok (.invokevirtual 32, 3) := by decide +kernel
theorem dX9_setTo_61 : decode cX9_setTo 61 = .ok (.iinc 3 1, 3) := by decide +kernel
theorem dX9_setTo_64 : decode cX9_setTo 64 = .ok (.goto (-42), 3) := by decide +kernel
theorem dX9_setTo_67 : decode cX9_setTo 67 = .ok (.return_, 1) := by decide +kernel
theorem dX9_multiply_0 : decode cX9_multiply 0 = .ok (.aload_n 0, 1) := by decide +kernel
theorem dX9_multiply_1 : decode cX9_multiply 1 = .ok (.getfield 13, 3) := by decide +kernel
theorem dX9_multiply_4 : decode cX9_multiply 4 = .ok (.lstore 7, 2) := by decide +kernel
theorem dX9_multiply_6 : decode cX9_multiply 6 = .ok (.aload_n 0, 1) := by decide +kernel
theorem dX9_multiply_7 : decode cX9_multiply 7 = .ok (.getfield 20, 3) := by decide +kernel
theorem dX9_multiply_10 : decode cX9_multiply 10 = .ok (.lstore 9, 2) := by decide +kernel
theorem dX9_multiply_12 : decode cX9_multiply 12 = .ok (.aload_n 0, 1) := by decide +kernel
theorem dX9_multiply_13 : decode cX9_multiply 13 = .ok (.lload 7, 2) := by decide +kernel
theorem dX9_multiply_15 : decode cX9_multiply 15 = .ok (.lload_n 1, 1) := by decide +kernel
theorem dX9_multiply_16 : decode cX9_multiply 16 = .ok (.lmul, 1) := by decide +kernel
theorem dX9_multiply_17 : decode cX9_multiply 17 = .ok (.aload_n 0, 1) := by decide +kernel
theorem dX9_multiply_18 : decode cX9_multiply 18 = .ok (.getfield 17, 3) := by decide +kernel
theorem dX9_multiply_21 : decode cX9_multiply 21 = .ok (.lload_n 3, 1) := by decide +kernel
theorem dX9_multiply_22 : decode cX9_multiply 22 = .ok (.lmul, 1) := by decide +kernel
theorem dX9_multiply_23 : decode cX9_multiply 23 = .ok (.ladd, 1) := by decide +kernel
theorem dX9_multiply_24 : decode cX9_multiply 24 = .ok (.putfield 13, 3) := by decide +kernel
theorem dX9_multiply_27 : decode cX9_multiply 27 = .ok (.aload_n 0, 1) := by decide +kernel
theorem dX9_multiply_28 : decode cX9_multiply 28 = .ok (.lload 7, 2) := by decide +kernel
theorem dX9_multiply_30 : decode cX9_multiply 30 = .ok (.lload_n 3, 1) := by decide +kernel
theorem dX9_multiply_31 : decode cX9_multiply 31 = .ok (.lmul, 1) := by decide +kernel
theorem dX9_multiply_32 : decode cX9_multiply 32 = .ok (.aload_n 0, 1) := by decide +kernel
theorem dX9_multiply_33 : decode cX9_multiply 33 = .ok (.getfield 17, 3) := by decide +kernel
theorem dX9_multiply_36 : decode cX9_multiply 36 = .ok (.lload 5, 2) := by decide +kernel
theorem dX9_multiply_38 : decode cX9_multiply 38 = .ok (.lmul, 1) := by decide +kernel
theorem dX9_multiply_39 : decode cX9_multiply 39 = .ok (.ladd, 1) := by decide +kernel
theorem dX9_multiply_40 : decode cX9_multiply 40 = .ok (.putfield 17, 3) := by decide +kernel
theorem dX9_multiply_43 : decode cX9_multiply 43 = .ok (.aload_n 0, 1) := by decide +kernel
theorem dX9_multiply_44 : decode cX9_multiply 44 = .ok (.lload 9, 2) := by decide +kernel
theorem dX9_multiply_46 : decode cX9_multiply 46 = .ok (.lload_n 1, 1) := by decide +kernel
theorem dX9_multiply_47 : decode cX9_multiply 47 = .ok (.lmul, 1) := by decide +kernel
theorem dX9_multiply_48 : decode cX9_multiply 48 = .ok (.aload_n 0, 1) := by decide +kernel
theorem dX9_multiply_49 : decode cX9_multiply 49 = .ok (.getfield 23, 3) := by decide +kernel
theorem dX9_multiply_52 : decode cX9_multiply 52 = .ok (.lload_n 3, 1) := by decide +kernel
theorem dX9_multiply_53 : decode cX9_multiply 53 = .ok (.lmul, 1) := by decide +kernel
theorem dX9_multiply_54 : decode cX9_multiply 54 = .ok (.ladd, 1) := by decide +kernel
theorem dX9_multiply_55 : decode cX9_multiply 55 = .ok (.putfield 20, 3) := by decide +kernel
theorem dX9_multiply_58 : decode cX9_multiply 58 = .ok (.aload_n 0, 1) := by decide +kernel
theorem dX9_multiply_59 : decode cX9_multiply 59 = .ok (.lload 9, 2) := by decide +kernel
theorem dX9_multiply_61 : decode cX9_multiply 61 = .ok (.lload_n 3, 1) := by decide +kernel
theorem dX9_multiply_62 : decode cX9_multiply 62 = .ok (.lmul, 1) := by decide +kernel
theorem dX9_multiply_63 : decode cX9_multiply 63 = .ok (.aload_n 0, 1) := by decide +kernel
theorem dX9_multiply_64 : decode cX9_multiply 64 = .ok (.getfield 23, 3) := by decide +kernel
theorem dX9_multiply_67 : decode cX9_multiply 67 = .ok (.lload 5, 2) := by decide +kernel
theorem dX9_multiply_69 : decode cX9_multiply 69 = .ok (.lmul, 1) := by decide +kernel
theorem dX9_multiply_70 : decode cX9_multiply 70 = .ok (.ladd, 1) := by decide +kernel
theorem dX9_multiply_71 : decode cX9_multiply 71 = .ok (.putfield 23, 3) := by decide +kernel
theorem dX9_multiply_74 : decode cX9_multiply 74 = .ok (.return_, 1) := by decide +kernel
theorem dX9_entry_0 : decode cX9_entry 0 = .ok (.iload_n 1, 1) := by decide +kernel
theorem dX9_entry_1 : decode cX9_entry 1 = .ok (.ifCond .ne 19, 3) := by decide +kernel
theorem dX9_entry_4 : decode cX9_entry 4 = .ok (.iload_n 2, 1) := by decide +kernel
theorem dX9_entry_5 : decode cX9_entry 5 = .ok (.ifCond .ne 10, 3) := by decide +kernel
theorem dX9_entry_8 : decode cX9_entry 8 = .ok (.aload_n 0, 1) := by decide +kernel
theorem dX9_entry_9 : decode cX9_entry 9 = .ok (.getfield 13, 3) := by decide +kernel
theorem dX9_entry_12 : decode cX9_entry 12 = .ok (.goto 7, 3) := by decide +kernel
theorem dX9_entry_15 : decode cX9_entry 15 = .ok (.aload_n 0, 1) := by decide +kernel
theorem dX9_entry_16 : decode cX9_entry 16 = .ok (.getfield 17, 3) := by decide +kernel
theorem dX9_entry_19 : decode cX9_entry 19 = .ok (.lreturn, 1) := by decide +kernel
theorem dX9_entry_20 : decode cX9_entry 20 = .ok (.iload_n 2, 1) := by decide +kernel
theorem dX9_entry_21 : decode cX9_entry 21 = .ok (.ifCond .ne 10, 3) := by decide +kernel
theorem dX9_entry_24 : decode cX9_entry 24 = .ok (.aload_n 0, 1) := by decide +kernel
theorem dX9_entry_25 : decode cX9_entry 25 = .ok (.getfield 20, 3) := by decide +kernel
theorem dX9_entry_28 : decode cX9_entry 28 = .ok (.goto 7, 3) := by decide +kernel
theorem dX9_entry_31 : decode cX9_entry 31 = .ok (.aload_n 0, 1) := by decide +kernel
theorem dX9_entry_32 : decode cX9_entry 32 = .ok (.getfield 23, 3) := by decide +kernel
theorem dX9_entry_35 : decode cX9_entry 35 = .ok (.lreturn, 1) := by decide +kernel
theorem dJxf58ca_isNaN_12338_0 : decode cJxf58ca_isNaN_12338 0 = .ok (.fload_n 0, 1) := by decide +kernel
theorem dJxf58ca_isNaN_12338_1 : decode cJxf58ca_isNaN_12338 1 = .ok (.fload_n 0, 1) := by decide +kernel
theorem dJxf58ca_isNaN_12338_2 : decode cJxf58ca_isNaN_12338 2 = .ok (.fcmp .l, 1) := by decide +kernel
theorem dJxf58ca_isNaN_12338_3 : decode cJxf58ca_isNaN_12338 3 = .ok (.ifCond .eq 7, 3) := by decide +kernel
theorem dJxf58ca_isNaN_12338_6 : decode cJxf58ca_isNaN_12338 6 = .ok (.iconst 1, 1) := by decide +kernel
theorem dJxf58ca_isNaN_12338_7 : decode cJxf58ca_isNaN_12338 7 = .ok (.goto 4, 3) := by decide +kernel
theorem dJxf58ca_isNaN_12338_10 : decode cJxf58ca_isNaN_12338 10 = .ok (.iconst 0, 1) := by decide +kernel
theorem dJxf58ca_isNaN_12338_11 : decode cJxf58ca_isNaN_12338 11 = .ok (.ireturn, 1) := by decide +kernel
theorem dJxf58ca_floatToIntBits_5c35a_0 : decode cJxf58ca_floatToIntBits_5c35a 0 = .ok (.fload_n 0, 1) := by decide +kernel
theorem dJxf58ca_floatToIntBits_5c35a_1 : decode cJxf58ca_floatToIntBits_5c35a 1 = .ok (.invokestatic 59, 3) := by decide +kernel
theorem dJxf58ca_floatToIntBits_5c35a_4 : decode cJxf58ca_floatToIntBits_5c35a 4 = .ok (.ifCond .ne 8, 3) := by decide +kernel
theorem dJxf58ca_floatToIntBits_5c35a_7 : decode cJxf58ca_floatToIntBits_5c35a 7 = .ok (.fload_n 0, 1) := by decide +kernel
theorem dJxf58ca_floatToIntBits_5c35a_8 : decode cJxf58ca_floatToIntBits_5c35a 8 = .ok (.invokestatic 74, 3) := by decide +kernel
theorem dJxf58ca_floatToIntBits_5c35a_11 : decode cJxf58ca_floatToIntBits_5c35a 11 = .ok (.ireturn, 1) := by decide +kernel
theorem dJxf58ca_floatToIntBits_5c35a_12 : decode cJxf58ca_floatToIntBits_5c35a 12 = .ok (.ldc 77, 2) := by decide +kernel
theorem dJxf58ca_floatToIntBits_5c35a_14 : decode cJxf58ca_floatToIntBits_5c35a 14 = .ok (.ireturn, 1) := by decide +kernel
theorem dJ6_compare_7cf53_0 : decode cJ6_compare_7cf53 0 = .ok (.iload_n 0, 1) := by decide +kernel
theorem dJ6_compare_7cf53_1 : decode cJ6_compare_7cf53 1 = .ok (.iload_n 1, 1) := by decide +kernel
theorem dJ6_compare_7cf53_2 : decode cJ6_compare_7cf53 2 = .ok (.if_icmp .ge 7, 3) := by decide +kernel
theorem dJ6_compare_7cf53_5 : decode cJ6_compare_7cf53 5 = .ok (.iconst (-1), 1) := by decide +kernel
theorem dJ6_compare_7cf53_6 : decode cJ6_compare_7cf53 6 = .ok (.goto 13, 3) := by decide +kernel
theorem dJ6_compare_7cf53_9 : decode cJ6_compare_7cf53 9 = .ok (.iload_n 0, 1) := by decide +kernel
theorem dJ6_compare_7cf53_10 : decode cJ6_compare_7cf53 10 = .ok (.iload_n 1, 1) := by decide +kernel
theorem dJ6_compare_7cf53_11 : decode cJ6_compare_7cf53 11 = .ok (.if_icmp .ne 7, 3) := by decide +kernel
theorem dJ6_compare_7cf53_14 : decode cJ6_compare_7cf53 14 = .ok (.iconst 0, 1) := by decide +kernel
theorem dJ6_compare_7cf53_15 : decode cJ6_compare_7cf53 15 = .ok (.goto 4, 3) := by decide +kernel
theorem dJ6_compare_7cf53_18 : decode cJ6_compare_7cf53 18 = .ok (.iconst 1, 1) := by decide +kernel
theorem dJ6_compare_7cf53_19 : decode cJ6_compare_7cf53 19 = .ok (.ireturn, 1) := by decide +kernel
theorem dJ9_floorMod_f86c9_0 : decode cJ9_floorMod_f86c9 0 = .ok (.lload_n 0, 1) := by decide +kernel
theorem dJ9_floorMod_f86c9_1 : decode cJ9_floorMod_f86c9 1 = .ok (.lload_n 2, 1) := by decide +kernel
theorem dJ9_floorMod_f86c9_2 : decode cJ9_floorMod_f86c9 2 = .ok (.lrem, 1) := by decide +kernel
theorem dJ9_floorMod_f86c9_3 : decode cJ9_floorMod_f86c9 3 = .ok (.lstore 4, 2) := by decide +kernel
theorem dJ9_floorMod_f86c9_5 : decode cJ9_floorMod_f86c9 5 = .ok (.lload_n 0, 1) := by decide +kernel
theorem dJ9_floorMod_f86c9_6 : decode cJ9_floorMod_f86c9 6 = .ok (.lload_n 2, 1) := by decide +kernel
theorem dJ9_floorMod_f86c9_7 : decode cJ9_floorMod_f86c9 7 = .ok (.lxor, 1) := by decide +kernel
theorem dJ9_floorMod_f86c9_8 : decode cJ9_floorMod_f86c9 8 = .ok (.lconst 0, 1) := by decide +kernel
theorem dJ9_floorMod_f86c9_9 : decode cJ9_floorMod_f86c9 9 = .ok (.lcmp, 1) := by decide +kernel
theorem dJ9_floorMod_f86c9_10 : decode cJ9_floorMod_f86c9 10 = .ok (.ifCond .ge 15, 3) := by decide +kernel
theorem dJ9_floorMod_f86c9_13 : decode cJ9_floorMod_f86c9 13 = .ok (.lload 4, 2) := by decide +kernel
theorem dJ9_floorMod_f86c9_15 : decode cJ9_floorMod_f86c9 15 = .ok (.lconst 0, 1) := by decide +kernel
theorem dJ9_floorMod_f86c9_16 : decode cJ9_floorMod_f86c9 16 = .ok (.lcmp, 1) := by decide +kernel
theorem dJ9_floorMod_f86c9_17 : decode cJ9_floorMod_f86c9 17 = .ok (.ifCond .eq 8, 3) := by decide +kernel
theorem dJ9_floorMod_f86c9_20 : decode cJ9_floorMod_f86c9 20 = .ok (.lload 4, 2) := by decide +kernel
theorem dJ9_floorMod_f86c9_22 : decode cJ9_floorMod_f86c9 22 = .ok (.lload_n 2, 1) := by decide +kernel
theorem dJ9_floorMod_f86c9_23 : decode cJ9_floorMod_f86c9 23 = .ok (.ladd, 1) := by decide +kernel
theorem dJ9_floorMod_f86c9_24 : decode cJ9_floorMod_f86c9 24 = .ok (.lreturn, 1) := by decide +kernel
theorem dJ9_floorMod_f86c9_25 : decode cJ9_floorMod_f86c9 25 = .ok (.lload 4, 2) := by decide +kernel
theorem dJ9_floorMod_f86c9_27 : decode cJ9_floorMod_f86c9 27 = .ok (.lreturn, 1) := by decide +kernel
theorem dJ9_abs_067f4_0 : decode cJ9_abs_067f4 0 = .ok (.lload_n 0, 1) := by decide +kernel
theorem dJ9_abs_067f4_1 : decode cJ9_abs_067f4 1 = .ok (.lconst 0, 1) := by decide +kernel
theorem dJ9_abs_067f4_2 : decode cJ9_abs_067f4 2 = .ok (.lcmp, 1) := by decide +kernel
theorem dJ9_abs_067f4_3 : decode cJ9_abs_067f4 3 = .ok (.ifCond .ge 8, 3) := by decide +kernel
theorem dJ9_abs_067f4_6 : decode cJ9_abs_067f4 6 = .ok (.lload_n 0, 1) := by decide +kernel
theorem dJ9_abs_067f4_7 : decode cJ9_abs_067f4 7 = .ok (.lneg, 1) := by decide +kernel
theorem dJ9_abs_067f4_8 : decode cJ9_abs_067f4 8 = .ok (.goto 4, 3) := by decide +kernel
theorem dJ9_abs_067f4_11 : decode cJ9_abs_067f4 11 = .ok (.lload_n 0, 1) := by decide +kernel
theorem dJ9_abs_067f4_12 : decode cJ9_abs_067f4 12 = .ok (.lreturn, 1) := by decide +kernel
theorem dJ9_min_7cf53_0 : decode cJ9_min_7cf53 0 = .ok (.iload_n 0, 1) := by decide +kernel
theorem dJ9_min_7cf53_1 : decode cJ9_min_7cf53 1 = .ok (.iload_n 1, 1) := by decide +kernel
theorem dJ9_min_7cf53_2 : decode cJ9_min_7cf53 2 = .ok (.if_icmp .gt 7, 3) := by decide +kernel
theorem dJ9_min_7cf53_5 : decode cJ9_min_7cf53 5 = .ok (.iload_n 0, 1) := by decide +kernel
theorem dJ9_min_7cf53_6 : decode cJ9_min_7cf53 6 = .ok (.goto 4, 3) := by decide +kernel
theorem dJ9_min_7cf53_9 : decode cJ9_min_7cf53 9 = .ok (.iload_n 1, 1) := by decide +kernel
theorem dJ9_min_7cf53_10 : decode cJ9_min_7cf53 10 = .ok (.ireturn, 1) := by decide +kernel
theorem dJ9_min_f86c9_0 : decode cJ9_min_f86c9 0 = .ok (.lload_n 0, 1) := by decide +kernel
theorem dJ9_min_f86c9_1 : decode cJ9_min_f86c9 1 = .ok (.lload_n 2, 1) := by decide +kernel
theorem dJ9_min_f86c9_2 : decode cJ9_min_f86c9 2 = .ok (.lcmp, 1) := by decide +kernel
theorem dJ9_min_f86c9_3 : decode cJ9_min_f86c9 3 = .ok (.ifCond .gt 7, 3) := by decide +kernel
theorem dJ9_min_f86c9_6 : decode cJ9_min_f86c9 6 = .ok (.lload_n 0, 1) := by decide +kernel
theorem dJ9_min_f86c9_7 : decode cJ9_min_f86c9 7 = .ok (.goto 4, 3) := by decide +kernel
theorem dJ9_min_f86c9_10 : decode cJ9_min_f86c9 10 = .ok (.lload_n 2, 1) := by decide +kernel
theorem dJ9_min_f86c9_11 : decode cJ9_min_f86c9 11 = .ok (.lreturn, 1) := by decide +kernel
