theorem dX8_readNumber_28 : decode cX8_readNumber 28 = .ok (.if_icmp .lt 61, 3) := by decide +kernel
theorem dX8_readNumber_31 : decode cX8_readNumber 31 = .ok (.aload_n 0, 1) := by decide +kernel
theorem dX8_readNumber_32 : decode cX8_readNumber 32 = .ok (.getfield 11, 3) := by decide +kernel
theorem dX8_readNumber_35 : decode cX8_readNumber 35 = .ok (.aload_n 0, 1) := by decide +kernel
theorem dX8_readNumber_36 : decode cX8_readNumber 36 = .ok (.getfield 19, 3) := by decide +kernel
theorem dX8_readNumber_39 : decode cX8_readNumber 39 = .ok (.iaload, 1) := by decide +kernel
theorem dX8_readNumber_40 : decode cX8_readNumber 40 = .ok (.bipush 57, 2) := by decide +kernel
theorem dX8_readNumber_42 : decode cX8_readNumber 42 = .ok (.if_icmp .gt 47, 3) := by decide +kernel
theorem dX8_readNumber_45 : decode cX8_readNumber 45 = .ok (.iload 5, 2) := by decide +kernel
theorem dX8_readNumber_47 : decode cX8_readNumber 47 = .ok (.iload_n 1, 1) := by decide +kernel
theorem dX8_readNumber_48 : decode cX8_readNumber 48 = .ok (.if_icmp .ne 5, 3) := by decide +kernel
theorem dX8_readNumber_51 : decode cX8_readNumber 51 = .ok (.iconst (-1), 1) := by decide +kernel
theorem dX8_readNumber_52 : decode cX8_readNumber 52 = .ok (.ireturn, 1) := by decide +kernel
theorem dX8_readNumber_53 : decode cX8_readNumber 53 = .ok (.iload 4, 2) := by decide +kernel
theorem dX8_readNumber_55 : decode cX8_readNumber 55 = .ok (.bipush 10, 2) := by decide +kernel
theorem dX8_readNumber_57 : decode cX8_readNumber 57 = .ok (.imul, 1) := by decide +kernel
theorem dX8_readNumber_58 : decode cX8_readNumber 58 = .ok (.aload_n 0, 1) := by decide +kernel
theorem dX8_readNumber_59 : decode cX8_readNumber 59 = .ok (.getfield 11, 3) := by decide +kernel
theorem dX8_readNumber_62 : decode cX8_readNumber 62 = .ok (.aload_n 0, 1) := by decide +kernel
theorem dX8_readNumber_63 : decode cX8_readNumber 63 = .ok (.getfield 19, 3) := by decide +kernel
theorem dX8_readNumber_66 : decode cX8_readNumber 66 = .ok (.iaload, 1) := by decide +kernel
theorem dX8_readNumber_67 : decode cX8_readNumber 67 = .ok (.iadd, 1) := by decide +kernel
theorem dX8_readNumber_68 : decode cX8_readNumber 68 = .ok (.bipush 48, 2) := by decide +kernel
theorem dX8_readNumber_70 : decode cX8_readNumber 70 = .ok (.isub, 1) := by decide +kernel
theorem dX8_readNumber_71 : decode cX8_readNumber 71 = .ok (.istore 4, 2) := by decide +kernel
theorem dX8_readNumber_73 : decode cX8_readNumber 73 = .ok (.aload_n 0, 1) := by decide +kernel
theorem dX8_readNumber_74 : decode cX8_readNumber 74 = .ok (.dup, 1) := by decide +kernel
theorem dX8_readNumber_75 : decode cX8_readNumber 75 = .ok (.getfield 19, 3) := by decide +kernel
theorem dX8_readNumber_78 : decode cX8_readNumber 78 = .ok (.iconst 1, 1) := by decide +kernel
theorem dX8_readNumber_79 : decode cX8_readNumber 79 = .ok (.iadd, 1) := by decide +kernel
theorem dX8_readNumber_80 : decode cX8_readNumber 80 = .ok (.putfield 19, 3) := by decide +kernel
theorem dX8_readNumber_83 : decode cX8_readNumber 83 = .ok (.iinc 5 1, 3) := by decide +kernel
theorem dX8_readNumber_86 : decode cX8_readNumber 86 = .ok (.goto (-80), 3) := by decide +kernel
theorem dX8_readNumber_89 : decode cX8_readNumber 89 = .ok (.iload 5, 2) := by decide +kernel
theorem dX8_readNumber_91 : decode cX8_readNumber 91 = .ok (.ifCond .le 27, 3) := by decide +kernel
theorem dX8_readNumber_94 : decode cX8_readNumber 94 = .ok (.iload 4, 2) := by decide +kernel
theorem dX8_readNumber_96 : decode cX8_readNumber 96 = .ok (.iload_n 2, 1) := by decide +kernel
theorem dX8_readNumber_97 : decode cX8_readNumber 97 = .ok (.if_icmp .lt 9, 3) := by decide +kernel
theorem dX8_readNumber_100 : decode cX8_readNumber 100 = .ok (.iload 4, 2) := by decide +kernel
theorem dX8_readNumber_102 : decode cX8_readNumber 102 = .ok (.iload_n 3, 1) := by decide +kernel
theorem dX8_readNumber_103 : decode cX8_readNumber 103 = .ok (.if_icmp .le 15, 3) := by decide +kernel
theorem dX8_readNumber_106 : decode cX8_readNumber 106 = .ok (.aload_n 0, 1) := by decide +kernel
theorem dX8_readNumber_107 : decode cX8_readNumber 107 = .ok (.dup, 1) := by decide +kernel
theorem dX8_readNumber_108 : decode cX8_readNumber 108 = .ok (.getfield 19, 3) := by decide +kernel
theorem dX8_readNumber_111 : decode cX8_readNumber 111 = .ok (.iconst 1, 1) := by decide +kernel
theorem dX8_readNumber_112 : decode cX8_readNumber 112 = .ok (.isub, 1) := by decide +kernel
theorem dX8_readNumber_113 : decode cX8_readNumber 113 = .ok (.putfield 19, 3) := by decide +kernel
theorem dX8_readNumber_116 : decode cX8_readNumber 116 = .ok (.iconst (-1), 1) := by decide +kernel
theorem dX8_readNumber_117 : decode cX8_readNumber 117 = .ok (.ireturn, 1) := by decide +kernel
theorem dX8_readNumber_118 : decode cX8_readNumber 118 = .ok (.iload 5, 2) := by decide +kernel
theorem dX8_readNumber_120 : decode cX8_readNumber 120 = .ok (.ifCond .le 8, 3) := by decide +kernel
theorem dX8_readNumber_123 : decode cX8_readNumber 123 = .ok (.iload 4, 2) := by decide +kernel
theorem dX8_readNumber_125 : decode cX8_readNumber 125 = .ok (.goto 4, 3) := by decide +kernel
theorem dX8_readNumber_128 : decode cX8_readNumber 128 = .ok (.iconst (-1), 1) := by decide +kernel
theorem dX8_readNumber_129 : decode cX8_readNumber 129 = .ok (.ireturn, 1) := by decide +kernel
theorem dX9_init_0 : decode cX9_init 0 = .ok (.aload_n 0, 1) := by decide +kernel
theorem dX9_init_1 : decode cX9_init 1 = .ok (.invokespecial 3, 3) := by decide +kernel
theorem dX9_init_4 : decode cX9_init 4 = .ok (.aload_n 0, 1) := by decide +kernel
theorem dX9_init_5 : decode cX9_init 5 = .ok (.new 9, 3) := by decide +kernel
theorem dX9_init_8 : decode cX9_init 8 = .ok (.dup, 1) := by decide +kernel
theorem dX9_init_9 : decode cX9_init 9 = .ok (.invokespecial 11, 3) := by decide +kernel
theorem dX9_init_12 : decode cX9_init 12 = .ok (.putfield 12, 3) := by decide +kernel
theorem dX9_init_15 : decode cX9_init 15 = .ok (.aload_n 0, 1) := by decide +kernel
theorem dX9_init_16 : decode cX9_init 16 = .ok (.new 18, 3) := by decide +kernel
theorem dX9_init_19 : decode cX9_init 19 = .ok (.dup, 1) := by decide +kernel
theorem dX9_init_20 : decode cX9_init 20 = .ok (.iconst 1, 1) := by decide +kernel
theorem dX9_init_21 : decode cX9_init 21 = .ok (.invokespecial 20, 3) := by decide +kernel
theorem dX9_init_24 : decode cX9_init 24 = .ok (.putfield 23, 3) := by decide +kernel
theorem dX9_init_27 : decode cX9_init 27 = .ok (.aload_n 0, 1) := by decide +kernel
theorem dX9_init_28 : decode cX9_init 28 = .ok (.iconst 3, 1) := by decide +kernel
theorem dX9_init_29 : decode cX9_init 29 = .ok (.newarray .int, 2) := by decide +kernel
theorem dX9_init_31 : decode cX9_init 31 = .ok (.putfield 27, 3) := by decide +kernel
theorem dX9_init_34 : decode cX9_init 34 = .ok (.aload_n 0, 1) := by decide +kernel
theorem dX9_init_35 : decode cX9_init 35 = .ok (.iconst 0, 1) := by decide +kernel
theorem dX9_init_36 : decode cX9_init 36 = .ok (.putfield 31, 3) := by decide +kernel
theorem dX9_init_39 : decode cX9_init 39 = .ok (.aload_n 0, 1) := by decide +kernel
theorem dX9_init_40 : decode cX9_init 40 = .ok (.aload_n 1, 1) := by decide +kernel
theorem dX9_init_41 : decode cX9_init 41 = .ok (.putfield 35, 3) := by decide +kernel
theorem dX9_init_44 : decode cX9_init 44 = .ok (.return_, 1) := by decide +kernel
theorem dX9_readReading_0 : decode cX9_readReading 0 = .ok (.aload_n 0, 1) := by decide +kernel
theorem dX9_readReading_1 : decode cX9_readReading 1 = .ok (.getfield 35, 3) := by decide +kernel
theorem dX9_readReading_4 : decode cX9_readReading 4 = .ok (.invokevirtual 39, 3) := by decide +kernel
theorem dX9_readReading_7 : decode cX9_readReading 7 = .ok (.aload_n 0, 1) := by decide +kernel
theorem dX9_readReading_8 : decode cX9_readReading 8 = .ok (.getfield 23, 3) := by decide +kernel
theorem dX9_readReading_11 : decode cX9_readReading 11 = .ok (.getfield 44, 3) := by decide +kernel
theorem dX9_readReading_14 : decode cX9_readReading 14 = .ok (.iconst 0, 1) := by decide +kernel
theorem dX9_readReading_15 : decode cX9_readReading 15 = .ok (.iconst 0, 1) := by decide +kernel
theorem dX9_readReading_16 : decode cX9_readReading 16 = .ok (.iastore, 1) := by decide +kernel
theorem dX9_readReading_17 : decode cX9_readReading 17 = .ok (.aload_n 0, 1) := by decide +kernel
theorem dX9_readReading_18 : decode cX9_readReading 18 = .ok (.aload_n 0, 1) := by decide +kernel
theorem dX9_readReading_19 : decode cX9_readReading 19 = .ok (.getfield 23, 3) := by decide +kernel
theorem dX9_readReading_22 : decode cX9_readReading 22 = .ok (.iconst 0, 1) := by decide +kernel
theorem dX9_readReading_23 : decode cX9_readReading 23 = .ok (.bipush 9, 2) := by decide +kernel
theorem dX9_readReading_25 : decode cX9_readReading 25 = .ok (.invokevirtual 47, 3) := by decide +kernel
theorem dX9_readReading_28 : decode cX9_readReading 28 = .ok (.ifCond .eq 18, 3) := by decide +kernel
theorem dX9_readReading_31 : decode cX9_readReading 31 = .ok (.aload_n 0, 1) := by decide +kernel
theorem dX9_readReading_32 : decode cX9_readReading 32 = .ok (.getfield 35, 3) := by decide +kernel
theorem dX9_readReading_35 : decode cX9_readReading 35 = .ok (.invokevirtual 51, 3) := by decide +kernel
theorem dX9_readReading_38 : decode cX9_readReading 38 = .ok (.iconst (-1), 1) := by decide +kernel
theorem dX9_readReading_39 : decode cX9_readReading 39 = .ok (.if_icmp .ne 7, 3) := by decide +kernel
theorem dX9_readReading_42 : decode cX9_readReading 42 = .ok (.iconst 1, 1) := by decide +kernel
theorem dX9_readReading_43 : decode cX9_readReading 43 = .ok (.goto 4, 3) := by decide +kernel
theorem dX9_readReading_46 : decode cX9_readReading 46 = .ok (.iconst 0, 1) := by decide +kernel
theorem dX9_readReading_47 : decode cX9_readReading 47 = .ok (.ireturn, 1) := by decide +kernel
theorem dX9_readCollection_0 : decode cX9_readCollection 0 = .ok (.aload_n 0, 1) := by decide +kernel
theorem dX9_readCollection_1 : decode cX9_readCollection 1 = .ok (.getfield 35, 3) := by decide +kernel
theorem dX9_readCollection_4 : decode cX9_readCollection 4 = .ok (.invokevirtual 39, 3) := by decide +kernel
theorem dX9_readCollection_7 : decode cX9_readCollection 7 = .ok (.aload_n 0, 1) := by decide +kernel
theorem dX9_readCollection_8 : decode cX9_readCollection 8 = .ok (.iconst 0, 1) := by decide +kernel
theorem dX9_readCollection_9 : decode cX9_readCollection 9 = .ok (.putfield 31, 3) := by decide +kernel
theorem dX9_readCollection_12 : decode cX9_readCollection 12 = .ok (.aload_n 0, 1) := by decide +kernel
theorem dX9_readCollection_13 : decode cX9_readCollection 13 = .ok (.getfield 12, 3) := by decide +kernel
theorem dX9_readCollection_16 : decode cX9_readCollection 16 = .ok (.iconst 0, 1) := by decide +kernel
theorem dX9_readCollection_17 : decode cX9_readCollection 17 = .ok (.putfield 55, 3) := by decide +kernel
theorem dX9_readCollection_20 : decode cX9_readCollection 20 = .ok (.aload_n 0, 1) := by decide +kernel
theorem dX9_readCollection_21 : decode cX9_readCollection 21 = .ok (.getfield 12, 3) := by decide +kernel
theorem dX9_readCollection_24 : decode cX9_readCollection 24 = .ok (.iconst 0, 1) := by decide +kernel
theorem dX9_readCollection_25 : decode cX9_readCollection 25 = .ok (.putfield 59, 3) := by decide +kernel
theorem dX9_readCollection_28 : decode cX9_readCollection 28 = .ok (.aload_n 0, 1) := by decide +kernel
theorem dX9_readCollection_29 : decode cX9_readCollection 29 = .ok (.getfield 12, 3) := by decide +kernel
theorem dX9_readCollection_32 : decode cX9_readCollection 32 = .ok (.getfield 62, 3) := by decide +kernel
theorem dX9_readCollection_35 : decode cX9_readCollection 35 = .ok (.getstatic 66, 3) := by decide +kernel
theorem dX9_readCollection_38 : decode cX9_readCollection 38 = .ok (.iconst 0, 1) := by decide +kernel
theorem dX9_readCollection_39 : decode cX9_readCollection 39 = .ok (.iaload, 1) := by decide +kernel
theorem dX9_readCollection_40 : decode cX9_readCollection 40 = .ok (.putfield 69, 3) := by decide +kernel
theorem dX9_readCollection_43 : decode cX9_readCollection 43 = .ok (.aload_n 0, 1) := by decide +kernel
theorem dX9_readCollection_44 : decode cX9_readCollection 44 = .ok (.getfield 12, 3) := by decide +kernel
theorem dX9_readCollection_47 : decode cX9_readCollection 47 = .ok (.getfield 62, 3) := by decide +kernel
theorem dX9_readCollection_50 : decode cX9_readCollection 50 = .ok (.getstatic 66, 3) := by decide +kernel
theorem dX9_readCollection_53 : decode cX9_readCollection 53 = .ok (.iconst 1, 1) := by decide +kernel
theorem dX9_readCollection_54 : decode cX9_readCollection 54 = .ok (.iaload, 1) := by decide +kernel
theorem dX9_readCollection_55 : decode cX9_readCollection 55 = .ok (.putfield 74, 3) := by decide +kernel
theorem dX9_readCollection_58 : decode cX9_readCollection 58 = .ok (.aload_n 0, 1) := by decide +kernel
theorem dX9_readCollection_59 : decode cX9_readCollection 59 = .ok (.getfield 12, 3) := by decide +kernel
theorem dX9_readCollection_62 : decode cX9_readCollection 62 = .ok (.getfield 62, 3) := by decide +kernel
theorem dX9_readCollection_65 : decode cX9_readCollection 65 = .ok (.iconst 0, 1) := by decide +kernel
theorem dX9_readCollection_66 : decode cX9_readCollection 66 = .ok (.putfield 77, 3) := by decide +kernel
theorem dX9_readCollection_69 : decode cX9_readCollection 69 = .ok (.iconst 0, 1) := by decide +kernel
theorem dX9_readCollection_70 : decode cX9_readCollection 70 = .ok (.istore_n 1, 1) := by decide +kernel
theorem dX9_readCollection_71 : decode cX9_readCollection 71 = .ok (.iload_n 1, 1) := by decide +kernel
theorem dX9_readCollection_72 : decode cX9_readCollection 72 = .ok (.sipush 240, 3) := by decide +kernel
theorem dX9_readCollection_75 : decode cX9_readCollection 75 = .ok (.if_icmp .gt 54, 3) := by decide +kernel
theorem dX9_readCollection_78 : decode cX9_readCollection 78 = .ok (.aload_n 0, 1) := by decide +kernel
theorem dX9_readCollection_79 : decode cX9_readCollection 79 = .ok (.invokevirtual 80, 3) := by decide +kernel
theorem dX9_readCollection_82 : decode cX9_readCollection 82 = .ok (.ifCond .ne 5, 3) := by decide +kernel
theorem dX9_readCollection_85 : decode cX9_readCollection 85 = .ok (.iconst 0, 1) := by decide +kernel
theorem dX9_readCollection_86 : decode cX9_readCollection 86 = .ok (.ireturn, 1) := by decide +kernel
theorem dX9_readCollection_87 : decode cX9_readCollection 87 = .ok (.aload_n 0, 1) := by decide +kernel
theorem dX9_readCollection_88 : decode cX9_readCollection 88 = .ok (.getfield 35, 3) := by decide +kernel
theorem dX9_readCollection_91 : decode cX9_readCollection 91 = .ok (.bipush 59, 2) := by decide +kernel
theorem dX9_readCollection_93 : decode cX9_readCollection 93 = .ok (.invokevirtual 84, 3) := by decide +kernel
theorem dX9_readCollection_96 : decode cX9_readCollection 96 = .ok (.ifCond .ne 27, 3) := by decide +kernel
theorem dX9_readCollection_99 : decode cX9_readCollection 99 = .ok (.aload_n 0, 1) := by decide +kernel
theorem dX9_readCollection_100 : decode cX9_readCollection 100 = .ok (.getfield 35, 3) := by decide +kernel
theorem dX9_readCollection_103 : decode cX9_readCollection 103 = .ok (.invokevirtual 51, 3) := by decide +kernel
theorem dX9_readCollection_106 : decode cX9_readCollection 106 = .ok (.iconst (-1), 1) := by decide +kernel
theorem dX9_readCollection_107 : decode cX9_readCollection 107 = .ok (.if_icmp .ne 14, 3) := by decide +kernel
theorem dX9_readCollection_110 : decode cX9_readCollection 110 = .ok (.aload_n 0, 1) := by decide +kernel
theorem dX9_readCollection_111 : decode cX9_readCollection 111 = .ok (.invokevirtual 88, 3) := by decide +kernel
theorem dX9_readCollection_114 : decode cX9_readCollection 114 = .ok (.ifCond .eq 7, 3) := by decide +kernel
theorem dX9_readCollection_117 : decode cX9_readCollection 117 = .ok (.iconst 1, 1) := by decide +kernel
theorem dX9_readCollection_118 : decode cX9_readCollection 118 = .ok (.goto 4, 3) := by decide +kernel
theorem dX9_readCollection_121 : decode cX9_readCollection 121 = .ok (.iconst 0, 1) := by decide +kernel
theorem dX9_readCollection_122 : decode cX9_readCollection 122 = .ok (.ireturn, 1) := by decide +kernel
theorem dX9_readCollection_123 : decode cX9_readCollection 123 = .ok (.iinc 1 1, 3) := by decide +kernel
theorem dX9_readCollection_126 : decode cX9_readCollection 126 = .ok (.goto (-55), 3) := by decide +kernel
theorem dX9_readCollection_129 : decode cX9_readCollection 129 = .ok (.iconst 0, 1) := by decide +kernel
theorem dX9_readCollection_130 : decode cX9_readCollection 130 = .ok (.ireturn, 1) := by decide +kernel
theorem dX9_isWhole_0 : decode cX9_isWhole 0 = .ok (.iconst 0, 1) := by decide +kernel
theorem dX9_isWhole_1 : decode cX9_isWhole 1 = .ok (.istore_n 1, 1) := by decide +kernel
theorem dX9_isWhole_2 : decode cX9_isWhole 2 = .ok (.iconst 0, 1) := by decide +kernel
theorem dX9_isWhole_3 : decode cX9_isWhole 3 = .ok (.istore_n 2, 1) := by decide +kernel
theorem dX9_isWhole_4 : decode cX9_isWhole 4 = .ok (.iload_n 2, 1) := by decide +kernel
theorem dX9_isWhole_5 : decode cX9_isWhole 5 = .ok (.aload_n 0, 1) := by decide +kernel
theorem dX9_isWhole_6 : decode cX9_isWhole 6 = .ok (.getfield 12, 3) := by decide +kernel
theorem dX9_isWhole_9 : decode cX9_isWhole 9 = .ok (.getfield 59, 3) := by decide +kernel
theorem dX9_isWhole_12 : decode cX9_isWhole 12 = .ok (.if_icmp .ge 55, 3) := by decide +kernel
theorem dX9_isWhole_15 : decode cX9_isWhole 15 = .ok (.aload_n 0, 1) := by decide +kernel
theorem dX9_isWhole_16 : decode cX9_isWhole 16 = .ok (.getfield 12, 3) := by decide +kernel
theorem dX9_isWhole_19 : decode cX9_isWhole 19 = .ok (.getfield 62, 3) := by decide +kernel
theorem dX9_isWhole_22 : decode cX9_isWhole 22 = .ok (.getfield 91, 3) := by decide +kernel
theorem dX9_isWhole_25 : decode cX9_isWhole 25 = .ok (.iload_n 2, 1) := by decide +kernel
theorem dX9_isWhole_26 : decode cX9_isWhole 26 = .ok (.iaload, 1) := by decide +kernel
theorem dX9_isWhole_27 : decode cX9_isWhole 27 = .ok (.istore_n 3, 1) := by decide +kernel
theorem dX9_isWhole_28 : decode cX9_isWhole 28 = .ok (.iload_n 3, 1) := by decide +kernel
theorem dX9_isWhole_29 : decode cX9_isWhole 29 = .ok (.iconst (-1), 1) := by decide +kernel
theorem dX9_isWhole_30 : decode cX9_isWhole 30 = .ok (.if_icmp .eq 31, 3) := by decide +kernel
theorem dX9_isWhole_33 : decode cX9_isWhole 33 = .ok (.aload_n 0, 1) := by decide +kernel
theorem dX9_isWhole_34 : decode cX9_isWhole 34 = .ok (.getfield 12, 3) := by decide +kernel
theorem dX9_isWhole_37 : decode cX9_isWhole 37 = .ok (.iload_n 3, 1) := by decide +kernel
theorem dX9_isWhole_38 : decode cX9_isWhole 38 = .ok (.invokevirtual 94, 3) := by decide +kernel
theorem dX9_isWhole_41 : decode cX9_isWhole 41 = .ok (.ifCond .eq 12, 3) := by decide +kernel
theorem dX9_isWhole_44 : decode cX9_isWhole 44 = .ok (.iload_n 1, 1) := by decide +kernel
theorem dX9_isWhole_45 : decode cX9_isWhole 45 = .ok (.iload_n 3, 1) := by decide +kernel
theorem dX9_isWhole_46 : decode cX9_isWhole 46 = .ok (.ishr, 1) := by decide +kernel
theorem dX9_isWhole_47 : decode cX9_isWhole 47 = .ok (.iconst 1, 1) := by decide +kernel
theorem dX9_isWhole_48 : decode cX9_isWhole 48 = .ok (.iand, 1) := by decide +kernel
theorem dX9_isWhole_49 : decode cX9_isWhole 49 = .ok (.iconst 1, 1) := by decide +kernel
theorem dX9_isWhole_50 : decode cX9_isWhole 50 = .ok (.if_icmp .ne 5, 3) := by decide +kernel
theorem dX9_isWhole_53 : decode cX9_isWhole 53 = .ok (.iconst 0, 1) := by decide +kernel
theorem dX9_isWhole_54 : decode cX9_isWhole 54 = .ok (.ireturn, 1) := by decide +kernel
theorem dX9_isWhole_55 : decode cX9_isWhole 55 = .ok (.iload_n 1, 1) := by decide +kernel
theorem dX9_isWhole_56 : decode cX9_isWhole 56 = .ok (.iconst 1, 1) := by decide +kernel
theorem dX9_isWhole_57 : decode cX9_isWhole 57 = .ok (.iload_n 3, 1) := by decide +kernel
theorem dX9_isWhole_58 : decode cX9_isWhole 58 = .ok (.ishl, 1) := by decide +kernel
theorem dX9_isWhole_59 : decode cX9_isWhole 59 = .ok (.ior, 1) := by decide +kernel
theorem dX9_isWhole_60 : decode cX9_isWhole 60 = .ok (.istore_n 1, 1) := by decide +kernel
theorem dX9_isWhole_61 : decode cX9_isWhole 61 = .ok (.iinc 2 1, 3) := by decide +kernel
theorem dX9_isWhole_64 : decode cX9_isWhole 64 = .ok (.goto (-60), 3) := by decide +kernel
theorem dX9_isWhole_67 : decode cX9_isWhole 67 = .ok (.aload_n 0, 1) := by decide +kernel
theorem dX9_isWhole_68 : decode cX9_isWhole 68 = .ok (.getfield 12, 3) := by decide +kernel
theorem dX9_isWhole_71 : decode cX9_isWhole 71 = .ok (.getfield 55, 3) := by decide +kernel
theorem dX9_isWhole_74 : decode cX9_isWhole 74 = .ok (.ifCond .le 17, 3) := by decide +kernel
theorem dX9_isWhole_77 : decode cX9_isWhole 77 = .ok (.aload_n 0, 1) := by decide +kernel
theorem dX9_isWhole_78 : decode cX9_isWhole 78 = .ok (.getfield 12, 3) := by decide +kernel
theorem dX9_isWhole_81 : decode cX9_isWhole 81 = .ok (.getfield 59, 3) := by decide +kernel
theorem dX9_isWhole_84 : decode cX9_isWhole 84 = .ok (.ifCond .le 7, 3) := by decide +kernel
theorem dX9_isWhole_87 : decode cX9_isWhole 87 = .ok (.iconst 1, 1) := by decide +kernel
theorem dX9_isWhole_88 : decode cX9_isWhole 88 = .ok (.goto 4, 3) := by decide +kernel
theorem dX9_isWhole_91 : decode cX9_isWhole 91 = .ok (.iconst 0, 1) := by decide +kernel
theorem dX9_isWhole_92 : decode cX9_isWhole 92 = .ok (.ireturn, 1) := by decide +kernel
theorem dX9_readClause_0 : decode cX9_readClause 0 = .ok (.aload_n 0, 1) := by decide +kernel
theorem dX9_readClause_1 : decode cX9_readClause 1 = .ok (.getfield 35, 3) := by decide +kernel
theorem dX9_readClause_4 : decode cX9_readClause 4 = .ok (.invokevirtual 51, 3) := by decide +kernel
theorem dX9_readClause_7 : decode cX9_readClause 7 = .ok (.istore_n 1, 1) := by decide +kernel
theorem dX9_readClause_8 : decode cX9_readClause 8 = .ok (.iload_n 1, 1) := by decide +kernel
theorem dX9_readClause_9 : decode cX9_readClause 9 = .ok (.bipush 115, 2) := by decide +kernel
theorem dX9_readClause_11 : decode cX9_readClause 11 = .ok (.if_icmp .ne 22, 3) := by decide +kernel
theorem dX9_readClause_14 : decode cX9_readClause 14 = .ok (.aload_n 0, 1) := by decide +kernel
theorem dX9_readClause_15 : decode cX9_readClause 15 = .ok (.getfield 31, 3) := by decide +kernel
theorem dX9_readClause_18 : decode cX9_readClause 18 = .ok (.ifCond .ne 15, 3) := by decide +kernel
theorem dX9_readClause_21 : decode cX9_readClause 21 = .ok (.aload_n 0, 1) := by decide +kernel
theorem dX9_readClause_22 : decode cX9_readClause 22 = .ok (.getfield 35, 3) := by decide +kernel
theorem dX9_readClause_25 : decode cX9_readClause 25 = .ok (.invokevirtual 97, 3) := by decide +kernel
theorem dX9_readClause_28 : decode cX9_readClause 28 = .ok (.aload_n 0, 1) := by decide +kernel
theorem dX9_readClause_29 : decode cX9_readClause 29 = .ok (.invokevirtual 100, 3) := by decide +kernel
theorem dX9_readClause_32 : decode cX9_readClause 32 = .ok (.ireturn, 1) := by decide +kernel
theorem dX9_readClause_33 : decode cX9_readClause 33 = .ok (.iload_n 1, 1) := by decide +kernel
theorem dX9_readClause_34 : decode cX9_readClause 34 = .ok (.bipush 116, 2) := by decide +kernel
theorem dX9_readClause_36 : decode cX9_readClause 36 = .ok (.if_icmp .ne 27, 3) := by decide +kernel
theorem dX9_readClause_39 : decode cX9_readClause 39 = .ok (.aload_n 0, 1) := by decide +kernel
theorem dX9_readClause_40 : decode cX9_readClause 40 = .ok (.getfield 12, 3) := by decide +kernel
theorem dX9_readClause_43 : decode cX9_readClause 43 = .ok (.getfield 55, 3) := by decide +kernel
theorem dX9_readClause_46 : decode cX9_readClause 46 = .ok (.bipush 8, 2) := by decide +kernel
theorem dX9_readClause_48 : decode cX9_readClause 48 = .ok (.if_icmp .ge 15, 3) := by decide +kernel
theorem dX9_readClause_51 : decode cX9_readClause 51 = .ok (.aload_n 0, 1) := by decide +kernel
theorem dX9_readClause_52 : decode cX9_readClause 52 = .ok (.getfield 35, 3) := by decide +kernel
theorem dX9_readClause_55 : decode cX9_readClause 55 = .ok (.invokevirtual 97, 3) := by decide +kernel
theorem dX9_readClause_58 : decode cX9_readClause 58 = .ok (.aload_n 0, 1) := by decide +kernel
theorem dX9_readClause_59 : decode cX9_readClause 59 = .ok (.invokevirtual 103, 3) := by decide +kernel
theorem dX9_readClause_62 : decode cX9_readClause 62 = .ok (.ireturn, 1) := by decide +kernel
theorem dX9_readClause_63 : decode cX9_readClause 63 = .ok (.iload_n 1, 1) := by decide +kernel
theorem dX9_readClause_64 : decode cX9_readClause 64 = .ok (.bipush 99, 2) := by decide +kernel
theorem dX9_readClause_66 : decode cX9_readClause 66 = .ok (.if_icmp .ne 27, 3) := by decide +kernel
theorem dX9_readClause_69 : decode cX9_readClause 69 = .ok (.aload_n 0, 1) := by decide +kernel
theorem dX9_readClause_70 : decode cX9_readClause 70 = .ok (.getfield 12, 3) := by decide +kernel
theorem dX9_readClause_73 : decode cX9_readClause 73 = .ok (.getfield 59, 3) := by decide +kernel
theorem dX9_readClause_76 : decode cX9_readClause 76 = .ok (.bipush 6, 2) := by decide +kernel
theorem dX9_readClause_78 : decode cX9_readClause 78 = .ok (.if_icmp .ge 15, 3) := by decide +kernel
theorem dX9_readClause_81 : decode cX9_readClause 81 = .ok (.aload_n 0, 1) := by decide +kernel
theorem dX9_readClause_82 : decode cX9_readClause 82 = .ok (.getfield 35, 3) := by decide +kernel
theorem dX9_readClause_85 : decode cX9_readClause 85 = .ok (.invokevirtual 97, 3) := by decide +kernel
theorem dX9_readClause_88 : decode cX9_readClause 88 = .ok (.aload_n 0, 1) := by decide +kernel
theorem dX9_readClause_89 : decode cX9_readClause 89 = .ok (.invokevirtual 106, 3) := by decide +kernel
theorem dX9_readClause_92 : decode cX9_readClause 92 = .ok (.ireturn, 1) := by decide +kernel
theorem dX9_readClause_93 : decode cX9_readClause 93 = .ok (.iconst 0, 1) := by decide +kernel
theorem dX9_readClause_94 : decode cX9_readClause 94 = .ok (.ireturn, 1) := by decide +kernel
theorem dX9_readRules_0 : decode cX9_readRules 0 = .ok (.aload_n 0, 1) := by decide +kernel
theorem dX9_readRules_1 : decode cX9_readRules 1 = .ok (.iconst 1, 1) := by decide +kernel
theorem dX9_readRules_2 : decode cX9_readRules 2 = .ok (.putfield 31, 3) := by decide +kernel
theorem dX9_readRules_5 : decode cX9_readRules 5 = .ok (.aload_n 0, 1) := by decide +kernel
theorem dX9_readRules_6 : decode cX9_readRules 6 = .ok (.ldc 109, 2) := by decide +kernel
theorem dX9_readRules_8 : decode cX9_readRules 8 = .ok (.getstatic 66, 3) := by decide +kernel
theorem dX9_readRules_11 : decode cX9_readRules 11 = .ok (.getstatic 111, 3) := by decide +kernel
theorem dX9_readRules_14 : decode cX9_readRules 14 = .ok (.getstatic 114, 3) := by decide +kernel
theorem dX9_readRules_17 : decode cX9_readRules 17 = .ok (.invokevirtual 117, 3) := by decide +kernel
theorem dX9_readRules_20 : decode cX9_readRules 20 = .ok (.ifCond .ne 5, 3) := by decide +kernel
theorem dX9_readRules_23 : decode cX9_readRules 23 = .ok (.iconst 0, 1) := by decide +kernel
theorem dX9_readRules_24 : decode cX9_readRules 24 = .ok (.ireturn, 1) := by decide +kernel
theorem dX9_readRules_25 : decode cX9_readRules 25 = .ok (.aload_n 0, 1) := by decide +kernel
theorem dX9_readRules_26 : decode cX9_readRules 26 = .ok (.getfield 12, 3) := by decide +kernel
theorem dX9_readRules_29 : decode cX9_readRules 29 = .ok (.getfield 62, 3) := by decide +kernel
theorem dX9_readRules_32 : decode cX9_readRules 32 = .ok (.aload_n 0, 1) := by decide +kernel
theorem dX9_readRules_33 : decode cX9_readRules 33 = .ok (.getfield 27, 3) := by decide +kernel
theorem dX9_readRules_36 : decode cX9_readRules 36 = .ok (.iconst 0, 1) := by decide +kernel
theorem dX9_readRules_37 : decode cX9_readRules 37 = .ok (.iaload, 1) := by decide +kernel
theorem dX9_readRules_38 : decode cX9_readRules 38 = .ok (.putfield 69, 3) := by decide +kernel
theorem dX9_readRules_41 : decode cX9_readRules 41 = .ok (.aload_n 0, 1) := by decide +kernel
theorem dX9_readRules_42 : decode cX9_readRules 42 = .ok (.getfield 12, 3) := by decide +kernel
theorem dX9_readRules_45 : decode cX9_readRules 45 = .ok (.getfield 62, 3) := by decide +kernel
theorem dX9_readRules_48 : decode cX9_readRules 48 = .ok (.aload_n 0, 1) := by decide +kernel
theorem dX9_readRules_49 : decode cX9_readRules 49 = .ok (.getfield 27, 3) := by decide +kernel
theorem dX9_readRules_52 : decode cX9_readRules 52 = .ok (.iconst 1, 1) := by decide +kernel
theorem dX9_readRules_53 : decode cX9_readRules 53 = .ok (.iaload, 1) := by decide +kernel
theorem dX9_readRules_54 : decode cX9_readRules 54 = .ok (.putfield 74, 3) := by decide +kernel
theorem dX9_readRules_57 : decode cX9_readRules 57 = .ok (.iconst 1, 1) := by decide +kernel
theorem dX9_readRules_58 : decode cX9_readRules 58 = .ok (.ireturn, 1) := by decide +kernel
theorem dX9_readThing_0 : decode cX9_readThing 0 = .ok (.aload_n 0, 1) := by decide +kernel
theorem dX9_readThing_1 : decode cX9_readThing 1 = .ok (.ldc 121, 2) := by decide +kernel
theorem dX9_readThing_3 : decode cX9_readThing 3 = .ok (.getstatic 123, 3) := by decide +kernel
theorem dX9_readThing_6 : decode cX9_readThing 6 = .ok (.getstatic 126, 3) := by decide +kernel
theorem dX9_readThing_9 : decode cX9_readThing 9 = .ok (.getstatic 129, 3) := by decide +kernel
theorem dX9_readThing_12 : decode cX9_readThing 12 = .ok (.invokevirtual 117, 3) := by decide +kernel
theorem dX9_readThing_15 : decode cX9_readThing 15 = .ok (.ifCond .eq 15, 3) := by decide +kernel
theorem dX9_readThing_18 : decode cX9_readThing 18 = .ok (.aload_n 0, 1) := by decide +kernel
theorem dX9_readThing_19 : decode cX9_readThing 19 = .ok (.getfield 35, 3) := by decide +kernel
theorem dX9_readThing_22 : decode cX9_readThing 22 = .ok (.bipush 58, 2) := by decide +kernel
theorem dX9_readThing_24 : decode cX9_readThing 24 = .ok (.invokevirtual 84, 3) := by decide +kernel
theorem dX9_readThing_27 : decode cX9_readThing 27 = .ok (.ifCond .ne 5, 3) := by decide +kernel
theorem dX9_readThing_30 : decode cX9_readThing 30 = .ok (.iconst 0, 1) := by decide +kernel
theorem dX9_readThing_31 : decode cX9_readThing 31 = .ok (.ireturn, 1) := by decide +kernel
theorem dX9_readThing_32 : decode cX9_readThing 32 = .ok (.aload_n 0, 1) := by decide +kernel
theorem dX9_readThing_33 : decode cX9_readThing 33 = .ok (.invokevirtual 132, 3) := by decide +kernel
theorem dX9_readThing_36 : decode cX9_readThing 36 = .ok (.istore_n 1, 1) := by decide +kernel
theorem dX9_readThing_37 : decode cX9_readThing 37 = .ok (.iload_n 1, 1) := by decide +kernel
theorem dX9_readThing_38 : decode cX9_readThing 38 = .ok (.iconst (-1), 1) := by decide +kernel
theorem dX9_readThing_39 : decode cX9_readThing 39 = .ok (.if_icmp .ne 5, 3) := by decide +kernel
theorem dX9_readThing_42 : decode cX9_readThing 42 = .ok (.iconst 0, 1) := by decide +kernel
theorem dX9_readThing_43 : decode cX9_readThing 43 = .ok (.ireturn, 1) := by decide +kernel
theorem dX9_readThing_44 : decode cX9_readThing 44 = .ok (.aload_n 0, 1) := by decide +kernel
theorem dX9_readThing_45 : decode cX9_readThing 45 = .ok (.getfield 12, 3) := by decide +kernel
theorem dX9_readThing_48 : decode cX9_readThing 48 = .ok (.getfield 135, 3) := by decide +kernel
theorem dX9_readThing_51 : decode cX9_readThing 51 = .ok (.aload_n 0, 1) := by decide +kernel
theorem dX9_readThing_52 : decode cX9_readThing 52 = .ok (.getfield 12, 3) := by decide +kernel
theorem dX9_readThing_55 : decode cX9_readThing 55 = .ok (.getfield 55, 3) := by decide +kernel
theorem dX9_readThing_58 : decode cX9_readThing 58 = .ok (.aload_n 0, 1) := by decide +kernel
theorem dX9_readThing_59 : decode cX9_readThing 59 = .ok (.getfield 27, 3) := by decide +kernel
theorem dX9_readThing_62 : decode cX9_readThing 62 = .ok (.iconst 0, 1) := by decide +kernel
theorem dX9_readThing_63 : decode cX9_readThing 63 = .ok (.iaload, 1) := by decide +kernel
theorem dX9_readThing_64 : decode cX9_readThing 64 = .ok (.iastore, 1) := by decide +kernel
theorem dX9_readThing_65 : decode cX9_readThing 65 = .ok (.aload_n 0, 1) := by decide +kernel
theorem dX9_readThing_66 : decode cX9_readThing 66 = .ok (.getfield 12, 3) := by decide +kernel
theorem dX9_readThing_69 : decode cX9_readThing 69 = .ok (.getfield 138, 3) := by decide +kernel
theorem dX9_readThing_72 : decode cX9_readThing 72 = .ok (.aload_n 0, 1) := by decide +kernel
theorem dX9_readThing_73 : decode cX9_readThing 73 = .ok (.getfield 12, 3) := by decide +kernel
theorem dX9_readThing_76 : decode cX9_readThing 76 = .ok (.getfield 55, 3) := by decide +kernel
theorem dX9_readThing_79 : decode cX9_readThing 79 = .ok (.iload_n 1, 1) := by decide +kernel
theorem dX9_readThing_80 : decode cX9_readThing 80 = .ok (.iastore, 1) := by decide +kernel
theorem dX9_readThing_81 : decode cX9_readThing 81 = .ok (.aload_n 0, 1) := by decide +kernel
theorem dX9_readThing_82 : decode cX9_readThing 82 = .ok (.getfield 12, 3) := by decide +kernel
theorem dX9_readThing_85 : decode cX9_readThing 85 = .ok (.dup, 1) := by decide +kernel
theorem dX9_readThing_86 : decode cX9_readThing 86 = .ok (.getfield 55, 3) := by decide +kernel
theorem dX9_readThing_89 : decode cX9_readThing 89 = .ok (.iconst 1, 1) := by decide +kernel
theorem dX9_readThing_90 : decode cX9_readThing 90 = .ok (.iadd, 1) := by decide +kernel
theorem dX9_readThing_91 : decode cX9_readThing 91 = .ok (.putfield 55, 3) := by decide +kernel
theorem dX9_readThing_94 : decode cX9_readThing 94 = .ok (.iconst 1, 1) := by decide +kernel
theorem dX9_readThing_95 : decode cX9_readThing 95 = .ok (.ireturn, 1) := by decide +kernel
theorem dX9_readMarks_0 : decode cX9_readMarks 0 = .ok (.iconst 0, 1) := by decide +kernel
theorem dX9_readMarks_1 : decode cX9_readMarks 1 = .ok (.istore_n 1, 1) := by decide +kernel
theorem dX9_readMarks_2 : decode cX9_readMarks 2 = .ok (.iconst 0, 1) := by decide +kernel
theorem dX9_readMarks_3 : decode cX9_readMarks 3 = .ok (.istore_n 2, 1) := by decide +kernel
theorem dX9_readMarks_4 : decode cX9_readMarks 4 = .ok (.iload_n 2, 1) := by decide +kernel
theorem dX9_readMarks_5 : decode cX9_readMarks 5 = .ok (.bipush 6, 2) := by decide +kernel
theorem dX9_readMarks_7 : decode cX9_readMarks 7 = .ok (.if_icmp .gt 60, 3) := by decide +kernel
theorem dX9_readMarks_10 : decode cX9_readMarks 10 = .ok (.aload_n 0, 1) := by decide +kernel
theorem dX9_readMarks_11 : decode cX9_readMarks 11 = .ok (.getfield 35, 3) := by decide +kernel
theorem dX9_readMarks_14 : decode cX9_readMarks 14 = .ok (.invokevirtual 51, 3) := by decide +kernel
theorem dX9_readMarks_17 : decode cX9_readMarks 17 = .ok (.istore_n 3, 1) := by decide +kernel
theorem dX9_readMarks_18 : decode cX9_readMarks 18 = .ok (.iload_n 3, 1) := by decide +kernel
theorem dX9_readMarks_19 : decode cX9_readMarks 19 = .ok (.bipush 97, 2) := by decide +kernel
theorem dX9_readMarks_21 : decode cX9_readMarks 21 = .ok (.if_icmp .lt 9, 3) := by decide +kernel
theorem dX9_readMarks_24 : decode cX9_readMarks 24 = .ok (.iload_n 3, 1) := by decide +kernel
theorem dX9_readMarks_25 : decode cX9_readMarks 25 = .ok (.bipush 102, 2) := by decide +kernel
theorem dX9_readMarks_27 : decode cX9_readMarks 27 = .ok (.if_icmp .le 5, 3) := by decide +kernel
theorem dX9_readMarks_30 : decode cX9_readMarks 30 = .ok (.iload_n 1, 1) := by decide +kernel
theorem dX9_readMarks_31 : decode cX9_readMarks 31 = .ok (.ireturn, 1) := by decide +kernel
theorem dX9_readMarks_32 : decode cX9_readMarks 32 = .ok (.iconst 1, 1) := by decide +kernel
theorem dX9_readMarks_33 : decode cX9_readMarks 33 = .ok (.iload_n 3, 1) := by decide +kernel
theorem dX9_readMarks_34 : decode cX9_readMarks 34 = .ok (.bipush 97, 2) := by decide +kernel
theorem dX9_readMarks_36 : decode cX9_readMarks 36 = .ok (.isub, 1) := by decide +kernel
theorem dX9_readMarks_37 : decode cX9_readMarks 37 = .ok (.ishl, 1) := by decide +kernel
theorem dX9_readMarks_38 : decode cX9_readMarks 38 = .ok (.istore 4, 2) := by decide +kernel
theorem dX9_readMarks_40 : decode cX9_readMarks 40 = .ok (.iload_n 1, 1) := by decide +kernel
theorem dX9_readMarks_41 : decode cX9_readMarks 41 = .ok (.iload 4, 2) := by decide +kernel
theorem dX9_readMarks_43 : decode cX9_readMarks 43 = .ok (.iand, 1) := by decide +kernel
theorem dX9_readMarks_44 : decode cX9_readMarks 44 = .ok (.ifCond .eq 5, 3) := by decide +kernel
theorem dX9_readMarks_47 : decode cX9_readMarks 47 = .ok (.iconst (-1), 1) := by decide +kernel
theorem dX9_readMarks_48 : decode cX9_readMarks 48 = .ok (.ireturn, 1) := by decide +kernel
theorem dX9_readMarks_49 : decode cX9_readMarks 49 = .ok (.iload_n 1, 1) := by decide +kernel
theorem dX9_readMarks_50 : decode cX9_readMarks 50 = .ok (.iload 4, 2) := by decide +kernel
theorem dX9_readMarks_52 : decode cX9_readMarks 52 = .ok (.ior, 1) := by decide +kernel
theorem dX9_readMarks_53 : decode cX9_readMarks 53 = .ok (.istore_n 1, 1) := by decide +kernel
theorem dX9_readMarks_54 : decode cX9_readMarks 54 = .ok (.aload_n 0, 1) := by decide +kernel
theorem dX9_readMarks_55 : decode cX9_readMarks 55 = .ok (.getfield 35, 3) := by decide +kernel
theorem dX9_readMarks_58 : decode cX9_readMarks 58 = .ok (.invokevirtual 97, 3) := by decide +kernel
theorem dX9_readMarks_61 : decode cX9_readMarks 61 = .ok (.iinc 2 1, 3) := by decide +kernel
theorem dX9_readMarks_64 : decode cX9_readMarks 64 = .ok (.goto (-60), 3) := by decide +kernel
theorem dX9_readMarks_67 : decode cX9_readMarks 67 = .ok (.iconst (-1), 1) := by decide +kernel
theorem dX9_readMarks_68 : decode cX9_readMarks 68 = .ok (.ireturn, 1) := by decide +kernel
theorem dX9_readCard_0 : decode cX9_readCard 0 = .ok (.aload_n 0, 1) := by decide +kernel
theorem dX9_readCard_1 : decode cX9_readCard 1 = .ok (.ldc 141, 2) := by decide +kernel
theorem dX9_readCard_3 : decode cX9_readCard 3 = .ok (.getstatic 143, 3) := by decide +kernel
theorem dX9_readCard_6 : decode cX9_readCard 6 = .ok (.getstatic 146, 3) := by decide +kernel
theorem dX9_readCard_9 : decode cX9_readCard 9 = .ok (.getstatic 149, 3) := by decide +kernel
theorem dX9_readCard_12 : decode cX9_readCard 12 = .ok (.invokevirtual 117, 3) := by decide +kernel
theorem dX9_readCard_15 : decode cX9_readCard 15 = .ok (.ifCond .eq 15, 3) := by decide +kernel
theorem dX9_readCard_18 : decode cX9_readCard 18 = .ok (.aload_n 0, 1) := by decide +kernel
theorem dX9_readCard_19 : decode cX9_readCard 19 = .ok (.getfield 35, 3) := by decide +kernel
theorem dX9_readCard_22 : decode cX9_readCard 22 = .ok (.bipush 58, 2) := by decide +kernel
theorem dX9_readCard_24 : decode cX9_readCard 24 = .ok (.invokevirtual 84, 3) := by decide +kernel
theorem dX9_readCard_27 : decode cX9_readCard 27 = .ok (.ifCond .ne 5, 3) := by decide +kernel
theorem dX9_readCard_30 : decode cX9_readCard 30 = .ok (.iconst 0, 1) := by decide +kernel
theorem dX9_readCard_31 : decode cX9_readCard 31 = .ok (.ireturn, 1) := by decide +kernel
theorem dX9_readCard_32 : decode cX9_readCard 32 = .ok (.aload_n 0, 1) := by decide +kernel
theorem dX9_readCard_33 : decode cX9_readCard 33 = .ok (.getfield 12, 3) := by decide +kernel
theorem dX9_readCard_36 : decode cX9_readCard 36 = .ok (.getfield 59, 3) := by decide +kernel
theorem dX9_readCard_39 : decode cX9_readCard 39 = .ok (.istore_n 1, 1) := by decide +kernel
theorem dX9_readCard_40 : decode cX9_readCard 40 = .ok (.aload_n 0, 1) := by decide +kernel
theorem dX9_readCard_41 : decode cX9_readCard 41 = .ok (.getfield 12, 3) := by decide +kernel
theorem dX9_readCard_44 : decode cX9_readCard 44 = .ok (.getfield 152, 3) := by decide +kernel
theorem dX9_readCard_47 : decode cX9_readCard 47 = .ok (.iload_n 1, 1) := by decide +kernel
theorem dX9_readCard_48 : decode cX9_readCard 48 = .ok (.aload_n 0, 1) := by decide +kernel
theorem dX9_readCard_49 : decode cX9_readCard 49 = .ok (.getfield 27, 3) := by decide +kernel
theorem dX9_readCard_52 : decode cX9_readCard 52 = .ok (.iconst 1, 1) := by decide +kernel
theorem dX9_readCard_53 : decode cX9_readCard 53 = .ok (.iaload, 1) := by decide +kernel
theorem dX9_readCard_54 : decode cX9_readCard 54 = .ok (.iastore, 1) := by decide +kernel
theorem dX9_readCard_55 : decode cX9_readCard 55 = .ok (.aload_n 0, 1) := by decide +kernel
theorem dX9_readCard_56 : decode cX9_readCard 56 = .ok (.getfield 12, 3) := by decide +kernel
theorem dX9_readCard_59 : decode cX9_readCard 59 = .ok (.getfield 62, 3) := by decide +kernel
theorem dX9_readCard_62 : decode cX9_readCard 62 = .ok (.getfield 91, 3) := by decide +kernel
theorem dX9_readCard_65 : decode cX9_readCard 65 = .ok (.iload_n 1, 1) := by decide +kernel
theorem dX9_readCard_66 : decode cX9_readCard 66 = .ok (.aload_n 0, 1) := by decide +kernel
theorem dX9_readCard_67 : decode cX9_readCard 67 = .ok (.getfield 27, 3) := by decide +kernel
theorem dX9_readCard_70 : decode cX9_readCard 70 = .ok (.iconst 2, 1) := by decide +kernel
theorem dX9_readCard_71 : decode cX9_readCard 71 = .ok (.iaload, 1) := by decide +kernel
theorem dX9_readCard_72 : decode cX9_readCard 72 = .ok (.bipush 8, 2) := by decide +kernel
theorem dX9_readCard_74 : decode cX9_readCard 74 = .ok (.if_icmp .ne 7, 3) := by decide +kernel
theorem dX9_readCard_77 : decode cX9_readCard 77 = .ok (.iconst (-1), 1) := by decide +kernel
theorem dX9_readCard_78 : decode cX9_readCard 78 = .ok (.goto 9, 3) := by decide +kernel
theorem dX9_readCard_81 : decode cX9_readCard 81 = .ok (.aload_n 0, 1) := by decide +kernel
theorem dX9_readCard_82 : decode cX9_readCard 82 = .ok (.getfield 27, 3) := by decide +kernel
theorem dX9_readCard_85 : decode cX9_readCard 85 = .ok (.iconst 2, 1) := by decide +kernel
theorem dX9_readCard_86 : decode cX9_readCard 86 = .ok (.iaload, 1) := by decide +kernel
theorem dX9_readCard_87 : decode cX9_readCard 87 = .ok (.iastore, 1) := by decide +kernel
theorem dX9_readCard_88 : decode cX9_readCard 88 = .ok (.aload_n 0, 1) := by decide +kernel
theorem dX9_readCard_89 : decode cX9_readCard 89 = .ok (.getfield 12, 3) := by decide +kernel
theorem dX9_readCard_92 : decode cX9_readCard 92 = .ok (.getfield 62, 3) := by decide +kernel
theorem dX9_readCard_95 : decode cX9_readCard 95 = .ok (.getfield 155, 3) := by decide +kernel
theorem dX9_readCard_98 : decode cX9_readCard 98 = .ok (.getfield 44, 3) := by decide +kernel
theorem dX9_readCard_101 : decode cX9_readCard 101 = .ok (.iload_n 1, 1) := by decide +kernel
theorem dX9_readCard_102 : decode cX9_readCard 102 = .ok (.iconst 0, 1) := by decide +kernel
theorem dX9_readCard_103 : decode cX9_readCard 103 = .ok (.iastore, 1) := by decide +kernel
theorem dX9_readCard_104 : decode cX9_readCard 104 = .ok (.aload_n 0, 1) := by decide +kernel
theorem dX9_readCard_105 : decode cX9_readCard 105 = .ok (.getfield 12, 3) := by decide +kernel
theorem dX9_readCard_108 : decode cX9_readCard 108 = .ok (.dup, 1) := by decide +kernel
theorem dX9_readCard_109 : decode cX9_readCard 109 = .ok (.getfield 59, 3) := by decide +kernel
theorem dX9_readCard_112 : decode cX9_readCard 112 = .ok (.iconst 1, 1) := by decide +kernel
theorem dX9_readCard_113 : decode cX9_readCard 113 = .ok (.iadd, 1) := by decide +kernel
theorem dX9_readCard_114 : decode cX9_readCard 114 = .ok (.putfield 59, 3) := by decide +kernel
theorem dX9_readCard_117 : decode cX9_readCard 117 = .ok (.aload_n 0, 1) := by decide +kernel
theorem dX9_readCard_118 : decode cX9_readCard 118 = .ok (.aload_n 0, 1) := by decide +kernel
theorem dX9_readCard_119 : decode cX9_readCard 119 = .ok (.getfield 12, 3) := by decide +kernel
theorem dX9_readCard_122 : decode cX9_readCard 122 = .ok (.getfield 62, 3) := by decide +kernel
theorem dX9_readCard_125 : decode cX9_readCard 125 = .ok (.getfield 155, 3) := by decide +kernel
theorem dX9_readCard_128 : decode cX9_readCard 128 = .ok (.iload_n 1, 1) := by decide +kernel
theorem dX9_readCard_129 : decode cX9_readCard 129 = .ok (.aload_n 0, 1) := by decide +kernel
theorem dX9_readCard_130 : decode cX9_readCard 130 = .ok (.getfield 27, 3) := by decide +kernel
theorem dX9_readCard_133 : decode cX9_readCard 133 = .ok (.iconst 0, 1) := by decide +kernel
theorem dX9_readCard_134 : decode cX9_readCard 134 = .ok (.iaload, 1) := by decide +kernel
theorem dX9_readCard_135 : decode cX9_readCard 135 = .ok (.invokevirtual 47, 3) := by decide +kernel
theorem dX9_readCard_138 : decode cX9_readCard 138 = .ok (.ireturn, 1) := by decide +kernel
theorem dX9_readItems_0 : decode cX9_readItems 0 = .ok (.aload_n 2, 1) := by decide +kernel
theorem dX9_readItems_1 : decode cX9_readItems 1 = .ok (.iconst 0, 1) := by decide +kernel
theorem dX9_readItems_2 : decode cX9_readItems 2 = .ok (.aload_n 0, 1) := by decide +kernel
theorem dX9_readItems_3 : decode cX9_readItems 3 = .ok (.getfield 27, 3) := by decide +kernel
theorem dX9_readItems_6 : decode cX9_readItems 6 = .ok (.iconst 0, 1) := by decide +kernel
theorem dX9_readItems_7 : decode cX9_readItems 7 = .ok (.aload_n 2, 1) := by decide +kernel
theorem dX9_readItems_8 : decode cX9_readItems 8 = .ok (.arraylength, 1) := by decide +kernel
theorem dX9_readItems_9 : decode cX9_readItems 9 = .ok (.aload_n 0, 1) := by decide +kernel
theorem dX9_readItems_10 : decode cX9_readItems 10 = .ok (.getfield 27, 3) := by decide +kernel
theorem dX9_readItems_13 : decode cX9_readItems 13 = .ok (.arraylength, 1) := by decide +kernel
theorem dX9_readItems_14 : decode cX9_readItems 14 = .ok (.invokestatic 158, 3) := by decide +kernel
theorem dX9_readItems_17 : decode cX9_readItems 17 = .ok (.invokestatic 164, 3) := by decide +kernel
theorem dX9_readItems_20 : decode cX9_readItems 20 = .ok (.iconst 0, 1) := by decide +kernel
theorem dX9_readItems_21 : decode cX9_readItems 21 = .ok (.istore 5, 2) := by decide +kernel
theorem dX9_readItems_23 : decode cX9_readItems 23 = .ok (.iconst 0, 1) := by decide +kernel
theorem dX9_readItems_24 : decode cX9_readItems 24 = .ok (.istore 6, 2) := by decide +kernel
theorem dX9_readItems_26 : decode cX9_readItems 26 = .ok (.iload 6, 2) := by decide +kernel
theorem dX9_readItems_28 : decode cX9_readItems 28 = .ok (.aload_n 0, 1) := by decide +kernel
theorem dX9_readItems_29 : decode cX9_readItems 29 = .ok (.getfield 27, 3) := by decide +kernel
theorem dX9_readItems_32 : decode cX9_readItems 32 = .ok (.arraylength, 1) := by decide +kernel
theorem dX9_readItems_33 : decode cX9_readItems 33 = .ok (.if_icmp .gt 142, 3) := by decide +kernel
theorem dX9_readItems_36 : decode cX9_readItems 36 = .ok (.aload_n 0, 1) := by decide +kernel
theorem dX9_readItems_37 : decode cX9_readItems 37 = .ok (.getfield 35, 3) := by decide +kernel
theorem dX9_readItems_40 : decode cX9_readItems 40 = .ok (.invokevirtual 51, 3) := by decide +kernel
theorem dX9_readItems_43 : decode cX9_readItems 43 = .ok (.istore 7, 2) := by decide +kernel
theorem dX9_readItems_45 : decode cX9_readItems 45 = .ok (.iload 7, 2) := by decide +kernel
theorem dX9_readItems_47 : decode cX9_readItems 47 = .ok (.iconst (-1), 1) := by decide +kernel
theorem dX9_readItems_48 : decode cX9_readItems 48 = .ok (.if_icmp .ne 7, 3) := by decide +kernel
theorem dX9_readItems_51 : decode cX9_readItems 51 = .ok (.iconst (-1), 1) := by decide +kernel
theorem dX9_readItems_52 : decode cX9_readItems 52 = .ok (.goto 10, 3) := by decide +kernel
theorem dX9_readItems_55 : decode cX9_readItems 55 = .ok (.aload_n 1, 1) := by decide +kernel
theorem dX9_readItems_56 : decode cX9_readItems 56 = .ok (.iload 7, 2) := by decide +kernel
theorem dX9_readItems_58 : decode cX9_readItems 58 = .ok (.i2c, 1) := by decide +kernel
theorem dX9_readItems_59 : decode cX9_readItems 59 = .ok (.invokevirtual 170, 3) := by decide +kernel
theorem dX9_readItems_62 : decode cX9_readItems 62 = .ok (.istore 8, 2) := by decide +kernel
theorem dX9_readItems_64 : decode cX9_readItems 64 = .ok (.iload 8, 2) := by decide +kernel
theorem dX9_readItems_66 : decode cX9_readItems 66 = .ok (.ifCond .lt 28, 3) := by decide +kernel
theorem dX9_readItems_69 : decode cX9_readItems 69 = .ok (.iload 8, 2) := by decide +kernel
theorem dX9_readItems_71 : decode cX9_readItems 71 = .ok (.aload_n 3, 1) := by decide +kernel
theorem dX9_readItems_72 : decode cX9_readItems 72 = .ok (.arraylength, 1) := by decide +kernel
theorem dX9_readItems_73 : decode cX9_readItems 73 = .ok (.if_icmp .ge 21, 3) := by decide +kernel
theorem dX9_readItems_76 : decode cX9_readItems 76 = .ok (.iload 8, 2) := by decide +kernel
theorem dX9_readItems_78 : decode cX9_readItems 78 = .ok (.aload 4, 2) := by decide +kernel
theorem dX9_readItems_80 : decode cX9_readItems 80 = .ok (.arraylength, 1) := by decide +kernel
theorem dX9_readItems_81 : decode cX9_readItems 81 = .ok (.if_icmp .ge 13, 3) := by decide +kernel
theorem dX9_readItems_84 : decode cX9_readItems 84 = .ok (.iload 8, 2) := by decide +kernel
theorem dX9_readItems_86 : decode cX9_readItems 86 = .ok (.aload_n 0, 1) := by decide +kernel
theorem dX9_readItems_87 : decode cX9_readItems 87 = .ok (.getfield 27, 3) := by decide +kernel
theorem dX9_readItems_90 : decode cX9_readItems 90 = .ok (.arraylength, 1) := by decide +kernel
theorem dX9_readItems_91 : decode cX9_readItems 91 = .ok (.if_icmp .lt 5, 3) := by decide +kernel
theorem dX9_readItems_94 : decode cX9_readItems 94 = .ok (.iconst 1, 1) := by decide +kernel
theorem dX9_readItems_95 : decode cX9_readItems 95 = .ok (.ireturn, 1) := by decide +kernel
theorem dX9_readItems_96 : decode cX9_readItems 96 = .ok (.iload 5, 2) := by decide +kernel
theorem dX9_readItems_98 : decode cX9_readItems 98 = .ok (.iload 8, 2) := by decide +kernel
theorem dX9_readItems_100 : decode cX9_readItems 100 = .ok (.ishr, 1) := by decide +kernel
theorem dX9_readItems_101 : decode cX9_readItems 101 = .ok (.iconst 1, 1) := by decide +kernel
theorem dX9_readItems_102 : decode cX9_readItems 102 = .ok (.iand, 1) := by decide +kernel
theorem dX9_readItems_103 : decode cX9_readItems 103 = .ok (.iconst 1, 1) := by decide +kernel
theorem dX9_readItems_104 : decode cX9_readItems 104 = .ok (.if_icmp .ne 5, 3) := by decide +kernel
theorem dX9_readItems_107 : decode cX9_readItems 107 = .ok (.iconst 0, 1) := by decide +kernel
theorem dX9_readItems_108 : decode cX9_readItems 108 = .ok (.ireturn, 1) := by decide +kernel
theorem dX9_readItems_109 : decode cX9_readItems 109 = .ok (.iload 5, 2) := by decide +kernel
theorem dX9_readItems_111 : decode cX9_readItems 111 = .ok (.iconst 1, 1) := by decide +kernel
theorem dX9_readItems_112 : decode cX9_readItems 112 = .ok (.iload 8, 2) := by decide +kernel
theorem dX9_readItems_114 : decode cX9_readItems 114 = .ok (.ishl, 1) := by decide +kernel
theorem dX9_readItems_115 : decode cX9_readItems 115 = .ok (.ior, 1) := by decide +kernel
theorem dX9_readItems_116 : decode cX9_readItems 116 = .ok (.istore 5, 2) := by decide +kernel
theorem dX9_readItems_118 : decode cX9_readItems 118 = .ok (.aload_n 0, 1) := by decide +kernel
theorem dX9_readItems_119 : decode cX9_readItems 119 = .ok (.getfield 35, 3) := by decide +kernel
theorem dX9_readItems_122 : decode cX9_readItems 122 = .ok (.invokevirtual 97, 3) := by decide +kernel
theorem dX9_readItems_125 : decode cX9_readItems 125 = .ok (.aload_n 0, 1) := by decide +kernel
theorem dX9_readItems_126 : decode cX9_readItems 126 = .ok (.getfield 35, 3) := by decide +kernel
theorem dX9_readItems_129 : decode cX9_readItems 129 = .ok (.invokevirtual 51, 3) := by decide +kernel
theorem dX9_readItems_132 : decode cX9_readItems 132 = .ok (.pop, 1) := by decide +kernel
theorem dX9_readItems_133 : decode cX9_readItems 133 = .ok (.aload_n 0, 1) := by decide +kernel
theorem dX9_readItems_134 : decode cX9_readItems 134 = .ok (.getfield 35, 3) := by decide +kernel
theorem dX9_readItems_137 : decode cX9_readItems 137 = .ok (.iconst 2, 1) := by decide +kernel
theorem dX9_readItems_138 : decode cX9_readItems 138 = .ok (.aload_n 3, 1) := by decide +kernel
theorem dX9_readItems_139 : decode cX9_readItems 139 = .ok (.iload 8, 2) := by decide +kernel
theorem dX9_readItems_141 : decode cX9_readItems 141 = .ok (.iaload, 1) := by decide +kernel
theorem dX9_readItems_142 : decode cX9_readItems 142 = .ok (.aload 4, 2) := by decide +kernel
theorem dX9_readItems_144 : decode cX9_readItems 144 = .ok (.iload 8, 2) := by decide +kernel
theorem dX9_readItems_146 : decode cX9_readItems 146 = .ok (.iaload, 1) := by decide +kernel
theorem dX9_readItems_147 : decode cX9_readItems 147 = .ok (.invokevirtual 176, 3) := by decide +kernel
theorem dX9_readItems_150 : decode cX9_readItems 150 = .ok (.istore 9, 2) := by decide +kernel
theorem dX9_readItems_152 : decode cX9_readItems 152 = .ok (.iload 9, 2) := by decide +kernel
theorem dX9_readItems_154 : decode cX9_readItems 154 = .ok (.iconst (-1), 1) := by decide +kernel
theorem dX9_readItems_155 : decode cX9_readItems 155 = .ok (.if_icmp .ne 5, 3) := by decide +kernel
theorem dX9_readItems_158 : decode cX9_readItems 158 = .ok (.iconst 0, 1) := by decide +kernel
theorem dX9_readItems_159 : decode cX9_readItems 159 = .ok (.ireturn, 1) := by decide +kernel
theorem dX9_readItems_160 : decode cX9_readItems 160 = .ok (.aload_n 0, 1) := by decide +kernel
theorem dX9_readItems_161 : decode cX9_readItems 161 = .ok (.getfield 27, 3) := by decide +kernel
theorem dX9_readItems_164 : decode cX9_readItems 164 = .ok (.iload 8, 2) := by decide +kernel
theorem dX9_readItems_166 : decode cX9_readItems 166 = .ok (.iload 9, 2) := by decide +kernel
theorem dX9_readItems_168 : decode cX9_readItems 168 = .ok (.iastore, 1) := by decide +kernel
theorem dX9_readItems_169 : decode cX9_readItems 169 = .ok (.iinc 6 1, 3) := by decide +kernel
theorem dX9_readItems_172 : decode cX9_readItems 172 = .ok (.goto (-146), 3) := by decide +kernel
theorem dX9_readItems_175 : decode cX9_readItems 175 = .ok (.iconst 1, 1) := by decide +kernel
theorem dX9_readItems_176 : decode cX9_readItems 176 = .ok (.ireturn, 1) := by decide +kernel
theorem dX9_readWords_0 : decode cX9_readWords 0 = .ok (.iconst 0, 1) := by decide +kernel
theorem dX9_readWords_1 : decode cX9_readWords 1 = .ok (.istore 4, 2) := by decide +kernel
theorem dX9_readWords_3 : decode cX9_readWords 3 = .ok (.iload 4, 2) := by decide +kernel
theorem dX9_readWords_5 : decode cX9_readWords 5 = .ok (.bipush 6, 2) := by decide +kernel
theorem dX9_readWords_7 : decode cX9_readWords 7 = .ok (.if_icmp .gt 123, 3) := by decide +kernel
theorem dX9_readWords_10 : decode cX9_readWords 10 = .ok (.aload_n 0, 1) := by decide +kernel
theorem dX9_readWords_11 : decode cX9_readWords 11 = .ok (.getfield 35, 3) := by decide +kernel
theorem dX9_readWords_14 : decode cX9_readWords 14 = .ok (.invokevirtual 51, 3) := by decide +kernel
theorem dX9_readWords_17 : decode cX9_readWords 17 = .ok (.istore 5, 2) := by decide +kernel
theorem dX9_readWords_19 : decode cX9_readWords 19 = .ok (.iload 5, 2) := by decide +kernel
theorem dX9_readWords_21 : decode cX9_readWords 21 = .ok (.bipush 62, 2) := by decide +kernel
theorem dX9_readWords_23 : decode cX9_readWords 23 = .ok (.if_icmp .ne 7, 3) := by decide +kernel
theorem dX9_readWords_26 : decode cX9_readWords 26 = .ok (.iconst 2, 1) := by decide +kernel
theorem dX9_readWords_27 : decode cX9_readWords 27 = .ok (.goto 15, 3) := by decide +kernel
theorem dX9_readWords_30 : decode cX9_readWords 30 = .ok (.iload 5, 2) := by decide +kernel
theorem dX9_readWords_32 : decode cX9_readWords 32 = .ok (.bipush 45, 2) := by decide +kernel
theorem dX9_readWords_34 : decode cX9_readWords 34 = .ok (.if_icmp .ne 7, 3) := by decide +kernel
theorem dX9_readWords_37 : decode cX9_readWords 37 = .ok (.iconst 1, 1) := by decide +kernel
theorem dX9_readWords_38 : decode cX9_readWords 38 = .ok (.goto 4, 3) := by decide +kernel
theorem dX9_readWords_41 : decode cX9_readWords 41 = .ok (.iconst 0, 1) := by decide +kernel
theorem dX9_readWords_42 : decode cX9_readWords 42 = .ok (.istore 6, 2) := by decide +kernel
theorem dX9_readWords_44 : decode cX9_readWords 44 = .ok (.iload 6, 2) := by decide +kernel
theorem dX9_readWords_46 : decode cX9_readWords 46 = .ok (.ifCond .ne 28, 3) := by decide +kernel
theorem dX9_readWords_49 : decode cX9_readWords 49 = .ok (.iload 5, 2) := by decide +kernel
theorem dX9_readWords_51 : decode cX9_readWords 51 = .ok (.bipush 97, 2) := by decide +kernel
theorem dX9_readWords_53 : decode cX9_readWords 53 = .ok (.if_icmp .lt 10, 3) := by decide +kernel
theorem dX9_readWords_56 : decode cX9_readWords 56 = .ok (.iload 5, 2) := by decide +kernel
theorem dX9_readWords_58 : decode cX9_readWords 58 = .ok (.bipush 102, 2) := by decide +kernel
theorem dX9_readWords_60 : decode cX9_readWords 60 = .ok (.if_icmp .le 14, 3) := by decide +kernel
theorem dX9_readWords_63 : decode cX9_readWords 63 = .ok (.iload 4, 2) := by decide +kernel
theorem dX9_readWords_65 : decode cX9_readWords 65 = .ok (.ifCond .le 7, 3) := by decide +kernel
theorem dX9_readWords_68 : decode cX9_readWords 68 = .ok (.iconst 1, 1) := by decide +kernel
theorem dX9_readWords_69 : decode cX9_readWords 69 = .ok (.goto 4, 3) := by decide +kernel
theorem dX9_readWords_72 : decode cX9_readWords 72 = .ok (.iconst 0, 1) := by decide +kernel
theorem dX9_readWords_73 : decode cX9_readWords 73 = .ok (.ireturn, 1) := by decide +kernel
theorem dX9_readWords_74 : decode cX9_readWords 74 = .ok (.iload 4, 2) := by decide +kernel
theorem dX9_readWords_76 : decode cX9_readWords 76 = .ok (.bipush 6, 2) := by decide +kernel
theorem dX9_readWords_78 : decode cX9_readWords 78 = .ok (.if_icmp .ne 5, 3) := by decide +kernel
theorem dX9_readWords_81 : decode cX9_readWords 81 = .ok (.iconst 0, 1) := by decide +kernel
theorem dX9_readWords_82 : decode cX9_readWords 82 = .ok (.ireturn, 1) := by decide +kernel
theorem dX9_readWords_83 : decode cX9_readWords 83 = .ok (.iload 6, 2) := by decide +kernel
theorem dX9_readWords_85 : decode cX9_readWords 85 = .ok (.ifCond .eq 10, 3) := by decide +kernel
theorem dX9_readWords_88 : decode cX9_readWords 88 = .ok (.aload_n 0, 1) := by decide +kernel
theorem dX9_readWords_89 : decode cX9_readWords 89 = .ok (.getfield 35, 3) := by decide +kernel
theorem dX9_readWords_92 : decode cX9_readWords 92 = .ok (.invokevirtual 97, 3) := by decide +kernel
theorem dX9_readWords_95 : decode cX9_readWords 95 = .ok (.aload_n 0, 1) := by decide +kernel
theorem dX9_readWords_96 : decode cX9_readWords 96 = .ok (.iload 6, 2) := by decide +kernel
theorem dX9_readWords_98 : decode cX9_readWords 98 = .ok (.invokevirtual 180, 3) := by decide +kernel
theorem dX9_readWords_101 : decode cX9_readWords 101 = .ok (.istore 7, 2) := by decide +kernel
theorem dX9_readWords_103 : decode cX9_readWords 103 = .ok (.iload 7, 2) := by decide +kernel
theorem dX9_readWords_105 : decode cX9_readWords 105 = .ok (.iconst (-1), 1) := by decide +kernel
theorem dX9_readWords_106 : decode cX9_readWords 106 = .ok (.if_icmp .eq 16, 3) := by decide +kernel
theorem dX9_readWords_109 : decode cX9_readWords 109 = .ok (.aload_n 1, 1) := by decide +kernel
theorem dX9_readWords_110 : decode cX9_readWords 110 = .ok (.iload_n 2, 1) := by decide +kernel
theorem dX9_readWords_111 : decode cX9_readWords 111 = .ok (.iload 6, 2) := by decide +kernel
theorem dX9_readWords_113 : decode cX9_readWords 113 = .ok (.iload 7, 2) := by decide +kernel
theorem dX9_readWords_115 : decode cX9_readWords 115 = .ok (.iload_n 3, 1) := by decide +kernel
theorem dX9_readWords_116 : decode cX9_readWords 116 = .ok (.invokevirtual 183, 3) := by decide +kernel
theorem dX9_readWords_119 : decode cX9_readWords 119 = .ok (.ifCond .ne 5, 3) := by decide +kernel
theorem dX9_readWords_122 : decode cX9_readWords 122 = .ok (.iconst 0, 1) := by decide +kernel
theorem dX9_readWords_123 : decode cX9_readWords 123 = .ok (.ireturn, 1) := by decide +kernel
theorem dX9_readWords_124 : decode cX9_readWords 124 = .ok (.iinc 4 1, 3) := by decide +kernel
theorem dX9_readWords_127 : decode cX9_readWords 127 = .ok (.goto (-124), 3) := by decide +kernel
theorem dX9_readWords_130 : decode cX9_readWords 130 = .ok (.iconst 0, 1) := by decide +kernel
theorem dX9_readWords_131 : decode cX9_readWords 131 = .ok (.ireturn, 1) := by decide +kernel
theorem dX9_readAbout_0 : decode cX9_readAbout 0 = .ok (.iload_n 1, 1) := by decide +kernel
theorem dX9_readAbout_1 : decode cX9_readAbout 1 = .ok (.iconst 2, 1) := by decide +kernel
theorem dX9_readAbout_2 : decode cX9_readAbout 2 = .ok (.if_icmp .ne 8, 3) := by decide +kernel
theorem dX9_readAbout_5 : decode cX9_readAbout 5 = .ok (.bipush 48, 2) := by decide +kernel
theorem dX9_readAbout_7 : decode cX9_readAbout 7 = .ok (.goto 5, 3) := by decide +kernel
theorem dX9_readAbout_10 : decode cX9_readAbout 10 = .ok (.bipush 97, 2) := by decide +kernel
theorem dX9_readAbout_12 : decode cX9_readAbout 12 = .ok (.istore_n 2, 1) := by decide +kernel
theorem dX9_readAbout_13 : decode cX9_readAbout 13 = .ok (.iload_n 1, 1) := by decide +kernel
theorem dX9_readAbout_14 : decode cX9_readAbout 14 = .ok (.iconst 2, 1) := by decide +kernel
theorem dX9_readAbout_15 : decode cX9_readAbout 15 = .ok (.if_icmp .ne 8, 3) := by decide +kernel
theorem dX9_readAbout_18 : decode cX9_readAbout 18 = .ok (.bipush 57, 2) := by decide +kernel
theorem dX9_readAbout_20 : decode cX9_readAbout 20 = .ok (.goto 5, 3) := by decide +kernel
theorem dX9_readAbout_23 : decode cX9_readAbout 23 = .ok (.bipush 102, 2) := by decide +kernel
theorem dX9_readAbout_25 : decode cX9_readAbout 25 = .ok (.istore_n 3, 1) := by decide +kernel
theorem dX9_readAbout_26 : decode cX9_readAbout 26 = .ok (.aload_n 0, 1) := by decide +kernel
theorem dX9_readAbout_27 : decode cX9_readAbout 27 = .ok (.getfield 35, 3) := by decide +kernel
theorem dX9_readAbout_30 : decode cX9_readAbout 30 = .ok (.invokevirtual 51, 3) := by decide +kernel
theorem dX9_readAbout_33 : decode cX9_readAbout 33 = .ok (.istore 4, 2) := by decide +kernel
theorem dX9_readAbout_35 : decode cX9_readAbout 35 = .ok (.iload 4, 2) := by decide +kernel
theorem dX9_readAbout_37 : decode cX9_readAbout 37 = .ok (.iload_n 2, 1) := by decide +kernel
theorem dX9_readAbout_38 : decode cX9_readAbout 38 = .ok (.if_icmp .lt 9, 3) := by decide +kernel
theorem dX9_readAbout_41 : decode cX9_readAbout 41 = .ok (.iload 4, 2) := by decide +kernel
theorem dX9_readAbout_43 : decode cX9_readAbout 43 = .ok (.iload_n 3, 1) := by decide +kernel
theorem dX9_readAbout_44 : decode cX9_readAbout 44 = .ok (.if_icmp .le 5, 3) := by decide +kernel
theorem dX9_readAbout_47 : decode cX9_readAbout 47 = .ok (.iconst (-1), 1) := by decide +kernel
theorem dX9_readAbout_48 : decode cX9_readAbout 48 = .ok (.ireturn, 1) := by decide +kernel
theorem dX9_readAbout_49 : decode cX9_readAbout 49 = .ok (.aload_n 0, 1) := by decide +kernel
theorem dX9_readAbout_50 : decode cX9_readAbout 50 = .ok (.getfield 35, 3) := by decide +kernel
theorem dX9_readAbout_53 : decode cX9_readAbout 53 = .ok (.invokevirtual 97, 3) := by decide +kernel
theorem dX9_readAbout_56 : decode cX9_readAbout 56 = .ok (.iload 4, 2) := by decide +kernel
theorem dX9_readAbout_58 : decode cX9_readAbout 58 = .ok (.iload_n 2, 1) := by decide +kernel
theorem dX9_readAbout_59 : decode cX9_readAbout 59 = .ok (.isub, 1) := by decide +kernel
theorem dX9_readAbout_60 : decode cX9_readAbout 60 = .ok (.ireturn, 1) := by decide +kernel
theorem dX10_init_0 : decode cX10_init 0 = .ok (.aload_n 0, 1) := by decide +kernel
theorem dX10_init_1 : decode cX10_init 1 = .ok (.invokespecial 3, 3) := by decide +kernel
theorem dX10_init_4 : decode cX10_init 4 = .ok (.iconst 1, 1) := by decide +kernel
theorem dX10_init_5 : decode cX10_init 5 = .ok (.bipush 6, 2) := by decide +kernel
theorem dX10_init_7 : decode cX10_init 7 = .ok (.iload_n 1, 1) := by decide +kernel
theorem dX10_init_8 : decode cX10_init 8 = .ok (.invokestatic 9, 3) := by decide +kernel
theorem dX10_init_11 : decode cX10_init 11 = .ok (.invokestatic 15, 3) := by decide +kernel
theorem dX10_init_14 : decode cX10_init 14 = .ok (.istore_n 2, 1) := by decide +kernel
theorem dX10_init_15 : decode cX10_init 15 = .ok (.aload_n 0, 1) := by decide +kernel
theorem dX10_init_16 : decode cX10_init 16 = .ok (.iload_n 2, 1) := by decide +kernel
theorem dX10_init_17 : decode cX10_init 17 = .ok (.newarray .int, 2) := by decide +kernel
theorem dX10_init_19 : decode cX10_init 19 = .ok (.putfield 18, 3) := by decide +kernel
theorem dX10_init_22 : decode cX10_init 22 = .ok (.aload_n 0, 1) := by decide +kernel
theorem dX10_init_23 : decode cX10_init 23 = .ok (.iload_n 2, 1) := by decide +kernel
theorem dX10_init_24 : decode cX10_init 24 = .ok (.bipush 6, 2) := by decide +kernel
theorem dX10_init_26 : decode cX10_init 26 = .ok (.imul, 1) := by decide +kernel
theorem dX10_init_27 : decode cX10_init 27 = .ok (.newarray .int, 2) := by decide +kernel
theorem dX10_init_29 : decode cX10_init 29 = .ok (.putfield 24, 3) := by decide +kernel
theorem dX10_init_32 : decode cX10_init 32 = .ok (.aload_n 0, 1) := by decide +kernel
theorem dX10_init_33 : decode cX10_init 33 = .ok (.iload_n 2, 1) := by decide +kernel
theorem dX10_init_34 : decode cX10_init 34 = .ok (.bipush 6, 2) := by decide +kernel
theorem dX10_init_36 : decode cX10_init 36 = .ok (.imul, 1) := by decide +kernel
theorem dX10_init_37 : decode cX10_init 37 = .ok (.newarray .int, 2) := by decide +kernel
theorem dX10_init_39 : decode cX10_init 39 = .ok (.putfield 27, 3) := by decide +kernel
theorem dX10_init_42 : decode cX10_init 42 = .ok (.aload_n 0, 1) := by decide +kernel
theorem dX10_init_43 : decode cX10_init 43 = .ok (.iload_n 2, 1) := by decide +kernel
theorem dX10_init_44 : decode cX10_init 44 = .ok (.bipush 6, 2) := by decide +kernel
theorem dX10_init_46 : decode cX10_init 46 = .ok (.imul, 1) := by decide +kernel
theorem dX10_init_47 : decode cX10_init 47 = .ok (.newarray .int, 2) := by decide +kernel
theorem dX10_init_49 : decode cX10_init 49 = .ok (.putfield 30, 3) := by decide +kernel
theorem dX10_init_52 : decode cX10_init 52 = .ok (.return_, 1) := by decide +kernel
theorem dX10_takeAll_0 : decode cX10_takeAll 0 = .ok (.aload_n 0, 1) := by decide +kernel
theorem dX10_takeAll_1 : decode cX10_takeAll 1 = .ok (.getfield 18, 3) := by decide +kernel
theorem dX10_takeAll_4 : decode cX10_takeAll 4 = .ok (.arraylength, 1) := by decide +kernel
theorem dX10_takeAll_5 : decode cX10_takeAll 5 = .ok (.aload_n 1, 1) := by decide +kernel
theorem dX10_takeAll_6 : decode cX10_takeAll 6 = .ok (.getfield 18, 3) := by decide +kernel
theorem dX10_takeAll_9 : decode cX10_takeAll 9 = .ok (.arraylength, 1) := by decide +kernel
theorem dX10_takeAll_10 : decode cX10_takeAll 10 = .ok (.invokestatic 9, 3) := by decide +kernel
theorem dX10_takeAll_13 : decode cX10_takeAll 13 = .ok (.istore_n 2, 1) := by decide +kernel
theorem dX10_takeAll_14 : decode cX10_takeAll 14 = .ok (.aload_n 1, 1) := by decide +kernel
theorem dX10_takeAll_15 : decode cX10_takeAll 15 = .ok (.getfield 18, 3) := by decide +kernel
theorem dX10_takeAll_18 : decode cX10_takeAll 18 = .ok (.iconst 0, 1) := by decide +kernel
theorem dX10_takeAll_19 : decode cX10_takeAll 19 = .ok (.aload_n 0, 1) := by decide +kernel
theorem dX10_takeAll_20 : decode cX10_takeAll 20 = .ok (.getfield 18, 3) := by decide +kernel
theorem dX10_takeAll_23 : decode cX10_takeAll 23 = .ok (.iconst 0, 1) := by decide +kernel
theorem dX10_takeAll_24 : decode cX10_takeAll 24 = .ok (.iload_n 2, 1) := by decide +kernel
theorem dX10_takeAll_25 : decode cX10_takeAll 25 = .ok (.invokestatic 33, 3) := by decide +kernel
theorem dX10_takeAll_28 : decode cX10_takeAll 28 = .ok (.aload_n 1, 1) := by decide +kernel
theorem dX10_takeAll_29 : decode cX10_takeAll 29 = .ok (.getfield 24, 3) := by decide +kernel
theorem dX10_takeAll_32 : decode cX10_takeAll 32 = .ok (.iconst 0, 1) := by decide +kernel
theorem dX10_takeAll_33 : decode cX10_takeAll 33 = .ok (.aload_n 0, 1) := by decide +kernel
theorem dX10_takeAll_34 : decode cX10_takeAll 34 = .ok (.getfield 24, 3) := by decide +kernel
theorem dX10_takeAll_37 : decode cX10_takeAll 37 = .ok (.iconst 0, 1) := by decide +kernel
theorem dX10_takeAll_38 : decode cX10_takeAll 38 = .ok (.iload_n 2, 1) := by decide +kernel
theorem dX10_takeAll_39 : decode cX10_takeAll 39 = .ok (.bipush 6, 2) := by decide +kernel
theorem dX10_takeAll_41 : decode cX10_takeAll 41 = .ok (.imul, 1) := by decide +kernel
theorem dX10_takeAll_42 : decode cX10_takeAll 42 = .ok (.invokestatic 33, 3) := by decide +kernel
theorem dX10_takeAll_45 : decode cX10_takeAll 45 = .ok (.aload_n 1, 1) := by decide +kernel
theorem dX10_takeAll_46 : decode cX10_takeAll 46 = .ok (.getfield 27, 3) := by decide +kernel
theorem dX10_takeAll_49 : decode cX10_takeAll 49 = .ok (.iconst 0, 1) := by decide +kernel
theorem dX10_takeAll_50 : decode cX10_takeAll 50 = .ok (.aload_n 0, 1) := by decide +kernel
theorem dX10_takeAll_51 : decode cX10_takeAll 51 = .ok (.getfield 27, 3) := by decide +kernel
theorem dX10_takeAll_54 : decode cX10_takeAll 54 = .ok (.iconst 0, 1) := by decide +kernel
theorem dX10_takeAll_55 : decode cX10_takeAll 55 = .ok (.iload_n 2, 1) := by decide +kernel
theorem dX10_takeAll_56 : decode cX10_takeAll 56 = .ok (.bipush 6, 2) := by decide +kernel
theorem dX10_takeAll_58 : decode cX10_takeAll 58 = .ok (.imul, 1) := by decide +kernel
theorem dX10_takeAll_59 : decode cX10_takeAll 59 = .ok (.invokestatic 33, 3) := by decide +kernel
theorem dX10_takeAll_62 : decode cX10_takeAll 62 = .ok (.aload_n 1, 1) := by decide +kernel
theorem dX10_takeAll_63 : decode cX10_takeAll 63 = .ok (.getfield 30, 3) := by decide +kernel
theorem dX10_takeAll_66 : decode cX10_takeAll 66 = .ok (.iconst 0, 1) := by decide +kernel
theorem dX10_takeAll_67 : decode cX10_takeAll 67 = .ok (.aload_n 0, 1) := by decide +kernel
theorem dX10_takeAll_68 : decode cX10_takeAll 68 = .ok (.getfield 30, 3) := by decide +kernel
theorem dX10_takeAll_71 : decode cX10_takeAll 71 = .ok (.iconst 0, 1) := by decide +kernel
theorem dX10_takeAll_72 : decode cX10_takeAll 72 = .ok (.iload_n 2, 1) := by decide +kernel
theorem dX10_takeAll_73 : decode cX10_takeAll 73 = .ok (.bipush 6, 2) := by decide +kernel
theorem dX10_takeAll_75 : decode cX10_takeAll 75 = .ok (.imul, 1) := by decide +kernel
theorem dX10_takeAll_76 : decode cX10_takeAll 76 = .ok (.invokestatic 33, 3) := by decide +kernel
theorem dX10_takeAll_79 : decode cX10_takeAll 79 = .ok (.return_, 1) := by decide +kernel
theorem dX10_takeRow_0 : decode cX10_takeRow 0 = .ok (.iload_n 1, 1) := by decide +kernel
theorem dX10_takeRow_1 : decode cX10_takeRow 1 = .ok (.ifCond .lt 25, 3) := by decide +kernel
theorem dX10_takeRow_4 : decode cX10_takeRow 4 = .ok (.iload_n 1, 1) := by decide +kernel
theorem dX10_takeRow_5 : decode cX10_takeRow 5 = .ok (.aload_n 0, 1) := by decide +kernel
theorem dX10_takeRow_6 : decode cX10_takeRow 6 = .ok (.getfield 18, 3) := by decide +kernel
theorem dX10_takeRow_9 : decode cX10_takeRow 9 = .ok (.arraylength, 1) := by decide +kernel
theorem dX10_takeRow_10 : decode cX10_takeRow 10 = .ok (.if_icmp .ge 16, 3) := by decide +kernel
theorem dX10_takeRow_13 : decode cX10_takeRow 13 = .ok (.iload_n 3, 1) := by decide +kernel
theorem dX10_takeRow_14 : decode cX10_takeRow 14 = .ok (.ifCond .lt 12, 3) := by decide +kernel
theorem dX10_takeRow_17 : decode cX10_takeRow 17 = .ok (.iload_n 3, 1) := by decide +kernel
theorem dX10_takeRow_18 : decode cX10_takeRow 18 = .ok (.aload_n 2, 1) := by decide +kernel
theorem dX10_takeRow_19 : decode cX10_takeRow 19 = .ok (.getfield 18, 3) := by decide +kernel
theorem dX10_takeRow_22 : decode cX10_takeRow 22 = .ok (.arraylength, 1) := by decide +kernel
theorem dX10_takeRow_23 : decode cX10_takeRow 23 = .ok (.if_icmp .lt 4, 3) := by decide +kernel
theorem dX10_takeRow_26 : decode cX10_takeRow 26 = .ok (.return_, 1) := by decide +kernel
theorem dX10_takeRow_27 : decode cX10_takeRow 27 = .ok (.aload_n 0, 1) := by decide +kernel
theorem dX10_takeRow_28 : decode cX10_takeRow 28 = .ok (.getfield 18, 3) := by decide +kernel
theorem dX10_takeRow_31 : decode cX10_takeRow 31 = .ok (.iload_n 1, 1) := by decide +kernel
theorem dX10_takeRow_32 : decode cX10_takeRow 32 = .ok (.iconst 0, 1) := by decide +kernel
theorem dX10_takeRow_33 : decode cX10_takeRow 33 = .ok (.iastore, 1) := by decide +kernel
theorem dX10_takeRow_34 : decode cX10_takeRow 34 = .ok (.iconst 0, 1) := by decide +kernel
theorem dX10_takeRow_35 : decode cX10_takeRow 35 = .ok (.istore 4, 2) := by decide +kernel
theorem dX10_takeRow_37 : decode cX10_takeRow 37 = .ok (.iload 4, 2) := by decide +kernel
theorem dX10_takeRow_39 : decode cX10_takeRow 39 = .ok (.aload_n 2, 1) := by decide +kernel
theorem dX10_takeRow_40 : decode cX10_takeRow 40 = .ok (.getfield 18, 3) := by decide +kernel
theorem dX10_takeRow_43 : decode cX10_takeRow 43 = .ok (.iload_n 3, 1) := by decide +kernel
theorem dX10_takeRow_44 : decode cX10_takeRow 44 = .ok (.iaload, 1) := by decide +kernel
theorem dX10_takeRow_45 : decode cX10_takeRow 45 = .ok (.if_icmp .ge 40, 3) := by decide +kernel
theorem dX10_takeRow_48 : decode cX10_takeRow 48 = .ok (.iload_n 3, 1) := by decide +kernel
theorem dX10_takeRow_49 : decode cX10_takeRow 49 = .ok (.bipush 6, 2) := by decide +kernel
theorem dX10_takeRow_51 : decode cX10_takeRow 51 = .ok (.imul, 1) := by decide +kernel
theorem dX10_takeRow_52 : decode cX10_takeRow 52 = .ok (.iload 4, 2) := by decide +kernel
theorem dX10_takeRow_54 : decode cX10_takeRow 54 = .ok (.iadd, 1) := by decide +kernel
theorem dX10_takeRow_55 : decode cX10_takeRow 55 = .ok (.istore 5, 2) := by decide +kernel
theorem dX10_takeRow_57 : decode cX10_takeRow 57 = .ok (.aload_n 0, 1) := by decide +kernel
theorem dX10_takeRow_58 : decode cX10_takeRow 58 = .ok (.iload_n 1, 1) := by decide +kernel
theorem dX10_takeRow_59 : decode cX10_takeRow 59 = .ok (.aload_n 2, 1) := by decide +kernel
theorem dX10_takeRow_60 : decode cX10_takeRow 60 = .ok (.getfield 24, 3) := by decide +kernel
theorem dX10_takeRow_63 : decode cX10_takeRow 63 = .ok (.iload 5, 2) := by decide +kernel
theorem dX10_takeRow_65 : decode cX10_takeRow 65 = .ok (.iaload, 1) := by decide +kernel
theorem dX10_takeRow_66 : decode cX10_takeRow 66 = .ok (.aload_n 2, 1) := by decide +kernel
theorem dX10_takeRow_67 : decode cX10_takeRow 67 = .ok (.getfield 27, 3) := by decide +kernel
theorem dX10_takeRow_70 : decode cX10_takeRow 70 = .ok (.iload 5, 2) := by decide +kernel
theorem dX10_takeRow_72 : decode cX10_takeRow 72 = .ok (.iaload, 1) := by decide +kernel
theorem dX10_takeRow_73 : decode cX10_takeRow 73 = .ok (.bipush 9, 2) := by decide +kernel
theorem dX10_takeRow_75 : decode cX10_takeRow 75 = .ok (.invokevirtual 39, 3) := by decide +kernel
theorem dX10_takeRow_78 : decode cX10_takeRow 78 = .ok (.pop, 1) := by decide +kernel
theorem dX10_takeRow_79 : decode cX10_takeRow 79 = .ok (.iinc 4 1, 3) := by decide +kernel
theorem dX10_takeRow_82 : decode cX10_takeRow 82 = .ok (.goto (-45), 3) := by decide +kernel
theorem dX10_takeRow_85 : decode cX10_takeRow 85 = .ok (.return_, 1) := by decide +kernel
theorem dX10_add_0 : decode cX10_add 0 = .ok (.iload_n 1, 1) := by decide +kernel
theorem dX10_add_1 : decode cX10_add 1 = .ok (.ifCond .lt 23, 3) := by decide +kernel
theorem dX10_add_4 : decode cX10_add 4 = .ok (.iload_n 1, 1) := by decide +kernel
theorem dX10_add_5 : decode cX10_add 5 = .ok (.aload_n 0, 1) := by decide +kernel
theorem dX10_add_6 : decode cX10_add 6 = .ok (.getfield 18, 3) := by decide +kernel
theorem dX10_add_9 : decode cX10_add 9 = .ok (.arraylength, 1) := by decide +kernel
theorem dX10_add_10 : decode cX10_add 10 = .ok (.if_icmp .ge 14, 3) := by decide +kernel
theorem dX10_add_13 : decode cX10_add 13 = .ok (.aload_n 0, 1) := by decide +kernel
theorem dX10_add_14 : decode cX10_add 14 = .ok (.getfield 18, 3) := by decide +kernel
theorem dX10_add_17 : decode cX10_add 17 = .ok (.iload_n 1, 1) := by decide +kernel
theorem dX10_add_18 : decode cX10_add 18 = .ok (.iaload, 1) := by decide +kernel
theorem dX10_add_19 : decode cX10_add 19 = .ok (.bipush 6, 2) := by decide +kernel
theorem dX10_add_21 : decode cX10_add 21 = .ok (.if_icmp .lt 5, 3) := by decide +kernel
theorem dX10_add_24 : decode cX10_add 24 = .ok (.iconst 0, 1) := by decide +kernel
theorem dX10_add_25 : decode cX10_add 25 = .ok (.ireturn, 1) := by decide +kernel
theorem dX10_add_26 : decode cX10_add 26 = .ok (.iload_n 1, 1) := by decide +kernel
theorem dX10_add_27 : decode cX10_add 27 = .ok (.bipush 6, 2) := by decide +kernel
theorem dX10_add_29 : decode cX10_add 29 = .ok (.imul, 1) := by decide +kernel
theorem dX10_add_30 : decode cX10_add 30 = .ok (.aload_n 0, 1) := by decide +kernel
theorem dX10_add_31 : decode cX10_add 31 = .ok (.getfield 18, 3) := by decide +kernel
theorem dX10_add_34 : decode cX10_add 34 = .ok (.iload_n 1, 1) := by decide +kernel
theorem dX10_add_35 : decode cX10_add 35 = .ok (.iaload, 1) := by decide +kernel
theorem dX10_add_36 : decode cX10_add 36 = .ok (.iadd, 1) := by decide +kernel
theorem dX10_add_37 : decode cX10_add 37 = .ok (.istore 5, 2) := by decide +kernel
theorem dX10_add_39 : decode cX10_add 39 = .ok (.aload_n 0, 1) := by decide +kernel
theorem dX10_add_40 : decode cX10_add 40 = .ok (.getfield 24, 3) := by decide +kernel
theorem dX10_add_43 : decode cX10_add 43 = .ok (.iload 5, 2) := by decide +kernel
theorem dX10_add_45 : decode cX10_add 45 = .ok (.iload_n 2, 1) := by decide +kernel
theorem dX10_add_46 : decode cX10_add 46 = .ok (.iastore, 1) := by decide +kernel
theorem dX10_add_47 : decode cX10_add 47 = .ok (.aload_n 0, 1) := by decide +kernel
theorem dX10_add_48 : decode cX10_add 48 = .ok (.getfield 27, 3) := by decide +kernel
theorem dX10_add_51 : decode cX10_add 51 = .ok (.iload 5, 2) := by decide +kernel
theorem dX10_add_53 : decode cX10_add 53 = .ok (.iload_n 3, 1) := by decide +kernel
theorem dX10_add_54 : decode cX10_add 54 = .ok (.iastore, 1) := by decide +kernel
theorem dX10_add_55 : decode cX10_add 55 = .ok (.aload_n 0, 1) := by decide +kernel
theorem dX10_add_56 : decode cX10_add 56 = .ok (.getfield 30, 3) := by decide +kernel
theorem dX10_add_59 : decode cX10_add 59 = .ok (.iload 5, 2) := by decide +kernel
theorem dX10_add_61 : decode cX10_add 61 = .ok (.iload 4, 2) := by decide +kernel
theorem dX10_add_63 : decode cX10_add 63 = .ok (.iastore, 1) := by decide +kernel
theorem dX10_add_64 : decode cX10_add 64 = .ok (.aload_n 0, 1) := by decide +kernel
theorem dX10_add_65 : decode cX10_add 65 = .ok (.getfield 18, 3) := by decide +kernel
theorem dX10_add_68 : decode cX10_add 68 = .ok (.iload_n 1, 1) := by decide +kernel
theorem dX10_add_69 : decode cX10_add 69 = .ok (.dup2, 1) := by decide +kernel
theorem dX10_add_70 : decode cX10_add 70 = .ok (.iaload, 1) := by decide +kernel
theorem dX10_add_71 : decode cX10_add 71 = .ok (.iconst 1, 1) := by decide +kernel
theorem dX10_add_72 : decode cX10_add 72 = .ok (.iadd, 1) := by decide +kernel
theorem dX10_add_73 : decode cX10_add 73 = .ok (.iastore, 1) := by decide +kernel
theorem dX10_add_74 : decode cX10_add 74 = .ok (.iconst 1, 1) := by decide +kernel
theorem dX10_add_75 : decode cX10_add 75 = .ok (.ireturn, 1) := by decide +kernel
theorem dX10_tell_0 : decode cX10_tell 0 = .ok (.iload_n 1, 1) := by decide +kernel
theorem dX10_tell_1 : decode cX10_tell 1 = .ok (.ifCond .lt 26, 3) := by decide +kernel
theorem dX10_tell_4 : decode cX10_tell 4 = .ok (.iload_n 1, 1) := by decide +kernel
theorem dX10_tell_5 : decode cX10_tell 5 = .ok (.aload_n 0, 1) := by decide +kernel
theorem dX10_tell_6 : decode cX10_tell 6 = .ok (.getfield 18, 3) := by decide +kernel
theorem dX10_tell_9 : decode cX10_tell 9 = .ok (.arraylength, 1) := by decide +kernel
theorem dX10_tell_10 : decode cX10_tell 10 = .ok (.if_icmp .ge 17, 3) := by decide +kernel
theorem dX10_tell_13 : decode cX10_tell 13 = .ok (.iload_n 2, 1) := by decide +kernel
theorem dX10_tell_14 : decode cX10_tell 14 = .ok (.ifCond .lt 13, 3) := by decide +kernel
theorem dX10_tell_17 : decode cX10_tell 17 = .ok (.iload_n 2, 1) := by decide +kernel
theorem dX10_tell_18 : decode cX10_tell 18 = .ok (.aload_n 0, 1) := by decide +kernel
theorem dX10_tell_19 : decode cX10_tell 19 = .ok (.getfield 18, 3) := by decide +kernel
theorem dX10_tell_22 : decode cX10_tell 22 = .ok (.iload_n 1, 1) := by decide +kernel
theorem dX10_tell_23 : decode cX10_tell 23 = .ok (.iaload, 1) := by decide +kernel
theorem dX10_tell_24 : decode cX10_tell 24 = .ok (.if_icmp .lt 5, 3) := by decide +kernel
theorem dX10_tell_27 : decode cX10_tell 27 = .ok (.iconst (-1), 1) := by decide +kernel
theorem dX10_tell_28 : decode cX10_tell 28 = .ok (.ireturn, 1) := by decide +kernel
theorem dX10_tell_29 : decode cX10_tell 29 = .ok (.iload_n 1, 1) := by decide +kernel
theorem dX10_tell_30 : decode cX10_tell 30 = .ok (.bipush 6, 2) := by decide +kernel
theorem dX10_tell_32 : decode cX10_tell 32 = .ok (.imul, 1) := by decide +kernel
theorem dX10_tell_33 : decode cX10_tell 33 = .ok (.iload_n 2, 1) := by decide +kernel
theorem dX10_tell_34 : decode cX10_tell 34 = .ok (.iadd, 1) := by decide +kernel
theorem dX10_tell_35 : decode cX10_tell 35 = .ok (.istore 4, 2) := by decide +kernel
theorem dX10_tell_37 : decode cX10_tell 37 = .ok (.iload_n 3, 1) := by decide +kernel
theorem dX10_tell_38 : decode cX10_tell 38 = .ok (.ifCond .ne 11, 3) := by decide +kernel
theorem dX10_tell_41 : decode cX10_tell 41 = .ok (.aload_n 0, 1) := by decide +kernel
theorem dX10_tell_42 : decode cX10_tell 42 = .ok (.getfield 24, 3) := by decide +kernel
theorem dX10_tell_45 : decode cX10_tell 45 = .ok (.iload 4, 2) := by decide +kernel
theorem dX10_tell_47 : decode cX10_tell 47 = .ok (.iaload, 1) := by decide +kernel
theorem dX10_tell_48 : decode cX10_tell 48 = .ok (.ireturn, 1) := by decide +kernel
theorem dX10_tell_49 : decode cX10_tell 49 = .ok (.iload_n 3, 1) := by decide +kernel
theorem dX10_tell_50 : decode cX10_tell 50 = .ok (.iconst 1, 1) := by decide +kernel
theorem dX10_tell_51 : decode cX10_tell 51 = .ok (.if_icmp .ne 11, 3) := by decide +kernel
theorem dX10_tell_54 : decode cX10_tell 54 = .ok (.aload_n 0, 1) := by decide +kernel
theorem dX10_tell_55 : decode cX10_tell 55 = .ok (.getfield 27, 3) := by decide +kernel
theorem dX10_tell_58 : decode cX10_tell 58 = .ok (.iload 4, 2) := by decide +kernel
theorem dX10_tell_60 : decode cX10_tell 60 = .ok (.iaload, 1) := by decide +kernel
theorem dX10_tell_61 : decode cX10_tell 61 = .ok (.ireturn, 1) := by decide +kernel
theorem dX10_tell_62 : decode cX10_tell 62 = .ok (.iload_n 3, 1) := by decide +kernel
theorem dX10_tell_63 : decode cX10_tell 63 = .ok (.iconst 2, 1) := by decide +kernel
theorem dX10_tell_64 : decode cX10_tell 64 = .ok (.if_icmp .ne 13, 3) := by decide +kernel
theorem dX10_tell_67 : decode cX10_tell 67 = .ok (.aload_n 0, 1) := by decide +kernel
theorem dX10_tell_68 : decode cX10_tell 68 = .ok (.getfield 30, 3) := by decide +kernel
theorem dX10_tell_71 : decode cX10_tell 71 = .ok (.iload 4, 2) := by decide +kernel
theorem dX10_tell_73 : decode cX10_tell 73 = .ok (.iaload, 1) := by decide +kernel
theorem dX10_tell_74 : decode cX10_tell 74 = .ok (.goto 4, 3) := by decide +kernel
theorem dX10_tell_77 : decode cX10_tell 77 = .ok (.iconst (-1), 1) := by decide +kernel
theorem dX10_tell_78 : decode cX10_tell 78 = .ok (.ireturn, 1) := by decide +kernel
theorem dX10_leftIn_0 : decode cX10_leftIn 0 = .ok (.iload_n 1, 1) := by decide +kernel
theorem dX10_leftIn_1 : decode cX10_leftIn 1 = .ok (.ifCond .lt 12, 3) := by decide +kernel
theorem dX10_leftIn_4 : decode cX10_leftIn 4 = .ok (.iload_n 1, 1) := by decide +kernel
theorem dX10_leftIn_5 : decode cX10_leftIn 5 = .ok (.aload_n 0, 1) := by decide +kernel
theorem dX10_leftIn_6 : decode cX10_leftIn 6 = .ok (.getfield 18, 3) := by decide +kernel
theorem dX10_leftIn_9 : decode cX10_leftIn 9 = .ok (.arraylength, 1) := by decide +kernel
theorem dX10_leftIn_10 : decode cX10_leftIn 10 = .ok (.if_icmp .lt 5, 3) := by decide +kernel
theorem dX10_leftIn_13 : decode cX10_leftIn 13 = .ok (.iconst 0, 1) := by decide +kernel
theorem dX10_leftIn_14 : decode cX10_leftIn 14 = .ok (.ireturn, 1) := by decide +kernel
theorem dX10_leftIn_15 : decode cX10_leftIn 15 = .ok (.iconst 0, 1) := by decide +kernel
theorem dX10_leftIn_16 : decode cX10_leftIn 16 = .ok (.istore_n 2, 1) := by decide +kernel
theorem dX10_leftIn_17 : decode cX10_leftIn 17 = .ok (.iconst 0, 1) := by decide +kernel
theorem dX10_leftIn_18 : decode cX10_leftIn 18 = .ok (.istore_n 3, 1) := by decide +kernel
theorem dX10_leftIn_19 : decode cX10_leftIn 19 = .ok (.iload_n 3, 1) := by decide +kernel
theorem dX10_leftIn_20 : decode cX10_leftIn 20 = .ok (.aload_n 0, 1) := by decide +kernel
theorem dX10_leftIn_21 : decode cX10_leftIn 21 = .ok (.getfield 18, 3) := by decide +kernel
theorem dX10_leftIn_24 : decode cX10_leftIn 24 = .ok (.iload_n 1, 1) := by decide +kernel
theorem dX10_leftIn_25 : decode cX10_leftIn 25 = .ok (.iaload, 1) := by decide +kernel
theorem dX10_leftIn_26 : decode cX10_leftIn 26 = .ok (.if_icmp .ge 26, 3) := by decide +kernel
theorem dX10_leftIn_29 : decode cX10_leftIn 29 = .ok (.aload_n 0, 1) := by decide +kernel
theorem dX10_leftIn_30 : decode cX10_leftIn 30 = .ok (.getfield 30, 3) := by decide +kernel
theorem dX10_leftIn_33 : decode cX10_leftIn 33 = .ok (.iload_n 1, 1) := by decide +kernel
theorem dX10_leftIn_34 : decode cX10_leftIn 34 = .ok (.bipush 6, 2) := by decide +kernel
theorem dX10_leftIn_36 : decode cX10_leftIn 36 = .ok (.imul, 1) := by decide +kernel
theorem dX10_leftIn_37 : decode cX10_leftIn 37 = .ok (.iload_n 3, 1) := by decide +kernel
theorem dX10_leftIn_38 : decode cX10_leftIn 38 = .ok (.iadd, 1) := by decide +kernel
theorem dX10_leftIn_39 : decode cX10_leftIn 39 = .ok (.iaload, 1) := by decide +kernel
theorem dX10_leftIn_40 : decode cX10_leftIn 40 = .ok (.ifCond .le 6, 3) := by decide +kernel
theorem dX10_leftIn_43 : decode cX10_leftIn 43 = .ok (.iinc 2 1, 3) := by decide +kernel
theorem dX10_leftIn_46 : decode cX10_leftIn 46 = .ok (.iinc 3 1, 3) := by decide +kernel
theorem dX10_leftIn_49 : decode cX10_leftIn 49 = .ok (.goto (-30), 3) := by decide +kernel
theorem dX10_leftIn_52 : decode cX10_leftIn 52 = .ok (.iload_n 2, 1) := by decide +kernel
theorem dX10_leftIn_53 : decode cX10_leftIn 53 = .ok (.ireturn, 1) := by decide +kernel
theorem dX10_freshen_0 : decode cX10_freshen 0 = .ok (.iload_n 1, 1) := by decide +kernel
theorem dX10_freshen_1 : decode cX10_freshen 1 = .ok (.ifCond .lt 12, 3) := by decide +kernel
theorem dX10_freshen_4 : decode cX10_freshen 4 = .ok (.iload_n 1, 1) := by decide +kernel
theorem dX10_freshen_5 : decode cX10_freshen 5 = .ok (.aload_n 0, 1) := by decide +kernel
theorem dX10_freshen_6 : decode cX10_freshen 6 = .ok (.getfield 18, 3) := by decide +kernel
theorem dX10_freshen_9 : decode cX10_freshen 9 = .ok (.arraylength, 1) := by decide +kernel
theorem dX10_freshen_10 : decode cX10_freshen 10 = .ok (.if_icmp .lt 4, 3) := by decide +kernel
theorem dX10_freshen_13 : decode cX10_freshen 13 = .ok (.return_, 1) := by decide +kernel
theorem dX10_freshen_14 : decode cX10_freshen 14 = .ok (.iconst 0, 1) := by decide +kernel
theorem dX10_freshen_15 : decode cX10_freshen 15 = .ok (.istore_n 2, 1) := by decide +kernel
theorem dX10_freshen_16 : decode cX10_freshen 16 = .ok (.iload_n 2, 1) := by decide +kernel
theorem dX10_freshen_17 : decode cX10_freshen 17 = .ok (.aload_n 0, 1) := by decide +kernel
theorem dX10_freshen_18 : decode cX10_freshen 18 = .ok (.getfield 18, 3) := by decide +kernel
theorem dX10_freshen_21 : decode cX10_freshen 21 = .ok (.iload_n 1, 1) := by decide +kernel
theorem dX10_freshen_22 : decode cX10_freshen 22 = .ok (.iaload, 1) := by decide +kernel
theorem dX10_freshen_23 : decode cX10_freshen 23 = .ok (.if_icmp .ge 36, 3) := by decide +kernel
theorem dX10_freshen_26 : decode cX10_freshen 26 = .ok (.aload_n 0, 1) := by decide +kernel
theorem dX10_freshen_27 : decode cX10_freshen 27 = .ok (.getfield 30, 3) := by decide +kernel
theorem dX10_freshen_30 : decode cX10_freshen 30 = .ok (.iload_n 1, 1) := by decide +kernel
theorem dX10_freshen_31 : decode cX10_freshen 31 = .ok (.bipush 6, 2) := by decide +kernel
theorem dX10_freshen_33 : decode cX10_freshen 33 = .ok (.imul, 1) := by decide +kernel
theorem dX10_freshen_34 : decode cX10_freshen 34 = .ok (.iload_n 2, 1) := by decide +kernel
theorem dX10_freshen_35 : decode cX10_freshen 35 = .ok (.iadd, 1) := by decide +kernel
theorem dX10_freshen_36 : decode cX10_freshen 36 = .ok (.iaload, 1) := by decide +kernel
theorem dX10_freshen_37 : decode cX10_freshen 37 = .ok (.ifCond .le 16, 3) := by decide +kernel
theorem dX10_freshen_40 : decode cX10_freshen 40 = .ok (.aload_n 0, 1) := by decide +kernel
theorem dX10_freshen_41 : decode cX10_freshen 41 = .ok (.getfield 30, 3) := by decide +kernel
theorem dX10_freshen_44 : decode cX10_freshen 44 = .ok (.iload_n 1, 1) := by decide +kernel
theorem dX10_freshen_45 : decode cX10_freshen 45 = .ok (.bipush 6, 2) := by decide +kernel
theorem dX10_freshen_47 : decode cX10_freshen 47 = .ok (.imul, 1) := by decide +kernel
theorem dX10_freshen_48 : decode cX10_freshen 48 = .ok (.iload_n 2, 1) := by decide +kernel
theorem dX10_freshen_49 : decode cX10_freshen 49 = .ok (.iadd, 1) := by decide +kernel
theorem dX10_freshen_50 : decode cX10_freshen 50 = .ok (.bipush 9, 2) := by decide +kernel
theorem dX10_freshen_52 : decode cX10_freshen 52 = .ok (.iastore, 1) := by decide +kernel
theorem dX10_freshen_53 : decode cX10_freshen 53 = .ok (.iinc 2 1, 3) := by decide +kernel
theorem dX10_freshen_56 : decode cX10_freshen 56 = .ok (.goto (-40), 3) := by decide +kernel
theorem dX10_freshen_59 : decode cX10_freshen 59 = .ok (.return_, 1) := by decide +kernel
theorem dX10_dim_0 : decode cX10_dim 0 = .ok (.iload_n 1, 1) := by decide +kernel
theorem dX10_dim_1 : decode cX10_dim 1 = .ok (.ifCond .lt 12, 3) := by decide +kernel
theorem dX10_dim_4 : decode cX10_dim 4 = .ok (.iload_n 1, 1) := by decide +kernel
theorem dX10_dim_5 : decode cX10_dim 5 = .ok (.aload_n 0, 1) := by decide +kernel
theorem dX10_dim_6 : decode cX10_dim 6 = .ok (.getfield 18, 3) := by decide +kernel
theorem dX10_dim_9 : decode cX10_dim 9 = .ok (.arraylength, 1) := by decide +kernel
theorem dX10_dim_10 : decode cX10_dim 10 = .ok (.if_icmp .lt 4, 3) := by decide +kernel
theorem dX10_dim_13 : decode cX10_dim 13 = .ok (.return_, 1) := by decide +kernel
theorem dX10_dim_14 : decode cX10_dim 14 = .ok (.iconst 0, 1) := by decide +kernel
theorem dX10_dim_15 : decode cX10_dim 15 = .ok (.istore_n 2, 1) := by decide +kernel
theorem dX10_dim_16 : decode cX10_dim 16 = .ok (.iload_n 2, 1) := by decide +kernel
theorem dX10_dim_17 : decode cX10_dim 17 = .ok (.aload_n 0, 1) := by decide +kernel
theorem dX10_dim_18 : decode cX10_dim 18 = .ok (.getfield 18, 3) := by decide +kernel
theorem dX10_dim_21 : decode cX10_dim 21 = .ok (.iload_n 1, 1) := by decide +kernel
theorem dX10_dim_22 : decode cX10_dim 22 = .ok (.iaload, 1) := by decide +kernel
theorem dX10_dim_23 : decode cX10_dim 23 = .ok (.if_icmp .ge 38, 3) := by decide +kernel
theorem dX10_dim_26 : decode cX10_dim 26 = .ok (.aload_n 0, 1) := by decide +kernel
theorem dX10_dim_27 : decode cX10_dim 27 = .ok (.getfield 30, 3) := by decide +kernel
theorem dX10_dim_30 : decode cX10_dim 30 = .ok (.iload_n 1, 1) := by decide +kernel
theorem dX10_dim_31 : decode cX10_dim 31 = .ok (.bipush 6, 2) := by decide +kernel
theorem dX10_dim_33 : decode cX10_dim 33 = .ok (.imul, 1) := by decide +kernel
theorem dX10_dim_34 : decode cX10_dim 34 = .ok (.iload_n 2, 1) := by decide +kernel
theorem dX10_dim_35 : decode cX10_dim 35 = .ok (.iadd, 1) := by decide +kernel
theorem dX10_dim_36 : decode cX10_dim 36 = .ok (.iaload, 1) := by decide +kernel
theorem dX10_dim_37 : decode cX10_dim 37 = .ok (.ifCond .le 18, 3) := by decide +kernel
theorem dX10_dim_40 : decode cX10_dim 40 = .ok (.aload_n 0, 1) := by decide +kernel
theorem dX10_dim_41 : decode cX10_dim 41 = .ok (.getfield 30, 3) := by decide +kernel
theorem dX10_dim_44 : decode cX10_dim 44 = .ok (.iload_n 1, 1) := by decide +kernel
theorem dX10_dim_45 : decode cX10_dim 45 = .ok (.bipush 6, 2) := by decide +kernel
theorem dX10_dim_47 : decode cX10_dim 47 = .ok (.imul, 1) := by decide +kernel
theorem dX10_dim_48 : decode cX10_dim 48 = .ok (.iload_n 2, 1) := by decide +kernel
theorem dX10_dim_49 : decode cX10_dim 49 = .ok (.iadd, 1) := by decide +kernel
theorem dX10_dim_50 : decode cX10_dim 50 = .ok (.dup2, 1) := by decide +kernel
theorem dX10_dim_51 : decode cX10_dim 51 = .ok (.iaload, 1) := by decide +kernel
theorem dX10_dim_52 : decode cX10_dim 52 = .ok (.iconst 1, 1) := by decide +kernel
theorem dX10_dim_53 : decode cX10_dim 53 = .ok (.isub, 1) := by decide +kernel
theorem dX10_dim_54 : decode cX10_dim 54 = .ok (.iastore, 1) := by decide +kernel
theorem dX10_dim_55 : decode cX10_dim 55 = .ok (.iinc 2 1, 3) := by decide +kernel
theorem dX10_dim_58 : decode cX10_dim 58 = .ok (.goto (-42), 3) := by decide +kernel
theorem dX10_dim_61 : decode cX10_dim 61 = .ok (.return_, 1) := by decide +kernel
theorem dX10_named_0 : decode cX10_named 0 = .ok (.iload_n 1, 1) := by decide +kernel
theorem dX10_named_1 : decode cX10_named 1 = .ok (.ifCond .lt 12, 3) := by decide +kernel
theorem dX10_named_4 : decode cX10_named 4 = .ok (.iload_n 1, 1) := by decide +kernel
theorem dX10_named_5 : decode cX10_named 5 = .ok (.aload_n 0, 1) := by decide +kernel
theorem dX10_named_6 : decode cX10_named 6 = .ok (.getfield 18, 3) := by decide +kernel
theorem dX10_named_9 : decode cX10_named 9 = .ok (.arraylength, 1) := by decide +kernel
theorem dX10_named_10 : decode cX10_named 10 = .ok (.if_icmp .lt 5, 3) := by decide +kernel
theorem dX10_named_13 : decode cX10_named 13 = .ok (.iconst 0, 1) := by decide +kernel
theorem dX10_named_14 : decode cX10_named 14 = .ok (.ireturn, 1) := by decide +kernel
theorem dX10_named_15 : decode cX10_named 15 = .ok (.iconst 0, 1) := by decide +kernel
theorem dX10_named_16 : decode cX10_named 16 = .ok (.istore_n 3, 1) := by decide +kernel
theorem dX10_named_17 : decode cX10_named 17 = .ok (.iconst 0, 1) := by decide +kernel
theorem dX10_named_18 : decode cX10_named 18 = .ok (.istore 4, 2) := by decide +kernel
theorem dX10_named_20 : decode cX10_named 20 = .ok (.iload 4, 2) := by decide +kernel
theorem dX10_named_22 : decode cX10_named 22 = .ok (.aload_n 0, 1) := by decide +kernel
theorem dX10_named_23 : decode cX10_named 23 = .ok (.getfield 18, 3) := by decide +kernel
theorem dX10_named_26 : decode cX10_named 26 = .ok (.iload_n 1, 1) := by decide +kernel
theorem dX10_named_27 : decode cX10_named 27 = .ok (.iaload, 1) := by decide +kernel
theorem dX10_named_28 : decode cX10_named 28 = .ok (.if_icmp .ge 51, 3) := by decide +kernel
theorem dX10_named_31 : decode cX10_named 31 = .ok (.iload_n 1, 1) := by decide +kernel
theorem dX10_named_32 : decode cX10_named 32 = .ok (.bipush 6, 2) := by decide +kernel
theorem dX10_named_34 : decode cX10_named 34 = .ok (.imul, 1) := by decide +kernel
theorem dX10_named_35 : decode cX10_named 35 = .ok (.iload 4, 2) := by decide +kernel
theorem dX10_named_37 : decode cX10_named 37 = .ok (.iadd, 1) := by decide +kernel
theorem dX10_named_38 : decode cX10_named 38 = .ok (.istore 5, 2) := by decide +kernel
theorem dX10_named_40 : decode cX10_named 40 = .ok (.aload_n 0, 1) := by decide +kernel
theorem dX10_named_41 : decode cX10_named 41 = .ok (.getfield 30, 3) := by decide +kernel
theorem dX10_named_44 : decode cX10_named 44 = .ok (.iload 5, 2) := by decide +kernel
theorem dX10_named_46 : decode cX10_named 46 = .ok (.iaload, 1) := by decide +kernel
theorem dX10_named_47 : decode cX10_named 47 = .ok (.ifCond .le 26, 3) := by decide +kernel
theorem dX10_named_50 : decode cX10_named 50 = .ok (.aload_n 0, 1) := by decide +kernel
theorem dX10_named_51 : decode cX10_named 51 = .ok (.getfield 24, 3) := by decide +kernel
theorem dX10_named_54 : decode cX10_named 54 = .ok (.iload 5, 2) := by decide +kernel
theorem dX10_named_56 : decode cX10_named 56 = .ok (.iaload, 1) := by decide +kernel
theorem dX10_named_57 : decode cX10_named 57 = .ok (.iload_n 2, 1) := by decide +kernel
theorem dX10_named_58 : decode cX10_named 58 = .ok (.if_icmp .ne 15, 3) := by decide +kernel
theorem dX10_named_61 : decode cX10_named 61 = .ok (.iload_n 3, 1) := by decide +kernel
theorem dX10_named_62 : decode cX10_named 62 = .ok (.iconst 1, 1) := by decide +kernel
theorem dX10_named_63 : decode cX10_named 63 = .ok (.aload_n 0, 1) := by decide +kernel
theorem dX10_named_64 : decode cX10_named 64 = .ok (.getfield 27, 3) := by decide +kernel
theorem dX10_named_67 : decode cX10_named 67 = .ok (.iload 5, 2) := by decide +kernel
theorem dX10_named_69 : decode cX10_named 69 = .ok (.iaload, 1) := by decide +kernel
theorem dX10_named_70 : decode cX10_named 70 = .ok (.ishl, 1) := by decide +kernel
theorem dX10_named_71 : decode cX10_named 71 = .ok (.ior, 1) := by decide +kernel
theorem dX10_named_72 : decode cX10_named 72 = .ok (.istore_n 3, 1) := by decide +kernel
theorem dX10_named_73 : decode cX10_named 73 = .ok (.iinc 4 1, 3) := by decide +kernel
theorem dX10_named_76 : decode cX10_named 76 = .ok (.goto (-56), 3) := by decide +kernel
theorem dX10_named_79 : decode cX10_named 79 = .ok (.iload_n 3, 1) := by decide +kernel
theorem dX10_named_80 : decode cX10_named 80 = .ok (.ireturn, 1) := by decide +kernel
theorem dX10_weakestInk_0 : decode cX10_weakestInk 0 = .ok (.iload_n 1, 1) := by decide +kernel
theorem dX10_weakestInk_1 : decode cX10_weakestInk 1 = .ok (.ifCond .lt 12, 3) := by decide +kernel
theorem dX10_weakestInk_4 : decode cX10_weakestInk 4 = .ok (.iload_n 1, 1) := by decide +kernel
theorem dX10_weakestInk_5 : decode cX10_weakestInk 5 = .ok (.aload_n 0, 1) := by decide +kernel
theorem dX10_weakestInk_6 : decode cX10_weakestInk 6 = .ok (.getfield 18, 3) := by decide +kernel
theorem dX10_weakestInk_9 : decode cX10_weakestInk 9 = .ok (.arraylength, 1) := by decide +kernel
theorem dX10_weakestInk_10 : decode cX10_weakestInk 10 = .ok (.if_icmp .lt 5, 3) := by decide +kernel
theorem dX10_weakestInk_13 : decode cX10_weakestInk 13 = .ok (.iconst 0, 1) := by decide +kernel
theorem dX10_weakestInk_14 : decode cX10_weakestInk 14 = .ok (.ireturn, 1) := by decide +kernel
theorem dX10_weakestInk_15 : decode cX10_weakestInk 15 = .ok (.iconst 0, 1) := by decide +kernel
theorem dX10_weakestInk_16 : decode cX10_weakestInk 16 = .ok (.istore_n 2, 1) := by decide +kernel
theorem dX10_weakestInk_17 : decode cX10_weakestInk 17 = .ok (.iconst 0, 1) := by decide +kernel
theorem dX10_weakestInk_18 : decode cX10_weakestInk 18 = .ok (.istore_n 3, 1) := by decide +kernel
theorem dX10_weakestInk_19 : decode cX10_weakestInk 19 = .ok (.iload_n 3, 1) := by decide +kernel
theorem dX10_weakestInk_20 : decode cX10_weakestInk 20 = .ok (.aload_n 0, 1) := by decide +kernel
theorem dX10_weakestInk_21 : decode cX10_weakestInk 21 = .ok (.getfield 18, 3) := by decide +kernel
theorem dX10_weakestInk_24 : decode cX10_weakestInk 24 = .ok (.iload_n 1, 1) := by decide +kernel
theorem dX10_weakestInk_25 : decode cX10_weakestInk 25 = .ok (.iaload, 1) := by decide +kernel
theorem dX10_weakestInk_26 : decode cX10_weakestInk 26 = .ok (.if_icmp .ge 40, 3) := by decide +kernel
theorem dX10_weakestInk_29 : decode cX10_weakestInk 29 = .ok (.aload_n 0, 1) := by decide +kernel
theorem dX10_weakestInk_30 : decode cX10_weakestInk 30 = .ok (.getfield 30, 3) := by decide +kernel
theorem dX10_weakestInk_33 : decode cX10_weakestInk 33 = .ok (.iload_n 1, 1) := by decide +kernel
theorem dX10_weakestInk_34 : decode cX10_weakestInk 34 = .ok (.bipush 6, 2) := by decide +kernel
theorem dX10_weakestInk_36 : decode cX10_weakestInk 36 = .ok (.imul, 1) := by decide +kernel
theorem dX10_weakestInk_37 : decode cX10_weakestInk 37 = .ok (.iload_n 3, 1) := by decide +kernel
theorem dX10_weakestInk_38 : decode cX10_weakestInk 38 = .ok (.iadd, 1) := by decide +kernel
theorem dX10_weakestInk_39 : decode cX10_weakestInk 39 = .ok (.iaload, 1) := by decide +kernel
theorem dX10_weakestInk_40 : decode cX10_weakestInk 40 = .ok (.istore 4, 2) := by decide +kernel
theorem dX10_weakestInk_42 : decode cX10_weakestInk 42 = .ok (.iload 4, 2) := by decide +kernel
theorem dX10_weakestInk_44 : decode cX10_weakestInk 44 = .ok (.ifCond .le 16, 3) := by decide +kernel
theorem dX10_weakestInk_47 : decode cX10_weakestInk 47 = .ok (.iload_n 2, 1) := by decide +kernel
theorem dX10_weakestInk_48 : decode cX10_weakestInk 48 = .ok (.ifCond .eq 9, 3) := by decide +kernel
theorem dX10_weakestInk_51 : decode cX10_weakestInk 51 = .ok (.iload 4, 2) := by decide +kernel
theorem dX10_weakestInk_53 : decode cX10_weakestInk 53 = .ok (.iload_n 2, 1) := by decide +kernel
theorem dX10_weakestInk_54 : decode cX10_weakestInk 54 = .ok (.if_icmp .ge 6, 3) := by decide +kernel
theorem dX10_weakestInk_57 : decode cX10_weakestInk 57 = .ok (.iload 4, 2) := by decide +kernel
theorem dX10_weakestInk_59 : decode cX10_weakestInk 59 = .ok (.istore_n 2, 1) := by decide +kernel
theorem dX10_weakestInk_60 : decode cX10_weakestInk 60 = .ok (.iinc 3 1, 3) := by decide +kernel
theorem dX10_weakestInk_63 : decode cX10_weakestInk 63 = .ok (.goto (-44), 3) := by decide +kernel
theorem dX10_weakestInk_66 : decode cX10_weakestInk 66 = .ok (.iload_n 2, 1) := by decide +kernel
theorem dX10_weakestInk_67 : decode cX10_weakestInk 67 = .ok (.ireturn, 1) := by decide +kernel
theorem dX11_init_0 : decode cX11_init 0 = .ok (.aload_n 0, 1) := by decide +kernel
theorem dX11_init_1 : decode cX11_init 1 = .ok (.invokespecial 1, 3) := by decide +kernel
theorem dX11_init_4 : decode cX11_init 4 = .ok (.aload_n 0, 1) := by decide +kernel
theorem dX11_init_5 : decode cX11_init 5 = .ok (.new 7, 3) := by decide +kernel
theorem dX11_init_8 : decode cX11_init 8 = .ok (.dup, 1) := by decide +kernel
theorem dX11_init_9 : decode cX11_init 9 = .ok (.invokespecial 9, 3) := by decide +kernel
theorem dX11_init_12 : decode cX11_init 12 = .ok (.putfield 10, 3) := by decide +kernel
theorem dX11_init_15 : decode cX11_init 15 = .ok (.aload_n 0, 1) := by decide +kernel
theorem dX11_init_16 : decode cX11_init 16 = .ok (.new 16, 3) := by decide +kernel
theorem dX11_init_19 : decode cX11_init 19 = .ok (.dup, 1) := by decide +kernel
theorem dX11_init_20 : decode cX11_init 20 = .ok (.aload_n 0, 1) := by decide +kernel
theorem dX11_init_21 : decode cX11_init 21 = .ok (.getfield 10, 3) := by decide +kernel
theorem dX11_init_24 : decode cX11_init 24 = .ok (.invokespecial 18, 3) := by decide +kernel
theorem dX11_init_27 : decode cX11_init 27 = .ok (.putfield 21, 3) := by decide +kernel
theorem dX11_init_30 : decode cX11_init 30 = .ok (.aload_n 0, 1) := by decide +kernel
theorem dX11_init_31 : decode cX11_init 31 = .ok (.new 25, 3) := by decide +kernel
theorem dX11_init_34 : decode cX11_init 34 = .ok (.dup, 1) := by decide +kernel
theorem dX11_init_35 : decode cX11_init 35 = .ok (.aload_n 0, 1) := by decide +kernel
theorem dX11_init_36 : decode cX11_init 36 = .ok (.getfield 10, 3) := by decide +kernel
theorem dX11_init_39 : decode cX11_init 39 = .ok (.invokespecial 27, 3) := by decide +kernel
theorem dX11_init_42 : decode cX11_init 42 = .ok (.putfield 28, 3) := by decide +kernel
theorem dX11_init_45 : decode cX11_init 45 = .ok (.aload_n 0, 1) := by decide +kernel
theorem dX11_init_46 : decode cX11_init 46 = .ok (.new 32, 3) := by decide +kernel
theorem dX11_init_49 : decode cX11_init 49 = .ok (.dup, 1) := by decide +kernel
theorem dX11_init_50 : decode cX11_init 50 = .ok (.invokespecial 34, 3) := by decide +kernel
theorem dX11_init_53 : decode cX11_init 53 = .ok (.putfield 35, 3) := by decide +kernel
theorem dX11_init_56 : decode cX11_init 56 = .ok (.aload_n 0, 1) := by decide +kernel
theorem dX11_init_57 : decode cX11_init 57 = .ok (.new 39, 3) := by decide +kernel
theorem dX11_init_60 : decode cX11_init 60 = .ok (.dup, 1) := by decide +kernel
theorem dX11_init_61 : decode cX11_init 61 = .ok (.invokespecial 41, 3) := by decide +kernel
theorem dX11_init_64 : decode cX11_init 64 = .ok (.putfield 42, 3) := by decide +kernel
theorem dX11_init_67 : decode cX11_init 67 = .ok (.aload_n 0, 1) := by decide +kernel
theorem dX11_init_68 : decode cX11_init 68 = .ok (.new 46, 3) := by decide +kernel
theorem dX11_init_71 : decode cX11_init 71 = .ok (.dup, 1) := by decide +kernel
theorem dX11_init_72 : decode cX11_init 72 = .ok (.iconst 4, 1) := by decide +kernel
theorem dX11_init_73 : decode cX11_init 73 = .ok (.invokespecial 48, 3) := by decide +kernel
theorem dX11_init_76 : decode cX11_init 76 = .ok (.putfield 51, 3) := by decide +kernel
theorem dX11_init_79 : decode cX11_init 79 = .ok (.aload_n 0, 1) := by decide +kernel
theorem dX11_init_80 : decode cX11_init 80 = .ok (.iconst 0, 1) := by decide +kernel
theorem dX11_init_81 : decode cX11_init 81 = .ok (.putfield 55, 3) := by decide +kernel
theorem dX11_init_84 : decode cX11_init 84 = .ok (.aload_n 0, 1) := by decide +kernel
theorem dX11_init_85 : decode cX11_init 85 = .ok (.new 59, 3) := by decide +kernel
theorem dX11_init_88 : decode cX11_init 88 = .ok (.dup, 1) := by decide +kernel
theorem dX11_init_89 : decode cX11_init 89 = .ok (.aload_n 0, 1) := by decide +kernel
theorem dX11_init_90 : decode cX11_init 90 = .ok (.getfield 35, 3) := by decide +kernel
theorem dX11_init_93 : decode cX11_init 93 = .ok (.aload_n 0, 1) := by decide +kernel
theorem dX11_init_94 : decode cX11_init 94 = .ok (.getfield 42, 3) := by decide +kernel
theorem dX11_init_97 : decode cX11_init 97 = .ok (.invokespecial 61, 3) := by decide +kernel
theorem dX11_init_100 : decode cX11_init 100 = .ok (.putfield 64, 3) := by decide +kernel
theorem dX11_init_103 : decode cX11_init 103 = .ok (.aload_n 0, 1) := by decide +kernel
theorem dX11_init_104 : decode cX11_init 104 = .ok (.new 68, 3) := by decide +kernel
theorem dX11_init_107 : decode cX11_init 107 = .ok (.dup, 1) := by decide +kernel
theorem dX11_init_108 : decode cX11_init 108 = .ok (.invokespecial 70, 3) := by decide +kernel
theorem dX11_init_111 : decode cX11_init 111 = .ok (.putfield 71, 3) := by decide +kernel
theorem dX11_init_114 : decode cX11_init 114 = .ok (.aload_n 0, 1) := by decide +kernel
theorem dX11_init_115 : decode cX11_init 115 = .ok (.new 75, 3) := by decide +kernel
theorem dX11_init_118 : decode cX11_init 118 = .ok (.dup, 1) := by decide +kernel
theorem dX11_init_119 : decode cX11_init 119 = .ok (.aload_n 0, 1) := by decide +kernel
theorem dX11_init_120 : decode cX11_init 120 = .ok (.getfield 35, 3) := by decide +kernel
theorem dX11_init_123 : decode cX11_init 123 = .ok (.invokespecial 77, 3) := by decide +kernel
theorem dX11_init_126 : decode cX11_init 126 = .ok (.putfield 80, 3) := by decide +kernel
theorem dX11_init_129 : decode cX11_init 129 = .ok (.aload_n 0, 1) := by decide +kernel
theorem dX11_init_130 : decode cX11_init 130 = .ok (.new 84, 3) := by decide +kernel
theorem dX11_init_133 : decode cX11_init 133 = .ok (.dup, 1) := by decide +kernel
theorem dX11_init_134 : decode cX11_init 134 = .ok (.aload_n 0, 1) := by decide +kernel
theorem dX11_init_135 : decode cX11_init 135 = .ok (.getfield 35, 3) := by decide +kernel
theorem dX11_init_138 : decode cX11_init 138 = .ok (.invokespecial 86, 3) := by decide +kernel
theorem dX11_init_141 : decode cX11_init 141 = .ok (.putfield 87, 3) := by decide +kernel
theorem dX11_init_144 : decode cX11_init 144 = .ok (.aload_n 0, 1) := by decide +kernel
theorem dX11_init_145 : decode cX11_init 145 = .ok (.bipush 32, 2) := by decide +kernel
theorem dX11_init_147 : decode cX11_init 147 = .ok (.newarray .long, 2) := by decide +kernel
theorem dX11_init_149 : decode cX11_init 149 = .ok (.putfield 91, 3) := by decide +kernel
theorem dX11_init_152 : decode cX11_init 152 = .ok (.aload_n 0, 1) := by decide +kernel
theorem dX11_init_153 : decode cX11_init 153 = .ok (.new 95, 3) := by decide +kernel
theorem dX11_init_156 : decode cX11_init 156 = .ok (.dup, 1) := by decide +kernel
theorem dX11_init_157 : decode cX11_init 157 = .ok (.invokespecial 97, 3) := by decide +kernel
theorem dX11_init_160 : decode cX11_init 160 = .ok (.putfield 98, 3) := by decide +kernel
theorem dX11_init_163 : decode cX11_init 163 = .ok (.aload_n 0, 1) := by decide +kernel
theorem dX11_init_164 : decode cX11_init 164 = .ok (.sipush 128, 3) := by decide +kernel
theorem dX11_init_167 : decode cX11_init 167 = .ok (.newarray .int, 2) := by decide +kernel
theorem dX11_init_169 : decode cX11_init 169 = .ok (.putfield 102, 3) := by decide +kernel
theorem dX11_init_172 : decode cX11_init 172 = .ok (.aload_n 0, 1) := by decide +kernel
theorem dX11_init_173 : decode cX11_init 173 = .ok (.iconst 0, 1) := by decide +kernel
theorem dX11_init_174 : decode cX11_init 174 = .ok (.putfield 106, 3) := by decide +kernel
theorem dX11_init_177 : decode cX11_init 177 = .ok (.aload_n 0, 1) := by decide +kernel
theorem dX11_init_178 : decode cX11_init 178 = .ok (.iconst 0, 1) := by decide +kernel
theorem dX11_init_179 : decode cX11_init 179 = .ok (.putfield 110, 3) := by decide +kernel
theorem dX11_init_182 : decode cX11_init 182 = .ok (.aload_n 0, 1) := by decide +kernel
theorem dX11_init_183 : decode cX11_init 183 = .ok (.lconst 0, 1) := by decide +kernel
theorem dX11_init_184 : decode cX11_init 184 = .ok (.putfield 113, 3) := by decide +kernel
theorem dX11_init_187 : decode cX11_init 187 = .ok (.return_, 1) := by decide +kernel
theorem dX11_feed_0 : decode cX11_feed 0 = .ok (.aload_n 0, 1) := by decide +kernel
theorem dX11_feed_1 : decode cX11_feed 1 = .ok (.getfield 10, 3) := by decide +kernel
theorem dX11_feed_4 : decode cX11_feed 4 = .ok (.iload_n 1, 1) := by decide +kernel
theorem dX11_feed_5 : decode cX11_feed 5 = .ok (.invokevirtual 117, 3) := by decide +kernel
theorem dX11_feed_8 : decode cX11_feed 8 = .ok (.aload_n 0, 1) := by decide +kernel
theorem dX11_feed_9 : decode cX11_feed 9 = .ok (.getfield 10, 3) := by decide +kernel
theorem dX11_feed_12 : decode cX11_feed 12 = .ok (.iload_n 2, 1) := by decide +kernel
theorem dX11_feed_13 : decode cX11_feed 13 = .ok (.invokevirtual 117, 3) := by decide +kernel
theorem dX11_feed_16 : decode cX11_feed 16 = .ok (.iadd, 1) := by decide +kernel
theorem dX11_feed_17 : decode cX11_feed 17 = .ok (.aload_n 0, 1) := by decide +kernel
theorem dX11_feed_18 : decode cX11_feed 18 = .ok (.getfield 10, 3) := by decide +kernel
theorem dX11_feed_21 : decode cX11_feed 21 = .ok (.iload_n 3, 1) := by decide +kernel
theorem dX11_feed_22 : decode cX11_feed 22 = .ok (.invokevirtual 117, 3) := by decide +kernel
theorem dX11_feed_25 : decode cX11_feed 25 = .ok (.iadd, 1) := by decide +kernel
theorem dX11_feed_26 : decode cX11_feed 26 = .ok (.aload_n 0, 1) := by decide +kernel
theorem dX11_feed_27 : decode cX11_feed 27 = .ok (.getfield 10, 3) := by decide +kernel
theorem dX11_feed_30 : decode cX11_feed 30 = .ok (.iload 4, 2) := by decide +kernel
theorem dX11_feed_32 : decode cX11_feed 32 = .ok (.invokevirtual 117, 3) := by decide +kernel
theorem dX11_feed_35 : decode cX11_feed 35 = .ok (.iadd, 1) := by decide +kernel
theorem dX11_feed_36 : decode cX11_feed 36 = .ok (.aload_n 0, 1) := by decide +kernel
theorem dX11_feed_37 : decode cX11_feed 37 = .ok (.getfield 10, 3) := by decide +kernel
theorem dX11_feed_40 : decode cX11_feed 40 = .ok (.iload 5, 2) := by decide +kernel
theorem dX11_feed_42 : decode cX11_feed 42 = .ok (.invokevirtual 117, 3) := by decide +kernel
theorem dX11_feed_45 : decode cX11_feed 45 = .ok (.iadd, 1) := by decide +kernel
theorem dX11_feed_46 : decode cX11_feed 46 = .ok (.istore 6, 2) := by decide +kernel
theorem dX11_feed_48 : decode cX11_feed 48 = .ok (.aload_n 0, 1) := by decide +kernel
theorem dX11_feed_49 : decode cX11_feed 49 = .ok (.getfield 10, 3) := by decide +kernel
theorem dX11_feed_52 : decode cX11_feed 52 = .ok (.getfield 121, 3) := by decide +kernel
theorem dX11_feed_55 : decode cX11_feed 55 = .ok (.iload 6, 2) := by decide +kernel
theorem dX11_feed_57 : decode cX11_feed 57 = .ok (.iadd, 1) := by decide +kernel
theorem dX11_feed_58 : decode cX11_feed 58 = .ok (.sipush 240, 3) := by decide +kernel
theorem dX11_feed_61 : decode cX11_feed 61 = .ok (.if_icmp .le 5, 3) := by decide +kernel
theorem dX11_feed_64 : decode cX11_feed 64 = .ok (.iconst (-1), 1) := by decide +kernel
theorem dX11_feed_65 : decode cX11_feed 65 = .ok (.ireturn, 1) := by decide +kernel
theorem dX11_feed_66 : decode cX11_feed 66 = .ok (.aload_n 0, 1) := by decide +kernel
theorem dX11_feed_67 : decode cX11_feed 67 = .ok (.getfield 10, 3) := by decide +kernel
theorem dX11_feed_70 : decode cX11_feed 70 = .ok (.iload_n 1, 1) := by decide +kernel
theorem dX11_feed_71 : decode cX11_feed 71 = .ok (.invokevirtual 124, 3) := by decide +kernel
theorem dX11_feed_74 : decode cX11_feed 74 = .ok (.aload_n 0, 1) := by decide +kernel
theorem dX11_feed_75 : decode cX11_feed 75 = .ok (.getfield 10, 3) := by decide +kernel
theorem dX11_feed_78 : decode cX11_feed 78 = .ok (.iload_n 2, 1) := by decide +kernel
theorem dX11_feed_79 : decode cX11_feed 79 = .ok (.invokevirtual 124, 3) := by decide +kernel
theorem dX11_feed_82 : decode cX11_feed 82 = .ok (.aload_n 0, 1) := by decide +kernel
theorem dX11_feed_83 : decode cX11_feed 83 = .ok (.getfield 10, 3) := by decide +kernel
theorem dX11_feed_86 : decode cX11_feed 86 = .ok (.iload_n 3, 1) := by decide +kernel
theorem dX11_feed_87 : decode cX11_feed 87 = .ok (.invokevirtual 124, 3) := by decide +kernel
theorem dX11_feed_90 : decode cX11_feed 90 = .ok (.aload_n 0, 1) := by decide +kernel
theorem dX11_feed_91 : decode cX11_feed 91 = .ok (.getfield 10, 3) := by decide +kernel
theorem dX11_feed_94 : decode cX11_feed 94 = .ok (.iload 4, 2) := by decide +kernel
theorem dX11_feed_96 : decode cX11_feed 96 = .ok (.invokevirtual 124, 3) := by decide +kernel
theorem dX11_feed_99 : decode cX11_feed 99 = .ok (.aload_n 0, 1) := by decide +kernel
theorem dX11_feed_100 : decode cX11_feed 100 = .ok (.getfield 10, 3) := by decide +kernel
theorem dX11_feed_103 : decode cX11_feed 103 = .ok (.iload 5, 2) := by decide +kernel
theorem dX11_feed_105 : decode cX11_feed 105 = .ok (.invokevirtual 124, 3) := by decide +kernel
theorem dX11_feed_108 : decode cX11_feed 108 = .ok (.aload_n 0, 1) := by decide +kernel
theorem dX11_feed_109 : decode cX11_feed 109 = .ok (.getfield 10, 3) := by decide +kernel
theorem dX11_feed_112 : decode cX11_feed 112 = .ok (.getfield 121, 3) := by decide +kernel
theorem dX11_feed_115 : decode cX11_feed 115 = .ok (.ireturn, 1) := by decide +kernel
theorem dX11_end_0 : decode cX11_end 0 = .ok (.iload_n 1, 1) := by decide +kernel
theorem dX11_end_1 : decode cX11_end 1 = .ok (.ifCond .lt 14, 3) := by decide +kernel
theorem dX11_end_4 : decode cX11_end 4 = .ok (.iload_n 1, 1) := by decide +kernel
theorem dX11_end_5 : decode cX11_end 5 = .ok (.aload_n 0, 1) := by decide +kernel
theorem dX11_end_6 : decode cX11_end 6 = .ok (.getfield 10, 3) := by decide +kernel
theorem dX11_end_9 : decode cX11_end 9 = .ok (.getfield 121, 3) := by decide +kernel
theorem dX11_end_12 : decode cX11_end 12 = .ok (.if_icmp .le 5, 3) := by decide +kernel
theorem dX11_end_15 : decode cX11_end 15 = .ok (.iconst 0, 1) := by decide +kernel
theorem dX11_end_16 : decode cX11_end 16 = .ok (.ireturn, 1) := by decide +kernel
theorem dX11_end_17 : decode cX11_end 17 = .ok (.aload_n 0, 1) := by decide +kernel
theorem dX11_end_18 : decode cX11_end 18 = .ok (.getfield 10, 3) := by decide +kernel
theorem dX11_end_21 : decode cX11_end 21 = .ok (.iload_n 1, 1) := by decide +kernel
theorem dX11_end_22 : decode cX11_end 22 = .ok (.putfield 121, 3) := by decide +kernel
theorem dX11_end_25 : decode cX11_end 25 = .ok (.iconst 1, 1) := by decide +kernel
theorem dX11_end_26 : decode cX11_end 26 = .ok (.ireturn, 1) := by decide +kernel
theorem dX11_fault_0 : decode cX11_fault 0 = .ok (.iload_n 1, 1) := by decide +kernel
theorem dX11_fault_1 : decode cX11_fault 1 = .ok (.ifCond .lt 8, 3) := by decide +kernel
theorem dX11_fault_4 : decode cX11_fault 4 = .ok (.iload_n 1, 1) := by decide +kernel
theorem dX11_fault_5 : decode cX11_fault 5 = .ok (.iconst 2, 1) := by decide +kernel
theorem dX11_fault_6 : decode cX11_fault 6 = .ok (.if_icmp .le 6, 3) := by decide +kernel
theorem dX11_fault_9 : decode cX11_fault 9 = .ok (.bipush (-2), 2) := by decide +kernel
theorem dX11_fault_11 : decode cX11_fault 11 = .ok (.ireturn, 1) := by decide +kernel
theorem dX11_fault_12 : decode cX11_fault 12 = .ok (.iload_n 1, 1) := by decide +kernel
theorem dX11_fault_13 : decode cX11_fault 13 = .ok (.iconst 1, 1) := by decide +kernel
theorem dX11_fault_14 : decode cX11_fault 14 = .ok (.if_icmp .ne 13, 3) := by decide +kernel
theorem dX11_fault_17 : decode cX11_fault 17 = .ok (.aload_n 0, 1) := by decide +kernel
theorem dX11_fault_18 : decode cX11_fault 18 = .ok (.getfield 28, 3) := by decide +kernel
theorem dX11_fault_21 : decode cX11_fault 21 = .ok (.invokevirtual 127, 3) := by decide +kernel
theorem dX11_fault_24 : decode cX11_fault 24 = .ok (.goto 25, 3) := by decide +kernel
theorem dX11_fault_27 : decode cX11_fault 27 = .ok (.iload_n 1, 1) := by decide +kernel
theorem dX11_fault_28 : decode cX11_fault 28 = .ok (.iconst 2, 1) := by decide +kernel
theorem dX11_fault_29 : decode cX11_fault 29 = .ok (.if_icmp .ne 13, 3) := by decide +kernel
theorem dX11_fault_32 : decode cX11_fault 32 = .ok (.aload_n 0, 1) := by decide +kernel
theorem dX11_fault_33 : decode cX11_fault 33 = .ok (.getfield 21, 3) := by decide +kernel
theorem dX11_fault_36 : decode cX11_fault 36 = .ok (.invokevirtual 131, 3) := by decide +kernel
theorem dX11_fault_39 : decode cX11_fault 39 = .ok (.goto 10, 3) := by decide +kernel
theorem dX11_fault_42 : decode cX11_fault 42 = .ok (.aload_n 0, 1) := by decide +kernel
theorem dX11_fault_43 : decode cX11_fault 43 = .ok (.getfield 21, 3) := by decide +kernel
theorem dX11_fault_46 : decode cX11_fault 46 = .ok (.invokevirtual 134, 3) := by decide +kernel
theorem dX11_fault_49 : decode cX11_fault 49 = .ok (.istore_n 2, 1) := by decide +kernel
theorem dX11_fault_50 : decode cX11_fault 50 = .ok (.iload_n 2, 1) := by decide +kernel
theorem dX11_fault_51 : decode cX11_fault 51 = .ok (.ifCond .eq 7, 3) := by decide +kernel
theorem dX11_fault_54 : decode cX11_fault 54 = .ok (.iconst (-1), 1) := by decide +kernel
theorem dX11_fault_55 : decode cX11_fault 55 = .ok (.goto 10, 3) := by decide +kernel
theorem dX11_fault_58 : decode cX11_fault 58 = .ok (.aload_n 0, 1) := by decide +kernel
theorem dX11_fault_59 : decode cX11_fault 59 = .ok (.getfield 10, 3) := by decide +kernel
theorem dX11_fault_62 : decode cX11_fault 62 = .ok (.getfield 137, 3) := by decide +kernel
theorem dX11_fault_65 : decode cX11_fault 65 = .ok (.ireturn, 1) := by decide +kernel
theorem dX11_text_0 : decode cX11_text 0 = .ok (.aload_n 0, 1) := by decide +kernel
theorem dX11_text_1 : decode cX11_text 1 = .ok (.iload_n 1, 1) := by decide +kernel
theorem dX11_text_2 : decode cX11_text 2 = .ok (.invokevirtual 140, 3) := by decide +kernel
theorem dX11_text_5 : decode cX11_text 5 = .ok (.ifCond .ne 12, 3) := by decide +kernel
theorem dX11_text_8 : decode cX11_text 8 = .ok (.aload_n 0, 1) := by decide +kernel
theorem dX11_text_9 : decode cX11_text 9 = .ok (.iload_n 1, 1) := by decide +kernel
theorem dX11_text_10 : decode cX11_text 10 = .ok (.invokevirtual 144, 3) := by decide +kernel
theorem dX11_text_13 : decode cX11_text 13 = .ok (.iconst (-1), 1) := by decide +kernel
theorem dX11_text_14 : decode cX11_text 14 = .ok (.if_icmp .eq 5, 3) := by decide +kernel
theorem dX11_text_17 : decode cX11_text 17 = .ok (.iconst (-1), 1) := by decide +kernel
theorem dX11_text_18 : decode cX11_text 18 = .ok (.ireturn, 1) := by decide +kernel
theorem dX11_text_19 : decode cX11_text 19 = .ok (.aload_n 0, 1) := by decide +kernel
theorem dX11_text_20 : decode cX11_text 20 = .ok (.getfield 10, 3) := by decide +kernel
theorem dX11_text_23 : decode cX11_text 23 = .ok (.iconst 0, 1) := by decide +kernel
theorem dX11_text_24 : decode cX11_text 24 = .ok (.putfield 121, 3) := by decide +kernel
theorem dX11_text_27 : decode cX11_text 27 = .ok (.iload_n 1, 1) := by decide +kernel
theorem dX11_text_28 : decode cX11_text 28 = .ok (.iconst 1, 1) := by decide +kernel
theorem dX11_text_29 : decode cX11_text 29 = .ok (.if_icmp .ne 25, 3) := by decide +kernel
theorem dX11_text_32 : decode cX11_text 32 = .ok (.aload_n 0, 1) := by decide +kernel
theorem dX11_text_33 : decode cX11_text 33 = .ok (.getfield 42, 3) := by decide +kernel
theorem dX11_text_36 : decode cX11_text 36 = .ok (.aload_n 0, 1) := by decide +kernel
theorem dX11_text_37 : decode cX11_text 37 = .ok (.getfield 28, 3) := by decide +kernel
theorem dX11_text_40 : decode cX11_text 40 = .ok (.getfield 147, 3) := by decide +kernel
theorem dX11_text_43 : decode cX11_text 43 = .ok (.aload_n 0, 1) := by decide +kernel
theorem dX11_text_44 : decode cX11_text 44 = .ok (.getfield 28, 3) := by decide +kernel
theorem dX11_text_47 : decode cX11_text 47 = .ok (.getfield 150, 3) := by decide +kernel
theorem dX11_text_50 : decode cX11_text 50 = .ok (.invokevirtual 153, 3) := by decide +kernel
theorem dX11_text_53 : decode cX11_text 53 = .ok (.ireturn, 1) := by decide +kernel
theorem dX11_text_54 : decode cX11_text 54 = .ok (.iload_n 1, 1) := by decide +kernel
theorem dX11_text_55 : decode cX11_text 55 = .ok (.iconst 2, 1) := by decide +kernel
theorem dX11_text_56 : decode cX11_text 56 = .ok (.if_icmp .ne 39, 3) := by decide +kernel
theorem dX11_text_59 : decode cX11_text 59 = .ok (.aload_n 0, 1) := by decide +kernel
theorem dX11_text_60 : decode cX11_text 60 = .ok (.getfield 51, 3) := by decide +kernel
theorem dX11_text_63 : decode cX11_text 63 = .ok (.aload_n 0, 1) := by decide +kernel
theorem dX11_text_64 : decode cX11_text 64 = .ok (.getfield 55, 3) := by decide +kernel
theorem dX11_text_67 : decode cX11_text 67 = .ok (.aload_n 0, 1) := by decide +kernel
theorem dX11_text_68 : decode cX11_text 68 = .ok (.getfield 21, 3) := by decide +kernel
theorem dX11_text_71 : decode cX11_text 71 = .ok (.getfield 157, 3) := by decide +kernel
theorem dX11_text_74 : decode cX11_text 74 = .ok (.iconst 0, 1) := by decide +kernel
theorem dX11_text_75 : decode cX11_text 75 = .ok (.invokevirtual 160, 3) := by decide +kernel
theorem dX11_text_78 : decode cX11_text 78 = .ok (.aload_n 0, 1) := by decide +kernel
theorem dX11_text_79 : decode cX11_text 79 = .ok (.dup, 1) := by decide +kernel
theorem dX11_text_80 : decode cX11_text 80 = .ok (.getfield 55, 3) := by decide +kernel
theorem dX11_text_83 : decode cX11_text 83 = .ok (.iconst 1, 1) := by decide +kernel
theorem dX11_text_84 : decode cX11_text 84 = .ok (.iadd, 1) := by decide +kernel
theorem dX11_text_85 : decode cX11_text 85 = .ok (.putfield 55, 3) := by decide +kernel
theorem dX11_text_88 : decode cX11_text 88 = .ok (.aload_n 0, 1) := by decide +kernel
theorem dX11_text_89 : decode cX11_text 89 = .ok (.getfield 55, 3) := by decide +kernel
theorem dX11_text_92 : decode cX11_text 92 = .ok (.iconst 1, 1) := by decide +kernel
theorem dX11_text_93 : decode cX11_text 93 = .ok (.isub, 1) := by decide +kernel
theorem dX11_text_94 : decode cX11_text 94 = .ok (.ireturn, 1) := by decide +kernel
theorem dX11_text_95 : decode cX11_text 95 = .ok (.aload_n 0, 1) := by decide +kernel
theorem dX11_text_96 : decode cX11_text 96 = .ok (.getfield 35, 3) := by decide +kernel
theorem dX11_text_99 : decode cX11_text 99 = .ok (.aload_n 0, 1) := by decide +kernel
theorem dX11_text_100 : decode cX11_text 100 = .ok (.getfield 21, 3) := by decide +kernel
theorem dX11_text_103 : decode cX11_text 103 = .ok (.getfield 164, 3) := by decide +kernel
theorem dX11_text_106 : decode cX11_text 106 = .ok (.invokevirtual 167, 3) := by decide +kernel
theorem dX11_text_109 : decode cX11_text 109 = .ok (.aload_n 0, 1) := by decide +kernel
theorem dX11_text_110 : decode cX11_text 110 = .ok (.getfield 71, 3) := by decide +kernel
theorem dX11_text_113 : decode cX11_text 113 = .ok (.invokevirtual 170, 3) := by decide +kernel
theorem dX11_text_116 : decode cX11_text 116 = .ok (.aload_n 0, 1) := by decide +kernel
theorem dX11_text_117 : decode cX11_text 117 = .ok (.getfield 87, 3) := by decide +kernel
theorem dX11_text_120 : decode cX11_text 120 = .ok (.invokevirtual 173, 3) := by decide +kernel
theorem dX11_text_123 : decode cX11_text 123 = .ok (.aload_n 0, 1) := by decide +kernel
theorem dX11_text_124 : decode cX11_text 124 = .ok (.iconst 0, 1) := by decide +kernel
theorem dX11_text_125 : decode cX11_text 125 = .ok (.putfield 106, 3) := by decide +kernel
theorem dX11_text_128 : decode cX11_text 128 = .ok (.aload_n 0, 1) := by decide +kernel
theorem dX11_text_129 : decode cX11_text 129 = .ok (.getfield 35, 3) := by decide +kernel
theorem dX11_text_132 : decode cX11_text 132 = .ok (.getfield 174, 3) := by decide +kernel
theorem dX11_text_135 : decode cX11_text 135 = .ok (.ireturn, 1) := by decide +kernel
theorem dX11_isFull_0 : decode cX11_isFull 0 = .ok (.iload_n 1, 1) := by decide +kernel
theorem dX11_isFull_1 : decode cX11_isFull 1 = .ok (.iconst 1, 1) := by decide +kernel
theorem dX11_isFull_2 : decode cX11_isFull 2 = .ok (.if_icmp .ne 20, 3) := by decide +kernel
theorem dX11_isFull_5 : decode cX11_isFull 5 = .ok (.aload_n 0, 1) := by decide +kernel
theorem dX11_isFull_6 : decode cX11_isFull 6 = .ok (.getfield 42, 3) := by decide +kernel
theorem dX11_isFull_9 : decode cX11_isFull 9 = .ok (.getfield 177, 3) := by decide +kernel
theorem dX11_isFull_12 : decode cX11_isFull 12 = .ok (.iconst 4, 1) := by decide +kernel
theorem dX11_isFull_13 : decode cX11_isFull 13 = .ok (.if_icmp .lt 7, 3) := by decide +kernel
theorem dX11_isFull_16 : decode cX11_isFull 16 = .ok (.iconst 1, 1) := by decide +kernel
theorem dX11_isFull_17 : decode cX11_isFull 17 = .ok (.goto 4, 3) := by decide +kernel
theorem dX11_isFull_20 : decode cX11_isFull 20 = .ok (.iconst 0, 1) := by decide +kernel
theorem dX11_isFull_21 : decode cX11_isFull 21 = .ok (.ireturn, 1) := by decide +kernel
theorem dX11_isFull_22 : decode cX11_isFull 22 = .ok (.iload_n 1, 1) := by decide +kernel
theorem dX11_isFull_23 : decode cX11_isFull 23 = .ok (.iconst 2, 1) := by decide +kernel
theorem dX11_isFull_24 : decode cX11_isFull 24 = .ok (.if_icmp .ne 15, 3) := by decide +kernel
theorem dX11_isFull_27 : decode cX11_isFull 27 = .ok (.aload_n 0, 1) := by decide +kernel
theorem dX11_isFull_28 : decode cX11_isFull 28 = .ok (.getfield 55, 3) := by decide +kernel
theorem dX11_isFull_31 : decode cX11_isFull 31 = .ok (.iconst 4, 1) := by decide +kernel
theorem dX11_isFull_32 : decode cX11_isFull 32 = .ok (.if_icmp .lt 7, 3) := by decide +kernel
theorem dX11_isFull_35 : decode cX11_isFull 35 = .ok (.iconst 1, 1) := by decide +kernel
theorem dX11_isFull_36 : decode cX11_isFull 36 = .ok (.goto 4, 3) := by decide +kernel
theorem dX11_isFull_39 : decode cX11_isFull 39 = .ok (.iconst 0, 1) := by decide +kernel
theorem dX11_isFull_40 : decode cX11_isFull 40 = .ok (.ireturn, 1) := by decide +kernel
theorem dX11_thing_0 : decode cX11_thing 0 = .ok (.aload_n 0, 1) := by decide +kernel
theorem dX11_thing_1 : decode cX11_thing 1 = .ok (.getfield 35, 3) := by decide +kernel
theorem dX11_thing_4 : decode cX11_thing 4 = .ok (.iload_n 1, 1) := by decide +kernel
theorem dX11_thing_5 : decode cX11_thing 5 = .ok (.invokevirtual 180, 3) := by decide +kernel
theorem dX11_thing_8 : decode cX11_thing 8 = .ok (.ifCond .eq 12, 3) := by decide +kernel
theorem dX11_thing_11 : decode cX11_thing 11 = .ok (.iload_n 2, 1) := by decide +kernel
theorem dX11_thing_12 : decode cX11_thing 12 = .ok (.ifCond .lt 8, 3) := by decide +kernel
theorem dX11_thing_15 : decode cX11_thing 15 = .ok (.iload_n 2, 1) := by decide +kernel
theorem dX11_thing_16 : decode cX11_thing 16 = .ok (.iconst 2, 1) := by decide +kernel
theorem dX11_thing_17 : decode cX11_thing 17 = .ok (.if_icmp .le 13, 3) := by decide +kernel
theorem dX11_thing_20 : decode cX11_thing 20 = .ok (.new 183, 3) := by decide +kernel
theorem dX11_thing_23 : decode cX11_thing 23 = .ok (.dup, 1) := by decide +kernel
theorem dX11_thing_24 : decode cX11_thing 24 = .ok (.ldc 185, 2) := by decide +kernel
theorem dX11_thing_26 : decode cX11_thing 26 = .ok (.invokespecial 187, 3) := by decide +kernel
theorem dX11_thing_29 : decode cX11_thing 29 = .ok (.athrow, 1) := by decide +kernel
theorem dX11_thing_30 : decode cX11_thing 30 = .ok (.iload_n 2, 1) := by decide +kernel
theorem dX11_thing_31 : decode cX11_thing 31 = .ok (.ifCond .ne 13, 3) := by decide +kernel
theorem dX11_thing_34 : decode cX11_thing 34 = .ok (.aload_n 0, 1) := by decide +kernel
theorem dX11_thing_35 : decode cX11_thing 35 = .ok (.getfield 35, 3) := by decide +kernel
theorem dX11_thing_38 : decode cX11_thing 38 = .ok (.getfield 190, 3) := by decide +kernel
theorem dX11_thing_41 : decode cX11_thing 41 = .ok (.iload_n 1, 1) := by decide +kernel
theorem dX11_thing_42 : decode cX11_thing 42 = .ok (.iaload, 1) := by decide +kernel
theorem dX11_thing_43 : decode cX11_thing 43 = .ok (.ireturn, 1) := by decide +kernel
theorem dX11_thing_44 : decode cX11_thing 44 = .ok (.iload_n 2, 1) := by decide +kernel
theorem dX11_thing_45 : decode cX11_thing 45 = .ok (.iconst 1, 1) := by decide +kernel
theorem dX11_thing_46 : decode cX11_thing 46 = .ok (.if_icmp .ne 15, 3) := by decide +kernel
theorem dX11_thing_49 : decode cX11_thing 49 = .ok (.aload_n 0, 1) := by decide +kernel
theorem dX11_thing_50 : decode cX11_thing 50 = .ok (.getfield 35, 3) := by decide +kernel
theorem dX11_thing_53 : decode cX11_thing 53 = .ok (.getfield 193, 3) := by decide +kernel
theorem dX11_thing_56 : decode cX11_thing 56 = .ok (.iload_n 1, 1) := by decide +kernel
theorem dX11_thing_57 : decode cX11_thing 57 = .ok (.iaload, 1) := by decide +kernel
theorem dX11_thing_58 : decode cX11_thing 58 = .ok (.goto 11, 3) := by decide +kernel
theorem dX11_thing_61 : decode cX11_thing 61 = .ok (.aload_n 0, 1) := by decide +kernel
theorem dX11_thing_62 : decode cX11_thing 62 = .ok (.getfield 35, 3) := by decide +kernel
theorem dX11_thing_65 : decode cX11_thing 65 = .ok (.iload_n 1, 1) := by decide +kernel
theorem dX11_thing_66 : decode cX11_thing 66 = .ok (.invokevirtual 196, 3) := by decide +kernel
theorem dX11_thing_69 : decode cX11_thing 69 = .ok (.ireturn, 1) := by decide +kernel
theorem dX11_card_0 : decode cX11_card 0 = .ok (.aload_n 0, 1) := by decide +kernel
theorem dX11_card_1 : decode cX11_card 1 = .ok (.getfield 35, 3) := by decide +kernel
theorem dX11_card_4 : decode cX11_card 4 = .ok (.iload_n 1, 1) := by decide +kernel
theorem dX11_card_5 : decode cX11_card 5 = .ok (.invokevirtual 199, 3) := by decide +kernel
theorem dX11_card_8 : decode cX11_card 8 = .ok (.ifCond .ne 5, 3) := by decide +kernel
theorem dX11_card_11 : decode cX11_card 11 = .ok (.iconst (-1), 1) := by decide +kernel
theorem dX11_card_12 : decode cX11_card 12 = .ok (.ireturn, 1) := by decide +kernel
theorem dX11_card_13 : decode cX11_card 13 = .ok (.iload_n 2, 1) := by decide +kernel
theorem dX11_card_14 : decode cX11_card 14 = .ok (.tableswitch 86 0 3 #[30, 40, 53, 69], 30) := by decide +kernel
theorem dX11_card_44 : decode cX11_card 44 = .ok (.aload_n 0, 1) := by decide +kernel
theorem dX11_card_45 : decode cX11_card 45 = .ok (.getfield 35, 3) := by decide +kernel
theorem dX11_card_48 : decode cX11_card 48 = .ok (.getfield 202, 3) := by decide +kernel
theorem dX11_card_51 : decode cX11_card 51 = .ok (.iload_n 1, 1) := by decide +kernel
theorem dX11_card_52 : decode cX11_card 52 = .ok (.iaload, 1) := by decide +kernel
theorem dX11_card_53 : decode cX11_card 53 = .ok (.ireturn, 1) := by decide +kernel
theorem dX11_card_54 : decode cX11_card 54 = .ok (.aload_n 0, 1) := by decide +kernel
theorem dX11_card_55 : decode cX11_card 55 = .ok (.getfield 35, 3) := by decide +kernel
theorem dX11_card_58 : decode cX11_card 58 = .ok (.getfield 205, 3) := by decide +kernel
theorem dX11_card_61 : decode cX11_card 61 = .ok (.getfield 208, 3) := by decide +kernel
theorem dX11_card_64 : decode cX11_card 64 = .ok (.iload_n 1, 1) := by decide +kernel
theorem dX11_card_65 : decode cX11_card 65 = .ok (.iaload, 1) := by decide +kernel
theorem dX11_card_66 : decode cX11_card 66 = .ok (.ireturn, 1) := by decide +kernel
theorem dX11_card_67 : decode cX11_card 67 = .ok (.aload_n 0, 1) := by decide +kernel
theorem dX11_card_68 : decode cX11_card 68 = .ok (.getfield 35, 3) := by decide +kernel
theorem dX11_card_71 : decode cX11_card 71 = .ok (.getfield 205, 3) := by decide +kernel
theorem dX11_card_74 : decode cX11_card 74 = .ok (.getfield 211, 3) := by decide +kernel
theorem dX11_card_77 : decode cX11_card 77 = .ok (.getfield 214, 3) := by decide +kernel
theorem dX11_card_80 : decode cX11_card 80 = .ok (.iload_n 1, 1) := by decide +kernel
theorem dX11_card_81 : decode cX11_card 81 = .ok (.iaload, 1) := by decide +kernel
theorem dX11_card_82 : decode cX11_card 82 = .ok (.ireturn, 1) := by decide +kernel
theorem dX11_card_83 : decode cX11_card 83 = .ok (.aload_n 0, 1) := by decide +kernel
theorem dX11_card_84 : decode cX11_card 84 = .ok (.getfield 35, 3) := by decide +kernel
theorem dX11_card_87 : decode cX11_card 87 = .ok (.iload_n 1, 1) := by decide +kernel
theorem dX11_card_88 : decode cX11_card 88 = .ok (.invokevirtual 216, 3) := by decide +kernel
theorem dX11_card_91 : decode cX11_card 91 = .ok (.ifCond .eq 7, 3) := by decide +kernel
theorem dX11_card_94 : decode cX11_card 94 = .ok (.iconst 1, 1) := by decide +kernel
theorem dX11_card_95 : decode cX11_card 95 = .ok (.goto 4, 3) := by decide +kernel
theorem dX11_card_98 : decode cX11_card 98 = .ok (.iconst 0, 1) := by decide +kernel
theorem dX11_card_99 : decode cX11_card 99 = .ok (.ireturn, 1) := by decide +kernel
theorem dX11_card_100 : decode cX11_card 100 = .ok (.iconst (-1), 1) := by decide +kernel
theorem dX11_card_101 : decode cX11_card 101 = .ok (.ireturn, 1) := by decide +kernel
theorem dX11_word_0 : decode cX11_word 0 = .ok (.aload_n 0, 1) := by decide +kernel
theorem dX11_word_1 : decode cX11_word 1 = .ok (.getfield 35, 3) := by decide +kernel
theorem dX11_word_4 : decode cX11_word 4 = .ok (.iload_n 1, 1) := by decide +kernel
theorem dX11_word_5 : decode cX11_word 5 = .ok (.invokevirtual 199, 3) := by decide +kernel
theorem dX11_word_8 : decode cX11_word 8 = .ok (.ifCond .ne 5, 3) := by decide +kernel
theorem dX11_word_11 : decode cX11_word 11 = .ok (.iconst (-1), 1) := by decide +kernel
theorem dX11_word_12 : decode cX11_word 12 = .ok (.ireturn, 1) := by decide +kernel
theorem dX11_word_13 : decode cX11_word 13 = .ok (.aload_n 0, 1) := by decide +kernel
theorem dX11_word_14 : decode cX11_word 14 = .ok (.getfield 35, 3) := by decide +kernel
theorem dX11_word_17 : decode cX11_word 17 = .ok (.getfield 205, 3) := by decide +kernel
theorem dX11_word_20 : decode cX11_word 20 = .ok (.getfield 211, 3) := by decide +kernel
theorem dX11_word_23 : decode cX11_word 23 = .ok (.iload_n 1, 1) := by decide +kernel
theorem dX11_word_24 : decode cX11_word 24 = .ok (.iload_n 2, 1) := by decide +kernel
theorem dX11_word_25 : decode cX11_word 25 = .ok (.iload_n 3, 1) := by decide +kernel
theorem dX11_word_26 : decode cX11_word 26 = .ok (.invokevirtual 219, 3) := by decide +kernel
theorem dX11_word_29 : decode cX11_word 29 = .ok (.ireturn, 1) := by decide +kernel
theorem dX11_law_0 : decode cX11_law 0 = .ok (.iload_n 1, 1) := by decide +kernel
theorem dX11_law_1 : decode cX11_law 1 = .ok (.iconst (-1), 1) := by decide +kernel
theorem dX11_law_2 : decode cX11_law 2 = .ok (.if_icmp .lt 14, 3) := by decide +kernel
theorem dX11_law_5 : decode cX11_law 5 = .ok (.iload_n 1, 1) := by decide +kernel
theorem dX11_law_6 : decode cX11_law 6 = .ok (.aload_n 0, 1) := by decide +kernel
theorem dX11_law_7 : decode cX11_law 7 = .ok (.getfield 42, 3) := by decide +kernel
theorem dX11_law_10 : decode cX11_law 10 = .ok (.getfield 177, 3) := by decide +kernel
theorem dX11_law_13 : decode cX11_law 13 = .ok (.if_icmp .lt 5, 3) := by decide +kernel
theorem dX11_law_16 : decode cX11_law 16 = .ok (.iconst 0, 1) := by decide +kernel
theorem dX11_law_17 : decode cX11_law 17 = .ok (.ireturn, 1) := by decide +kernel
theorem dX11_law_18 : decode cX11_law 18 = .ok (.aload_n 0, 1) := by decide +kernel
theorem dX11_law_19 : decode cX11_law 19 = .ok (.getfield 42, 3) := by decide +kernel
theorem dX11_law_22 : decode cX11_law 22 = .ok (.iload_n 1, 1) := by decide +kernel
theorem dX11_law_23 : decode cX11_law 23 = .ok (.putfield 223, 3) := by decide +kernel
theorem dX11_law_26 : decode cX11_law 26 = .ok (.iconst 1, 1) := by decide +kernel
theorem dX11_law_27 : decode cX11_law 27 = .ok (.ireturn, 1) := by decide +kernel
theorem dX11_cleaner_0 : decode cX11_cleaner 0 = .ok (.iload_n 1, 1) := by decide +kernel
theorem dX11_cleaner_1 : decode cX11_cleaner 1 = .ok (.ifCond .lt 17, 3) := by decide +kernel
theorem dX11_cleaner_4 : decode cX11_cleaner 4 = .ok (.iload_n 1, 1) := by decide +kernel
theorem dX11_cleaner_5 : decode cX11_cleaner 5 = .ok (.bipush 99, 2) := by decide +kernel
theorem dX11_cleaner_7 : decode cX11_cleaner 7 = .ok (.if_icmp .gt 11, 3) := by decide +kernel
theorem dX11_cleaner_10 : decode cX11_cleaner 10 = .ok (.iload_n 1, 1) := by decide +kernel
theorem dX11_cleaner_11 : decode cX11_cleaner 11 = .ok (.aload_n 0, 1) := by decide +kernel
theorem dX11_cleaner_12 : decode cX11_cleaner 12 = .ok (.getfield 110, 3) := by decide +kernel
theorem dX11_cleaner_15 : decode cX11_cleaner 15 = .ok (.if_icmp .ne 5, 3) := by decide +kernel
theorem dX11_cleaner_18 : decode cX11_cleaner 18 = .ok (.iconst 0, 1) := by decide +kernel
theorem dX11_cleaner_19 : decode cX11_cleaner 19 = .ok (.ireturn, 1) := by decide +kernel
theorem dX11_cleaner_20 : decode cX11_cleaner 20 = .ok (.aload_n 0, 1) := by decide +kernel
theorem dX11_cleaner_21 : decode cX11_cleaner 21 = .ok (.iload_n 1, 1) := by decide +kernel
theorem dX11_cleaner_22 : decode cX11_cleaner 22 = .ok (.putfield 110, 3) := by decide +kernel
theorem dX11_cleaner_25 : decode cX11_cleaner 25 = .ok (.iconst 1, 1) := by decide +kernel
theorem dX11_cleaner_26 : decode cX11_cleaner 26 = .ok (.ireturn, 1) := by decide +kernel
theorem dX11_fits_0 : decode cX11_fits 0 = .ok (.aload_n 0, 1) := by decide +kernel
theorem dX11_fits_1 : decode cX11_fits 1 = .ok (.getfield 35, 3) := by decide +kernel
theorem dX11_fits_4 : decode cX11_fits 4 = .ok (.iload_n 1, 1) := by decide +kernel
theorem dX11_fits_5 : decode cX11_fits 5 = .ok (.invokevirtual 199, 3) := by decide +kernel
theorem dX11_fits_8 : decode cX11_fits 8 = .ok (.ifCond .eq 14, 3) := by decide +kernel
theorem dX11_fits_11 : decode cX11_fits 11 = .ok (.aload_n 0, 1) := by decide +kernel
theorem dX11_fits_12 : decode cX11_fits 12 = .ok (.getfield 35, 3) := by decide +kernel
theorem dX11_fits_15 : decode cX11_fits 15 = .ok (.iload_n 2, 1) := by decide +kernel
theorem dX11_fits_16 : decode cX11_fits 16 = .ok (.invokevirtual 180, 3) := by decide +kernel
theorem dX11_fits_19 : decode cX11_fits 19 = .ok (.ifCond .ne 5, 3) := by decide +kernel
theorem dX11_fits_22 : decode cX11_fits 22 = .ok (.iconst (-1), 1) := by decide +kernel
theorem dX11_fits_23 : decode cX11_fits 23 = .ok (.ireturn, 1) := by decide +kernel
theorem dX11_fits_24 : decode cX11_fits 24 = .ok (.aload_n 0, 1) := by decide +kernel
theorem dX11_fits_25 : decode cX11_fits 25 = .ok (.getfield 35, 3) := by decide +kernel
theorem dX11_fits_28 : decode cX11_fits 28 = .ok (.iload_n 1, 1) := by decide +kernel
theorem dX11_fits_29 : decode cX11_fits 29 = .ok (.iload_n 2, 1) := by decide +kernel
theorem dX11_fits_30 : decode cX11_fits 30 = .ok (.invokevirtual 226, 3) := by decide +kernel
theorem dX11_fits_33 : decode cX11_fits 33 = .ok (.ifCond .eq 7, 3) := by decide +kernel
theorem dX11_fits_36 : decode cX11_fits 36 = .ok (.iconst 1, 1) := by decide +kernel
theorem dX11_fits_37 : decode cX11_fits 37 = .ok (.goto 4, 3) := by decide +kernel
theorem dX11_fits_40 : decode cX11_fits 40 = .ok (.iconst 0, 1) := by decide +kernel
theorem dX11_fits_41 : decode cX11_fits 41 = .ok (.ireturn, 1) := by decide +kernel
theorem dX11_reading_0 : decode cX11_reading 0 = .ok (.iload_n 1, 1) := by decide +kernel
theorem dX11_reading_1 : decode cX11_reading 1 = .ok (.ifCond .lt 16, 3) := by decide +kernel
theorem dX11_reading_4 : decode cX11_reading 4 = .ok (.iload_n 1, 1) := by decide +kernel
theorem dX11_reading_5 : decode cX11_reading 5 = .ok (.aload_n 0, 1) := by decide +kernel
theorem dX11_reading_6 : decode cX11_reading 6 = .ok (.getfield 55, 3) := by decide +kernel
theorem dX11_reading_9 : decode cX11_reading 9 = .ok (.if_icmp .ge 8, 3) := by decide +kernel
theorem dX11_reading_12 : decode cX11_reading 12 = .ok (.iload_n 3, 1) := by decide +kernel
theorem dX11_reading_13 : decode cX11_reading 13 = .ok (.iconst 2, 1) := by decide +kernel
theorem dX11_reading_14 : decode cX11_reading 14 = .ok (.if_icmp .ne 5, 3) := by decide +kernel
theorem dX11_reading_17 : decode cX11_reading 17 = .ok (.iconst (-1), 1) := by decide +kernel
theorem dX11_reading_18 : decode cX11_reading 18 = .ok (.ireturn, 1) := by decide +kernel
theorem dX11_reading_19 : decode cX11_reading 19 = .ok (.aload_n 0, 1) := by decide +kernel
theorem dX11_reading_20 : decode cX11_reading 20 = .ok (.getfield 51, 3) := by decide +kernel
theorem dX11_reading_23 : decode cX11_reading 23 = .ok (.iload_n 1, 1) := by decide +kernel
theorem dX11_reading_24 : decode cX11_reading 24 = .ok (.iload_n 2, 1) := by decide +kernel
theorem dX11_reading_25 : decode cX11_reading 25 = .ok (.iload_n 3, 1) := by decide +kernel
theorem dX11_reading_26 : decode cX11_reading 26 = .ok (.invokevirtual 219, 3) := by decide +kernel
theorem dX11_reading_29 : decode cX11_reading 29 = .ok (.ireturn, 1) := by decide +kernel
theorem dX11_count_0 : decode cX11_count 0 = .ok (.iload_n 1, 1) := by decide +kernel
theorem dX11_count_1 : decode cX11_count 1 = .ok (.tableswitch 186 0 13 #[71, 79, 87, 95, 100, 108, 116, 127, 138, 149, 154, 162, 170, 178], 71) := by decide +kernel
theorem dX11_count_72 : decode cX11_count 72 = .ok (.aload_n 0, 1) := by decide +kernel
theorem dX11_count_73 : decode cX11_count 73 = .ok (.getfield 35, 3) := by decide +kernel
theorem dX11_count_76 : decode cX11_count 76 = .ok (.getfield 174, 3) := by decide +kernel
theorem dX11_count_79 : decode cX11_count 79 = .ok (.ireturn, 1) := by decide +kernel
theorem dX11_count_80 : decode cX11_count 80 = .ok (.aload_n 0, 1) := by decide +kernel
theorem dX11_count_81 : decode cX11_count 81 = .ok (.getfield 35, 3) := by decide +kernel
theorem dX11_count_84 : decode cX11_count 84 = .ok (.getfield 230, 3) := by decide +kernel
theorem dX11_count_87 : decode cX11_count 87 = .ok (.ireturn, 1) := by decide +kernel
theorem dX11_count_88 : decode cX11_count 88 = .ok (.aload_n 0, 1) := by decide +kernel
theorem dX11_count_89 : decode cX11_count 89 = .ok (.getfield 42, 3) := by decide +kernel
theorem dX11_count_92 : decode cX11_count 92 = .ok (.getfield 177, 3) := by decide +kernel
theorem dX11_count_95 : decode cX11_count 95 = .ok (.ireturn, 1) := by decide +kernel
theorem dX11_count_96 : decode cX11_count 96 = .ok (.aload_n 0, 1) := by decide +kernel
theorem dX11_count_97 : decode cX11_count 97 = .ok (.getfield 55, 3) := by decide +kernel
theorem dX11_count_100 : decode cX11_count 100 = .ok (.ireturn, 1) := by decide +kernel
theorem dX11_count_101 : decode cX11_count 101 = .ok (.aload_n 0, 1) := by decide +kernel
theorem dX11_count_102 : decode cX11_count 102 = .ok (.getfield 10, 3) := by decide +kernel
theorem dX11_count_105 : decode cX11_count 105 = .ok (.getfield 121, 3) := by decide +kernel
theorem dX11_count_108 : decode cX11_count 108 = .ok (.ireturn, 1) := by decide +kernel
theorem dX11_count_109 : decode cX11_count 109 = .ok (.aload_n 0, 1) := by decide +kernel
theorem dX11_count_110 : decode cX11_count 110 = .ok (.getfield 42, 3) := by decide +kernel
theorem dX11_count_113 : decode cX11_count 113 = .ok (.getfield 223, 3) := by decide +kernel
theorem dX11_count_116 : decode cX11_count 116 = .ok (.ireturn, 1) := by decide +kernel
theorem dX11_count_117 : decode cX11_count 117 = .ok (.aload_n 0, 1) := by decide +kernel
theorem dX11_count_118 : decode cX11_count 118 = .ok (.getfield 35, 3) := by decide +kernel
theorem dX11_count_121 : decode cX11_count 121 = .ok (.getfield 205, 3) := by decide +kernel
theorem dX11_count_124 : decode cX11_count 124 = .ok (.getfield 233, 3) := by decide +kernel
theorem dX11_count_127 : decode cX11_count 127 = .ok (.ireturn, 1) := by decide +kernel
theorem dX11_count_128 : decode cX11_count 128 = .ok (.aload_n 0, 1) := by decide +kernel
theorem dX11_count_129 : decode cX11_count 129 = .ok (.getfield 35, 3) := by decide +kernel
theorem dX11_count_132 : decode cX11_count 132 = .ok (.getfield 205, 3) := by decide +kernel
theorem dX11_count_135 : decode cX11_count 135 = .ok (.getfield 236, 3) := by decide +kernel
theorem dX11_count_138 : decode cX11_count 138 = .ok (.ireturn, 1) := by decide +kernel
theorem dX11_count_139 : decode cX11_count 139 = .ok (.aload_n 0, 1) := by decide +kernel
theorem dX11_count_140 : decode cX11_count 140 = .ok (.getfield 35, 3) := by decide +kernel
theorem dX11_count_143 : decode cX11_count 143 = .ok (.getfield 205, 3) := by decide +kernel
theorem dX11_count_146 : decode cX11_count 146 = .ok (.getfield 239, 3) := by decide +kernel
theorem dX11_count_149 : decode cX11_count 149 = .ok (.ireturn, 1) := by decide +kernel
theorem dX11_count_150 : decode cX11_count 150 = .ok (.aload_n 0, 1) := by decide +kernel
theorem dX11_count_151 : decode cX11_count 151 = .ok (.getfield 110, 3) := by decide +kernel
theorem dX11_count_154 : decode cX11_count 154 = .ok (.ireturn, 1) := by decide +kernel
theorem dX11_count_155 : decode cX11_count 155 = .ok (.aload_n 0, 1) := by decide +kernel
theorem dX11_count_156 : decode cX11_count 156 = .ok (.getfield 87, 3) := by decide +kernel
theorem dX11_count_159 : decode cX11_count 159 = .ok (.getfield 242, 3) := by decide +kernel
theorem dX11_count_162 : decode cX11_count 162 = .ok (.ireturn, 1) := by decide +kernel
theorem dX11_count_163 : decode cX11_count 163 = .ok (.aload_n 0, 1) := by decide +kernel
theorem dX11_count_164 : decode cX11_count 164 = .ok (.getfield 35, 3) := by decide +kernel
theorem dX11_count_167 : decode cX11_count 167 = .ok (.invokevirtual 243, 3) := by decide +kernel
theorem dX11_count_170 : decode cX11_count 170 = .ok (.ireturn, 1) := by decide +kernel
theorem dX11_count_171 : decode cX11_count 171 = .ok (.aload_n 0, 1) := by decide +kernel
theorem dX11_count_172 : decode cX11_count 172 = .ok (.getfield 64, 3) := by decide +kernel
theorem dX11_count_175 : decode cX11_count 175 = .ok (.invokevirtual 247, 3) := by decide +kernel
theorem dX11_count_178 : decode cX11_count 178 = .ok (.ireturn, 1) := by decide +kernel
theorem dX11_count_179 : decode cX11_count 179 = .ok (.aload_n 0, 1) := by decide +kernel
theorem dX11_count_180 : decode cX11_count 180 = .ok (.getfield 71, 3) := by decide +kernel
theorem dX11_count_183 : decode cX11_count 183 = .ok (.getfield 250, 3) := by decide +kernel
theorem dX11_count_186 : decode cX11_count 186 = .ok (.ireturn, 1) := by decide +kernel
theorem dX11_count_187 : decode cX11_count 187 = .ok (.ldc 251, 2) := by decide +kernel
theorem dX11_count_189 : decode cX11_count 189 = .ok (.ireturn, 1) := by decide +kernel
theorem dX11_put_0 : decode cX11_put 0 = .ok (.aload_n 0, 1) := by decide +kernel
theorem dX11_put_1 : decode cX11_put 1 = .ok (.getfield 35, 3) := by decide +kernel
theorem dX11_put_4 : decode cX11_put 4 = .ok (.iload_n 1, 1) := by decide +kernel
theorem dX11_put_5 : decode cX11_put 5 = .ok (.invokevirtual 180, 3) := by decide +kernel
theorem dX11_put_8 : decode cX11_put 8 = .ok (.ifCond .eq 42, 3) := by decide +kernel
theorem dX11_put_11 : decode cX11_put 11 = .ok (.aload_n 0, 1) := by decide +kernel
theorem dX11_put_12 : decode cX11_put 12 = .ok (.getfield 35, 3) := by decide +kernel
theorem dX11_put_15 : decode cX11_put 15 = .ok (.iload_n 2, 1) := by decide +kernel
theorem dX11_put_16 : decode cX11_put 16 = .ok (.invokevirtual 199, 3) := by decide +kernel
theorem dX11_put_19 : decode cX11_put 19 = .ok (.ifCond .eq 31, 3) := by decide +kernel
theorem dX11_put_22 : decode cX11_put 22 = .ok (.aload_n 0, 1) := by decide +kernel
theorem dX11_put_23 : decode cX11_put 23 = .ok (.getfield 35, 3) := by decide +kernel
theorem dX11_put_26 : decode cX11_put 26 = .ok (.iload_n 1, 1) := by decide +kernel
theorem dX11_put_27 : decode cX11_put 27 = .ok (.invokevirtual 196, 3) := by decide +kernel
theorem dX11_put_30 : decode cX11_put 30 = .ok (.iconst (-1), 1) := by decide +kernel
theorem dX11_put_31 : decode cX11_put 31 = .ok (.if_icmp .ne 19, 3) := by decide +kernel
theorem dX11_put_34 : decode cX11_put 34 = .ok (.aload_n 0, 1) := by decide +kernel
theorem dX11_put_35 : decode cX11_put 35 = .ok (.getfield 35, 3) := by decide +kernel
theorem dX11_put_38 : decode cX11_put 38 = .ok (.getfield 205, 3) := by decide +kernel
theorem dX11_put_41 : decode cX11_put 41 = .ok (.getfield 208, 3) := by decide +kernel
theorem dX11_put_44 : decode cX11_put 44 = .ok (.iload_n 2, 1) := by decide +kernel
theorem dX11_put_45 : decode cX11_put 45 = .ok (.iaload, 1) := by decide +kernel
theorem dX11_put_46 : decode cX11_put 46 = .ok (.iconst (-1), 1) := by decide +kernel
theorem dX11_put_47 : decode cX11_put 47 = .ok (.if_icmp .eq 5, 3) := by decide +kernel
theorem dX11_put_50 : decode cX11_put 50 = .ok (.iconst (-1), 1) := by decide +kernel
theorem dX11_put_51 : decode cX11_put 51 = .ok (.ireturn, 1) := by decide +kernel
theorem dX11_put_52 : decode cX11_put 52 = .ok (.aload_n 0, 1) := by decide +kernel
theorem dX11_put_53 : decode cX11_put 53 = .ok (.getfield 71, 3) := by decide +kernel
theorem dX11_put_56 : decode cX11_put 56 = .ok (.aload_n 0, 1) := by decide +kernel
theorem dX11_put_57 : decode cX11_put 57 = .ok (.getfield 35, 3) := by decide +kernel
theorem dX11_put_60 : decode cX11_put 60 = .ok (.getfield 205, 3) := by decide +kernel
theorem dX11_put_63 : decode cX11_put 63 = .ok (.invokevirtual 252, 3) := by decide +kernel
theorem dX11_put_66 : decode cX11_put 66 = .ok (.aload_n 0, 1) := by decide +kernel
theorem dX11_put_67 : decode cX11_put 67 = .ok (.getfield 35, 3) := by decide +kernel
theorem dX11_put_70 : decode cX11_put 70 = .ok (.getfield 205, 3) := by decide +kernel
theorem dX11_put_73 : decode cX11_put 73 = .ok (.getfield 208, 3) := by decide +kernel
theorem dX11_put_76 : decode cX11_put 76 = .ok (.iload_n 2, 1) := by decide +kernel
theorem dX11_put_77 : decode cX11_put 77 = .ok (.iload_n 1, 1) := by decide +kernel
theorem dX11_put_78 : decode cX11_put 78 = .ok (.iastore, 1) := by decide +kernel
theorem dX11_put_79 : decode cX11_put 79 = .ok (.aload_n 0, 1) := by decide +kernel
theorem dX11_put_80 : decode cX11_put 80 = .ok (.getfield 71, 3) := by decide +kernel
theorem dX11_put_83 : decode cX11_put 83 = .ok (.getfield 250, 3) := by decide +kernel
theorem dX11_put_86 : decode cX11_put 86 = .ok (.ireturn, 1) := by decide +kernel
theorem dX11_take_0 : decode cX11_take 0 = .ok (.aload_n 0, 1) := by decide +kernel
theorem dX11_take_1 : decode cX11_take 1 = .ok (.getfield 35, 3) := by decide +kernel
theorem dX11_take_4 : decode cX11_take 4 = .ok (.iload_n 1, 1) := by decide +kernel
theorem dX11_take_5 : decode cX11_take 5 = .ok (.invokevirtual 199, 3) := by decide +kernel
theorem dX11_take_8 : decode cX11_take 8 = .ok (.ifCond .eq 19, 3) := by decide +kernel
theorem dX11_take_11 : decode cX11_take 11 = .ok (.aload_n 0, 1) := by decide +kernel
theorem dX11_take_12 : decode cX11_take 12 = .ok (.getfield 35, 3) := by decide +kernel
theorem dX11_take_15 : decode cX11_take 15 = .ok (.getfield 205, 3) := by decide +kernel
theorem dX11_take_18 : decode cX11_take 18 = .ok (.getfield 208, 3) := by decide +kernel
theorem dX11_take_21 : decode cX11_take 21 = .ok (.iload_n 1, 1) := by decide +kernel
theorem dX11_take_22 : decode cX11_take 22 = .ok (.iaload, 1) := by decide +kernel
theorem dX11_take_23 : decode cX11_take 23 = .ok (.iconst (-1), 1) := by decide +kernel
theorem dX11_take_24 : decode cX11_take 24 = .ok (.if_icmp .ne 5, 3) := by decide +kernel
theorem dX11_take_27 : decode cX11_take 27 = .ok (.iconst (-1), 1) := by decide +kernel
theorem dX11_take_28 : decode cX11_take 28 = .ok (.ireturn, 1) := by decide +kernel
theorem dX11_take_29 : decode cX11_take 29 = .ok (.aload_n 0, 1) := by decide +kernel
theorem dX11_take_30 : decode cX11_take 30 = .ok (.getfield 71, 3) := by decide +kernel
theorem dX11_take_33 : decode cX11_take 33 = .ok (.aload_n 0, 1) := by decide +kernel
theorem dX11_take_34 : decode cX11_take 34 = .ok (.getfield 35, 3) := by decide +kernel
theorem dX11_take_37 : decode cX11_take 37 = .ok (.getfield 205, 3) := by decide +kernel
theorem dX11_take_40 : decode cX11_take 40 = .ok (.invokevirtual 252, 3) := by decide +kernel
theorem dX11_take_43 : decode cX11_take 43 = .ok (.aload_n 0, 1) := by decide +kernel
theorem dX11_take_44 : decode cX11_take 44 = .ok (.getfield 35, 3) := by decide +kernel
theorem dX11_take_47 : decode cX11_take 47 = .ok (.getfield 205, 3) := by decide +kernel
theorem dX11_take_50 : decode cX11_take 50 = .ok (.getfield 208, 3) := by decide +kernel
theorem dX11_take_53 : decode cX11_take 53 = .ok (.iload_n 1, 1) := by decide +kernel
theorem dX11_take_54 : decode cX11_take 54 = .ok (.iaload, 1) := by decide +kernel
theorem dX11_take_55 : decode cX11_take 55 = .ok (.istore_n 2, 1) := by decide +kernel
theorem dX11_take_56 : decode cX11_take 56 = .ok (.aload_n 0, 1) := by decide +kernel
theorem dX11_take_57 : decode cX11_take 57 = .ok (.getfield 35, 3) := by decide +kernel
theorem dX11_take_60 : decode cX11_take 60 = .ok (.getfield 205, 3) := by decide +kernel
theorem dX11_take_63 : decode cX11_take 63 = .ok (.getfield 208, 3) := by decide +kernel
theorem dX11_take_66 : decode cX11_take 66 = .ok (.iload_n 1, 1) := by decide +kernel
theorem dX11_take_67 : decode cX11_take 67 = .ok (.iconst (-1), 1) := by decide +kernel
theorem dX11_take_68 : decode cX11_take 68 = .ok (.iastore, 1) := by decide +kernel
theorem dX11_take_69 : decode cX11_take 69 = .ok (.iload_n 2, 1) := by decide +kernel
theorem dX11_take_70 : decode cX11_take 70 = .ok (.ireturn, 1) := by decide +kernel
theorem dX11_copy_0 : decode cX11_copy 0 = .ok (.aload_n 0, 1) := by decide +kernel
theorem dX11_copy_1 : decode cX11_copy 1 = .ok (.iload_n 1, 1) := by decide +kernel
theorem dX11_copy_2 : decode cX11_copy 2 = .ok (.invokevirtual 256, 3) := by decide +kernel
theorem dX11_copy_5 : decode cX11_copy 5 = .ok (.ifCond .eq 17, 3) := by decide +kernel
theorem dX11_copy_8 : decode cX11_copy 8 = .ok (.aload_n 0, 1) := by decide +kernel
theorem dX11_copy_9 : decode cX11_copy 9 = .ok (.getfield 35, 3) := by decide +kernel
theorem dX11_copy_12 : decode cX11_copy 12 = .ok (.getfield 205, 3) := by decide +kernel
theorem dX11_copy_15 : decode cX11_copy 15 = .ok (.getfield 239, 3) := by decide +kernel
theorem dX11_copy_18 : decode cX11_copy 18 = .ok (.iconst 1, 1) := by decide +kernel
theorem dX11_copy_19 : decode cX11_copy 19 = .ok (.if_icmp .ge 5, 3) := by decide +kernel
theorem dX11_copy_22 : decode cX11_copy 22 = .ok (.iconst (-1), 1) := by decide +kernel
theorem dX11_copy_23 : decode cX11_copy 23 = .ok (.ireturn, 1) := by decide +kernel
theorem dX11_copy_24 : decode cX11_copy 24 = .ok (.aload_n 0, 1) := by decide +kernel
theorem dX11_copy_25 : decode cX11_copy 25 = .ok (.getfield 71, 3) := by decide +kernel
theorem dX11_copy_28 : decode cX11_copy 28 = .ok (.aload_n 0, 1) := by decide +kernel
theorem dX11_copy_29 : decode cX11_copy 29 = .ok (.getfield 35, 3) := by decide +kernel
theorem dX11_copy_32 : decode cX11_copy 32 = .ok (.getfield 205, 3) := by decide +kernel
theorem dX11_copy_35 : decode cX11_copy 35 = .ok (.invokevirtual 252, 3) := by decide +kernel
theorem dX11_copy_38 : decode cX11_copy 38 = .ok (.aload_n 0, 1) := by decide +kernel
theorem dX11_copy_39 : decode cX11_copy 39 = .ok (.getfield 35, 3) := by decide +kernel
theorem dX11_copy_42 : decode cX11_copy 42 = .ok (.getfield 205, 3) := by decide +kernel
theorem dX11_copy_45 : decode cX11_copy 45 = .ok (.dup, 1) := by decide +kernel
theorem dX11_copy_46 : decode cX11_copy 46 = .ok (.getfield 239, 3) := by decide +kernel
theorem dX11_copy_49 : decode cX11_copy 49 = .ok (.iconst 1, 1) := by decide +kernel
theorem dX11_copy_50 : decode cX11_copy 50 = .ok (.isub, 1) := by decide +kernel
theorem dX11_copy_51 : decode cX11_copy 51 = .ok (.putfield 239, 3) := by decide +kernel
theorem dX11_copy_54 : decode cX11_copy 54 = .ok (.aload_n 0, 1) := by decide +kernel
theorem dX11_copy_55 : decode cX11_copy 55 = .ok (.getfield 35, 3) := by decide +kernel
theorem dX11_copy_58 : decode cX11_copy 58 = .ok (.getfield 205, 3) := by decide +kernel
theorem dX11_copy_61 : decode cX11_copy 61 = .ok (.getfield 211, 3) := by decide +kernel
theorem dX11_copy_64 : decode cX11_copy 64 = .ok (.iload_n 1, 1) := by decide +kernel
theorem dX11_copy_65 : decode cX11_copy 65 = .ok (.invokevirtual 259, 3) := by decide +kernel
theorem dX11_copy_68 : decode cX11_copy 68 = .ok (.aload_n 0, 1) := by decide +kernel
theorem dX11_copy_69 : decode cX11_copy 69 = .ok (.getfield 35, 3) := by decide +kernel
theorem dX11_copy_72 : decode cX11_copy 72 = .ok (.getfield 205, 3) := by decide +kernel
theorem dX11_copy_75 : decode cX11_copy 75 = .ok (.getfield 239, 3) := by decide +kernel
theorem dX11_copy_78 : decode cX11_copy 78 = .ok (.ireturn, 1) := by decide +kernel
theorem dX11_lamp_0 : decode cX11_lamp 0 = .ok (.aload_n 0, 1) := by decide +kernel
theorem dX11_lamp_1 : decode cX11_lamp 1 = .ok (.iload_n 1, 1) := by decide +kernel
theorem dX11_lamp_2 : decode cX11_lamp 2 = .ok (.invokevirtual 256, 3) := by decide +kernel
theorem dX11_lamp_5 : decode cX11_lamp 5 = .ok (.ifCond .ne 5, 3) := by decide +kernel
theorem dX11_lamp_8 : decode cX11_lamp 8 = .ok (.iconst (-1), 1) := by decide +kernel
theorem dX11_lamp_9 : decode cX11_lamp 9 = .ok (.ireturn, 1) := by decide +kernel
theorem dX11_lamp_10 : decode cX11_lamp 10 = .ok (.aload_n 0, 1) := by decide +kernel
theorem dX11_lamp_11 : decode cX11_lamp 11 = .ok (.getfield 71, 3) := by decide +kernel
theorem dX11_lamp_14 : decode cX11_lamp 14 = .ok (.aload_n 0, 1) := by decide +kernel
theorem dX11_lamp_15 : decode cX11_lamp 15 = .ok (.getfield 35, 3) := by decide +kernel
theorem dX11_lamp_18 : decode cX11_lamp 18 = .ok (.getfield 205, 3) := by decide +kernel
theorem dX11_lamp_21 : decode cX11_lamp 21 = .ok (.invokevirtual 252, 3) := by decide +kernel
theorem dX11_lamp_24 : decode cX11_lamp 24 = .ok (.aload_n 0, 1) := by decide +kernel
theorem dX11_lamp_25 : decode cX11_lamp 25 = .ok (.getfield 35, 3) := by decide +kernel
theorem dX11_lamp_28 : decode cX11_lamp 28 = .ok (.getfield 205, 3) := by decide +kernel
theorem dX11_lamp_31 : decode cX11_lamp 31 = .ok (.getfield 211, 3) := by decide +kernel
theorem dX11_lamp_34 : decode cX11_lamp 34 = .ok (.iload_n 1, 1) := by decide +kernel
theorem dX11_lamp_35 : decode cX11_lamp 35 = .ok (.invokevirtual 262, 3) := by decide +kernel
theorem dX11_lamp_38 : decode cX11_lamp 38 = .ok (.aload_n 0, 1) := by decide +kernel
theorem dX11_lamp_39 : decode cX11_lamp 39 = .ok (.getfield 35, 3) := by decide +kernel
theorem dX11_lamp_42 : decode cX11_lamp 42 = .ok (.getfield 205, 3) := by decide +kernel
theorem dX11_lamp_45 : decode cX11_lamp 45 = .ok (.getfield 211, 3) := by decide +kernel
theorem dX11_lamp_48 : decode cX11_lamp 48 = .ok (.iload_n 1, 1) := by decide +kernel
theorem dX11_lamp_49 : decode cX11_lamp 49 = .ok (.invokevirtual 265, 3) := by decide +kernel
theorem dX11_lamp_52 : decode cX11_lamp 52 = .ok (.ireturn, 1) := by decide +kernel
theorem dX11_light_0 : decode cX11_light 0 = .ok (.aload_n 0, 1) := by decide +kernel
theorem dX11_light_1 : decode cX11_light 1 = .ok (.getfield 35, 3) := by decide +kernel
theorem dX11_light_4 : decode cX11_light 4 = .ok (.invokevirtual 268, 3) := by decide +kernel
theorem dX11_light_7 : decode cX11_light 7 = .ok (.ifCond .ne 27, 3) := by decide +kernel
theorem dX11_light_10 : decode cX11_light 10 = .ok (.iload_n 1, 1) := by decide +kernel
theorem dX11_light_11 : decode cX11_light 11 = .ok (.ifCond .lt 23, 3) := by decide +kernel
theorem dX11_light_14 : decode cX11_light 14 = .ok (.iload_n 1, 1) := by decide +kernel
theorem dX11_light_15 : decode cX11_light 15 = .ok (.bipush 9, 2) := by decide +kernel
theorem dX11_light_17 : decode cX11_light 17 = .ok (.if_icmp .gt 17, 3) := by decide +kernel
theorem dX11_light_20 : decode cX11_light 20 = .ok (.iload_n 1, 1) := by decide +kernel
theorem dX11_light_21 : decode cX11_light 21 = .ok (.aload_n 0, 1) := by decide +kernel
theorem dX11_light_22 : decode cX11_light 22 = .ok (.getfield 35, 3) := by decide +kernel
theorem dX11_light_25 : decode cX11_light 25 = .ok (.getfield 205, 3) := by decide +kernel
theorem dX11_light_28 : decode cX11_light 28 = .ok (.getfield 236, 3) := by decide +kernel
theorem dX11_light_31 : decode cX11_light 31 = .ok (.if_icmp .ne 5, 3) := by decide +kernel
theorem dX11_light_34 : decode cX11_light 34 = .ok (.iconst 0, 1) := by decide +kernel
theorem dX11_light_35 : decode cX11_light 35 = .ok (.ireturn, 1) := by decide +kernel
theorem dX11_light_36 : decode cX11_light 36 = .ok (.aload_n 0, 1) := by decide +kernel
theorem dX11_light_37 : decode cX11_light 37 = .ok (.getfield 71, 3) := by decide +kernel
theorem dX11_light_40 : decode cX11_light 40 = .ok (.aload_n 0, 1) := by decide +kernel
theorem dX11_light_41 : decode cX11_light 41 = .ok (.getfield 35, 3) := by decide +kernel
theorem dX11_light_44 : decode cX11_light 44 = .ok (.getfield 205, 3) := by decide +kernel
theorem dX11_light_47 : decode cX11_light 47 = .ok (.invokevirtual 252, 3) := by decide +kernel
theorem dX11_light_50 : decode cX11_light 50 = .ok (.aload_n 0, 1) := by decide +kernel
theorem dX11_light_51 : decode cX11_light 51 = .ok (.getfield 35, 3) := by decide +kernel
theorem dX11_light_54 : decode cX11_light 54 = .ok (.getfield 205, 3) := by decide +kernel
theorem dX11_light_57 : decode cX11_light 57 = .ok (.iload_n 1, 1) := by decide +kernel
theorem dX11_light_58 : decode cX11_light 58 = .ok (.putfield 236, 3) := by decide +kernel
theorem dX11_light_61 : decode cX11_light 61 = .ok (.iconst 1, 1) := by decide +kernel
theorem dX11_light_62 : decode cX11_light 62 = .ok (.ireturn, 1) := by decide +kernel
theorem dX11_write_0 : decode cX11_write 0 = .ok (.aload_n 0, 1) := by decide +kernel
theorem dX11_write_1 : decode cX11_write 1 = .ok (.getfield 35, 3) := by decide +kernel
theorem dX11_write_4 : decode cX11_write 4 = .ok (.iload_n 1, 1) := by decide +kernel
theorem dX11_write_5 : decode cX11_write 5 = .ok (.invokevirtual 199, 3) := by decide +kernel
theorem dX11_write_8 : decode cX11_write 8 = .ok (.ifCond .eq 31, 3) := by decide +kernel
theorem dX11_write_11 : decode cX11_write 11 = .ok (.iload_n 2, 1) := by decide +kernel
theorem dX11_write_12 : decode cX11_write 12 = .ok (.ifCond .lt 27, 3) := by decide +kernel
theorem dX11_write_15 : decode cX11_write 15 = .ok (.iload_n 2, 1) := by decide +kernel
theorem dX11_write_16 : decode cX11_write 16 = .ok (.aload_n 0, 1) := by decide +kernel
theorem dX11_write_17 : decode cX11_write 17 = .ok (.getfield 55, 3) := by decide +kernel
theorem dX11_write_20 : decode cX11_write 20 = .ok (.if_icmp .ge 19, 3) := by decide +kernel
theorem dX11_write_23 : decode cX11_write 23 = .ok (.aload_n 0, 1) := by decide +kernel
theorem dX11_write_24 : decode cX11_write 24 = .ok (.getfield 35, 3) := by decide +kernel
theorem dX11_write_27 : decode cX11_write 27 = .ok (.getfield 205, 3) := by decide +kernel
theorem dX11_write_30 : decode cX11_write 30 = .ok (.getfield 208, 3) := by decide +kernel
theorem dX11_write_33 : decode cX11_write 33 = .ok (.iload_n 1, 1) := by decide +kernel
theorem dX11_write_34 : decode cX11_write 34 = .ok (.iaload, 1) := by decide +kernel
theorem dX11_write_35 : decode cX11_write 35 = .ok (.iconst (-1), 1) := by decide +kernel
theorem dX11_write_36 : decode cX11_write 36 = .ok (.if_icmp .eq 5, 3) := by decide +kernel
theorem dX11_write_39 : decode cX11_write 39 = .ok (.iconst (-1), 1) := by decide +kernel
theorem dX11_write_40 : decode cX11_write 40 = .ok (.ireturn, 1) := by decide +kernel
theorem dX11_write_41 : decode cX11_write 41 = .ok (.aload_n 0, 1) := by decide +kernel
theorem dX11_write_42 : decode cX11_write 42 = .ok (.getfield 71, 3) := by decide +kernel
theorem dX11_write_45 : decode cX11_write 45 = .ok (.aload_n 0, 1) := by decide +kernel
theorem dX11_write_46 : decode cX11_write 46 = .ok (.getfield 35, 3) := by decide +kernel
theorem dX11_write_49 : decode cX11_write 49 = .ok (.getfield 205, 3) := by decide +kernel
theorem dX11_write_52 : decode cX11_write 52 = .ok (.invokevirtual 252, 3) := by decide +kernel
theorem dX11_write_55 : decode cX11_write 55 = .ok (.aload_n 0, 1) := by decide +kernel
theorem dX11_write_56 : decode cX11_write 56 = .ok (.getfield 35, 3) := by decide +kernel
theorem dX11_write_59 : decode cX11_write 59 = .ok (.getfield 205, 3) := by decide +kernel
theorem dX11_write_62 : decode cX11_write 62 = .ok (.getfield 211, 3) := by decide +kernel
theorem dX11_write_65 : decode cX11_write 65 = .ok (.iload_n 1, 1) := by decide +kernel
theorem dX11_write_66 : decode cX11_write 66 = .ok (.aload_n 0, 1) := by decide +kernel
theorem dX11_write_67 : decode cX11_write 67 = .ok (.getfield 51, 3) := by decide +kernel
theorem dX11_write_70 : decode cX11_write 70 = .ok (.iload_n 2, 1) := by decide +kernel
theorem dX11_write_71 : decode cX11_write 71 = .ok (.invokevirtual 160, 3) := by decide +kernel
theorem dX11_write_74 : decode cX11_write 74 = .ok (.aload_n 0, 1) := by decide +kernel
theorem dX11_write_75 : decode cX11_write 75 = .ok (.getfield 35, 3) := by decide +kernel
theorem dX11_write_78 : decode cX11_write 78 = .ok (.getfield 205, 3) := by decide +kernel
theorem dX11_write_81 : decode cX11_write 81 = .ok (.getfield 211, 3) := by decide +kernel
theorem dX11_write_84 : decode cX11_write 84 = .ok (.getfield 214, 3) := by decide +kernel
theorem dX11_write_87 : decode cX11_write 87 = .ok (.iload_n 1, 1) := by decide +kernel
theorem dX11_write_88 : decode cX11_write 88 = .ok (.iaload, 1) := by decide +kernel
theorem dX11_write_89 : decode cX11_write 89 = .ok (.ireturn, 1) := by decide +kernel
theorem dX11_days_0 : decode cX11_days 0 = .ok (.aload_n 0, 1) := by decide +kernel
theorem dX11_days_1 : decode cX11_days 1 = .ok (.getfield 35, 3) := by decide +kernel
theorem dX11_days_4 : decode cX11_days 4 = .ok (.invokevirtual 268, 3) := by decide +kernel
theorem dX11_days_7 : decode cX11_days 7 = .ok (.ifCond .ne 14, 3) := by decide +kernel
theorem dX11_days_10 : decode cX11_days 10 = .ok (.iload_n 1, 1) := by decide +kernel
theorem dX11_days_11 : decode cX11_days 11 = .ok (.iconst 1, 1) := by decide +kernel
theorem dX11_days_12 : decode cX11_days 12 = .ok (.if_icmp .lt 9, 3) := by decide +kernel
theorem dX11_days_15 : decode cX11_days 15 = .ok (.iload_n 1, 1) := by decide +kernel
theorem dX11_days_16 : decode cX11_days 16 = .ok (.bipush 60, 2) := by decide +kernel
theorem dX11_days_18 : decode cX11_days 18 = .ok (.if_icmp .le 5, 3) := by decide +kernel
theorem dX11_days_21 : decode cX11_days 21 = .ok (.iconst (-1), 1) := by decide +kernel
theorem dX11_days_22 : decode cX11_days 22 = .ok (.ireturn, 1) := by decide +kernel
theorem dX11_days_23 : decode cX11_days 23 = .ok (.iconst 0, 1) := by decide +kernel
theorem dX11_days_24 : decode cX11_days 24 = .ok (.istore_n 2, 1) := by decide +kernel
theorem dX11_days_25 : decode cX11_days 25 = .ok (.iload_n 2, 1) := by decide +kernel
theorem dX11_days_26 : decode cX11_days 26 = .ok (.iload_n 1, 1) := by decide +kernel
theorem dX11_days_27 : decode cX11_days 27 = .ok (.if_icmp .ge 30, 3) := by decide +kernel
theorem dX11_days_30 : decode cX11_days 30 = .ok (.aload_n 0, 1) := by decide +kernel
theorem dX11_days_31 : decode cX11_days 31 = .ok (.getfield 71, 3) := by decide +kernel
theorem dX11_days_34 : decode cX11_days 34 = .ok (.aload_n 0, 1) := by decide +kernel
theorem dX11_days_35 : decode cX11_days 35 = .ok (.getfield 35, 3) := by decide +kernel
theorem dX11_days_38 : decode cX11_days 38 = .ok (.getfield 205, 3) := by decide +kernel
theorem dX11_days_41 : decode cX11_days 41 = .ok (.invokevirtual 252, 3) := by decide +kernel
theorem dX11_days_44 : decode cX11_days 44 = .ok (.aload_n 0, 1) := by decide +kernel
theorem dX11_days_45 : decode cX11_days 45 = .ok (.getfield 64, 3) := by decide +kernel
theorem dX11_days_48 : decode cX11_days 48 = .ok (.invokevirtual 271, 3) := by decide +kernel
theorem dX11_days_51 : decode cX11_days 51 = .ok (.iinc 2 1, 3) := by decide +kernel
theorem dX11_days_54 : decode cX11_days 54 = .ok (.goto (-29), 3) := by decide +kernel
theorem dX11_days_57 : decode cX11_days 57 = .ok (.aload_n 0, 1) := by decide +kernel
theorem dX11_days_58 : decode cX11_days 58 = .ok (.getfield 35, 3) := by decide +kernel
theorem dX11_days_61 : decode cX11_days 61 = .ok (.getfield 205, 3) := by decide +kernel
theorem dX11_days_64 : decode cX11_days 64 = .ok (.getfield 233, 3) := by decide +kernel
theorem dX11_days_67 : decode cX11_days 67 = .ok (.ireturn, 1) := by decide +kernel
theorem dX11_decades_0 : decode cX11_decades 0 = .ok (.aload_n 0, 1) := by decide +kernel
theorem dX11_decades_1 : decode cX11_decades 1 = .ok (.getfield 35, 3) := by decide +kernel
theorem dX11_decades_4 : decode cX11_decades 4 = .ok (.invokevirtual 268, 3) := by decide +kernel
theorem dX11_decades_7 : decode cX11_decades 7 = .ok (.ifCond .ne 14, 3) := by decide +kernel
theorem dX11_decades_10 : decode cX11_decades 10 = .ok (.iload_n 1, 1) := by decide +kernel
theorem dX11_decades_11 : decode cX11_decades 11 = .ok (.iconst 1, 1) := by decide +kernel
theorem dX11_decades_12 : decode cX11_decades 12 = .ok (.if_icmp .lt 9, 3) := by decide +kernel
theorem dX11_decades_15 : decode cX11_decades 15 = .ok (.iload_n 1, 1) := by decide +kernel
theorem dX11_decades_16 : decode cX11_decades 16 = .ok (.bipush 60, 2) := by decide +kernel
theorem dX11_decades_18 : decode cX11_decades 18 = .ok (.if_icmp .le 5, 3) := by decide +kernel
theorem dX11_decades_21 : decode cX11_decades 21 = .ok (.iconst (-1), 1) := by decide +kernel
theorem dX11_decades_22 : decode cX11_decades 22 = .ok (.ireturn, 1) := by decide +kernel
theorem dX11_decades_23 : decode cX11_decades 23 = .ok (.aload_n 0, 1) := by decide +kernel
theorem dX11_decades_24 : decode cX11_decades 24 = .ok (.lload_n 2, 1) := by decide +kernel
theorem dX11_decades_25 : decode cX11_decades 25 = .ok (.putfield 113, 3) := by decide +kernel
theorem dX11_decades_28 : decode cX11_decades 28 = .ok (.iconst 0, 1) := by decide +kernel
theorem dX11_decades_29 : decode cX11_decades 29 = .ok (.istore 4, 2) := by decide +kernel
theorem dX11_decades_31 : decode cX11_decades 31 = .ok (.iload 4, 2) := by decide +kernel
theorem dX11_decades_33 : decode cX11_decades 33 = .ok (.iload_n 1, 1) := by decide +kernel
theorem dX11_decades_34 : decode cX11_decades 34 = .ok (.if_icmp .ge 34, 3) := by decide +kernel
theorem dX11_decades_37 : decode cX11_decades 37 = .ok (.aload_n 0, 1) := by decide +kernel
theorem dX11_decades_38 : decode cX11_decades 38 = .ok (.getfield 71, 3) := by decide +kernel
theorem dX11_decades_41 : decode cX11_decades 41 = .ok (.aload_n 0, 1) := by decide +kernel
theorem dX11_decades_42 : decode cX11_decades 42 = .ok (.getfield 35, 3) := by decide +kernel
theorem dX11_decades_45 : decode cX11_decades 45 = .ok (.getfield 205, 3) := by decide +kernel
theorem dX11_decades_48 : decode cX11_decades 48 = .ok (.invokevirtual 252, 3) := by decide +kernel
theorem dX11_decades_51 : decode cX11_decades 51 = .ok (.aload_n 0, 1) := by decide +kernel
theorem dX11_decades_52 : decode cX11_decades 52 = .ok (.invokevirtual 274, 3) := by decide +kernel
theorem dX11_decades_55 : decode cX11_decades 55 = .ok (.aload_n 0, 1) := by decide +kernel
theorem dX11_decades_56 : decode cX11_decades 56 = .ok (.getfield 64, 3) := by decide +kernel
theorem dX11_decades_59 : decode cX11_decades 59 = .ok (.invokevirtual 271, 3) := by decide +kernel
theorem dX11_decades_62 : decode cX11_decades 62 = .ok (.iinc 4 1, 3) := by decide +kernel
theorem dX11_decades_65 : decode cX11_decades 65 = .ok (.goto (-34), 3) := by decide +kernel
theorem dX11_decades_68 : decode cX11_decades 68 = .ok (.aload_n 0, 1) := by decide +kernel
theorem dX11_decades_69 : decode cX11_decades 69 = .ok (.getfield 35, 3) := by decide +kernel
theorem dX11_decades_72 : decode cX11_decades 72 = .ok (.getfield 205, 3) := by decide +kernel
theorem dX11_decades_75 : decode cX11_decades 75 = .ok (.getfield 233, 3) := by decide +kernel
theorem dX11_decades_78 : decode cX11_decades 78 = .ok (.ireturn, 1) := by decide +kernel
theorem dX11_clean_0 : decode cX11_clean 0 = .ok (.aload_n 0, 1) := by decide +kernel
theorem dX11_clean_1 : decode cX11_clean 1 = .ok (.bipush 100, 2) := by decide +kernel
theorem dX11_clean_3 : decode cX11_clean 3 = .ok (.invokevirtual 277, 3) := by decide +kernel
theorem dX11_clean_6 : decode cX11_clean 6 = .ok (.aload_n 0, 1) := by decide +kernel
theorem dX11_clean_7 : decode cX11_clean 7 = .ok (.getfield 110, 3) := by decide +kernel
theorem dX11_clean_10 : decode cX11_clean 10 = .ok (.if_icmp .lt 4, 3) := by decide +kernel
theorem dX11_clean_13 : decode cX11_clean 13 = .ok (.return_, 1) := by decide +kernel
theorem dX11_clean_14 : decode cX11_clean 14 = .ok (.aload_n 0, 1) := by decide +kernel
theorem dX11_clean_15 : decode cX11_clean 15 = .ok (.aload_n 0, 1) := by decide +kernel
theorem dX11_clean_16 : decode cX11_clean 16 = .ok (.getfield 35, 3) := by decide +kernel
theorem dX11_clean_19 : decode cX11_clean 19 = .ok (.getfield 174, 3) := by decide +kernel
theorem dX11_clean_22 : decode cX11_clean 22 = .ok (.invokevirtual 277, 3) := by decide +kernel
theorem dX11_clean_25 : decode cX11_clean 25 = .ok (.istore_n 1, 1) := by decide +kernel
theorem dX11_clean_26 : decode cX11_clean 26 = .ok (.aload_n 0, 1) := by decide +kernel
theorem dX11_clean_27 : decode cX11_clean 27 = .ok (.aload_n 0, 1) := by decide +kernel
theorem dX11_clean_28 : decode cX11_clean 28 = .ok (.getfield 35, 3) := by decide +kernel
theorem dX11_clean_31 : decode cX11_clean 31 = .ok (.getfield 174, 3) := by decide +kernel
theorem dX11_clean_34 : decode cX11_clean 34 = .ok (.invokevirtual 277, 3) := by decide +kernel
theorem dX11_clean_37 : decode cX11_clean 37 = .ok (.istore_n 2, 1) := by decide +kernel
theorem dX11_clean_38 : decode cX11_clean 38 = .ok (.iload_n 1, 1) := by decide +kernel
theorem dX11_clean_39 : decode cX11_clean 39 = .ok (.iload_n 2, 1) := by decide +kernel
theorem dX11_clean_40 : decode cX11_clean 40 = .ok (.if_icmp .eq 75, 3) := by decide +kernel
theorem dX11_clean_43 : decode cX11_clean 43 = .ok (.aload_n 0, 1) := by decide +kernel
theorem dX11_clean_44 : decode cX11_clean 44 = .ok (.getfield 35, 3) := by decide +kernel
theorem dX11_clean_47 : decode cX11_clean 47 = .ok (.iload_n 1, 1) := by decide +kernel
theorem dX11_clean_48 : decode cX11_clean 48 = .ok (.invokevirtual 199, 3) := by decide +kernel
theorem dX11_clean_51 : decode cX11_clean 51 = .ok (.ifCond .eq 64, 3) := by decide +kernel
theorem dX11_clean_54 : decode cX11_clean 54 = .ok (.aload_n 0, 1) := by decide +kernel
theorem dX11_clean_55 : decode cX11_clean 55 = .ok (.getfield 35, 3) := by decide +kernel
theorem dX11_clean_58 : decode cX11_clean 58 = .ok (.iload_n 2, 1) := by decide +kernel
theorem dX11_clean_59 : decode cX11_clean 59 = .ok (.invokevirtual 199, 3) := by decide +kernel
theorem dX11_clean_62 : decode cX11_clean 62 = .ok (.ifCond .eq 53, 3) := by decide +kernel
theorem dX11_clean_65 : decode cX11_clean 65 = .ok (.aload_n 0, 1) := by decide +kernel
theorem dX11_clean_66 : decode cX11_clean 66 = .ok (.getfield 35, 3) := by decide +kernel
theorem dX11_clean_69 : decode cX11_clean 69 = .ok (.getfield 205, 3) := by decide +kernel
theorem dX11_clean_72 : decode cX11_clean 72 = .ok (.getfield 208, 3) := by decide +kernel
theorem dX11_clean_75 : decode cX11_clean 75 = .ok (.iload_n 1, 1) := by decide +kernel
theorem dX11_clean_76 : decode cX11_clean 76 = .ok (.iaload, 1) := by decide +kernel
theorem dX11_clean_77 : decode cX11_clean 77 = .ok (.istore_n 3, 1) := by decide +kernel
theorem dX11_clean_78 : decode cX11_clean 78 = .ok (.aload_n 0, 1) := by decide +kernel
theorem dX11_clean_79 : decode cX11_clean 79 = .ok (.getfield 35, 3) := by decide +kernel
theorem dX11_clean_82 : decode cX11_clean 82 = .ok (.getfield 205, 3) := by decide +kernel
theorem dX11_clean_85 : decode cX11_clean 85 = .ok (.getfield 208, 3) := by decide +kernel
theorem dX11_clean_88 : decode cX11_clean 88 = .ok (.iload_n 1, 1) := by decide +kernel
theorem dX11_clean_89 : decode cX11_clean 89 = .ok (.aload_n 0, 1) := by decide +kernel
theorem dX11_clean_90 : decode cX11_clean 90 = .ok (.getfield 35, 3) := by decide +kernel
theorem dX11_clean_93 : decode cX11_clean 93 = .ok (.getfield 205, 3) := by decide +kernel
theorem dX11_clean_96 : decode cX11_clean 96 = .ok (.getfield 208, 3) := by decide +kernel
theorem dX11_clean_99 : decode cX11_clean 99 = .ok (.iload_n 2, 1) := by decide +kernel
theorem dX11_clean_100 : decode cX11_clean 100 = .ok (.iaload, 1) := by decide +kernel
theorem dX11_clean_101 : decode cX11_clean 101 = .ok (.iastore, 1) := by decide +kernel
theorem dX11_clean_102 : decode cX11_clean 102 = .ok (.aload_n 0, 1) := by decide +kernel
theorem dX11_clean_103 : decode cX11_clean 103 = .ok (.getfield 35, 3) := by decide +kernel
theorem dX11_clean_106 : decode cX11_clean 106 = .ok (.getfield 205, 3) := by decide +kernel
theorem dX11_clean_109 : decode cX11_clean 109 = .ok (.getfield 208, 3) := by decide +kernel
theorem dX11_clean_112 : decode cX11_clean 112 = .ok (.iload_n 2, 1) := by decide +kernel
theorem dX11_clean_113 : decode cX11_clean 113 = .ok (.iload_n 3, 1) := by decide +kernel
theorem dX11_clean_114 : decode cX11_clean 114 = .ok (.iastore, 1) := by decide +kernel
theorem dX11_clean_115 : decode cX11_clean 115 = .ok (.return_, 1) := by decide +kernel
theorem dX11_draw_0 : decode cX11_draw 0 = .ok (.aload_n 0, 1) := by decide +kernel
theorem dX11_draw_1 : decode cX11_draw 1 = .ok (.aload_n 0, 1) := by decide +kernel
theorem dX11_draw_2 : decode cX11_draw 2 = .ok (.getfield 113, 3) := by decide +kernel
theorem dX11_draw_5 : decode cX11_draw 5 = .ok (.ldc2_w 280, 3) := by decide +kernel
theorem dX11_draw_8 : decode cX11_draw 8 = .ok (.lmul, 1) := by decide +kernel
theorem dX11_draw_9 : decode cX11_draw 9 = .ok (.ldc2_w 282, 3) := by decide +kernel
theorem dX11_draw_12 : decode cX11_draw 12 = .ok (.ladd, 1) := by decide +kernel
theorem dX11_draw_13 : decode cX11_draw 13 = .ok (.putfield 113, 3) := by decide +kernel
theorem dX11_draw_16 : decode cX11_draw 16 = .ok (.iload_n 1, 1) := by decide +kernel
theorem dX11_draw_17 : decode cX11_draw 17 = .ok (.iconst 1, 1) := by decide +kernel
theorem dX11_draw_18 : decode cX11_draw 18 = .ok (.if_icmp .ge 7, 3) := by decide +kernel
theorem dX11_draw_21 : decode cX11_draw 21 = .ok (.iconst 0, 1) := by decide +kernel
theorem dX11_draw_22 : decode cX11_draw 22 = .ok (.goto 14, 3) := by decide +kernel
theorem dX11_draw_25 : decode cX11_draw 25 = .ok (.aload_n 0, 1) := by decide +kernel
theorem dX11_draw_26 : decode cX11_draw 26 = .ok (.getfield 113, 3) := by decide +kernel
theorem dX11_draw_29 : decode cX11_draw 29 = .ok (.bipush 33, 2) := by decide +kernel
theorem dX11_draw_31 : decode cX11_draw 31 = .ok (.lushr, 1) := by decide +kernel
theorem dX11_draw_32 : decode cX11_draw 32 = .ok (.iload_n 1, 1) := by decide +kernel
theorem dX11_draw_33 : decode cX11_draw 33 = .ok (.i2l, 1) := by decide +kernel
theorem dX11_draw_34 : decode cX11_draw 34 = .ok (.lrem, 1) := by decide +kernel
theorem dX11_draw_35 : decode cX11_draw 35 = .ok (.l2i, 1) := by decide +kernel
theorem dX11_draw_36 : decode cX11_draw 36 = .ok (.ireturn, 1) := by decide +kernel
theorem dX11_undo_0 : decode cX11_undo 0 = .ok (.aload_n 0, 1) := by decide +kernel
theorem dX11_undo_1 : decode cX11_undo 1 = .ok (.getfield 71, 3) := by decide +kernel
theorem dX11_undo_4 : decode cX11_undo 4 = .ok (.aload_n 0, 1) := by decide +kernel
theorem dX11_undo_5 : decode cX11_undo 5 = .ok (.getfield 35, 3) := by decide +kernel
theorem dX11_undo_8 : decode cX11_undo 8 = .ok (.getfield 205, 3) := by decide +kernel
theorem dX11_undo_11 : decode cX11_undo 11 = .ok (.invokevirtual 284, 3) := by decide +kernel
theorem dX11_undo_14 : decode cX11_undo 14 = .ok (.ireturn, 1) := by decide +kernel
theorem dX11_log_0 : decode cX11_log 0 = .ok (.aload_n 0, 1) := by decide +kernel
theorem dX11_log_1 : decode cX11_log 1 = .ok (.getfield 64, 3) := by decide +kernel
theorem dX11_log_4 : decode cX11_log 4 = .ok (.iload_n 1, 1) := by decide +kernel
theorem dX11_log_5 : decode cX11_log 5 = .ok (.iload_n 2, 1) := by decide +kernel
theorem dX11_log_6 : decode cX11_log 6 = .ok (.invokevirtual 288, 3) := by decide +kernel
theorem dX11_log_9 : decode cX11_log 9 = .ok (.ireturn, 1) := by decide +kernel
theorem dX11_image_0 : decode cX11_image 0 = .ok (.aload_n 0, 1) := by decide +kernel
theorem dX11_image_1 : decode cX11_image 1 = .ok (.getfield 35, 3) := by decide +kernel
theorem dX11_image_4 : decode cX11_image 4 = .ok (.invokevirtual 268, 3) := by decide +kernel
theorem dX11_image_7 : decode cX11_image 7 = .ok (.ifCond .eq 5, 3) := by decide +kernel
theorem dX11_image_10 : decode cX11_image 10 = .ok (.iconst (-1), 1) := by decide +kernel
theorem dX11_image_11 : decode cX11_image 11 = .ok (.ireturn, 1) := by decide +kernel
theorem dX11_image_12 : decode cX11_image 12 = .ok (.aload_n 0, 1) := by decide +kernel
theorem dX11_image_13 : decode cX11_image 13 = .ok (.getfield 98, 3) := by decide +kernel
theorem dX11_image_16 : decode cX11_image 16 = .ok (.aload_n 0, 1) := by decide +kernel
theorem dX11_image_17 : decode cX11_image 17 = .ok (.getfield 35, 3) := by decide +kernel
theorem dX11_image_20 : decode cX11_image 20 = .ok (.getfield 205, 3) := by decide +kernel
theorem dX11_image_23 : decode cX11_image 23 = .ok (.invokevirtual 292, 3) := by decide +kernel
theorem dX11_image_26 : decode cX11_image 26 = .ok (.aload_n 0, 1) := by decide +kernel
theorem dX11_image_27 : decode cX11_image 27 = .ok (.getfield 64, 3) := by decide +kernel
theorem dX11_image_30 : decode cX11_image 30 = .ok (.getfield 294, 3) := by decide +kernel
theorem dX11_image_33 : decode cX11_image 33 = .ok (.iconst 0, 1) := by decide +kernel
theorem dX11_image_34 : decode cX11_image 34 = .ok (.aload_n 0, 1) := by decide +kernel
theorem dX11_image_35 : decode cX11_image 35 = .ok (.getfield 102, 3) := by decide +kernel
theorem dX11_image_38 : decode cX11_image 38 = .ok (.iconst 0, 1) := by decide +kernel
theorem dX11_image_39 : decode cX11_image 39 = .ok (.sipush 128, 3) := by decide +kernel
theorem dX11_image_42 : decode cX11_image 42 = .ok (.invokestatic 297, 3) := by decide +kernel
theorem dX11_image_45 : decode cX11_image 45 = .ok (.aload_n 0, 1) := by decide +kernel
theorem dX11_image_46 : decode cX11_image 46 = .ok (.iconst 1, 1) := by decide +kernel
theorem dX11_image_47 : decode cX11_image 47 = .ok (.putfield 106, 3) := by decide +kernel
theorem dX11_image_50 : decode cX11_image 50 = .ok (.aload_n 0, 1) := by decide +kernel
theorem dX11_image_51 : decode cX11_image 51 = .ok (.getfield 35, 3) := by decide +kernel
theorem dX11_image_54 : decode cX11_image 54 = .ok (.getfield 205, 3) := by decide +kernel
theorem dX11_image_57 : decode cX11_image 57 = .ok (.getfield 233, 3) := by decide +kernel
theorem dX11_image_60 : decode cX11_image 60 = .ok (.ireturn, 1) := by decide +kernel
theorem dX11_back_0 : decode cX11_back 0 = .ok (.aload_n 0, 1) := by decide +kernel
theorem dX11_back_1 : decode cX11_back 1 = .ok (.getfield 106, 3) := by decide +kernel
theorem dX11_back_4 : decode cX11_back 4 = .ok (.ifCond .ne 5, 3) := by decide +kernel
theorem dX11_back_7 : decode cX11_back 7 = .ok (.iconst (-1), 1) := by decide +kernel
theorem dX11_back_8 : decode cX11_back 8 = .ok (.ireturn, 1) := by decide +kernel
theorem dX11_back_9 : decode cX11_back 9 = .ok (.aload_n 0, 1) := by decide +kernel
theorem dX11_back_10 : decode cX11_back 10 = .ok (.getfield 35, 3) := by decide +kernel
theorem dX11_back_13 : decode cX11_back 13 = .ok (.getfield 205, 3) := by decide +kernel
theorem dX11_back_16 : decode cX11_back 16 = .ok (.aload_n 0, 1) := by decide +kernel
theorem dX11_back_17 : decode cX11_back 17 = .ok (.getfield 98, 3) := by decide +kernel
theorem dX11_back_20 : decode cX11_back 20 = .ok (.invokevirtual 292, 3) := by decide +kernel
theorem dX11_back_23 : decode cX11_back 23 = .ok (.aload_n 0, 1) := by decide +kernel
theorem dX11_back_24 : decode cX11_back 24 = .ok (.getfield 102, 3) := by decide +kernel
theorem dX11_back_27 : decode cX11_back 27 = .ok (.iconst 0, 1) := by decide +kernel
theorem dX11_back_28 : decode cX11_back 28 = .ok (.aload_n 0, 1) := by decide +kernel
theorem dX11_back_29 : decode cX11_back 29 = .ok (.getfield 64, 3) := by decide +kernel
theorem dX11_back_32 : decode cX11_back 32 = .ok (.getfield 294, 3) := by decide +kernel
theorem dX11_back_35 : decode cX11_back 35 = .ok (.iconst 0, 1) := by decide +kernel
theorem dX11_back_36 : decode cX11_back 36 = .ok (.sipush 128, 3) := by decide +kernel
theorem dX11_back_39 : decode cX11_back 39 = .ok (.invokestatic 297, 3) := by decide +kernel
theorem dX11_back_42 : decode cX11_back 42 = .ok (.aload_n 0, 1) := by decide +kernel
theorem dX11_back_43 : decode cX11_back 43 = .ok (.getfield 71, 3) := by decide +kernel
theorem dX11_back_46 : decode cX11_back 46 = .ok (.invokevirtual 170, 3) := by decide +kernel
theorem dX11_back_49 : decode cX11_back 49 = .ok (.aload_n 0, 1) := by decide +kernel
theorem dX11_back_50 : decode cX11_back 50 = .ok (.getfield 35, 3) := by decide +kernel
theorem dX11_back_53 : decode cX11_back 53 = .ok (.getfield 205, 3) := by decide +kernel
theorem dX11_back_56 : decode cX11_back 56 = .ok (.getfield 233, 3) := by decide +kernel
theorem dX11_back_59 : decode cX11_back 59 = .ok (.ireturn, 1) := by decide +kernel
theorem dX11_hasWordLeft_0 : decode cX11_hasWordLeft 0 = .ok (.aload_n 0, 1) := by decide +kernel
theorem dX11_hasWordLeft_1 : decode cX11_hasWordLeft 1 = .ok (.getfield 35, 3) := by decide +kernel
theorem dX11_hasWordLeft_4 : decode cX11_hasWordLeft 4 = .ok (.iload_n 1, 1) := by decide +kernel
theorem dX11_hasWordLeft_5 : decode cX11_hasWordLeft 5 = .ok (.invokevirtual 199, 3) := by decide +kernel
theorem dX11_hasWordLeft_8 : decode cX11_hasWordLeft 8 = .ok (.ifCond .eq 24, 3) := by decide +kernel
theorem dX11_hasWordLeft_11 : decode cX11_hasWordLeft 11 = .ok (.aload_n 0, 1) := by decide +kernel
theorem dX11_hasWordLeft_12 : decode cX11_hasWordLeft 12 = .ok (.getfield 35, 3) := by decide +kernel
theorem dX11_hasWordLeft_15 : decode cX11_hasWordLeft 15 = .ok (.getfield 205, 3) := by decide +kernel
theorem dX11_hasWordLeft_18 : decode cX11_hasWordLeft 18 = .ok (.getfield 211, 3) := by decide +kernel
theorem dX11_hasWordLeft_21 : decode cX11_hasWordLeft 21 = .ok (.iload_n 1, 1) := by decide +kernel
theorem dX11_hasWordLeft_22 : decode cX11_hasWordLeft 22 = .ok (.invokevirtual 265, 3) := by decide +kernel
theorem dX11_hasWordLeft_25 : decode cX11_hasWordLeft 25 = .ok (.ifCond .le 7, 3) := by decide +kernel
theorem dX11_hasWordLeft_28 : decode cX11_hasWordLeft 28 = .ok (.iconst 1, 1) := by decide +kernel
theorem dX11_hasWordLeft_29 : decode cX11_hasWordLeft 29 = .ok (.goto 4, 3) := by decide +kernel
theorem dX11_hasWordLeft_32 : decode cX11_hasWordLeft 32 = .ok (.iconst 0, 1) := by decide +kernel
theorem dX11_hasWordLeft_33 : decode cX11_hasWordLeft 33 = .ok (.ireturn, 1) := by decide +kernel
theorem dX11_right_0 : decode cX11_right 0 = .ok (.aload_n 0, 1) := by decide +kernel
theorem dX11_right_1 : decode cX11_right 1 = .ok (.getfield 35, 3) := by decide +kernel
theorem dX11_right_4 : decode cX11_right 4 = .ok (.invokevirtual 268, 3) := by decide +kernel
theorem dX11_right_7 : decode cX11_right 7 = .ok (.ifCond .eq 5, 3) := by decide +kernel
theorem dX11_right_10 : decode cX11_right 10 = .ok (.iconst (-1), 1) := by decide +kernel
theorem dX11_right_11 : decode cX11_right 11 = .ok (.ireturn, 1) := by decide +kernel
theorem dX11_right_12 : decode cX11_right 12 = .ok (.iconst 0, 1) := by decide +kernel
theorem dX11_right_13 : decode cX11_right 13 = .ok (.istore_n 1, 1) := by decide +kernel
theorem dX11_right_14 : decode cX11_right 14 = .ok (.iconst 0, 1) := by decide +kernel
theorem dX11_right_15 : decode cX11_right 15 = .ok (.istore_n 2, 1) := by decide +kernel
theorem dX11_right_16 : decode cX11_right 16 = .ok (.iload_n 2, 1) := by decide +kernel
theorem dX11_right_17 : decode cX11_right 17 = .ok (.aload_n 0, 1) := by decide +kernel
theorem dX11_right_18 : decode cX11_right 18 = .ok (.getfield 35, 3) := by decide +kernel
theorem dX11_right_21 : decode cX11_right 21 = .ok (.getfield 174, 3) := by decide +kernel
theorem dX11_right_24 : decode cX11_right 24 = .ok (.if_icmp .ge 26, 3) := by decide +kernel
theorem dX11_right_27 : decode cX11_right 27 = .ok (.aload_n 0, 1) := by decide +kernel
theorem dX11_right_28 : decode cX11_right 28 = .ok (.getfield 35, 3) := by decide +kernel
theorem dX11_right_31 : decode cX11_right 31 = .ok (.iload_n 2, 1) := by decide +kernel
theorem dX11_right_32 : decode cX11_right 32 = .ok (.invokevirtual 216, 3) := by decide +kernel
theorem dX11_right_35 : decode cX11_right 35 = .ok (.ifCond .eq 9, 3) := by decide +kernel
theorem dX11_right_38 : decode cX11_right 38 = .ok (.iload_n 1, 1) := by decide +kernel
theorem dX11_right_39 : decode cX11_right 39 = .ok (.iconst 1, 1) := by decide +kernel
theorem dX11_right_40 : decode cX11_right 40 = .ok (.iload_n 2, 1) := by decide +kernel
theorem dX11_right_41 : decode cX11_right 41 = .ok (.ishl, 1) := by decide +kernel
theorem dX11_right_42 : decode cX11_right 42 = .ok (.ior, 1) := by decide +kernel
theorem dX11_right_43 : decode cX11_right 43 = .ok (.istore_n 1, 1) := by decide +kernel
theorem dX11_right_44 : decode cX11_right 44 = .ok (.iinc 2 1, 3) := by decide +kernel
theorem dX11_right_47 : decode cX11_right 47 = .ok (.goto (-31), 3) := by decide +kernel
theorem dX11_right_50 : decode cX11_right 50 = .ok (.iload_n 1, 1) := by decide +kernel
theorem dX11_right_51 : decode cX11_right 51 = .ok (.ireturn, 1) := by decide +kernel
theorem dX11_matched_0 : decode cX11_matched 0 = .ok (.aload_n 0, 1) := by decide +kernel
theorem dX11_matched_1 : decode cX11_matched 1 = .ok (.getfield 35, 3) := by decide +kernel
theorem dX11_matched_4 : decode cX11_matched 4 = .ok (.invokevirtual 268, 3) := by decide +kernel
theorem dX11_matched_7 : decode cX11_matched 7 = .ok (.ifCond .ne 12, 3) := by decide +kernel
theorem dX11_matched_10 : decode cX11_matched 10 = .ok (.iload_n 1, 1) := by decide +kernel
theorem dX11_matched_11 : decode cX11_matched 11 = .ok (.ifCond .lt 8, 3) := by decide +kernel
theorem dX11_matched_14 : decode cX11_matched 14 = .ok (.iload_n 1, 1) := by decide +kernel
theorem dX11_matched_15 : decode cX11_matched 15 = .ok (.iconst 2, 1) := by decide +kernel
theorem dX11_matched_16 : decode cX11_matched 16 = .ok (.if_icmp .le 5, 3) := by decide +kernel
theorem dX11_matched_19 : decode cX11_matched 19 = .ok (.iconst (-1), 1) := by decide +kernel
theorem dX11_matched_20 : decode cX11_matched 20 = .ok (.ireturn, 1) := by decide +kernel
theorem dX11_matched_21 : decode cX11_matched 21 = .ok (.aload_n 0, 1) := by decide +kernel
theorem dX11_matched_22 : decode cX11_matched 22 = .ok (.getfield 80, 3) := by decide +kernel
theorem dX11_matched_25 : decode cX11_matched 25 = .ok (.invokevirtual 303, 3) := by decide +kernel
theorem dX11_matched_28 : decode cX11_matched 28 = .ok (.iload_n 1, 1) := by decide +kernel
theorem dX11_matched_29 : decode cX11_matched 29 = .ok (.ifCond .ne 11, 3) := by decide +kernel
theorem dX11_matched_32 : decode cX11_matched 32 = .ok (.aload_n 0, 1) := by decide +kernel
theorem dX11_matched_33 : decode cX11_matched 33 = .ok (.getfield 80, 3) := by decide +kernel
theorem dX11_matched_36 : decode cX11_matched 36 = .ok (.getfield 306, 3) := by decide +kernel
theorem dX11_matched_39 : decode cX11_matched 39 = .ok (.ireturn, 1) := by decide +kernel
theorem dX11_matched_40 : decode cX11_matched 40 = .ok (.iload_n 1, 1) := by decide +kernel
theorem dX11_matched_41 : decode cX11_matched 41 = .ok (.iconst 1, 1) := by decide +kernel
theorem dX11_matched_42 : decode cX11_matched 42 = .ok (.if_icmp .ne 13, 3) := by decide +kernel
theorem dX11_matched_45 : decode cX11_matched 45 = .ok (.aload_n 0, 1) := by decide +kernel
theorem dX11_matched_46 : decode cX11_matched 46 = .ok (.getfield 80, 3) := by decide +kernel
theorem dX11_matched_49 : decode cX11_matched 49 = .ok (.getfield 309, 3) := by decide +kernel
theorem dX11_matched_52 : decode cX11_matched 52 = .ok (.goto 10, 3) := by decide +kernel
theorem dX11_matched_55 : decode cX11_matched 55 = .ok (.aload_n 0, 1) := by decide +kernel
theorem dX11_matched_56 : decode cX11_matched 56 = .ok (.getfield 80, 3) := by decide +kernel
theorem dX11_matched_59 : decode cX11_matched 59 = .ok (.getfield 312, 3) := by decide +kernel
theorem dX11_matched_62 : decode cX11_matched 62 = .ok (.ireturn, 1) := by decide +kernel
theorem dX11_clash_0 : decode cX11_clash 0 = .ok (.aload_n 0, 1) := by decide +kernel
theorem dX11_clash_1 : decode cX11_clash 1 = .ok (.getfield 35, 3) := by decide +kernel
theorem dX11_clash_4 : decode cX11_clash 4 = .ok (.invokevirtual 268, 3) := by decide +kernel
theorem dX11_clash_7 : decode cX11_clash 7 = .ok (.ifCond .eq 7, 3) := by decide +kernel
theorem dX11_clash_10 : decode cX11_clash 10 = .ok (.iconst (-1), 1) := by decide +kernel
theorem dX11_clash_11 : decode cX11_clash 11 = .ok (.goto 10, 3) := by decide +kernel
theorem dX11_clash_14 : decode cX11_clash 14 = .ok (.aload_n 0, 1) := by decide +kernel
theorem dX11_clash_15 : decode cX11_clash 15 = .ok (.getfield 80, 3) := by decide +kernel
theorem dX11_clash_18 : decode cX11_clash 18 = .ok (.invokevirtual 315, 3) := by decide +kernel
theorem dX11_clash_21 : decode cX11_clash 21 = .ok (.ireturn, 1) := by decide +kernel
theorem dX11_blank_0 : decode cX11_blank 0 = .ok (.aload_n 0, 1) := by decide +kernel
theorem dX11_blank_1 : decode cX11_blank 1 = .ok (.getfield 35, 3) := by decide +kernel
theorem dX11_blank_4 : decode cX11_blank 4 = .ok (.iload_n 1, 1) := by decide +kernel
theorem dX11_blank_5 : decode cX11_blank 5 = .ok (.invokevirtual 199, 3) := by decide +kernel
theorem dX11_blank_8 : decode cX11_blank 8 = .ok (.ifCond .eq 14, 3) := by decide +kernel
theorem dX11_blank_11 : decode cX11_blank 11 = .ok (.aload_n 0, 1) := by decide +kernel
theorem dX11_blank_12 : decode cX11_blank 12 = .ok (.getfield 64, 3) := by decide +kernel
theorem dX11_blank_15 : decode cX11_blank 15 = .ok (.iload_n 1, 1) := by decide +kernel
theorem dX11_blank_16 : decode cX11_blank 16 = .ok (.invokevirtual 318, 3) := by decide +kernel
theorem dX11_blank_19 : decode cX11_blank 19 = .ok (.goto 4, 3) := by decide +kernel
theorem dX11_blank_22 : decode cX11_blank 22 = .ok (.iconst (-1), 1) := by decide +kernel
theorem dX11_blank_23 : decode cX11_blank 23 = .ok (.ireturn, 1) := by decide +kernel
theorem dX11_stood_0 : decode cX11_stood 0 = .ok (.aload_n 0, 1) := by decide +kernel
theorem dX11_stood_1 : decode cX11_stood 1 = .ok (.getfield 35, 3) := by decide +kernel
theorem dX11_stood_4 : decode cX11_stood 4 = .ok (.iload_n 1, 1) := by decide +kernel
theorem dX11_stood_5 : decode cX11_stood 5 = .ok (.invokevirtual 180, 3) := by decide +kernel
theorem dX11_stood_8 : decode cX11_stood 8 = .ok (.ifCond .eq 14, 3) := by decide +kernel
theorem dX11_stood_11 : decode cX11_stood 11 = .ok (.aload_n 0, 1) := by decide +kernel
theorem dX11_stood_12 : decode cX11_stood 12 = .ok (.getfield 35, 3) := by decide +kernel
theorem dX11_stood_15 : decode cX11_stood 15 = .ok (.iload_n 2, 1) := by decide +kernel
theorem dX11_stood_16 : decode cX11_stood 16 = .ok (.invokevirtual 199, 3) := by decide +kernel
theorem dX11_stood_19 : decode cX11_stood 19 = .ok (.ifCond .ne 5, 3) := by decide +kernel
theorem dX11_stood_22 : decode cX11_stood 22 = .ok (.iconst (-1), 1) := by decide +kernel
theorem dX11_stood_23 : decode cX11_stood 23 = .ok (.ireturn, 1) := by decide +kernel
theorem dX11_stood_24 : decode cX11_stood 24 = .ok (.aload_n 0, 1) := by decide +kernel
theorem dX11_stood_25 : decode cX11_stood 25 = .ok (.getfield 87, 3) := by decide +kernel
theorem dX11_stood_28 : decode cX11_stood 28 = .ok (.iload_n 1, 1) := by decide +kernel
theorem dX11_stood_29 : decode cX11_stood 29 = .ok (.iload_n 2, 1) := by decide +kernel
theorem dX11_stood_30 : decode cX11_stood 30 = .ok (.iload_n 3, 1) := by decide +kernel
theorem dX11_stood_31 : decode cX11_stood 31 = .ok (.invokevirtual 321, 3) := by decide +kernel
theorem dX11_stood_34 : decode cX11_stood 34 = .ok (.ireturn, 1) := by decide +kernel
theorem dX11_once_0 : decode cX11_once 0 = .ok (.iload_n 2, 1) := by decide +kernel
theorem dX11_once_1 : decode cX11_once 1 = .ok (.iconst (-1), 1) := by decide +kernel
theorem dX11_once_2 : decode cX11_once 2 = .ok (.if_icmp .lt 14, 3) := by decide +kernel
theorem dX11_once_5 : decode cX11_once 5 = .ok (.aload_n 0, 1) := by decide +kernel
theorem dX11_once_6 : decode cX11_once 6 = .ok (.getfield 87, 3) := by decide +kernel
theorem dX11_once_9 : decode cX11_once 9 = .ok (.iload_n 1, 1) := by decide +kernel
theorem dX11_once_10 : decode cX11_once 10 = .ok (.invokevirtual 325, 3) := by decide +kernel
theorem dX11_once_13 : decode cX11_once 13 = .ok (.ifCond .ne 5, 3) := by decide +kernel
theorem dX11_once_16 : decode cX11_once 16 = .ok (.iconst (-1), 1) := by decide +kernel
theorem dX11_once_17 : decode cX11_once 17 = .ok (.ireturn, 1) := by decide +kernel
theorem dX11_once_18 : decode cX11_once 18 = .ok (.iload_n 2, 1) := by decide +kernel
theorem dX11_once_19 : decode cX11_once 19 = .ok (.iconst (-1), 1) := by decide +kernel
theorem dX11_once_20 : decode cX11_once 20 = .ok (.if_icmp .ne 13, 3) := by decide +kernel
theorem dX11_once_23 : decode cX11_once 23 = .ok (.aload_n 0, 1) := by decide +kernel
theorem dX11_once_24 : decode cX11_once 24 = .ok (.getfield 87, 3) := by decide +kernel
theorem dX11_once_27 : decode cX11_once 27 = .ok (.invokevirtual 328, 3) := by decide +kernel
theorem dX11_once_30 : decode cX11_once 30 = .ok (.goto 11, 3) := by decide +kernel
theorem dX11_once_33 : decode cX11_once 33 = .ok (.aload_n 0, 1) := by decide +kernel
theorem dX11_once_34 : decode cX11_once 34 = .ok (.getfield 87, 3) := by decide +kernel
theorem dX11_once_37 : decode cX11_once 37 = .ok (.iload_n 2, 1) := by decide +kernel
theorem dX11_once_38 : decode cX11_once 38 = .ok (.invokevirtual 331, 3) := by decide +kernel
theorem dX11_once_41 : decode cX11_once 41 = .ok (.ireturn, 1) := by decide +kernel
theorem dX11_probe_0 : decode cX11_probe 0 = .ok (.aload_n 0, 1) := by decide +kernel
theorem dX11_probe_1 : decode cX11_probe 1 = .ok (.getfield 87, 3) := by decide +kernel
theorem dX11_probe_4 : decode cX11_probe 4 = .ok (.iload_n 1, 1) := by decide +kernel
theorem dX11_probe_5 : decode cX11_probe 5 = .ok (.invokevirtual 325, 3) := by decide +kernel
theorem dX11_probe_8 : decode cX11_probe 8 = .ok (.ifCond .eq 13, 3) := by decide +kernel
theorem dX11_probe_11 : decode cX11_probe 11 = .ok (.aload_n 0, 1) := by decide +kernel
theorem dX11_probe_12 : decode cX11_probe 12 = .ok (.getfield 87, 3) := by decide +kernel
theorem dX11_probe_15 : decode cX11_probe 15 = .ok (.invokevirtual 334, 3) := by decide +kernel
theorem dX11_probe_18 : decode cX11_probe 18 = .ok (.goto 4, 3) := by decide +kernel
theorem dX11_probe_21 : decode cX11_probe 21 = .ok (.iconst (-1), 1) := by decide +kernel
theorem dX11_probe_22 : decode cX11_probe 22 = .ok (.ireturn, 1) := by decide +kernel
theorem dX11_saves_0 : decode cX11_saves 0 = .ok (.iload_n 2, 1) := by decide +kernel
theorem dX11_saves_1 : decode cX11_saves 1 = .ok (.ifCond .lt 19, 3) := by decide +kernel
theorem dX11_saves_4 : decode cX11_saves 4 = .ok (.iload_n 2, 1) := by decide +kernel
theorem dX11_saves_5 : decode cX11_saves 5 = .ok (.iconst 1, 1) := by decide +kernel
theorem dX11_saves_6 : decode cX11_saves 6 = .ok (.if_icmp .gt 14, 3) := by decide +kernel
theorem dX11_saves_9 : decode cX11_saves 9 = .ok (.aload_n 0, 1) := by decide +kernel
theorem dX11_saves_10 : decode cX11_saves 10 = .ok (.getfield 87, 3) := by decide +kernel
theorem dX11_saves_13 : decode cX11_saves 13 = .ok (.iload_n 1, 1) := by decide +kernel
theorem dX11_saves_14 : decode cX11_saves 14 = .ok (.invokevirtual 325, 3) := by decide +kernel
theorem dX11_saves_17 : decode cX11_saves 17 = .ok (.ifCond .ne 5, 3) := by decide +kernel
theorem dX11_saves_20 : decode cX11_saves 20 = .ok (.iconst (-1), 1) := by decide +kernel
theorem dX11_saves_21 : decode cX11_saves 21 = .ok (.ireturn, 1) := by decide +kernel
theorem dX11_saves_22 : decode cX11_saves 22 = .ok (.aload_n 0, 1) := by decide +kernel
theorem dX11_saves_23 : decode cX11_saves 23 = .ok (.getfield 87, 3) := by decide +kernel
theorem dX11_saves_26 : decode cX11_saves 26 = .ok (.invokevirtual 337, 3) := by decide +kernel
theorem dX11_saves_29 : decode cX11_saves 29 = .ok (.istore_n 3, 1) := by decide +kernel
theorem dX11_saves_30 : decode cX11_saves 30 = .ok (.iload_n 2, 1) := by decide +kernel
theorem dX11_saves_31 : decode cX11_saves 31 = .ok (.ifCond .eq 8, 3) := by decide +kernel
theorem dX11_saves_34 : decode cX11_saves 34 = .ok (.iload_n 3, 1) := by decide +kernel
theorem dX11_saves_35 : decode cX11_saves 35 = .ok (.iconst (-1), 1) := by decide +kernel
theorem dX11_saves_36 : decode cX11_saves 36 = .ok (.if_icmp .ne 7, 3) := by decide +kernel
theorem dX11_saves_39 : decode cX11_saves 39 = .ok (.iload_n 3, 1) := by decide +kernel
theorem dX11_saves_40 : decode cX11_saves 40 = .ok (.goto 11, 3) := by decide +kernel
theorem dX11_saves_43 : decode cX11_saves 43 = .ok (.aload_n 0, 1) := by decide +kernel
theorem dX11_saves_44 : decode cX11_saves 44 = .ok (.getfield 87, 3) := by decide +kernel
theorem dX11_saves_47 : decode cX11_saves 47 = .ok (.iload_n 3, 1) := by decide +kernel
theorem dX11_saves_48 : decode cX11_saves 48 = .ok (.invokevirtual 340, 3) := by decide +kernel
theorem dX11_saves_51 : decode cX11_saves 51 = .ok (.ireturn, 1) := by decide +kernel
theorem dX11_round_0 : decode cX11_round 0 = .ok (.aload_n 0, 1) := by decide +kernel
theorem dX11_round_1 : decode cX11_round 1 = .ok (.getfield 35, 3) := by decide +kernel
theorem dX11_round_4 : decode cX11_round 4 = .ok (.invokevirtual 268, 3) := by decide +kernel
theorem dX11_round_7 : decode cX11_round 7 = .ok (.ifCond .eq 5, 3) := by decide +kernel
theorem dX11_round_10 : decode cX11_round 10 = .ok (.iconst (-1), 1) := by decide +kernel
theorem dX11_round_11 : decode cX11_round 11 = .ok (.ireturn, 1) := by decide +kernel
theorem dX11_round_12 : decode cX11_round 12 = .ok (.iconst 0, 1) := by decide +kernel
theorem dX11_round_13 : decode cX11_round 13 = .ok (.istore_n 1, 1) := by decide +kernel
theorem dX11_round_14 : decode cX11_round 14 = .ok (.iconst 0, 1) := by decide +kernel
theorem dX11_round_15 : decode cX11_round 15 = .ok (.istore_n 2, 1) := by decide +kernel
theorem dX11_round_16 : decode cX11_round 16 = .ok (.iload_n 2, 1) := by decide +kernel
theorem dX11_round_17 : decode cX11_round 17 = .ok (.aload_n 0, 1) := by decide +kernel
theorem dX11_round_18 : decode cX11_round 18 = .ok (.getfield 35, 3) := by decide +kernel
theorem dX11_round_21 : decode cX11_round 21 = .ok (.getfield 174, 3) := by decide +kernel
theorem dX11_round_24 : decode cX11_round 24 = .ok (.if_icmp .ge 31, 3) := by decide +kernel
theorem dX11_round_27 : decode cX11_round 27 = .ok (.aload_n 0, 1) := by decide +kernel
theorem dX11_round_28 : decode cX11_round 28 = .ok (.getfield 35, 3) := by decide +kernel
theorem dX11_round_31 : decode cX11_round 31 = .ok (.iload_n 2, 1) := by decide +kernel
theorem dX11_round_32 : decode cX11_round 32 = .ok (.invokevirtual 343, 3) := by decide +kernel
theorem dX11_round_35 : decode cX11_round 35 = .ok (.iload_n 2, 1) := by decide +kernel
theorem dX11_round_36 : decode cX11_round 36 = .ok (.ishr, 1) := by decide +kernel
theorem dX11_round_37 : decode cX11_round 37 = .ok (.iconst 1, 1) := by decide +kernel
theorem dX11_round_38 : decode cX11_round 38 = .ok (.iand, 1) := by decide +kernel
theorem dX11_round_39 : decode cX11_round 39 = .ok (.iconst 1, 1) := by decide +kernel
theorem dX11_round_40 : decode cX11_round 40 = .ok (.if_icmp .ne 9, 3) := by decide +kernel
theorem dX11_round_43 : decode cX11_round 43 = .ok (.iload_n 1, 1) := by decide +kernel
theorem dX11_round_44 : decode cX11_round 44 = .ok (.iconst 1, 1) := by decide +kernel
theorem dX11_round_45 : decode cX11_round 45 = .ok (.iload_n 2, 1) := by decide +kernel
theorem dX11_round_46 : decode cX11_round 46 = .ok (.ishl, 1) := by decide +kernel
theorem dX11_round_47 : decode cX11_round 47 = .ok (.ior, 1) := by decide +kernel
theorem dX11_round_48 : decode cX11_round 48 = .ok (.istore_n 1, 1) := by decide +kernel
theorem dX11_round_49 : decode cX11_round 49 = .ok (.iinc 2 1, 3) := by decide +kernel
theorem dX11_round_52 : decode cX11_round 52 = .ok (.goto (-36), 3) := by decide +kernel
theorem dX11_round_55 : decode cX11_round 55 = .ok (.iload_n 1, 1) := by decide +kernel
theorem dX11_round_56 : decode cX11_round 56 = .ok (.ireturn, 1) := by decide +kernel
theorem dX11_nowhere_0 : decode cX11_nowhere 0 = .ok (.aload_n 0, 1) := by decide +kernel
theorem dX11_nowhere_1 : decode cX11_nowhere 1 = .ok (.getfield 35, 3) := by decide +kernel
theorem dX11_nowhere_4 : decode cX11_nowhere 4 = .ok (.invokevirtual 268, 3) := by decide +kernel
theorem dX11_nowhere_7 : decode cX11_nowhere 7 = .ok (.ifCond .eq 5, 3) := by decide +kernel
theorem dX11_nowhere_10 : decode cX11_nowhere 10 = .ok (.iconst (-1), 1) := by decide +kernel
theorem dX11_nowhere_11 : decode cX11_nowhere 11 = .ok (.ireturn, 1) := by decide +kernel
theorem dX11_nowhere_12 : decode cX11_nowhere 12 = .ok (.iconst 0, 1) := by decide +kernel
theorem dX11_nowhere_13 : decode cX11_nowhere 13 = .ok (.istore_n 1, 1) := by decide +kernel
theorem dX11_nowhere_14 : decode cX11_nowhere 14 = .ok (.iconst 0, 1) := by decide +kernel
theorem dX11_nowhere_15 : decode cX11_nowhere 15 = .ok (.istore_n 2, 1) := by decide +kernel
theorem dX11_nowhere_16 : decode cX11_nowhere 16 = .ok (.iload_n 2, 1) := by decide +kernel
theorem dX11_nowhere_17 : decode cX11_nowhere 17 = .ok (.aload_n 0, 1) := by decide +kernel
theorem dX11_nowhere_18 : decode cX11_nowhere 18 = .ok (.getfield 35, 3) := by decide +kernel
theorem dX11_nowhere_21 : decode cX11_nowhere 21 = .ok (.getfield 174, 3) := by decide +kernel
theorem dX11_nowhere_24 : decode cX11_nowhere 24 = .ok (.if_icmp .ge 41, 3) := by decide +kernel
theorem dX11_nowhere_27 : decode cX11_nowhere 27 = .ok (.aload_n 0, 1) := by decide +kernel
theorem dX11_nowhere_28 : decode cX11_nowhere 28 = .ok (.getfield 35, 3) := by decide +kernel
theorem dX11_nowhere_31 : decode cX11_nowhere 31 = .ok (.getfield 205, 3) := by decide +kernel
theorem dX11_nowhere_34 : decode cX11_nowhere 34 = .ok (.getfield 211, 3) := by decide +kernel
theorem dX11_nowhere_37 : decode cX11_nowhere 37 = .ok (.iload_n 2, 1) := by decide +kernel
theorem dX11_nowhere_38 : decode cX11_nowhere 38 = .ok (.iconst 2, 1) := by decide +kernel
theorem dX11_nowhere_39 : decode cX11_nowhere 39 = .ok (.invokevirtual 346, 3) := by decide +kernel
theorem dX11_nowhere_42 : decode cX11_nowhere 42 = .ok (.aload_n 0, 1) := by decide +kernel
theorem dX11_nowhere_43 : decode cX11_nowhere 43 = .ok (.getfield 35, 3) := by decide +kernel
theorem dX11_nowhere_46 : decode cX11_nowhere 46 = .ok (.getfield 174, 3) := by decide +kernel
theorem dX11_nowhere_49 : decode cX11_nowhere 49 = .ok (.ishr, 1) := by decide +kernel
theorem dX11_nowhere_50 : decode cX11_nowhere 50 = .ok (.ifCond .eq 9, 3) := by decide +kernel
theorem dX11_nowhere_53 : decode cX11_nowhere 53 = .ok (.iload_n 1, 1) := by decide +kernel
theorem dX11_nowhere_54 : decode cX11_nowhere 54 = .ok (.iconst 1, 1) := by decide +kernel
theorem dX11_nowhere_55 : decode cX11_nowhere 55 = .ok (.iload_n 2, 1) := by decide +kernel
theorem dX11_nowhere_56 : decode cX11_nowhere 56 = .ok (.ishl, 1) := by decide +kernel
theorem dX11_nowhere_57 : decode cX11_nowhere 57 = .ok (.ior, 1) := by decide +kernel
theorem dX11_nowhere_58 : decode cX11_nowhere 58 = .ok (.istore_n 1, 1) := by decide +kernel
theorem dX11_nowhere_59 : decode cX11_nowhere 59 = .ok (.iinc 2 1, 3) := by decide +kernel
theorem dX11_nowhere_62 : decode cX11_nowhere 62 = .ok (.goto (-46), 3) := by decide +kernel
theorem dX11_nowhere_65 : decode cX11_nowhere 65 = .ok (.iload_n 1, 1) := by decide +kernel
theorem dX11_nowhere_66 : decode cX11_nowhere 66 = .ok (.ireturn, 1) := by decide +kernel
theorem dX11_forged_0 : decode cX11_forged 0 = .ok (.aload_n 0, 1) := by decide +kernel
theorem dX11_forged_1 : decode cX11_forged 1 = .ok (.getfield 35, 3) := by decide +kernel
theorem dX11_forged_4 : decode cX11_forged 4 = .ok (.invokevirtual 268, 3) := by decide +kernel
theorem dX11_forged_7 : decode cX11_forged 7 = .ok (.ifCond .eq 5, 3) := by decide +kernel
theorem dX11_forged_10 : decode cX11_forged 10 = .ok (.iconst (-1), 1) := by decide +kernel
theorem dX11_forged_11 : decode cX11_forged 11 = .ok (.ireturn, 1) := by decide +kernel
theorem dX11_forged_12 : decode cX11_forged 12 = .ok (.aload_n 0, 1) := by decide +kernel
theorem dX11_forged_13 : decode cX11_forged 13 = .ok (.getfield 35, 3) := by decide +kernel
theorem dX11_forged_16 : decode cX11_forged 16 = .ok (.getfield 205, 3) := by decide +kernel
theorem dX11_forged_19 : decode cX11_forged 19 = .ok (.getfield 211, 3) := by decide +kernel
theorem dX11_forged_22 : decode cX11_forged 22 = .ok (.astore_n 1, 1) := by decide +kernel
theorem dX11_forged_23 : decode cX11_forged 23 = .ok (.iconst 0, 1) := by decide +kernel
theorem dX11_forged_24 : decode cX11_forged 24 = .ok (.istore_n 2, 1) := by decide +kernel
theorem dX11_forged_25 : decode cX11_forged 25 = .ok (.iconst 0, 1) := by decide +kernel
theorem dX11_forged_26 : decode cX11_forged 26 = .ok (.istore_n 3, 1) := by decide +kernel
theorem dX11_forged_27 : decode cX11_forged 27 = .ok (.iload_n 3, 1) := by decide +kernel
theorem dX11_forged_28 : decode cX11_forged 28 = .ok (.aload_n 0, 1) := by decide +kernel
theorem dX11_forged_29 : decode cX11_forged 29 = .ok (.getfield 35, 3) := by decide +kernel
theorem dX11_forged_32 : decode cX11_forged 32 = .ok (.getfield 174, 3) := by decide +kernel
theorem dX11_forged_35 : decode cX11_forged 35 = .ok (.if_icmp .ge 31, 3) := by decide +kernel
theorem dX11_forged_38 : decode cX11_forged 38 = .ok (.aload_n 1, 1) := by decide +kernel
theorem dX11_forged_39 : decode cX11_forged 39 = .ok (.iload_n 3, 1) := by decide +kernel
theorem dX11_forged_40 : decode cX11_forged 40 = .ok (.iconst 0, 1) := by decide +kernel
theorem dX11_forged_41 : decode cX11_forged 41 = .ok (.invokevirtual 346, 3) := by decide +kernel
theorem dX11_forged_44 : decode cX11_forged 44 = .ok (.aload_n 1, 1) := by decide +kernel
theorem dX11_forged_45 : decode cX11_forged 45 = .ok (.iload_n 3, 1) := by decide +kernel
theorem dX11_forged_46 : decode cX11_forged 46 = .ok (.iconst 1, 1) := by decide +kernel
theorem dX11_forged_47 : decode cX11_forged 47 = .ok (.invokevirtual 346, 3) := by decide +kernel
theorem dX11_forged_50 : decode cX11_forged 50 = .ok (.iand, 1) := by decide +kernel
theorem dX11_forged_51 : decode cX11_forged 51 = .ok (.ifCond .eq 9, 3) := by decide +kernel
theorem dX11_forged_54 : decode cX11_forged 54 = .ok (.iload_n 2, 1) := by decide +kernel
theorem dX11_forged_55 : decode cX11_forged 55 = .ok (.iconst 1, 1) := by decide +kernel
theorem dX11_forged_56 : decode cX11_forged 56 = .ok (.iload_n 3, 1) := by decide +kernel
theorem dX11_forged_57 : decode cX11_forged 57 = .ok (.ishl, 1) := by decide +kernel
theorem dX11_forged_58 : decode cX11_forged 58 = .ok (.ior, 1) := by decide +kernel
theorem dX11_forged_59 : decode cX11_forged 59 = .ok (.istore_n 2, 1) := by decide +kernel
theorem dX11_forged_60 : decode cX11_forged 60 = .ok (.iinc 3 1, 3) := by decide +kernel
theorem dX11_forged_63 : decode cX11_forged 63 = .ok (.goto (-36), 3) := by decide +kernel
theorem dX11_forged_66 : decode cX11_forged 66 = .ok (.iload_n 2, 1) := by decide +kernel
theorem dX11_forged_67 : decode cX11_forged 67 = .ok (.ireturn, 1) := by decide +kernel
theorem dX11_alone_0 : decode cX11_alone 0 = .ok (.aload_n 0, 1) := by decide +kernel
theorem dX11_alone_1 : decode cX11_alone 1 = .ok (.getfield 35, 3) := by decide +kernel
theorem dX11_alone_4 : decode cX11_alone 4 = .ok (.iload_n 1, 1) := by decide +kernel
theorem dX11_alone_5 : decode cX11_alone 5 = .ok (.invokevirtual 180, 3) := by decide +kernel
theorem dX11_alone_8 : decode cX11_alone 8 = .ok (.ifCond .ne 5, 3) := by decide +kernel
theorem dX11_alone_11 : decode cX11_alone 11 = .ok (.iconst (-1), 1) := by decide +kernel
theorem dX11_alone_12 : decode cX11_alone 12 = .ok (.ireturn, 1) := by decide +kernel
theorem dX11_alone_13 : decode cX11_alone 13 = .ok (.iconst (-1), 1) := by decide +kernel
theorem dX11_alone_14 : decode cX11_alone 14 = .ok (.istore_n 2, 1) := by decide +kernel
theorem dX11_alone_15 : decode cX11_alone 15 = .ok (.iconst 0, 1) := by decide +kernel
theorem dX11_alone_16 : decode cX11_alone 16 = .ok (.istore_n 3, 1) := by decide +kernel
theorem dX11_alone_17 : decode cX11_alone 17 = .ok (.iload_n 3, 1) := by decide +kernel
theorem dX11_alone_18 : decode cX11_alone 18 = .ok (.bipush 64, 2) := by decide +kernel
theorem dX11_alone_20 : decode cX11_alone 20 = .ok (.if_icmp .ge 39, 3) := by decide +kernel
theorem dX11_alone_23 : decode cX11_alone 23 = .ok (.iload_n 2, 1) := by decide +kernel
theorem dX11_alone_24 : decode cX11_alone 24 = .ok (.iconst (-1), 1) := by decide +kernel
theorem dX11_alone_25 : decode cX11_alone 25 = .ok (.if_icmp .eq 14, 3) := by decide +kernel
theorem dX11_alone_28 : decode cX11_alone 28 = .ok (.iload_n 3, 1) := by decide +kernel
theorem dX11_alone_29 : decode cX11_alone 29 = .ok (.invokestatic 349, 3) := by decide +kernel
theorem dX11_alone_32 : decode cX11_alone 32 = .ok (.iload_n 2, 1) := by decide +kernel
theorem dX11_alone_33 : decode cX11_alone 33 = .ok (.invokestatic 349, 3) := by decide +kernel
theorem dX11_alone_36 : decode cX11_alone 36 = .ok (.if_icmp .ge 17, 3) := by decide +kernel
theorem dX11_alone_39 : decode cX11_alone 39 = .ok (.aload_n 0, 1) := by decide +kernel
theorem dX11_alone_40 : decode cX11_alone 40 = .ok (.getfield 35, 3) := by decide +kernel
theorem dX11_alone_43 : decode cX11_alone 43 = .ok (.iload_n 1, 1) := by decide +kernel
theorem dX11_alone_44 : decode cX11_alone 44 = .ok (.iload_n 3, 1) := by decide +kernel
theorem dX11_alone_45 : decode cX11_alone 45 = .ok (.invokevirtual 354, 3) := by decide +kernel
theorem dX11_alone_48 : decode cX11_alone 48 = .ok (.ifCond .eq 5, 3) := by decide +kernel
theorem dX11_alone_51 : decode cX11_alone 51 = .ok (.iload_n 3, 1) := by decide +kernel
theorem dX11_alone_52 : decode cX11_alone 52 = .ok (.istore_n 2, 1) := by decide +kernel
theorem dX11_alone_53 : decode cX11_alone 53 = .ok (.iinc 3 1, 3) := by decide +kernel
theorem dX11_alone_56 : decode cX11_alone 56 = .ok (.goto (-39), 3) := by decide +kernel
theorem dX11_alone_59 : decode cX11_alone 59 = .ok (.iload_n 2, 1) := by decide +kernel
theorem dX11_alone_60 : decode cX11_alone 60 = .ok (.ireturn, 1) := by decide +kernel
theorem dX11_suits_0 : decode cX11_suits 0 = .ok (.aload_n 0, 1) := by decide +kernel
theorem dX11_suits_1 : decode cX11_suits 1 = .ok (.getfield 35, 3) := by decide +kernel
theorem dX11_suits_4 : decode cX11_suits 4 = .ok (.iload_n 1, 1) := by decide +kernel
theorem dX11_suits_5 : decode cX11_suits 5 = .ok (.invokevirtual 199, 3) := by decide +kernel
theorem dX11_suits_8 : decode cX11_suits 8 = .ok (.ifCond .eq 14, 3) := by decide +kernel
theorem dX11_suits_11 : decode cX11_suits 11 = .ok (.aload_n 0, 1) := by decide +kernel
theorem dX11_suits_12 : decode cX11_suits 12 = .ok (.getfield 35, 3) := by decide +kernel
theorem dX11_suits_15 : decode cX11_suits 15 = .ok (.iload_n 1, 1) := by decide +kernel
theorem dX11_suits_16 : decode cX11_suits 16 = .ok (.invokevirtual 357, 3) := by decide +kernel
theorem dX11_suits_19 : decode cX11_suits 19 = .ok (.goto 4, 3) := by decide +kernel
theorem dX11_suits_22 : decode cX11_suits 22 = .ok (.iconst (-1), 1) := by decide +kernel
theorem dX11_suits_23 : decode cX11_suits 23 = .ok (.ireturn, 1) := by decide +kernel
theorem dX11_wanted_0 : decode cX11_wanted 0 = .ok (.aload_n 0, 1) := by decide +kernel
theorem dX11_wanted_1 : decode cX11_wanted 1 = .ok (.getfield 35, 3) := by decide +kernel
theorem dX11_wanted_4 : decode cX11_wanted 4 = .ok (.invokevirtual 268, 3) := by decide +kernel
theorem dX11_wanted_7 : decode cX11_wanted 7 = .ok (.ifCond .ne 12, 3) := by decide +kernel
theorem dX11_wanted_10 : decode cX11_wanted 10 = .ok (.iload_n 1, 1) := by decide +kernel
theorem dX11_wanted_11 : decode cX11_wanted 11 = .ok (.ifCond .lt 8, 3) := by decide +kernel
theorem dX11_wanted_14 : decode cX11_wanted 14 = .ok (.iload_n 1, 1) := by decide +kernel
theorem dX11_wanted_15 : decode cX11_wanted 15 = .ok (.iconst 1, 1) := by decide +kernel
theorem dX11_wanted_16 : decode cX11_wanted 16 = .ok (.if_icmp .le 5, 3) := by decide +kernel
theorem dX11_wanted_19 : decode cX11_wanted 19 = .ok (.iconst (-1), 1) := by decide +kernel
theorem dX11_wanted_20 : decode cX11_wanted 20 = .ok (.ireturn, 1) := by decide +kernel
theorem dX11_wanted_21 : decode cX11_wanted 21 = .ok (.iconst 0, 1) := by decide +kernel
theorem dX11_wanted_22 : decode cX11_wanted 22 = .ok (.istore_n 2, 1) := by decide +kernel
theorem dX11_wanted_23 : decode cX11_wanted 23 = .ok (.bipush 9, 2) := by decide +kernel
theorem dX11_wanted_25 : decode cX11_wanted 25 = .ok (.istore_n 3, 1) := by decide +kernel
theorem dX11_wanted_26 : decode cX11_wanted 26 = .ok (.iconst 0, 1) := by decide +kernel
theorem dX11_wanted_27 : decode cX11_wanted 27 = .ok (.istore 4, 2) := by decide +kernel
theorem dX11_wanted_29 : decode cX11_wanted 29 = .ok (.iload 4, 2) := by decide +kernel
theorem dX11_wanted_31 : decode cX11_wanted 31 = .ok (.aload_n 0, 1) := by decide +kernel
theorem dX11_wanted_32 : decode cX11_wanted 32 = .ok (.getfield 35, 3) := by decide +kernel
theorem dX11_wanted_35 : decode cX11_wanted 35 = .ok (.getfield 174, 3) := by decide +kernel
theorem dX11_wanted_38 : decode cX11_wanted 38 = .ok (.if_icmp .ge 35, 3) := by decide +kernel
theorem dX11_wanted_41 : decode cX11_wanted 41 = .ok (.aload_n 0, 1) := by decide +kernel
theorem dX11_wanted_42 : decode cX11_wanted 42 = .ok (.getfield 35, 3) := by decide +kernel
theorem dX11_wanted_45 : decode cX11_wanted 45 = .ok (.iload 4, 2) := by decide +kernel
theorem dX11_wanted_47 : decode cX11_wanted 47 = .ok (.invokevirtual 357, 3) := by decide +kernel
theorem dX11_wanted_50 : decode cX11_wanted 50 = .ok (.invokestatic 349, 3) := by decide +kernel
theorem dX11_wanted_53 : decode cX11_wanted 53 = .ok (.istore 5, 2) := by decide +kernel
theorem dX11_wanted_55 : decode cX11_wanted 55 = .ok (.iload 5, 2) := by decide +kernel
theorem dX11_wanted_57 : decode cX11_wanted 57 = .ok (.iload_n 3, 1) := by decide +kernel
theorem dX11_wanted_58 : decode cX11_wanted 58 = .ok (.if_icmp .ge 9, 3) := by decide +kernel
theorem dX11_wanted_61 : decode cX11_wanted 61 = .ok (.iload 4, 2) := by decide +kernel
theorem dX11_wanted_63 : decode cX11_wanted 63 = .ok (.istore_n 2, 1) := by decide +kernel
theorem dX11_wanted_64 : decode cX11_wanted 64 = .ok (.iload 5, 2) := by decide +kernel
theorem dX11_wanted_66 : decode cX11_wanted 66 = .ok (.istore_n 3, 1) := by decide +kernel
theorem dX11_wanted_67 : decode cX11_wanted 67 = .ok (.iinc 4 1, 3) := by decide +kernel
theorem dX11_wanted_70 : decode cX11_wanted 70 = .ok (.goto (-41), 3) := by decide +kernel
theorem dX11_wanted_73 : decode cX11_wanted 73 = .ok (.iload_n 1, 1) := by decide +kernel
theorem dX11_wanted_74 : decode cX11_wanted 74 = .ok (.ifCond .ne 7, 3) := by decide +kernel
theorem dX11_wanted_77 : decode cX11_wanted 77 = .ok (.iload_n 2, 1) := by decide +kernel
theorem dX11_wanted_78 : decode cX11_wanted 78 = .ok (.goto 4, 3) := by decide +kernel
theorem dX11_wanted_81 : decode cX11_wanted 81 = .ok (.iload_n 3, 1) := by decide +kernel
theorem dX11_wanted_82 : decode cX11_wanted 82 = .ok (.ireturn, 1) := by decide +kernel
theorem dX11_perhaps_0 : decode cX11_perhaps 0 = .ok (.aload_n 0, 1) := by decide +kernel
theorem dX11_perhaps_1 : decode cX11_perhaps 1 = .ok (.getfield 35, 3) := by decide +kernel
theorem dX11_perhaps_4 : decode cX11_perhaps 4 = .ok (.invokevirtual 268, 3) := by decide +kernel
theorem dX11_perhaps_7 : decode cX11_perhaps 7 = .ok (.ifCond .eq 5, 3) := by decide +kernel
theorem dX11_perhaps_10 : decode cX11_perhaps 10 = .ok (.iconst (-1), 1) := by decide +kernel
theorem dX11_perhaps_11 : decode cX11_perhaps 11 = .ok (.ireturn, 1) := by decide +kernel
theorem dX11_perhaps_12 : decode cX11_perhaps 12 = .ok (.aload_n 0, 1) := by decide +kernel
theorem dX11_perhaps_13 : decode cX11_perhaps 13 = .ok (.getfield 35, 3) := by decide +kernel
theorem dX11_perhaps_16 : decode cX11_perhaps 16 = .ok (.getfield 205, 3) := by decide +kernel
theorem dX11_perhaps_19 : decode cX11_perhaps 19 = .ok (.getfield 211, 3) := by decide +kernel
theorem dX11_perhaps_22 : decode cX11_perhaps 22 = .ok (.astore_n 1, 1) := by decide +kernel
theorem dX11_perhaps_23 : decode cX11_perhaps 23 = .ok (.iconst 0, 1) := by decide +kernel
theorem dX11_perhaps_24 : decode cX11_perhaps 24 = .ok (.istore_n 2, 1) := by decide +kernel
theorem dX11_perhaps_25 : decode cX11_perhaps 25 = .ok (.iconst 0, 1) := by decide +kernel
theorem dX11_perhaps_26 : decode cX11_perhaps 26 = .ok (.istore_n 3, 1) := by decide +kernel
theorem dX11_perhaps_27 : decode cX11_perhaps 27 = .ok (.iload_n 3, 1) := by decide +kernel
theorem dX11_perhaps_28 : decode cX11_perhaps 28 = .ok (.aload_n 0, 1) := by decide +kernel
theorem dX11_perhaps_29 : decode cX11_perhaps 29 = .ok (.getfield 35, 3) := by decide +kernel
theorem dX11_perhaps_32 : decode cX11_perhaps 32 = .ok (.getfield 174, 3) := by decide +kernel
theorem dX11_perhaps_35 : decode cX11_perhaps 35 = .ok (.if_icmp .ge 31, 3) := by decide +kernel
theorem dX11_perhaps_38 : decode cX11_perhaps 38 = .ok (.aload_n 1, 1) := by decide +kernel
theorem dX11_perhaps_39 : decode cX11_perhaps 39 = .ok (.iload_n 3, 1) := by decide +kernel
theorem dX11_perhaps_40 : decode cX11_perhaps 40 = .ok (.invokevirtual 265, 3) := by decide +kernel
theorem dX11_perhaps_43 : decode cX11_perhaps 43 = .ok (.iconst 2, 1) := by decide +kernel
theorem dX11_perhaps_44 : decode cX11_perhaps 44 = .ok (.imul, 1) := by decide +kernel
theorem dX11_perhaps_45 : decode cX11_perhaps 45 = .ok (.aload_n 1, 1) := by decide +kernel
theorem dX11_perhaps_46 : decode cX11_perhaps 46 = .ok (.getfield 214, 3) := by decide +kernel
theorem dX11_perhaps_49 : decode cX11_perhaps 49 = .ok (.iload_n 3, 1) := by decide +kernel
theorem dX11_perhaps_50 : decode cX11_perhaps 50 = .ok (.iaload, 1) := by decide +kernel
theorem dX11_perhaps_51 : decode cX11_perhaps 51 = .ok (.if_icmp .gt 9, 3) := by decide +kernel
theorem dX11_perhaps_54 : decode cX11_perhaps 54 = .ok (.iload_n 2, 1) := by decide +kernel
theorem dX11_perhaps_55 : decode cX11_perhaps 55 = .ok (.iconst 1, 1) := by decide +kernel
theorem dX11_perhaps_56 : decode cX11_perhaps 56 = .ok (.iload_n 3, 1) := by decide +kernel
theorem dX11_perhaps_57 : decode cX11_perhaps 57 = .ok (.ishl, 1) := by decide +kernel
theorem dX11_perhaps_58 : decode cX11_perhaps 58 = .ok (.ior, 1) := by decide +kernel
theorem dX11_perhaps_59 : decode cX11_perhaps 59 = .ok (.istore_n 2, 1) := by decide +kernel
theorem dX11_perhaps_60 : decode cX11_perhaps 60 = .ok (.iinc 3 1, 3) := by decide +kernel
theorem dX11_perhaps_63 : decode cX11_perhaps 63 = .ok (.goto (-36), 3) := by decide +kernel
theorem dX11_perhaps_66 : decode cX11_perhaps 66 = .ok (.iload_n 2, 1) := by decide +kernel
theorem dX11_perhaps_67 : decode cX11_perhaps 67 = .ok (.ireturn, 1) := by decide +kernel
theorem dX11_shared_0 : decode cX11_shared 0 = .ok (.aload_n 0, 1) := by decide +kernel
theorem dX11_shared_1 : decode cX11_shared 1 = .ok (.getfield 35, 3) := by decide +kernel
theorem dX11_shared_4 : decode cX11_shared 4 = .ok (.iload_n 1, 1) := by decide +kernel
theorem dX11_shared_5 : decode cX11_shared 5 = .ok (.invokevirtual 180, 3) := by decide +kernel
theorem dX11_shared_8 : decode cX11_shared 8 = .ok (.ifCond .eq 14, 3) := by decide +kernel
theorem dX11_shared_11 : decode cX11_shared 11 = .ok (.aload_n 0, 1) := by decide +kernel
theorem dX11_shared_12 : decode cX11_shared 12 = .ok (.getfield 35, 3) := by decide +kernel
theorem dX11_shared_15 : decode cX11_shared 15 = .ok (.iload_n 2, 1) := by decide +kernel
theorem dX11_shared_16 : decode cX11_shared 16 = .ok (.invokevirtual 180, 3) := by decide +kernel
theorem dX11_shared_19 : decode cX11_shared 19 = .ok (.ifCond .ne 5, 3) := by decide +kernel
theorem dX11_shared_22 : decode cX11_shared 22 = .ok (.iconst (-1), 1) := by decide +kernel
theorem dX11_shared_23 : decode cX11_shared 23 = .ok (.ireturn, 1) := by decide +kernel
theorem dX11_shared_24 : decode cX11_shared 24 = .ok (.aload_n 0, 1) := by decide +kernel
theorem dX11_shared_25 : decode cX11_shared 25 = .ok (.getfield 35, 3) := by decide +kernel
theorem dX11_shared_28 : decode cX11_shared 28 = .ok (.getfield 193, 3) := by decide +kernel
theorem dX11_shared_31 : decode cX11_shared 31 = .ok (.iload_n 1, 1) := by decide +kernel
theorem dX11_shared_32 : decode cX11_shared 32 = .ok (.iaload, 1) := by decide +kernel
theorem dX11_shared_33 : decode cX11_shared 33 = .ok (.aload_n 0, 1) := by decide +kernel
theorem dX11_shared_34 : decode cX11_shared 34 = .ok (.getfield 35, 3) := by decide +kernel
theorem dX11_shared_37 : decode cX11_shared 37 = .ok (.getfield 193, 3) := by decide +kernel
theorem dX11_shared_40 : decode cX11_shared 40 = .ok (.iload_n 2, 1) := by decide +kernel
theorem dX11_shared_41 : decode cX11_shared 41 = .ok (.iaload, 1) := by decide +kernel
theorem dX11_shared_42 : decode cX11_shared 42 = .ok (.iand, 1) := by decide +kernel
theorem dX11_shared_43 : decode cX11_shared 43 = .ok (.ireturn, 1) := by decide +kernel
theorem dX11_twins_0 : decode cX11_twins 0 = .ok (.aload_n 0, 1) := by decide +kernel
theorem dX11_twins_1 : decode cX11_twins 1 = .ok (.getfield 35, 3) := by decide +kernel
theorem dX11_twins_4 : decode cX11_twins 4 = .ok (.invokevirtual 268, 3) := by decide +kernel
theorem dX11_twins_7 : decode cX11_twins 7 = .ok (.ifCond .ne 8, 3) := by decide +kernel
theorem dX11_twins_10 : decode cX11_twins 10 = .ok (.iload_n 1, 1) := by decide +kernel
theorem dX11_twins_11 : decode cX11_twins 11 = .ok (.iconst (-1), 1) := by decide +kernel
theorem dX11_twins_12 : decode cX11_twins 12 = .ok (.if_icmp .ge 5, 3) := by decide +kernel
theorem dX11_twins_15 : decode cX11_twins 15 = .ok (.iconst (-1), 1) := by decide +kernel
theorem dX11_twins_16 : decode cX11_twins 16 = .ok (.ireturn, 1) := by decide +kernel
theorem dX11_twins_17 : decode cX11_twins 17 = .ok (.iconst 0, 1) := by decide +kernel
theorem dX11_twins_18 : decode cX11_twins 18 = .ok (.istore_n 2, 1) := by decide +kernel
theorem dX11_twins_19 : decode cX11_twins 19 = .ok (.iconst 0, 1) := by decide +kernel
theorem dX11_twins_20 : decode cX11_twins 20 = .ok (.istore_n 3, 1) := by decide +kernel
theorem dX11_twins_21 : decode cX11_twins 21 = .ok (.iload_n 3, 1) := by decide +kernel
theorem dX11_twins_22 : decode cX11_twins 22 = .ok (.aload_n 0, 1) := by decide +kernel
theorem dX11_twins_23 : decode cX11_twins 23 = .ok (.getfield 35, 3) := by decide +kernel
theorem dX11_twins_26 : decode cX11_twins 26 = .ok (.getfield 230, 3) := by decide +kernel
theorem dX11_twins_29 : decode cX11_twins 29 = .ok (.if_icmp .ge 70, 3) := by decide +kernel
theorem dX11_twins_32 : decode cX11_twins 32 = .ok (.iload_n 3, 1) := by decide +kernel
theorem dX11_twins_33 : decode cX11_twins 33 = .ok (.iconst 1, 1) := by decide +kernel
theorem dX11_twins_34 : decode cX11_twins 34 = .ok (.iadd, 1) := by decide +kernel
theorem dX11_twins_35 : decode cX11_twins 35 = .ok (.istore 4, 2) := by decide +kernel
theorem dX11_twins_37 : decode cX11_twins 37 = .ok (.iload 4, 2) := by decide +kernel
theorem dX11_twins_39 : decode cX11_twins 39 = .ok (.aload_n 0, 1) := by decide +kernel
theorem dX11_twins_40 : decode cX11_twins 40 = .ok (.getfield 35, 3) := by decide +kernel
theorem dX11_twins_43 : decode cX11_twins 43 = .ok (.getfield 230, 3) := by decide +kernel
theorem dX11_twins_46 : decode cX11_twins 46 = .ok (.if_icmp .ge 47, 3) := by decide +kernel
theorem dX11_twins_49 : decode cX11_twins 49 = .ok (.aload_n 0, 1) := by decide +kernel
theorem dX11_twins_50 : decode cX11_twins 50 = .ok (.getfield 35, 3) := by decide +kernel
theorem dX11_twins_53 : decode cX11_twins 53 = .ok (.getfield 193, 3) := by decide +kernel
theorem dX11_twins_56 : decode cX11_twins 56 = .ok (.iload_n 3, 1) := by decide +kernel
theorem dX11_twins_57 : decode cX11_twins 57 = .ok (.iaload, 1) := by decide +kernel
theorem dX11_twins_58 : decode cX11_twins 58 = .ok (.aload_n 0, 1) := by decide +kernel
theorem dX11_twins_59 : decode cX11_twins 59 = .ok (.getfield 35, 3) := by decide +kernel
theorem dX11_twins_62 : decode cX11_twins 62 = .ok (.getfield 193, 3) := by decide +kernel
theorem dX11_twins_65 : decode cX11_twins 65 = .ok (.iload 4, 2) := by decide +kernel
theorem dX11_twins_67 : decode cX11_twins 67 = .ok (.iaload, 1) := by decide +kernel
theorem dX11_twins_68 : decode cX11_twins 68 = .ok (.if_icmp .ne 19, 3) := by decide +kernel
theorem dX11_twins_71 : decode cX11_twins 71 = .ok (.iload_n 2, 1) := by decide +kernel
theorem dX11_twins_72 : decode cX11_twins 72 = .ok (.iload_n 1, 1) := by decide +kernel
theorem dX11_twins_73 : decode cX11_twins 73 = .ok (.if_icmp .ne 11, 3) := by decide +kernel
theorem dX11_twins_76 : decode cX11_twins 76 = .ok (.iload_n 3, 1) := by decide +kernel
theorem dX11_twins_77 : decode cX11_twins 77 = .ok (.bipush 10, 2) := by decide +kernel
theorem dX11_twins_79 : decode cX11_twins 79 = .ok (.imul, 1) := by decide +kernel
theorem dX11_twins_80 : decode cX11_twins 80 = .ok (.iload 4, 2) := by decide +kernel
theorem dX11_twins_82 : decode cX11_twins 82 = .ok (.iadd, 1) := by decide +kernel
theorem dX11_twins_83 : decode cX11_twins 83 = .ok (.ireturn, 1) := by decide +kernel
theorem dX11_twins_84 : decode cX11_twins 84 = .ok (.iinc 2 1, 3) := by decide +kernel
theorem dX11_twins_87 : decode cX11_twins 87 = .ok (.iinc 4 1, 3) := by decide +kernel
theorem dX11_twins_90 : decode cX11_twins 90 = .ok (.goto (-53), 3) := by decide +kernel
theorem dX11_twins_93 : decode cX11_twins 93 = .ok (.iinc 3 1, 3) := by decide +kernel
theorem dX11_twins_96 : decode cX11_twins 96 = .ok (.goto (-75), 3) := by decide +kernel
theorem dX11_twins_99 : decode cX11_twins 99 = .ok (.iload_n 1, 1) := by decide +kernel
theorem dX11_twins_100 : decode cX11_twins 100 = .ok (.iconst (-1), 1) := by decide +kernel
theorem dX11_twins_101 : decode cX11_twins 101 = .ok (.if_icmp .ne 7, 3) := by decide +kernel
theorem dX11_twins_104 : decode cX11_twins 104 = .ok (.iload_n 2, 1) := by decide +kernel
theorem dX11_twins_105 : decode cX11_twins 105 = .ok (.goto 4, 3) := by decide +kernel
theorem dX11_twins_108 : decode cX11_twins 108 = .ok (.iconst (-1), 1) := by decide +kernel
theorem dX11_twins_109 : decode cX11_twins 109 = .ok (.ireturn, 1) := by decide +kernel
theorem dX11_odds_0 : decode cX11_odds 0 = .ok (.aload_n 0, 1) := by decide +kernel
theorem dX11_odds_1 : decode cX11_odds 1 = .ok (.getfield 35, 3) := by decide +kernel
theorem dX11_odds_4 : decode cX11_odds 4 = .ok (.iload_n 1, 1) := by decide +kernel
theorem dX11_odds_5 : decode cX11_odds 5 = .ok (.invokevirtual 199, 3) := by decide +kernel
theorem dX11_odds_8 : decode cX11_odds 8 = .ok (.ifCond .eq 12, 3) := by decide +kernel
theorem dX11_odds_11 : decode cX11_odds 11 = .ok (.aload_n 0, 1) := by decide +kernel
theorem dX11_odds_12 : decode cX11_odds 12 = .ok (.iload_n 2, 1) := by decide +kernel
theorem dX11_odds_13 : decode cX11_odds 13 = .ok (.iload_n 3, 1) := by decide +kernel
theorem dX11_odds_14 : decode cX11_odds 14 = .ok (.invokevirtual 360, 3) := by decide +kernel
theorem dX11_odds_17 : decode cX11_odds 17 = .ok (.ifCond .ne 5, 3) := by decide +kernel
theorem dX11_odds_20 : decode cX11_odds 20 = .ok (.iconst (-1), 1) := by decide +kernel
theorem dX11_odds_21 : decode cX11_odds 21 = .ok (.ireturn, 1) := by decide +kernel
theorem dX11_odds_22 : decode cX11_odds 22 = .ok (.aload_n 0, 1) := by decide +kernel
theorem dX11_odds_23 : decode cX11_odds 23 = .ok (.iload_n 1, 1) := by decide +kernel
theorem dX11_odds_24 : decode cX11_odds 24 = .ok (.invokevirtual 363, 3) := by decide +kernel
theorem dX11_odds_27 : decode cX11_odds 27 = .ok (.l2i, 1) := by decide +kernel
theorem dX11_odds_28 : decode cX11_odds 28 = .ok (.ireturn, 1) := by decide +kernel
theorem dX11_rescue_0 : decode cX11_rescue 0 = .ok (.aload_n 0, 1) := by decide +kernel
theorem dX11_rescue_1 : decode cX11_rescue 1 = .ok (.getfield 35, 3) := by decide +kernel
theorem dX11_rescue_4 : decode cX11_rescue 4 = .ok (.invokevirtual 268, 3) := by decide +kernel
theorem dX11_rescue_7 : decode cX11_rescue 7 = .ok (.ifCond .ne 12, 3) := by decide +kernel
theorem dX11_rescue_10 : decode cX11_rescue 10 = .ok (.aload_n 0, 1) := by decide +kernel
theorem dX11_rescue_11 : decode cX11_rescue 11 = .ok (.iload_n 1, 1) := by decide +kernel
theorem dX11_rescue_12 : decode cX11_rescue 12 = .ok (.iload_n 2, 1) := by decide +kernel
theorem dX11_rescue_13 : decode cX11_rescue 13 = .ok (.invokevirtual 360, 3) := by decide +kernel
theorem dX11_rescue_16 : decode cX11_rescue 16 = .ok (.ifCond .ne 5, 3) := by decide +kernel
theorem dX11_rescue_19 : decode cX11_rescue 19 = .ok (.iconst (-1), 1) := by decide +kernel
theorem dX11_rescue_20 : decode cX11_rescue 20 = .ok (.ireturn, 1) := by decide +kernel
theorem dX11_rescue_21 : decode cX11_rescue 21 = .ok (.iconst (-1), 1) := by decide +kernel
theorem dX11_rescue_22 : decode cX11_rescue 22 = .ok (.istore_n 3, 1) := by decide +kernel
theorem dX11_rescue_23 : decode cX11_rescue 23 = .ok (.lconst 0, 1) := by decide +kernel
theorem dX11_rescue_24 : decode cX11_rescue 24 = .ok (.lstore 4, 2) := by decide +kernel
theorem dX11_rescue_26 : decode cX11_rescue 26 = .ok (.iconst 0, 1) := by decide +kernel
theorem dX11_rescue_27 : decode cX11_rescue 27 = .ok (.istore 6, 2) := by decide +kernel
theorem dX11_rescue_29 : decode cX11_rescue 29 = .ok (.iload 6, 2) := by decide +kernel
theorem dX11_rescue_31 : decode cX11_rescue 31 = .ok (.aload_n 0, 1) := by decide +kernel
theorem dX11_rescue_32 : decode cX11_rescue 32 = .ok (.getfield 35, 3) := by decide +kernel
theorem dX11_rescue_35 : decode cX11_rescue 35 = .ok (.getfield 174, 3) := by decide +kernel
theorem dX11_rescue_38 : decode cX11_rescue 38 = .ok (.if_icmp .ge 46, 3) := by decide +kernel
theorem dX11_rescue_41 : decode cX11_rescue 41 = .ok (.aload_n 0, 1) := by decide +kernel
theorem dX11_rescue_42 : decode cX11_rescue 42 = .ok (.iload 6, 2) := by decide +kernel
theorem dX11_rescue_44 : decode cX11_rescue 44 = .ok (.invokevirtual 256, 3) := by decide +kernel
theorem dX11_rescue_47 : decode cX11_rescue 47 = .ok (.ifCond .eq 31, 3) := by decide +kernel
theorem dX11_rescue_50 : decode cX11_rescue 50 = .ok (.aload_n 0, 1) := by decide +kernel
theorem dX11_rescue_51 : decode cX11_rescue 51 = .ok (.iload 6, 2) := by decide +kernel
theorem dX11_rescue_53 : decode cX11_rescue 53 = .ok (.invokevirtual 363, 3) := by decide +kernel
theorem dX11_rescue_56 : decode cX11_rescue 56 = .ok (.lstore 7, 2) := by decide +kernel
theorem dX11_rescue_58 : decode cX11_rescue 58 = .ok (.iload_n 3, 1) := by decide +kernel
theorem dX11_rescue_59 : decode cX11_rescue 59 = .ok (.iconst (-1), 1) := by decide +kernel
theorem dX11_rescue_60 : decode cX11_rescue 60 = .ok (.if_icmp .eq 11, 3) := by decide +kernel
theorem dX11_rescue_63 : decode cX11_rescue 63 = .ok (.lload 7, 2) := by decide +kernel
theorem dX11_rescue_65 : decode cX11_rescue 65 = .ok (.lload 4, 2) := by decide +kernel
theorem dX11_rescue_67 : decode cX11_rescue 67 = .ok (.lcmp, 1) := by decide +kernel
theorem dX11_rescue_68 : decode cX11_rescue 68 = .ok (.ifCond .ge 10, 3) := by decide +kernel
theorem dX11_rescue_71 : decode cX11_rescue 71 = .ok (.iload 6, 2) := by decide +kernel
theorem dX11_rescue_73 : decode cX11_rescue 73 = .ok (.istore_n 3, 1) := by decide +kernel
theorem dX11_rescue_74 : decode cX11_rescue 74 = .ok (.lload 7, 2) := by decide +kernel
theorem dX11_rescue_76 : decode cX11_rescue 76 = .ok (.lstore 4, 2) := by decide +kernel
theorem dX11_rescue_78 : decode cX11_rescue 78 = .ok (.iinc 6 1, 3) := by decide +kernel
theorem dX11_rescue_81 : decode cX11_rescue 81 = .ok (.goto (-52), 3) := by decide +kernel
theorem dX11_rescue_84 : decode cX11_rescue 84 = .ok (.iload_n 3, 1) := by decide +kernel
theorem dX11_rescue_85 : decode cX11_rescue 85 = .ok (.ireturn, 1) := by decide +kernel
theorem dX11_spread_0 : decode cX11_spread 0 = .ok (.iload_n 1, 1) := by decide +kernel
theorem dX11_spread_1 : decode cX11_spread 1 = .ok (.ifCond .lt 19, 3) := by decide +kernel
theorem dX11_spread_4 : decode cX11_spread 4 = .ok (.iload_n 1, 1) := by decide +kernel
theorem dX11_spread_5 : decode cX11_spread 5 = .ok (.bipush 30, 2) := by decide +kernel
theorem dX11_spread_7 : decode cX11_spread 7 = .ok (.if_icmp .gt 13, 3) := by decide +kernel
theorem dX11_spread_10 : decode cX11_spread 10 = .ok (.iload_n 2, 1) := by decide +kernel
theorem dX11_spread_11 : decode cX11_spread 11 = .ok (.ifCond .lt 9, 3) := by decide +kernel
theorem dX11_spread_14 : decode cX11_spread 14 = .ok (.iload_n 2, 1) := by decide +kernel
theorem dX11_spread_15 : decode cX11_spread 15 = .ok (.bipush 100, 2) := by decide +kernel
theorem dX11_spread_17 : decode cX11_spread 17 = .ok (.if_icmp .le 5, 3) := by decide +kernel
theorem dX11_spread_20 : decode cX11_spread 20 = .ok (.iconst 0, 1) := by decide +kernel
theorem dX11_spread_21 : decode cX11_spread 21 = .ok (.ireturn, 1) := by decide +kernel
theorem dX11_spread_22 : decode cX11_spread 22 = .ok (.iconst 0, 1) := by decide +kernel
theorem dX11_spread_23 : decode cX11_spread 23 = .ok (.istore_n 3, 1) := by decide +kernel
theorem dX11_spread_24 : decode cX11_spread 24 = .ok (.iload_n 3, 1) := by decide +kernel
theorem dX11_spread_25 : decode cX11_spread 25 = .ok (.aload_n 0, 1) := by decide +kernel
theorem dX11_spread_26 : decode cX11_spread 26 = .ok (.getfield 91, 3) := by decide +kernel
theorem dX11_spread_29 : decode cX11_spread 29 = .ok (.arraylength, 1) := by decide +kernel
theorem dX11_spread_30 : decode cX11_spread 30 = .ok (.if_icmp .ge 16, 3) := by decide +kernel
theorem dX11_spread_33 : decode cX11_spread 33 = .ok (.aload_n 0, 1) := by decide +kernel
theorem dX11_spread_34 : decode cX11_spread 34 = .ok (.getfield 91, 3) := by decide +kernel
theorem dX11_spread_37 : decode cX11_spread 37 = .ok (.iload_n 3, 1) := by decide +kernel
theorem dX11_spread_38 : decode cX11_spread 38 = .ok (.lconst 0, 1) := by decide +kernel
theorem dX11_spread_39 : decode cX11_spread 39 = .ok (.lastore, 1) := by decide +kernel
theorem dX11_spread_40 : decode cX11_spread 40 = .ok (.iinc 3 1, 3) := by decide +kernel
theorem dX11_spread_43 : decode cX11_spread 43 = .ok (.goto (-19), 3) := by decide +kernel
theorem dX11_spread_46 : decode cX11_spread 46 = .ok (.aload_n 0, 1) := by decide +kernel
theorem dX11_spread_47 : decode cX11_spread 47 = .ok (.getfield 91, 3) := by decide +kernel
theorem dX11_spread_50 : decode cX11_spread 50 = .ok (.iconst 0, 1) := by decide +kernel
theorem dX11_spread_51 : decode cX11_spread 51 = .ok (.ldc2_w 367, 3) := by decide +kernel
theorem dX11_spread_54 : decode cX11_spread 54 = .ok (.lastore, 1) := by decide +kernel
theorem dX11_spread_55 : decode cX11_spread 55 = .ok (.iconst 0, 1) := by decide +kernel
theorem dX11_spread_56 : decode cX11_spread 56 = .ok (.istore_n 3, 1) := by decide +kernel
theorem dX11_spread_57 : decode cX11_spread 57 = .ok (.iload_n 3, 1) := by decide +kernel
theorem dX11_spread_58 : decode cX11_spread 58 = .ok (.iload_n 1, 1) := by decide +kernel
theorem dX11_spread_59 : decode cX11_spread 59 = .ok (.if_icmp .ge 65, 3) := by decide +kernel
theorem dX11_spread_62 : decode cX11_spread 62 = .ok (.iload_n 3, 1) := by decide +kernel
theorem dX11_spread_63 : decode cX11_spread 63 = .ok (.istore 4, 2) := by decide +kernel
theorem dX11_spread_65 : decode cX11_spread 65 = .ok (.iload 4, 2) := by decide +kernel
theorem dX11_spread_67 : decode cX11_spread 67 = .ok (.ifCond .lt 51, 3) := by decide +kernel
theorem dX11_spread_70 : decode cX11_spread 70 = .ok (.aload_n 0, 1) := by decide +kernel
theorem dX11_spread_71 : decode cX11_spread 71 = .ok (.getfield 91, 3) := by decide +kernel
theorem dX11_spread_74 : decode cX11_spread 74 = .ok (.iload 4, 2) := by decide +kernel
theorem dX11_spread_76 : decode cX11_spread 76 = .ok (.laload, 1) := by decide +kernel
theorem dX11_spread_77 : decode cX11_spread 77 = .ok (.iload_n 2, 1) := by decide +kernel
theorem dX11_spread_78 : decode cX11_spread 78 = .ok (.i2l, 1) := by decide +kernel
theorem dX11_spread_79 : decode cX11_spread 79 = .ok (.lmul, 1) := by decide +kernel
theorem dX11_spread_80 : decode cX11_spread 80 = .ok (.ldc2_w 369, 3) := by decide +kernel
theorem dX11_spread_83 : decode cX11_spread 83 = .ok (.ldiv, 1) := by decide +kernel
theorem dX11_spread_84 : decode cX11_spread 84 = .ok (.lstore 5, 2) := by decide +kernel
theorem dX11_spread_86 : decode cX11_spread 86 = .ok (.aload_n 0, 1) := by decide +kernel
theorem dX11_spread_87 : decode cX11_spread 87 = .ok (.getfield 91, 3) := by decide +kernel
theorem dX11_spread_90 : decode cX11_spread 90 = .ok (.iload 4, 2) := by decide +kernel
theorem dX11_spread_92 : decode cX11_spread 92 = .ok (.dup2, 1) := by decide +kernel
theorem dX11_spread_93 : decode cX11_spread 93 = .ok (.laload, 1) := by decide +kernel
theorem dX11_spread_94 : decode cX11_spread 94 = .ok (.lload 5, 2) := by decide +kernel
theorem dX11_spread_96 : decode cX11_spread 96 = .ok (.lsub, 1) := by decide +kernel
theorem dX11_spread_97 : decode cX11_spread 97 = .ok (.lastore, 1) := by decide +kernel
theorem dX11_spread_98 : decode cX11_spread 98 = .ok (.aload_n 0, 1) := by decide +kernel
theorem dX11_spread_99 : decode cX11_spread 99 = .ok (.getfield 91, 3) := by decide +kernel
theorem dX11_spread_102 : decode cX11_spread 102 = .ok (.iload 4, 2) := by decide +kernel
theorem dX11_spread_104 : decode cX11_spread 104 = .ok (.iconst 1, 1) := by decide +kernel
theorem dX11_spread_105 : decode cX11_spread 105 = .ok (.iadd, 1) := by decide +kernel
theorem dX11_spread_106 : decode cX11_spread 106 = .ok (.dup2, 1) := by decide +kernel
theorem dX11_spread_107 : decode cX11_spread 107 = .ok (.laload, 1) := by decide +kernel
theorem dX11_spread_108 : decode cX11_spread 108 = .ok (.lload 5, 2) := by decide +kernel
theorem dX11_spread_110 : decode cX11_spread 110 = .ok (.ladd, 1) := by decide +kernel
theorem dX11_spread_111 : decode cX11_spread 111 = .ok (.lastore, 1) := by decide +kernel
theorem dX11_spread_112 : decode cX11_spread 112 = .ok (.iinc 4 (-1), 3) := by decide +kernel
theorem dX11_spread_115 : decode cX11_spread 115 = .ok (.goto (-50), 3) := by decide +kernel
theorem dX11_spread_118 : decode cX11_spread 118 = .ok (.iinc 3 1, 3) := by decide +kernel
theorem dX11_spread_121 : decode cX11_spread 121 = .ok (.goto (-64), 3) := by decide +kernel
theorem dX11_spread_124 : decode cX11_spread 124 = .ok (.iconst 1, 1) := by decide +kernel
theorem dX11_spread_125 : decode cX11_spread 125 = .ok (.ireturn, 1) := by decide +kernel
theorem dX11_partsUnhurt_0 : decode cX11_partsUnhurt 0 = .ok (.aload_n 0, 1) := by decide +kernel
theorem dX11_partsUnhurt_1 : decode cX11_partsUnhurt 1 = .ok (.getfield 35, 3) := by decide +kernel
theorem dX11_partsUnhurt_4 : decode cX11_partsUnhurt 4 = .ok (.getfield 205, 3) := by decide +kernel
theorem dX11_partsUnhurt_7 : decode cX11_partsUnhurt 7 = .ok (.getfield 211, 3) := by decide +kernel
theorem dX11_partsUnhurt_10 : decode cX11_partsUnhurt 10 = .ok (.iload_n 1, 1) := by decide +kernel
theorem dX11_partsUnhurt_11 : decode cX11_partsUnhurt 11 = .ok (.invokevirtual 371, 3) := by decide +kernel
theorem dX11_partsUnhurt_14 : decode cX11_partsUnhurt 14 = .ok (.istore_n 2, 1) := by decide +kernel
theorem dX11_partsUnhurt_15 : decode cX11_partsUnhurt 15 = .ok (.lconst 0, 1) := by decide +kernel
theorem dX11_partsUnhurt_16 : decode cX11_partsUnhurt 16 = .ok (.lstore_n 3, 1) := by decide +kernel
theorem dX11_partsUnhurt_17 : decode cX11_partsUnhurt 17 = .ok (.iconst 0, 1) := by decide +kernel
theorem dX11_partsUnhurt_18 : decode cX11_partsUnhurt 18 = .ok (.istore 5, 2) := by decide +kernel
theorem dX11_partsUnhurt_20 : decode cX11_partsUnhurt 20 = .ok (.iload 5, 2) := by decide +kernel
theorem dX11_partsUnhurt_22 : decode cX11_partsUnhurt 22 = .ok (.aload_n 0, 1) := by decide +kernel
theorem dX11_partsUnhurt_23 : decode cX11_partsUnhurt 23 = .ok (.getfield 91, 3) := by decide +kernel
theorem dX11_partsUnhurt_26 : decode cX11_partsUnhurt 26 = .ok (.arraylength, 1) := by decide +kernel
theorem dX11_partsUnhurt_27 : decode cX11_partsUnhurt 27 = .ok (.if_icmp .ge 29, 3) := by decide +kernel
theorem dX11_partsUnhurt_30 : decode cX11_partsUnhurt 30 = .ok (.iload_n 2, 1) := by decide +kernel
theorem dX11_partsUnhurt_31 : decode cX11_partsUnhurt 31 = .ok (.ifCond .eq 9, 3) := by decide +kernel
theorem dX11_partsUnhurt_34 : decode cX11_partsUnhurt 34 = .ok (.iload 5, 2) := by decide +kernel
theorem dX11_partsUnhurt_36 : decode cX11_partsUnhurt 36 = .ok (.iload_n 2, 1) := by decide +kernel
theorem dX11_partsUnhurt_37 : decode cX11_partsUnhurt 37 = .ok (.if_icmp .ge 19, 3) := by decide +kernel
theorem dX11_partsUnhurt_40 : decode cX11_partsUnhurt 40 = .ok (.lload_n 3, 1) := by decide +kernel
theorem dX11_partsUnhurt_41 : decode cX11_partsUnhurt 41 = .ok (.aload_n 0, 1) := by decide +kernel
theorem dX11_partsUnhurt_42 : decode cX11_partsUnhurt 42 = .ok (.getfield 91, 3) := by decide +kernel
theorem dX11_partsUnhurt_45 : decode cX11_partsUnhurt 45 = .ok (.iload 5, 2) := by decide +kernel
theorem dX11_partsUnhurt_47 : decode cX11_partsUnhurt 47 = .ok (.laload, 1) := by decide +kernel
theorem dX11_partsUnhurt_48 : decode cX11_partsUnhurt 48 = .ok (.ladd, 1) := by decide +kernel
theorem dX11_partsUnhurt_49 : decode cX11_partsUnhurt 49 = .ok (.lstore_n 3, 1) := by decide +kernel
theorem dX11_partsUnhurt_50 : decode cX11_partsUnhurt 50 = .ok (.iinc 5 1, 3) := by decide +kernel
theorem dX11_partsUnhurt_53 : decode cX11_partsUnhurt 53 = .ok (.goto (-33), 3) := by decide +kernel
theorem dX11_partsUnhurt_56 : decode cX11_partsUnhurt 56 = .ok (.lload_n 3, 1) := by decide +kernel
theorem dX11_partsUnhurt_57 : decode cX11_partsUnhurt 57 = .ok (.lreturn, 1) := by decide +kernel
theorem dX12_init_0 : decode cX12_init 0 = .ok (.aload_n 0, 1) := by decide +kernel
theorem dX12_init_1 : decode cX12_init 1 = .ok (.invokespecial 3, 3) := by decide +kernel
theorem dX12_init_4 : decode cX12_init 4 = .ok (.aload_n 0, 1) := by decide +kernel
theorem dX12_init_5 : decode cX12_init 5 = .ok (.sipush 240, 3) := by decide +kernel
theorem dX12_init_8 : decode cX12_init 8 = .ok (.newarray .byte, 2) := by decide +kernel
theorem dX12_init_10 : decode cX12_init 10 = .ok (.putfield 9, 3) := by decide +kernel
theorem dX12_init_13 : decode cX12_init 13 = .ok (.aload_n 0, 1) := by decide +kernel
theorem dX12_init_14 : decode cX12_init 14 = .ok (.sipush 960, 3) := by decide +kernel
theorem dX12_init_17 : decode cX12_init 17 = .ok (.newarray .byte, 2) := by decide +kernel
theorem dX12_init_19 : decode cX12_init 19 = .ok (.putfield 13, 3) := by decide +kernel
theorem dX12_init_22 : decode cX12_init 22 = .ok (.aload_n 0, 1) := by decide +kernel
theorem dX12_init_23 : decode cX12_init 23 = .ok (.iconst 4, 1) := by decide +kernel
theorem dX12_init_24 : decode cX12_init 24 = .ok (.newarray .int, 2) := by decide +kernel
theorem dX12_init_26 : decode cX12_init 26 = .ok (.putfield 16, 3) := by decide +kernel
theorem dX12_init_29 : decode cX12_init 29 = .ok (.aload_n 0, 1) := by decide +kernel
theorem dX12_init_30 : decode cX12_init 30 = .ok (.sipush 128, 3) := by decide +kernel
theorem dX12_init_33 : decode cX12_init 33 = .ok (.newarray .int, 2) := by decide +kernel
theorem dX12_init_35 : decode cX12_init 35 = .ok (.putfield 20, 3) := by decide +kernel
theorem dX12_init_38 : decode cX12_init 38 = .ok (.aload_n 0, 1) := by decide +kernel
theorem dX12_init_39 : decode cX12_init 39 = .ok (.aload_n 0, 1) := by decide +kernel
theorem dX12_init_40 : decode cX12_init 40 = .ok (.getfield 9, 3) := by decide +kernel
theorem dX12_init_43 : decode cX12_init 43 = .ok (.putfield 23, 3) := by decide +kernel
theorem dX12_init_46 : decode cX12_init 46 = .ok (.aload_n 0, 1) := by decide +kernel
theorem dX12_init_47 : decode cX12_init 47 = .ok (.ldc 26, 2) := by decide +kernel
theorem dX12_init_49 : decode cX12_init 49 = .ok (.putfield 28, 3) := by decide +kernel
theorem dX12_init_52 : decode cX12_init 52 = .ok (.aload_n 0, 1) := by decide +kernel
theorem dX12_init_53 : decode cX12_init 53 = .ok (.ldc 32, 2) := by decide +kernel
theorem dX12_init_55 : decode cX12_init 55 = .ok (.putfield 34, 3) := by decide +kernel
theorem dX12_init_58 : decode cX12_init 58 = .ok (.aload_n 0, 1) := by decide +kernel
theorem dX12_init_59 : decode cX12_init 59 = .ok (.iconst 2, 1) := by decide +kernel
theorem dX12_init_60 : decode cX12_init 60 = .ok (.newarray .int, 2) := by decide +kernel
theorem dX12_init_62 : decode cX12_init 62 = .ok (.putfield 37, 3) := by decide +kernel
theorem dX12_init_65 : decode cX12_init 65 = .ok (.aload_n 0, 1) := by decide +kernel
theorem dX12_init_66 : decode cX12_init 66 = .ok (.iconst 2, 1) := by decide +kernel
theorem dX12_init_67 : decode cX12_init 67 = .ok (.newarray .int, 2) := by decide +kernel
theorem dX12_init_69 : decode cX12_init 69 = .ok (.putfield 40, 3) := by decide +kernel
theorem dX12_init_72 : decode cX12_init 72 = .ok (.aload_n 0, 1) := by decide +kernel
theorem dX12_init_73 : decode cX12_init 73 = .ok (.bipush 16, 2) := by decide +kernel
theorem dX12_init_75 : decode cX12_init 75 = .ok (.newarray .int, 2) := by decide +kernel
theorem dX12_init_77 : decode cX12_init 77 = .ok (.putfield 43, 3) := by decide +kernel
theorem dX12_init_80 : decode cX12_init 80 = .ok (.aload_n 0, 1) := by decide +kernel
theorem dX12_init_81 : decode cX12_init 81 = .ok (.bipush 16, 2) := by decide +kernel
theorem dX12_init_83 : decode cX12_init 83 = .ok (.newarray .int, 2) := by decide +kernel
theorem dX12_init_85 : decode cX12_init 85 = .ok (.putfield 46, 3) := by decide +kernel
theorem dX12_init_88 : decode cX12_init 88 = .ok (.aload_n 0, 1) := by decide +kernel
theorem dX12_init_89 : decode cX12_init 89 = .ok (.iconst 3, 1) := by decide +kernel
theorem dX12_init_90 : decode cX12_init 90 = .ok (.newarray .int, 2) := by decide +kernel
theorem dX12_init_92 : decode cX12_init 92 = .ok (.putfield 49, 3) := by decide +kernel
theorem dX12_init_95 : decode cX12_init 95 = .ok (.aload_n 0, 1) := by decide +kernel
theorem dX12_init_96 : decode cX12_init 96 = .ok (.bipush 96, 2) := by decide +kernel
theorem dX12_init_98 : decode cX12_init 98 = .ok (.newarray .int, 2) := by decide +kernel
theorem dX12_init_100 : decode cX12_init 100 = .ok (.putfield 52, 3) := by decide +kernel
theorem dX12_init_103 : decode cX12_init 103 = .ok (.aload_n 0, 1) := by decide +kernel
theorem dX12_init_104 : decode cX12_init 104 = .ok (.bipush 96, 2) := by decide +kernel
theorem dX12_init_106 : decode cX12_init 106 = .ok (.newarray .int, 2) := by decide +kernel
theorem dX12_init_108 : decode cX12_init 108 = .ok (.putfield 55, 3) := by decide +kernel
theorem dX12_init_111 : decode cX12_init 111 = .ok (.aload_n 0, 1) := by decide +kernel
theorem dX12_init_112 : decode cX12_init 112 = .ok (.bipush 65, 2) := by decide +kernel
theorem dX12_init_114 : decode cX12_init 114 = .ok (.newarray .int, 2) := by decide +kernel
theorem dX12_init_116 : decode cX12_init 116 = .ok (.putfield 58, 3) := by decide +kernel
theorem dX12_init_119 : decode cX12_init 119 = .ok (.aload_n 0, 1) := by decide +kernel
theorem dX12_init_120 : decode cX12_init 120 = .ok (.sipush 304, 3) := by decide +kernel
theorem dX12_init_123 : decode cX12_init 123 = .ok (.newarray .int, 2) := by decide +kernel
theorem dX12_init_125 : decode cX12_init 125 = .ok (.putfield 61, 3) := by decide +kernel
theorem dX12_init_128 : decode cX12_init 128 = .ok (.aload_n 0, 1) := by decide +kernel
theorem dX12_init_129 : decode cX12_init 129 = .ok (.sipush 304, 3) := by decide +kernel
theorem dX12_init_132 : decode cX12_init 132 = .ok (.newarray .int, 2) := by decide +kernel
theorem dX12_init_134 : decode cX12_init 134 = .ok (.putfield 64, 3) := by decide +kernel
theorem dX12_init_137 : decode cX12_init 137 = .ok (.aload_n 0, 1) := by decide +kernel
theorem dX12_init_138 : decode cX12_init 138 = .ok (.iconst (-1), 1) := by decide +kernel
theorem dX12_init_139 : decode cX12_init 139 = .ok (.putfield 67, 3) := by decide +kernel
theorem dX12_init_142 : decode cX12_init 142 = .ok (.aload_n 0, 1) := by decide +kernel
theorem dX12_init_143 : decode cX12_init 143 = .ok (.sipush 12160, 3) := by decide +kernel
theorem dX12_init_146 : decode cX12_init 146 = .ok (.newarray .int, 2) := by decide +kernel
theorem dX12_init_148 : decode cX12_init 148 = .ok (.putfield 71, 3) := by decide +kernel
theorem dX12_init_151 : decode cX12_init 151 = .ok (.aload_n 0, 1) := by decide +kernel
theorem dX12_init_152 : decode cX12_init 152 = .ok (.bipush 10, 2) := by decide +kernel
theorem dX12_init_154 : decode cX12_init 154 = .ok (.newarray .int, 2) := by decide +kernel
theorem dX12_init_156 : decode cX12_init 156 = .ok (.putfield 74, 3) := by decide +kernel
theorem dX12_init_159 : decode cX12_init 159 = .ok (.aload_n 0, 1) := by decide +kernel
theorem dX12_init_160 : decode cX12_init 160 = .ok (.bipush 10, 2) := by decide +kernel
theorem dX12_init_162 : decode cX12_init 162 = .ok (.newarray .int, 2) := by decide +kernel
theorem dX12_init_164 : decode cX12_init 164 = .ok (.putfield 77, 3) := by decide +kernel
theorem dX12_init_167 : decode cX12_init 167 = .ok (.aload_n 0, 1) := by decide +kernel
theorem dX12_init_168 : decode cX12_init 168 = .ok (.bipush 10, 2) := by decide +kernel
theorem dX12_init_170 : decode cX12_init 170 = .ok (.newarray .boolean, 2) := by decide +kernel
theorem dX12_init_172 : decode cX12_init 172 = .ok (.putfield 80, 3) := by decide +kernel
theorem dX12_init_175 : decode cX12_init 175 = .ok (.aload_n 0, 1) := by decide +kernel
theorem dX12_init_176 : decode cX12_init 176 = .ok (.bipush 32, 2) := by decide +kernel
theorem dX12_init_178 : decode cX12_init 178 = .ok (.newarray .long, 2) := by decide +kernel
theorem dX12_init_180 : decode cX12_init 180 = .ok (.putfield 84, 3) := by decide +kernel
theorem dX12_init_183 : decode cX12_init 183 = .ok (.aload_n 0, 1) := by decide +kernel
theorem dX12_init_184 : decode cX12_init 184 = .ok (.sipush 304, 3) := by decide +kernel
theorem dX12_init_187 : decode cX12_init 187 = .ok (.newarray .int, 2) := by decide +kernel
theorem dX12_init_189 : decode cX12_init 189 = .ok (.putfield 88, 3) := by decide +kernel
theorem dX12_init_192 : decode cX12_init 192 = .ok (.return_, 1) := by decide +kernel
theorem dX12_thrown_0 : decode cX12_thrown 0 = .ok (.aload_n 0, 1) := by decide +kernel
theorem dX12_thrown_1 : decode cX12_thrown 1 = .ok (.getfield 91, 3) := by decide +kernel
theorem dX12_thrown_4 : decode cX12_thrown 4 = .ok (.ireturn, 1) := by decide +kernel
theorem dX12_isIn_0 : decode cX12_isIn 0 = .ok (.lload_n 0, 1) := by decide +kernel
theorem dX12_isIn_1 : decode cX12_isIn 1 = .ok (.lload_n 2, 1) := by decide +kernel
theorem dX12_isIn_2 : decode cX12_isIn 2 = .ok (.lcmp, 1) := by decide +kernel
theorem dX12_isIn_3 : decode cX12_isIn 3 = .ok (.ifCond .lt 14, 3) := by decide +kernel
theorem dX12_isIn_6 : decode cX12_isIn 6 = .ok (.lload_n 0, 1) := by decide +kernel
theorem dX12_isIn_7 : decode cX12_isIn 7 = .ok (.lload 4, 2) := by decide +kernel
theorem dX12_isIn_9 : decode cX12_isIn 9 = .ok (.lcmp, 1) := by decide +kernel
theorem dX12_isIn_10 : decode cX12_isIn 10 = .ok (.ifCond .gt 7, 3) := by decide +kernel
theorem dX12_isIn_13 : decode cX12_isIn 13 = .ok (.iconst 1, 1) := by decide +kernel
theorem dX12_isIn_14 : decode cX12_isIn 14 = .ok (.goto 4, 3) := by decide +kernel
theorem dX12_isIn_17 : decode cX12_isIn 17 = .ok (.iconst 0, 1) := by decide +kernel
theorem dX12_isIn_18 : decode cX12_isIn 18 = .ok (.ireturn, 1) := by decide +kernel
theorem dX12_has_0 : decode cX12_has 0 = .ok (.iload_n 0, 1) := by decide +kernel
theorem dX12_has_1 : decode cX12_has 1 = .ok (.iload_n 1, 1) := by decide +kernel
theorem dX12_has_2 : decode cX12_has 2 = .ok (.ishr, 1) := by decide +kernel
theorem dX12_has_3 : decode cX12_has 3 = .ok (.iconst 1, 1) := by decide +kernel
theorem dX12_has_4 : decode cX12_has 4 = .ok (.iand, 1) := by decide +kernel
theorem dX12_has_5 : decode cX12_has 5 = .ok (.iconst 1, 1) := by decide +kernel
theorem dX12_has_6 : decode cX12_has 6 = .ok (.if_icmp .ne 7, 3) := by decide +kernel
theorem dX12_has_9 : decode cX12_has 9 = .ok (.iconst 1, 1) := by decide +kernel
theorem dX12_has_10 : decode cX12_has 10 = .ok (.goto 4, 3) := by decide +kernel
theorem dX12_has_13 : decode cX12_has 13 = .ok (.iconst 0, 1) := by decide +kernel
theorem dX12_has_14 : decode cX12_has 14 = .ok (.ireturn, 1) := by decide +kernel
theorem dX12_isAmong_0 : decode cX12_isAmong 0 = .ok (.iconst 0, 1) := by decide +kernel
theorem dX12_isAmong_1 : decode cX12_isAmong 1 = .ok (.istore_n 2, 1) := by decide +kernel
theorem dX12_isAmong_2 : decode cX12_isAmong 2 = .ok (.iload_n 2, 1) := by decide +kernel
theorem dX12_isAmong_3 : decode cX12_isAmong 3 = .ok (.aload_n 0, 1) := by decide +kernel
theorem dX12_isAmong_4 : decode cX12_isAmong 4 = .ok (.invokevirtual 94, 3) := by decide +kernel
theorem dX12_isAmong_7 : decode cX12_isAmong 7 = .ok (.if_icmp .ge 20, 3) := by decide +kernel
theorem dX12_isAmong_10 : decode cX12_isAmong 10 = .ok (.aload_n 0, 1) := by decide +kernel
theorem dX12_isAmong_11 : decode cX12_isAmong 11 = .ok (.iload_n 2, 1) := by decide +kernel
theorem dX12_isAmong_12 : decode cX12_isAmong 12 = .ok (.invokevirtual 100, 3) := by decide +kernel
theorem dX12_isAmong_15 : decode cX12_isAmong 15 = .ok (.iload_n 1, 1) := by decide +kernel
theorem dX12_isAmong_16 : decode cX12_isAmong 16 = .ok (.if_icmp .ne 5, 3) := by decide +kernel
theorem dX12_isAmong_19 : decode cX12_isAmong 19 = .ok (.iconst 1, 1) := by decide +kernel
theorem dX12_isAmong_20 : decode cX12_isAmong 20 = .ok (.ireturn, 1) := by decide +kernel
theorem dX12_isAmong_21 : decode cX12_isAmong 21 = .ok (.iinc 2 1, 3) := by decide +kernel
theorem dX12_isAmong_24 : decode cX12_isAmong 24 = .ok (.goto (-22), 3) := by decide +kernel
theorem dX12_isAmong_27 : decode cX12_isAmong 27 = .ok (.iconst 0, 1) := by decide +kernel
theorem dX12_isAmong_28 : decode cX12_isAmong 28 = .ok (.ireturn, 1) := by decide +kernel
theorem dX12_bytesIn_0 : decode cX12_bytesIn 0 = .ok (.iconst 0, 1) := by decide +kernel
theorem dX12_bytesIn_1 : decode cX12_bytesIn 1 = .ok (.istore_n 1, 1) := by decide +kernel
theorem dX12_bytesIn_2 : decode cX12_bytesIn 2 = .ok (.bipush 24, 2) := by decide +kernel
theorem dX12_bytesIn_4 : decode cX12_bytesIn 4 = .ok (.istore_n 2, 1) := by decide +kernel
theorem dX12_bytesIn_5 : decode cX12_bytesIn 5 = .ok (.iload_n 2, 1) := by decide +kernel
theorem dX12_bytesIn_6 : decode cX12_bytesIn 6 = .ok (.ifCond .lt 27, 3) := by decide +kernel
theorem dX12_bytesIn_9 : decode cX12_bytesIn 9 = .ok (.iload_n 1, 1) := by decide +kernel
theorem dX12_bytesIn_10 : decode cX12_bytesIn 10 = .ok (.iload_n 0, 1) := by decide +kernel
theorem dX12_bytesIn_11 : decode cX12_bytesIn 11 = .ok (.iload_n 2, 1) := by decide +kernel
theorem dX12_bytesIn_12 : decode cX12_bytesIn 12 = .ok (.ishr, 1) := by decide +kernel
theorem dX12_bytesIn_13 : decode cX12_bytesIn 13 = .ok (.sipush 255, 3) := by decide +kernel
theorem dX12_bytesIn_16 : decode cX12_bytesIn 16 = .ok (.iand, 1) := by decide +kernel
theorem dX12_bytesIn_17 : decode cX12_bytesIn 17 = .ok (.ifCond .eq 7, 3) := by decide +kernel
theorem dX12_bytesIn_20 : decode cX12_bytesIn 20 = .ok (.iconst 1, 1) := by decide +kernel
theorem dX12_bytesIn_21 : decode cX12_bytesIn 21 = .ok (.goto 4, 3) := by decide +kernel
theorem dX12_bytesIn_24 : decode cX12_bytesIn 24 = .ok (.iconst 0, 1) := by decide +kernel
theorem dX12_bytesIn_25 : decode cX12_bytesIn 25 = .ok (.iadd, 1) := by decide +kernel
theorem dX12_bytesIn_26 : decode cX12_bytesIn 26 = .ok (.istore_n 1, 1) := by decide +kernel
theorem dX12_bytesIn_27 : decode cX12_bytesIn 27 = .ok (.iinc 2 (-8), 3) := by decide +kernel
theorem dX12_bytesIn_30 : decode cX12_bytesIn 30 = .ok (.goto (-25), 3) := by decide +kernel
theorem dX12_bytesIn_33 : decode cX12_bytesIn 33 = .ok (.iload_n 1, 1) := by decide +kernel
theorem dX12_bytesIn_34 : decode cX12_bytesIn 34 = .ok (.ireturn, 1) := by decide +kernel
theorem dX12_put_0 : decode cX12_put 0 = .ok (.bipush 24, 2) := by decide +kernel
theorem dX12_put_2 : decode cX12_put 2 = .ok (.istore_n 2, 1) := by decide +kernel
theorem dX12_put_3 : decode cX12_put 3 = .ok (.iload_n 2, 1) := by decide +kernel
theorem dX12_put_4 : decode cX12_put 4 = .ok (.ifCond .lt 45, 3) := by decide +kernel
theorem dX12_put_7 : decode cX12_put 7 = .ok (.iload_n 1, 1) := by decide +kernel
theorem dX12_put_8 : decode cX12_put 8 = .ok (.iload_n 2, 1) := by decide +kernel
theorem dX12_put_9 : decode cX12_put 9 = .ok (.ishr, 1) := by decide +kernel
theorem dX12_put_10 : decode cX12_put 10 = .ok (.sipush 255, 3) := by decide +kernel
theorem dX12_put_13 : decode cX12_put 13 = .ok (.iand, 1) := by decide +kernel
theorem dX12_put_14 : decode cX12_put 14 = .ok (.ifCond .ne 6, 3) := by decide +kernel
theorem dX12_put_17 : decode cX12_put 17 = .ok (.goto 26, 3) := by decide +kernel
theorem dX12_put_20 : decode cX12_put 20 = .ok (.aload_n 0, 1) := by decide +kernel
theorem dX12_put_21 : decode cX12_put 21 = .ok (.getfield 9, 3) := by decide +kernel
theorem dX12_put_24 : decode cX12_put 24 = .ok (.aload_n 0, 1) := by decide +kernel
theorem dX12_put_25 : decode cX12_put 25 = .ok (.getfield 104, 3) := by decide +kernel
theorem dX12_put_28 : decode cX12_put 28 = .ok (.iload_n 1, 1) := by decide +kernel
theorem dX12_put_29 : decode cX12_put 29 = .ok (.iload_n 2, 1) := by decide +kernel
theorem dX12_put_30 : decode cX12_put 30 = .ok (.ishr, 1) := by decide +kernel
theorem dX12_put_31 : decode cX12_put 31 = .ok (.i2b, 1) := by decide +kernel
theorem dX12_put_32 : decode cX12_put 32 = .ok (.bastore, 1) := by decide +kernel
theorem dX12_put_33 : decode cX12_put 33 = .ok (.aload_n 0, 1) := by decide +kernel
theorem dX12_put_34 : decode cX12_put 34 = .ok (.dup, 1) := by decide +kernel
theorem dX12_put_35 : decode cX12_put 35 = .ok (.getfield 104, 3) := by decide +kernel
theorem dX12_put_38 : decode cX12_put 38 = .ok (.iconst 1, 1) := by decide +kernel
theorem dX12_put_39 : decode cX12_put 39 = .ok (.iadd, 1) := by decide +kernel
theorem dX12_put_40 : decode cX12_put 40 = .ok (.putfield 104, 3) := by decide +kernel
theorem dX12_put_43 : decode cX12_put 43 = .ok (.iinc 2 (-8), 3) := by decide +kernel
theorem dX12_put_46 : decode cX12_put 46 = .ok (.goto (-43), 3) := by decide +kernel
theorem dX12_put_49 : decode cX12_put 49 = .ok (.return_, 1) := by decide +kernel
theorem dX12_feed_0 : decode cX12_feed 0 = .ok (.aload_n 0, 1) := by decide +kernel
theorem dX12_feed_1 : decode cX12_feed 1 = .ok (.iconst 0, 1) := by decide +kernel
theorem dX12_feed_2 : decode cX12_feed 2 = .ok (.putfield 91, 3) := by decide +kernel
theorem dX12_feed_5 : decode cX12_feed 5 = .ok (.aload_n 0, 1) := by decide +kernel
theorem dX12_feed_6 : decode cX12_feed 6 = .ok (.getfield 104, 3) := by decide +kernel
theorem dX12_feed_9 : decode cX12_feed 9 = .ok (.iload_n 1, 1) := by decide +kernel
theorem dX12_feed_10 : decode cX12_feed 10 = .ok (.invokestatic 106, 3) := by decide +kernel
theorem dX12_feed_13 : decode cX12_feed 13 = .ok (.iadd, 1) := by decide +kernel
theorem dX12_feed_14 : decode cX12_feed 14 = .ok (.iload_n 2, 1) := by decide +kernel
theorem dX12_feed_15 : decode cX12_feed 15 = .ok (.invokestatic 106, 3) := by decide +kernel
theorem dX12_feed_18 : decode cX12_feed 18 = .ok (.iadd, 1) := by decide +kernel
theorem dX12_feed_19 : decode cX12_feed 19 = .ok (.iload_n 3, 1) := by decide +kernel
theorem dX12_feed_20 : decode cX12_feed 20 = .ok (.invokestatic 106, 3) := by decide +kernel
theorem dX12_feed_23 : decode cX12_feed 23 = .ok (.iadd, 1) := by decide +kernel
theorem dX12_feed_24 : decode cX12_feed 24 = .ok (.iload 4, 2) := by decide +kernel
theorem dX12_feed_26 : decode cX12_feed 26 = .ok (.invokestatic 106, 3) := by decide +kernel
theorem dX12_feed_29 : decode cX12_feed 29 = .ok (.iadd, 1) := by decide +kernel
theorem dX12_feed_30 : decode cX12_feed 30 = .ok (.iload 5, 2) := by decide +kernel
theorem dX12_feed_32 : decode cX12_feed 32 = .ok (.invokestatic 106, 3) := by decide +kernel
theorem dX12_feed_35 : decode cX12_feed 35 = .ok (.iadd, 1) := by decide +kernel
theorem dX12_feed_36 : decode cX12_feed 36 = .ok (.sipush 240, 3) := by decide +kernel
theorem dX12_feed_39 : decode cX12_feed 39 = .ok (.if_icmp .le 5, 3) := by decide +kernel
theorem dX12_feed_42 : decode cX12_feed 42 = .ok (.iconst (-1), 1) := by decide +kernel
theorem dX12_feed_43 : decode cX12_feed 43 = .ok (.ireturn, 1) := by decide +kernel
theorem dX12_feed_44 : decode cX12_feed 44 = .ok (.aload_n 0, 1) := by decide +kernel
theorem dX12_feed_45 : decode cX12_feed 45 = .ok (.iload_n 1, 1) := by decide +kernel
theorem dX12_feed_46 : decode cX12_feed 46 = .ok (.invokevirtual 110, 3) := by decide +kernel
theorem dX12_feed_49 : decode cX12_feed 49 = .ok (.aload_n 0, 1) := by decide +kernel
theorem dX12_feed_50 : decode cX12_feed 50 = .ok (.iload_n 2, 1) := by decide +kernel
theorem dX12_feed_51 : decode cX12_feed 51 = .ok (.invokevirtual 110, 3) := by decide +kernel
theorem dX12_feed_54 : decode cX12_feed 54 = .ok (.aload_n 0, 1) := by decide +kernel
theorem dX12_feed_55 : decode cX12_feed 55 = .ok (.iload_n 3, 1) := by decide +kernel
theorem dX12_feed_56 : decode cX12_feed 56 = .ok (.invokevirtual 110, 3) := by decide +kernel
theorem dX12_feed_59 : decode cX12_feed 59 = .ok (.aload_n 0, 1) := by decide +kernel
theorem dX12_feed_60 : decode cX12_feed 60 = .ok (.iload 4, 2) := by decide +kernel
theorem dX12_feed_62 : decode cX12_feed 62 = .ok (.invokevirtual 110, 3) := by decide +kernel
theorem dX12_feed_65 : decode cX12_feed 65 = .ok (.aload_n 0, 1) := by decide +kernel
theorem dX12_feed_66 : decode cX12_feed 66 = .ok (.iload 5, 2) := by decide +kernel
theorem dX12_feed_68 : decode cX12_feed 68 = .ok (.invokevirtual 110, 3) := by decide +kernel
theorem dX12_feed_71 : decode cX12_feed 71 = .ok (.aload_n 0, 1) := by decide +kernel
theorem dX12_feed_72 : decode cX12_feed 72 = .ok (.getfield 104, 3) := by decide +kernel
theorem dX12_feed_75 : decode cX12_feed 75 = .ok (.ireturn, 1) := by decide +kernel
theorem dX12_end_0 : decode cX12_end 0 = .ok (.aload_n 0, 1) := by decide +kernel
theorem dX12_end_1 : decode cX12_end 1 = .ok (.iconst 0, 1) := by decide +kernel
theorem dX12_end_2 : decode cX12_end 2 = .ok (.putfield 91, 3) := by decide +kernel
theorem dX12_end_5 : decode cX12_end 5 = .ok (.iload_n 1, 1) := by decide +kernel
theorem dX12_end_6 : decode cX12_end 6 = .ok (.ifCond .lt 11, 3) := by decide +kernel
theorem dX12_end_9 : decode cX12_end 9 = .ok (.iload_n 1, 1) := by decide +kernel
theorem dX12_end_10 : decode cX12_end 10 = .ok (.aload_n 0, 1) := by decide +kernel
theorem dX12_end_11 : decode cX12_end 11 = .ok (.getfield 104, 3) := by decide +kernel
theorem dX12_end_14 : decode cX12_end 14 = .ok (.if_icmp .le 5, 3) := by decide +kernel
theorem dX12_end_17 : decode cX12_end 17 = .ok (.iconst 0, 1) := by decide +kernel
theorem dX12_end_18 : decode cX12_end 18 = .ok (.ireturn, 1) := by decide +kernel
theorem dX12_end_19 : decode cX12_end 19 = .ok (.aload_n 0, 1) := by decide +kernel
theorem dX12_end_20 : decode cX12_end 20 = .ok (.iload_n 1, 1) := by decide +kernel
theorem dX12_end_21 : decode cX12_end 21 = .ok (.putfield 104, 3) := by decide +kernel
theorem dX12_end_24 : decode cX12_end 24 = .ok (.iconst 1, 1) := by decide +kernel
theorem dX12_end_25 : decode cX12_end 25 = .ok (.ireturn, 1) := by decide +kernel
theorem dX12_look_0 : decode cX12_look 0 = .ok (.aload_n 0, 1) := by decide +kernel
theorem dX12_look_1 : decode cX12_look 1 = .ok (.getfield 114, 3) := by decide +kernel
theorem dX12_look_4 : decode cX12_look 4 = .ok (.aload_n 0, 1) := by decide +kernel
theorem dX12_look_5 : decode cX12_look 5 = .ok (.getfield 117, 3) := by decide +kernel
theorem dX12_look_8 : decode cX12_look 8 = .ok (.if_icmp .ge 35, 3) := by decide +kernel
theorem dX12_look_11 : decode cX12_look 11 = .ok (.aload_n 0, 1) := by decide +kernel
theorem dX12_look_12 : decode cX12_look 12 = .ok (.getfield 23, 3) := by decide +kernel
theorem dX12_look_15 : decode cX12_look 15 = .ok (.aload_n 0, 1) := by decide +kernel
theorem dX12_look_16 : decode cX12_look 16 = .ok (.getfield 120, 3) := by decide +kernel
theorem dX12_look_19 : decode cX12_look 19 = .ok (.aload_n 0, 1) := by decide +kernel
theorem dX12_look_20 : decode cX12_look 20 = .ok (.getfield 114, 3) := by decide +kernel
theorem dX12_look_23 : decode cX12_look 23 = .ok (.iadd, 1) := by decide +kernel
theorem dX12_look_24 : decode cX12_look 24 = .ok (.baload, 1) := by decide +kernel
theorem dX12_look_25 : decode cX12_look 25 = .ok (.bipush 32, 2) := by decide +kernel
theorem dX12_look_27 : decode cX12_look 27 = .ok (.if_icmp .ne 16, 3) := by decide +kernel
theorem dX12_look_30 : decode cX12_look 30 = .ok (.aload_n 0, 1) := by decide +kernel
theorem dX12_look_31 : decode cX12_look 31 = .ok (.dup, 1) := by decide +kernel
theorem dX12_look_32 : decode cX12_look 32 = .ok (.getfield 114, 3) := by decide +kernel
theorem dX12_look_35 : decode cX12_look 35 = .ok (.iconst 1, 1) := by decide +kernel
theorem dX12_look_36 : decode cX12_look 36 = .ok (.iadd, 1) := by decide +kernel
theorem dX12_look_37 : decode cX12_look 37 = .ok (.putfield 114, 3) := by decide +kernel
theorem dX12_look_40 : decode cX12_look 40 = .ok (.goto (-40), 3) := by decide +kernel
theorem dX12_look_43 : decode cX12_look 43 = .ok (.aload_n 0, 1) := by decide +kernel
theorem dX12_look_44 : decode cX12_look 44 = .ok (.getfield 114, 3) := by decide +kernel
theorem dX12_look_47 : decode cX12_look 47 = .ok (.aload_n 0, 1) := by decide +kernel
theorem dX12_look_48 : decode cX12_look 48 = .ok (.getfield 117, 3) := by decide +kernel
theorem dX12_look_51 : decode cX12_look 51 = .ok (.if_icmp .ge 24, 3) := by decide +kernel
theorem dX12_look_54 : decode cX12_look 54 = .ok (.aload_n 0, 1) := by decide +kernel
theorem dX12_look_55 : decode cX12_look 55 = .ok (.getfield 23, 3) := by decide +kernel
theorem dX12_look_58 : decode cX12_look 58 = .ok (.aload_n 0, 1) := by decide +kernel
theorem dX12_look_59 : decode cX12_look 59 = .ok (.getfield 120, 3) := by decide +kernel
theorem dX12_look_62 : decode cX12_look 62 = .ok (.aload_n 0, 1) := by decide +kernel
theorem dX12_look_63 : decode cX12_look 63 = .ok (.getfield 114, 3) := by decide +kernel
theorem dX12_look_66 : decode cX12_look 66 = .ok (.iadd, 1) := by decide +kernel
theorem dX12_look_67 : decode cX12_look 67 = .ok (.baload, 1) := by decide +kernel
theorem dX12_look_68 : decode cX12_look 68 = .ok (.sipush 255, 3) := by decide +kernel
theorem dX12_look_71 : decode cX12_look 71 = .ok (.iand, 1) := by decide +kernel
theorem dX12_look_72 : decode cX12_look 72 = .ok (.goto 4, 3) := by decide +kernel
theorem dX12_look_75 : decode cX12_look 75 = .ok (.iconst (-1), 1) := by decide +kernel
theorem dX12_look_76 : decode cX12_look 76 = .ok (.ireturn, 1) := by decide +kernel
theorem dX12_fails_0 : decode cX12_fails 0 = .ok (.aload_n 0, 1) := by decide +kernel
theorem dX12_fails_1 : decode cX12_fails 1 = .ok (.getfield 123, 3) := by decide +kernel
theorem dX12_fails_4 : decode cX12_fails 4 = .ok (.iconst (-1), 1) := by decide +kernel
theorem dX12_fails_5 : decode cX12_fails 5 = .ok (.if_icmp .ne 11, 3) := by decide +kernel
theorem dX12_fails_8 : decode cX12_fails 8 = .ok (.aload_n 0, 1) := by decide +kernel
theorem dX12_fails_9 : decode cX12_fails 9 = .ok (.aload_n 0, 1) := by decide +kernel
theorem dX12_fails_10 : decode cX12_fails 10 = .ok (.getfield 114, 3) := by decide +kernel
theorem dX12_fails_13 : decode cX12_fails 13 = .ok (.putfield 123, 3) := by decide +kernel
theorem dX12_fails_16 : decode cX12_fails 16 = .ok (.iconst 0, 1) := by decide +kernel
theorem dX12_fails_17 : decode cX12_fails 17 = .ok (.ireturn, 1) := by decide +kernel
theorem dX12_goesIn_0 : decode cX12_goesIn 0 = .ok (.aload_n 0, 1) := by decide +kernel
theorem dX12_goesIn_1 : decode cX12_goesIn 1 = .ok (.getfield 126, 3) := by decide +kernel
theorem dX12_goesIn_4 : decode cX12_goesIn 4 = .ok (.bipush 6, 2) := by decide +kernel
theorem dX12_goesIn_6 : decode cX12_goesIn 6 = .ok (.if_icmp .ne 8, 3) := by decide +kernel
theorem dX12_goesIn_9 : decode cX12_goesIn 9 = .ok (.aload_n 0, 1) := by decide +kernel
theorem dX12_goesIn_10 : decode cX12_goesIn 10 = .ok (.invokevirtual 129, 3) := by decide +kernel
theorem dX12_goesIn_13 : decode cX12_goesIn 13 = .ok (.ireturn, 1) := by decide +kernel
theorem dX12_goesIn_14 : decode cX12_goesIn 14 = .ok (.aload_n 0, 1) := by decide +kernel
theorem dX12_goesIn_15 : decode cX12_goesIn 15 = .ok (.dup, 1) := by decide +kernel
theorem dX12_goesIn_16 : decode cX12_goesIn 16 = .ok (.getfield 126, 3) := by decide +kernel
theorem dX12_goesIn_19 : decode cX12_goesIn 19 = .ok (.iconst 1, 1) := by decide +kernel
theorem dX12_goesIn_20 : decode cX12_goesIn 20 = .ok (.iadd, 1) := by decide +kernel
theorem dX12_goesIn_21 : decode cX12_goesIn 21 = .ok (.putfield 126, 3) := by decide +kernel
theorem dX12_goesIn_24 : decode cX12_goesIn 24 = .ok (.aload_n 0, 1) := by decide +kernel
theorem dX12_goesIn_25 : decode cX12_goesIn 25 = .ok (.dup, 1) := by decide +kernel
theorem dX12_goesIn_26 : decode cX12_goesIn 26 = .ok (.getfield 114, 3) := by decide +kernel
theorem dX12_goesIn_29 : decode cX12_goesIn 29 = .ok (.iconst 1, 1) := by decide +kernel
theorem dX12_goesIn_30 : decode cX12_goesIn 30 = .ok (.iadd, 1) := by decide +kernel
theorem dX12_goesIn_31 : decode cX12_goesIn 31 = .ok (.putfield 114, 3) := by decide +kernel
theorem dX12_goesIn_34 : decode cX12_goesIn 34 = .ok (.iconst 1, 1) := by decide +kernel
theorem dX12_goesIn_35 : decode cX12_goesIn 35 = .ok (.ireturn, 1) := by decide +kernel
theorem dX12_takes_0 : decode cX12_takes 0 = .ok (.aload_n 0, 1) := by decide +kernel
theorem dX12_takes_1 : decode cX12_takes 1 = .ok (.getfield 123, 3) := by decide +kernel
theorem dX12_takes_4 : decode cX12_takes 4 = .ok (.iconst (-1), 1) := by decide +kernel
theorem dX12_takes_5 : decode cX12_takes 5 = .ok (.if_icmp .ne 11, 3) := by decide +kernel
theorem dX12_takes_8 : decode cX12_takes 8 = .ok (.aload_n 0, 1) := by decide +kernel
theorem dX12_takes_9 : decode cX12_takes 9 = .ok (.invokevirtual 133, 3) := by decide +kernel
theorem dX12_takes_12 : decode cX12_takes 12 = .ok (.iload_n 1, 1) := by decide +kernel
theorem dX12_takes_13 : decode cX12_takes 13 = .ok (.if_icmp .eq 8, 3) := by decide +kernel
theorem dX12_takes_16 : decode cX12_takes 16 = .ok (.aload_n 0, 1) := by decide +kernel
theorem dX12_takes_17 : decode cX12_takes 17 = .ok (.invokevirtual 129, 3) := by decide +kernel
theorem dX12_takes_20 : decode cX12_takes 20 = .ok (.ireturn, 1) := by decide +kernel
theorem dX12_takes_21 : decode cX12_takes 21 = .ok (.aload_n 0, 1) := by decide +kernel
theorem dX12_takes_22 : decode cX12_takes 22 = .ok (.dup, 1) := by decide +kernel
theorem dX12_takes_23 : decode cX12_takes 23 = .ok (.getfield 114, 3) := by decide +kernel
theorem dX12_takes_26 : decode cX12_takes 26 = .ok (.iconst 1, 1) := by decide +kernel
theorem dX12_takes_27 : decode cX12_takes 27 = .ok (.iadd, 1) := by decide +kernel
theorem dX12_takes_28 : decode cX12_takes 28 = .ok (.putfield 114, 3) := by decide +kernel
theorem dX12_takes_31 : decode cX12_takes 31 = .ok (.iconst 1, 1) := by decide +kernel
theorem dX12_takes_32 : decode cX12_takes 32 = .ok (.ireturn, 1) := by decide +kernel
theorem dX12_isDigit_0 : decode cX12_isDigit 0 = .ok (.aload_n 0, 1) := by decide +kernel
theorem dX12_isDigit_1 : decode cX12_isDigit 1 = .ok (.getfield 114, 3) := by decide +kernel
theorem dX12_isDigit_4 : decode cX12_isDigit 4 = .ok (.aload_n 0, 1) := by decide +kernel
theorem dX12_isDigit_5 : decode cX12_isDigit 5 = .ok (.getfield 117, 3) := by decide +kernel
theorem dX12_isDigit_8 : decode cX12_isDigit 8 = .ok (.if_icmp .ge 45, 3) := by decide +kernel
theorem dX12_isDigit_11 : decode cX12_isDigit 11 = .ok (.aload_n 0, 1) := by decide +kernel
theorem dX12_isDigit_12 : decode cX12_isDigit 12 = .ok (.getfield 23, 3) := by decide +kernel
theorem dX12_isDigit_15 : decode cX12_isDigit 15 = .ok (.aload_n 0, 1) := by decide +kernel
theorem dX12_isDigit_16 : decode cX12_isDigit 16 = .ok (.getfield 120, 3) := by decide +kernel
theorem dX12_isDigit_19 : decode cX12_isDigit 19 = .ok (.aload_n 0, 1) := by decide +kernel
theorem dX12_isDigit_20 : decode cX12_isDigit 20 = .ok (.getfield 114, 3) := by decide +kernel
theorem dX12_isDigit_23 : decode cX12_isDigit 23 = .ok (.iadd, 1) := by decide +kernel
theorem dX12_isDigit_24 : decode cX12_isDigit 24 = .ok (.baload, 1) := by decide +kernel
theorem dX12_isDigit_25 : decode cX12_isDigit 25 = .ok (.bipush 48, 2) := by decide +kernel
theorem dX12_isDigit_27 : decode cX12_isDigit 27 = .ok (.if_icmp .lt 26, 3) := by decide +kernel
theorem dX12_isDigit_30 : decode cX12_isDigit 30 = .ok (.aload_n 0, 1) := by decide +kernel
theorem dX12_isDigit_31 : decode cX12_isDigit 31 = .ok (.getfield 23, 3) := by decide +kernel
theorem dX12_isDigit_34 : decode cX12_isDigit 34 = .ok (.aload_n 0, 1) := by decide +kernel
theorem dX12_isDigit_35 : decode cX12_isDigit 35 = .ok (.getfield 120, 3) := by decide +kernel
theorem dX12_isDigit_38 : decode cX12_isDigit 38 = .ok (.aload_n 0, 1) := by decide +kernel
theorem dX12_isDigit_39 : decode cX12_isDigit 39 = .ok (.getfield 114, 3) := by decide +kernel
theorem dX12_isDigit_42 : decode cX12_isDigit 42 = .ok (.iadd, 1) := by decide +kernel
theorem dX12_isDigit_43 : decode cX12_isDigit 43 = .ok (.baload, 1) := by decide +kernel
theorem dX12_isDigit_44 : decode cX12_isDigit 44 = .ok (.bipush 57, 2) := by decide +kernel
theorem dX12_isDigit_46 : decode cX12_isDigit 46 = .ok (.if_icmp .gt 7, 3) := by decide +kernel
theorem dX12_isDigit_49 : decode cX12_isDigit 49 = .ok (.iconst 1, 1) := by decide +kernel
theorem dX12_isDigit_50 : decode cX12_isDigit 50 = .ok (.goto 4, 3) := by decide +kernel
theorem dX12_isDigit_53 : decode cX12_isDigit 53 = .ok (.iconst 0, 1) := by decide +kernel
theorem dX12_isDigit_54 : decode cX12_isDigit 54 = .ok (.ireturn, 1) := by decide +kernel
theorem dX12_within_0 : decode cX12_within 0 = .ok (.ldc2_w 136, 3) := by decide +kernel
theorem dX12_within_3 : decode cX12_within 3 = .ok (.ldc2_w 138, 3) := by decide +kernel
theorem dX12_within_6 : decode cX12_within 6 = .ok (.lload_n 0, 1) := by decide +kernel
theorem dX12_within_7 : decode cX12_within 7 = .ok (.invokestatic 140, 3) := by decide +kernel
theorem dX12_within_10 : decode cX12_within 10 = .ok (.invokestatic 146, 3) := by decide +kernel
theorem dX12_within_13 : decode cX12_within 13 = .ok (.l2i, 1) := by decide +kernel
theorem dX12_within_14 : decode cX12_within 14 = .ok (.ireturn, 1) := by decide +kernel
theorem dX12_atom_0 : decode cX12_atom 0 = .ok (.aload_n 0, 1) := by decide +kernel
theorem dX12_atom_1 : decode cX12_atom 1 = .ok (.invokevirtual 133, 3) := by decide +kernel
theorem dX12_atom_4 : decode cX12_atom 4 = .ok (.istore_n 1, 1) := by decide +kernel
theorem dX12_atom_5 : decode cX12_atom 5 = .ok (.ldc 32, 2) := by decide +kernel
theorem dX12_atom_7 : decode cX12_atom 7 = .ok (.iload_n 1, 1) := by decide +kernel
theorem dX12_atom_8 : decode cX12_atom 8 = .ok (.invokestatic 149, 3) := by decide +kernel
theorem dX12_atom_11 : decode cX12_atom 11 = .ok (.ifCond .eq 20, 3) := by decide +kernel
theorem dX12_atom_14 : decode cX12_atom 14 = .ok (.aload_n 0, 1) := by decide +kernel
theorem dX12_atom_15 : decode cX12_atom 15 = .ok (.dup, 1) := by decide +kernel
theorem dX12_atom_16 : decode cX12_atom 16 = .ok (.getfield 114, 3) := by decide +kernel
theorem dX12_atom_19 : decode cX12_atom 19 = .ok (.iconst 1, 1) := by decide +kernel
theorem dX12_atom_20 : decode cX12_atom 20 = .ok (.iadd, 1) := by decide +kernel
theorem dX12_atom_21 : decode cX12_atom 21 = .ok (.putfield 114, 3) := by decide +kernel
theorem dX12_atom_24 : decode cX12_atom 24 = .ok (.aload_n 0, 1) := by decide +kernel
theorem dX12_atom_25 : decode cX12_atom 25 = .ok (.getfield 20, 3) := by decide +kernel
theorem dX12_atom_28 : decode cX12_atom 28 = .ok (.iload_n 1, 1) := by decide +kernel
theorem dX12_atom_29 : decode cX12_atom 29 = .ok (.iaload, 1) := by decide +kernel
