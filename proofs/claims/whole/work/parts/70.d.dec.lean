theorem dX12_matched_37 : decode cX12_matched 37 = .ok (.aload_n 0, 1) := by decide +kernel
theorem dX12_matched_38 : decode cX12_matched 38 = .ok (.iconst 0, 1) := by decide +kernel
theorem dX12_matched_39 : decode cX12_matched 39 = .ok (.putfield 400, 3) := by decide +kernel
theorem dX12_matched_42 : decode cX12_matched 42 = .ok (.aload_n 0, 1) := by decide +kernel
theorem dX12_matched_43 : decode cX12_matched 43 = .ok (.ldc_w 417, 3) := by decide +kernel
theorem dX12_matched_46 : decode cX12_matched 46 = .ok (.putfield 403, 3) := by decide +kernel
theorem dX12_matched_49 : decode cX12_matched 49 = .ok (.aload_n 0, 1) := by decide +kernel
theorem dX12_matched_50 : decode cX12_matched 50 = .ok (.iconst 0, 1) := by decide +kernel
theorem dX12_matched_51 : decode cX12_matched 51 = .ok (.iconst 0, 1) := by decide +kernel
theorem dX12_matched_52 : decode cX12_matched 52 = .ok (.iconst 0, 1) := by decide +kernel
theorem dX12_matched_53 : decode cX12_matched 53 = .ok (.iconst 0, 1) := by decide +kernel
theorem dX12_matched_54 : decode cX12_matched 54 = .ok (.iconst 0, 1) := by decide +kernel
theorem dX12_matched_55 : decode cX12_matched 55 = .ok (.invokevirtual 409, 3) := by decide +kernel
theorem dX12_matched_58 : decode cX12_matched 58 = .ok (.iload_n 1, 1) := by decide +kernel
theorem dX12_matched_59 : decode cX12_matched 59 = .ok (.ifCond .ne 10, 3) := by decide +kernel
theorem dX12_matched_62 : decode cX12_matched 62 = .ok (.aload_n 0, 1) := by decide +kernel
theorem dX12_matched_63 : decode cX12_matched 63 = .ok (.getfield 406, 3) := by decide +kernel
theorem dX12_matched_66 : decode cX12_matched 66 = .ok (.goto 19, 3) := by decide +kernel
theorem dX12_matched_69 : decode cX12_matched 69 = .ok (.iload_n 1, 1) := by decide +kernel
theorem dX12_matched_70 : decode cX12_matched 70 = .ok (.iconst 1, 1) := by decide +kernel
theorem dX12_matched_71 : decode cX12_matched 71 = .ok (.if_icmp .ne 10, 3) := by decide +kernel
theorem dX12_matched_74 : decode cX12_matched 74 = .ok (.aload_n 0, 1) := by decide +kernel
theorem dX12_matched_75 : decode cX12_matched 75 = .ok (.getfield 400, 3) := by decide +kernel
theorem dX12_matched_78 : decode cX12_matched 78 = .ok (.goto 7, 3) := by decide +kernel
theorem dX12_matched_81 : decode cX12_matched 81 = .ok (.aload_n 0, 1) := by decide +kernel
theorem dX12_matched_82 : decode cX12_matched 82 = .ok (.getfield 403, 3) := by decide +kernel
theorem dX12_matched_85 : decode cX12_matched 85 = .ok (.ireturn, 1) := by decide +kernel
theorem dX12_canBeRight_0 : decode cX12_canBeRight 0 = .ok (.iload_n 2, 1) := by decide +kernel
theorem dX12_canBeRight_1 : decode cX12_canBeRight 1 = .ok (.aload_n 0, 1) := by decide +kernel
theorem dX12_canBeRight_2 : decode cX12_canBeRight 2 = .ok (.getfield 297, 3) := by decide +kernel
theorem dX12_canBeRight_5 : decode cX12_canBeRight 5 = .ok (.if_icmp .ne 57, 3) := by decide +kernel
theorem dX12_canBeRight_8 : decode cX12_canBeRight 8 = .ok (.iconst 0, 1) := by decide +kernel
theorem dX12_canBeRight_9 : decode cX12_canBeRight 9 = .ok (.istore 4, 2) := by decide +kernel
theorem dX12_canBeRight_11 : decode cX12_canBeRight 11 = .ok (.iload 4, 2) := by decide +kernel
theorem dX12_canBeRight_13 : decode cX12_canBeRight 13 = .ok (.aload_n 0, 1) := by decide +kernel
theorem dX12_canBeRight_14 : decode cX12_canBeRight 14 = .ok (.getfield 297, 3) := by decide +kernel
theorem dX12_canBeRight_17 : decode cX12_canBeRight 17 = .ok (.if_icmp .ge 43, 3) := by decide +kernel
theorem dX12_canBeRight_20 : decode cX12_canBeRight 20 = .ok (.iload_n 1, 1) := by decide +kernel
theorem dX12_canBeRight_21 : decode cX12_canBeRight 21 = .ok (.iload 4, 2) := by decide +kernel
theorem dX12_canBeRight_23 : decode cX12_canBeRight 23 = .ok (.invokestatic 224, 3) := by decide +kernel
theorem dX12_canBeRight_26 : decode cX12_canBeRight 26 = .ok (.ifCond .eq 28, 3) := by decide +kernel
theorem dX12_canBeRight_29 : decode cX12_canBeRight 29 = .ok (.aload_n 0, 1) := by decide +kernel
theorem dX12_canBeRight_30 : decode cX12_canBeRight 30 = .ok (.aload_n 0, 1) := by decide +kernel
theorem dX12_canBeRight_31 : decode cX12_canBeRight 31 = .ok (.getfield 64, 3) := by decide +kernel
theorem dX12_canBeRight_34 : decode cX12_canBeRight 34 = .ok (.iload 4, 2) := by decide +kernel
theorem dX12_canBeRight_36 : decode cX12_canBeRight 36 = .ok (.aload_n 0, 1) := by decide +kernel
theorem dX12_canBeRight_37 : decode cX12_canBeRight 37 = .ok (.getfield 64, 3) := by decide +kernel
theorem dX12_canBeRight_40 : decode cX12_canBeRight 40 = .ok (.bipush 20, 2) := by decide +kernel
theorem dX12_canBeRight_42 : decode cX12_canBeRight 42 = .ok (.iload 4, 2) := by decide +kernel
theorem dX12_canBeRight_44 : decode cX12_canBeRight 44 = .ok (.imul, 1) := by decide +kernel
theorem dX12_canBeRight_45 : decode cX12_canBeRight 45 = .ok (.iaload, 1) := by decide +kernel
theorem dX12_canBeRight_46 : decode cX12_canBeRight 46 = .ok (.invokevirtual 334, 3) := by decide +kernel
theorem dX12_canBeRight_49 : decode cX12_canBeRight 49 = .ok (.ifCond .ne 5, 3) := by decide +kernel
theorem dX12_canBeRight_52 : decode cX12_canBeRight 52 = .ok (.iconst 0, 1) := by decide +kernel
theorem dX12_canBeRight_53 : decode cX12_canBeRight 53 = .ok (.ireturn, 1) := by decide +kernel
theorem dX12_canBeRight_54 : decode cX12_canBeRight 54 = .ok (.iinc 4 1, 3) := by decide +kernel
theorem dX12_canBeRight_57 : decode cX12_canBeRight 57 = .ok (.goto (-46), 3) := by decide +kernel
theorem dX12_canBeRight_60 : decode cX12_canBeRight 60 = .ok (.iconst 1, 1) := by decide +kernel
theorem dX12_canBeRight_61 : decode cX12_canBeRight 61 = .ok (.ireturn, 1) := by decide +kernel
theorem dX12_canBeRight_62 : decode cX12_canBeRight 62 = .ok (.aload_n 0, 1) := by decide +kernel
theorem dX12_canBeRight_63 : decode cX12_canBeRight 63 = .ok (.getfield 64, 3) := by decide +kernel
theorem dX12_canBeRight_66 : decode cX12_canBeRight 66 = .ok (.bipush 20, 2) := by decide +kernel
theorem dX12_canBeRight_68 : decode cX12_canBeRight 68 = .ok (.iload_n 2, 1) := by decide +kernel
theorem dX12_canBeRight_69 : decode cX12_canBeRight 69 = .ok (.imul, 1) := by decide +kernel
theorem dX12_canBeRight_70 : decode cX12_canBeRight 70 = .ok (.iconst (-1), 1) := by decide +kernel
theorem dX12_canBeRight_71 : decode cX12_canBeRight 71 = .ok (.iastore, 1) := by decide +kernel
theorem dX12_canBeRight_72 : decode cX12_canBeRight 72 = .ok (.iload_n 1, 1) := by decide +kernel
theorem dX12_canBeRight_73 : decode cX12_canBeRight 73 = .ok (.iload_n 2, 1) := by decide +kernel
theorem dX12_canBeRight_74 : decode cX12_canBeRight 74 = .ok (.invokestatic 224, 3) := by decide +kernel
theorem dX12_canBeRight_77 : decode cX12_canBeRight 77 = .ok (.ifCond .ne 13, 3) := by decide +kernel
theorem dX12_canBeRight_80 : decode cX12_canBeRight 80 = .ok (.aload_n 0, 1) := by decide +kernel
theorem dX12_canBeRight_81 : decode cX12_canBeRight 81 = .ok (.iload_n 1, 1) := by decide +kernel
theorem dX12_canBeRight_82 : decode cX12_canBeRight 82 = .ok (.iload_n 2, 1) := by decide +kernel
theorem dX12_canBeRight_83 : decode cX12_canBeRight 83 = .ok (.iconst 1, 1) := by decide +kernel
theorem dX12_canBeRight_84 : decode cX12_canBeRight 84 = .ok (.iadd, 1) := by decide +kernel
theorem dX12_canBeRight_85 : decode cX12_canBeRight 85 = .ok (.iload_n 3, 1) := by decide +kernel
theorem dX12_canBeRight_86 : decode cX12_canBeRight 86 = .ok (.invokevirtual 418, 3) := by decide +kernel
theorem dX12_canBeRight_89 : decode cX12_canBeRight 89 = .ok (.ireturn, 1) := by decide +kernel
theorem dX12_canBeRight_90 : decode cX12_canBeRight 90 = .ok (.iconst 0, 1) := by decide +kernel
theorem dX12_canBeRight_91 : decode cX12_canBeRight 91 = .ok (.istore 4, 2) := by decide +kernel
theorem dX12_canBeRight_93 : decode cX12_canBeRight 93 = .ok (.iload 4, 2) := by decide +kernel
theorem dX12_canBeRight_95 : decode cX12_canBeRight 95 = .ok (.aload_n 0, 1) := by decide +kernel
theorem dX12_canBeRight_96 : decode cX12_canBeRight 96 = .ok (.getfield 294, 3) := by decide +kernel
theorem dX12_canBeRight_99 : decode cX12_canBeRight 99 = .ok (.if_icmp .ge 51, 3) := by decide +kernel
theorem dX12_canBeRight_102 : decode cX12_canBeRight 102 = .ok (.iload_n 3, 1) := by decide +kernel
theorem dX12_canBeRight_103 : decode cX12_canBeRight 103 = .ok (.iload 4, 2) := by decide +kernel
theorem dX12_canBeRight_105 : decode cX12_canBeRight 105 = .ok (.invokestatic 224, 3) := by decide +kernel
theorem dX12_canBeRight_108 : decode cX12_canBeRight 108 = .ok (.ifCond .eq 6, 3) := by decide +kernel
theorem dX12_canBeRight_111 : decode cX12_canBeRight 111 = .ok (.goto 33, 3) := by decide +kernel
theorem dX12_canBeRight_114 : decode cX12_canBeRight 114 = .ok (.aload_n 0, 1) := by decide +kernel
theorem dX12_canBeRight_115 : decode cX12_canBeRight 115 = .ok (.getfield 64, 3) := by decide +kernel
theorem dX12_canBeRight_118 : decode cX12_canBeRight 118 = .ok (.bipush 20, 2) := by decide +kernel
theorem dX12_canBeRight_120 : decode cX12_canBeRight 120 = .ok (.iload_n 2, 1) := by decide +kernel
theorem dX12_canBeRight_121 : decode cX12_canBeRight 121 = .ok (.imul, 1) := by decide +kernel
theorem dX12_canBeRight_122 : decode cX12_canBeRight 122 = .ok (.iload 4, 2) := by decide +kernel
theorem dX12_canBeRight_124 : decode cX12_canBeRight 124 = .ok (.iastore, 1) := by decide +kernel
theorem dX12_canBeRight_125 : decode cX12_canBeRight 125 = .ok (.aload_n 0, 1) := by decide +kernel
theorem dX12_canBeRight_126 : decode cX12_canBeRight 126 = .ok (.iload_n 1, 1) := by decide +kernel
theorem dX12_canBeRight_127 : decode cX12_canBeRight 127 = .ok (.iload_n 2, 1) := by decide +kernel
theorem dX12_canBeRight_128 : decode cX12_canBeRight 128 = .ok (.iconst 1, 1) := by decide +kernel
theorem dX12_canBeRight_129 : decode cX12_canBeRight 129 = .ok (.iadd, 1) := by decide +kernel
theorem dX12_canBeRight_130 : decode cX12_canBeRight 130 = .ok (.iload_n 3, 1) := by decide +kernel
theorem dX12_canBeRight_131 : decode cX12_canBeRight 131 = .ok (.iconst 1, 1) := by decide +kernel
theorem dX12_canBeRight_132 : decode cX12_canBeRight 132 = .ok (.iload 4, 2) := by decide +kernel
theorem dX12_canBeRight_134 : decode cX12_canBeRight 134 = .ok (.ishl, 1) := by decide +kernel
theorem dX12_canBeRight_135 : decode cX12_canBeRight 135 = .ok (.ior, 1) := by decide +kernel
theorem dX12_canBeRight_136 : decode cX12_canBeRight 136 = .ok (.invokevirtual 418, 3) := by decide +kernel
theorem dX12_canBeRight_139 : decode cX12_canBeRight 139 = .ok (.ifCond .eq 5, 3) := by decide +kernel
theorem dX12_canBeRight_142 : decode cX12_canBeRight 142 = .ok (.iconst 1, 1) := by decide +kernel
theorem dX12_canBeRight_143 : decode cX12_canBeRight 143 = .ok (.ireturn, 1) := by decide +kernel
theorem dX12_canBeRight_144 : decode cX12_canBeRight 144 = .ok (.iinc 4 1, 3) := by decide +kernel
theorem dX12_canBeRight_147 : decode cX12_canBeRight 147 = .ok (.goto (-54), 3) := by decide +kernel
theorem dX12_canBeRight_150 : decode cX12_canBeRight 150 = .ok (.iconst 0, 1) := by decide +kernel
theorem dX12_canBeRight_151 : decode cX12_canBeRight 151 = .ok (.ireturn, 1) := by decide +kernel
theorem dX12_clash_0 : decode cX12_clash 0 = .ok (.aload_n 0, 1) := by decide +kernel
theorem dX12_clash_1 : decode cX12_clash 1 = .ok (.iconst 0, 1) := by decide +kernel
theorem dX12_clash_2 : decode cX12_clash 2 = .ok (.putfield 91, 3) := by decide +kernel
theorem dX12_clash_5 : decode cX12_clash 5 = .ok (.aload_n 0, 1) := by decide +kernel
theorem dX12_clash_6 : decode cX12_clash 6 = .ok (.getfield 297, 3) := by decide +kernel
theorem dX12_clash_9 : decode cX12_clash 9 = .ok (.ifCond .ne 5, 3) := by decide +kernel
theorem dX12_clash_12 : decode cX12_clash 12 = .ok (.iconst (-1), 1) := by decide +kernel
theorem dX12_clash_13 : decode cX12_clash 13 = .ok (.ireturn, 1) := by decide +kernel
theorem dX12_clash_14 : decode cX12_clash 14 = .ok (.aload_n 0, 1) := by decide +kernel
theorem dX12_clash_15 : decode cX12_clash 15 = .ok (.getfield 61, 3) := by decide +kernel
theorem dX12_clash_18 : decode cX12_clash 18 = .ok (.aload_n 0, 1) := by decide +kernel
theorem dX12_clash_19 : decode cX12_clash 19 = .ok (.getfield 64, 3) := by decide +kernel
theorem dX12_clash_22 : decode cX12_clash 22 = .ok (.invokestatic 413, 3) := by decide +kernel
theorem dX12_clash_25 : decode cX12_clash 25 = .ok (.iconst (-1), 1) := by decide +kernel
theorem dX12_clash_26 : decode cX12_clash 26 = .ok (.istore_n 1, 1) := by decide +kernel
theorem dX12_clash_27 : decode cX12_clash 27 = .ok (.iconst 1, 1) := by decide +kernel
theorem dX12_clash_28 : decode cX12_clash 28 = .ok (.istore_n 2, 1) := by decide +kernel
theorem dX12_clash_29 : decode cX12_clash 29 = .ok (.iload_n 2, 1) := by decide +kernel
theorem dX12_clash_30 : decode cX12_clash 30 = .ok (.iconst 1, 1) := by decide +kernel
theorem dX12_clash_31 : decode cX12_clash 31 = .ok (.aload_n 0, 1) := by decide +kernel
theorem dX12_clash_32 : decode cX12_clash 32 = .ok (.getfield 297, 3) := by decide +kernel
theorem dX12_clash_35 : decode cX12_clash 35 = .ok (.ishl, 1) := by decide +kernel
theorem dX12_clash_36 : decode cX12_clash 36 = .ok (.if_icmp .ge 37, 3) := by decide +kernel
theorem dX12_clash_39 : decode cX12_clash 39 = .ok (.iload_n 1, 1) := by decide +kernel
theorem dX12_clash_40 : decode cX12_clash 40 = .ok (.iconst (-1), 1) := by decide +kernel
theorem dX12_clash_41 : decode cX12_clash 41 = .ok (.if_icmp .eq 14, 3) := by decide +kernel
theorem dX12_clash_44 : decode cX12_clash 44 = .ok (.iload_n 2, 1) := by decide +kernel
theorem dX12_clash_45 : decode cX12_clash 45 = .ok (.invokestatic 422, 3) := by decide +kernel
theorem dX12_clash_48 : decode cX12_clash 48 = .ok (.iload_n 1, 1) := by decide +kernel
theorem dX12_clash_49 : decode cX12_clash 49 = .ok (.invokestatic 422, 3) := by decide +kernel
theorem dX12_clash_52 : decode cX12_clash 52 = .ok (.if_icmp .ge 15, 3) := by decide +kernel
theorem dX12_clash_55 : decode cX12_clash 55 = .ok (.aload_n 0, 1) := by decide +kernel
theorem dX12_clash_56 : decode cX12_clash 56 = .ok (.iload_n 2, 1) := by decide +kernel
theorem dX12_clash_57 : decode cX12_clash 57 = .ok (.iconst 0, 1) := by decide +kernel
theorem dX12_clash_58 : decode cX12_clash 58 = .ok (.iconst 0, 1) := by decide +kernel
theorem dX12_clash_59 : decode cX12_clash 59 = .ok (.invokevirtual 418, 3) := by decide +kernel
theorem dX12_clash_62 : decode cX12_clash 62 = .ok (.ifCond .ne 5, 3) := by decide +kernel
theorem dX12_clash_65 : decode cX12_clash 65 = .ok (.iload_n 2, 1) := by decide +kernel
theorem dX12_clash_66 : decode cX12_clash 66 = .ok (.istore_n 1, 1) := by decide +kernel
theorem dX12_clash_67 : decode cX12_clash 67 = .ok (.iinc 2 1, 3) := by decide +kernel
theorem dX12_clash_70 : decode cX12_clash 70 = .ok (.goto (-41), 3) := by decide +kernel
theorem dX12_clash_73 : decode cX12_clash 73 = .ok (.iload_n 1, 1) := by decide +kernel
theorem dX12_clash_74 : decode cX12_clash 74 = .ok (.ireturn, 1) := by decide +kernel
theorem dX12_blank_0 : decode cX12_blank 0 = .ok (.aload_n 0, 1) := by decide +kernel
theorem dX12_blank_1 : decode cX12_blank 1 = .ok (.iconst 0, 1) := by decide +kernel
theorem dX12_blank_2 : decode cX12_blank 2 = .ok (.putfield 91, 3) := by decide +kernel
theorem dX12_blank_5 : decode cX12_blank 5 = .ok (.aload_n 0, 1) := by decide +kernel
theorem dX12_blank_6 : decode cX12_blank 6 = .ok (.iload_n 1, 1) := by decide +kernel
theorem dX12_blank_7 : decode cX12_blank 7 = .ok (.invokevirtual 362, 3) := by decide +kernel
theorem dX12_blank_10 : decode cX12_blank 10 = .ok (.ifCond .ne 5, 3) := by decide +kernel
theorem dX12_blank_13 : decode cX12_blank 13 = .ok (.iconst (-1), 1) := by decide +kernel
theorem dX12_blank_14 : decode cX12_blank 14 = .ok (.ireturn, 1) := by decide +kernel
theorem dX12_blank_15 : decode cX12_blank 15 = .ok (.aload_n 0, 1) := by decide +kernel
theorem dX12_blank_16 : decode cX12_blank 16 = .ok (.getfield 61, 3) := by decide +kernel
theorem dX12_blank_19 : decode cX12_blank 19 = .ok (.aload_n 0, 1) := by decide +kernel
theorem dX12_blank_20 : decode cX12_blank 20 = .ok (.getfield 64, 3) := by decide +kernel
theorem dX12_blank_23 : decode cX12_blank 23 = .ok (.invokestatic 413, 3) := by decide +kernel
theorem dX12_blank_26 : decode cX12_blank 26 = .ok (.iconst 0, 1) := by decide +kernel
theorem dX12_blank_27 : decode cX12_blank 27 = .ok (.istore_n 2, 1) := by decide +kernel
theorem dX12_blank_28 : decode cX12_blank 28 = .ok (.iload_n 2, 1) := by decide +kernel
theorem dX12_blank_29 : decode cX12_blank 29 = .ok (.bipush 99, 2) := by decide +kernel
theorem dX12_blank_31 : decode cX12_blank 31 = .ok (.if_icmp .gt 42, 3) := by decide +kernel
theorem dX12_blank_34 : decode cX12_blank 34 = .ok (.aload_n 0, 1) := by decide +kernel
theorem dX12_blank_35 : decode cX12_blank 35 = .ok (.getfield 64, 3) := by decide +kernel
theorem dX12_blank_38 : decode cX12_blank 38 = .ok (.iload_n 1, 1) := by decide +kernel
theorem dX12_blank_39 : decode cX12_blank 39 = .ok (.invokestatic 375, 3) := by decide +kernel
theorem dX12_blank_42 : decode cX12_blank 42 = .ok (.ifCond .ne 5, 3) := by decide +kernel
theorem dX12_blank_45 : decode cX12_blank 45 = .ok (.iload_n 2, 1) := by decide +kernel
theorem dX12_blank_46 : decode cX12_blank 46 = .ok (.ireturn, 1) := by decide +kernel
theorem dX12_blank_47 : decode cX12_blank 47 = .ok (.aload_n 0, 1) := by decide +kernel
theorem dX12_blank_48 : decode cX12_blank 48 = .ok (.aload_n 0, 1) := by decide +kernel
theorem dX12_blank_49 : decode cX12_blank 49 = .ok (.getfield 64, 3) := by decide +kernel
theorem dX12_blank_52 : decode cX12_blank 52 = .ok (.invokevirtual 348, 3) := by decide +kernel
theorem dX12_blank_55 : decode cX12_blank 55 = .ok (.istore_n 3, 1) := by decide +kernel
theorem dX12_blank_56 : decode cX12_blank 56 = .ok (.aload_n 0, 1) := by decide +kernel
theorem dX12_blank_57 : decode cX12_blank 57 = .ok (.getfield 64, 3) := by decide +kernel
theorem dX12_blank_60 : decode cX12_blank 60 = .ok (.bipush 122, 2) := by decide +kernel
theorem dX12_blank_62 : decode cX12_blank 62 = .ok (.dup2, 1) := by decide +kernel
theorem dX12_blank_63 : decode cX12_blank 63 = .ok (.iaload, 1) := by decide +kernel
theorem dX12_blank_64 : decode cX12_blank 64 = .ok (.iconst 1, 1) := by decide +kernel
theorem dX12_blank_65 : decode cX12_blank 65 = .ok (.iadd, 1) := by decide +kernel
theorem dX12_blank_66 : decode cX12_blank 66 = .ok (.iastore, 1) := by decide +kernel
theorem dX12_blank_67 : decode cX12_blank 67 = .ok (.iinc 2 1, 3) := by decide +kernel
theorem dX12_blank_70 : decode cX12_blank 70 = .ok (.goto (-42), 3) := by decide +kernel
theorem dX12_blank_73 : decode cX12_blank 73 = .ok (.iconst (-1), 1) := by decide +kernel
theorem dX12_blank_74 : decode cX12_blank 74 = .ok (.ireturn, 1) := by decide +kernel
theorem dX12_stood_0 : decode cX12_stood 0 = .ok (.aload_n 0, 1) := by decide +kernel
theorem dX12_stood_1 : decode cX12_stood 1 = .ok (.iconst 0, 1) := by decide +kernel
theorem dX12_stood_2 : decode cX12_stood 2 = .ok (.putfield 91, 3) := by decide +kernel
theorem dX12_stood_5 : decode cX12_stood 5 = .ok (.aload_n 0, 1) := by decide +kernel
theorem dX12_stood_6 : decode cX12_stood 6 = .ok (.iload_n 1, 1) := by decide +kernel
theorem dX12_stood_7 : decode cX12_stood 7 = .ok (.invokevirtual 359, 3) := by decide +kernel
theorem dX12_stood_10 : decode cX12_stood 10 = .ok (.ifCond .eq 20, 3) := by decide +kernel
theorem dX12_stood_13 : decode cX12_stood 13 = .ok (.aload_n 0, 1) := by decide +kernel
theorem dX12_stood_14 : decode cX12_stood 14 = .ok (.iload_n 2, 1) := by decide +kernel
theorem dX12_stood_15 : decode cX12_stood 15 = .ok (.invokevirtual 362, 3) := by decide +kernel
theorem dX12_stood_18 : decode cX12_stood 18 = .ok (.ifCond .eq 12, 3) := by decide +kernel
theorem dX12_stood_21 : decode cX12_stood 21 = .ok (.aload_n 0, 1) := by decide +kernel
theorem dX12_stood_22 : decode cX12_stood 22 = .ok (.getfield 304, 3) := by decide +kernel
theorem dX12_stood_25 : decode cX12_stood 25 = .ok (.bipush 10, 2) := by decide +kernel
theorem dX12_stood_27 : decode cX12_stood 27 = .ok (.if_icmp .ne 5, 3) := by decide +kernel
theorem dX12_stood_30 : decode cX12_stood 30 = .ok (.iconst (-1), 1) := by decide +kernel
theorem dX12_stood_31 : decode cX12_stood 31 = .ok (.ireturn, 1) := by decide +kernel
theorem dX12_stood_32 : decode cX12_stood 32 = .ok (.aload_n 0, 1) := by decide +kernel
theorem dX12_stood_33 : decode cX12_stood 33 = .ok (.getfield 74, 3) := by decide +kernel
theorem dX12_stood_36 : decode cX12_stood 36 = .ok (.aload_n 0, 1) := by decide +kernel
theorem dX12_stood_37 : decode cX12_stood 37 = .ok (.getfield 304, 3) := by decide +kernel
theorem dX12_stood_40 : decode cX12_stood 40 = .ok (.iload_n 1, 1) := by decide +kernel
theorem dX12_stood_41 : decode cX12_stood 41 = .ok (.iastore, 1) := by decide +kernel
theorem dX12_stood_42 : decode cX12_stood 42 = .ok (.aload_n 0, 1) := by decide +kernel
theorem dX12_stood_43 : decode cX12_stood 43 = .ok (.getfield 77, 3) := by decide +kernel
theorem dX12_stood_46 : decode cX12_stood 46 = .ok (.aload_n 0, 1) := by decide +kernel
theorem dX12_stood_47 : decode cX12_stood 47 = .ok (.getfield 304, 3) := by decide +kernel
theorem dX12_stood_50 : decode cX12_stood 50 = .ok (.iload_n 2, 1) := by decide +kernel
theorem dX12_stood_51 : decode cX12_stood 51 = .ok (.iastore, 1) := by decide +kernel
theorem dX12_stood_52 : decode cX12_stood 52 = .ok (.aload_n 0, 1) := by decide +kernel
theorem dX12_stood_53 : decode cX12_stood 53 = .ok (.getfield 80, 3) := by decide +kernel
theorem dX12_stood_56 : decode cX12_stood 56 = .ok (.aload_n 0, 1) := by decide +kernel
theorem dX12_stood_57 : decode cX12_stood 57 = .ok (.getfield 304, 3) := by decide +kernel
theorem dX12_stood_60 : decode cX12_stood 60 = .ok (.iload_n 3, 1) := by decide +kernel
theorem dX12_stood_61 : decode cX12_stood 61 = .ok (.bastore, 1) := by decide +kernel
theorem dX12_stood_62 : decode cX12_stood 62 = .ok (.aload_n 0, 1) := by decide +kernel
theorem dX12_stood_63 : decode cX12_stood 63 = .ok (.dup, 1) := by decide +kernel
theorem dX12_stood_64 : decode cX12_stood 64 = .ok (.getfield 304, 3) := by decide +kernel
theorem dX12_stood_67 : decode cX12_stood 67 = .ok (.iconst 1, 1) := by decide +kernel
theorem dX12_stood_68 : decode cX12_stood 68 = .ok (.iadd, 1) := by decide +kernel
theorem dX12_stood_69 : decode cX12_stood 69 = .ok (.putfield 304, 3) := by decide +kernel
theorem dX12_stood_72 : decode cX12_stood 72 = .ok (.aload_n 0, 1) := by decide +kernel
theorem dX12_stood_73 : decode cX12_stood 73 = .ok (.getfield 304, 3) := by decide +kernel
theorem dX12_stood_76 : decode cX12_stood 76 = .ok (.ireturn, 1) := by decide +kernel
theorem dX12_goneOf_0 : decode cX12_goneOf 0 = .ok (.aload_n 0, 1) := by decide +kernel
theorem dX12_goneOf_1 : decode cX12_goneOf 1 = .ok (.getfield 61, 3) := by decide +kernel
theorem dX12_goneOf_4 : decode cX12_goneOf 4 = .ok (.iload_n 1, 1) := by decide +kernel
theorem dX12_goneOf_5 : decode cX12_goneOf 5 = .ok (.invokestatic 323, 3) := by decide +kernel
theorem dX12_goneOf_8 : decode cX12_goneOf 8 = .ok (.aload_n 0, 1) := by decide +kernel
theorem dX12_goneOf_9 : decode cX12_goneOf 9 = .ok (.getfield 61, 3) := by decide +kernel
theorem dX12_goneOf_12 : decode cX12_goneOf 12 = .ok (.iload_n 1, 1) := by decide +kernel
theorem dX12_goneOf_13 : decode cX12_goneOf 13 = .ok (.invokestatic 375, 3) := by decide +kernel
theorem dX12_goneOf_16 : decode cX12_goneOf 16 = .ok (.isub, 1) := by decide +kernel
theorem dX12_goneOf_17 : decode cX12_goneOf 17 = .ok (.ireturn, 1) := by decide +kernel
theorem dX12_rowsOf_0 : decode cX12_rowsOf 0 = .ok (.iload_n 0, 1) := by decide +kernel
theorem dX12_rowsOf_1 : decode cX12_rowsOf 1 = .ok (.ifCond .ne 7, 3) := by decide +kernel
theorem dX12_rowsOf_4 : decode cX12_rowsOf 4 = .ok (.iconst 1, 1) := by decide +kernel
theorem dX12_rowsOf_5 : decode cX12_rowsOf 5 = .ok (.goto 27, 3) := by decide +kernel
theorem dX12_rowsOf_8 : decode cX12_rowsOf 8 = .ok (.iload_n 0, 1) := by decide +kernel
theorem dX12_rowsOf_9 : decode cX12_rowsOf 9 = .ok (.iconst 1, 1) := by decide +kernel
theorem dX12_rowsOf_10 : decode cX12_rowsOf 10 = .ok (.if_icmp .ne 8, 3) := by decide +kernel
theorem dX12_rowsOf_13 : decode cX12_rowsOf 13 = .ok (.bipush 12, 2) := by decide +kernel
theorem dX12_rowsOf_15 : decode cX12_rowsOf 15 = .ok (.goto 17, 3) := by decide +kernel
theorem dX12_rowsOf_18 : decode cX12_rowsOf 18 = .ok (.iload_n 0, 1) := by decide +kernel
theorem dX12_rowsOf_19 : decode cX12_rowsOf 19 = .ok (.iconst 2, 1) := by decide +kernel
theorem dX12_rowsOf_20 : decode cX12_rowsOf 20 = .ok (.if_icmp .ne 9, 3) := by decide +kernel
theorem dX12_rowsOf_23 : decode cX12_rowsOf 23 = .ok (.sipush 144, 3) := by decide +kernel
theorem dX12_rowsOf_26 : decode cX12_rowsOf 26 = .ok (.goto 6, 3) := by decide +kernel
theorem dX12_rowsOf_29 : decode cX12_rowsOf 29 = .ok (.sipush 1728, 3) := by decide +kernel
theorem dX12_rowsOf_32 : decode cX12_rowsOf 32 = .ok (.ireturn, 1) := by decide +kernel
theorem dX12_fitsBy_0 : decode cX12_fitsBy 0 = .ok (.iconst 0, 1) := by decide +kernel
theorem dX12_fitsBy_1 : decode cX12_fitsBy 1 = .ok (.istore 4, 2) := by decide +kernel
theorem dX12_fitsBy_3 : decode cX12_fitsBy 3 = .ok (.iload 4, 2) := by decide +kernel
theorem dX12_fitsBy_5 : decode cX12_fitsBy 5 = .ok (.aload_n 0, 1) := by decide +kernel
theorem dX12_fitsBy_6 : decode cX12_fitsBy 6 = .ok (.getfield 61, 3) := by decide +kernel
theorem dX12_fitsBy_9 : decode cX12_fitsBy 9 = .ok (.iload_n 1, 1) := by decide +kernel
theorem dX12_fitsBy_10 : decode cX12_fitsBy 10 = .ok (.invokestatic 323, 3) := by decide +kernel
theorem dX12_fitsBy_13 : decode cX12_fitsBy 13 = .ok (.if_icmp .ge 53, 3) := by decide +kernel
theorem dX12_fitsBy_16 : decode cX12_fitsBy 16 = .ok (.aload_n 0, 1) := by decide +kernel
theorem dX12_fitsBy_17 : decode cX12_fitsBy 17 = .ok (.getfield 61, 3) := by decide +kernel
theorem dX12_fitsBy_20 : decode cX12_fitsBy 20 = .ok (.iload_n 1, 1) := by decide +kernel
theorem dX12_fitsBy_21 : decode cX12_fitsBy 21 = .ok (.iload 4, 2) := by decide +kernel
theorem dX12_fitsBy_23 : decode cX12_fitsBy 23 = .ok (.invokestatic 327, 3) := by decide +kernel
theorem dX12_fitsBy_26 : decode cX12_fitsBy 26 = .ok (.ifCond .le 34, 3) := by decide +kernel
theorem dX12_fitsBy_29 : decode cX12_fitsBy 29 = .ok (.aload_n 0, 1) := by decide +kernel
theorem dX12_fitsBy_30 : decode cX12_fitsBy 30 = .ok (.getfield 61, 3) := by decide +kernel
theorem dX12_fitsBy_33 : decode cX12_fitsBy 33 = .ok (.iload_n 1, 1) := by decide +kernel
theorem dX12_fitsBy_34 : decode cX12_fitsBy 34 = .ok (.iload 4, 2) := by decide +kernel
theorem dX12_fitsBy_36 : decode cX12_fitsBy 36 = .ok (.invokestatic 317, 3) := by decide +kernel
theorem dX12_fitsBy_39 : decode cX12_fitsBy 39 = .ok (.iconst 2, 1) := by decide +kernel
theorem dX12_fitsBy_40 : decode cX12_fitsBy 40 = .ok (.if_icmp .ge 20, 3) := by decide +kernel
theorem dX12_fitsBy_43 : decode cX12_fitsBy 43 = .ok (.aload_n 0, 1) := by decide +kernel
theorem dX12_fitsBy_44 : decode cX12_fitsBy 44 = .ok (.aload_n 0, 1) := by decide +kernel
theorem dX12_fitsBy_45 : decode cX12_fitsBy 45 = .ok (.getfield 61, 3) := by decide +kernel
theorem dX12_fitsBy_48 : decode cX12_fitsBy 48 = .ok (.iload_n 1, 1) := by decide +kernel
theorem dX12_fitsBy_49 : decode cX12_fitsBy 49 = .ok (.iload 4, 2) := by decide +kernel
theorem dX12_fitsBy_51 : decode cX12_fitsBy 51 = .ok (.iload_n 3, 1) := by decide +kernel
theorem dX12_fitsBy_52 : decode cX12_fitsBy 52 = .ok (.invokevirtual 330, 3) := by decide +kernel
theorem dX12_fitsBy_55 : decode cX12_fitsBy 55 = .ok (.ifCond .ne 5, 3) := by decide +kernel
theorem dX12_fitsBy_58 : decode cX12_fitsBy 58 = .ok (.iconst 0, 1) := by decide +kernel
theorem dX12_fitsBy_59 : decode cX12_fitsBy 59 = .ok (.ireturn, 1) := by decide +kernel
theorem dX12_fitsBy_60 : decode cX12_fitsBy 60 = .ok (.iinc 4 1, 3) := by decide +kernel
theorem dX12_fitsBy_63 : decode cX12_fitsBy 63 = .ok (.goto (-60), 3) := by decide +kernel
theorem dX12_fitsBy_66 : decode cX12_fitsBy 66 = .ok (.iload_n 2, 1) := by decide +kernel
theorem dX12_fitsBy_67 : decode cX12_fitsBy 67 = .ok (.istore 4, 2) := by decide +kernel
theorem dX12_fitsBy_69 : decode cX12_fitsBy 69 = .ok (.iconst 0, 1) := by decide +kernel
theorem dX12_fitsBy_70 : decode cX12_fitsBy 70 = .ok (.istore 5, 2) := by decide +kernel
theorem dX12_fitsBy_72 : decode cX12_fitsBy 72 = .ok (.iload 5, 2) := by decide +kernel
theorem dX12_fitsBy_74 : decode cX12_fitsBy 74 = .ok (.aload_n 0, 1) := by decide +kernel
theorem dX12_fitsBy_75 : decode cX12_fitsBy 75 = .ok (.iload_n 1, 1) := by decide +kernel
theorem dX12_fitsBy_76 : decode cX12_fitsBy 76 = .ok (.invokevirtual 427, 3) := by decide +kernel
theorem dX12_fitsBy_79 : decode cX12_fitsBy 79 = .ok (.if_icmp .ge 53, 3) := by decide +kernel
theorem dX12_fitsBy_82 : decode cX12_fitsBy 82 = .ok (.iload 4, 2) := by decide +kernel
theorem dX12_fitsBy_84 : decode cX12_fitsBy 84 = .ok (.bipush 12, 2) := by decide +kernel
theorem dX12_fitsBy_86 : decode cX12_fitsBy 86 = .ok (.irem, 1) := by decide +kernel
theorem dX12_fitsBy_87 : decode cX12_fitsBy 87 = .ok (.istore 6, 2) := by decide +kernel
theorem dX12_fitsBy_89 : decode cX12_fitsBy 89 = .ok (.iload 4, 2) := by decide +kernel
theorem dX12_fitsBy_91 : decode cX12_fitsBy 91 = .ok (.bipush 12, 2) := by decide +kernel
theorem dX12_fitsBy_93 : decode cX12_fitsBy 93 = .ok (.idiv, 1) := by decide +kernel
theorem dX12_fitsBy_94 : decode cX12_fitsBy 94 = .ok (.istore 4, 2) := by decide +kernel
theorem dX12_fitsBy_96 : decode cX12_fitsBy 96 = .ok (.aload_n 0, 1) := by decide +kernel
theorem dX12_fitsBy_97 : decode cX12_fitsBy 97 = .ok (.iload_n 3, 1) := by decide +kernel
theorem dX12_fitsBy_98 : decode cX12_fitsBy 98 = .ok (.invokevirtual 320, 3) := by decide +kernel
theorem dX12_fitsBy_101 : decode cX12_fitsBy 101 = .ok (.iload 6, 2) := by decide +kernel
theorem dX12_fitsBy_103 : decode cX12_fitsBy 103 = .ok (.bipush 6, 2) := by decide +kernel
theorem dX12_fitsBy_105 : decode cX12_fitsBy 105 = .ok (.irem, 1) := by decide +kernel
theorem dX12_fitsBy_106 : decode cX12_fitsBy 106 = .ok (.invokestatic 224, 3) := by decide +kernel
theorem dX12_fitsBy_109 : decode cX12_fitsBy 109 = .ok (.iload 6, 2) := by decide +kernel
theorem dX12_fitsBy_111 : decode cX12_fitsBy 111 = .ok (.bipush 6, 2) := by decide +kernel
theorem dX12_fitsBy_113 : decode cX12_fitsBy 113 = .ok (.if_icmp .ge 7, 3) := by decide +kernel
theorem dX12_fitsBy_116 : decode cX12_fitsBy 116 = .ok (.iconst 1, 1) := by decide +kernel
theorem dX12_fitsBy_117 : decode cX12_fitsBy 117 = .ok (.goto 4, 3) := by decide +kernel
theorem dX12_fitsBy_120 : decode cX12_fitsBy 120 = .ok (.iconst 0, 1) := by decide +kernel
theorem dX12_fitsBy_121 : decode cX12_fitsBy 121 = .ok (.if_icmp .eq 5, 3) := by decide +kernel
theorem dX12_fitsBy_124 : decode cX12_fitsBy 124 = .ok (.iconst 0, 1) := by decide +kernel
theorem dX12_fitsBy_125 : decode cX12_fitsBy 125 = .ok (.ireturn, 1) := by decide +kernel
theorem dX12_fitsBy_126 : decode cX12_fitsBy 126 = .ok (.iinc 5 1, 3) := by decide +kernel
theorem dX12_fitsBy_129 : decode cX12_fitsBy 129 = .ok (.goto (-57), 3) := by decide +kernel
theorem dX12_fitsBy_132 : decode cX12_fitsBy 132 = .ok (.iconst 1, 1) := by decide +kernel
theorem dX12_fitsBy_133 : decode cX12_fitsBy 133 = .ok (.ireturn, 1) := by decide +kernel
theorem dX12_isRow_0 : decode cX12_isRow 0 = .ok (.iconst 0, 1) := by decide +kernel
theorem dX12_isRow_1 : decode cX12_isRow 1 = .ok (.istore_n 3, 1) := by decide +kernel
theorem dX12_isRow_2 : decode cX12_isRow 2 = .ok (.iload_n 3, 1) := by decide +kernel
theorem dX12_isRow_3 : decode cX12_isRow 3 = .ok (.aload_n 0, 1) := by decide +kernel
theorem dX12_isRow_4 : decode cX12_isRow 4 = .ok (.getfield 304, 3) := by decide +kernel
theorem dX12_isRow_7 : decode cX12_isRow 7 = .ok (.if_icmp .ge 42, 3) := by decide +kernel
theorem dX12_isRow_10 : decode cX12_isRow 10 = .ok (.aload_n 0, 1) := by decide +kernel
theorem dX12_isRow_11 : decode cX12_isRow 11 = .ok (.getfield 77, 3) := by decide +kernel
theorem dX12_isRow_14 : decode cX12_isRow 14 = .ok (.iload_n 3, 1) := by decide +kernel
theorem dX12_isRow_15 : decode cX12_isRow 15 = .ok (.iaload, 1) := by decide +kernel
theorem dX12_isRow_16 : decode cX12_isRow 16 = .ok (.iload_n 1, 1) := by decide +kernel
theorem dX12_isRow_17 : decode cX12_isRow 17 = .ok (.if_icmp .ne 26, 3) := by decide +kernel
theorem dX12_isRow_20 : decode cX12_isRow 20 = .ok (.aload_n 0, 1) := by decide +kernel
theorem dX12_isRow_21 : decode cX12_isRow 21 = .ok (.iload_n 1, 1) := by decide +kernel
theorem dX12_isRow_22 : decode cX12_isRow 22 = .ok (.iload_n 2, 1) := by decide +kernel
theorem dX12_isRow_23 : decode cX12_isRow 23 = .ok (.aload_n 0, 1) := by decide +kernel
theorem dX12_isRow_24 : decode cX12_isRow 24 = .ok (.getfield 74, 3) := by decide +kernel
theorem dX12_isRow_27 : decode cX12_isRow 27 = .ok (.iload_n 3, 1) := by decide +kernel
theorem dX12_isRow_28 : decode cX12_isRow 28 = .ok (.iaload, 1) := by decide +kernel
theorem dX12_isRow_29 : decode cX12_isRow 29 = .ok (.invokevirtual 430, 3) := by decide +kernel
theorem dX12_isRow_32 : decode cX12_isRow 32 = .ok (.aload_n 0, 1) := by decide +kernel
theorem dX12_isRow_33 : decode cX12_isRow 33 = .ok (.getfield 80, 3) := by decide +kernel
theorem dX12_isRow_36 : decode cX12_isRow 36 = .ok (.iload_n 3, 1) := by decide +kernel
theorem dX12_isRow_37 : decode cX12_isRow 37 = .ok (.baload, 1) := by decide +kernel
theorem dX12_isRow_38 : decode cX12_isRow 38 = .ok (.if_icmp .eq 5, 3) := by decide +kernel
theorem dX12_isRow_41 : decode cX12_isRow 41 = .ok (.iconst 0, 1) := by decide +kernel
theorem dX12_isRow_42 : decode cX12_isRow 42 = .ok (.ireturn, 1) := by decide +kernel
theorem dX12_isRow_43 : decode cX12_isRow 43 = .ok (.iinc 3 1, 3) := by decide +kernel
theorem dX12_isRow_46 : decode cX12_isRow 46 = .ok (.goto (-44), 3) := by decide +kernel
theorem dX12_isRow_49 : decode cX12_isRow 49 = .ok (.iconst 1, 1) := by decide +kernel
theorem dX12_isRow_50 : decode cX12_isRow 50 = .ok (.ireturn, 1) := by decide +kernel
theorem dX12_canAsk_0 : decode cX12_canAsk 0 = .ok (.aload_n 0, 1) := by decide +kernel
theorem dX12_canAsk_1 : decode cX12_canAsk 1 = .ok (.iload_n 1, 1) := by decide +kernel
theorem dX12_canAsk_2 : decode cX12_canAsk 2 = .ok (.invokevirtual 362, 3) := by decide +kernel
theorem dX12_canAsk_5 : decode cX12_canAsk 5 = .ok (.ifCond .eq 16, 3) := by decide +kernel
theorem dX12_canAsk_8 : decode cX12_canAsk 8 = .ok (.aload_n 0, 1) := by decide +kernel
theorem dX12_canAsk_9 : decode cX12_canAsk 9 = .ok (.iload_n 1, 1) := by decide +kernel
theorem dX12_canAsk_10 : decode cX12_canAsk 10 = .ok (.invokevirtual 427, 3) := by decide +kernel
theorem dX12_canAsk_13 : decode cX12_canAsk 13 = .ok (.iconst 3, 1) := by decide +kernel
theorem dX12_canAsk_14 : decode cX12_canAsk 14 = .ok (.if_icmp .gt 7, 3) := by decide +kernel
theorem dX12_canAsk_17 : decode cX12_canAsk 17 = .ok (.iconst 1, 1) := by decide +kernel
theorem dX12_canAsk_18 : decode cX12_canAsk 18 = .ok (.goto 4, 3) := by decide +kernel
theorem dX12_canAsk_21 : decode cX12_canAsk 21 = .ok (.iconst 0, 1) := by decide +kernel
theorem dX12_canAsk_22 : decode cX12_canAsk 22 = .ok (.ireturn, 1) := by decide +kernel
theorem dX12_once_0 : decode cX12_once 0 = .ok (.aload_n 0, 1) := by decide +kernel
theorem dX12_once_1 : decode cX12_once 1 = .ok (.iconst 0, 1) := by decide +kernel
theorem dX12_once_2 : decode cX12_once 2 = .ok (.putfield 91, 3) := by decide +kernel
theorem dX12_once_5 : decode cX12_once 5 = .ok (.aload_n 0, 1) := by decide +kernel
theorem dX12_once_6 : decode cX12_once 6 = .ok (.iload_n 1, 1) := by decide +kernel
theorem dX12_once_7 : decode cX12_once 7 = .ok (.invokevirtual 433, 3) := by decide +kernel
theorem dX12_once_10 : decode cX12_once 10 = .ok (.ifCond .eq 8, 3) := by decide +kernel
theorem dX12_once_13 : decode cX12_once 13 = .ok (.iload_n 2, 1) := by decide +kernel
theorem dX12_once_14 : decode cX12_once 14 = .ok (.iconst (-1), 1) := by decide +kernel
theorem dX12_once_15 : decode cX12_once 15 = .ok (.if_icmp .ge 5, 3) := by decide +kernel
theorem dX12_once_18 : decode cX12_once 18 = .ok (.iconst (-1), 1) := by decide +kernel
theorem dX12_once_19 : decode cX12_once 19 = .ok (.ireturn, 1) := by decide +kernel
theorem dX12_once_20 : decode cX12_once 20 = .ok (.iconst 0, 1) := by decide +kernel
theorem dX12_once_21 : decode cX12_once 21 = .ok (.istore_n 3, 1) := by decide +kernel
theorem dX12_once_22 : decode cX12_once 22 = .ok (.iconst 0, 1) := by decide +kernel
theorem dX12_once_23 : decode cX12_once 23 = .ok (.istore 4, 2) := by decide +kernel
theorem dX12_once_25 : decode cX12_once 25 = .ok (.iload 4, 2) := by decide +kernel
theorem dX12_once_27 : decode cX12_once 27 = .ok (.aload_n 0, 1) := by decide +kernel
theorem dX12_once_28 : decode cX12_once 28 = .ok (.iload_n 1, 1) := by decide +kernel
theorem dX12_once_29 : decode cX12_once 29 = .ok (.invokevirtual 427, 3) := by decide +kernel
theorem dX12_once_32 : decode cX12_once 32 = .ok (.invokestatic 436, 3) := by decide +kernel
theorem dX12_once_35 : decode cX12_once 35 = .ok (.if_icmp .ge 33, 3) := by decide +kernel
theorem dX12_once_38 : decode cX12_once 38 = .ok (.aload_n 0, 1) := by decide +kernel
theorem dX12_once_39 : decode cX12_once 39 = .ok (.iload_n 1, 1) := by decide +kernel
theorem dX12_once_40 : decode cX12_once 40 = .ok (.iload 4, 2) := by decide +kernel
theorem dX12_once_42 : decode cX12_once 42 = .ok (.invokevirtual 439, 3) := by decide +kernel
theorem dX12_once_45 : decode cX12_once 45 = .ok (.ifCond .ne 6, 3) := by decide +kernel
theorem dX12_once_48 : decode cX12_once 48 = .ok (.goto 14, 3) := by decide +kernel
theorem dX12_once_51 : decode cX12_once 51 = .ok (.iload_n 3, 1) := by decide +kernel
theorem dX12_once_52 : decode cX12_once 52 = .ok (.iload_n 2, 1) := by decide +kernel
theorem dX12_once_53 : decode cX12_once 53 = .ok (.if_icmp .ne 6, 3) := by decide +kernel
theorem dX12_once_56 : decode cX12_once 56 = .ok (.iload 4, 2) := by decide +kernel
theorem dX12_once_58 : decode cX12_once 58 = .ok (.ireturn, 1) := by decide +kernel
theorem dX12_once_59 : decode cX12_once 59 = .ok (.iinc 3 1, 3) := by decide +kernel
theorem dX12_once_62 : decode cX12_once 62 = .ok (.iinc 4 1, 3) := by decide +kernel
theorem dX12_once_65 : decode cX12_once 65 = .ok (.goto (-40), 3) := by decide +kernel
theorem dX12_once_68 : decode cX12_once 68 = .ok (.iload_n 2, 1) := by decide +kernel
theorem dX12_once_69 : decode cX12_once 69 = .ok (.iconst (-1), 1) := by decide +kernel
theorem dX12_once_70 : decode cX12_once 70 = .ok (.if_icmp .ne 7, 3) := by decide +kernel
theorem dX12_once_73 : decode cX12_once 73 = .ok (.iload_n 3, 1) := by decide +kernel
theorem dX12_once_74 : decode cX12_once 74 = .ok (.goto 4, 3) := by decide +kernel
theorem dX12_once_77 : decode cX12_once 77 = .ok (.iconst (-1), 1) := by decide +kernel
theorem dX12_once_78 : decode cX12_once 78 = .ok (.ireturn, 1) := by decide +kernel
theorem dX12_probe_0 : decode cX12_probe 0 = .ok (.aload_n 0, 1) := by decide +kernel
theorem dX12_probe_1 : decode cX12_probe 1 = .ok (.iconst 0, 1) := by decide +kernel
theorem dX12_probe_2 : decode cX12_probe 2 = .ok (.putfield 91, 3) := by decide +kernel
theorem dX12_probe_5 : decode cX12_probe 5 = .ok (.aload_n 0, 1) := by decide +kernel
theorem dX12_probe_6 : decode cX12_probe 6 = .ok (.iload_n 1, 1) := by decide +kernel
theorem dX12_probe_7 : decode cX12_probe 7 = .ok (.invokevirtual 433, 3) := by decide +kernel
theorem dX12_probe_10 : decode cX12_probe 10 = .ok (.ifCond .eq 12, 3) := by decide +kernel
theorem dX12_probe_13 : decode cX12_probe 13 = .ok (.aload_n 0, 1) := by decide +kernel
theorem dX12_probe_14 : decode cX12_probe 14 = .ok (.iload_n 1, 1) := by decide +kernel
theorem dX12_probe_15 : decode cX12_probe 15 = .ok (.iconst (-1), 1) := by decide +kernel
theorem dX12_probe_16 : decode cX12_probe 16 = .ok (.invokevirtual 442, 3) := by decide +kernel
theorem dX12_probe_19 : decode cX12_probe 19 = .ok (.ifCond .ne 5, 3) := by decide +kernel
theorem dX12_probe_22 : decode cX12_probe 22 = .ok (.iconst (-1), 1) := by decide +kernel
theorem dX12_probe_23 : decode cX12_probe 23 = .ok (.ireturn, 1) := by decide +kernel
theorem dX12_probe_24 : decode cX12_probe 24 = .ok (.iconst (-1), 1) := by decide +kernel
theorem dX12_probe_25 : decode cX12_probe 25 = .ok (.istore_n 2, 1) := by decide +kernel
theorem dX12_probe_26 : decode cX12_probe 26 = .ok (.iconst 0, 1) := by decide +kernel
theorem dX12_probe_27 : decode cX12_probe 27 = .ok (.istore_n 3, 1) := by decide +kernel
theorem dX12_probe_28 : decode cX12_probe 28 = .ok (.iconst 0, 1) := by decide +kernel
theorem dX12_probe_29 : decode cX12_probe 29 = .ok (.istore 4, 2) := by decide +kernel
theorem dX12_probe_31 : decode cX12_probe 31 = .ok (.iload 4, 2) := by decide +kernel
theorem dX12_probe_33 : decode cX12_probe 33 = .ok (.aload_n 0, 1) := by decide +kernel
theorem dX12_probe_34 : decode cX12_probe 34 = .ok (.getfield 294, 3) := by decide +kernel
theorem dX12_probe_37 : decode cX12_probe 37 = .ok (.if_icmp .ge 93, 3) := by decide +kernel
theorem dX12_probe_40 : decode cX12_probe 40 = .ok (.iconst 0, 1) := by decide +kernel
theorem dX12_probe_41 : decode cX12_probe 41 = .ok (.istore 5, 2) := by decide +kernel
theorem dX12_probe_43 : decode cX12_probe 43 = .ok (.iconst 0, 1) := by decide +kernel
theorem dX12_probe_44 : decode cX12_probe 44 = .ok (.istore 6, 2) := by decide +kernel
theorem dX12_probe_46 : decode cX12_probe 46 = .ok (.iload 6, 2) := by decide +kernel
theorem dX12_probe_48 : decode cX12_probe 48 = .ok (.aload_n 0, 1) := by decide +kernel
theorem dX12_probe_49 : decode cX12_probe 49 = .ok (.iload_n 1, 1) := by decide +kernel
theorem dX12_probe_50 : decode cX12_probe 50 = .ok (.invokevirtual 427, 3) := by decide +kernel
theorem dX12_probe_53 : decode cX12_probe 53 = .ok (.invokestatic 436, 3) := by decide +kernel
theorem dX12_probe_56 : decode cX12_probe 56 = .ok (.if_icmp .ge 41, 3) := by decide +kernel
theorem dX12_probe_59 : decode cX12_probe 59 = .ok (.aload_n 0, 1) := by decide +kernel
theorem dX12_probe_60 : decode cX12_probe 60 = .ok (.iload_n 1, 1) := by decide +kernel
theorem dX12_probe_61 : decode cX12_probe 61 = .ok (.iload 6, 2) := by decide +kernel
theorem dX12_probe_63 : decode cX12_probe 63 = .ok (.invokevirtual 439, 3) := by decide +kernel
theorem dX12_probe_66 : decode cX12_probe 66 = .ok (.ifCond .eq 25, 3) := by decide +kernel
theorem dX12_probe_69 : decode cX12_probe 69 = .ok (.iload 5, 2) := by decide +kernel
theorem dX12_probe_71 : decode cX12_probe 71 = .ok (.aload_n 0, 1) := by decide +kernel
theorem dX12_probe_72 : decode cX12_probe 72 = .ok (.iload_n 1, 1) := by decide +kernel
theorem dX12_probe_73 : decode cX12_probe 73 = .ok (.iload 6, 2) := by decide +kernel
theorem dX12_probe_75 : decode cX12_probe 75 = .ok (.iload 4, 2) := by decide +kernel
theorem dX12_probe_77 : decode cX12_probe 77 = .ok (.invokevirtual 430, 3) := by decide +kernel
theorem dX12_probe_80 : decode cX12_probe 80 = .ok (.ifCond .eq 7, 3) := by decide +kernel
theorem dX12_probe_83 : decode cX12_probe 83 = .ok (.iconst 1, 1) := by decide +kernel
theorem dX12_probe_84 : decode cX12_probe 84 = .ok (.goto 4, 3) := by decide +kernel
theorem dX12_probe_87 : decode cX12_probe 87 = .ok (.iconst (-1), 1) := by decide +kernel
theorem dX12_probe_88 : decode cX12_probe 88 = .ok (.iadd, 1) := by decide +kernel
theorem dX12_probe_89 : decode cX12_probe 89 = .ok (.istore 5, 2) := by decide +kernel
theorem dX12_probe_91 : decode cX12_probe 91 = .ok (.iinc 6 1, 3) := by decide +kernel
theorem dX12_probe_94 : decode cX12_probe 94 = .ok (.goto (-48), 3) := by decide +kernel
theorem dX12_probe_97 : decode cX12_probe 97 = .ok (.iload 5, 2) := by decide +kernel
theorem dX12_probe_99 : decode cX12_probe 99 = .ok (.invokestatic 445, 3) := by decide +kernel
theorem dX12_probe_102 : decode cX12_probe 102 = .ok (.istore 5, 2) := by decide +kernel
theorem dX12_probe_104 : decode cX12_probe 104 = .ok (.iload_n 2, 1) := by decide +kernel
theorem dX12_probe_105 : decode cX12_probe 105 = .ok (.iconst (-1), 1) := by decide +kernel
theorem dX12_probe_106 : decode cX12_probe 106 = .ok (.if_icmp .eq 12, 3) := by decide +kernel
theorem dX12_probe_109 : decode cX12_probe 109 = .ok (.iload 5, 2) := by decide +kernel
theorem dX12_probe_111 : decode cX12_probe 111 = .ok (.iload_n 3, 1) := by decide +kernel
theorem dX12_probe_112 : decode cX12_probe 112 = .ok (.if_icmp .lt 6, 3) := by decide +kernel
theorem dX12_probe_115 : decode cX12_probe 115 = .ok (.goto 9, 3) := by decide +kernel
theorem dX12_probe_118 : decode cX12_probe 118 = .ok (.iload 4, 2) := by decide +kernel
theorem dX12_probe_120 : decode cX12_probe 120 = .ok (.istore_n 2, 1) := by decide +kernel
theorem dX12_probe_121 : decode cX12_probe 121 = .ok (.iload 5, 2) := by decide +kernel
theorem dX12_probe_123 : decode cX12_probe 123 = .ok (.istore_n 3, 1) := by decide +kernel
theorem dX12_probe_124 : decode cX12_probe 124 = .ok (.iinc 4 1, 3) := by decide +kernel
theorem dX12_probe_127 : decode cX12_probe 127 = .ok (.goto (-96), 3) := by decide +kernel
theorem dX12_probe_130 : decode cX12_probe 130 = .ok (.iload_n 2, 1) := by decide +kernel
theorem dX12_probe_131 : decode cX12_probe 131 = .ok (.ireturn, 1) := by decide +kernel
theorem dX12_saves_0 : decode cX12_saves 0 = .ok (.aload_n 0, 1) := by decide +kernel
theorem dX12_saves_1 : decode cX12_saves 1 = .ok (.iconst 0, 1) := by decide +kernel
theorem dX12_saves_2 : decode cX12_saves 2 = .ok (.putfield 91, 3) := by decide +kernel
theorem dX12_saves_5 : decode cX12_saves 5 = .ok (.aload_n 0, 1) := by decide +kernel
theorem dX12_saves_6 : decode cX12_saves 6 = .ok (.iload_n 1, 1) := by decide +kernel
theorem dX12_saves_7 : decode cX12_saves 7 = .ok (.invokevirtual 433, 3) := by decide +kernel
theorem dX12_saves_10 : decode cX12_saves 10 = .ok (.ifCond .eq 13, 3) := by decide +kernel
theorem dX12_saves_13 : decode cX12_saves 13 = .ok (.iload_n 2, 1) := by decide +kernel
theorem dX12_saves_14 : decode cX12_saves 14 = .ok (.i2l, 1) := by decide +kernel
theorem dX12_saves_15 : decode cX12_saves 15 = .ok (.lconst 0, 1) := by decide +kernel
theorem dX12_saves_16 : decode cX12_saves 16 = .ok (.lconst 1, 1) := by decide +kernel
theorem dX12_saves_17 : decode cX12_saves 17 = .ok (.invokestatic 212, 3) := by decide +kernel
theorem dX12_saves_20 : decode cX12_saves 20 = .ok (.ifCond .ne 5, 3) := by decide +kernel
theorem dX12_saves_23 : decode cX12_saves 23 = .ok (.iconst (-1), 1) := by decide +kernel
theorem dX12_saves_24 : decode cX12_saves 24 = .ok (.ireturn, 1) := by decide +kernel
theorem dX12_saves_25 : decode cX12_saves 25 = .ok (.iconst (-1), 1) := by decide +kernel
theorem dX12_saves_26 : decode cX12_saves 26 = .ok (.istore_n 3, 1) := by decide +kernel
theorem dX12_saves_27 : decode cX12_saves 27 = .ok (.iconst 0, 1) := by decide +kernel
theorem dX12_saves_28 : decode cX12_saves 28 = .ok (.istore 4, 2) := by decide +kernel
theorem dX12_saves_30 : decode cX12_saves 30 = .ok (.iconst 0, 1) := by decide +kernel
theorem dX12_saves_31 : decode cX12_saves 31 = .ok (.istore 5, 2) := by decide +kernel
theorem dX12_saves_33 : decode cX12_saves 33 = .ok (.iload 5, 2) := by decide +kernel
theorem dX12_saves_35 : decode cX12_saves 35 = .ok (.aload_n 0, 1) := by decide +kernel
theorem dX12_saves_36 : decode cX12_saves 36 = .ok (.iload_n 1, 1) := by decide +kernel
theorem dX12_saves_37 : decode cX12_saves 37 = .ok (.invokevirtual 427, 3) := by decide +kernel
theorem dX12_saves_40 : decode cX12_saves 40 = .ok (.invokestatic 436, 3) := by decide +kernel
theorem dX12_saves_43 : decode cX12_saves 43 = .ok (.if_icmp .ge 87, 3) := by decide +kernel
theorem dX12_saves_46 : decode cX12_saves 46 = .ok (.aload_n 0, 1) := by decide +kernel
theorem dX12_saves_47 : decode cX12_saves 47 = .ok (.iload_n 1, 1) := by decide +kernel
theorem dX12_saves_48 : decode cX12_saves 48 = .ok (.iload 5, 2) := by decide +kernel
theorem dX12_saves_50 : decode cX12_saves 50 = .ok (.invokevirtual 439, 3) := by decide +kernel
theorem dX12_saves_53 : decode cX12_saves 53 = .ok (.ifCond .ne 6, 3) := by decide +kernel
theorem dX12_saves_56 : decode cX12_saves 56 = .ok (.goto 68, 3) := by decide +kernel
theorem dX12_saves_59 : decode cX12_saves 59 = .ok (.iconst 0, 1) := by decide +kernel
theorem dX12_saves_60 : decode cX12_saves 60 = .ok (.istore 6, 2) := by decide +kernel
theorem dX12_saves_62 : decode cX12_saves 62 = .ok (.iconst 0, 1) := by decide +kernel
theorem dX12_saves_63 : decode cX12_saves 63 = .ok (.istore 7, 2) := by decide +kernel
theorem dX12_saves_65 : decode cX12_saves 65 = .ok (.iload 7, 2) := by decide +kernel
theorem dX12_saves_67 : decode cX12_saves 67 = .ok (.aload_n 0, 1) := by decide +kernel
theorem dX12_saves_68 : decode cX12_saves 68 = .ok (.getfield 294, 3) := by decide +kernel
theorem dX12_saves_71 : decode cX12_saves 71 = .ok (.if_icmp .ge 31, 3) := by decide +kernel
theorem dX12_saves_74 : decode cX12_saves 74 = .ok (.iload 6, 2) := by decide +kernel
theorem dX12_saves_76 : decode cX12_saves 76 = .ok (.aload_n 0, 1) := by decide +kernel
theorem dX12_saves_77 : decode cX12_saves 77 = .ok (.iload_n 1, 1) := by decide +kernel
theorem dX12_saves_78 : decode cX12_saves 78 = .ok (.iload 5, 2) := by decide +kernel
theorem dX12_saves_80 : decode cX12_saves 80 = .ok (.iload 7, 2) := by decide +kernel
theorem dX12_saves_82 : decode cX12_saves 82 = .ok (.invokevirtual 430, 3) := by decide +kernel
theorem dX12_saves_85 : decode cX12_saves 85 = .ok (.ifCond .eq 7, 3) := by decide +kernel
theorem dX12_saves_88 : decode cX12_saves 88 = .ok (.iconst 1, 1) := by decide +kernel
theorem dX12_saves_89 : decode cX12_saves 89 = .ok (.goto 4, 3) := by decide +kernel
theorem dX12_saves_92 : decode cX12_saves 92 = .ok (.iconst 0, 1) := by decide +kernel
theorem dX12_saves_93 : decode cX12_saves 93 = .ok (.iadd, 1) := by decide +kernel
theorem dX12_saves_94 : decode cX12_saves 94 = .ok (.istore 6, 2) := by decide +kernel
theorem dX12_saves_96 : decode cX12_saves 96 = .ok (.iinc 7 1, 3) := by decide +kernel
theorem dX12_saves_99 : decode cX12_saves 99 = .ok (.goto (-34), 3) := by decide +kernel
theorem dX12_saves_102 : decode cX12_saves 102 = .ok (.iload_n 3, 1) := by decide +kernel
theorem dX12_saves_103 : decode cX12_saves 103 = .ok (.iconst (-1), 1) := by decide +kernel
theorem dX12_saves_104 : decode cX12_saves 104 = .ok (.if_icmp .eq 13, 3) := by decide +kernel
theorem dX12_saves_107 : decode cX12_saves 107 = .ok (.iload 6, 2) := by decide +kernel
theorem dX12_saves_109 : decode cX12_saves 109 = .ok (.iload 4, 2) := by decide +kernel
theorem dX12_saves_111 : decode cX12_saves 111 = .ok (.if_icmp .gt 6, 3) := by decide +kernel
theorem dX12_saves_114 : decode cX12_saves 114 = .ok (.goto 10, 3) := by decide +kernel
theorem dX12_saves_117 : decode cX12_saves 117 = .ok (.iload 5, 2) := by decide +kernel
theorem dX12_saves_119 : decode cX12_saves 119 = .ok (.istore_n 3, 1) := by decide +kernel
theorem dX12_saves_120 : decode cX12_saves 120 = .ok (.iload 6, 2) := by decide +kernel
theorem dX12_saves_122 : decode cX12_saves 122 = .ok (.istore 4, 2) := by decide +kernel
theorem dX12_saves_124 : decode cX12_saves 124 = .ok (.iinc 5 1, 3) := by decide +kernel
theorem dX12_saves_127 : decode cX12_saves 127 = .ok (.goto (-94), 3) := by decide +kernel
theorem dX12_saves_130 : decode cX12_saves 130 = .ok (.iload_n 3, 1) := by decide +kernel
theorem dX12_saves_131 : decode cX12_saves 131 = .ok (.iconst (-1), 1) := by decide +kernel
theorem dX12_saves_132 : decode cX12_saves 132 = .ok (.if_icmp .eq 7, 3) := by decide +kernel
theorem dX12_saves_135 : decode cX12_saves 135 = .ok (.iload_n 2, 1) := by decide +kernel
theorem dX12_saves_136 : decode cX12_saves 136 = .ok (.ifCond .ne 7, 3) := by decide +kernel
theorem dX12_saves_139 : decode cX12_saves 139 = .ok (.iload_n 3, 1) := by decide +kernel
theorem dX12_saves_140 : decode cX12_saves 140 = .ok (.goto 5, 3) := by decide +kernel
theorem dX12_saves_143 : decode cX12_saves 143 = .ok (.iload 4, 2) := by decide +kernel
theorem dX12_saves_145 : decode cX12_saves 145 = .ok (.ireturn, 1) := by decide +kernel
theorem dX12_leads_0 : decode cX12_leads 0 = .ok (.iconst 0, 1) := by decide +kernel
theorem dX12_leads_1 : decode cX12_leads 1 = .ok (.istore_n 2, 1) := by decide +kernel
theorem dX12_leads_2 : decode cX12_leads 2 = .ok (.iconst 0, 1) := by decide +kernel
theorem dX12_leads_3 : decode cX12_leads 3 = .ok (.istore_n 3, 1) := by decide +kernel
theorem dX12_leads_4 : decode cX12_leads 4 = .ok (.iload_n 3, 1) := by decide +kernel
theorem dX12_leads_5 : decode cX12_leads 5 = .ok (.aload_n 0, 1) := by decide +kernel
theorem dX12_leads_6 : decode cX12_leads 6 = .ok (.getfield 61, 3) := by decide +kernel
theorem dX12_leads_9 : decode cX12_leads 9 = .ok (.iload_n 1, 1) := by decide +kernel
theorem dX12_leads_10 : decode cX12_leads 10 = .ok (.invokestatic 323, 3) := by decide +kernel
theorem dX12_leads_13 : decode cX12_leads 13 = .ok (.if_icmp .ge 52, 3) := by decide +kernel
theorem dX12_leads_16 : decode cX12_leads 16 = .ok (.iload_n 2, 1) := by decide +kernel
theorem dX12_leads_17 : decode cX12_leads 17 = .ok (.aload_n 0, 1) := by decide +kernel
theorem dX12_leads_18 : decode cX12_leads 18 = .ok (.getfield 61, 3) := by decide +kernel
theorem dX12_leads_21 : decode cX12_leads 21 = .ok (.iload_n 1, 1) := by decide +kernel
theorem dX12_leads_22 : decode cX12_leads 22 = .ok (.iload_n 3, 1) := by decide +kernel
theorem dX12_leads_23 : decode cX12_leads 23 = .ok (.invokestatic 327, 3) := by decide +kernel
theorem dX12_leads_26 : decode cX12_leads 26 = .ok (.ifCond .le 30, 3) := by decide +kernel
theorem dX12_leads_29 : decode cX12_leads 29 = .ok (.aload_n 0, 1) := by decide +kernel
theorem dX12_leads_30 : decode cX12_leads 30 = .ok (.getfield 61, 3) := by decide +kernel
theorem dX12_leads_33 : decode cX12_leads 33 = .ok (.iload_n 1, 1) := by decide +kernel
theorem dX12_leads_34 : decode cX12_leads 34 = .ok (.iload_n 3, 1) := by decide +kernel
theorem dX12_leads_35 : decode cX12_leads 35 = .ok (.invokestatic 317, 3) := by decide +kernel
theorem dX12_leads_38 : decode cX12_leads 38 = .ok (.iconst 2, 1) := by decide +kernel
theorem dX12_leads_39 : decode cX12_leads 39 = .ok (.if_icmp .ne 17, 3) := by decide +kernel
theorem dX12_leads_42 : decode cX12_leads 42 = .ok (.iconst 1, 1) := by decide +kernel
theorem dX12_leads_43 : decode cX12_leads 43 = .ok (.aload_n 0, 1) := by decide +kernel
theorem dX12_leads_44 : decode cX12_leads 44 = .ok (.getfield 61, 3) := by decide +kernel
theorem dX12_leads_47 : decode cX12_leads 47 = .ok (.iload_n 1, 1) := by decide +kernel
theorem dX12_leads_48 : decode cX12_leads 48 = .ok (.iload_n 3, 1) := by decide +kernel
theorem dX12_leads_49 : decode cX12_leads 49 = .ok (.invokestatic 313, 3) := by decide +kernel
theorem dX12_leads_52 : decode cX12_leads 52 = .ok (.ishl, 1) := by decide +kernel
theorem dX12_leads_53 : decode cX12_leads 53 = .ok (.goto 4, 3) := by decide +kernel
theorem dX12_leads_56 : decode cX12_leads 56 = .ok (.iconst 0, 1) := by decide +kernel
theorem dX12_leads_57 : decode cX12_leads 57 = .ok (.ior, 1) := by decide +kernel
theorem dX12_leads_58 : decode cX12_leads 58 = .ok (.istore_n 2, 1) := by decide +kernel
theorem dX12_leads_59 : decode cX12_leads 59 = .ok (.iinc 3 1, 3) := by decide +kernel
theorem dX12_leads_62 : decode cX12_leads 62 = .ok (.goto (-58), 3) := by decide +kernel
theorem dX12_leads_65 : decode cX12_leads 65 = .ok (.iload_n 2, 1) := by decide +kernel
theorem dX12_leads_66 : decode cX12_leads 66 = .ok (.ireturn, 1) := by decide +kernel
theorem dX12_round_0 : decode cX12_round 0 = .ok (.aload_n 0, 1) := by decide +kernel
theorem dX12_round_1 : decode cX12_round 1 = .ok (.iconst 0, 1) := by decide +kernel
theorem dX12_round_2 : decode cX12_round 2 = .ok (.putfield 91, 3) := by decide +kernel
theorem dX12_round_5 : decode cX12_round 5 = .ok (.aload_n 0, 1) := by decide +kernel
theorem dX12_round_6 : decode cX12_round 6 = .ok (.getfield 297, 3) := by decide +kernel
theorem dX12_round_9 : decode cX12_round 9 = .ok (.ifCond .ne 5, 3) := by decide +kernel
theorem dX12_round_12 : decode cX12_round 12 = .ok (.iconst (-1), 1) := by decide +kernel
theorem dX12_round_13 : decode cX12_round 13 = .ok (.ireturn, 1) := by decide +kernel
theorem dX12_round_14 : decode cX12_round 14 = .ok (.iconst 0, 1) := by decide +kernel
theorem dX12_round_15 : decode cX12_round 15 = .ok (.istore_n 1, 1) := by decide +kernel
theorem dX12_round_16 : decode cX12_round 16 = .ok (.iconst 0, 1) := by decide +kernel
theorem dX12_round_17 : decode cX12_round 17 = .ok (.istore_n 2, 1) := by decide +kernel
theorem dX12_round_18 : decode cX12_round 18 = .ok (.iload_n 2, 1) := by decide +kernel
theorem dX12_round_19 : decode cX12_round 19 = .ok (.aload_n 0, 1) := by decide +kernel
theorem dX12_round_20 : decode cX12_round 20 = .ok (.getfield 297, 3) := by decide +kernel
theorem dX12_round_23 : decode cX12_round 23 = .ok (.if_icmp .ge 91, 3) := by decide +kernel
theorem dX12_round_26 : decode cX12_round 26 = .ok (.aload_n 0, 1) := by decide +kernel
theorem dX12_round_27 : decode cX12_round 27 = .ok (.iload_n 2, 1) := by decide +kernel
theorem dX12_round_28 : decode cX12_round 28 = .ok (.invokevirtual 448, 3) := by decide +kernel
theorem dX12_round_31 : decode cX12_round 31 = .ok (.istore_n 3, 1) := by decide +kernel
theorem dX12_round_32 : decode cX12_round 32 = .ok (.iconst 0, 1) := by decide +kernel
theorem dX12_round_33 : decode cX12_round 33 = .ok (.istore 4, 2) := by decide +kernel
theorem dX12_round_35 : decode cX12_round 35 = .ok (.iload 4, 2) := by decide +kernel
theorem dX12_round_37 : decode cX12_round 37 = .ok (.aload_n 0, 1) := by decide +kernel
theorem dX12_round_38 : decode cX12_round 38 = .ok (.getfield 297, 3) := by decide +kernel
theorem dX12_round_41 : decode cX12_round 41 = .ok (.if_icmp .ge 49, 3) := by decide +kernel
theorem dX12_round_44 : decode cX12_round 44 = .ok (.iconst 0, 1) := by decide +kernel
theorem dX12_round_45 : decode cX12_round 45 = .ok (.istore 5, 2) := by decide +kernel
theorem dX12_round_47 : decode cX12_round 47 = .ok (.iload 5, 2) := by decide +kernel
theorem dX12_round_49 : decode cX12_round 49 = .ok (.aload_n 0, 1) := by decide +kernel
theorem dX12_round_50 : decode cX12_round 50 = .ok (.getfield 297, 3) := by decide +kernel
theorem dX12_round_53 : decode cX12_round 53 = .ok (.if_icmp .ge 31, 3) := by decide +kernel
theorem dX12_round_56 : decode cX12_round 56 = .ok (.iload_n 3, 1) := by decide +kernel
theorem dX12_round_57 : decode cX12_round 57 = .ok (.iload_n 3, 1) := by decide +kernel
theorem dX12_round_58 : decode cX12_round 58 = .ok (.iload 5, 2) := by decide +kernel
theorem dX12_round_60 : decode cX12_round 60 = .ok (.invokestatic 224, 3) := by decide +kernel
theorem dX12_round_63 : decode cX12_round 63 = .ok (.ifCond .eq 12, 3) := by decide +kernel
theorem dX12_round_66 : decode cX12_round 66 = .ok (.aload_n 0, 1) := by decide +kernel
theorem dX12_round_67 : decode cX12_round 67 = .ok (.iload 5, 2) := by decide +kernel
theorem dX12_round_69 : decode cX12_round 69 = .ok (.invokevirtual 448, 3) := by decide +kernel
theorem dX12_round_72 : decode cX12_round 72 = .ok (.goto 4, 3) := by decide +kernel
theorem dX12_round_75 : decode cX12_round 75 = .ok (.iconst 0, 1) := by decide +kernel
theorem dX12_round_76 : decode cX12_round 76 = .ok (.ior, 1) := by decide +kernel
theorem dX12_round_77 : decode cX12_round 77 = .ok (.istore_n 3, 1) := by decide +kernel
theorem dX12_round_78 : decode cX12_round 78 = .ok (.iinc 5 1, 3) := by decide +kernel
theorem dX12_round_81 : decode cX12_round 81 = .ok (.goto (-34), 3) := by decide +kernel
theorem dX12_round_84 : decode cX12_round 84 = .ok (.iinc 4 1, 3) := by decide +kernel
theorem dX12_round_87 : decode cX12_round 87 = .ok (.goto (-52), 3) := by decide +kernel
theorem dX12_round_90 : decode cX12_round 90 = .ok (.iload_n 1, 1) := by decide +kernel
theorem dX12_round_91 : decode cX12_round 91 = .ok (.iload_n 3, 1) := by decide +kernel
theorem dX12_round_92 : decode cX12_round 92 = .ok (.iload_n 2, 1) := by decide +kernel
theorem dX12_round_93 : decode cX12_round 93 = .ok (.invokestatic 224, 3) := by decide +kernel
theorem dX12_round_96 : decode cX12_round 96 = .ok (.ifCond .eq 9, 3) := by decide +kernel
theorem dX12_round_99 : decode cX12_round 99 = .ok (.iconst 1, 1) := by decide +kernel
theorem dX12_round_100 : decode cX12_round 100 = .ok (.iload_n 2, 1) := by decide +kernel
theorem dX12_round_101 : decode cX12_round 101 = .ok (.ishl, 1) := by decide +kernel
theorem dX12_round_102 : decode cX12_round 102 = .ok (.goto 4, 3) := by decide +kernel
theorem dX12_round_105 : decode cX12_round 105 = .ok (.iconst 0, 1) := by decide +kernel
theorem dX12_round_106 : decode cX12_round 106 = .ok (.ior, 1) := by decide +kernel
theorem dX12_round_107 : decode cX12_round 107 = .ok (.istore_n 1, 1) := by decide +kernel
theorem dX12_round_108 : decode cX12_round 108 = .ok (.iinc 2 1, 3) := by decide +kernel
theorem dX12_round_111 : decode cX12_round 111 = .ok (.goto (-93), 3) := by decide +kernel
theorem dX12_round_114 : decode cX12_round 114 = .ok (.iload_n 1, 1) := by decide +kernel
theorem dX12_round_115 : decode cX12_round 115 = .ok (.ireturn, 1) := by decide +kernel
theorem dX12_nowhere_0 : decode cX12_nowhere 0 = .ok (.aload_n 0, 1) := by decide +kernel
theorem dX12_nowhere_1 : decode cX12_nowhere 1 = .ok (.iconst 0, 1) := by decide +kernel
theorem dX12_nowhere_2 : decode cX12_nowhere 2 = .ok (.putfield 91, 3) := by decide +kernel
theorem dX12_nowhere_5 : decode cX12_nowhere 5 = .ok (.aload_n 0, 1) := by decide +kernel
theorem dX12_nowhere_6 : decode cX12_nowhere 6 = .ok (.getfield 297, 3) := by decide +kernel
theorem dX12_nowhere_9 : decode cX12_nowhere 9 = .ok (.ifCond .ne 5, 3) := by decide +kernel
theorem dX12_nowhere_12 : decode cX12_nowhere 12 = .ok (.iconst (-1), 1) := by decide +kernel
theorem dX12_nowhere_13 : decode cX12_nowhere 13 = .ok (.ireturn, 1) := by decide +kernel
theorem dX12_nowhere_14 : decode cX12_nowhere 14 = .ok (.iconst 0, 1) := by decide +kernel
theorem dX12_nowhere_15 : decode cX12_nowhere 15 = .ok (.istore_n 1, 1) := by decide +kernel
theorem dX12_nowhere_16 : decode cX12_nowhere 16 = .ok (.iconst 0, 1) := by decide +kernel
theorem dX12_nowhere_17 : decode cX12_nowhere 17 = .ok (.istore_n 2, 1) := by decide +kernel
theorem dX12_nowhere_18 : decode cX12_nowhere 18 = .ok (.iload_n 2, 1) := by decide +kernel
theorem dX12_nowhere_19 : decode cX12_nowhere 19 = .ok (.aload_n 0, 1) := by decide +kernel
theorem dX12_nowhere_20 : decode cX12_nowhere 20 = .ok (.getfield 297, 3) := by decide +kernel
theorem dX12_nowhere_23 : decode cX12_nowhere 23 = .ok (.if_icmp .ge 32, 3) := by decide +kernel
theorem dX12_nowhere_26 : decode cX12_nowhere 26 = .ok (.iload_n 1, 1) := by decide +kernel
theorem dX12_nowhere_27 : decode cX12_nowhere 27 = .ok (.aload_n 0, 1) := by decide +kernel
theorem dX12_nowhere_28 : decode cX12_nowhere 28 = .ok (.iload_n 2, 1) := by decide +kernel
theorem dX12_nowhere_29 : decode cX12_nowhere 29 = .ok (.invokevirtual 448, 3) := by decide +kernel
theorem dX12_nowhere_32 : decode cX12_nowhere 32 = .ok (.aload_n 0, 1) := by decide +kernel
theorem dX12_nowhere_33 : decode cX12_nowhere 33 = .ok (.getfield 297, 3) := by decide +kernel
theorem dX12_nowhere_36 : decode cX12_nowhere 36 = .ok (.ishr, 1) := by decide +kernel
theorem dX12_nowhere_37 : decode cX12_nowhere 37 = .ok (.ifCond .eq 9, 3) := by decide +kernel
theorem dX12_nowhere_40 : decode cX12_nowhere 40 = .ok (.iconst 1, 1) := by decide +kernel
theorem dX12_nowhere_41 : decode cX12_nowhere 41 = .ok (.iload_n 2, 1) := by decide +kernel
theorem dX12_nowhere_42 : decode cX12_nowhere 42 = .ok (.ishl, 1) := by decide +kernel
theorem dX12_nowhere_43 : decode cX12_nowhere 43 = .ok (.goto 4, 3) := by decide +kernel
theorem dX12_nowhere_46 : decode cX12_nowhere 46 = .ok (.iconst 0, 1) := by decide +kernel
theorem dX12_nowhere_47 : decode cX12_nowhere 47 = .ok (.ior, 1) := by decide +kernel
theorem dX12_nowhere_48 : decode cX12_nowhere 48 = .ok (.istore_n 1, 1) := by decide +kernel
theorem dX12_nowhere_49 : decode cX12_nowhere 49 = .ok (.iinc 2 1, 3) := by decide +kernel
theorem dX12_nowhere_52 : decode cX12_nowhere 52 = .ok (.goto (-34), 3) := by decide +kernel
theorem dX12_nowhere_55 : decode cX12_nowhere 55 = .ok (.iload_n 1, 1) := by decide +kernel
theorem dX12_nowhere_56 : decode cX12_nowhere 56 = .ok (.ireturn, 1) := by decide +kernel
theorem dX12_forged_0 : decode cX12_forged 0 = .ok (.aload_n 0, 1) := by decide +kernel
theorem dX12_forged_1 : decode cX12_forged 1 = .ok (.iconst 0, 1) := by decide +kernel
theorem dX12_forged_2 : decode cX12_forged 2 = .ok (.putfield 91, 3) := by decide +kernel
theorem dX12_forged_5 : decode cX12_forged 5 = .ok (.aload_n 0, 1) := by decide +kernel
theorem dX12_forged_6 : decode cX12_forged 6 = .ok (.getfield 297, 3) := by decide +kernel
theorem dX12_forged_9 : decode cX12_forged 9 = .ok (.ifCond .ne 5, 3) := by decide +kernel
theorem dX12_forged_12 : decode cX12_forged 12 = .ok (.iconst (-1), 1) := by decide +kernel
theorem dX12_forged_13 : decode cX12_forged 13 = .ok (.ireturn, 1) := by decide +kernel
theorem dX12_forged_14 : decode cX12_forged 14 = .ok (.iconst 0, 1) := by decide +kernel
theorem dX12_forged_15 : decode cX12_forged 15 = .ok (.istore_n 1, 1) := by decide +kernel
theorem dX12_forged_16 : decode cX12_forged 16 = .ok (.iconst 0, 1) := by decide +kernel
theorem dX12_forged_17 : decode cX12_forged 17 = .ok (.istore_n 2, 1) := by decide +kernel
theorem dX12_forged_18 : decode cX12_forged 18 = .ok (.iload_n 2, 1) := by decide +kernel
theorem dX12_forged_19 : decode cX12_forged 19 = .ok (.aload_n 0, 1) := by decide +kernel
theorem dX12_forged_20 : decode cX12_forged 20 = .ok (.getfield 297, 3) := by decide +kernel
theorem dX12_forged_23 : decode cX12_forged 23 = .ok (.if_icmp .ge 136, 3) := by decide +kernel
theorem dX12_forged_26 : decode cX12_forged 26 = .ok (.iconst 0, 1) := by decide +kernel
theorem dX12_forged_27 : decode cX12_forged 27 = .ok (.istore_n 3, 1) := by decide +kernel
theorem dX12_forged_28 : decode cX12_forged 28 = .ok (.iconst 0, 1) := by decide +kernel
theorem dX12_forged_29 : decode cX12_forged 29 = .ok (.istore 4, 2) := by decide +kernel
theorem dX12_forged_31 : decode cX12_forged 31 = .ok (.iconst 0, 1) := by decide +kernel
theorem dX12_forged_32 : decode cX12_forged 32 = .ok (.istore 5, 2) := by decide +kernel
theorem dX12_forged_34 : decode cX12_forged 34 = .ok (.iload 5, 2) := by decide +kernel
theorem dX12_forged_36 : decode cX12_forged 36 = .ok (.aload_n 0, 1) := by decide +kernel
theorem dX12_forged_37 : decode cX12_forged 37 = .ok (.getfield 61, 3) := by decide +kernel
theorem dX12_forged_40 : decode cX12_forged 40 = .ok (.iload_n 2, 1) := by decide +kernel
theorem dX12_forged_41 : decode cX12_forged 41 = .ok (.invokestatic 323, 3) := by decide +kernel
theorem dX12_forged_44 : decode cX12_forged 44 = .ok (.if_icmp .ge 92, 3) := by decide +kernel
theorem dX12_forged_47 : decode cX12_forged 47 = .ok (.aload_n 0, 1) := by decide +kernel
theorem dX12_forged_48 : decode cX12_forged 48 = .ok (.getfield 61, 3) := by decide +kernel
theorem dX12_forged_51 : decode cX12_forged 51 = .ok (.iload_n 2, 1) := by decide +kernel
theorem dX12_forged_52 : decode cX12_forged 52 = .ok (.iload 5, 2) := by decide +kernel
theorem dX12_forged_54 : decode cX12_forged 54 = .ok (.invokestatic 327, 3) := by decide +kernel
theorem dX12_forged_57 : decode cX12_forged 57 = .ok (.ifCond .ne 6, 3) := by decide +kernel
theorem dX12_forged_60 : decode cX12_forged 60 = .ok (.goto 70, 3) := by decide +kernel
theorem dX12_forged_63 : decode cX12_forged 63 = .ok (.iload_n 3, 1) := by decide +kernel
theorem dX12_forged_64 : decode cX12_forged 64 = .ok (.aload_n 0, 1) := by decide +kernel
theorem dX12_forged_65 : decode cX12_forged 65 = .ok (.getfield 61, 3) := by decide +kernel
theorem dX12_forged_68 : decode cX12_forged 68 = .ok (.iload_n 2, 1) := by decide +kernel
theorem dX12_forged_69 : decode cX12_forged 69 = .ok (.iload 5, 2) := by decide +kernel
theorem dX12_forged_71 : decode cX12_forged 71 = .ok (.invokestatic 317, 3) := by decide +kernel
theorem dX12_forged_74 : decode cX12_forged 74 = .ok (.ifCond .ne 18, 3) := by decide +kernel
theorem dX12_forged_77 : decode cX12_forged 77 = .ok (.iconst 1, 1) := by decide +kernel
theorem dX12_forged_78 : decode cX12_forged 78 = .ok (.aload_n 0, 1) := by decide +kernel
theorem dX12_forged_79 : decode cX12_forged 79 = .ok (.getfield 61, 3) := by decide +kernel
theorem dX12_forged_82 : decode cX12_forged 82 = .ok (.iload_n 2, 1) := by decide +kernel
theorem dX12_forged_83 : decode cX12_forged 83 = .ok (.iload 5, 2) := by decide +kernel
theorem dX12_forged_85 : decode cX12_forged 85 = .ok (.invokestatic 313, 3) := by decide +kernel
theorem dX12_forged_88 : decode cX12_forged 88 = .ok (.ishl, 1) := by decide +kernel
theorem dX12_forged_89 : decode cX12_forged 89 = .ok (.goto 4, 3) := by decide +kernel
theorem dX12_forged_92 : decode cX12_forged 92 = .ok (.iconst 0, 1) := by decide +kernel
theorem dX12_forged_93 : decode cX12_forged 93 = .ok (.ior, 1) := by decide +kernel
theorem dX12_forged_94 : decode cX12_forged 94 = .ok (.istore_n 3, 1) := by decide +kernel
theorem dX12_forged_95 : decode cX12_forged 95 = .ok (.iload 4, 2) := by decide +kernel
theorem dX12_forged_97 : decode cX12_forged 97 = .ok (.aload_n 0, 1) := by decide +kernel
theorem dX12_forged_98 : decode cX12_forged 98 = .ok (.getfield 61, 3) := by decide +kernel
theorem dX12_forged_101 : decode cX12_forged 101 = .ok (.iload_n 2, 1) := by decide +kernel
theorem dX12_forged_102 : decode cX12_forged 102 = .ok (.iload 5, 2) := by decide +kernel
theorem dX12_forged_104 : decode cX12_forged 104 = .ok (.invokestatic 317, 3) := by decide +kernel
theorem dX12_forged_107 : decode cX12_forged 107 = .ok (.iconst 1, 1) := by decide +kernel
theorem dX12_forged_108 : decode cX12_forged 108 = .ok (.if_icmp .ne 18, 3) := by decide +kernel
theorem dX12_forged_111 : decode cX12_forged 111 = .ok (.iconst 1, 1) := by decide +kernel
theorem dX12_forged_112 : decode cX12_forged 112 = .ok (.aload_n 0, 1) := by decide +kernel
theorem dX12_forged_113 : decode cX12_forged 113 = .ok (.getfield 61, 3) := by decide +kernel
theorem dX12_forged_116 : decode cX12_forged 116 = .ok (.iload_n 2, 1) := by decide +kernel
theorem dX12_forged_117 : decode cX12_forged 117 = .ok (.iload 5, 2) := by decide +kernel
theorem dX12_forged_119 : decode cX12_forged 119 = .ok (.invokestatic 313, 3) := by decide +kernel
theorem dX12_forged_122 : decode cX12_forged 122 = .ok (.ishl, 1) := by decide +kernel
theorem dX12_forged_123 : decode cX12_forged 123 = .ok (.goto 4, 3) := by decide +kernel
theorem dX12_forged_126 : decode cX12_forged 126 = .ok (.iconst 0, 1) := by decide +kernel
theorem dX12_forged_127 : decode cX12_forged 127 = .ok (.ior, 1) := by decide +kernel
theorem dX12_forged_128 : decode cX12_forged 128 = .ok (.istore 4, 2) := by decide +kernel
theorem dX12_forged_130 : decode cX12_forged 130 = .ok (.iinc 5 1, 3) := by decide +kernel
theorem dX12_forged_133 : decode cX12_forged 133 = .ok (.goto (-99), 3) := by decide +kernel
theorem dX12_forged_136 : decode cX12_forged 136 = .ok (.iload_n 1, 1) := by decide +kernel
theorem dX12_forged_137 : decode cX12_forged 137 = .ok (.iload_n 3, 1) := by decide +kernel
theorem dX12_forged_138 : decode cX12_forged 138 = .ok (.iload 4, 2) := by decide +kernel
theorem dX12_forged_140 : decode cX12_forged 140 = .ok (.iand, 1) := by decide +kernel
theorem dX12_forged_141 : decode cX12_forged 141 = .ok (.ifCond .eq 9, 3) := by decide +kernel
theorem dX12_forged_144 : decode cX12_forged 144 = .ok (.iconst 1, 1) := by decide +kernel
theorem dX12_forged_145 : decode cX12_forged 145 = .ok (.iload_n 2, 1) := by decide +kernel
theorem dX12_forged_146 : decode cX12_forged 146 = .ok (.ishl, 1) := by decide +kernel
theorem dX12_forged_147 : decode cX12_forged 147 = .ok (.goto 4, 3) := by decide +kernel
theorem dX12_forged_150 : decode cX12_forged 150 = .ok (.iconst 0, 1) := by decide +kernel
theorem dX12_forged_151 : decode cX12_forged 151 = .ok (.ior, 1) := by decide +kernel
theorem dX12_forged_152 : decode cX12_forged 152 = .ok (.istore_n 1, 1) := by decide +kernel
theorem dX12_forged_153 : decode cX12_forged 153 = .ok (.iinc 2 1, 3) := by decide +kernel
theorem dX12_forged_156 : decode cX12_forged 156 = .ok (.goto (-138), 3) := by decide +kernel
theorem dX12_forged_159 : decode cX12_forged 159 = .ok (.iload_n 1, 1) := by decide +kernel
theorem dX12_forged_160 : decode cX12_forged 160 = .ok (.ireturn, 1) := by decide +kernel
theorem dX12_alone_0 : decode cX12_alone 0 = .ok (.aload_n 0, 1) := by decide +kernel
theorem dX12_alone_1 : decode cX12_alone 1 = .ok (.iconst 0, 1) := by decide +kernel
theorem dX12_alone_2 : decode cX12_alone 2 = .ok (.putfield 91, 3) := by decide +kernel
theorem dX12_alone_5 : decode cX12_alone 5 = .ok (.aload_n 0, 1) := by decide +kernel
theorem dX12_alone_6 : decode cX12_alone 6 = .ok (.iload_n 1, 1) := by decide +kernel
theorem dX12_alone_7 : decode cX12_alone 7 = .ok (.invokevirtual 359, 3) := by decide +kernel
theorem dX12_alone_10 : decode cX12_alone 10 = .ok (.ifCond .ne 5, 3) := by decide +kernel
theorem dX12_alone_13 : decode cX12_alone 13 = .ok (.iconst (-1), 1) := by decide +kernel
theorem dX12_alone_14 : decode cX12_alone 14 = .ok (.ireturn, 1) := by decide +kernel
theorem dX12_alone_15 : decode cX12_alone 15 = .ok (.iconst (-1), 1) := by decide +kernel
theorem dX12_alone_16 : decode cX12_alone 16 = .ok (.istore_n 2, 1) := by decide +kernel
theorem dX12_alone_17 : decode cX12_alone 17 = .ok (.iconst 0, 1) := by decide +kernel
theorem dX12_alone_18 : decode cX12_alone 18 = .ok (.istore_n 3, 1) := by decide +kernel
theorem dX12_alone_19 : decode cX12_alone 19 = .ok (.iload_n 3, 1) := by decide +kernel
theorem dX12_alone_20 : decode cX12_alone 20 = .ok (.bipush 64, 2) := by decide +kernel
theorem dX12_alone_22 : decode cX12_alone 22 = .ok (.if_icmp .ge 91, 3) := by decide +kernel
theorem dX12_alone_25 : decode cX12_alone 25 = .ok (.iload_n 2, 1) := by decide +kernel
theorem dX12_alone_26 : decode cX12_alone 26 = .ok (.iconst (-1), 1) := by decide +kernel
theorem dX12_alone_27 : decode cX12_alone 27 = .ok (.if_icmp .eq 17, 3) := by decide +kernel
theorem dX12_alone_30 : decode cX12_alone 30 = .ok (.iload_n 3, 1) := by decide +kernel
theorem dX12_alone_31 : decode cX12_alone 31 = .ok (.invokestatic 422, 3) := by decide +kernel
theorem dX12_alone_34 : decode cX12_alone 34 = .ok (.iload_n 2, 1) := by decide +kernel
theorem dX12_alone_35 : decode cX12_alone 35 = .ok (.invokestatic 422, 3) := by decide +kernel
theorem dX12_alone_38 : decode cX12_alone 38 = .ok (.if_icmp .lt 6, 3) := by decide +kernel
theorem dX12_alone_41 : decode cX12_alone 41 = .ok (.goto 66, 3) := by decide +kernel
theorem dX12_alone_44 : decode cX12_alone 44 = .ok (.iconst 1, 1) := by decide +kernel
theorem dX12_alone_45 : decode cX12_alone 45 = .ok (.istore 4, 2) := by decide +kernel
theorem dX12_alone_47 : decode cX12_alone 47 = .ok (.iconst 0, 1) := by decide +kernel
theorem dX12_alone_48 : decode cX12_alone 48 = .ok (.istore 5, 2) := by decide +kernel
theorem dX12_alone_50 : decode cX12_alone 50 = .ok (.iload 5, 2) := by decide +kernel
theorem dX12_alone_52 : decode cX12_alone 52 = .ok (.aload_n 0, 1) := by decide +kernel
theorem dX12_alone_53 : decode cX12_alone 53 = .ok (.getfield 294, 3) := by decide +kernel
theorem dX12_alone_56 : decode cX12_alone 56 = .ok (.if_icmp .ge 44, 3) := by decide +kernel
theorem dX12_alone_59 : decode cX12_alone 59 = .ok (.iload 4, 2) := by decide +kernel
theorem dX12_alone_61 : decode cX12_alone 61 = .ok (.ifCond .eq 30, 3) := by decide +kernel
theorem dX12_alone_64 : decode cX12_alone 64 = .ok (.iload 5, 2) := by decide +kernel
theorem dX12_alone_66 : decode cX12_alone 66 = .ok (.iload_n 1, 1) := by decide +kernel
theorem dX12_alone_67 : decode cX12_alone 67 = .ok (.if_icmp .eq 20, 3) := by decide +kernel
theorem dX12_alone_70 : decode cX12_alone 70 = .ok (.aload_n 0, 1) := by decide +kernel
theorem dX12_alone_71 : decode cX12_alone 71 = .ok (.iload 5, 2) := by decide +kernel
theorem dX12_alone_73 : decode cX12_alone 73 = .ok (.invokevirtual 320, 3) := by decide +kernel
theorem dX12_alone_76 : decode cX12_alone 76 = .ok (.aload_n 0, 1) := by decide +kernel
theorem dX12_alone_77 : decode cX12_alone 77 = .ok (.iload_n 1, 1) := by decide +kernel
theorem dX12_alone_78 : decode cX12_alone 78 = .ok (.invokevirtual 320, 3) := by decide +kernel
theorem dX12_alone_81 : decode cX12_alone 81 = .ok (.ixor, 1) := by decide +kernel
theorem dX12_alone_82 : decode cX12_alone 82 = .ok (.iload_n 3, 1) := by decide +kernel
theorem dX12_alone_83 : decode cX12_alone 83 = .ok (.iand, 1) := by decide +kernel
theorem dX12_alone_84 : decode cX12_alone 84 = .ok (.ifCond .eq 7, 3) := by decide +kernel
theorem dX12_alone_87 : decode cX12_alone 87 = .ok (.iconst 1, 1) := by decide +kernel
theorem dX12_alone_88 : decode cX12_alone 88 = .ok (.goto 4, 3) := by decide +kernel
theorem dX12_alone_91 : decode cX12_alone 91 = .ok (.iconst 0, 1) := by decide +kernel
theorem dX12_alone_92 : decode cX12_alone 92 = .ok (.istore 4, 2) := by decide +kernel
theorem dX12_alone_94 : decode cX12_alone 94 = .ok (.iinc 5 1, 3) := by decide +kernel
theorem dX12_alone_97 : decode cX12_alone 97 = .ok (.goto (-47), 3) := by decide +kernel
theorem dX12_alone_100 : decode cX12_alone 100 = .ok (.iload 4, 2) := by decide +kernel
theorem dX12_alone_102 : decode cX12_alone 102 = .ok (.ifCond .eq 5, 3) := by decide +kernel
theorem dX12_alone_105 : decode cX12_alone 105 = .ok (.iload_n 3, 1) := by decide +kernel
theorem dX12_alone_106 : decode cX12_alone 106 = .ok (.istore_n 2, 1) := by decide +kernel
theorem dX12_alone_107 : decode cX12_alone 107 = .ok (.iinc 3 1, 3) := by decide +kernel
theorem dX12_alone_110 : decode cX12_alone 110 = .ok (.goto (-91), 3) := by decide +kernel
theorem dX12_alone_113 : decode cX12_alone 113 = .ok (.iload_n 2, 1) := by decide +kernel
theorem dX12_alone_114 : decode cX12_alone 114 = .ok (.ireturn, 1) := by decide +kernel
theorem dX12_suitsOf_0 : decode cX12_suitsOf 0 = .ok (.iconst 0, 1) := by decide +kernel
theorem dX12_suitsOf_1 : decode cX12_suitsOf 1 = .ok (.istore_n 2, 1) := by decide +kernel
theorem dX12_suitsOf_2 : decode cX12_suitsOf 2 = .ok (.iconst 0, 1) := by decide +kernel
theorem dX12_suitsOf_3 : decode cX12_suitsOf 3 = .ok (.istore_n 3, 1) := by decide +kernel
theorem dX12_suitsOf_4 : decode cX12_suitsOf 4 = .ok (.iload_n 3, 1) := by decide +kernel
theorem dX12_suitsOf_5 : decode cX12_suitsOf 5 = .ok (.aload_n 0, 1) := by decide +kernel
theorem dX12_suitsOf_6 : decode cX12_suitsOf 6 = .ok (.getfield 294, 3) := by decide +kernel
theorem dX12_suitsOf_9 : decode cX12_suitsOf 9 = .ok (.if_icmp .ge 32, 3) := by decide +kernel
theorem dX12_suitsOf_12 : decode cX12_suitsOf 12 = .ok (.iload_n 2, 1) := by decide +kernel
theorem dX12_suitsOf_13 : decode cX12_suitsOf 13 = .ok (.aload_n 0, 1) := by decide +kernel
theorem dX12_suitsOf_14 : decode cX12_suitsOf 14 = .ok (.aload_n 0, 1) := by decide +kernel
theorem dX12_suitsOf_15 : decode cX12_suitsOf 15 = .ok (.getfield 61, 3) := by decide +kernel
theorem dX12_suitsOf_18 : decode cX12_suitsOf 18 = .ok (.iload_n 1, 1) := by decide +kernel
theorem dX12_suitsOf_19 : decode cX12_suitsOf 19 = .ok (.iload_n 3, 1) := by decide +kernel
theorem dX12_suitsOf_20 : decode cX12_suitsOf 20 = .ok (.invokevirtual 334, 3) := by decide +kernel
theorem dX12_suitsOf_23 : decode cX12_suitsOf 23 = .ok (.ifCond .eq 9, 3) := by decide +kernel
theorem dX12_suitsOf_26 : decode cX12_suitsOf 26 = .ok (.iconst 1, 1) := by decide +kernel
theorem dX12_suitsOf_27 : decode cX12_suitsOf 27 = .ok (.iload_n 3, 1) := by decide +kernel
theorem dX12_suitsOf_28 : decode cX12_suitsOf 28 = .ok (.ishl, 1) := by decide +kernel
theorem dX12_suitsOf_29 : decode cX12_suitsOf 29 = .ok (.goto 4, 3) := by decide +kernel
theorem dX12_suitsOf_32 : decode cX12_suitsOf 32 = .ok (.iconst 0, 1) := by decide +kernel
theorem dX12_suitsOf_33 : decode cX12_suitsOf 33 = .ok (.ior, 1) := by decide +kernel
theorem dX12_suitsOf_34 : decode cX12_suitsOf 34 = .ok (.istore_n 2, 1) := by decide +kernel
theorem dX12_suitsOf_35 : decode cX12_suitsOf 35 = .ok (.iinc 3 1, 3) := by decide +kernel
theorem dX12_suitsOf_38 : decode cX12_suitsOf 38 = .ok (.goto (-34), 3) := by decide +kernel
theorem dX12_suitsOf_41 : decode cX12_suitsOf 41 = .ok (.iload_n 2, 1) := by decide +kernel
theorem dX12_suitsOf_42 : decode cX12_suitsOf 42 = .ok (.ireturn, 1) := by decide +kernel
theorem dX12_suits_0 : decode cX12_suits 0 = .ok (.aload_n 0, 1) := by decide +kernel
theorem dX12_suits_1 : decode cX12_suits 1 = .ok (.iconst 0, 1) := by decide +kernel
theorem dX12_suits_2 : decode cX12_suits 2 = .ok (.putfield 91, 3) := by decide +kernel
theorem dX12_suits_5 : decode cX12_suits 5 = .ok (.aload_n 0, 1) := by decide +kernel
theorem dX12_suits_6 : decode cX12_suits 6 = .ok (.iload_n 1, 1) := by decide +kernel
theorem dX12_suits_7 : decode cX12_suits 7 = .ok (.invokevirtual 362, 3) := by decide +kernel
theorem dX12_suits_10 : decode cX12_suits 10 = .ok (.ifCond .eq 11, 3) := by decide +kernel
theorem dX12_suits_13 : decode cX12_suits 13 = .ok (.aload_n 0, 1) := by decide +kernel
theorem dX12_suits_14 : decode cX12_suits 14 = .ok (.iload_n 1, 1) := by decide +kernel
theorem dX12_suits_15 : decode cX12_suits 15 = .ok (.invokevirtual 451, 3) := by decide +kernel
theorem dX12_suits_18 : decode cX12_suits 18 = .ok (.goto 4, 3) := by decide +kernel
theorem dX12_suits_21 : decode cX12_suits 21 = .ok (.iconst (-1), 1) := by decide +kernel
theorem dX12_suits_22 : decode cX12_suits 22 = .ok (.ireturn, 1) := by decide +kernel
theorem dX12_wanted_0 : decode cX12_wanted 0 = .ok (.aload_n 0, 1) := by decide +kernel
theorem dX12_wanted_1 : decode cX12_wanted 1 = .ok (.iconst 0, 1) := by decide +kernel
theorem dX12_wanted_2 : decode cX12_wanted 2 = .ok (.putfield 91, 3) := by decide +kernel
theorem dX12_wanted_5 : decode cX12_wanted 5 = .ok (.aload_n 0, 1) := by decide +kernel
theorem dX12_wanted_6 : decode cX12_wanted 6 = .ok (.getfield 297, 3) := by decide +kernel
theorem dX12_wanted_9 : decode cX12_wanted 9 = .ok (.ifCond .eq 13, 3) := by decide +kernel
theorem dX12_wanted_12 : decode cX12_wanted 12 = .ok (.iload_n 1, 1) := by decide +kernel
theorem dX12_wanted_13 : decode cX12_wanted 13 = .ok (.i2l, 1) := by decide +kernel
theorem dX12_wanted_14 : decode cX12_wanted 14 = .ok (.lconst 0, 1) := by decide +kernel
theorem dX12_wanted_15 : decode cX12_wanted 15 = .ok (.lconst 1, 1) := by decide +kernel
theorem dX12_wanted_16 : decode cX12_wanted 16 = .ok (.invokestatic 212, 3) := by decide +kernel
theorem dX12_wanted_19 : decode cX12_wanted 19 = .ok (.ifCond .ne 5, 3) := by decide +kernel
theorem dX12_wanted_22 : decode cX12_wanted 22 = .ok (.iconst (-1), 1) := by decide +kernel
theorem dX12_wanted_23 : decode cX12_wanted 23 = .ok (.ireturn, 1) := by decide +kernel
theorem dX12_wanted_24 : decode cX12_wanted 24 = .ok (.iconst 0, 1) := by decide +kernel
theorem dX12_wanted_25 : decode cX12_wanted 25 = .ok (.istore_n 2, 1) := by decide +kernel
theorem dX12_wanted_26 : decode cX12_wanted 26 = .ok (.iconst 1, 1) := by decide +kernel
theorem dX12_wanted_27 : decode cX12_wanted 27 = .ok (.istore_n 3, 1) := by decide +kernel
theorem dX12_wanted_28 : decode cX12_wanted 28 = .ok (.iload_n 3, 1) := by decide +kernel
theorem dX12_wanted_29 : decode cX12_wanted 29 = .ok (.aload_n 0, 1) := by decide +kernel
theorem dX12_wanted_30 : decode cX12_wanted 30 = .ok (.getfield 297, 3) := by decide +kernel
theorem dX12_wanted_33 : decode cX12_wanted 33 = .ok (.if_icmp .ge 30, 3) := by decide +kernel
theorem dX12_wanted_36 : decode cX12_wanted 36 = .ok (.aload_n 0, 1) := by decide +kernel
theorem dX12_wanted_37 : decode cX12_wanted 37 = .ok (.iload_n 3, 1) := by decide +kernel
theorem dX12_wanted_38 : decode cX12_wanted 38 = .ok (.invokevirtual 451, 3) := by decide +kernel
theorem dX12_wanted_41 : decode cX12_wanted 41 = .ok (.invokestatic 422, 3) := by decide +kernel
theorem dX12_wanted_44 : decode cX12_wanted 44 = .ok (.aload_n 0, 1) := by decide +kernel
theorem dX12_wanted_45 : decode cX12_wanted 45 = .ok (.iload_n 2, 1) := by decide +kernel
theorem dX12_wanted_46 : decode cX12_wanted 46 = .ok (.invokevirtual 451, 3) := by decide +kernel
theorem dX12_wanted_49 : decode cX12_wanted 49 = .ok (.invokestatic 422, 3) := by decide +kernel
theorem dX12_wanted_52 : decode cX12_wanted 52 = .ok (.if_icmp .ge 5, 3) := by decide +kernel
theorem dX12_wanted_55 : decode cX12_wanted 55 = .ok (.iload_n 3, 1) := by decide +kernel
theorem dX12_wanted_56 : decode cX12_wanted 56 = .ok (.istore_n 2, 1) := by decide +kernel
theorem dX12_wanted_57 : decode cX12_wanted 57 = .ok (.iinc 3 1, 3) := by decide +kernel
theorem dX12_wanted_60 : decode cX12_wanted 60 = .ok (.goto (-32), 3) := by decide +kernel
theorem dX12_wanted_63 : decode cX12_wanted 63 = .ok (.iload_n 1, 1) := by decide +kernel
theorem dX12_wanted_64 : decode cX12_wanted 64 = .ok (.ifCond .ne 7, 3) := by decide +kernel
theorem dX12_wanted_67 : decode cX12_wanted 67 = .ok (.iload_n 2, 1) := by decide +kernel
theorem dX12_wanted_68 : decode cX12_wanted 68 = .ok (.goto 11, 3) := by decide +kernel
theorem dX12_wanted_71 : decode cX12_wanted 71 = .ok (.aload_n 0, 1) := by decide +kernel
theorem dX12_wanted_72 : decode cX12_wanted 72 = .ok (.iload_n 2, 1) := by decide +kernel
theorem dX12_wanted_73 : decode cX12_wanted 73 = .ok (.invokevirtual 451, 3) := by decide +kernel
theorem dX12_wanted_76 : decode cX12_wanted 76 = .ok (.invokestatic 422, 3) := by decide +kernel
theorem dX12_wanted_79 : decode cX12_wanted 79 = .ok (.ireturn, 1) := by decide +kernel
theorem dX12_perhaps_0 : decode cX12_perhaps 0 = .ok (.aload_n 0, 1) := by decide +kernel
theorem dX12_perhaps_1 : decode cX12_perhaps 1 = .ok (.iconst 0, 1) := by decide +kernel
theorem dX12_perhaps_2 : decode cX12_perhaps 2 = .ok (.putfield 91, 3) := by decide +kernel
theorem dX12_perhaps_5 : decode cX12_perhaps 5 = .ok (.aload_n 0, 1) := by decide +kernel
theorem dX12_perhaps_6 : decode cX12_perhaps 6 = .ok (.getfield 297, 3) := by decide +kernel
theorem dX12_perhaps_9 : decode cX12_perhaps 9 = .ok (.ifCond .ne 5, 3) := by decide +kernel
theorem dX12_perhaps_12 : decode cX12_perhaps 12 = .ok (.iconst (-1), 1) := by decide +kernel
theorem dX12_perhaps_13 : decode cX12_perhaps 13 = .ok (.ireturn, 1) := by decide +kernel
theorem dX12_perhaps_14 : decode cX12_perhaps 14 = .ok (.iconst 0, 1) := by decide +kernel
theorem dX12_perhaps_15 : decode cX12_perhaps 15 = .ok (.istore_n 1, 1) := by decide +kernel
theorem dX12_perhaps_16 : decode cX12_perhaps 16 = .ok (.iconst 0, 1) := by decide +kernel
theorem dX12_perhaps_17 : decode cX12_perhaps 17 = .ok (.istore_n 2, 1) := by decide +kernel
theorem dX12_perhaps_18 : decode cX12_perhaps 18 = .ok (.iload_n 2, 1) := by decide +kernel
theorem dX12_perhaps_19 : decode cX12_perhaps 19 = .ok (.aload_n 0, 1) := by decide +kernel
theorem dX12_perhaps_20 : decode cX12_perhaps 20 = .ok (.getfield 297, 3) := by decide +kernel
theorem dX12_perhaps_23 : decode cX12_perhaps 23 = .ok (.if_icmp .ge 37, 3) := by decide +kernel
theorem dX12_perhaps_26 : decode cX12_perhaps 26 = .ok (.iload_n 1, 1) := by decide +kernel
theorem dX12_perhaps_27 : decode cX12_perhaps 27 = .ok (.iconst 2, 1) := by decide +kernel
theorem dX12_perhaps_28 : decode cX12_perhaps 28 = .ok (.aload_n 0, 1) := by decide +kernel
theorem dX12_perhaps_29 : decode cX12_perhaps 29 = .ok (.iload_n 2, 1) := by decide +kernel
theorem dX12_perhaps_30 : decode cX12_perhaps 30 = .ok (.invokevirtual 427, 3) := by decide +kernel
theorem dX12_perhaps_33 : decode cX12_perhaps 33 = .ok (.imul, 1) := by decide +kernel
theorem dX12_perhaps_34 : decode cX12_perhaps 34 = .ok (.aload_n 0, 1) := by decide +kernel
theorem dX12_perhaps_35 : decode cX12_perhaps 35 = .ok (.getfield 61, 3) := by decide +kernel
theorem dX12_perhaps_38 : decode cX12_perhaps 38 = .ok (.iload_n 2, 1) := by decide +kernel
theorem dX12_perhaps_39 : decode cX12_perhaps 39 = .ok (.invokestatic 323, 3) := by decide +kernel
theorem dX12_perhaps_42 : decode cX12_perhaps 42 = .ok (.if_icmp .lt 9, 3) := by decide +kernel
theorem dX12_perhaps_45 : decode cX12_perhaps 45 = .ok (.iconst 1, 1) := by decide +kernel
theorem dX12_perhaps_46 : decode cX12_perhaps 46 = .ok (.iload_n 2, 1) := by decide +kernel
theorem dX12_perhaps_47 : decode cX12_perhaps 47 = .ok (.ishl, 1) := by decide +kernel
theorem dX12_perhaps_48 : decode cX12_perhaps 48 = .ok (.goto 4, 3) := by decide +kernel
theorem dX12_perhaps_51 : decode cX12_perhaps 51 = .ok (.iconst 0, 1) := by decide +kernel
theorem dX12_perhaps_52 : decode cX12_perhaps 52 = .ok (.ior, 1) := by decide +kernel
theorem dX12_perhaps_53 : decode cX12_perhaps 53 = .ok (.istore_n 1, 1) := by decide +kernel
theorem dX12_perhaps_54 : decode cX12_perhaps 54 = .ok (.iinc 2 1, 3) := by decide +kernel
theorem dX12_perhaps_57 : decode cX12_perhaps 57 = .ok (.goto (-39), 3) := by decide +kernel
theorem dX12_perhaps_60 : decode cX12_perhaps 60 = .ok (.iload_n 1, 1) := by decide +kernel
theorem dX12_perhaps_61 : decode cX12_perhaps 61 = .ok (.ireturn, 1) := by decide +kernel
theorem dX12_shared_0 : decode cX12_shared 0 = .ok (.aload_n 0, 1) := by decide +kernel
theorem dX12_shared_1 : decode cX12_shared 1 = .ok (.iconst 0, 1) := by decide +kernel
theorem dX12_shared_2 : decode cX12_shared 2 = .ok (.putfield 91, 3) := by decide +kernel
theorem dX12_shared_5 : decode cX12_shared 5 = .ok (.aload_n 0, 1) := by decide +kernel
theorem dX12_shared_6 : decode cX12_shared 6 = .ok (.iload_n 1, 1) := by decide +kernel
theorem dX12_shared_7 : decode cX12_shared 7 = .ok (.invokevirtual 359, 3) := by decide +kernel
theorem dX12_shared_10 : decode cX12_shared 10 = .ok (.ifCond .eq 25, 3) := by decide +kernel
theorem dX12_shared_13 : decode cX12_shared 13 = .ok (.aload_n 0, 1) := by decide +kernel
theorem dX12_shared_14 : decode cX12_shared 14 = .ok (.iload_n 2, 1) := by decide +kernel
theorem dX12_shared_15 : decode cX12_shared 15 = .ok (.invokevirtual 359, 3) := by decide +kernel
theorem dX12_shared_18 : decode cX12_shared 18 = .ok (.ifCond .eq 17, 3) := by decide +kernel
theorem dX12_shared_21 : decode cX12_shared 21 = .ok (.aload_n 0, 1) := by decide +kernel
theorem dX12_shared_22 : decode cX12_shared 22 = .ok (.iload_n 1, 1) := by decide +kernel
theorem dX12_shared_23 : decode cX12_shared 23 = .ok (.invokevirtual 320, 3) := by decide +kernel
theorem dX12_shared_26 : decode cX12_shared 26 = .ok (.aload_n 0, 1) := by decide +kernel
theorem dX12_shared_27 : decode cX12_shared 27 = .ok (.iload_n 2, 1) := by decide +kernel
theorem dX12_shared_28 : decode cX12_shared 28 = .ok (.invokevirtual 320, 3) := by decide +kernel
theorem dX12_shared_31 : decode cX12_shared 31 = .ok (.iand, 1) := by decide +kernel
theorem dX12_shared_32 : decode cX12_shared 32 = .ok (.goto 4, 3) := by decide +kernel
theorem dX12_shared_35 : decode cX12_shared 35 = .ok (.iconst (-1), 1) := by decide +kernel
theorem dX12_shared_36 : decode cX12_shared 36 = .ok (.ireturn, 1) := by decide +kernel
theorem dX12_twins_0 : decode cX12_twins 0 = .ok (.aload_n 0, 1) := by decide +kernel
theorem dX12_twins_1 : decode cX12_twins 1 = .ok (.iconst 0, 1) := by decide +kernel
theorem dX12_twins_2 : decode cX12_twins 2 = .ok (.putfield 91, 3) := by decide +kernel
theorem dX12_twins_5 : decode cX12_twins 5 = .ok (.aload_n 0, 1) := by decide +kernel
theorem dX12_twins_6 : decode cX12_twins 6 = .ok (.getfield 297, 3) := by decide +kernel
theorem dX12_twins_9 : decode cX12_twins 9 = .ok (.ifCond .eq 8, 3) := by decide +kernel
theorem dX12_twins_12 : decode cX12_twins 12 = .ok (.iload_n 1, 1) := by decide +kernel
theorem dX12_twins_13 : decode cX12_twins 13 = .ok (.iconst (-1), 1) := by decide +kernel
theorem dX12_twins_14 : decode cX12_twins 14 = .ok (.if_icmp .ge 5, 3) := by decide +kernel
theorem dX12_twins_17 : decode cX12_twins 17 = .ok (.iconst (-1), 1) := by decide +kernel
theorem dX12_twins_18 : decode cX12_twins 18 = .ok (.ireturn, 1) := by decide +kernel
theorem dX12_twins_19 : decode cX12_twins 19 = .ok (.iconst 0, 1) := by decide +kernel
theorem dX12_twins_20 : decode cX12_twins 20 = .ok (.istore_n 2, 1) := by decide +kernel
theorem dX12_twins_21 : decode cX12_twins 21 = .ok (.iconst 0, 1) := by decide +kernel
theorem dX12_twins_22 : decode cX12_twins 22 = .ok (.istore_n 3, 1) := by decide +kernel
theorem dX12_twins_23 : decode cX12_twins 23 = .ok (.iload_n 3, 1) := by decide +kernel
theorem dX12_twins_24 : decode cX12_twins 24 = .ok (.aload_n 0, 1) := by decide +kernel
theorem dX12_twins_25 : decode cX12_twins 25 = .ok (.getfield 294, 3) := by decide +kernel
theorem dX12_twins_28 : decode cX12_twins 28 = .ok (.if_icmp .ge 62, 3) := by decide +kernel
theorem dX12_twins_31 : decode cX12_twins 31 = .ok (.iload_n 3, 1) := by decide +kernel
theorem dX12_twins_32 : decode cX12_twins 32 = .ok (.iconst 1, 1) := by decide +kernel
theorem dX12_twins_33 : decode cX12_twins 33 = .ok (.iadd, 1) := by decide +kernel
theorem dX12_twins_34 : decode cX12_twins 34 = .ok (.istore 4, 2) := by decide +kernel
theorem dX12_twins_36 : decode cX12_twins 36 = .ok (.iload 4, 2) := by decide +kernel
theorem dX12_twins_38 : decode cX12_twins 38 = .ok (.aload_n 0, 1) := by decide +kernel
theorem dX12_twins_39 : decode cX12_twins 39 = .ok (.getfield 294, 3) := by decide +kernel
theorem dX12_twins_42 : decode cX12_twins 42 = .ok (.if_icmp .ge 42, 3) := by decide +kernel
theorem dX12_twins_45 : decode cX12_twins 45 = .ok (.aload_n 0, 1) := by decide +kernel
theorem dX12_twins_46 : decode cX12_twins 46 = .ok (.iload_n 3, 1) := by decide +kernel
theorem dX12_twins_47 : decode cX12_twins 47 = .ok (.invokevirtual 320, 3) := by decide +kernel
theorem dX12_twins_50 : decode cX12_twins 50 = .ok (.aload_n 0, 1) := by decide +kernel
theorem dX12_twins_51 : decode cX12_twins 51 = .ok (.iload 4, 2) := by decide +kernel
theorem dX12_twins_53 : decode cX12_twins 53 = .ok (.invokevirtual 320, 3) := by decide +kernel
theorem dX12_twins_56 : decode cX12_twins 56 = .ok (.if_icmp .eq 6, 3) := by decide +kernel
theorem dX12_twins_59 : decode cX12_twins 59 = .ok (.goto 19, 3) := by decide +kernel
theorem dX12_twins_62 : decode cX12_twins 62 = .ok (.iload_n 2, 1) := by decide +kernel
theorem dX12_twins_63 : decode cX12_twins 63 = .ok (.iload_n 1, 1) := by decide +kernel
theorem dX12_twins_64 : decode cX12_twins 64 = .ok (.if_icmp .ne 11, 3) := by decide +kernel
theorem dX12_twins_67 : decode cX12_twins 67 = .ok (.bipush 10, 2) := by decide +kernel
theorem dX12_twins_69 : decode cX12_twins 69 = .ok (.iload_n 3, 1) := by decide +kernel
theorem dX12_twins_70 : decode cX12_twins 70 = .ok (.imul, 1) := by decide +kernel
theorem dX12_twins_71 : decode cX12_twins 71 = .ok (.iload 4, 2) := by decide +kernel
theorem dX12_twins_73 : decode cX12_twins 73 = .ok (.iadd, 1) := by decide +kernel
theorem dX12_twins_74 : decode cX12_twins 74 = .ok (.ireturn, 1) := by decide +kernel
theorem dX12_twins_75 : decode cX12_twins 75 = .ok (.iinc 2 1, 3) := by decide +kernel
theorem dX12_twins_78 : decode cX12_twins 78 = .ok (.iinc 4 1, 3) := by decide +kernel
theorem dX12_twins_81 : decode cX12_twins 81 = .ok (.goto (-45), 3) := by decide +kernel
theorem dX12_twins_84 : decode cX12_twins 84 = .ok (.iinc 3 1, 3) := by decide +kernel
theorem dX12_twins_87 : decode cX12_twins 87 = .ok (.goto (-64), 3) := by decide +kernel
theorem dX12_twins_90 : decode cX12_twins 90 = .ok (.iload_n 1, 1) := by decide +kernel
theorem dX12_twins_91 : decode cX12_twins 91 = .ok (.iconst (-1), 1) := by decide +kernel
theorem dX12_twins_92 : decode cX12_twins 92 = .ok (.if_icmp .ne 7, 3) := by decide +kernel
theorem dX12_twins_95 : decode cX12_twins 95 = .ok (.iload_n 2, 1) := by decide +kernel
theorem dX12_twins_96 : decode cX12_twins 96 = .ok (.goto 4, 3) := by decide +kernel
theorem dX12_twins_99 : decode cX12_twins 99 = .ok (.iconst (-1), 1) := by decide +kernel
theorem dX12_twins_100 : decode cX12_twins 100 = .ok (.ireturn, 1) := by decide +kernel
theorem dX12_oddsOf_0 : decode cX12_oddsOf 0 = .ok (.bipush 99, 2) := by decide +kernel
theorem dX12_oddsOf_2 : decode cX12_oddsOf 2 = .ok (.istore 4, 2) := by decide +kernel
theorem dX12_oddsOf_4 : decode cX12_oddsOf 4 = .ok (.iconst 0, 1) := by decide +kernel
theorem dX12_oddsOf_5 : decode cX12_oddsOf 5 = .ok (.istore 5, 2) := by decide +kernel
theorem dX12_oddsOf_7 : decode cX12_oddsOf 7 = .ok (.iload 5, 2) := by decide +kernel
theorem dX12_oddsOf_9 : decode cX12_oddsOf 9 = .ok (.aload_n 0, 1) := by decide +kernel
theorem dX12_oddsOf_10 : decode cX12_oddsOf 10 = .ok (.getfield 61, 3) := by decide +kernel
theorem dX12_oddsOf_13 : decode cX12_oddsOf 13 = .ok (.iload_n 1, 1) := by decide +kernel
theorem dX12_oddsOf_14 : decode cX12_oddsOf 14 = .ok (.invokestatic 323, 3) := by decide +kernel
theorem dX12_oddsOf_17 : decode cX12_oddsOf 17 = .ok (.if_icmp .ge 39, 3) := by decide +kernel
theorem dX12_oddsOf_20 : decode cX12_oddsOf 20 = .ok (.aload_n 0, 1) := by decide +kernel
theorem dX12_oddsOf_21 : decode cX12_oddsOf 21 = .ok (.getfield 61, 3) := by decide +kernel
theorem dX12_oddsOf_24 : decode cX12_oddsOf 24 = .ok (.iload_n 1, 1) := by decide +kernel
theorem dX12_oddsOf_25 : decode cX12_oddsOf 25 = .ok (.iload 5, 2) := by decide +kernel
theorem dX12_oddsOf_27 : decode cX12_oddsOf 27 = .ok (.invokestatic 327, 3) := by decide +kernel
theorem dX12_oddsOf_30 : decode cX12_oddsOf 30 = .ok (.ifCond .le 20, 3) := by decide +kernel
theorem dX12_oddsOf_33 : decode cX12_oddsOf 33 = .ok (.iload 4, 2) := by decide +kernel
theorem dX12_oddsOf_35 : decode cX12_oddsOf 35 = .ok (.aload_n 0, 1) := by decide +kernel
theorem dX12_oddsOf_36 : decode cX12_oddsOf 36 = .ok (.getfield 61, 3) := by decide +kernel
theorem dX12_oddsOf_39 : decode cX12_oddsOf 39 = .ok (.iload_n 1, 1) := by decide +kernel
theorem dX12_oddsOf_40 : decode cX12_oddsOf 40 = .ok (.iload 5, 2) := by decide +kernel
theorem dX12_oddsOf_42 : decode cX12_oddsOf 42 = .ok (.invokestatic 327, 3) := by decide +kernel
theorem dX12_oddsOf_45 : decode cX12_oddsOf 45 = .ok (.invokestatic 338, 3) := by decide +kernel
theorem dX12_oddsOf_48 : decode cX12_oddsOf 48 = .ok (.istore 4, 2) := by decide +kernel
theorem dX12_oddsOf_50 : decode cX12_oddsOf 50 = .ok (.iinc 5 1, 3) := by decide +kernel
theorem dX12_oddsOf_53 : decode cX12_oddsOf 53 = .ok (.goto (-46), 3) := by decide +kernel
theorem dX12_oddsOf_56 : decode cX12_oddsOf 56 = .ok (.iconst 0, 1) := by decide +kernel
theorem dX12_oddsOf_57 : decode cX12_oddsOf 57 = .ok (.istore 5, 2) := by decide +kernel
theorem dX12_oddsOf_59 : decode cX12_oddsOf 59 = .ok (.iload 5, 2) := by decide +kernel
theorem dX12_oddsOf_61 : decode cX12_oddsOf 61 = .ok (.bipush 32, 2) := by decide +kernel
theorem dX12_oddsOf_63 : decode cX12_oddsOf 63 = .ok (.if_icmp .ge 28, 3) := by decide +kernel
theorem dX12_oddsOf_66 : decode cX12_oddsOf 66 = .ok (.aload_n 0, 1) := by decide +kernel
theorem dX12_oddsOf_67 : decode cX12_oddsOf 67 = .ok (.getfield 84, 3) := by decide +kernel
theorem dX12_oddsOf_70 : decode cX12_oddsOf 70 = .ok (.iload 5, 2) := by decide +kernel
theorem dX12_oddsOf_72 : decode cX12_oddsOf 72 = .ok (.iload 5, 2) := by decide +kernel
theorem dX12_oddsOf_74 : decode cX12_oddsOf 74 = .ok (.ifCond .ne 9, 3) := by decide +kernel
theorem dX12_oddsOf_77 : decode cX12_oddsOf 77 = .ok (.ldc2_w 454, 3) := by decide +kernel
theorem dX12_oddsOf_80 : decode cX12_oddsOf 80 = .ok (.goto 4, 3) := by decide +kernel
theorem dX12_oddsOf_83 : decode cX12_oddsOf 83 = .ok (.lconst 0, 1) := by decide +kernel
theorem dX12_oddsOf_84 : decode cX12_oddsOf 84 = .ok (.lastore, 1) := by decide +kernel
theorem dX12_oddsOf_85 : decode cX12_oddsOf 85 = .ok (.iinc 5 1, 3) := by decide +kernel
theorem dX12_oddsOf_88 : decode cX12_oddsOf 88 = .ok (.goto (-29), 3) := by decide +kernel
theorem dX12_oddsOf_91 : decode cX12_oddsOf 91 = .ok (.iconst 0, 1) := by decide +kernel
theorem dX12_oddsOf_92 : decode cX12_oddsOf 92 = .ok (.istore 5, 2) := by decide +kernel
theorem dX12_oddsOf_94 : decode cX12_oddsOf 94 = .ok (.iload 5, 2) := by decide +kernel
theorem dX12_oddsOf_96 : decode cX12_oddsOf 96 = .ok (.iload_n 2, 1) := by decide +kernel
theorem dX12_oddsOf_97 : decode cX12_oddsOf 97 = .ok (.if_icmp .ge 66, 3) := by decide +kernel
theorem dX12_oddsOf_100 : decode cX12_oddsOf 100 = .ok (.iload 5, 2) := by decide +kernel
theorem dX12_oddsOf_102 : decode cX12_oddsOf 102 = .ok (.istore 6, 2) := by decide +kernel
theorem dX12_oddsOf_104 : decode cX12_oddsOf 104 = .ok (.iload 6, 2) := by decide +kernel
theorem dX12_oddsOf_106 : decode cX12_oddsOf 106 = .ok (.ifCond .lt 51, 3) := by decide +kernel
theorem dX12_oddsOf_109 : decode cX12_oddsOf 109 = .ok (.aload_n 0, 1) := by decide +kernel
theorem dX12_oddsOf_110 : decode cX12_oddsOf 110 = .ok (.getfield 84, 3) := by decide +kernel
theorem dX12_oddsOf_113 : decode cX12_oddsOf 113 = .ok (.iload 6, 2) := by decide +kernel
theorem dX12_oddsOf_115 : decode cX12_oddsOf 115 = .ok (.laload, 1) := by decide +kernel
theorem dX12_oddsOf_116 : decode cX12_oddsOf 116 = .ok (.iload_n 3, 1) := by decide +kernel
theorem dX12_oddsOf_117 : decode cX12_oddsOf 117 = .ok (.i2l, 1) := by decide +kernel
theorem dX12_oddsOf_118 : decode cX12_oddsOf 118 = .ok (.lmul, 1) := by decide +kernel
theorem dX12_oddsOf_119 : decode cX12_oddsOf 119 = .ok (.ldc2_w 456, 3) := by decide +kernel
theorem dX12_oddsOf_122 : decode cX12_oddsOf 122 = .ok (.ldiv, 1) := by decide +kernel
theorem dX12_oddsOf_123 : decode cX12_oddsOf 123 = .ok (.lstore 7, 2) := by decide +kernel
theorem dX12_oddsOf_125 : decode cX12_oddsOf 125 = .ok (.aload_n 0, 1) := by decide +kernel
theorem dX12_oddsOf_126 : decode cX12_oddsOf 126 = .ok (.getfield 84, 3) := by decide +kernel
theorem dX12_oddsOf_129 : decode cX12_oddsOf 129 = .ok (.iload 6, 2) := by decide +kernel
theorem dX12_oddsOf_131 : decode cX12_oddsOf 131 = .ok (.iconst 1, 1) := by decide +kernel
theorem dX12_oddsOf_132 : decode cX12_oddsOf 132 = .ok (.iadd, 1) := by decide +kernel
theorem dX12_oddsOf_133 : decode cX12_oddsOf 133 = .ok (.dup2, 1) := by decide +kernel
theorem dX12_oddsOf_134 : decode cX12_oddsOf 134 = .ok (.laload, 1) := by decide +kernel
theorem dX12_oddsOf_135 : decode cX12_oddsOf 135 = .ok (.lload 7, 2) := by decide +kernel
theorem dX12_oddsOf_137 : decode cX12_oddsOf 137 = .ok (.ladd, 1) := by decide +kernel
theorem dX12_oddsOf_138 : decode cX12_oddsOf 138 = .ok (.lastore, 1) := by decide +kernel
theorem dX12_oddsOf_139 : decode cX12_oddsOf 139 = .ok (.aload_n 0, 1) := by decide +kernel
theorem dX12_oddsOf_140 : decode cX12_oddsOf 140 = .ok (.getfield 84, 3) := by decide +kernel
theorem dX12_oddsOf_143 : decode cX12_oddsOf 143 = .ok (.iload 6, 2) := by decide +kernel
theorem dX12_oddsOf_145 : decode cX12_oddsOf 145 = .ok (.dup2, 1) := by decide +kernel
theorem dX12_oddsOf_146 : decode cX12_oddsOf 146 = .ok (.laload, 1) := by decide +kernel
theorem dX12_oddsOf_147 : decode cX12_oddsOf 147 = .ok (.lload 7, 2) := by decide +kernel
theorem dX12_oddsOf_149 : decode cX12_oddsOf 149 = .ok (.lsub, 1) := by decide +kernel
theorem dX12_oddsOf_150 : decode cX12_oddsOf 150 = .ok (.lastore, 1) := by decide +kernel
theorem dX12_oddsOf_151 : decode cX12_oddsOf 151 = .ok (.iinc 6 (-1), 3) := by decide +kernel
theorem dX12_oddsOf_154 : decode cX12_oddsOf 154 = .ok (.goto (-50), 3) := by decide +kernel
theorem dX12_oddsOf_157 : decode cX12_oddsOf 157 = .ok (.iinc 5 1, 3) := by decide +kernel
theorem dX12_oddsOf_160 : decode cX12_oddsOf 160 = .ok (.goto (-66), 3) := by decide +kernel
theorem dX12_oddsOf_163 : decode cX12_oddsOf 163 = .ok (.lconst 0, 1) := by decide +kernel
theorem dX12_oddsOf_164 : decode cX12_oddsOf 164 = .ok (.lstore 5, 2) := by decide +kernel
theorem dX12_oddsOf_166 : decode cX12_oddsOf 166 = .ok (.iconst 0, 1) := by decide +kernel
theorem dX12_oddsOf_167 : decode cX12_oddsOf 167 = .ok (.istore 7, 2) := by decide +kernel
theorem dX12_oddsOf_169 : decode cX12_oddsOf 169 = .ok (.iload 7, 2) := by decide +kernel
theorem dX12_oddsOf_171 : decode cX12_oddsOf 171 = .ok (.bipush 32, 2) := by decide +kernel
theorem dX12_oddsOf_173 : decode cX12_oddsOf 173 = .ok (.if_icmp .ge 28, 3) := by decide +kernel
theorem dX12_oddsOf_176 : decode cX12_oddsOf 176 = .ok (.iload 7, 2) := by decide +kernel
theorem dX12_oddsOf_178 : decode cX12_oddsOf 178 = .ok (.iload 4, 2) := by decide +kernel
theorem dX12_oddsOf_180 : decode cX12_oddsOf 180 = .ok (.if_icmp .ge 21, 3) := by decide +kernel
theorem dX12_oddsOf_183 : decode cX12_oddsOf 183 = .ok (.lload 5, 2) := by decide +kernel
theorem dX12_oddsOf_185 : decode cX12_oddsOf 185 = .ok (.aload_n 0, 1) := by decide +kernel
theorem dX12_oddsOf_186 : decode cX12_oddsOf 186 = .ok (.getfield 84, 3) := by decide +kernel
theorem dX12_oddsOf_189 : decode cX12_oddsOf 189 = .ok (.iload 7, 2) := by decide +kernel
theorem dX12_oddsOf_191 : decode cX12_oddsOf 191 = .ok (.laload, 1) := by decide +kernel
theorem dX12_oddsOf_192 : decode cX12_oddsOf 192 = .ok (.ladd, 1) := by decide +kernel
theorem dX12_oddsOf_193 : decode cX12_oddsOf 193 = .ok (.lstore 5, 2) := by decide +kernel
theorem dX12_oddsOf_195 : decode cX12_oddsOf 195 = .ok (.iinc 7 1, 3) := by decide +kernel
theorem dX12_oddsOf_198 : decode cX12_oddsOf 198 = .ok (.goto (-29), 3) := by decide +kernel
theorem dX12_oddsOf_201 : decode cX12_oddsOf 201 = .ok (.lload 5, 2) := by decide +kernel
theorem dX12_oddsOf_203 : decode cX12_oddsOf 203 = .ok (.l2i, 1) := by decide +kernel
theorem dX12_oddsOf_204 : decode cX12_oddsOf 204 = .ok (.ireturn, 1) := by decide +kernel
theorem dX12_odds_0 : decode cX12_odds 0 = .ok (.aload_n 0, 1) := by decide +kernel
theorem dX12_odds_1 : decode cX12_odds 1 = .ok (.iconst 0, 1) := by decide +kernel
theorem dX12_odds_2 : decode cX12_odds 2 = .ok (.putfield 91, 3) := by decide +kernel
theorem dX12_odds_5 : decode cX12_odds 5 = .ok (.aload_n 0, 1) := by decide +kernel
theorem dX12_odds_6 : decode cX12_odds 6 = .ok (.iload_n 1, 1) := by decide +kernel
theorem dX12_odds_7 : decode cX12_odds 7 = .ok (.invokevirtual 362, 3) := by decide +kernel
theorem dX12_odds_10 : decode cX12_odds 10 = .ok (.ifCond .eq 37, 3) := by decide +kernel
theorem dX12_odds_13 : decode cX12_odds 13 = .ok (.iload_n 2, 1) := by decide +kernel
theorem dX12_odds_14 : decode cX12_odds 14 = .ok (.i2l, 1) := by decide +kernel
theorem dX12_odds_15 : decode cX12_odds 15 = .ok (.lconst 0, 1) := by decide +kernel
theorem dX12_odds_16 : decode cX12_odds 16 = .ok (.ldc2_w 458, 3) := by decide +kernel
theorem dX12_odds_19 : decode cX12_odds 19 = .ok (.invokestatic 212, 3) := by decide +kernel
theorem dX12_odds_22 : decode cX12_odds 22 = .ok (.ifCond .eq 25, 3) := by decide +kernel
theorem dX12_odds_25 : decode cX12_odds 25 = .ok (.iload_n 3, 1) := by decide +kernel
theorem dX12_odds_26 : decode cX12_odds 26 = .ok (.i2l, 1) := by decide +kernel
theorem dX12_odds_27 : decode cX12_odds 27 = .ok (.lconst 0, 1) := by decide +kernel
theorem dX12_odds_28 : decode cX12_odds 28 = .ok (.ldc2_w 456, 3) := by decide +kernel
theorem dX12_odds_31 : decode cX12_odds 31 = .ok (.invokestatic 212, 3) := by decide +kernel
theorem dX12_odds_34 : decode cX12_odds 34 = .ok (.ifCond .eq 13, 3) := by decide +kernel
theorem dX12_odds_37 : decode cX12_odds 37 = .ok (.aload_n 0, 1) := by decide +kernel
theorem dX12_odds_38 : decode cX12_odds 38 = .ok (.iload_n 1, 1) := by decide +kernel
theorem dX12_odds_39 : decode cX12_odds 39 = .ok (.iload_n 2, 1) := by decide +kernel
theorem dX12_odds_40 : decode cX12_odds 40 = .ok (.iload_n 3, 1) := by decide +kernel
theorem dX12_odds_41 : decode cX12_odds 41 = .ok (.invokevirtual 460, 3) := by decide +kernel
theorem dX12_odds_44 : decode cX12_odds 44 = .ok (.goto 4, 3) := by decide +kernel
theorem dX12_odds_47 : decode cX12_odds 47 = .ok (.iconst (-1), 1) := by decide +kernel
theorem dX12_odds_48 : decode cX12_odds 48 = .ok (.ireturn, 1) := by decide +kernel
theorem dX12_rescue_0 : decode cX12_rescue 0 = .ok (.aload_n 0, 1) := by decide +kernel
theorem dX12_rescue_1 : decode cX12_rescue 1 = .ok (.iconst 0, 1) := by decide +kernel
theorem dX12_rescue_2 : decode cX12_rescue 2 = .ok (.putfield 91, 3) := by decide +kernel
theorem dX12_rescue_5 : decode cX12_rescue 5 = .ok (.aload_n 0, 1) := by decide +kernel
theorem dX12_rescue_6 : decode cX12_rescue 6 = .ok (.getfield 297, 3) := by decide +kernel
theorem dX12_rescue_9 : decode cX12_rescue 9 = .ok (.ifCond .eq 27, 3) := by decide +kernel
theorem dX12_rescue_12 : decode cX12_rescue 12 = .ok (.iload_n 1, 1) := by decide +kernel
theorem dX12_rescue_13 : decode cX12_rescue 13 = .ok (.i2l, 1) := by decide +kernel
theorem dX12_rescue_14 : decode cX12_rescue 14 = .ok (.lconst 0, 1) := by decide +kernel
theorem dX12_rescue_15 : decode cX12_rescue 15 = .ok (.ldc2_w 458, 3) := by decide +kernel
theorem dX12_rescue_18 : decode cX12_rescue 18 = .ok (.invokestatic 212, 3) := by decide +kernel
theorem dX12_rescue_21 : decode cX12_rescue 21 = .ok (.ifCond .eq 15, 3) := by decide +kernel
theorem dX12_rescue_24 : decode cX12_rescue 24 = .ok (.iload_n 2, 1) := by decide +kernel
theorem dX12_rescue_25 : decode cX12_rescue 25 = .ok (.i2l, 1) := by decide +kernel
theorem dX12_rescue_26 : decode cX12_rescue 26 = .ok (.lconst 0, 1) := by decide +kernel
theorem dX12_rescue_27 : decode cX12_rescue 27 = .ok (.ldc2_w 456, 3) := by decide +kernel
theorem dX12_rescue_30 : decode cX12_rescue 30 = .ok (.invokestatic 212, 3) := by decide +kernel
theorem dX12_rescue_33 : decode cX12_rescue 33 = .ok (.ifCond .ne 5, 3) := by decide +kernel
theorem dX12_rescue_36 : decode cX12_rescue 36 = .ok (.iconst (-1), 1) := by decide +kernel
theorem dX12_rescue_37 : decode cX12_rescue 37 = .ok (.ireturn, 1) := by decide +kernel
theorem dX12_rescue_38 : decode cX12_rescue 38 = .ok (.iconst (-1), 1) := by decide +kernel
theorem dX12_rescue_39 : decode cX12_rescue 39 = .ok (.istore_n 3, 1) := by decide +kernel
theorem dX12_rescue_40 : decode cX12_rescue 40 = .ok (.iconst 0, 1) := by decide +kernel
theorem dX12_rescue_41 : decode cX12_rescue 41 = .ok (.istore 4, 2) := by decide +kernel
theorem dX12_rescue_43 : decode cX12_rescue 43 = .ok (.iload 4, 2) := by decide +kernel
theorem dX12_rescue_45 : decode cX12_rescue 45 = .ok (.aload_n 0, 1) := by decide +kernel
theorem dX12_rescue_46 : decode cX12_rescue 46 = .ok (.getfield 297, 3) := by decide +kernel
theorem dX12_rescue_49 : decode cX12_rescue 49 = .ok (.if_icmp .ge 47, 3) := by decide +kernel
theorem dX12_rescue_52 : decode cX12_rescue 52 = .ok (.aload_n 0, 1) := by decide +kernel
theorem dX12_rescue_53 : decode cX12_rescue 53 = .ok (.getfield 61, 3) := by decide +kernel
theorem dX12_rescue_56 : decode cX12_rescue 56 = .ok (.iload 4, 2) := by decide +kernel
theorem dX12_rescue_58 : decode cX12_rescue 58 = .ok (.invokestatic 375, 3) := by decide +kernel
theorem dX12_rescue_61 : decode cX12_rescue 61 = .ok (.ifCond .le 29, 3) := by decide +kernel
theorem dX12_rescue_64 : decode cX12_rescue 64 = .ok (.iload_n 3, 1) := by decide +kernel
theorem dX12_rescue_65 : decode cX12_rescue 65 = .ok (.iconst (-1), 1) := by decide +kernel
theorem dX12_rescue_66 : decode cX12_rescue 66 = .ok (.if_icmp .eq 21, 3) := by decide +kernel
theorem dX12_rescue_69 : decode cX12_rescue 69 = .ok (.aload_n 0, 1) := by decide +kernel
theorem dX12_rescue_70 : decode cX12_rescue 70 = .ok (.iload 4, 2) := by decide +kernel
theorem dX12_rescue_72 : decode cX12_rescue 72 = .ok (.iload_n 1, 1) := by decide +kernel
theorem dX12_rescue_73 : decode cX12_rescue 73 = .ok (.iload_n 2, 1) := by decide +kernel
theorem dX12_rescue_74 : decode cX12_rescue 74 = .ok (.invokevirtual 460, 3) := by decide +kernel
theorem dX12_rescue_77 : decode cX12_rescue 77 = .ok (.aload_n 0, 1) := by decide +kernel
theorem dX12_rescue_78 : decode cX12_rescue 78 = .ok (.iload_n 3, 1) := by decide +kernel
theorem dX12_rescue_79 : decode cX12_rescue 79 = .ok (.iload_n 1, 1) := by decide +kernel
theorem dX12_rescue_80 : decode cX12_rescue 80 = .ok (.iload_n 2, 1) := by decide +kernel
theorem dX12_rescue_81 : decode cX12_rescue 81 = .ok (.invokevirtual 460, 3) := by decide +kernel
theorem dX12_rescue_84 : decode cX12_rescue 84 = .ok (.if_icmp .ge 6, 3) := by decide +kernel
theorem dX12_rescue_87 : decode cX12_rescue 87 = .ok (.iload 4, 2) := by decide +kernel
theorem dX12_rescue_89 : decode cX12_rescue 89 = .ok (.istore_n 3, 1) := by decide +kernel
theorem dX12_rescue_90 : decode cX12_rescue 90 = .ok (.iinc 4 1, 3) := by decide +kernel
theorem dX12_rescue_93 : decode cX12_rescue 93 = .ok (.goto (-50), 3) := by decide +kernel
theorem dX12_rescue_96 : decode cX12_rescue 96 = .ok (.iload_n 3, 1) := by decide +kernel
theorem dX12_rescue_97 : decode cX12_rescue 97 = .ok (.ireturn, 1) := by decide +kernel
theorem dX12_image_0 : decode cX12_image 0 = .ok (.aload_n 0, 1) := by decide +kernel
theorem dX12_image_1 : decode cX12_image 1 = .ok (.iconst 0, 1) := by decide +kernel
theorem dX12_image_2 : decode cX12_image 2 = .ok (.putfield 91, 3) := by decide +kernel
theorem dX12_image_5 : decode cX12_image 5 = .ok (.aload_n 0, 1) := by decide +kernel
theorem dX12_image_6 : decode cX12_image 6 = .ok (.getfield 297, 3) := by decide +kernel
theorem dX12_image_9 : decode cX12_image 9 = .ok (.ifCond .ne 5, 3) := by decide +kernel
theorem dX12_image_12 : decode cX12_image 12 = .ok (.iconst (-1), 1) := by decide +kernel
theorem dX12_image_13 : decode cX12_image 13 = .ok (.ireturn, 1) := by decide +kernel
theorem dX12_image_14 : decode cX12_image 14 = .ok (.aload_n 0, 1) := by decide +kernel
theorem dX12_image_15 : decode cX12_image 15 = .ok (.getfield 61, 3) := by decide +kernel
theorem dX12_image_18 : decode cX12_image 18 = .ok (.aload_n 0, 1) := by decide +kernel
theorem dX12_image_19 : decode cX12_image 19 = .ok (.getfield 88, 3) := by decide +kernel
theorem dX12_image_22 : decode cX12_image 22 = .ok (.invokestatic 413, 3) := by decide +kernel
theorem dX12_image_25 : decode cX12_image 25 = .ok (.aload_n 0, 1) := by decide +kernel
theorem dX12_image_26 : decode cX12_image 26 = .ok (.iconst 1, 1) := by decide +kernel
theorem dX12_image_27 : decode cX12_image 27 = .ok (.putfield 310, 3) := by decide +kernel
theorem dX12_image_30 : decode cX12_image 30 = .ok (.aload_n 0, 1) := by decide +kernel
theorem dX12_image_31 : decode cX12_image 31 = .ok (.getfield 61, 3) := by decide +kernel
theorem dX12_image_34 : decode cX12_image 34 = .ok (.bipush 122, 2) := by decide +kernel
theorem dX12_image_36 : decode cX12_image 36 = .ok (.iaload, 1) := by decide +kernel
theorem dX12_image_37 : decode cX12_image 37 = .ok (.ireturn, 1) := by decide +kernel
theorem dX12_back_0 : decode cX12_back 0 = .ok (.aload_n 0, 1) := by decide +kernel
theorem dX12_back_1 : decode cX12_back 1 = .ok (.iconst 0, 1) := by decide +kernel
theorem dX12_back_2 : decode cX12_back 2 = .ok (.putfield 91, 3) := by decide +kernel
theorem dX12_back_5 : decode cX12_back 5 = .ok (.aload_n 0, 1) := by decide +kernel
theorem dX12_back_6 : decode cX12_back 6 = .ok (.getfield 310, 3) := by decide +kernel
theorem dX12_back_9 : decode cX12_back 9 = .ok (.ifCond .ne 5, 3) := by decide +kernel
theorem dX12_back_12 : decode cX12_back 12 = .ok (.iconst (-1), 1) := by decide +kernel
theorem dX12_back_13 : decode cX12_back 13 = .ok (.ireturn, 1) := by decide +kernel
theorem dX12_back_14 : decode cX12_back 14 = .ok (.aload_n 0, 1) := by decide +kernel
theorem dX12_back_15 : decode cX12_back 15 = .ok (.getfield 88, 3) := by decide +kernel
theorem dX12_back_18 : decode cX12_back 18 = .ok (.aload_n 0, 1) := by decide +kernel
theorem dX12_back_19 : decode cX12_back 19 = .ok (.getfield 61, 3) := by decide +kernel
theorem dX12_back_22 : decode cX12_back 22 = .ok (.invokestatic 413, 3) := by decide +kernel
theorem dX12_back_25 : decode cX12_back 25 = .ok (.aload_n 0, 1) := by decide +kernel
theorem dX12_back_26 : decode cX12_back 26 = .ok (.iconst 0, 1) := by decide +kernel
theorem dX12_back_27 : decode cX12_back 27 = .ok (.putfield 307, 3) := by decide +kernel
theorem dX12_back_30 : decode cX12_back 30 = .ok (.aload_n 0, 1) := by decide +kernel
theorem dX12_back_31 : decode cX12_back 31 = .ok (.getfield 61, 3) := by decide +kernel
theorem dX12_back_34 : decode cX12_back 34 = .ok (.bipush 122, 2) := by decide +kernel
theorem dX12_back_36 : decode cX12_back 36 = .ok (.iaload, 1) := by decide +kernel
theorem dX12_back_37 : decode cX12_back 37 = .ok (.ireturn, 1) := by decide +kernel
theorem dX12_count_0 : decode cX12_count 0 = .ok (.aload_n 0, 1) := by decide +kernel
theorem dX12_count_1 : decode cX12_count 1 = .ok (.iconst 0, 1) := by decide +kernel
theorem dX12_count_2 : decode cX12_count 2 = .ok (.putfield 91, 3) := by decide +kernel
theorem dX12_count_5 : decode cX12_count 5 = .ok (.iload_n 1, 1) := by decide +kernel
theorem dX12_count_6 : decode cX12_count 6 = .ok (.tableswitch 175 0 13 #[70, 75, 80, 85, 90, 95, 100, 108, 116, 124, 129, 134, 162, 170], 70) := by decide +kernel
theorem dX12_count_76 : decode cX12_count 76 = .ok (.aload_n 0, 1) := by decide +kernel
theorem dX12_count_77 : decode cX12_count 77 = .ok (.getfield 297, 3) := by decide +kernel
theorem dX12_count_80 : decode cX12_count 80 = .ok (.ireturn, 1) := by decide +kernel
theorem dX12_count_81 : decode cX12_count 81 = .ok (.aload_n 0, 1) := by decide +kernel
theorem dX12_count_82 : decode cX12_count 82 = .ok (.getfield 294, 3) := by decide +kernel
theorem dX12_count_85 : decode cX12_count 85 = .ok (.ireturn, 1) := by decide +kernel
theorem dX12_count_86 : decode cX12_count 86 = .ok (.aload_n 0, 1) := by decide +kernel
theorem dX12_count_87 : decode cX12_count 87 = .ok (.getfield 286, 3) := by decide +kernel
theorem dX12_count_90 : decode cX12_count 90 = .ok (.ireturn, 1) := by decide +kernel
theorem dX12_count_91 : decode cX12_count 91 = .ok (.aload_n 0, 1) := by decide +kernel
theorem dX12_count_92 : decode cX12_count 92 = .ok (.getfield 289, 3) := by decide +kernel
theorem dX12_count_95 : decode cX12_count 95 = .ok (.ireturn, 1) := by decide +kernel
theorem dX12_count_96 : decode cX12_count 96 = .ok (.aload_n 0, 1) := by decide +kernel
theorem dX12_count_97 : decode cX12_count 97 = .ok (.getfield 104, 3) := by decide +kernel
theorem dX12_count_100 : decode cX12_count 100 = .ok (.ireturn, 1) := by decide +kernel
theorem dX12_count_101 : decode cX12_count 101 = .ok (.aload_n 0, 1) := by decide +kernel
theorem dX12_count_102 : decode cX12_count 102 = .ok (.getfield 67, 3) := by decide +kernel
theorem dX12_count_105 : decode cX12_count 105 = .ok (.ireturn, 1) := by decide +kernel
theorem dX12_count_106 : decode cX12_count 106 = .ok (.aload_n 0, 1) := by decide +kernel
theorem dX12_count_107 : decode cX12_count 107 = .ok (.getfield 61, 3) := by decide +kernel
theorem dX12_count_110 : decode cX12_count 110 = .ok (.bipush 122, 2) := by decide +kernel
theorem dX12_count_112 : decode cX12_count 112 = .ok (.iaload, 1) := by decide +kernel
theorem dX12_count_113 : decode cX12_count 113 = .ok (.ireturn, 1) := by decide +kernel
theorem dX12_count_114 : decode cX12_count 114 = .ok (.aload_n 0, 1) := by decide +kernel
theorem dX12_count_115 : decode cX12_count 115 = .ok (.getfield 61, 3) := by decide +kernel
theorem dX12_count_118 : decode cX12_count 118 = .ok (.bipush 120, 2) := by decide +kernel
theorem dX12_count_120 : decode cX12_count 120 = .ok (.iaload, 1) := by decide +kernel
theorem dX12_count_121 : decode cX12_count 121 = .ok (.ireturn, 1) := by decide +kernel
theorem dX12_count_122 : decode cX12_count 122 = .ok (.aload_n 0, 1) := by decide +kernel
theorem dX12_count_123 : decode cX12_count 123 = .ok (.getfield 61, 3) := by decide +kernel
theorem dX12_count_126 : decode cX12_count 126 = .ok (.bipush 121, 2) := by decide +kernel
theorem dX12_count_128 : decode cX12_count 128 = .ok (.iaload, 1) := by decide +kernel
theorem dX12_count_129 : decode cX12_count 129 = .ok (.ireturn, 1) := by decide +kernel
theorem dX12_count_130 : decode cX12_count 130 = .ok (.aload_n 0, 1) := by decide +kernel
theorem dX12_count_131 : decode cX12_count 131 = .ok (.getfield 369, 3) := by decide +kernel
theorem dX12_count_134 : decode cX12_count 134 = .ok (.ireturn, 1) := by decide +kernel
theorem dX12_count_135 : decode cX12_count 135 = .ok (.aload_n 0, 1) := by decide +kernel
theorem dX12_count_136 : decode cX12_count 136 = .ok (.getfield 304, 3) := by decide +kernel
theorem dX12_count_139 : decode cX12_count 139 = .ok (.ireturn, 1) := by decide +kernel
theorem dX12_count_140 : decode cX12_count 140 = .ok (.iconst 0, 1) := by decide +kernel
theorem dX12_count_141 : decode cX12_count 141 = .ok (.istore_n 2, 1) := by decide +kernel
theorem dX12_count_142 : decode cX12_count 142 = .ok (.iconst 0, 1) := by decide +kernel
theorem dX12_count_143 : decode cX12_count 143 = .ok (.istore_n 3, 1) := by decide +kernel
theorem dX12_count_144 : decode cX12_count 144 = .ok (.iload_n 3, 1) := by decide +kernel
theorem dX12_count_145 : decode cX12_count 145 = .ok (.aload_n 0, 1) := by decide +kernel
theorem dX12_count_146 : decode cX12_count 146 = .ok (.getfield 297, 3) := by decide +kernel
theorem dX12_count_149 : decode cX12_count 149 = .ok (.if_icmp .ge 17, 3) := by decide +kernel
theorem dX12_count_152 : decode cX12_count 152 = .ok (.iload_n 2, 1) := by decide +kernel
theorem dX12_count_153 : decode cX12_count 153 = .ok (.aload_n 0, 1) := by decide +kernel
theorem dX12_count_154 : decode cX12_count 154 = .ok (.iload_n 3, 1) := by decide +kernel
theorem dX12_count_155 : decode cX12_count 155 = .ok (.invokevirtual 427, 3) := by decide +kernel
theorem dX12_count_158 : decode cX12_count 158 = .ok (.iadd, 1) := by decide +kernel
theorem dX12_count_159 : decode cX12_count 159 = .ok (.istore_n 2, 1) := by decide +kernel
theorem dX12_count_160 : decode cX12_count 160 = .ok (.iinc 3 1, 3) := by decide +kernel
theorem dX12_count_163 : decode cX12_count 163 = .ok (.goto (-19), 3) := by decide +kernel
theorem dX12_count_166 : decode cX12_count 166 = .ok (.iload_n 2, 1) := by decide +kernel
theorem dX12_count_167 : decode cX12_count 167 = .ok (.ireturn, 1) := by decide +kernel
theorem dX12_count_168 : decode cX12_count 168 = .ok (.aload_n 0, 1) := by decide +kernel
theorem dX12_count_169 : decode cX12_count 169 = .ok (.getfield 61, 3) := by decide +kernel
theorem dX12_count_172 : decode cX12_count 172 = .ok (.bipush 123, 2) := by decide +kernel
theorem dX12_count_174 : decode cX12_count 174 = .ok (.iaload, 1) := by decide +kernel
theorem dX12_count_175 : decode cX12_count 175 = .ok (.ireturn, 1) := by decide +kernel
theorem dX12_count_176 : decode cX12_count 176 = .ok (.aload_n 0, 1) := by decide +kernel
theorem dX12_count_177 : decode cX12_count 177 = .ok (.getfield 307, 3) := by decide +kernel
theorem dX12_count_180 : decode cX12_count 180 = .ok (.ireturn, 1) := by decide +kernel
theorem dX12_count_181 : decode cX12_count 181 = .ok (.ldc_w 464, 3) := by decide +kernel
theorem dX12_count_184 : decode cX12_count 184 = .ok (.ireturn, 1) := by decide +kernel
theorem dJ11_isValidCodePoint_9a6ad_0 : decode cJ11_isValidCodePoint_9a6ad 0 = .ok (.iload_n 0, 1) := by decide +kernel
theorem dJ11_isValidCodePoint_9a6ad_1 : decode cJ11_isValidCodePoint_9a6ad 1 = .ok (.bipush 16, 2) := by decide +kernel
theorem dJ11_isValidCodePoint_9a6ad_3 : decode cJ11_isValidCodePoint_9a6ad 3 = .ok (.iushr, 1) := by decide +kernel
theorem dJ11_isValidCodePoint_9a6ad_4 : decode cJ11_isValidCodePoint_9a6ad 4 = .ok (.istore_n 1, 1) := by decide +kernel
theorem dJ11_isValidCodePoint_9a6ad_5 : decode cJ11_isValidCodePoint_9a6ad 5 = .ok (.iload_n 1, 1) := by decide +kernel
theorem dJ11_isValidCodePoint_9a6ad_6 : decode cJ11_isValidCodePoint_9a6ad 6 = .ok (.bipush 17, 2) := by decide +kernel
theorem dJ11_isValidCodePoint_9a6ad_8 : decode cJ11_isValidCodePoint_9a6ad 8 = .ok (.if_icmp .ge 7, 3) := by decide +kernel
theorem dJ11_isValidCodePoint_9a6ad_11 : decode cJ11_isValidCodePoint_9a6ad 11 = .ok (.iconst 1, 1) := by decide +kernel
theorem dJ11_isValidCodePoint_9a6ad_12 : decode cJ11_isValidCodePoint_9a6ad 12 = .ok (.goto 4, 3) := by decide +kernel
theorem dJ11_isValidCodePoint_9a6ad_15 : decode cJ11_isValidCodePoint_9a6ad 15 = .ok (.iconst 0, 1) := by decide +kernel
theorem dJ11_isValidCodePoint_9a6ad_16 : decode cJ11_isValidCodePoint_9a6ad 16 = .ok (.ireturn, 1) := by decide +kernel
theorem dJ11_highSurrogate_5068e_0 : decode cJ11_highSurrogate_5068e 0 = .ok (.iload_n 0, 1) := by decide +kernel
theorem dJ11_highSurrogate_5068e_1 : decode cJ11_highSurrogate_5068e 1 = .ok (.bipush 10, 2) := by decide +kernel
theorem dJ11_highSurrogate_5068e_3 : decode cJ11_highSurrogate_5068e 3 = .ok (.iushr, 1) := by decide +kernel
theorem dJ11_highSurrogate_5068e_4 : decode cJ11_highSurrogate_5068e 4 = .ok (.ldc 110, 2) := by decide +kernel
theorem dJ11_highSurrogate_5068e_6 : decode cJ11_highSurrogate_5068e 6 = .ok (.iadd, 1) := by decide +kernel
theorem dJ11_highSurrogate_5068e_7 : decode cJ11_highSurrogate_5068e 7 = .ok (.i2c, 1) := by decide +kernel
theorem dJ11_highSurrogate_5068e_8 : decode cJ11_highSurrogate_5068e 8 = .ok (.ireturn, 1) := by decide +kernel
theorem dJ11_lowSurrogate_5068e_0 : decode cJ11_lowSurrogate_5068e 0 = .ok (.iload_n 0, 1) := by decide +kernel
theorem dJ11_lowSurrogate_5068e_1 : decode cJ11_lowSurrogate_5068e 1 = .ok (.sipush 1023, 3) := by decide +kernel
theorem dJ11_lowSurrogate_5068e_4 : decode cJ11_lowSurrogate_5068e 4 = .ok (.iand, 1) := by decide +kernel
theorem dJ11_lowSurrogate_5068e_5 : decode cJ11_lowSurrogate_5068e 5 = .ok (.ldc 76, 2) := by decide +kernel
theorem dJ11_lowSurrogate_5068e_7 : decode cJ11_lowSurrogate_5068e 7 = .ok (.iadd, 1) := by decide +kernel
theorem dJ11_lowSurrogate_5068e_8 : decode cJ11_lowSurrogate_5068e 8 = .ok (.i2c, 1) := by decide +kernel
theorem dJ11_lowSurrogate_5068e_9 : decode cJ11_lowSurrogate_5068e 9 = .ok (.ireturn, 1) := by decide +kernel
theorem dJ6_bitCount_0f7a4_0 : decode cJ6_bitCount_0f7a4 0 = .ok (.iload_n 0, 1) := by decide +kernel
theorem dJ6_bitCount_0f7a4_1 : decode cJ6_bitCount_0f7a4 1 = .ok (.iload_n 0, 1) := by decide +kernel
theorem dJ6_bitCount_0f7a4_2 : decode cJ6_bitCount_0f7a4 2 = .ok (.iconst 1, 1) := by decide +kernel
theorem dJ6_bitCount_0f7a4_3 : decode cJ6_bitCount_0f7a4 3 = .ok (.iushr, 1) := by decide +kernel
theorem dJ6_bitCount_0f7a4_4 : decode cJ6_bitCount_0f7a4 4 = .ok (.ldc_w 265, 3) := by decide +kernel
theorem dJ6_bitCount_0f7a4_7 : decode cJ6_bitCount_0f7a4 7 = .ok (.iand, 1) := by decide +kernel
theorem dJ6_bitCount_0f7a4_8 : decode cJ6_bitCount_0f7a4 8 = .ok (.isub, 1) := by decide +kernel
theorem dJ6_bitCount_0f7a4_9 : decode cJ6_bitCount_0f7a4 9 = .ok (.istore_n 0, 1) := by decide +kernel
theorem dJ6_bitCount_0f7a4_10 : decode cJ6_bitCount_0f7a4 10 = .ok (.iload_n 0, 1) := by decide +kernel
theorem dJ6_bitCount_0f7a4_11 : decode cJ6_bitCount_0f7a4 11 = .ok (.ldc_w 266, 3) := by decide +kernel
theorem dJ6_bitCount_0f7a4_14 : decode cJ6_bitCount_0f7a4 14 = .ok (.iand, 1) := by decide +kernel
theorem dJ6_bitCount_0f7a4_15 : decode cJ6_bitCount_0f7a4 15 = .ok (.iload_n 0, 1) := by decide +kernel
theorem dJ6_bitCount_0f7a4_16 : decode cJ6_bitCount_0f7a4 16 = .ok (.iconst 2, 1) := by decide +kernel
theorem dJ6_bitCount_0f7a4_17 : decode cJ6_bitCount_0f7a4 17 = .ok (.iushr, 1) := by decide +kernel
theorem dJ6_bitCount_0f7a4_18 : decode cJ6_bitCount_0f7a4 18 = .ok (.ldc_w 266, 3) := by decide +kernel
theorem dJ6_bitCount_0f7a4_21 : decode cJ6_bitCount_0f7a4 21 = .ok (.iand, 1) := by decide +kernel
theorem dJ6_bitCount_0f7a4_22 : decode cJ6_bitCount_0f7a4 22 = .ok (.iadd, 1) := by decide +kernel
theorem dJ6_bitCount_0f7a4_23 : decode cJ6_bitCount_0f7a4 23 = .ok (.istore_n 0, 1) := by decide +kernel
theorem dJ6_bitCount_0f7a4_24 : decode cJ6_bitCount_0f7a4 24 = .ok (.iload_n 0, 1) := by decide +kernel
theorem dJ6_bitCount_0f7a4_25 : decode cJ6_bitCount_0f7a4 25 = .ok (.iload_n 0, 1) := by decide +kernel
theorem dJ6_bitCount_0f7a4_26 : decode cJ6_bitCount_0f7a4 26 = .ok (.iconst 4, 1) := by decide +kernel
theorem dJ6_bitCount_0f7a4_27 : decode cJ6_bitCount_0f7a4 27 = .ok (.iushr, 1) := by decide +kernel
theorem dJ6_bitCount_0f7a4_28 : decode cJ6_bitCount_0f7a4 28 = .ok (.iadd, 1) := by decide +kernel
theorem dJ6_bitCount_0f7a4_29 : decode cJ6_bitCount_0f7a4 29 = .ok (.ldc_w 267, 3) := by decide +kernel
theorem dJ6_bitCount_0f7a4_32 : decode cJ6_bitCount_0f7a4 32 = .ok (.iand, 1) := by decide +kernel
theorem dJ6_bitCount_0f7a4_33 : decode cJ6_bitCount_0f7a4 33 = .ok (.istore_n 0, 1) := by decide +kernel
theorem dJ6_bitCount_0f7a4_34 : decode cJ6_bitCount_0f7a4 34 = .ok (.iload_n 0, 1) := by decide +kernel
theorem dJ6_bitCount_0f7a4_35 : decode cJ6_bitCount_0f7a4 35 = .ok (.iload_n 0, 1) := by decide +kernel
theorem dJ6_bitCount_0f7a4_36 : decode cJ6_bitCount_0f7a4 36 = .ok (.bipush 8, 2) := by decide +kernel
theorem dJ6_bitCount_0f7a4_38 : decode cJ6_bitCount_0f7a4 38 = .ok (.iushr, 1) := by decide +kernel
theorem dJ6_bitCount_0f7a4_39 : decode cJ6_bitCount_0f7a4 39 = .ok (.iadd, 1) := by decide +kernel
theorem dJ6_bitCount_0f7a4_40 : decode cJ6_bitCount_0f7a4 40 = .ok (.istore_n 0, 1) := by decide +kernel
theorem dJ6_bitCount_0f7a4_41 : decode cJ6_bitCount_0f7a4 41 = .ok (.iload_n 0, 1) := by decide +kernel
theorem dJ6_bitCount_0f7a4_42 : decode cJ6_bitCount_0f7a4 42 = .ok (.iload_n 0, 1) := by decide +kernel
theorem dJ6_bitCount_0f7a4_43 : decode cJ6_bitCount_0f7a4 43 = .ok (.bipush 16, 2) := by decide +kernel
theorem dJ6_bitCount_0f7a4_45 : decode cJ6_bitCount_0f7a4 45 = .ok (.iushr, 1) := by decide +kernel
theorem dJ6_bitCount_0f7a4_46 : decode cJ6_bitCount_0f7a4 46 = .ok (.iadd, 1) := by decide +kernel
theorem dJ6_bitCount_0f7a4_47 : decode cJ6_bitCount_0f7a4 47 = .ok (.istore_n 0, 1) := by decide +kernel
theorem dJ6_bitCount_0f7a4_48 : decode cJ6_bitCount_0f7a4 48 = .ok (.iload_n 0, 1) := by decide +kernel
theorem dJ6_bitCount_0f7a4_49 : decode cJ6_bitCount_0f7a4 49 = .ok (.bipush 63, 2) := by decide +kernel
theorem dJ6_bitCount_0f7a4_51 : decode cJ6_bitCount_0f7a4 51 = .ok (.iand, 1) := by decide +kernel
theorem dJ6_bitCount_0f7a4_52 : decode cJ6_bitCount_0f7a4 52 = .ok (.ireturn, 1) := by decide +kernel
theorem dJ9_abs_0f7a4_0 : decode cJ9_abs_0f7a4 0 = .ok (.iload_n 0, 1) := by decide +kernel
theorem dJ9_abs_0f7a4_1 : decode cJ9_abs_0f7a4 1 = .ok (.ifCond .ge 8, 3) := by decide +kernel
theorem dJ9_abs_0f7a4_4 : decode cJ9_abs_0f7a4 4 = .ok (.iload_n 0, 1) := by decide +kernel
theorem dJ9_abs_0f7a4_5 : decode cJ9_abs_0f7a4 5 = .ok (.ineg, 1) := by decide +kernel
theorem dJ9_abs_0f7a4_6 : decode cJ9_abs_0f7a4 6 = .ok (.goto 4, 3) := by decide +kernel
theorem dJ9_abs_0f7a4_9 : decode cJ9_abs_0f7a4 9 = .ok (.iload_n 0, 1) := by decide +kernel
theorem dJ9_abs_0f7a4_10 : decode cJ9_abs_0f7a4 10 = .ok (.ireturn, 1) := by decide +kernel
theorem dJ9_max_7cf53_0 : decode cJ9_max_7cf53 0 = .ok (.iload_n 0, 1) := by decide +kernel
theorem dJ9_max_7cf53_1 : decode cJ9_max_7cf53 1 = .ok (.iload_n 1, 1) := by decide +kernel
theorem dJ9_max_7cf53_2 : decode cJ9_max_7cf53 2 = .ok (.if_icmp .lt 7, 3) := by decide +kernel
theorem dJ9_max_7cf53_5 : decode cJ9_max_7cf53 5 = .ok (.iload_n 0, 1) := by decide +kernel
theorem dJ9_max_7cf53_6 : decode cJ9_max_7cf53 6 = .ok (.goto 4, 3) := by decide +kernel
theorem dJ9_max_7cf53_9 : decode cJ9_max_7cf53 9 = .ok (.iload_n 1, 1) := by decide +kernel
theorem dJ9_max_7cf53_10 : decode cJ9_max_7cf53 10 = .ok (.ireturn, 1) := by decide +kernel
theorem dJ9_max_f86c9_0 : decode cJ9_max_f86c9 0 = .ok (.lload_n 0, 1) := by decide +kernel
theorem dJ9_max_f86c9_1 : decode cJ9_max_f86c9 1 = .ok (.lload_n 2, 1) := by decide +kernel
theorem dJ9_max_f86c9_2 : decode cJ9_max_f86c9 2 = .ok (.lcmp, 1) := by decide +kernel
theorem dJ9_max_f86c9_3 : decode cJ9_max_f86c9 3 = .ok (.ifCond .lt 7, 3) := by decide +kernel
theorem dJ9_max_f86c9_6 : decode cJ9_max_f86c9 6 = .ok (.lload_n 0, 1) := by decide +kernel
theorem dJ9_max_f86c9_7 : decode cJ9_max_f86c9 7 = .ok (.goto 4, 3) := by decide +kernel
theorem dJ9_max_f86c9_10 : decode cJ9_max_f86c9 10 = .ok (.lload_n 2, 1) := by decide +kernel
theorem dJ9_max_f86c9_11 : decode cJ9_max_f86c9 11 = .ok (.lreturn, 1) := by decide +kernel
theorem dJ9_min_7cf53_0 : decode cJ9_min_7cf53 0 = .ok (.iload_n 0, 1) := by decide +kernel
theorem dJ9_min_7cf53_1 : decode cJ9_min_7cf53 1 = .ok (.iload_n 1, 1) := by decide +kernel
theorem dJ9_min_7cf53_2 : decode cJ9_min_7cf53 2 = .ok (.if_icmp .gt 7, 3) := by decide +kernel
theorem dJ9_min_7cf53_5 : decode cJ9_min_7cf53 5 = .ok (.iload_n 0, 1) := by decide +kernel
theorem dJ9_min_7cf53_6 : decode cJ9_min_7cf53 6 = .ok (.goto 4, 3) := by decide +kernel
theorem dJ9_min_7cf53_9 : decode cJ9_min_7cf53 9 = .ok (.iload_n 1, 1) := by decide +kernel
theorem dJ9_min_7cf53_10 : decode cJ9_min_7cf53 10 = .ok (.ireturn, 1) := by decide +kernel
theorem dJ9_min_f86c9_0 : decode cJ9_min_f86c9 0 = .ok (.lload_n 0, 1) := by decide +kernel
theorem dJ9_min_f86c9_1 : decode cJ9_min_f86c9 1 = .ok (.lload_n 2, 1) := by decide +kernel
theorem dJ9_min_f86c9_2 : decode cJ9_min_f86c9 2 = .ok (.lcmp, 1) := by decide +kernel
theorem dJ9_min_f86c9_3 : decode cJ9_min_f86c9 3 = .ok (.ifCond .gt 7, 3) := by decide +kernel
theorem dJ9_min_f86c9_6 : decode cJ9_min_f86c9 6 = .ok (.lload_n 0, 1) := by decide +kernel
theorem dJ9_min_f86c9_7 : decode cJ9_min_f86c9 7 = .ok (.goto 4, 3) := by decide +kernel
theorem dJ9_min_f86c9_10 : decode cJ9_min_f86c9 10 = .ok (.lload_n 2, 1) := by decide +kernel
theorem dJ9_min_f86c9_11 : decode cJ9_min_f86c9 11 = .ok (.lreturn, 1) := by decide +kernel
theorem dJ0_length_8abf5_0 : decode cJ0_length_8abf5 0 = .ok (.aload_n 0, 1) := by decide +kernel
theorem dJ0_length_8abf5_1 : decode cJ0_length_8abf5 1 = .ok (.getfield 9, 3) := by decide +kernel
theorem dJ0_length_8abf5_4 : decode cJ0_length_8abf5 4 = .ok (.arraylength, 1) := by decide +kernel
theorem dJ0_length_8abf5_5 : decode cJ0_length_8abf5 5 = .ok (.aload_n 0, 1) := by decide +kernel
theorem dJ0_length_8abf5_6 : decode cJ0_length_8abf5 6 = .ok (.invokevirtual 335, 3) := by decide +kernel
theorem dJ0_length_8abf5_9 : decode cJ0_length_8abf5 9 = .ok (.ishr, 1) := by decide +kernel
theorem dJ0_length_8abf5_10 : decode cJ0_length_8abf5 10 = .ok (.ireturn, 1) := by decide +kernel
theorem dJ0_charAt_5068e_0 : decode cJ0_charAt_5068e 0 = .ok (.aload_n 0, 1) := by decide +kernel
theorem dJ0_charAt_5068e_1 : decode cJ0_charAt_5068e 1 = .ok (.invokevirtual 492, 3) := by decide +kernel
theorem dJ0_charAt_5068e_4 : decode cJ0_charAt_5068e 4 = .ok (.ifCond .eq 12, 3) := by decide +kernel
theorem dJ0_charAt_5068e_7 : decode cJ0_charAt_5068e 7 = .ok (.aload_n 0, 1) := by decide +kernel
theorem dJ0_charAt_5068e_8 : decode cJ0_charAt_5068e 8 = .ok (.getfield 9, 3) := by decide +kernel
theorem dJ0_charAt_5068e_11 : decode cJ0_charAt_5068e 11 = .ok (.iload_n 1, 1) := by decide +kernel
theorem dJ0_charAt_5068e_12 : decode cJ0_charAt_5068e 12 = .ok (.invokestatic 495, 3) := by decide +kernel
theorem dJ0_charAt_5068e_15 : decode cJ0_charAt_5068e 15 = .ok (.ireturn, 1) := by decide +kernel
theorem dJ0_charAt_5068e_16 : decode cJ0_charAt_5068e 16 = .ok (.aload_n 0, 1) := by decide +kernel
theorem dJ0_charAt_5068e_17 : decode cJ0_charAt_5068e 17 = .ok (.getfield 9, 3) := by decide +kernel
theorem dJ0_charAt_5068e_20 : decode cJ0_charAt_5068e 20 = .ok (.iload_n 1, 1) := by decide +kernel
theorem dJ0_charAt_5068e_21 : decode cJ0_charAt_5068e 21 = .ok (.invokestatic 498, 3) := by decide +kernel
theorem dJ0_charAt_5068e_24 : decode cJ0_charAt_5068e 24 = .ok (.ireturn, 1) := by decide +kernel
theorem dJ0_indexOf_0f7a4_0 : decode cJ0_indexOf_0f7a4 0 = .ok (.aload_n 0, 1) := by decide +kernel
theorem dJ0_indexOf_0f7a4_1 : decode cJ0_indexOf_0f7a4 1 = .ok (.iload_n 1, 1) := by decide +kernel
theorem dJ0_indexOf_0f7a4_2 : decode cJ0_indexOf_0f7a4 2 = .ok (.iconst 0, 1) := by decide +kernel
theorem dJ0_indexOf_0f7a4_3 : decode cJ0_indexOf_0f7a4 3 = .ok (.invokevirtual 633, 3) := by decide +kernel
theorem dJ0_indexOf_0f7a4_6 : decode cJ0_indexOf_0f7a4 6 = .ok (.ireturn, 1) := by decide +kernel
theorem dJ0_indexOf_7cf53_0 : decode cJ0_indexOf_7cf53 0 = .ok (.aload_n 0, 1) := by decide +kernel
theorem dJ0_indexOf_7cf53_1 : decode cJ0_indexOf_7cf53 1 = .ok (.invokevirtual 492, 3) := by decide +kernel
theorem dJ0_indexOf_7cf53_4 : decode cJ0_indexOf_7cf53 4 = .ok (.ifCond .eq 19, 3) := by decide +kernel
theorem dJ0_indexOf_7cf53_7 : decode cJ0_indexOf_7cf53 7 = .ok (.aload_n 0, 1) := by decide +kernel
theorem dJ0_indexOf_7cf53_8 : decode cJ0_indexOf_7cf53 8 = .ok (.getfield 9, 3) := by decide +kernel
theorem dJ0_indexOf_7cf53_11 : decode cJ0_indexOf_7cf53 11 = .ok (.iload_n 1, 1) := by decide +kernel
theorem dJ0_indexOf_7cf53_12 : decode cJ0_indexOf_7cf53 12 = .ok (.iload_n 2, 1) := by decide +kernel
theorem dJ0_indexOf_7cf53_13 : decode cJ0_indexOf_7cf53 13 = .ok (.aload_n 0, 1) := by decide +kernel
theorem dJ0_indexOf_7cf53_14 : decode cJ0_indexOf_7cf53 14 = .ok (.invokevirtual 505, 3) := by decide +kernel
theorem dJ0_indexOf_7cf53_17 : decode cJ0_indexOf_7cf53 17 = .ok (.invokestatic 637, 3) := by decide +kernel
theorem dJ0_indexOf_7cf53_20 : decode cJ0_indexOf_7cf53 20 = .ok (.goto 16, 3) := by decide +kernel
theorem dJ0_indexOf_7cf53_23 : decode cJ0_indexOf_7cf53 23 = .ok (.aload_n 0, 1) := by decide +kernel
theorem dJ0_indexOf_7cf53_24 : decode cJ0_indexOf_7cf53 24 = .ok (.getfield 9, 3) := by decide +kernel
theorem dJ0_indexOf_7cf53_27 : decode cJ0_indexOf_7cf53 27 = .ok (.iload_n 1, 1) := by decide +kernel
theorem dJ0_indexOf_7cf53_28 : decode cJ0_indexOf_7cf53 28 = .ok (.iload_n 2, 1) := by decide +kernel
theorem dJ0_indexOf_7cf53_29 : decode cJ0_indexOf_7cf53 29 = .ok (.aload_n 0, 1) := by decide +kernel
theorem dJ0_indexOf_7cf53_30 : decode cJ0_indexOf_7cf53 30 = .ok (.invokevirtual 505, 3) := by decide +kernel
theorem dJ0_indexOf_7cf53_33 : decode cJ0_indexOf_7cf53 33 = .ok (.invokestatic 640, 3) := by decide +kernel
theorem dJ0_indexOf_7cf53_36 : decode cJ0_indexOf_7cf53 36 = .ok (.ireturn, 1) := by decide +kernel
theorem dJ0_coder_7d493_0 : decode cJ0_coder_7d493 0 = .ok (.getstatic 38, 3) := by decide +kernel
theorem dJ0_coder_7d493_3 : decode cJ0_coder_7d493 3 = .ok (.ifCond .eq 10, 3) := by decide +kernel
theorem dJ0_coder_7d493_6 : decode cJ0_coder_7d493 6 = .ok (.aload_n 0, 1) := by decide +kernel
theorem dJ0_coder_7d493_7 : decode cJ0_coder_7d493 7 = .ok (.getfield 15, 3) := by decide +kernel
theorem dJ0_coder_7d493_10 : decode cJ0_coder_7d493 10 = .ok (.goto 4, 3) := by decide +kernel
theorem dJ0_coder_7d493_13 : decode cJ0_coder_7d493 13 = .ok (.iconst 1, 1) := by decide +kernel
theorem dJ0_coder_7d493_14 : decode cJ0_coder_7d493 14 = .ok (.ireturn, 1) := by decide +kernel
theorem dJ0_isLatin1_aae02_0 : decode cJ0_isLatin1_aae02 0 = .ok (.getstatic 38, 3) := by decide +kernel
theorem dJ0_isLatin1_aae02_3 : decode cJ0_isLatin1_aae02 3 = .ok (.ifCond .eq 14, 3) := by decide +kernel
theorem dJ0_isLatin1_aae02_6 : decode cJ0_isLatin1_aae02 6 = .ok (.aload_n 0, 1) := by decide +kernel
theorem dJ0_isLatin1_aae02_7 : decode cJ0_isLatin1_aae02 7 = .ok (.getfield 15, 3) := by decide +kernel
theorem dJ0_isLatin1_aae02_10 : decode cJ0_isLatin1_aae02 10 = .ok (.ifCond .ne 7, 3) := by decide +kernel
theorem dJ0_isLatin1_aae02_13 : decode cJ0_isLatin1_aae02 13 = .ok (.iconst 1, 1) := by decide +kernel
theorem dJ0_isLatin1_aae02_14 : decode cJ0_isLatin1_aae02 14 = .ok (.goto 4, 3) := by decide +kernel
theorem dJ0_isLatin1_aae02_17 : decode cJ0_isLatin1_aae02 17 = .ok (.iconst 0, 1) := by decide +kernel
theorem dJ0_isLatin1_aae02_18 : decode cJ0_isLatin1_aae02 18 = .ok (.ireturn, 1) := by decide +kernel
theorem dJ0_checkIndex_df160_0 : decode cJ0_checkIndex_df160 0 = .ok (.iload_n 0, 1) := by decide +kernel
theorem dJ0_checkIndex_df160_1 : decode cJ0_checkIndex_df160 1 = .ok (.iload_n 1, 1) := by decide +kernel
theorem dJ0_checkIndex_df160_2 : decode cJ0_checkIndex_df160 2 = .ok (.getstatic 1053, 3) := by decide +kernel
theorem dJ0_checkIndex_df160_5 : decode cJ0_checkIndex_df160 5 = .ok (.invokestatic 1059, 3) := by decide +kernel
theorem dJ0_checkIndex_df160_8 : decode cJ0_checkIndex_df160 8 = .ok (.pop, 1) := by decide +kernel
theorem dJ0_checkIndex_df160_9 : decode cJ0_checkIndex_df160 9 = .ok (.return_, 1) := by decide +kernel
theorem dJ0_checkBoundsBeginEnd_23922_0 : decode cJ0_checkBoundsBeginEnd_23922 0 = .ok (.iload_n 0, 1) := by decide +kernel
theorem dJ0_checkBoundsBeginEnd_23922_1 : decode cJ0_checkBoundsBeginEnd_23922 1 = .ok (.iload_n 1, 1) := by decide +kernel
theorem dJ0_checkBoundsBeginEnd_23922_2 : decode cJ0_checkBoundsBeginEnd_23922 2 = .ok (.iload_n 2, 1) := by decide +kernel
theorem dJ0_checkBoundsBeginEnd_23922_3 : decode cJ0_checkBoundsBeginEnd_23922 3 = .ok (.getstatic 1053, 3) := by decide +kernel
theorem dJ0_checkBoundsBeginEnd_23922_6 : decode cJ0_checkBoundsBeginEnd_23922 6 = .ok (.invokestatic 1062, 3) := by decide +kernel
theorem dJ0_checkBoundsBeginEnd_23922_9 : decode cJ0_checkBoundsBeginEnd_23922 9 = .ok (.pop, 1) := by decide +kernel
theorem dJ0_checkBoundsBeginEnd_23922_10 : decode cJ0_checkBoundsBeginEnd_23922 10 = .ok (.return_, 1) := by decide +kernel
theorem dJ1_charAt_3b067_0 : decode cJ1_charAt_3b067 0 = .ok (.iload_n 1, 1) := by decide +kernel
theorem dJ1_charAt_3b067_1 : decode cJ1_charAt_3b067 1 = .ok (.aload_n 0, 1) := by decide +kernel
theorem dJ1_charAt_3b067_2 : decode cJ1_charAt_3b067 2 = .ok (.arraylength, 1) := by decide +kernel
theorem dJ1_charAt_3b067_3 : decode cJ1_charAt_3b067 3 = .ok (.invokestatic 9, 3) := by decide +kernel
theorem dJ1_charAt_3b067_6 : decode cJ1_charAt_3b067 6 = .ok (.aload_n 0, 1) := by decide +kernel
theorem dJ1_charAt_3b067_7 : decode cJ1_charAt_3b067 7 = .ok (.iload_n 1, 1) := by decide +kernel
theorem dJ1_charAt_3b067_8 : decode cJ1_charAt_3b067 8 = .ok (.baload, 1) := by decide +kernel
theorem dJ1_charAt_3b067_9 : decode cJ1_charAt_3b067 9 = .ok (.sipush 255, 3) := by decide +kernel
theorem dJ1_charAt_3b067_12 : decode cJ1_charAt_3b067 12 = .ok (.iand, 1) := by decide +kernel
theorem dJ1_charAt_3b067_13 : decode cJ1_charAt_3b067 13 = .ok (.i2c, 1) := by decide +kernel
theorem dJ1_charAt_3b067_14 : decode cJ1_charAt_3b067 14 = .ok (.ireturn, 1) := by decide +kernel
theorem dJ1_canEncode_9a6ad_0 : decode cJ1_canEncode_9a6ad 0 = .ok (.iload_n 0, 1) := by decide +kernel
theorem dJ1_canEncode_9a6ad_1 : decode cJ1_canEncode_9a6ad 1 = .ok (.ifCond .lt 14, 3) := by decide +kernel
theorem dJ1_canEncode_9a6ad_4 : decode cJ1_canEncode_9a6ad 4 = .ok (.iload_n 0, 1) := by decide +kernel
theorem dJ1_canEncode_9a6ad_5 : decode cJ1_canEncode_9a6ad 5 = .ok (.sipush 255, 3) := by decide +kernel
theorem dJ1_canEncode_9a6ad_8 : decode cJ1_canEncode_9a6ad 8 = .ok (.if_icmp .gt 7, 3) := by decide +kernel
theorem dJ1_canEncode_9a6ad_11 : decode cJ1_canEncode_9a6ad 11 = .ok (.iconst 1, 1) := by decide +kernel
theorem dJ1_canEncode_9a6ad_12 : decode cJ1_canEncode_9a6ad 12 = .ok (.goto 4, 3) := by decide +kernel
theorem dJ1_canEncode_9a6ad_15 : decode cJ1_canEncode_9a6ad 15 = .ok (.iconst 0, 1) := by decide +kernel
theorem dJ1_canEncode_9a6ad_16 : decode cJ1_canEncode_9a6ad 16 = .ok (.ireturn, 1) := by decide +kernel
theorem dJ1_indexOf_4cfef_0 : decode cJ1_indexOf_4cfef 0 = .ok (.iload_n 1, 1) := by decide +kernel
theorem dJ1_indexOf_4cfef_1 : decode cJ1_indexOf_4cfef 1 = .ok (.invokestatic 88, 3) := by decide +kernel
theorem dJ1_indexOf_4cfef_4 : decode cJ1_indexOf_4cfef 4 = .ok (.ifCond .ne 5, 3) := by decide +kernel
theorem dJ1_indexOf_4cfef_7 : decode cJ1_indexOf_4cfef 7 = .ok (.iconst (-1), 1) := by decide +kernel
theorem dJ1_indexOf_4cfef_8 : decode cJ1_indexOf_4cfef 8 = .ok (.ireturn, 1) := by decide +kernel
theorem dJ1_indexOf_4cfef_9 : decode cJ1_indexOf_4cfef 9 = .ok (.iload_n 2, 1) := by decide +kernel
theorem dJ1_indexOf_4cfef_10 : decode cJ1_indexOf_4cfef 10 = .ok (.iconst 0, 1) := by decide +kernel
theorem dJ1_indexOf_4cfef_11 : decode cJ1_indexOf_4cfef 11 = .ok (.invokestatic 92, 3) := by decide +kernel
theorem dJ1_indexOf_4cfef_14 : decode cJ1_indexOf_4cfef 14 = .ok (.istore_n 2, 1) := by decide +kernel
theorem dJ1_indexOf_4cfef_15 : decode cJ1_indexOf_4cfef 15 = .ok (.iload_n 3, 1) := by decide +kernel
theorem dJ1_indexOf_4cfef_16 : decode cJ1_indexOf_4cfef 16 = .ok (.aload_n 0, 1) := by decide +kernel
theorem dJ1_indexOf_4cfef_17 : decode cJ1_indexOf_4cfef 17 = .ok (.arraylength, 1) := by decide +kernel
theorem dJ1_indexOf_4cfef_18 : decode cJ1_indexOf_4cfef 18 = .ok (.invokestatic 38, 3) := by decide +kernel
theorem dJ1_indexOf_4cfef_21 : decode cJ1_indexOf_4cfef 21 = .ok (.istore_n 3, 1) := by decide +kernel
theorem dJ1_indexOf_4cfef_22 : decode cJ1_indexOf_4cfef 22 = .ok (.iload_n 2, 1) := by decide +kernel
theorem dJ1_indexOf_4cfef_23 : decode cJ1_indexOf_4cfef 23 = .ok (.iload_n 3, 1) := by decide +kernel
theorem dJ1_indexOf_4cfef_24 : decode cJ1_indexOf_4cfef 24 = .ok (.if_icmp .lt 5, 3) := by decide +kernel
theorem dJ1_indexOf_4cfef_27 : decode cJ1_indexOf_4cfef 27 = .ok (.iconst (-1), 1) := by decide +kernel
theorem dJ1_indexOf_4cfef_28 : decode cJ1_indexOf_4cfef 28 = .ok (.ireturn, 1) := by decide +kernel
theorem dJ1_indexOf_4cfef_29 : decode cJ1_indexOf_4cfef 29 = .ok (.aload_n 0, 1) := by decide +kernel
theorem dJ1_indexOf_4cfef_30 : decode cJ1_indexOf_4cfef 30 = .ok (.iload_n 1, 1) := by decide +kernel
theorem dJ1_indexOf_4cfef_31 : decode cJ1_indexOf_4cfef 31 = .ok (.iload_n 2, 1) := by decide +kernel
theorem dJ1_indexOf_4cfef_32 : decode cJ1_indexOf_4cfef 32 = .ok (.iload_n 3, 1) := by decide +kernel
theorem dJ1_indexOf_4cfef_33 : decode cJ1_indexOf_4cfef 33 = .ok (.invokestatic 95, 3) := by decide +kernel
theorem dJ1_indexOf_4cfef_36 : decode cJ1_indexOf_4cfef 36 = .ok (.ireturn, 1) := by decide +kernel
theorem dJ1_indexOfChar_4cfef_0 : decode cJ1_indexOfChar_4cfef 0 = .ok (.iload_n 1, 1) := by decide +kernel
theorem dJ1_indexOfChar_4cfef_1 : decode cJ1_indexOfChar_4cfef 1 = .ok (.i2b, 1) := by decide +kernel
theorem dJ1_indexOfChar_4cfef_2 : decode cJ1_indexOfChar_4cfef 2 = .ok (.istore 4, 2) := by decide +kernel
theorem dJ1_indexOfChar_4cfef_4 : decode cJ1_indexOfChar_4cfef 4 = .ok (.iload_n 2, 1) := by decide +kernel
theorem dJ1_indexOfChar_4cfef_5 : decode cJ1_indexOfChar_4cfef 5 = .ok (.istore 5, 2) := by decide +kernel
theorem dJ1_indexOfChar_4cfef_7 : decode cJ1_indexOfChar_4cfef 7 = .ok (.iload 5, 2) := by decide +kernel
theorem dJ1_indexOfChar_4cfef_9 : decode cJ1_indexOfChar_4cfef 9 = .ok (.iload_n 3, 1) := by decide +kernel
theorem dJ1_indexOfChar_4cfef_10 : decode cJ1_indexOfChar_4cfef 10 = .ok (.if_icmp .ge 21, 3) := by decide +kernel
theorem dJ1_indexOfChar_4cfef_13 : decode cJ1_indexOfChar_4cfef 13 = .ok (.aload_n 0, 1) := by decide +kernel
theorem dJ1_indexOfChar_4cfef_14 : decode cJ1_indexOfChar_4cfef 14 = .ok (.iload 5, 2) := by decide +kernel
theorem dJ1_indexOfChar_4cfef_16 : decode cJ1_indexOfChar_4cfef 16 = .ok (.baload, 1) := by decide +kernel
theorem dJ1_indexOfChar_4cfef_17 : decode cJ1_indexOfChar_4cfef 17 = .ok (.iload 4, 2) := by decide +kernel
theorem dJ1_indexOfChar_4cfef_19 : decode cJ1_indexOfChar_4cfef 19 = .ok (.if_icmp .ne 6, 3) := by decide +kernel
theorem dJ1_indexOfChar_4cfef_22 : decode cJ1_indexOfChar_4cfef 22 = .ok (.iload 5, 2) := by decide +kernel
theorem dJ1_indexOfChar_4cfef_24 : decode cJ1_indexOfChar_4cfef 24 = .ok (.ireturn, 1) := by decide +kernel
theorem dJ1_indexOfChar_4cfef_25 : decode cJ1_indexOfChar_4cfef 25 = .ok (.iinc 5 1, 3) := by decide +kernel
theorem dJ1_indexOfChar_4cfef_28 : decode cJ1_indexOfChar_4cfef 28 = .ok (.goto (-21), 3) := by decide +kernel
theorem dJ1_indexOfChar_4cfef_31 : decode cJ1_indexOfChar_4cfef 31 = .ok (.iconst (-1), 1) := by decide +kernel
theorem dJ1_indexOfChar_4cfef_32 : decode cJ1_indexOfChar_4cfef 32 = .ok (.ireturn, 1) := by decide +kernel
theorem dJ2_getChar_3b067_0 : decode cJ2_getChar_3b067 0 = .ok (.getstatic 44, 3) := by decide +kernel
theorem dJ2_getChar_3b067_3 : decode cJ2_getChar_3b067 3 = .ok (.ifCond .ne 25, 3) := by decide +kernel
theorem dJ2_getChar_3b067_6 : decode cJ2_getChar_3b067 6 = .ok (.iload_n 1, 1) := by decide +kernel
theorem dJ2_getChar_3b067_7 : decode cJ2_getChar_3b067 7 = .ok (.ifCond .lt 11, 3) := by decide +kernel
theorem dJ2_getChar_3b067_10 : decode cJ2_getChar_3b067 10 = .ok (.iload_n 1, 1) := by decide +kernel
theorem dJ2_getChar_3b067_11 : decode cJ2_getChar_3b067 11 = .ok (.aload_n 0, 1) := by decide +kernel
theorem dJ2_getChar_3b067_12 : decode cJ2_getChar_3b067 12 = .ok (.invokestatic 48, 3) := by decide +kernel
theorem dJ2_getChar_3b067_15 : decode cJ2_getChar_3b067 15 = .ok (.if_icmp .lt 13, 3) := by decide +kernel
theorem dJ2_getChar_3b067_18 : decode cJ2_getChar_3b067 18 = .ok (.new 52, 3) := by decide +kernel
theorem dJ2_getChar_3b067_21 : decode cJ2_getChar_3b067 21 = .ok (.dup, 1) := by decide +kernel
theorem dJ2_getChar_3b067_22 : decode cJ2_getChar_3b067 22 = .ok (.ldc 54, 2) := by decide +kernel
theorem dJ2_getChar_3b067_24 : decode cJ2_getChar_3b067 24 = .ok (.invokespecial 56, 3) := by decide +kernel
theorem dJ2_getChar_3b067_27 : decode cJ2_getChar_3b067 27 = .ok (.athrow, 1) := by decide +kernel
theorem dJ2_getChar_3b067_28 : decode cJ2_getChar_3b067 28 = .ok (.iload_n 1, 1) := by decide +kernel
theorem dJ2_getChar_3b067_29 : decode cJ2_getChar_3b067 29 = .ok (.iconst 1, 1) := by decide +kernel
theorem dJ2_getChar_3b067_30 : decode cJ2_getChar_3b067 30 = .ok (.ishl, 1) := by decide +kernel
theorem dJ2_getChar_3b067_31 : decode cJ2_getChar_3b067 31 = .ok (.istore_n 1, 1) := by decide +kernel
theorem dJ2_getChar_3b067_32 : decode cJ2_getChar_3b067 32 = .ok (.aload_n 0, 1) := by decide +kernel
theorem dJ2_getChar_3b067_33 : decode cJ2_getChar_3b067 33 = .ok (.iload_n 1, 1) := by decide +kernel
theorem dJ2_getChar_3b067_34 : decode cJ2_getChar_3b067 34 = .ok (.iinc 1 1, 3) := by decide +kernel
theorem dJ2_getChar_3b067_37 : decode cJ2_getChar_3b067 37 = .ok (.baload, 1) := by decide +kernel
theorem dJ2_getChar_3b067_38 : decode cJ2_getChar_3b067 38 = .ok (.sipush 255, 3) := by decide +kernel
theorem dJ2_getChar_3b067_41 : decode cJ2_getChar_3b067 41 = .ok (.iand, 1) := by decide +kernel
theorem dJ2_getChar_3b067_42 : decode cJ2_getChar_3b067 42 = .ok (.getstatic 59, 3) := by decide +kernel
theorem dJ2_getChar_3b067_45 : decode cJ2_getChar_3b067 45 = .ok (.ishl, 1) := by decide +kernel
theorem dJ2_getChar_3b067_46 : decode cJ2_getChar_3b067 46 = .ok (.aload_n 0, 1) := by decide +kernel
theorem dJ2_getChar_3b067_47 : decode cJ2_getChar_3b067 47 = .ok (.iload_n 1, 1) := by decide +kernel
theorem dJ2_getChar_3b067_48 : decode cJ2_getChar_3b067 48 = .ok (.baload, 1) := by decide +kernel
theorem dJ2_getChar_3b067_49 : decode cJ2_getChar_3b067 49 = .ok (.sipush 255, 3) := by decide +kernel
theorem dJ2_getChar_3b067_52 : decode cJ2_getChar_3b067 52 = .ok (.iand, 1) := by decide +kernel
theorem dJ2_getChar_3b067_53 : decode cJ2_getChar_3b067 53 = .ok (.getstatic 63, 3) := by decide +kernel
theorem dJ2_getChar_3b067_56 : decode cJ2_getChar_3b067 56 = .ok (.ishl, 1) := by decide +kernel
theorem dJ2_getChar_3b067_57 : decode cJ2_getChar_3b067 57 = .ok (.ior, 1) := by decide +kernel
theorem dJ2_getChar_3b067_58 : decode cJ2_getChar_3b067 58 = .ok (.i2c, 1) := by decide +kernel
theorem dJ2_getChar_3b067_59 : decode cJ2_getChar_3b067 59 = .ok (.ireturn, 1) := by decide +kernel
theorem dJ2_length_9d52b_0 : decode cJ2_length_9d52b 0 = .ok (.aload_n 0, 1) := by decide +kernel
theorem dJ2_length_9d52b_1 : decode cJ2_length_9d52b 1 = .ok (.arraylength, 1) := by decide +kernel
theorem dJ2_length_9d52b_2 : decode cJ2_length_9d52b 2 = .ok (.iconst 1, 1) := by decide +kernel
theorem dJ2_length_9d52b_3 : decode cJ2_length_9d52b 3 = .ok (.ishr, 1) := by decide +kernel
theorem dJ2_length_9d52b_4 : decode cJ2_length_9d52b 4 = .ok (.ireturn, 1) := by decide +kernel
theorem dJ2_indexOf_4cfef_0 : decode cJ2_indexOf_4cfef 0 = .ok (.iload_n 2, 1) := by decide +kernel
theorem dJ2_indexOf_4cfef_1 : decode cJ2_indexOf_4cfef 1 = .ok (.iconst 0, 1) := by decide +kernel
theorem dJ2_indexOf_4cfef_2 : decode cJ2_indexOf_4cfef 2 = .ok (.invokestatic 224, 3) := by decide +kernel
theorem dJ2_indexOf_4cfef_5 : decode cJ2_indexOf_4cfef 5 = .ok (.istore_n 2, 1) := by decide +kernel
theorem dJ2_indexOf_4cfef_6 : decode cJ2_indexOf_4cfef 6 = .ok (.iload_n 3, 1) := by decide +kernel
theorem dJ2_indexOf_4cfef_7 : decode cJ2_indexOf_4cfef 7 = .ok (.aload_n 0, 1) := by decide +kernel
theorem dJ2_indexOf_4cfef_8 : decode cJ2_indexOf_4cfef 8 = .ok (.arraylength, 1) := by decide +kernel
theorem dJ2_indexOf_4cfef_9 : decode cJ2_indexOf_4cfef 9 = .ok (.iconst 1, 1) := by decide +kernel
theorem dJ2_indexOf_4cfef_10 : decode cJ2_indexOf_4cfef 10 = .ok (.ishr, 1) := by decide +kernel
theorem dJ2_indexOf_4cfef_11 : decode cJ2_indexOf_4cfef 11 = .ok (.invokestatic 183, 3) := by decide +kernel
theorem dJ2_indexOf_4cfef_14 : decode cJ2_indexOf_4cfef 14 = .ok (.istore_n 3, 1) := by decide +kernel
theorem dJ2_indexOf_4cfef_15 : decode cJ2_indexOf_4cfef 15 = .ok (.iload_n 2, 1) := by decide +kernel
theorem dJ2_indexOf_4cfef_16 : decode cJ2_indexOf_4cfef 16 = .ok (.iload_n 3, 1) := by decide +kernel
theorem dJ2_indexOf_4cfef_17 : decode cJ2_indexOf_4cfef 17 = .ok (.if_icmp .lt 5, 3) := by decide +kernel
theorem dJ2_indexOf_4cfef_20 : decode cJ2_indexOf_4cfef 20 = .ok (.iconst (-1), 1) := by decide +kernel
theorem dJ2_indexOf_4cfef_21 : decode cJ2_indexOf_4cfef 21 = .ok (.ireturn, 1) := by decide +kernel
theorem dJ2_indexOf_4cfef_22 : decode cJ2_indexOf_4cfef 22 = .ok (.iload_n 1, 1) := by decide +kernel
theorem dJ2_indexOf_4cfef_23 : decode cJ2_indexOf_4cfef 23 = .ok (.ldc 227, 2) := by decide +kernel
theorem dJ2_indexOf_4cfef_25 : decode cJ2_indexOf_4cfef 25 = .ok (.if_icmp .ge 11, 3) := by decide +kernel
theorem dJ2_indexOf_4cfef_28 : decode cJ2_indexOf_4cfef 28 = .ok (.aload_n 0, 1) := by decide +kernel
theorem dJ2_indexOf_4cfef_29 : decode cJ2_indexOf_4cfef 29 = .ok (.iload_n 1, 1) := by decide +kernel
theorem dJ2_indexOf_4cfef_30 : decode cJ2_indexOf_4cfef 30 = .ok (.iload_n 2, 1) := by decide +kernel
theorem dJ2_indexOf_4cfef_31 : decode cJ2_indexOf_4cfef 31 = .ok (.iload_n 3, 1) := by decide +kernel
theorem dJ2_indexOf_4cfef_32 : decode cJ2_indexOf_4cfef 32 = .ok (.invokestatic 228, 3) := by decide +kernel
theorem dJ2_indexOf_4cfef_35 : decode cJ2_indexOf_4cfef 35 = .ok (.ireturn, 1) := by decide +kernel
theorem dJ2_indexOf_4cfef_36 : decode cJ2_indexOf_4cfef 36 = .ok (.aload_n 0, 1) := by decide +kernel
theorem dJ2_indexOf_4cfef_37 : decode cJ2_indexOf_4cfef 37 = .ok (.iload_n 1, 1) := by decide +kernel
theorem dJ2_indexOf_4cfef_38 : decode cJ2_indexOf_4cfef 38 = .ok (.iload_n 2, 1) := by decide +kernel
theorem dJ2_indexOf_4cfef_39 : decode cJ2_indexOf_4cfef 39 = .ok (.iload_n 3, 1) := by decide +kernel
theorem dJ2_indexOf_4cfef_40 : decode cJ2_indexOf_4cfef 40 = .ok (.invokestatic 232, 3) := by decide +kernel
theorem dJ2_indexOf_4cfef_43 : decode cJ2_indexOf_4cfef 43 = .ok (.ireturn, 1) := by decide +kernel
theorem dJ2_indexOfChar_4cfef_0 : decode cJ2_indexOfChar_4cfef 0 = .ok (.iload_n 2, 1) := by decide +kernel
theorem dJ2_indexOfChar_4cfef_1 : decode cJ2_indexOfChar_4cfef 1 = .ok (.iload_n 3, 1) := by decide +kernel
theorem dJ2_indexOfChar_4cfef_2 : decode cJ2_indexOfChar_4cfef 2 = .ok (.aload_n 0, 1) := by decide +kernel
theorem dJ2_indexOfChar_4cfef_3 : decode cJ2_indexOfChar_4cfef 3 = .ok (.invokestatic 96, 3) := by decide +kernel
theorem dJ2_indexOfChar_4cfef_6 : decode cJ2_indexOfChar_4cfef 6 = .ok (.aload_n 0, 1) := by decide +kernel
theorem dJ2_indexOfChar_4cfef_7 : decode cJ2_indexOfChar_4cfef 7 = .ok (.iload_n 1, 1) := by decide +kernel
theorem dJ2_indexOfChar_4cfef_8 : decode cJ2_indexOfChar_4cfef 8 = .ok (.iload_n 2, 1) := by decide +kernel
theorem dJ2_indexOfChar_4cfef_9 : decode cJ2_indexOfChar_4cfef 9 = .ok (.iload_n 3, 1) := by decide +kernel
theorem dJ2_indexOfChar_4cfef_10 : decode cJ2_indexOfChar_4cfef 10 = .ok (.invokestatic 244, 3) := by decide +kernel
theorem dJ2_indexOfChar_4cfef_13 : decode cJ2_indexOfChar_4cfef 13 = .ok (.ireturn, 1) := by decide +kernel
theorem dJ2_indexOfCharUnsafe_4cfef_0 : decode cJ2_indexOfCharUnsafe_4cfef 0 = .ok (.iload_n 2, 1) := by decide +kernel
theorem dJ2_indexOfCharUnsafe_4cfef_1 : decode cJ2_indexOfCharUnsafe_4cfef 1 = .ok (.istore 4, 2) := by decide +kernel
theorem dJ2_indexOfCharUnsafe_4cfef_3 : decode cJ2_indexOfCharUnsafe_4cfef 3 = .ok (.iload 4, 2) := by decide +kernel
theorem dJ2_indexOfCharUnsafe_4cfef_5 : decode cJ2_indexOfCharUnsafe_4cfef 5 = .ok (.iload_n 3, 1) := by decide +kernel
theorem dJ2_indexOfCharUnsafe_4cfef_6 : decode cJ2_indexOfCharUnsafe_4cfef 6 = .ok (.if_icmp .ge 22, 3) := by decide +kernel
theorem dJ2_indexOfCharUnsafe_4cfef_9 : decode cJ2_indexOfCharUnsafe_4cfef 9 = .ok (.aload_n 0, 1) := by decide +kernel
theorem dJ2_indexOfCharUnsafe_4cfef_10 : decode cJ2_indexOfCharUnsafe_4cfef 10 = .ok (.iload 4, 2) := by decide +kernel
theorem dJ2_indexOfCharUnsafe_4cfef_12 : decode cJ2_indexOfCharUnsafe_4cfef 12 = .ok (.invokestatic 71, 3) := by decide +kernel
theorem dJ2_indexOfCharUnsafe_4cfef_15 : decode cJ2_indexOfCharUnsafe_4cfef 15 = .ok (.iload_n 1, 1) := by decide +kernel
theorem dJ2_indexOfCharUnsafe_4cfef_16 : decode cJ2_indexOfCharUnsafe_4cfef 16 = .ok (.if_icmp .ne 6, 3) := by decide +kernel
theorem dJ2_indexOfCharUnsafe_4cfef_19 : decode cJ2_indexOfCharUnsafe_4cfef 19 = .ok (.iload 4, 2) := by decide +kernel
theorem dJ2_indexOfCharUnsafe_4cfef_21 : decode cJ2_indexOfCharUnsafe_4cfef 21 = .ok (.ireturn, 1) := by decide +kernel
theorem dJ2_indexOfCharUnsafe_4cfef_22 : decode cJ2_indexOfCharUnsafe_4cfef 22 = .ok (.iinc 4 1, 3) := by decide +kernel
theorem dJ2_indexOfCharUnsafe_4cfef_25 : decode cJ2_indexOfCharUnsafe_4cfef 25 = .ok (.goto (-22), 3) := by decide +kernel
theorem dJ2_indexOfCharUnsafe_4cfef_28 : decode cJ2_indexOfCharUnsafe_4cfef 28 = .ok (.iconst (-1), 1) := by decide +kernel
theorem dJ2_indexOfCharUnsafe_4cfef_29 : decode cJ2_indexOfCharUnsafe_4cfef 29 = .ok (.ireturn, 1) := by decide +kernel
theorem dJ2_indexOfSupplementary_4cfef_0 : decode cJ2_indexOfSupplementary_4cfef 0 = .ok (.iload_n 1, 1) := by decide +kernel
theorem dJ2_indexOfSupplementary_4cfef_1 : decode cJ2_indexOfSupplementary_4cfef 1 = .ok (.invokestatic 164, 3) := by decide +kernel
theorem dJ2_indexOfSupplementary_4cfef_4 : decode cJ2_indexOfSupplementary_4cfef 4 = .ok (.ifCond .eq 65, 3) := by decide +kernel
theorem dJ2_indexOfSupplementary_4cfef_7 : decode cJ2_indexOfSupplementary_4cfef 7 = .ok (.iload_n 1, 1) := by decide +kernel
theorem dJ2_indexOfSupplementary_4cfef_8 : decode cJ2_indexOfSupplementary_4cfef 8 = .ok (.invokestatic 157, 3) := by decide +kernel
theorem dJ2_indexOfSupplementary_4cfef_11 : decode cJ2_indexOfSupplementary_4cfef 11 = .ok (.istore 4, 2) := by decide +kernel
theorem dJ2_indexOfSupplementary_4cfef_13 : decode cJ2_indexOfSupplementary_4cfef 13 = .ok (.iload_n 1, 1) := by decide +kernel
theorem dJ2_indexOfSupplementary_4cfef_14 : decode cJ2_indexOfSupplementary_4cfef 14 = .ok (.invokestatic 161, 3) := by decide +kernel
theorem dJ2_indexOfSupplementary_4cfef_17 : decode cJ2_indexOfSupplementary_4cfef 17 = .ok (.istore 5, 2) := by decide +kernel
theorem dJ2_indexOfSupplementary_4cfef_19 : decode cJ2_indexOfSupplementary_4cfef 19 = .ok (.iload_n 2, 1) := by decide +kernel
theorem dJ2_indexOfSupplementary_4cfef_20 : decode cJ2_indexOfSupplementary_4cfef 20 = .ok (.iload_n 3, 1) := by decide +kernel
theorem dJ2_indexOfSupplementary_4cfef_21 : decode cJ2_indexOfSupplementary_4cfef 21 = .ok (.aload_n 0, 1) := by decide +kernel
theorem dJ2_indexOfSupplementary_4cfef_22 : decode cJ2_indexOfSupplementary_4cfef 22 = .ok (.invokestatic 96, 3) := by decide +kernel
theorem dJ2_indexOfSupplementary_4cfef_25 : decode cJ2_indexOfSupplementary_4cfef 25 = .ok (.iload_n 2, 1) := by decide +kernel
theorem dJ2_indexOfSupplementary_4cfef_26 : decode cJ2_indexOfSupplementary_4cfef 26 = .ok (.istore 6, 2) := by decide +kernel
theorem dJ2_indexOfSupplementary_4cfef_28 : decode cJ2_indexOfSupplementary_4cfef 28 = .ok (.iload 6, 2) := by decide +kernel
theorem dJ2_indexOfSupplementary_4cfef_30 : decode cJ2_indexOfSupplementary_4cfef 30 = .ok (.iload_n 3, 1) := by decide +kernel
theorem dJ2_indexOfSupplementary_4cfef_31 : decode cJ2_indexOfSupplementary_4cfef 31 = .ok (.iconst 1, 1) := by decide +kernel
theorem dJ2_indexOfSupplementary_4cfef_32 : decode cJ2_indexOfSupplementary_4cfef 32 = .ok (.isub, 1) := by decide +kernel
theorem dJ2_indexOfSupplementary_4cfef_33 : decode cJ2_indexOfSupplementary_4cfef 33 = .ok (.if_icmp .ge 36, 3) := by decide +kernel
theorem dJ2_indexOfSupplementary_4cfef_36 : decode cJ2_indexOfSupplementary_4cfef 36 = .ok (.aload_n 0, 1) := by decide +kernel
theorem dJ2_indexOfSupplementary_4cfef_37 : decode cJ2_indexOfSupplementary_4cfef 37 = .ok (.iload 6, 2) := by decide +kernel
theorem dJ2_indexOfSupplementary_4cfef_39 : decode cJ2_indexOfSupplementary_4cfef 39 = .ok (.invokestatic 71, 3) := by decide +kernel
theorem dJ2_indexOfSupplementary_4cfef_42 : decode cJ2_indexOfSupplementary_4cfef 42 = .ok (.iload 4, 2) := by decide +kernel
theorem dJ2_indexOfSupplementary_4cfef_44 : decode cJ2_indexOfSupplementary_4cfef 44 = .ok (.if_icmp .ne 19, 3) := by decide +kernel
theorem dJ2_indexOfSupplementary_4cfef_47 : decode cJ2_indexOfSupplementary_4cfef 47 = .ok (.aload_n 0, 1) := by decide +kernel
theorem dJ2_indexOfSupplementary_4cfef_48 : decode cJ2_indexOfSupplementary_4cfef 48 = .ok (.iload 6, 2) := by decide +kernel
theorem dJ2_indexOfSupplementary_4cfef_50 : decode cJ2_indexOfSupplementary_4cfef 50 = .ok (.iconst 1, 1) := by decide +kernel
theorem dJ2_indexOfSupplementary_4cfef_51 : decode cJ2_indexOfSupplementary_4cfef 51 = .ok (.iadd, 1) := by decide +kernel
theorem dJ2_indexOfSupplementary_4cfef_52 : decode cJ2_indexOfSupplementary_4cfef 52 = .ok (.invokestatic 71, 3) := by decide +kernel
theorem dJ2_indexOfSupplementary_4cfef_55 : decode cJ2_indexOfSupplementary_4cfef 55 = .ok (.iload 5, 2) := by decide +kernel
theorem dJ2_indexOfSupplementary_4cfef_57 : decode cJ2_indexOfSupplementary_4cfef 57 = .ok (.if_icmp .ne 6, 3) := by decide +kernel
theorem dJ2_indexOfSupplementary_4cfef_60 : decode cJ2_indexOfSupplementary_4cfef 60 = .ok (.iload 6, 2) := by decide +kernel
theorem dJ2_indexOfSupplementary_4cfef_62 : decode cJ2_indexOfSupplementary_4cfef 62 = .ok (.ireturn, 1) := by decide +kernel
theorem dJ2_indexOfSupplementary_4cfef_63 : decode cJ2_indexOfSupplementary_4cfef 63 = .ok (.iinc 6 1, 3) := by decide +kernel
theorem dJ2_indexOfSupplementary_4cfef_66 : decode cJ2_indexOfSupplementary_4cfef 66 = .ok (.goto (-38), 3) := by decide +kernel
theorem dJ2_indexOfSupplementary_4cfef_69 : decode cJ2_indexOfSupplementary_4cfef 69 = .ok (.iconst (-1), 1) := by decide +kernel
theorem dJ2_indexOfSupplementary_4cfef_70 : decode cJ2_indexOfSupplementary_4cfef 70 = .ok (.ireturn, 1) := by decide +kernel
theorem dJ2_charAt_3b067_0 : decode cJ2_charAt_3b067 0 = .ok (.iload_n 1, 1) := by decide +kernel
theorem dJ2_charAt_3b067_1 : decode cJ2_charAt_3b067 1 = .ok (.aload_n 0, 1) := by decide +kernel
theorem dJ2_charAt_3b067_2 : decode cJ2_charAt_3b067 2 = .ok (.invokestatic 67, 3) := by decide +kernel
theorem dJ2_charAt_3b067_5 : decode cJ2_charAt_3b067 5 = .ok (.aload_n 0, 1) := by decide +kernel
theorem dJ2_charAt_3b067_6 : decode cJ2_charAt_3b067 6 = .ok (.iload_n 1, 1) := by decide +kernel
theorem dJ2_charAt_3b067_7 : decode cJ2_charAt_3b067 7 = .ok (.invokestatic 71, 3) := by decide +kernel
theorem dJ2_charAt_3b067_10 : decode cJ2_charAt_3b067 10 = .ok (.ireturn, 1) := by decide +kernel
theorem dJ2_checkIndex_2214a_0 : decode cJ2_checkIndex_2214a 0 = .ok (.iload_n 0, 1) := by decide +kernel
theorem dJ2_checkIndex_2214a_1 : decode cJ2_checkIndex_2214a 1 = .ok (.aload_n 1, 1) := by decide +kernel
theorem dJ2_checkIndex_2214a_2 : decode cJ2_checkIndex_2214a 2 = .ok (.invokestatic 48, 3) := by decide +kernel
theorem dJ2_checkIndex_2214a_5 : decode cJ2_checkIndex_2214a 5 = .ok (.invokestatic 414, 3) := by decide +kernel
theorem dJ2_checkIndex_2214a_8 : decode cJ2_checkIndex_2214a 8 = .ok (.return_, 1) := by decide +kernel
theorem dJ2_checkBoundsBeginEnd_d044e_0 : decode cJ2_checkBoundsBeginEnd_d044e 0 = .ok (.iload_n 0, 1) := by decide +kernel
theorem dJ2_checkBoundsBeginEnd_d044e_1 : decode cJ2_checkBoundsBeginEnd_d044e 1 = .ok (.iload_n 1, 1) := by decide +kernel
theorem dJ2_checkBoundsBeginEnd_d044e_2 : decode cJ2_checkBoundsBeginEnd_d044e 2 = .ok (.aload_n 2, 1) := by decide +kernel
theorem dJ2_checkBoundsBeginEnd_d044e_3 : decode cJ2_checkBoundsBeginEnd_d044e 3 = .ok (.invokestatic 48, 3) := by decide +kernel
theorem dJ2_checkBoundsBeginEnd_d044e_6 : decode cJ2_checkBoundsBeginEnd_d044e 6 = .ok (.invokestatic 241, 3) := by decide +kernel
theorem dJ2_checkBoundsBeginEnd_d044e_9 : decode cJ2_checkBoundsBeginEnd_d044e 9 = .ok (.return_, 1) := by decide +kernel
theorem dJ3_checkIndex_8e157_0 : decode cJ3_checkIndex_8e157 0 = .ok (.iload_n 0, 1) := by decide +kernel
theorem dJ3_checkIndex_8e157_1 : decode cJ3_checkIndex_8e157 1 = .ok (.ifCond .lt 8, 3) := by decide +kernel
theorem dJ3_checkIndex_8e157_4 : decode cJ3_checkIndex_8e157 4 = .ok (.iload_n 0, 1) := by decide +kernel
theorem dJ3_checkIndex_8e157_5 : decode cJ3_checkIndex_8e157 5 = .ok (.iload_n 1, 1) := by decide +kernel
theorem dJ3_checkIndex_8e157_6 : decode cJ3_checkIndex_8e157 6 = .ok (.if_icmp .lt 10, 3) := by decide +kernel
theorem dJ3_checkIndex_8e157_9 : decode cJ3_checkIndex_8e157 9 = .ok (.aload_n 2, 1) := by decide +kernel
theorem dJ3_checkIndex_8e157_10 : decode cJ3_checkIndex_8e157 10 = .ok (.iload_n 0, 1) := by decide +kernel
theorem dJ3_checkIndex_8e157_11 : decode cJ3_checkIndex_8e157 11 = .ok (.iload_n 1, 1) := by decide +kernel
theorem dJ3_checkIndex_8e157_12 : decode cJ3_checkIndex_8e157 12 = .ok (.invokestatic 95, 3) := by decide +kernel
theorem dJ3_checkIndex_8e157_15 : decode cJ3_checkIndex_8e157 15 = .ok (.athrow, 1) := by decide +kernel
theorem dJ3_checkIndex_8e157_16 : decode cJ3_checkIndex_8e157 16 = .ok (.iload_n 0, 1) := by decide +kernel
theorem dJ3_checkIndex_8e157_17 : decode cJ3_checkIndex_8e157 17 = .ok (.ireturn, 1) := by decide +kernel
theorem dJ3_checkFromToIndex_8c36e_0 : decode cJ3_checkFromToIndex_8c36e 0 = .ok (.iload_n 0, 1) := by decide +kernel
theorem dJ3_checkFromToIndex_8c36e_1 : decode cJ3_checkFromToIndex_8c36e 1 = .ok (.ifCond .lt 13, 3) := by decide +kernel
theorem dJ3_checkFromToIndex_8c36e_4 : decode cJ3_checkFromToIndex_8c36e 4 = .ok (.iload_n 0, 1) := by decide +kernel
theorem dJ3_checkFromToIndex_8c36e_5 : decode cJ3_checkFromToIndex_8c36e 5 = .ok (.iload_n 1, 1) := by decide +kernel
theorem dJ3_checkFromToIndex_8c36e_6 : decode cJ3_checkFromToIndex_8c36e 6 = .ok (.if_icmp .gt 8, 3) := by decide +kernel
theorem dJ3_checkFromToIndex_8c36e_9 : decode cJ3_checkFromToIndex_8c36e 9 = .ok (.iload_n 1, 1) := by decide +kernel
theorem dJ3_checkFromToIndex_8c36e_10 : decode cJ3_checkFromToIndex_8c36e 10 = .ok (.iload_n 2, 1) := by decide +kernel
theorem dJ3_checkFromToIndex_8c36e_11 : decode cJ3_checkFromToIndex_8c36e 11 = .ok (.if_icmp .le 11, 3) := by decide +kernel
theorem dJ3_checkFromToIndex_8c36e_14 : decode cJ3_checkFromToIndex_8c36e 14 = .ok (.aload_n 3, 1) := by decide +kernel
theorem dJ3_checkFromToIndex_8c36e_15 : decode cJ3_checkFromToIndex_8c36e 15 = .ok (.iload_n 0, 1) := by decide +kernel
theorem dJ3_checkFromToIndex_8c36e_16 : decode cJ3_checkFromToIndex_8c36e 16 = .ok (.iload_n 1, 1) := by decide +kernel
theorem dJ3_checkFromToIndex_8c36e_17 : decode cJ3_checkFromToIndex_8c36e 17 = .ok (.iload_n 2, 1) := by decide +kernel
theorem dJ3_checkFromToIndex_8c36e_18 : decode cJ3_checkFromToIndex_8c36e 18 = .ok (.invokestatic 99, 3) := by decide +kernel
theorem dJ3_checkFromToIndex_8c36e_21 : decode cJ3_checkFromToIndex_8c36e 21 = .ok (.athrow, 1) := by decide +kernel
theorem dJ3_checkFromToIndex_8c36e_22 : decode cJ3_checkFromToIndex_8c36e 22 = .ok (.iload_n 0, 1) := by decide +kernel
theorem dJ3_checkFromToIndex_8c36e_23 : decode cJ3_checkFromToIndex_8c36e 23 = .ok (.ireturn, 1) := by decide +kernel
theorem dL_thing_0 : decode cL_thing 0 = .ok (.aload_n 3, 1) := by decide +kernel
theorem dL_thing_1 : decode cL_thing 1 = .ok (.iconst 0, 1) := by decide +kernel
theorem dL_thing_2 : decode cL_thing 2 = .ok (.aload_n 0, 1) := by decide +kernel
theorem dL_thing_3 : decode cL_thing 3 = .ok (.iload_n 1, 1) := by decide +kernel
theorem dL_thing_4 : decode cL_thing 4 = .ok (.iload_n 2, 1) := by decide +kernel
theorem dL_thing_5 : decode cL_thing 5 = .ok (.invokevirtual 7, 3) := by decide +kernel
theorem dL_thing_8 : decode cL_thing 8 = .ok (.i2l, 1) := by decide +kernel
theorem dL_thing_9 : decode cL_thing 9 = .ok (.lastore, 1) := by decide +kernel
theorem dL_thing_10 : decode cL_thing 10 = .ok (.goto 7, 3) := by decide +kernel
theorem dL_thing_13 : decode cL_thing 13 = .ok (.astore 4, 2) := by decide +kernel
theorem dL_thing_15 : decode cL_thing 15 = .ok (.iconst 1, 1) := by decide +kernel
theorem dL_thing_16 : decode cL_thing 16 = .ok (.ireturn, 1) := by decide +kernel
theorem dL_thing_17 : decode cL_thing 17 = .ok (.iconst 0, 1) := by decide +kernel
theorem dL_thing_18 : decode cL_thing 18 = .ok (.ireturn, 1) := by decide +kernel
theorem dL_law_0 : decode cL_law 0 = .ok (.new 8, 3) := by decide +kernel
theorem dL_law_3 : decode cL_law 3 = .ok (.dup, 1) := by decide +kernel
theorem dL_law_4 : decode cL_law 4 = .ok (.invokespecial 15, 3) := by decide +kernel
theorem dL_law_7 : decode cL_law 7 = .ok (.astore_n 1, 1) := by decide +kernel
theorem dL_law_8 : decode cL_law 8 = .ok (.new 16, 3) := by decide +kernel
theorem dL_law_11 : decode cL_law 11 = .ok (.dup, 1) := by decide +kernel
theorem dL_law_12 : decode cL_law 12 = .ok (.invokespecial 18, 3) := by decide +kernel
theorem dL_law_15 : decode cL_law 15 = .ok (.astore_n 2, 1) := by decide +kernel
theorem dL_law_16 : decode cL_law 16 = .ok (.iconst 1, 1) := by decide +kernel
theorem dL_law_17 : decode cL_law 17 = .ok (.newarray .long, 2) := by decide +kernel
theorem dL_law_19 : decode cL_law 19 = .ok (.astore_n 3, 1) := by decide +kernel
theorem dL_law_20 : decode cL_law 20 = .ok (.iconst 0, 1) := by decide +kernel
theorem dL_law_21 : decode cL_law 21 = .ok (.istore 4, 2) := by decide +kernel
theorem dL_law_23 : decode cL_law 23 = .ok (.iload 4, 2) := by decide +kernel
theorem dL_law_25 : decode cL_law 25 = .ok (.aload_n 0, 1) := by decide +kernel
theorem dL_law_26 : decode cL_law 26 = .ok (.arraylength, 1) := by decide +kernel
theorem dL_law_27 : decode cL_law 27 = .ok (.bipush 6, 2) := by decide +kernel
theorem dL_law_29 : decode cL_law 29 = .ok (.isub, 1) := by decide +kernel
theorem dL_law_30 : decode cL_law 30 = .ok (.if_icmp .gt 1526, 3) := by decide +kernel
theorem dL_law_33 : decode cL_law 33 = .ok (.aload_n 0, 1) := by decide +kernel
theorem dL_law_34 : decode cL_law 34 = .ok (.iload 4, 2) := by decide +kernel
theorem dL_law_36 : decode cL_law 36 = .ok (.iaload, 1) := by decide +kernel
theorem dL_law_37 : decode cL_law 37 = .ok (.bipush 63, 2) := by decide +kernel
theorem dL_law_39 : decode cL_law 39 = .ok (.iand, 1) := by decide +kernel
theorem dL_law_40 : decode cL_law 40 = .ok (.tableswitch 1510 0 42 #[188, 261, 286, 311, 336, 404, 441, 490, 515, 540, 577, 614, 639, 664, 689, 714, 751, 776, 845, 858, 895, 944, 957, 982, 995, 1020, 1085, 1122, 1147, 1184, 1197, 1210, 1223, 1248, 1273, 1298, 1311, 1348, 1373, 1422, 1459, 1472, 1485], 188) := by decide +kernel
theorem dL_law_228 : decode cL_law 228 = .ok (.aload_n 1, 1) := by decide +kernel
theorem dL_law_229 : decode cL_law 229 = .ok (.aload_n 0, 1) := by decide +kernel
theorem dL_law_230 : decode cL_law 230 = .ok (.iload 4, 2) := by decide +kernel
theorem dL_law_232 : decode cL_law 232 = .ok (.iconst 1, 1) := by decide +kernel
theorem dL_law_233 : decode cL_law 233 = .ok (.iadd, 1) := by decide +kernel
theorem dL_law_234 : decode cL_law 234 = .ok (.iaload, 1) := by decide +kernel
theorem dL_law_235 : decode cL_law 235 = .ok (.aload_n 0, 1) := by decide +kernel
theorem dL_law_236 : decode cL_law 236 = .ok (.iload 4, 2) := by decide +kernel
theorem dL_law_238 : decode cL_law 238 = .ok (.iconst 2, 1) := by decide +kernel
theorem dL_law_239 : decode cL_law 239 = .ok (.iadd, 1) := by decide +kernel
theorem dL_law_240 : decode cL_law 240 = .ok (.iaload, 1) := by decide +kernel
theorem dL_law_241 : decode cL_law 241 = .ok (.aload_n 0, 1) := by decide +kernel
theorem dL_law_242 : decode cL_law 242 = .ok (.iload 4, 2) := by decide +kernel
theorem dL_law_244 : decode cL_law 244 = .ok (.iconst 3, 1) := by decide +kernel
theorem dL_law_245 : decode cL_law 245 = .ok (.iadd, 1) := by decide +kernel
theorem dL_law_246 : decode cL_law 246 = .ok (.iaload, 1) := by decide +kernel
theorem dL_law_247 : decode cL_law 247 = .ok (.aload_n 0, 1) := by decide +kernel
theorem dL_law_248 : decode cL_law 248 = .ok (.iload 4, 2) := by decide +kernel
theorem dL_law_250 : decode cL_law 250 = .ok (.iconst 4, 1) := by decide +kernel
theorem dL_law_251 : decode cL_law 251 = .ok (.iadd, 1) := by decide +kernel
theorem dL_law_252 : decode cL_law 252 = .ok (.iaload, 1) := by decide +kernel
theorem dL_law_253 : decode cL_law 253 = .ok (.aload_n 0, 1) := by decide +kernel
theorem dL_law_254 : decode cL_law 254 = .ok (.iload 4, 2) := by decide +kernel
theorem dL_law_256 : decode cL_law 256 = .ok (.iconst 5, 1) := by decide +kernel
theorem dL_law_257 : decode cL_law 257 = .ok (.iadd, 1) := by decide +kernel
theorem dL_law_258 : decode cL_law 258 = .ok (.iaload, 1) := by decide +kernel
theorem dL_law_259 : decode cL_law 259 = .ok (.invokevirtual 19, 3) := by decide +kernel
theorem dL_law_262 : decode cL_law 262 = .ok (.aload_n 2, 1) := by decide +kernel
theorem dL_law_263 : decode cL_law 263 = .ok (.aload_n 0, 1) := by decide +kernel
theorem dL_law_264 : decode cL_law 264 = .ok (.iload 4, 2) := by decide +kernel
theorem dL_law_266 : decode cL_law 266 = .ok (.iconst 1, 1) := by decide +kernel
theorem dL_law_267 : decode cL_law 267 = .ok (.iadd, 1) := by decide +kernel
theorem dL_law_268 : decode cL_law 268 = .ok (.iaload, 1) := by decide +kernel
theorem dL_law_269 : decode cL_law 269 = .ok (.aload_n 0, 1) := by decide +kernel
theorem dL_law_270 : decode cL_law 270 = .ok (.iload 4, 2) := by decide +kernel
theorem dL_law_272 : decode cL_law 272 = .ok (.iconst 2, 1) := by decide +kernel
theorem dL_law_273 : decode cL_law 273 = .ok (.iadd, 1) := by decide +kernel
theorem dL_law_274 : decode cL_law 274 = .ok (.iaload, 1) := by decide +kernel
theorem dL_law_275 : decode cL_law 275 = .ok (.aload_n 0, 1) := by decide +kernel
theorem dL_law_276 : decode cL_law 276 = .ok (.iload 4, 2) := by decide +kernel
theorem dL_law_278 : decode cL_law 278 = .ok (.iconst 3, 1) := by decide +kernel
theorem dL_law_279 : decode cL_law 279 = .ok (.iadd, 1) := by decide +kernel
theorem dL_law_280 : decode cL_law 280 = .ok (.iaload, 1) := by decide +kernel
theorem dL_law_281 : decode cL_law 281 = .ok (.aload_n 0, 1) := by decide +kernel
theorem dL_law_282 : decode cL_law 282 = .ok (.iload 4, 2) := by decide +kernel
theorem dL_law_284 : decode cL_law 284 = .ok (.iconst 4, 1) := by decide +kernel
theorem dL_law_285 : decode cL_law 285 = .ok (.iadd, 1) := by decide +kernel
theorem dL_law_286 : decode cL_law 286 = .ok (.iaload, 1) := by decide +kernel
theorem dL_law_287 : decode cL_law 287 = .ok (.aload_n 0, 1) := by decide +kernel
theorem dL_law_288 : decode cL_law 288 = .ok (.iload 4, 2) := by decide +kernel
theorem dL_law_290 : decode cL_law 290 = .ok (.iconst 5, 1) := by decide +kernel
theorem dL_law_291 : decode cL_law 291 = .ok (.iadd, 1) := by decide +kernel
theorem dL_law_292 : decode cL_law 292 = .ok (.iaload, 1) := by decide +kernel
theorem dL_law_293 : decode cL_law 293 = .ok (.invokevirtual 23, 3) := by decide +kernel
theorem dL_law_296 : decode cL_law 296 = .ok (.if_icmp .eq 1254, 3) := by decide +kernel
theorem dL_law_299 : decode cL_law 299 = .ok (.iconst 0, 1) := by decide +kernel
theorem dL_law_300 : decode cL_law 300 = .ok (.ireturn, 1) := by decide +kernel
theorem dL_law_301 : decode cL_law 301 = .ok (.aload_n 1, 1) := by decide +kernel
theorem dL_law_302 : decode cL_law 302 = .ok (.aload_n 0, 1) := by decide +kernel
theorem dL_law_303 : decode cL_law 303 = .ok (.iload 4, 2) := by decide +kernel
theorem dL_law_305 : decode cL_law 305 = .ok (.iconst 1, 1) := by decide +kernel
theorem dL_law_306 : decode cL_law 306 = .ok (.iadd, 1) := by decide +kernel
theorem dL_law_307 : decode cL_law 307 = .ok (.iaload, 1) := by decide +kernel
theorem dL_law_308 : decode cL_law 308 = .ok (.invokevirtual 24, 3) := by decide +kernel
theorem dL_law_311 : decode cL_law 311 = .ok (.aload_n 2, 1) := by decide +kernel
theorem dL_law_312 : decode cL_law 312 = .ok (.aload_n 0, 1) := by decide +kernel
theorem dL_law_313 : decode cL_law 313 = .ok (.iload 4, 2) := by decide +kernel
theorem dL_law_315 : decode cL_law 315 = .ok (.iconst 1, 1) := by decide +kernel
theorem dL_law_316 : decode cL_law 316 = .ok (.iadd, 1) := by decide +kernel
theorem dL_law_317 : decode cL_law 317 = .ok (.iaload, 1) := by decide +kernel
theorem dL_law_318 : decode cL_law 318 = .ok (.invokevirtual 28, 3) := by decide +kernel
theorem dL_law_321 : decode cL_law 321 = .ok (.if_icmp .eq 1229, 3) := by decide +kernel
theorem dL_law_324 : decode cL_law 324 = .ok (.iconst 0, 1) := by decide +kernel
theorem dL_law_325 : decode cL_law 325 = .ok (.ireturn, 1) := by decide +kernel
theorem dL_law_326 : decode cL_law 326 = .ok (.aload_n 1, 1) := by decide +kernel
theorem dL_law_327 : decode cL_law 327 = .ok (.aload_n 0, 1) := by decide +kernel
theorem dL_law_328 : decode cL_law 328 = .ok (.iload 4, 2) := by decide +kernel
theorem dL_law_330 : decode cL_law 330 = .ok (.iconst 1, 1) := by decide +kernel
theorem dL_law_331 : decode cL_law 331 = .ok (.iadd, 1) := by decide +kernel
theorem dL_law_332 : decode cL_law 332 = .ok (.iaload, 1) := by decide +kernel
theorem dL_law_333 : decode cL_law 333 = .ok (.invokevirtual 29, 3) := by decide +kernel
theorem dL_law_336 : decode cL_law 336 = .ok (.aload_n 2, 1) := by decide +kernel
theorem dL_law_337 : decode cL_law 337 = .ok (.aload_n 0, 1) := by decide +kernel
theorem dL_law_338 : decode cL_law 338 = .ok (.iload 4, 2) := by decide +kernel
theorem dL_law_340 : decode cL_law 340 = .ok (.iconst 1, 1) := by decide +kernel
theorem dL_law_341 : decode cL_law 341 = .ok (.iadd, 1) := by decide +kernel
theorem dL_law_342 : decode cL_law 342 = .ok (.iaload, 1) := by decide +kernel
theorem dL_law_343 : decode cL_law 343 = .ok (.invokevirtual 33, 3) := by decide +kernel
theorem dL_law_346 : decode cL_law 346 = .ok (.if_icmp .eq 1204, 3) := by decide +kernel
theorem dL_law_349 : decode cL_law 349 = .ok (.iconst 0, 1) := by decide +kernel
theorem dL_law_350 : decode cL_law 350 = .ok (.ireturn, 1) := by decide +kernel
theorem dL_law_351 : decode cL_law 351 = .ok (.aload_n 1, 1) := by decide +kernel
theorem dL_law_352 : decode cL_law 352 = .ok (.aload_n 0, 1) := by decide +kernel
theorem dL_law_353 : decode cL_law 353 = .ok (.iload 4, 2) := by decide +kernel
theorem dL_law_355 : decode cL_law 355 = .ok (.iconst 1, 1) := by decide +kernel
theorem dL_law_356 : decode cL_law 356 = .ok (.iadd, 1) := by decide +kernel
theorem dL_law_357 : decode cL_law 357 = .ok (.iaload, 1) := by decide +kernel
theorem dL_law_358 : decode cL_law 358 = .ok (.invokevirtual 34, 3) := by decide +kernel
theorem dL_law_361 : decode cL_law 361 = .ok (.aload_n 2, 1) := by decide +kernel
theorem dL_law_362 : decode cL_law 362 = .ok (.aload_n 0, 1) := by decide +kernel
theorem dL_law_363 : decode cL_law 363 = .ok (.iload 4, 2) := by decide +kernel
theorem dL_law_365 : decode cL_law 365 = .ok (.iconst 1, 1) := by decide +kernel
theorem dL_law_366 : decode cL_law 366 = .ok (.iadd, 1) := by decide +kernel
theorem dL_law_367 : decode cL_law 367 = .ok (.iaload, 1) := by decide +kernel
theorem dL_law_368 : decode cL_law 368 = .ok (.invokevirtual 37, 3) := by decide +kernel
theorem dL_law_371 : decode cL_law 371 = .ok (.if_icmp .eq 1179, 3) := by decide +kernel
theorem dL_law_374 : decode cL_law 374 = .ok (.iconst 0, 1) := by decide +kernel
theorem dL_law_375 : decode cL_law 375 = .ok (.ireturn, 1) := by decide +kernel
theorem dL_law_376 : decode cL_law 376 = .ok (.aload_n 1, 1) := by decide +kernel
theorem dL_law_377 : decode cL_law 377 = .ok (.aload_n 0, 1) := by decide +kernel
theorem dL_law_378 : decode cL_law 378 = .ok (.iload 4, 2) := by decide +kernel
theorem dL_law_380 : decode cL_law 380 = .ok (.iconst 1, 1) := by decide +kernel
theorem dL_law_381 : decode cL_law 381 = .ok (.iadd, 1) := by decide +kernel
theorem dL_law_382 : decode cL_law 382 = .ok (.iaload, 1) := by decide +kernel
theorem dL_law_383 : decode cL_law 383 = .ok (.aload_n 0, 1) := by decide +kernel
theorem dL_law_384 : decode cL_law 384 = .ok (.iload 4, 2) := by decide +kernel
theorem dL_law_386 : decode cL_law 386 = .ok (.iconst 2, 1) := by decide +kernel
theorem dL_law_387 : decode cL_law 387 = .ok (.iadd, 1) := by decide +kernel
theorem dL_law_388 : decode cL_law 388 = .ok (.iaload, 1) := by decide +kernel
theorem dL_law_389 : decode cL_law 389 = .ok (.aload_n 3, 1) := by decide +kernel
theorem dL_law_390 : decode cL_law 390 = .ok (.invokestatic 38, 3) := by decide +kernel
theorem dL_law_393 : decode cL_law 393 = .ok (.istore 5, 2) := by decide +kernel
theorem dL_law_395 : decode cL_law 395 = .ok (.aload_n 2, 1) := by decide +kernel
theorem dL_law_396 : decode cL_law 396 = .ok (.aload_n 0, 1) := by decide +kernel
theorem dL_law_397 : decode cL_law 397 = .ok (.iload 4, 2) := by decide +kernel
theorem dL_law_399 : decode cL_law 399 = .ok (.iconst 1, 1) := by decide +kernel
theorem dL_law_400 : decode cL_law 400 = .ok (.iadd, 1) := by decide +kernel
theorem dL_law_401 : decode cL_law 401 = .ok (.iaload, 1) := by decide +kernel
theorem dL_law_402 : decode cL_law 402 = .ok (.aload_n 0, 1) := by decide +kernel
theorem dL_law_403 : decode cL_law 403 = .ok (.iload 4, 2) := by decide +kernel
theorem dL_law_405 : decode cL_law 405 = .ok (.iconst 2, 1) := by decide +kernel
theorem dL_law_406 : decode cL_law 406 = .ok (.iadd, 1) := by decide +kernel
theorem dL_law_407 : decode cL_law 407 = .ok (.iaload, 1) := by decide +kernel
theorem dL_law_408 : decode cL_law 408 = .ok (.invokevirtual 43, 3) := by decide +kernel
theorem dL_law_411 : decode cL_law 411 = .ok (.istore 6, 2) := by decide +kernel
theorem dL_law_413 : decode cL_law 413 = .ok (.aload_n 2, 1) := by decide +kernel
theorem dL_law_414 : decode cL_law 414 = .ok (.invokevirtual 44, 3) := by decide +kernel
theorem dL_law_417 : decode cL_law 417 = .ok (.iload 5, 2) := by decide +kernel
theorem dL_law_419 : decode cL_law 419 = .ok (.if_icmp .eq 5, 3) := by decide +kernel
theorem dL_law_422 : decode cL_law 422 = .ok (.iconst 0, 1) := by decide +kernel
theorem dL_law_423 : decode cL_law 423 = .ok (.ireturn, 1) := by decide +kernel
theorem dL_law_424 : decode cL_law 424 = .ok (.iload 5, 2) := by decide +kernel
theorem dL_law_426 : decode cL_law 426 = .ok (.ifCond .ne 15, 3) := by decide +kernel
theorem dL_law_429 : decode cL_law 429 = .ok (.aload_n 3, 1) := by decide +kernel
theorem dL_law_430 : decode cL_law 430 = .ok (.iconst 0, 1) := by decide +kernel
theorem dL_law_431 : decode cL_law 431 = .ok (.laload, 1) := by decide +kernel
theorem dL_law_432 : decode cL_law 432 = .ok (.iload 6, 2) := by decide +kernel
theorem dL_law_434 : decode cL_law 434 = .ok (.i2l, 1) := by decide +kernel
theorem dL_law_435 : decode cL_law 435 = .ok (.lcmp, 1) := by decide +kernel
theorem dL_law_436 : decode cL_law 436 = .ok (.ifCond .eq 5, 3) := by decide +kernel
theorem dL_law_439 : decode cL_law 439 = .ok (.iconst 0, 1) := by decide +kernel
theorem dL_law_440 : decode cL_law 440 = .ok (.ireturn, 1) := by decide +kernel
theorem dL_law_441 : decode cL_law 441 = .ok (.goto 1109, 3) := by decide +kernel
theorem dL_law_444 : decode cL_law 444 = .ok (.aload_n 1, 1) := by decide +kernel
theorem dL_law_445 : decode cL_law 445 = .ok (.aload_n 0, 1) := by decide +kernel
theorem dL_law_446 : decode cL_law 446 = .ok (.iload 4, 2) := by decide +kernel
theorem dL_law_448 : decode cL_law 448 = .ok (.iconst 1, 1) := by decide +kernel
theorem dL_law_449 : decode cL_law 449 = .ok (.iadd, 1) := by decide +kernel
theorem dL_law_450 : decode cL_law 450 = .ok (.iaload, 1) := by decide +kernel
theorem dL_law_451 : decode cL_law 451 = .ok (.aload_n 0, 1) := by decide +kernel
theorem dL_law_452 : decode cL_law 452 = .ok (.iload 4, 2) := by decide +kernel
theorem dL_law_454 : decode cL_law 454 = .ok (.iconst 2, 1) := by decide +kernel
theorem dL_law_455 : decode cL_law 455 = .ok (.iadd, 1) := by decide +kernel
theorem dL_law_456 : decode cL_law 456 = .ok (.iaload, 1) := by decide +kernel
theorem dL_law_457 : decode cL_law 457 = .ok (.invokevirtual 48, 3) := by decide +kernel
theorem dL_law_460 : decode cL_law 460 = .ok (.aload_n 2, 1) := by decide +kernel
theorem dL_law_461 : decode cL_law 461 = .ok (.aload_n 0, 1) := by decide +kernel
theorem dL_law_462 : decode cL_law 462 = .ok (.iload 4, 2) := by decide +kernel
theorem dL_law_464 : decode cL_law 464 = .ok (.iconst 1, 1) := by decide +kernel
theorem dL_law_465 : decode cL_law 465 = .ok (.iadd, 1) := by decide +kernel
theorem dL_law_466 : decode cL_law 466 = .ok (.iaload, 1) := by decide +kernel
theorem dL_law_467 : decode cL_law 467 = .ok (.aload_n 0, 1) := by decide +kernel
theorem dL_law_468 : decode cL_law 468 = .ok (.iload 4, 2) := by decide +kernel
theorem dL_law_470 : decode cL_law 470 = .ok (.iconst 2, 1) := by decide +kernel
theorem dL_law_471 : decode cL_law 471 = .ok (.iadd, 1) := by decide +kernel
theorem dL_law_472 : decode cL_law 472 = .ok (.iaload, 1) := by decide +kernel
theorem dL_law_473 : decode cL_law 473 = .ok (.invokevirtual 51, 3) := by decide +kernel
theorem dL_law_476 : decode cL_law 476 = .ok (.if_icmp .eq 1074, 3) := by decide +kernel
theorem dL_law_479 : decode cL_law 479 = .ok (.iconst 0, 1) := by decide +kernel
theorem dL_law_480 : decode cL_law 480 = .ok (.ireturn, 1) := by decide +kernel
theorem dL_law_481 : decode cL_law 481 = .ok (.aload_n 1, 1) := by decide +kernel
theorem dL_law_482 : decode cL_law 482 = .ok (.aload_n 0, 1) := by decide +kernel
theorem dL_law_483 : decode cL_law 483 = .ok (.iload 4, 2) := by decide +kernel
theorem dL_law_485 : decode cL_law 485 = .ok (.iconst 1, 1) := by decide +kernel
theorem dL_law_486 : decode cL_law 486 = .ok (.iadd, 1) := by decide +kernel
theorem dL_law_487 : decode cL_law 487 = .ok (.iaload, 1) := by decide +kernel
theorem dL_law_488 : decode cL_law 488 = .ok (.aload_n 0, 1) := by decide +kernel
theorem dL_law_489 : decode cL_law 489 = .ok (.iload 4, 2) := by decide +kernel
theorem dL_law_491 : decode cL_law 491 = .ok (.iconst 2, 1) := by decide +kernel
theorem dL_law_492 : decode cL_law 492 = .ok (.iadd, 1) := by decide +kernel
theorem dL_law_493 : decode cL_law 493 = .ok (.iaload, 1) := by decide +kernel
theorem dL_law_494 : decode cL_law 494 = .ok (.aload_n 0, 1) := by decide +kernel
theorem dL_law_495 : decode cL_law 495 = .ok (.iload 4, 2) := by decide +kernel
theorem dL_law_497 : decode cL_law 497 = .ok (.iconst 3, 1) := by decide +kernel
theorem dL_law_498 : decode cL_law 498 = .ok (.iadd, 1) := by decide +kernel
theorem dL_law_499 : decode cL_law 499 = .ok (.iaload, 1) := by decide +kernel
theorem dL_law_500 : decode cL_law 500 = .ok (.invokevirtual 52, 3) := by decide +kernel
theorem dL_law_503 : decode cL_law 503 = .ok (.aload_n 2, 1) := by decide +kernel
theorem dL_law_504 : decode cL_law 504 = .ok (.aload_n 0, 1) := by decide +kernel
theorem dL_law_505 : decode cL_law 505 = .ok (.iload 4, 2) := by decide +kernel
theorem dL_law_507 : decode cL_law 507 = .ok (.iconst 1, 1) := by decide +kernel
theorem dL_law_508 : decode cL_law 508 = .ok (.iadd, 1) := by decide +kernel
theorem dL_law_509 : decode cL_law 509 = .ok (.iaload, 1) := by decide +kernel
theorem dL_law_510 : decode cL_law 510 = .ok (.aload_n 0, 1) := by decide +kernel
theorem dL_law_511 : decode cL_law 511 = .ok (.iload 4, 2) := by decide +kernel
theorem dL_law_513 : decode cL_law 513 = .ok (.iconst 2, 1) := by decide +kernel
theorem dL_law_514 : decode cL_law 514 = .ok (.iadd, 1) := by decide +kernel
theorem dL_law_515 : decode cL_law 515 = .ok (.iaload, 1) := by decide +kernel
theorem dL_law_516 : decode cL_law 516 = .ok (.aload_n 0, 1) := by decide +kernel
theorem dL_law_517 : decode cL_law 517 = .ok (.iload 4, 2) := by decide +kernel
theorem dL_law_519 : decode cL_law 519 = .ok (.iconst 3, 1) := by decide +kernel
theorem dL_law_520 : decode cL_law 520 = .ok (.iadd, 1) := by decide +kernel
theorem dL_law_521 : decode cL_law 521 = .ok (.iaload, 1) := by decide +kernel
theorem dL_law_522 : decode cL_law 522 = .ok (.invokevirtual 56, 3) := by decide +kernel
theorem dL_law_525 : decode cL_law 525 = .ok (.if_icmp .eq 1025, 3) := by decide +kernel
theorem dL_law_528 : decode cL_law 528 = .ok (.iconst 0, 1) := by decide +kernel
theorem dL_law_529 : decode cL_law 529 = .ok (.ireturn, 1) := by decide +kernel
theorem dL_law_530 : decode cL_law 530 = .ok (.aload_n 1, 1) := by decide +kernel
theorem dL_law_531 : decode cL_law 531 = .ok (.aload_n 0, 1) := by decide +kernel
theorem dL_law_532 : decode cL_law 532 = .ok (.iload 4, 2) := by decide +kernel
theorem dL_law_534 : decode cL_law 534 = .ok (.iconst 1, 1) := by decide +kernel
theorem dL_law_535 : decode cL_law 535 = .ok (.iadd, 1) := by decide +kernel
theorem dL_law_536 : decode cL_law 536 = .ok (.iaload, 1) := by decide +kernel
theorem dL_law_537 : decode cL_law 537 = .ok (.invokevirtual 57, 3) := by decide +kernel
theorem dL_law_540 : decode cL_law 540 = .ok (.aload_n 2, 1) := by decide +kernel
theorem dL_law_541 : decode cL_law 541 = .ok (.aload_n 0, 1) := by decide +kernel
theorem dL_law_542 : decode cL_law 542 = .ok (.iload 4, 2) := by decide +kernel
theorem dL_law_544 : decode cL_law 544 = .ok (.iconst 1, 1) := by decide +kernel
theorem dL_law_545 : decode cL_law 545 = .ok (.iadd, 1) := by decide +kernel
theorem dL_law_546 : decode cL_law 546 = .ok (.iaload, 1) := by decide +kernel
theorem dL_law_547 : decode cL_law 547 = .ok (.invokevirtual 60, 3) := by decide +kernel
theorem dL_law_550 : decode cL_law 550 = .ok (.if_icmp .eq 1000, 3) := by decide +kernel
theorem dL_law_553 : decode cL_law 553 = .ok (.iconst 0, 1) := by decide +kernel
theorem dL_law_554 : decode cL_law 554 = .ok (.ireturn, 1) := by decide +kernel
theorem dL_law_555 : decode cL_law 555 = .ok (.aload_n 1, 1) := by decide +kernel
theorem dL_law_556 : decode cL_law 556 = .ok (.aload_n 0, 1) := by decide +kernel
theorem dL_law_557 : decode cL_law 557 = .ok (.iload 4, 2) := by decide +kernel
theorem dL_law_559 : decode cL_law 559 = .ok (.iconst 1, 1) := by decide +kernel
theorem dL_law_560 : decode cL_law 560 = .ok (.iadd, 1) := by decide +kernel
theorem dL_law_561 : decode cL_law 561 = .ok (.iaload, 1) := by decide +kernel
theorem dL_law_562 : decode cL_law 562 = .ok (.invokevirtual 61, 3) := by decide +kernel
theorem dL_law_565 : decode cL_law 565 = .ok (.aload_n 2, 1) := by decide +kernel
theorem dL_law_566 : decode cL_law 566 = .ok (.aload_n 0, 1) := by decide +kernel
theorem dL_law_567 : decode cL_law 567 = .ok (.iload 4, 2) := by decide +kernel
theorem dL_law_569 : decode cL_law 569 = .ok (.iconst 1, 1) := by decide +kernel
theorem dL_law_570 : decode cL_law 570 = .ok (.iadd, 1) := by decide +kernel
theorem dL_law_571 : decode cL_law 571 = .ok (.iaload, 1) := by decide +kernel
theorem dL_law_572 : decode cL_law 572 = .ok (.invokevirtual 64, 3) := by decide +kernel
theorem dL_law_575 : decode cL_law 575 = .ok (.if_icmp .eq 975, 3) := by decide +kernel
theorem dL_law_578 : decode cL_law 578 = .ok (.iconst 0, 1) := by decide +kernel
theorem dL_law_579 : decode cL_law 579 = .ok (.ireturn, 1) := by decide +kernel
theorem dL_law_580 : decode cL_law 580 = .ok (.aload_n 1, 1) := by decide +kernel
theorem dL_law_581 : decode cL_law 581 = .ok (.aload_n 0, 1) := by decide +kernel
theorem dL_law_582 : decode cL_law 582 = .ok (.iload 4, 2) := by decide +kernel
theorem dL_law_584 : decode cL_law 584 = .ok (.iconst 1, 1) := by decide +kernel
theorem dL_law_585 : decode cL_law 585 = .ok (.iadd, 1) := by decide +kernel
theorem dL_law_586 : decode cL_law 586 = .ok (.iaload, 1) := by decide +kernel
theorem dL_law_587 : decode cL_law 587 = .ok (.aload_n 0, 1) := by decide +kernel
theorem dL_law_588 : decode cL_law 588 = .ok (.iload 4, 2) := by decide +kernel
theorem dL_law_590 : decode cL_law 590 = .ok (.iconst 2, 1) := by decide +kernel
theorem dL_law_591 : decode cL_law 591 = .ok (.iadd, 1) := by decide +kernel
theorem dL_law_592 : decode cL_law 592 = .ok (.iaload, 1) := by decide +kernel
theorem dL_law_593 : decode cL_law 593 = .ok (.invokevirtual 65, 3) := by decide +kernel
theorem dL_law_596 : decode cL_law 596 = .ok (.aload_n 2, 1) := by decide +kernel
theorem dL_law_597 : decode cL_law 597 = .ok (.aload_n 0, 1) := by decide +kernel
theorem dL_law_598 : decode cL_law 598 = .ok (.iload 4, 2) := by decide +kernel
theorem dL_law_600 : decode cL_law 600 = .ok (.iconst 1, 1) := by decide +kernel
theorem dL_law_601 : decode cL_law 601 = .ok (.iadd, 1) := by decide +kernel
theorem dL_law_602 : decode cL_law 602 = .ok (.iaload, 1) := by decide +kernel
theorem dL_law_603 : decode cL_law 603 = .ok (.aload_n 0, 1) := by decide +kernel
theorem dL_law_604 : decode cL_law 604 = .ok (.iload 4, 2) := by decide +kernel
theorem dL_law_606 : decode cL_law 606 = .ok (.iconst 2, 1) := by decide +kernel
theorem dL_law_607 : decode cL_law 607 = .ok (.iadd, 1) := by decide +kernel
theorem dL_law_608 : decode cL_law 608 = .ok (.iaload, 1) := by decide +kernel
theorem dL_law_609 : decode cL_law 609 = .ok (.invokevirtual 68, 3) := by decide +kernel
theorem dL_law_612 : decode cL_law 612 = .ok (.if_icmp .eq 938, 3) := by decide +kernel
theorem dL_law_615 : decode cL_law 615 = .ok (.iconst 0, 1) := by decide +kernel
theorem dL_law_616 : decode cL_law 616 = .ok (.ireturn, 1) := by decide +kernel
theorem dL_law_617 : decode cL_law 617 = .ok (.aload_n 1, 1) := by decide +kernel
theorem dL_law_618 : decode cL_law 618 = .ok (.aload_n 0, 1) := by decide +kernel
theorem dL_law_619 : decode cL_law 619 = .ok (.iload 4, 2) := by decide +kernel
theorem dL_law_621 : decode cL_law 621 = .ok (.iconst 1, 1) := by decide +kernel
theorem dL_law_622 : decode cL_law 622 = .ok (.iadd, 1) := by decide +kernel
theorem dL_law_623 : decode cL_law 623 = .ok (.iaload, 1) := by decide +kernel
theorem dL_law_624 : decode cL_law 624 = .ok (.aload_n 0, 1) := by decide +kernel
theorem dL_law_625 : decode cL_law 625 = .ok (.iload 4, 2) := by decide +kernel
theorem dL_law_627 : decode cL_law 627 = .ok (.iconst 2, 1) := by decide +kernel
theorem dL_law_628 : decode cL_law 628 = .ok (.iadd, 1) := by decide +kernel
theorem dL_law_629 : decode cL_law 629 = .ok (.iaload, 1) := by decide +kernel
theorem dL_law_630 : decode cL_law 630 = .ok (.invokevirtual 69, 3) := by decide +kernel
theorem dL_law_633 : decode cL_law 633 = .ok (.aload_n 2, 1) := by decide +kernel
theorem dL_law_634 : decode cL_law 634 = .ok (.aload_n 0, 1) := by decide +kernel
theorem dL_law_635 : decode cL_law 635 = .ok (.iload 4, 2) := by decide +kernel
theorem dL_law_637 : decode cL_law 637 = .ok (.iconst 1, 1) := by decide +kernel
theorem dL_law_638 : decode cL_law 638 = .ok (.iadd, 1) := by decide +kernel
theorem dL_law_639 : decode cL_law 639 = .ok (.iaload, 1) := by decide +kernel
theorem dL_law_640 : decode cL_law 640 = .ok (.aload_n 0, 1) := by decide +kernel
theorem dL_law_641 : decode cL_law 641 = .ok (.iload 4, 2) := by decide +kernel
theorem dL_law_643 : decode cL_law 643 = .ok (.iconst 2, 1) := by decide +kernel
theorem dL_law_644 : decode cL_law 644 = .ok (.iadd, 1) := by decide +kernel
theorem dL_law_645 : decode cL_law 645 = .ok (.iaload, 1) := by decide +kernel
theorem dL_law_646 : decode cL_law 646 = .ok (.invokevirtual 72, 3) := by decide +kernel
theorem dL_law_649 : decode cL_law 649 = .ok (.if_icmp .eq 901, 3) := by decide +kernel
theorem dL_law_652 : decode cL_law 652 = .ok (.iconst 0, 1) := by decide +kernel
theorem dL_law_653 : decode cL_law 653 = .ok (.ireturn, 1) := by decide +kernel
theorem dL_law_654 : decode cL_law 654 = .ok (.aload_n 1, 1) := by decide +kernel
theorem dL_law_655 : decode cL_law 655 = .ok (.aload_n 0, 1) := by decide +kernel
theorem dL_law_656 : decode cL_law 656 = .ok (.iload 4, 2) := by decide +kernel
theorem dL_law_658 : decode cL_law 658 = .ok (.iconst 1, 1) := by decide +kernel
theorem dL_law_659 : decode cL_law 659 = .ok (.iadd, 1) := by decide +kernel
theorem dL_law_660 : decode cL_law 660 = .ok (.iaload, 1) := by decide +kernel
theorem dL_law_661 : decode cL_law 661 = .ok (.invokevirtual 73, 3) := by decide +kernel
theorem dL_law_664 : decode cL_law 664 = .ok (.aload_n 2, 1) := by decide +kernel
theorem dL_law_665 : decode cL_law 665 = .ok (.aload_n 0, 1) := by decide +kernel
theorem dL_law_666 : decode cL_law 666 = .ok (.iload 4, 2) := by decide +kernel
theorem dL_law_668 : decode cL_law 668 = .ok (.iconst 1, 1) := by decide +kernel
theorem dL_law_669 : decode cL_law 669 = .ok (.iadd, 1) := by decide +kernel
theorem dL_law_670 : decode cL_law 670 = .ok (.iaload, 1) := by decide +kernel
theorem dL_law_671 : decode cL_law 671 = .ok (.invokevirtual 76, 3) := by decide +kernel
theorem dL_law_674 : decode cL_law 674 = .ok (.if_icmp .eq 876, 3) := by decide +kernel
theorem dL_law_677 : decode cL_law 677 = .ok (.iconst 0, 1) := by decide +kernel
theorem dL_law_678 : decode cL_law 678 = .ok (.ireturn, 1) := by decide +kernel
theorem dL_law_679 : decode cL_law 679 = .ok (.aload_n 1, 1) := by decide +kernel
theorem dL_law_680 : decode cL_law 680 = .ok (.aload_n 0, 1) := by decide +kernel
theorem dL_law_681 : decode cL_law 681 = .ok (.iload 4, 2) := by decide +kernel
theorem dL_law_683 : decode cL_law 683 = .ok (.iconst 1, 1) := by decide +kernel
theorem dL_law_684 : decode cL_law 684 = .ok (.iadd, 1) := by decide +kernel
theorem dL_law_685 : decode cL_law 685 = .ok (.iaload, 1) := by decide +kernel
theorem dL_law_686 : decode cL_law 686 = .ok (.invokevirtual 77, 3) := by decide +kernel
theorem dL_law_689 : decode cL_law 689 = .ok (.aload_n 2, 1) := by decide +kernel
theorem dL_law_690 : decode cL_law 690 = .ok (.aload_n 0, 1) := by decide +kernel
theorem dL_law_691 : decode cL_law 691 = .ok (.iload 4, 2) := by decide +kernel
theorem dL_law_693 : decode cL_law 693 = .ok (.iconst 1, 1) := by decide +kernel
theorem dL_law_694 : decode cL_law 694 = .ok (.iadd, 1) := by decide +kernel
theorem dL_law_695 : decode cL_law 695 = .ok (.iaload, 1) := by decide +kernel
theorem dL_law_696 : decode cL_law 696 = .ok (.invokevirtual 80, 3) := by decide +kernel
theorem dL_law_699 : decode cL_law 699 = .ok (.if_icmp .eq 851, 3) := by decide +kernel
theorem dL_law_702 : decode cL_law 702 = .ok (.iconst 0, 1) := by decide +kernel
theorem dL_law_703 : decode cL_law 703 = .ok (.ireturn, 1) := by decide +kernel
theorem dL_law_704 : decode cL_law 704 = .ok (.aload_n 1, 1) := by decide +kernel
theorem dL_law_705 : decode cL_law 705 = .ok (.aload_n 0, 1) := by decide +kernel
theorem dL_law_706 : decode cL_law 706 = .ok (.iload 4, 2) := by decide +kernel
theorem dL_law_708 : decode cL_law 708 = .ok (.iconst 1, 1) := by decide +kernel
theorem dL_law_709 : decode cL_law 709 = .ok (.iadd, 1) := by decide +kernel
theorem dL_law_710 : decode cL_law 710 = .ok (.iaload, 1) := by decide +kernel
theorem dL_law_711 : decode cL_law 711 = .ok (.invokevirtual 81, 3) := by decide +kernel
theorem dL_law_714 : decode cL_law 714 = .ok (.aload_n 2, 1) := by decide +kernel
theorem dL_law_715 : decode cL_law 715 = .ok (.aload_n 0, 1) := by decide +kernel
theorem dL_law_716 : decode cL_law 716 = .ok (.iload 4, 2) := by decide +kernel
theorem dL_law_718 : decode cL_law 718 = .ok (.iconst 1, 1) := by decide +kernel
theorem dL_law_719 : decode cL_law 719 = .ok (.iadd, 1) := by decide +kernel
theorem dL_law_720 : decode cL_law 720 = .ok (.iaload, 1) := by decide +kernel
theorem dL_law_721 : decode cL_law 721 = .ok (.invokevirtual 84, 3) := by decide +kernel
theorem dL_law_724 : decode cL_law 724 = .ok (.if_icmp .eq 826, 3) := by decide +kernel
theorem dL_law_727 : decode cL_law 727 = .ok (.iconst 0, 1) := by decide +kernel
theorem dL_law_728 : decode cL_law 728 = .ok (.ireturn, 1) := by decide +kernel
theorem dL_law_729 : decode cL_law 729 = .ok (.aload_n 1, 1) := by decide +kernel
theorem dL_law_730 : decode cL_law 730 = .ok (.aload_n 0, 1) := by decide +kernel
theorem dL_law_731 : decode cL_law 731 = .ok (.iload 4, 2) := by decide +kernel
theorem dL_law_733 : decode cL_law 733 = .ok (.iconst 1, 1) := by decide +kernel
theorem dL_law_734 : decode cL_law 734 = .ok (.iadd, 1) := by decide +kernel
theorem dL_law_735 : decode cL_law 735 = .ok (.iaload, 1) := by decide +kernel
theorem dL_law_736 : decode cL_law 736 = .ok (.invokevirtual 85, 3) := by decide +kernel
theorem dL_law_739 : decode cL_law 739 = .ok (.aload_n 2, 1) := by decide +kernel
theorem dL_law_740 : decode cL_law 740 = .ok (.aload_n 0, 1) := by decide +kernel
theorem dL_law_741 : decode cL_law 741 = .ok (.iload 4, 2) := by decide +kernel
theorem dL_law_743 : decode cL_law 743 = .ok (.iconst 1, 1) := by decide +kernel
theorem dL_law_744 : decode cL_law 744 = .ok (.iadd, 1) := by decide +kernel
theorem dL_law_745 : decode cL_law 745 = .ok (.iaload, 1) := by decide +kernel
theorem dL_law_746 : decode cL_law 746 = .ok (.invokevirtual 88, 3) := by decide +kernel
theorem dL_law_749 : decode cL_law 749 = .ok (.if_icmp .eq 801, 3) := by decide +kernel
theorem dL_law_752 : decode cL_law 752 = .ok (.iconst 0, 1) := by decide +kernel
theorem dL_law_753 : decode cL_law 753 = .ok (.ireturn, 1) := by decide +kernel
theorem dL_law_754 : decode cL_law 754 = .ok (.aload_n 1, 1) := by decide +kernel
theorem dL_law_755 : decode cL_law 755 = .ok (.aload_n 0, 1) := by decide +kernel
theorem dL_law_756 : decode cL_law 756 = .ok (.iload 4, 2) := by decide +kernel
theorem dL_law_758 : decode cL_law 758 = .ok (.iconst 1, 1) := by decide +kernel
theorem dL_law_759 : decode cL_law 759 = .ok (.iadd, 1) := by decide +kernel
theorem dL_law_760 : decode cL_law 760 = .ok (.iaload, 1) := by decide +kernel
theorem dL_law_761 : decode cL_law 761 = .ok (.aload_n 0, 1) := by decide +kernel
theorem dL_law_762 : decode cL_law 762 = .ok (.iload 4, 2) := by decide +kernel
theorem dL_law_764 : decode cL_law 764 = .ok (.iconst 2, 1) := by decide +kernel
theorem dL_law_765 : decode cL_law 765 = .ok (.iadd, 1) := by decide +kernel
theorem dL_law_766 : decode cL_law 766 = .ok (.iaload, 1) := by decide +kernel
theorem dL_law_767 : decode cL_law 767 = .ok (.invokevirtual 89, 3) := by decide +kernel
theorem dL_law_770 : decode cL_law 770 = .ok (.aload_n 2, 1) := by decide +kernel
theorem dL_law_771 : decode cL_law 771 = .ok (.aload_n 0, 1) := by decide +kernel
theorem dL_law_772 : decode cL_law 772 = .ok (.iload 4, 2) := by decide +kernel
theorem dL_law_774 : decode cL_law 774 = .ok (.iconst 1, 1) := by decide +kernel
theorem dL_law_775 : decode cL_law 775 = .ok (.iadd, 1) := by decide +kernel
theorem dL_law_776 : decode cL_law 776 = .ok (.iaload, 1) := by decide +kernel
theorem dL_law_777 : decode cL_law 777 = .ok (.aload_n 0, 1) := by decide +kernel
theorem dL_law_778 : decode cL_law 778 = .ok (.iload 4, 2) := by decide +kernel
theorem dL_law_780 : decode cL_law 780 = .ok (.iconst 2, 1) := by decide +kernel
theorem dL_law_781 : decode cL_law 781 = .ok (.iadd, 1) := by decide +kernel
theorem dL_law_782 : decode cL_law 782 = .ok (.iaload, 1) := by decide +kernel
theorem dL_law_783 : decode cL_law 783 = .ok (.invokevirtual 92, 3) := by decide +kernel
theorem dL_law_786 : decode cL_law 786 = .ok (.if_icmp .eq 764, 3) := by decide +kernel
theorem dL_law_789 : decode cL_law 789 = .ok (.iconst 0, 1) := by decide +kernel
theorem dL_law_790 : decode cL_law 790 = .ok (.ireturn, 1) := by decide +kernel
theorem dL_law_791 : decode cL_law 791 = .ok (.aload_n 1, 1) := by decide +kernel
theorem dL_law_792 : decode cL_law 792 = .ok (.aload_n 0, 1) := by decide +kernel
theorem dL_law_793 : decode cL_law 793 = .ok (.iload 4, 2) := by decide +kernel
theorem dL_law_795 : decode cL_law 795 = .ok (.iconst 1, 1) := by decide +kernel
theorem dL_law_796 : decode cL_law 796 = .ok (.iadd, 1) := by decide +kernel
theorem dL_law_797 : decode cL_law 797 = .ok (.iaload, 1) := by decide +kernel
theorem dL_law_798 : decode cL_law 798 = .ok (.invokevirtual 93, 3) := by decide +kernel
theorem dL_law_801 : decode cL_law 801 = .ok (.aload_n 2, 1) := by decide +kernel
theorem dL_law_802 : decode cL_law 802 = .ok (.aload_n 0, 1) := by decide +kernel
theorem dL_law_803 : decode cL_law 803 = .ok (.iload 4, 2) := by decide +kernel
theorem dL_law_805 : decode cL_law 805 = .ok (.iconst 1, 1) := by decide +kernel
theorem dL_law_806 : decode cL_law 806 = .ok (.iadd, 1) := by decide +kernel
theorem dL_law_807 : decode cL_law 807 = .ok (.iaload, 1) := by decide +kernel
theorem dL_law_808 : decode cL_law 808 = .ok (.invokevirtual 96, 3) := by decide +kernel
theorem dL_law_811 : decode cL_law 811 = .ok (.if_icmp .eq 739, 3) := by decide +kernel
theorem dL_law_814 : decode cL_law 814 = .ok (.iconst 0, 1) := by decide +kernel
theorem dL_law_815 : decode cL_law 815 = .ok (.ireturn, 1) := by decide +kernel
theorem dL_law_816 : decode cL_law 816 = .ok (.aload_n 1, 1) := by decide +kernel
theorem dL_law_817 : decode cL_law 817 = .ok (.aload_n 0, 1) := by decide +kernel
theorem dL_law_818 : decode cL_law 818 = .ok (.iload 4, 2) := by decide +kernel
theorem dL_law_820 : decode cL_law 820 = .ok (.iconst 1, 1) := by decide +kernel
theorem dL_law_821 : decode cL_law 821 = .ok (.iadd, 1) := by decide +kernel
theorem dL_law_822 : decode cL_law 822 = .ok (.iaload, 1) := by decide +kernel
theorem dL_law_823 : decode cL_law 823 = .ok (.aload_n 0, 1) := by decide +kernel
theorem dL_law_824 : decode cL_law 824 = .ok (.iload 4, 2) := by decide +kernel
theorem dL_law_826 : decode cL_law 826 = .ok (.iconst 2, 1) := by decide +kernel
theorem dL_law_827 : decode cL_law 827 = .ok (.iadd, 1) := by decide +kernel
theorem dL_law_828 : decode cL_law 828 = .ok (.iaload, 1) := by decide +kernel
theorem dL_law_829 : decode cL_law 829 = .ok (.i2l, 1) := by decide +kernel
theorem dL_law_830 : decode cL_law 830 = .ok (.bipush 32, 2) := by decide +kernel
theorem dL_law_832 : decode cL_law 832 = .ok (.lshl, 1) := by decide +kernel
theorem dL_law_833 : decode cL_law 833 = .ok (.aload_n 0, 1) := by decide +kernel
theorem dL_law_834 : decode cL_law 834 = .ok (.iload 4, 2) := by decide +kernel
theorem dL_law_836 : decode cL_law 836 = .ok (.iconst 3, 1) := by decide +kernel
theorem dL_law_837 : decode cL_law 837 = .ok (.iadd, 1) := by decide +kernel
theorem dL_law_838 : decode cL_law 838 = .ok (.iaload, 1) := by decide +kernel
theorem dL_law_839 : decode cL_law 839 = .ok (.i2l, 1) := by decide +kernel
theorem dL_law_840 : decode cL_law 840 = .ok (.ldc2_w 97, 3) := by decide +kernel
theorem dL_law_843 : decode cL_law 843 = .ok (.land, 1) := by decide +kernel
theorem dL_law_844 : decode cL_law 844 = .ok (.lor, 1) := by decide +kernel
theorem dL_law_845 : decode cL_law 845 = .ok (.invokevirtual 99, 3) := by decide +kernel
theorem dL_law_848 : decode cL_law 848 = .ok (.aload_n 2, 1) := by decide +kernel
theorem dL_law_849 : decode cL_law 849 = .ok (.aload_n 0, 1) := by decide +kernel
theorem dL_law_850 : decode cL_law 850 = .ok (.iload 4, 2) := by decide +kernel
theorem dL_law_852 : decode cL_law 852 = .ok (.iconst 1, 1) := by decide +kernel
theorem dL_law_853 : decode cL_law 853 = .ok (.iadd, 1) := by decide +kernel
theorem dL_law_854 : decode cL_law 854 = .ok (.iaload, 1) := by decide +kernel
theorem dL_law_855 : decode cL_law 855 = .ok (.aload_n 0, 1) := by decide +kernel
theorem dL_law_856 : decode cL_law 856 = .ok (.iload 4, 2) := by decide +kernel
theorem dL_law_858 : decode cL_law 858 = .ok (.iconst 2, 1) := by decide +kernel
theorem dL_law_859 : decode cL_law 859 = .ok (.iadd, 1) := by decide +kernel
theorem dL_law_860 : decode cL_law 860 = .ok (.iaload, 1) := by decide +kernel
theorem dL_law_861 : decode cL_law 861 = .ok (.i2l, 1) := by decide +kernel
theorem dL_law_862 : decode cL_law 862 = .ok (.bipush 32, 2) := by decide +kernel
theorem dL_law_864 : decode cL_law 864 = .ok (.lshl, 1) := by decide +kernel
theorem dL_law_865 : decode cL_law 865 = .ok (.aload_n 0, 1) := by decide +kernel
theorem dL_law_866 : decode cL_law 866 = .ok (.iload 4, 2) := by decide +kernel
theorem dL_law_868 : decode cL_law 868 = .ok (.iconst 3, 1) := by decide +kernel
theorem dL_law_869 : decode cL_law 869 = .ok (.iadd, 1) := by decide +kernel
theorem dL_law_870 : decode cL_law 870 = .ok (.iaload, 1) := by decide +kernel
theorem dL_law_871 : decode cL_law 871 = .ok (.i2l, 1) := by decide +kernel
theorem dL_law_872 : decode cL_law 872 = .ok (.ldc2_w 97, 3) := by decide +kernel
theorem dL_law_875 : decode cL_law 875 = .ok (.land, 1) := by decide +kernel
theorem dL_law_876 : decode cL_law 876 = .ok (.lor, 1) := by decide +kernel
theorem dL_law_877 : decode cL_law 877 = .ok (.invokevirtual 103, 3) := by decide +kernel
theorem dL_law_880 : decode cL_law 880 = .ok (.if_icmp .eq 670, 3) := by decide +kernel
theorem dL_law_883 : decode cL_law 883 = .ok (.iconst 0, 1) := by decide +kernel
theorem dL_law_884 : decode cL_law 884 = .ok (.ireturn, 1) := by decide +kernel
theorem dL_law_885 : decode cL_law 885 = .ok (.aload_n 1, 1) := by decide +kernel
theorem dL_law_886 : decode cL_law 886 = .ok (.invokevirtual 104, 3) := by decide +kernel
theorem dL_law_889 : decode cL_law 889 = .ok (.aload_n 2, 1) := by decide +kernel
theorem dL_law_890 : decode cL_law 890 = .ok (.invokevirtual 107, 3) := by decide +kernel
theorem dL_law_893 : decode cL_law 893 = .ok (.if_icmp .eq 657, 3) := by decide +kernel
theorem dL_law_896 : decode cL_law 896 = .ok (.iconst 0, 1) := by decide +kernel
theorem dL_law_897 : decode cL_law 897 = .ok (.ireturn, 1) := by decide +kernel
theorem dL_law_898 : decode cL_law 898 = .ok (.aload_n 1, 1) := by decide +kernel
theorem dL_law_899 : decode cL_law 899 = .ok (.aload_n 0, 1) := by decide +kernel
theorem dL_law_900 : decode cL_law 900 = .ok (.iload 4, 2) := by decide +kernel
theorem dL_law_902 : decode cL_law 902 = .ok (.iconst 1, 1) := by decide +kernel
theorem dL_law_903 : decode cL_law 903 = .ok (.iadd, 1) := by decide +kernel
theorem dL_law_904 : decode cL_law 904 = .ok (.iaload, 1) := by decide +kernel
theorem dL_law_905 : decode cL_law 905 = .ok (.aload_n 0, 1) := by decide +kernel
theorem dL_law_906 : decode cL_law 906 = .ok (.iload 4, 2) := by decide +kernel
theorem dL_law_908 : decode cL_law 908 = .ok (.iconst 2, 1) := by decide +kernel
theorem dL_law_909 : decode cL_law 909 = .ok (.iadd, 1) := by decide +kernel
theorem dL_law_910 : decode cL_law 910 = .ok (.iaload, 1) := by decide +kernel
theorem dL_law_911 : decode cL_law 911 = .ok (.invokevirtual 108, 3) := by decide +kernel
theorem dL_law_914 : decode cL_law 914 = .ok (.aload_n 2, 1) := by decide +kernel
theorem dL_law_915 : decode cL_law 915 = .ok (.aload_n 0, 1) := by decide +kernel
theorem dL_law_916 : decode cL_law 916 = .ok (.iload 4, 2) := by decide +kernel
theorem dL_law_918 : decode cL_law 918 = .ok (.iconst 1, 1) := by decide +kernel
theorem dL_law_919 : decode cL_law 919 = .ok (.iadd, 1) := by decide +kernel
theorem dL_law_920 : decode cL_law 920 = .ok (.iaload, 1) := by decide +kernel
theorem dL_law_921 : decode cL_law 921 = .ok (.aload_n 0, 1) := by decide +kernel
theorem dL_law_922 : decode cL_law 922 = .ok (.iload 4, 2) := by decide +kernel
theorem dL_law_924 : decode cL_law 924 = .ok (.iconst 2, 1) := by decide +kernel
theorem dL_law_925 : decode cL_law 925 = .ok (.iadd, 1) := by decide +kernel
theorem dL_law_926 : decode cL_law 926 = .ok (.iaload, 1) := by decide +kernel
theorem dL_law_927 : decode cL_law 927 = .ok (.invokevirtual 111, 3) := by decide +kernel
theorem dL_law_930 : decode cL_law 930 = .ok (.if_icmp .eq 620, 3) := by decide +kernel
theorem dL_law_933 : decode cL_law 933 = .ok (.iconst 0, 1) := by decide +kernel
theorem dL_law_934 : decode cL_law 934 = .ok (.ireturn, 1) := by decide +kernel
theorem dL_law_935 : decode cL_law 935 = .ok (.aload_n 1, 1) := by decide +kernel
theorem dL_law_936 : decode cL_law 936 = .ok (.aload_n 0, 1) := by decide +kernel
theorem dL_law_937 : decode cL_law 937 = .ok (.iload 4, 2) := by decide +kernel
theorem dL_law_939 : decode cL_law 939 = .ok (.iconst 1, 1) := by decide +kernel
theorem dL_law_940 : decode cL_law 940 = .ok (.iadd, 1) := by decide +kernel
theorem dL_law_941 : decode cL_law 941 = .ok (.iaload, 1) := by decide +kernel
theorem dL_law_942 : decode cL_law 942 = .ok (.aload_n 0, 1) := by decide +kernel
theorem dL_law_943 : decode cL_law 943 = .ok (.iload 4, 2) := by decide +kernel
theorem dL_law_945 : decode cL_law 945 = .ok (.iconst 2, 1) := by decide +kernel
theorem dL_law_946 : decode cL_law 946 = .ok (.iadd, 1) := by decide +kernel
theorem dL_law_947 : decode cL_law 947 = .ok (.iaload, 1) := by decide +kernel
theorem dL_law_948 : decode cL_law 948 = .ok (.aload_n 0, 1) := by decide +kernel
theorem dL_law_949 : decode cL_law 949 = .ok (.iload 4, 2) := by decide +kernel
theorem dL_law_951 : decode cL_law 951 = .ok (.iconst 3, 1) := by decide +kernel
theorem dL_law_952 : decode cL_law 952 = .ok (.iadd, 1) := by decide +kernel
theorem dL_law_953 : decode cL_law 953 = .ok (.iaload, 1) := by decide +kernel
theorem dL_law_954 : decode cL_law 954 = .ok (.invokevirtual 112, 3) := by decide +kernel
theorem dL_law_957 : decode cL_law 957 = .ok (.aload_n 2, 1) := by decide +kernel
theorem dL_law_958 : decode cL_law 958 = .ok (.aload_n 0, 1) := by decide +kernel
theorem dL_law_959 : decode cL_law 959 = .ok (.iload 4, 2) := by decide +kernel
theorem dL_law_961 : decode cL_law 961 = .ok (.iconst 1, 1) := by decide +kernel
theorem dL_law_962 : decode cL_law 962 = .ok (.iadd, 1) := by decide +kernel
theorem dL_law_963 : decode cL_law 963 = .ok (.iaload, 1) := by decide +kernel
theorem dL_law_964 : decode cL_law 964 = .ok (.aload_n 0, 1) := by decide +kernel
theorem dL_law_965 : decode cL_law 965 = .ok (.iload 4, 2) := by decide +kernel
theorem dL_law_967 : decode cL_law 967 = .ok (.iconst 2, 1) := by decide +kernel
theorem dL_law_968 : decode cL_law 968 = .ok (.iadd, 1) := by decide +kernel
theorem dL_law_969 : decode cL_law 969 = .ok (.iaload, 1) := by decide +kernel
theorem dL_law_970 : decode cL_law 970 = .ok (.aload_n 0, 1) := by decide +kernel
theorem dL_law_971 : decode cL_law 971 = .ok (.iload 4, 2) := by decide +kernel
theorem dL_law_973 : decode cL_law 973 = .ok (.iconst 3, 1) := by decide +kernel
theorem dL_law_974 : decode cL_law 974 = .ok (.iadd, 1) := by decide +kernel
theorem dL_law_975 : decode cL_law 975 = .ok (.iaload, 1) := by decide +kernel
theorem dL_law_976 : decode cL_law 976 = .ok (.invokevirtual 115, 3) := by decide +kernel
theorem dL_law_979 : decode cL_law 979 = .ok (.if_icmp .eq 571, 3) := by decide +kernel
theorem dL_law_982 : decode cL_law 982 = .ok (.iconst 0, 1) := by decide +kernel
theorem dL_law_983 : decode cL_law 983 = .ok (.ireturn, 1) := by decide +kernel
theorem dL_law_984 : decode cL_law 984 = .ok (.aload_n 1, 1) := by decide +kernel
theorem dL_law_985 : decode cL_law 985 = .ok (.invokevirtual 116, 3) := by decide +kernel
theorem dL_law_988 : decode cL_law 988 = .ok (.aload_n 2, 1) := by decide +kernel
theorem dL_law_989 : decode cL_law 989 = .ok (.invokevirtual 119, 3) := by decide +kernel
theorem dL_law_992 : decode cL_law 992 = .ok (.if_icmp .eq 558, 3) := by decide +kernel
theorem dL_law_995 : decode cL_law 995 = .ok (.iconst 0, 1) := by decide +kernel
theorem dL_law_996 : decode cL_law 996 = .ok (.ireturn, 1) := by decide +kernel
theorem dL_law_997 : decode cL_law 997 = .ok (.aload_n 1, 1) := by decide +kernel
theorem dL_law_998 : decode cL_law 998 = .ok (.aload_n 0, 1) := by decide +kernel
theorem dL_law_999 : decode cL_law 999 = .ok (.iload 4, 2) := by decide +kernel
theorem dL_law_1001 : decode cL_law 1001 = .ok (.iconst 1, 1) := by decide +kernel
theorem dL_law_1002 : decode cL_law 1002 = .ok (.iadd, 1) := by decide +kernel
theorem dL_law_1003 : decode cL_law 1003 = .ok (.iaload, 1) := by decide +kernel
theorem dL_law_1004 : decode cL_law 1004 = .ok (.invokevirtual 120, 3) := by decide +kernel
theorem dL_law_1007 : decode cL_law 1007 = .ok (.aload_n 2, 1) := by decide +kernel
theorem dL_law_1008 : decode cL_law 1008 = .ok (.aload_n 0, 1) := by decide +kernel
theorem dL_law_1009 : decode cL_law 1009 = .ok (.iload 4, 2) := by decide +kernel
theorem dL_law_1011 : decode cL_law 1011 = .ok (.iconst 1, 1) := by decide +kernel
theorem dL_law_1012 : decode cL_law 1012 = .ok (.iadd, 1) := by decide +kernel
theorem dL_law_1013 : decode cL_law 1013 = .ok (.iaload, 1) := by decide +kernel
theorem dL_law_1014 : decode cL_law 1014 = .ok (.invokevirtual 123, 3) := by decide +kernel
theorem dL_law_1017 : decode cL_law 1017 = .ok (.if_icmp .eq 533, 3) := by decide +kernel
theorem dL_law_1020 : decode cL_law 1020 = .ok (.iconst 0, 1) := by decide +kernel
theorem dL_law_1021 : decode cL_law 1021 = .ok (.ireturn, 1) := by decide +kernel
theorem dL_law_1022 : decode cL_law 1022 = .ok (.aload_n 1, 1) := by decide +kernel
theorem dL_law_1023 : decode cL_law 1023 = .ok (.invokevirtual 124, 3) := by decide +kernel
theorem dL_law_1026 : decode cL_law 1026 = .ok (.aload_n 2, 1) := by decide +kernel
theorem dL_law_1027 : decode cL_law 1027 = .ok (.invokevirtual 127, 3) := by decide +kernel
theorem dL_law_1030 : decode cL_law 1030 = .ok (.if_icmp .eq 520, 3) := by decide +kernel
theorem dL_law_1033 : decode cL_law 1033 = .ok (.iconst 0, 1) := by decide +kernel
theorem dL_law_1034 : decode cL_law 1034 = .ok (.ireturn, 1) := by decide +kernel
theorem dL_law_1035 : decode cL_law 1035 = .ok (.aload_n 1, 1) := by decide +kernel
theorem dL_law_1036 : decode cL_law 1036 = .ok (.aload_n 0, 1) := by decide +kernel
theorem dL_law_1037 : decode cL_law 1037 = .ok (.iload 4, 2) := by decide +kernel
theorem dL_law_1039 : decode cL_law 1039 = .ok (.iconst 1, 1) := by decide +kernel
theorem dL_law_1040 : decode cL_law 1040 = .ok (.iadd, 1) := by decide +kernel
theorem dL_law_1041 : decode cL_law 1041 = .ok (.iaload, 1) := by decide +kernel
theorem dL_law_1042 : decode cL_law 1042 = .ok (.invokevirtual 128, 3) := by decide +kernel
theorem dL_law_1045 : decode cL_law 1045 = .ok (.aload_n 2, 1) := by decide +kernel
theorem dL_law_1046 : decode cL_law 1046 = .ok (.aload_n 0, 1) := by decide +kernel
theorem dL_law_1047 : decode cL_law 1047 = .ok (.iload 4, 2) := by decide +kernel
theorem dL_law_1049 : decode cL_law 1049 = .ok (.iconst 1, 1) := by decide +kernel
theorem dL_law_1050 : decode cL_law 1050 = .ok (.iadd, 1) := by decide +kernel
theorem dL_law_1051 : decode cL_law 1051 = .ok (.iaload, 1) := by decide +kernel
theorem dL_law_1052 : decode cL_law 1052 = .ok (.invokevirtual 131, 3) := by decide +kernel
theorem dL_law_1055 : decode cL_law 1055 = .ok (.if_icmp .eq 495, 3) := by decide +kernel
theorem dL_law_1058 : decode cL_law 1058 = .ok (.iconst 0, 1) := by decide +kernel
theorem dL_law_1059 : decode cL_law 1059 = .ok (.ireturn, 1) := by decide +kernel
theorem dL_law_1060 : decode cL_law 1060 = .ok (.aload_n 1, 1) := by decide +kernel
theorem dL_law_1061 : decode cL_law 1061 = .ok (.aload_n 0, 1) := by decide +kernel
theorem dL_law_1062 : decode cL_law 1062 = .ok (.iload 4, 2) := by decide +kernel
theorem dL_law_1064 : decode cL_law 1064 = .ok (.iconst 1, 1) := by decide +kernel
theorem dL_law_1065 : decode cL_law 1065 = .ok (.iadd, 1) := by decide +kernel
theorem dL_law_1066 : decode cL_law 1066 = .ok (.iaload, 1) := by decide +kernel
theorem dL_law_1067 : decode cL_law 1067 = .ok (.aload_n 0, 1) := by decide +kernel
theorem dL_law_1068 : decode cL_law 1068 = .ok (.iload 4, 2) := by decide +kernel
theorem dL_law_1070 : decode cL_law 1070 = .ok (.iconst 2, 1) := by decide +kernel
theorem dL_law_1071 : decode cL_law 1071 = .ok (.iadd, 1) := by decide +kernel
theorem dL_law_1072 : decode cL_law 1072 = .ok (.iaload, 1) := by decide +kernel
theorem dL_law_1073 : decode cL_law 1073 = .ok (.aload_n 0, 1) := by decide +kernel
theorem dL_law_1074 : decode cL_law 1074 = .ok (.iload 4, 2) := by decide +kernel
theorem dL_law_1076 : decode cL_law 1076 = .ok (.iconst 3, 1) := by decide +kernel
theorem dL_law_1077 : decode cL_law 1077 = .ok (.iadd, 1) := by decide +kernel
theorem dL_law_1078 : decode cL_law 1078 = .ok (.iaload, 1) := by decide +kernel
theorem dL_law_1079 : decode cL_law 1079 = .ok (.ifCond .eq 7, 3) := by decide +kernel
theorem dL_law_1082 : decode cL_law 1082 = .ok (.iconst 1, 1) := by decide +kernel
theorem dL_law_1083 : decode cL_law 1083 = .ok (.goto 4, 3) := by decide +kernel
theorem dL_law_1086 : decode cL_law 1086 = .ok (.iconst 0, 1) := by decide +kernel
theorem dL_law_1087 : decode cL_law 1087 = .ok (.invokevirtual 132, 3) := by decide +kernel
theorem dL_law_1090 : decode cL_law 1090 = .ok (.aload_n 2, 1) := by decide +kernel
theorem dL_law_1091 : decode cL_law 1091 = .ok (.aload_n 0, 1) := by decide +kernel
theorem dL_law_1092 : decode cL_law 1092 = .ok (.iload 4, 2) := by decide +kernel
theorem dL_law_1094 : decode cL_law 1094 = .ok (.iconst 1, 1) := by decide +kernel
theorem dL_law_1095 : decode cL_law 1095 = .ok (.iadd, 1) := by decide +kernel
theorem dL_law_1096 : decode cL_law 1096 = .ok (.iaload, 1) := by decide +kernel
theorem dL_law_1097 : decode cL_law 1097 = .ok (.aload_n 0, 1) := by decide +kernel
theorem dL_law_1098 : decode cL_law 1098 = .ok (.iload 4, 2) := by decide +kernel
theorem dL_law_1100 : decode cL_law 1100 = .ok (.iconst 2, 1) := by decide +kernel
theorem dL_law_1101 : decode cL_law 1101 = .ok (.iadd, 1) := by decide +kernel
theorem dL_law_1102 : decode cL_law 1102 = .ok (.iaload, 1) := by decide +kernel
theorem dL_law_1103 : decode cL_law 1103 = .ok (.aload_n 0, 1) := by decide +kernel
theorem dL_law_1104 : decode cL_law 1104 = .ok (.iload 4, 2) := by decide +kernel
theorem dL_law_1106 : decode cL_law 1106 = .ok (.iconst 3, 1) := by decide +kernel
theorem dL_law_1107 : decode cL_law 1107 = .ok (.iadd, 1) := by decide +kernel
theorem dL_law_1108 : decode cL_law 1108 = .ok (.iaload, 1) := by decide +kernel
theorem dL_law_1109 : decode cL_law 1109 = .ok (.ifCond .eq 7, 3) := by decide +kernel
theorem dL_law_1112 : decode cL_law 1112 = .ok (.iconst 1, 1) := by decide +kernel
theorem dL_law_1113 : decode cL_law 1113 = .ok (.goto 4, 3) := by decide +kernel
theorem dL_law_1116 : decode cL_law 1116 = .ok (.iconst 0, 1) := by decide +kernel
theorem dL_law_1117 : decode cL_law 1117 = .ok (.invokevirtual 136, 3) := by decide +kernel
theorem dL_law_1120 : decode cL_law 1120 = .ok (.if_icmp .eq 430, 3) := by decide +kernel
theorem dL_law_1123 : decode cL_law 1123 = .ok (.iconst 0, 1) := by decide +kernel
theorem dL_law_1124 : decode cL_law 1124 = .ok (.ireturn, 1) := by decide +kernel
theorem dL_law_1125 : decode cL_law 1125 = .ok (.aload_n 1, 1) := by decide +kernel
theorem dL_law_1126 : decode cL_law 1126 = .ok (.aload_n 0, 1) := by decide +kernel
theorem dL_law_1127 : decode cL_law 1127 = .ok (.iload 4, 2) := by decide +kernel
theorem dL_law_1129 : decode cL_law 1129 = .ok (.iconst 1, 1) := by decide +kernel
theorem dL_law_1130 : decode cL_law 1130 = .ok (.iadd, 1) := by decide +kernel
theorem dL_law_1131 : decode cL_law 1131 = .ok (.iaload, 1) := by decide +kernel
theorem dL_law_1132 : decode cL_law 1132 = .ok (.aload_n 0, 1) := by decide +kernel
theorem dL_law_1133 : decode cL_law 1133 = .ok (.iload 4, 2) := by decide +kernel
theorem dL_law_1135 : decode cL_law 1135 = .ok (.iconst 2, 1) := by decide +kernel
theorem dL_law_1136 : decode cL_law 1136 = .ok (.iadd, 1) := by decide +kernel
theorem dL_law_1137 : decode cL_law 1137 = .ok (.iaload, 1) := by decide +kernel
theorem dL_law_1138 : decode cL_law 1138 = .ok (.invokevirtual 137, 3) := by decide +kernel
theorem dL_law_1141 : decode cL_law 1141 = .ok (.aload_n 2, 1) := by decide +kernel
theorem dL_law_1142 : decode cL_law 1142 = .ok (.aload_n 0, 1) := by decide +kernel
theorem dL_law_1143 : decode cL_law 1143 = .ok (.iload 4, 2) := by decide +kernel
theorem dL_law_1145 : decode cL_law 1145 = .ok (.iconst 1, 1) := by decide +kernel
theorem dL_law_1146 : decode cL_law 1146 = .ok (.iadd, 1) := by decide +kernel
theorem dL_law_1147 : decode cL_law 1147 = .ok (.iaload, 1) := by decide +kernel
theorem dL_law_1148 : decode cL_law 1148 = .ok (.aload_n 0, 1) := by decide +kernel
theorem dL_law_1149 : decode cL_law 1149 = .ok (.iload 4, 2) := by decide +kernel
theorem dL_law_1151 : decode cL_law 1151 = .ok (.iconst 2, 1) := by decide +kernel
theorem dL_law_1152 : decode cL_law 1152 = .ok (.iadd, 1) := by decide +kernel
theorem dL_law_1153 : decode cL_law 1153 = .ok (.iaload, 1) := by decide +kernel
theorem dL_law_1154 : decode cL_law 1154 = .ok (.invokevirtual 140, 3) := by decide +kernel
theorem dL_law_1157 : decode cL_law 1157 = .ok (.if_icmp .eq 393, 3) := by decide +kernel
theorem dL_law_1160 : decode cL_law 1160 = .ok (.iconst 0, 1) := by decide +kernel
theorem dL_law_1161 : decode cL_law 1161 = .ok (.ireturn, 1) := by decide +kernel
theorem dL_law_1162 : decode cL_law 1162 = .ok (.aload_n 1, 1) := by decide +kernel
theorem dL_law_1163 : decode cL_law 1163 = .ok (.aload_n 0, 1) := by decide +kernel
theorem dL_law_1164 : decode cL_law 1164 = .ok (.iload 4, 2) := by decide +kernel
theorem dL_law_1166 : decode cL_law 1166 = .ok (.iconst 1, 1) := by decide +kernel
theorem dL_law_1167 : decode cL_law 1167 = .ok (.iadd, 1) := by decide +kernel
theorem dL_law_1168 : decode cL_law 1168 = .ok (.iaload, 1) := by decide +kernel
theorem dL_law_1169 : decode cL_law 1169 = .ok (.invokevirtual 141, 3) := by decide +kernel
theorem dL_law_1172 : decode cL_law 1172 = .ok (.aload_n 2, 1) := by decide +kernel
theorem dL_law_1173 : decode cL_law 1173 = .ok (.aload_n 0, 1) := by decide +kernel
theorem dL_law_1174 : decode cL_law 1174 = .ok (.iload 4, 2) := by decide +kernel
theorem dL_law_1176 : decode cL_law 1176 = .ok (.iconst 1, 1) := by decide +kernel
theorem dL_law_1177 : decode cL_law 1177 = .ok (.iadd, 1) := by decide +kernel
theorem dL_law_1178 : decode cL_law 1178 = .ok (.iaload, 1) := by decide +kernel
theorem dL_law_1179 : decode cL_law 1179 = .ok (.invokevirtual 144, 3) := by decide +kernel
theorem dL_law_1182 : decode cL_law 1182 = .ok (.if_icmp .eq 368, 3) := by decide +kernel
theorem dL_law_1185 : decode cL_law 1185 = .ok (.iconst 0, 1) := by decide +kernel
theorem dL_law_1186 : decode cL_law 1186 = .ok (.ireturn, 1) := by decide +kernel
theorem dL_law_1187 : decode cL_law 1187 = .ok (.aload_n 1, 1) := by decide +kernel
theorem dL_law_1188 : decode cL_law 1188 = .ok (.aload_n 0, 1) := by decide +kernel
theorem dL_law_1189 : decode cL_law 1189 = .ok (.iload 4, 2) := by decide +kernel
theorem dL_law_1191 : decode cL_law 1191 = .ok (.iconst 1, 1) := by decide +kernel
theorem dL_law_1192 : decode cL_law 1192 = .ok (.iadd, 1) := by decide +kernel
theorem dL_law_1193 : decode cL_law 1193 = .ok (.iaload, 1) := by decide +kernel
theorem dL_law_1194 : decode cL_law 1194 = .ok (.aload_n 0, 1) := by decide +kernel
theorem dL_law_1195 : decode cL_law 1195 = .ok (.iload 4, 2) := by decide +kernel
theorem dL_law_1197 : decode cL_law 1197 = .ok (.iconst 2, 1) := by decide +kernel
theorem dL_law_1198 : decode cL_law 1198 = .ok (.iadd, 1) := by decide +kernel
theorem dL_law_1199 : decode cL_law 1199 = .ok (.iaload, 1) := by decide +kernel
theorem dL_law_1200 : decode cL_law 1200 = .ok (.invokevirtual 145, 3) := by decide +kernel
theorem dL_law_1203 : decode cL_law 1203 = .ok (.aload_n 2, 1) := by decide +kernel
theorem dL_law_1204 : decode cL_law 1204 = .ok (.aload_n 0, 1) := by decide +kernel
theorem dL_law_1205 : decode cL_law 1205 = .ok (.iload 4, 2) := by decide +kernel
theorem dL_law_1207 : decode cL_law 1207 = .ok (.iconst 1, 1) := by decide +kernel
theorem dL_law_1208 : decode cL_law 1208 = .ok (.iadd, 1) := by decide +kernel
theorem dL_law_1209 : decode cL_law 1209 = .ok (.iaload, 1) := by decide +kernel
theorem dL_law_1210 : decode cL_law 1210 = .ok (.aload_n 0, 1) := by decide +kernel
theorem dL_law_1211 : decode cL_law 1211 = .ok (.iload 4, 2) := by decide +kernel
theorem dL_law_1213 : decode cL_law 1213 = .ok (.iconst 2, 1) := by decide +kernel
theorem dL_law_1214 : decode cL_law 1214 = .ok (.iadd, 1) := by decide +kernel
theorem dL_law_1215 : decode cL_law 1215 = .ok (.iaload, 1) := by decide +kernel
theorem dL_law_1216 : decode cL_law 1216 = .ok (.invokevirtual 148, 3) := by decide +kernel
theorem dL_law_1219 : decode cL_law 1219 = .ok (.if_icmp .eq 331, 3) := by decide +kernel
theorem dL_law_1222 : decode cL_law 1222 = .ok (.iconst 0, 1) := by decide +kernel
theorem dL_law_1223 : decode cL_law 1223 = .ok (.ireturn, 1) := by decide +kernel
theorem dL_law_1224 : decode cL_law 1224 = .ok (.aload_n 1, 1) := by decide +kernel
theorem dL_law_1225 : decode cL_law 1225 = .ok (.invokevirtual 149, 3) := by decide +kernel
theorem dL_law_1228 : decode cL_law 1228 = .ok (.aload_n 2, 1) := by decide +kernel
theorem dL_law_1229 : decode cL_law 1229 = .ok (.invokevirtual 152, 3) := by decide +kernel
theorem dL_law_1232 : decode cL_law 1232 = .ok (.if_icmp .eq 318, 3) := by decide +kernel
theorem dL_law_1235 : decode cL_law 1235 = .ok (.iconst 0, 1) := by decide +kernel
theorem dL_law_1236 : decode cL_law 1236 = .ok (.ireturn, 1) := by decide +kernel
theorem dL_law_1237 : decode cL_law 1237 = .ok (.aload_n 1, 1) := by decide +kernel
theorem dL_law_1238 : decode cL_law 1238 = .ok (.invokevirtual 153, 3) := by decide +kernel
theorem dL_law_1241 : decode cL_law 1241 = .ok (.aload_n 2, 1) := by decide +kernel
theorem dL_law_1242 : decode cL_law 1242 = .ok (.invokevirtual 156, 3) := by decide +kernel
theorem dL_law_1245 : decode cL_law 1245 = .ok (.if_icmp .eq 305, 3) := by decide +kernel
theorem dL_law_1248 : decode cL_law 1248 = .ok (.iconst 0, 1) := by decide +kernel
theorem dL_law_1249 : decode cL_law 1249 = .ok (.ireturn, 1) := by decide +kernel
theorem dL_law_1250 : decode cL_law 1250 = .ok (.aload_n 1, 1) := by decide +kernel
theorem dL_law_1251 : decode cL_law 1251 = .ok (.invokevirtual 157, 3) := by decide +kernel
theorem dL_law_1254 : decode cL_law 1254 = .ok (.aload_n 2, 1) := by decide +kernel
theorem dL_law_1255 : decode cL_law 1255 = .ok (.invokevirtual 160, 3) := by decide +kernel
theorem dL_law_1258 : decode cL_law 1258 = .ok (.if_icmp .eq 292, 3) := by decide +kernel
theorem dL_law_1261 : decode cL_law 1261 = .ok (.iconst 0, 1) := by decide +kernel
theorem dL_law_1262 : decode cL_law 1262 = .ok (.ireturn, 1) := by decide +kernel
theorem dL_law_1263 : decode cL_law 1263 = .ok (.aload_n 1, 1) := by decide +kernel
theorem dL_law_1264 : decode cL_law 1264 = .ok (.aload_n 0, 1) := by decide +kernel
theorem dL_law_1265 : decode cL_law 1265 = .ok (.iload 4, 2) := by decide +kernel
theorem dL_law_1267 : decode cL_law 1267 = .ok (.iconst 1, 1) := by decide +kernel
theorem dL_law_1268 : decode cL_law 1268 = .ok (.iadd, 1) := by decide +kernel
theorem dL_law_1269 : decode cL_law 1269 = .ok (.iaload, 1) := by decide +kernel
theorem dL_law_1270 : decode cL_law 1270 = .ok (.invokevirtual 161, 3) := by decide +kernel
theorem dL_law_1273 : decode cL_law 1273 = .ok (.aload_n 2, 1) := by decide +kernel
theorem dL_law_1274 : decode cL_law 1274 = .ok (.aload_n 0, 1) := by decide +kernel
theorem dL_law_1275 : decode cL_law 1275 = .ok (.iload 4, 2) := by decide +kernel
theorem dL_law_1277 : decode cL_law 1277 = .ok (.iconst 1, 1) := by decide +kernel
theorem dL_law_1278 : decode cL_law 1278 = .ok (.iadd, 1) := by decide +kernel
theorem dL_law_1279 : decode cL_law 1279 = .ok (.iaload, 1) := by decide +kernel
theorem dL_law_1280 : decode cL_law 1280 = .ok (.invokevirtual 164, 3) := by decide +kernel
theorem dL_law_1283 : decode cL_law 1283 = .ok (.if_icmp .eq 267, 3) := by decide +kernel
theorem dL_law_1286 : decode cL_law 1286 = .ok (.iconst 0, 1) := by decide +kernel
theorem dL_law_1287 : decode cL_law 1287 = .ok (.ireturn, 1) := by decide +kernel
theorem dL_law_1288 : decode cL_law 1288 = .ok (.aload_n 1, 1) := by decide +kernel
theorem dL_law_1289 : decode cL_law 1289 = .ok (.aload_n 0, 1) := by decide +kernel
theorem dL_law_1290 : decode cL_law 1290 = .ok (.iload 4, 2) := by decide +kernel
theorem dL_law_1292 : decode cL_law 1292 = .ok (.iconst 1, 1) := by decide +kernel
theorem dL_law_1293 : decode cL_law 1293 = .ok (.iadd, 1) := by decide +kernel
theorem dL_law_1294 : decode cL_law 1294 = .ok (.iaload, 1) := by decide +kernel
theorem dL_law_1295 : decode cL_law 1295 = .ok (.invokevirtual 165, 3) := by decide +kernel
theorem dL_law_1298 : decode cL_law 1298 = .ok (.aload_n 2, 1) := by decide +kernel
theorem dL_law_1299 : decode cL_law 1299 = .ok (.aload_n 0, 1) := by decide +kernel
theorem dL_law_1300 : decode cL_law 1300 = .ok (.iload 4, 2) := by decide +kernel
theorem dL_law_1302 : decode cL_law 1302 = .ok (.iconst 1, 1) := by decide +kernel
theorem dL_law_1303 : decode cL_law 1303 = .ok (.iadd, 1) := by decide +kernel
theorem dL_law_1304 : decode cL_law 1304 = .ok (.iaload, 1) := by decide +kernel
theorem dL_law_1305 : decode cL_law 1305 = .ok (.invokevirtual 168, 3) := by decide +kernel
theorem dL_law_1308 : decode cL_law 1308 = .ok (.if_icmp .eq 242, 3) := by decide +kernel
theorem dL_law_1311 : decode cL_law 1311 = .ok (.iconst 0, 1) := by decide +kernel
theorem dL_law_1312 : decode cL_law 1312 = .ok (.ireturn, 1) := by decide +kernel
theorem dL_law_1313 : decode cL_law 1313 = .ok (.aload_n 1, 1) := by decide +kernel
theorem dL_law_1314 : decode cL_law 1314 = .ok (.aload_n 0, 1) := by decide +kernel
theorem dL_law_1315 : decode cL_law 1315 = .ok (.iload 4, 2) := by decide +kernel
theorem dL_law_1317 : decode cL_law 1317 = .ok (.iconst 1, 1) := by decide +kernel
theorem dL_law_1318 : decode cL_law 1318 = .ok (.iadd, 1) := by decide +kernel
theorem dL_law_1319 : decode cL_law 1319 = .ok (.iaload, 1) := by decide +kernel
theorem dL_law_1320 : decode cL_law 1320 = .ok (.invokevirtual 169, 3) := by decide +kernel
theorem dL_law_1323 : decode cL_law 1323 = .ok (.aload_n 2, 1) := by decide +kernel
theorem dL_law_1324 : decode cL_law 1324 = .ok (.aload_n 0, 1) := by decide +kernel
theorem dL_law_1325 : decode cL_law 1325 = .ok (.iload 4, 2) := by decide +kernel
theorem dL_law_1327 : decode cL_law 1327 = .ok (.iconst 1, 1) := by decide +kernel
theorem dL_law_1328 : decode cL_law 1328 = .ok (.iadd, 1) := by decide +kernel
theorem dL_law_1329 : decode cL_law 1329 = .ok (.iaload, 1) := by decide +kernel
theorem dL_law_1330 : decode cL_law 1330 = .ok (.invokevirtual 172, 3) := by decide +kernel
theorem dL_law_1333 : decode cL_law 1333 = .ok (.if_icmp .eq 217, 3) := by decide +kernel
theorem dL_law_1336 : decode cL_law 1336 = .ok (.iconst 0, 1) := by decide +kernel
theorem dL_law_1337 : decode cL_law 1337 = .ok (.ireturn, 1) := by decide +kernel
theorem dL_law_1338 : decode cL_law 1338 = .ok (.aload_n 1, 1) := by decide +kernel
theorem dL_law_1339 : decode cL_law 1339 = .ok (.invokevirtual 173, 3) := by decide +kernel
theorem dL_law_1342 : decode cL_law 1342 = .ok (.aload_n 2, 1) := by decide +kernel
theorem dL_law_1343 : decode cL_law 1343 = .ok (.invokevirtual 176, 3) := by decide +kernel
theorem dL_law_1346 : decode cL_law 1346 = .ok (.if_icmp .eq 204, 3) := by decide +kernel
theorem dL_law_1349 : decode cL_law 1349 = .ok (.iconst 0, 1) := by decide +kernel
theorem dL_law_1350 : decode cL_law 1350 = .ok (.ireturn, 1) := by decide +kernel
theorem dL_law_1351 : decode cL_law 1351 = .ok (.aload_n 1, 1) := by decide +kernel
theorem dL_law_1352 : decode cL_law 1352 = .ok (.aload_n 0, 1) := by decide +kernel
theorem dL_law_1353 : decode cL_law 1353 = .ok (.iload 4, 2) := by decide +kernel
theorem dL_law_1355 : decode cL_law 1355 = .ok (.iconst 1, 1) := by decide +kernel
theorem dL_law_1356 : decode cL_law 1356 = .ok (.iadd, 1) := by decide +kernel
theorem dL_law_1357 : decode cL_law 1357 = .ok (.iaload, 1) := by decide +kernel
theorem dL_law_1358 : decode cL_law 1358 = .ok (.aload_n 0, 1) := by decide +kernel
theorem dL_law_1359 : decode cL_law 1359 = .ok (.iload 4, 2) := by decide +kernel
theorem dL_law_1361 : decode cL_law 1361 = .ok (.iconst 2, 1) := by decide +kernel
theorem dL_law_1362 : decode cL_law 1362 = .ok (.iadd, 1) := by decide +kernel
theorem dL_law_1363 : decode cL_law 1363 = .ok (.iaload, 1) := by decide +kernel
theorem dL_law_1364 : decode cL_law 1364 = .ok (.invokevirtual 177, 3) := by decide +kernel
theorem dL_law_1367 : decode cL_law 1367 = .ok (.aload_n 2, 1) := by decide +kernel
theorem dL_law_1368 : decode cL_law 1368 = .ok (.aload_n 0, 1) := by decide +kernel
theorem dL_law_1369 : decode cL_law 1369 = .ok (.iload 4, 2) := by decide +kernel
theorem dL_law_1371 : decode cL_law 1371 = .ok (.iconst 1, 1) := by decide +kernel
theorem dL_law_1372 : decode cL_law 1372 = .ok (.iadd, 1) := by decide +kernel
theorem dL_law_1373 : decode cL_law 1373 = .ok (.iaload, 1) := by decide +kernel
theorem dL_law_1374 : decode cL_law 1374 = .ok (.aload_n 0, 1) := by decide +kernel
theorem dL_law_1375 : decode cL_law 1375 = .ok (.iload 4, 2) := by decide +kernel
theorem dL_law_1377 : decode cL_law 1377 = .ok (.iconst 2, 1) := by decide +kernel
theorem dL_law_1378 : decode cL_law 1378 = .ok (.iadd, 1) := by decide +kernel
theorem dL_law_1379 : decode cL_law 1379 = .ok (.iaload, 1) := by decide +kernel
theorem dL_law_1380 : decode cL_law 1380 = .ok (.invokevirtual 180, 3) := by decide +kernel
theorem dL_law_1383 : decode cL_law 1383 = .ok (.if_icmp .eq 167, 3) := by decide +kernel
theorem dL_law_1386 : decode cL_law 1386 = .ok (.iconst 0, 1) := by decide +kernel
theorem dL_law_1387 : decode cL_law 1387 = .ok (.ireturn, 1) := by decide +kernel
theorem dL_law_1388 : decode cL_law 1388 = .ok (.aload_n 1, 1) := by decide +kernel
theorem dL_law_1389 : decode cL_law 1389 = .ok (.aload_n 0, 1) := by decide +kernel
theorem dL_law_1390 : decode cL_law 1390 = .ok (.iload 4, 2) := by decide +kernel
theorem dL_law_1392 : decode cL_law 1392 = .ok (.iconst 1, 1) := by decide +kernel
theorem dL_law_1393 : decode cL_law 1393 = .ok (.iadd, 1) := by decide +kernel
theorem dL_law_1394 : decode cL_law 1394 = .ok (.iaload, 1) := by decide +kernel
theorem dL_law_1395 : decode cL_law 1395 = .ok (.invokevirtual 181, 3) := by decide +kernel
theorem dL_law_1398 : decode cL_law 1398 = .ok (.aload_n 2, 1) := by decide +kernel
theorem dL_law_1399 : decode cL_law 1399 = .ok (.aload_n 0, 1) := by decide +kernel
theorem dL_law_1400 : decode cL_law 1400 = .ok (.iload 4, 2) := by decide +kernel
theorem dL_law_1402 : decode cL_law 1402 = .ok (.iconst 1, 1) := by decide +kernel
theorem dL_law_1403 : decode cL_law 1403 = .ok (.iadd, 1) := by decide +kernel
theorem dL_law_1404 : decode cL_law 1404 = .ok (.iaload, 1) := by decide +kernel
theorem dL_law_1405 : decode cL_law 1405 = .ok (.invokevirtual 184, 3) := by decide +kernel
theorem dL_law_1408 : decode cL_law 1408 = .ok (.if_icmp .eq 142, 3) := by decide +kernel
theorem dL_law_1411 : decode cL_law 1411 = .ok (.iconst 0, 1) := by decide +kernel
theorem dL_law_1412 : decode cL_law 1412 = .ok (.ireturn, 1) := by decide +kernel
theorem dL_law_1413 : decode cL_law 1413 = .ok (.aload_n 1, 1) := by decide +kernel
theorem dL_law_1414 : decode cL_law 1414 = .ok (.aload_n 0, 1) := by decide +kernel
theorem dL_law_1415 : decode cL_law 1415 = .ok (.iload 4, 2) := by decide +kernel
theorem dL_law_1417 : decode cL_law 1417 = .ok (.iconst 1, 1) := by decide +kernel
theorem dL_law_1418 : decode cL_law 1418 = .ok (.iadd, 1) := by decide +kernel
theorem dL_law_1419 : decode cL_law 1419 = .ok (.iaload, 1) := by decide +kernel
theorem dL_law_1420 : decode cL_law 1420 = .ok (.aload_n 0, 1) := by decide +kernel
theorem dL_law_1421 : decode cL_law 1421 = .ok (.iload 4, 2) := by decide +kernel
theorem dL_law_1423 : decode cL_law 1423 = .ok (.iconst 2, 1) := by decide +kernel
theorem dL_law_1424 : decode cL_law 1424 = .ok (.iadd, 1) := by decide +kernel
theorem dL_law_1425 : decode cL_law 1425 = .ok (.iaload, 1) := by decide +kernel
theorem dL_law_1426 : decode cL_law 1426 = .ok (.aload_n 0, 1) := by decide +kernel
theorem dL_law_1427 : decode cL_law 1427 = .ok (.iload 4, 2) := by decide +kernel
theorem dL_law_1429 : decode cL_law 1429 = .ok (.iconst 3, 1) := by decide +kernel
theorem dL_law_1430 : decode cL_law 1430 = .ok (.iadd, 1) := by decide +kernel
theorem dL_law_1431 : decode cL_law 1431 = .ok (.iaload, 1) := by decide +kernel
theorem dL_law_1432 : decode cL_law 1432 = .ok (.invokevirtual 185, 3) := by decide +kernel
theorem dL_law_1435 : decode cL_law 1435 = .ok (.aload_n 2, 1) := by decide +kernel
theorem dL_law_1436 : decode cL_law 1436 = .ok (.aload_n 0, 1) := by decide +kernel
theorem dL_law_1437 : decode cL_law 1437 = .ok (.iload 4, 2) := by decide +kernel
theorem dL_law_1439 : decode cL_law 1439 = .ok (.iconst 1, 1) := by decide +kernel
theorem dL_law_1440 : decode cL_law 1440 = .ok (.iadd, 1) := by decide +kernel
theorem dL_law_1441 : decode cL_law 1441 = .ok (.iaload, 1) := by decide +kernel
theorem dL_law_1442 : decode cL_law 1442 = .ok (.aload_n 0, 1) := by decide +kernel
theorem dL_law_1443 : decode cL_law 1443 = .ok (.iload 4, 2) := by decide +kernel
theorem dL_law_1445 : decode cL_law 1445 = .ok (.iconst 2, 1) := by decide +kernel
theorem dL_law_1446 : decode cL_law 1446 = .ok (.iadd, 1) := by decide +kernel
theorem dL_law_1447 : decode cL_law 1447 = .ok (.iaload, 1) := by decide +kernel
theorem dL_law_1448 : decode cL_law 1448 = .ok (.aload_n 0, 1) := by decide +kernel
theorem dL_law_1449 : decode cL_law 1449 = .ok (.iload 4, 2) := by decide +kernel
theorem dL_law_1451 : decode cL_law 1451 = .ok (.iconst 3, 1) := by decide +kernel
theorem dL_law_1452 : decode cL_law 1452 = .ok (.iadd, 1) := by decide +kernel
theorem dL_law_1453 : decode cL_law 1453 = .ok (.iaload, 1) := by decide +kernel
theorem dL_law_1454 : decode cL_law 1454 = .ok (.invokevirtual 188, 3) := by decide +kernel
theorem dL_law_1457 : decode cL_law 1457 = .ok (.if_icmp .eq 93, 3) := by decide +kernel
theorem dL_law_1460 : decode cL_law 1460 = .ok (.iconst 0, 1) := by decide +kernel
theorem dL_law_1461 : decode cL_law 1461 = .ok (.ireturn, 1) := by decide +kernel
theorem dL_law_1462 : decode cL_law 1462 = .ok (.aload_n 1, 1) := by decide +kernel
theorem dL_law_1463 : decode cL_law 1463 = .ok (.aload_n 0, 1) := by decide +kernel
theorem dL_law_1464 : decode cL_law 1464 = .ok (.iload 4, 2) := by decide +kernel
theorem dL_law_1466 : decode cL_law 1466 = .ok (.iconst 1, 1) := by decide +kernel
theorem dL_law_1467 : decode cL_law 1467 = .ok (.iadd, 1) := by decide +kernel
theorem dL_law_1468 : decode cL_law 1468 = .ok (.iaload, 1) := by decide +kernel
theorem dL_law_1469 : decode cL_law 1469 = .ok (.aload_n 0, 1) := by decide +kernel
theorem dL_law_1470 : decode cL_law 1470 = .ok (.iload 4, 2) := by decide +kernel
theorem dL_law_1472 : decode cL_law 1472 = .ok (.iconst 2, 1) := by decide +kernel
theorem dL_law_1473 : decode cL_law 1473 = .ok (.iadd, 1) := by decide +kernel
theorem dL_law_1474 : decode cL_law 1474 = .ok (.iaload, 1) := by decide +kernel
theorem dL_law_1475 : decode cL_law 1475 = .ok (.invokevirtual 189, 3) := by decide +kernel
theorem dL_law_1478 : decode cL_law 1478 = .ok (.aload_n 2, 1) := by decide +kernel
theorem dL_law_1479 : decode cL_law 1479 = .ok (.aload_n 0, 1) := by decide +kernel
theorem dL_law_1480 : decode cL_law 1480 = .ok (.iload 4, 2) := by decide +kernel
theorem dL_law_1482 : decode cL_law 1482 = .ok (.iconst 1, 1) := by decide +kernel
theorem dL_law_1483 : decode cL_law 1483 = .ok (.iadd, 1) := by decide +kernel
theorem dL_law_1484 : decode cL_law 1484 = .ok (.iaload, 1) := by decide +kernel
theorem dL_law_1485 : decode cL_law 1485 = .ok (.aload_n 0, 1) := by decide +kernel
theorem dL_law_1486 : decode cL_law 1486 = .ok (.iload 4, 2) := by decide +kernel
theorem dL_law_1488 : decode cL_law 1488 = .ok (.iconst 2, 1) := by decide +kernel
theorem dL_law_1489 : decode cL_law 1489 = .ok (.iadd, 1) := by decide +kernel
theorem dL_law_1490 : decode cL_law 1490 = .ok (.iaload, 1) := by decide +kernel
theorem dL_law_1491 : decode cL_law 1491 = .ok (.invokevirtual 192, 3) := by decide +kernel
theorem dL_law_1494 : decode cL_law 1494 = .ok (.if_icmp .eq 56, 3) := by decide +kernel
theorem dL_law_1497 : decode cL_law 1497 = .ok (.iconst 0, 1) := by decide +kernel
theorem dL_law_1498 : decode cL_law 1498 = .ok (.ireturn, 1) := by decide +kernel
theorem dL_law_1499 : decode cL_law 1499 = .ok (.aload_n 1, 1) := by decide +kernel
theorem dL_law_1500 : decode cL_law 1500 = .ok (.invokevirtual 193, 3) := by decide +kernel
theorem dL_law_1503 : decode cL_law 1503 = .ok (.aload_n 2, 1) := by decide +kernel
theorem dL_law_1504 : decode cL_law 1504 = .ok (.invokevirtual 196, 3) := by decide +kernel
theorem dL_law_1507 : decode cL_law 1507 = .ok (.if_icmp .eq 43, 3) := by decide +kernel
theorem dL_law_1510 : decode cL_law 1510 = .ok (.iconst 0, 1) := by decide +kernel
theorem dL_law_1511 : decode cL_law 1511 = .ok (.ireturn, 1) := by decide +kernel
theorem dL_law_1512 : decode cL_law 1512 = .ok (.aload_n 1, 1) := by decide +kernel
theorem dL_law_1513 : decode cL_law 1513 = .ok (.invokevirtual 197, 3) := by decide +kernel
theorem dL_law_1516 : decode cL_law 1516 = .ok (.aload_n 2, 1) := by decide +kernel
theorem dL_law_1517 : decode cL_law 1517 = .ok (.invokevirtual 200, 3) := by decide +kernel
theorem dL_law_1520 : decode cL_law 1520 = .ok (.if_icmp .eq 30, 3) := by decide +kernel
theorem dL_law_1523 : decode cL_law 1523 = .ok (.iconst 0, 1) := by decide +kernel
theorem dL_law_1524 : decode cL_law 1524 = .ok (.ireturn, 1) := by decide +kernel
theorem dL_law_1525 : decode cL_law 1525 = .ok (.aload_n 1, 1) := by decide +kernel
theorem dL_law_1526 : decode cL_law 1526 = .ok (.aload_n 0, 1) := by decide +kernel
theorem dL_law_1527 : decode cL_law 1527 = .ok (.iload 4, 2) := by decide +kernel
theorem dL_law_1529 : decode cL_law 1529 = .ok (.iconst 1, 1) := by decide +kernel
theorem dL_law_1530 : decode cL_law 1530 = .ok (.iadd, 1) := by decide +kernel
theorem dL_law_1531 : decode cL_law 1531 = .ok (.iaload, 1) := by decide +kernel
theorem dL_law_1532 : decode cL_law 1532 = .ok (.invokevirtual 201, 3) := by decide +kernel
theorem dL_law_1535 : decode cL_law 1535 = .ok (.aload_n 2, 1) := by decide +kernel
theorem dL_law_1536 : decode cL_law 1536 = .ok (.aload_n 0, 1) := by decide +kernel
theorem dL_law_1537 : decode cL_law 1537 = .ok (.iload 4, 2) := by decide +kernel
theorem dL_law_1539 : decode cL_law 1539 = .ok (.iconst 1, 1) := by decide +kernel
theorem dL_law_1540 : decode cL_law 1540 = .ok (.iadd, 1) := by decide +kernel
theorem dL_law_1541 : decode cL_law 1541 = .ok (.iaload, 1) := by decide +kernel
theorem dL_law_1542 : decode cL_law 1542 = .ok (.invokevirtual 204, 3) := by decide +kernel
theorem dL_law_1545 : decode cL_law 1545 = .ok (.if_icmp .eq 5, 3) := by decide +kernel
theorem dL_law_1548 : decode cL_law 1548 = .ok (.iconst 0, 1) := by decide +kernel
theorem dL_law_1549 : decode cL_law 1549 = .ok (.ireturn, 1) := by decide +kernel
theorem dL_law_1550 : decode cL_law 1550 = .ok (.iinc 4 6, 3) := by decide +kernel
theorem dL_law_1553 : decode cL_law 1553 = .ok (.goto (-1530), 3) := by decide +kernel
theorem dL_law_1556 : decode cL_law 1556 = .ok (.iconst 1, 1) := by decide +kernel
theorem dL_law_1557 : decode cL_law 1557 = .ok (.ireturn, 1) := by decide +kernel
