theorem dX12_atom_30 : decode cX12_atom 30 = .ok (.ireturn, 1) := by decide +kernel
theorem dX12_atom_31 : decode cX12_atom 31 = .ok (.iload_n 1, 1) := by decide +kernel
theorem dX12_atom_32 : decode cX12_atom 32 = .ok (.bipush 91, 2) := by decide +kernel
theorem dX12_atom_34 : decode cX12_atom 34 = .ok (.if_icmp .ne 40, 3) := by decide +kernel
theorem dX12_atom_37 : decode cX12_atom 37 = .ok (.aload_n 0, 1) := by decide +kernel
theorem dX12_atom_38 : decode cX12_atom 38 = .ok (.invokevirtual 153, 3) := by decide +kernel
theorem dX12_atom_41 : decode cX12_atom 41 = .ok (.ifCond .ne 5, 3) := by decide +kernel
theorem dX12_atom_44 : decode cX12_atom 44 = .ok (.iconst 0, 1) := by decide +kernel
theorem dX12_atom_45 : decode cX12_atom 45 = .ok (.ireturn, 1) := by decide +kernel
theorem dX12_atom_46 : decode cX12_atom 46 = .ok (.aload_n 0, 1) := by decide +kernel
theorem dX12_atom_47 : decode cX12_atom 47 = .ok (.invokevirtual 156, 3) := by decide +kernel
theorem dX12_atom_50 : decode cX12_atom 50 = .ok (.istore_n 2, 1) := by decide +kernel
theorem dX12_atom_51 : decode cX12_atom 51 = .ok (.aload_n 0, 1) := by decide +kernel
theorem dX12_atom_52 : decode cX12_atom 52 = .ok (.bipush 93, 2) := by decide +kernel
theorem dX12_atom_54 : decode cX12_atom 54 = .ok (.invokevirtual 159, 3) := by decide +kernel
theorem dX12_atom_57 : decode cX12_atom 57 = .ok (.ifCond .ne 5, 3) := by decide +kernel
theorem dX12_atom_60 : decode cX12_atom 60 = .ok (.iconst 0, 1) := by decide +kernel
theorem dX12_atom_61 : decode cX12_atom 61 = .ok (.ireturn, 1) := by decide +kernel
theorem dX12_atom_62 : decode cX12_atom 62 = .ok (.aload_n 0, 1) := by decide +kernel
theorem dX12_atom_63 : decode cX12_atom 63 = .ok (.dup, 1) := by decide +kernel
theorem dX12_atom_64 : decode cX12_atom 64 = .ok (.getfield 126, 3) := by decide +kernel
theorem dX12_atom_67 : decode cX12_atom 67 = .ok (.iconst 1, 1) := by decide +kernel
theorem dX12_atom_68 : decode cX12_atom 68 = .ok (.isub, 1) := by decide +kernel
theorem dX12_atom_69 : decode cX12_atom 69 = .ok (.putfield 126, 3) := by decide +kernel
theorem dX12_atom_72 : decode cX12_atom 72 = .ok (.iload_n 2, 1) := by decide +kernel
theorem dX12_atom_73 : decode cX12_atom 73 = .ok (.ireturn, 1) := by decide +kernel
theorem dX12_atom_74 : decode cX12_atom 74 = .ok (.aload_n 0, 1) := by decide +kernel
theorem dX12_atom_75 : decode cX12_atom 75 = .ok (.invokevirtual 163, 3) := by decide +kernel
theorem dX12_atom_78 : decode cX12_atom 78 = .ok (.ifCond .ne 8, 3) := by decide +kernel
theorem dX12_atom_81 : decode cX12_atom 81 = .ok (.aload_n 0, 1) := by decide +kernel
theorem dX12_atom_82 : decode cX12_atom 82 = .ok (.invokevirtual 129, 3) := by decide +kernel
theorem dX12_atom_85 : decode cX12_atom 85 = .ok (.pop, 1) := by decide +kernel
theorem dX12_atom_86 : decode cX12_atom 86 = .ok (.iconst 0, 1) := by decide +kernel
theorem dX12_atom_87 : decode cX12_atom 87 = .ok (.istore_n 2, 1) := by decide +kernel
theorem dX12_atom_88 : decode cX12_atom 88 = .ok (.iconst 0, 1) := by decide +kernel
theorem dX12_atom_89 : decode cX12_atom 89 = .ok (.istore_n 3, 1) := by decide +kernel
theorem dX12_atom_90 : decode cX12_atom 90 = .ok (.aload_n 0, 1) := by decide +kernel
theorem dX12_atom_91 : decode cX12_atom 91 = .ok (.invokevirtual 163, 3) := by decide +kernel
theorem dX12_atom_94 : decode cX12_atom 94 = .ok (.ifCond .eq 62, 3) := by decide +kernel
theorem dX12_atom_97 : decode cX12_atom 97 = .ok (.aload_n 0, 1) := by decide +kernel
theorem dX12_atom_98 : decode cX12_atom 98 = .ok (.getfield 123, 3) := by decide +kernel
theorem dX12_atom_101 : decode cX12_atom 101 = .ok (.iconst (-1), 1) := by decide +kernel
theorem dX12_atom_102 : decode cX12_atom 102 = .ok (.if_icmp .ne 54, 3) := by decide +kernel
theorem dX12_atom_105 : decode cX12_atom 105 = .ok (.iload_n 3, 1) := by decide +kernel
theorem dX12_atom_106 : decode cX12_atom 106 = .ok (.iconst 4, 1) := by decide +kernel
theorem dX12_atom_107 : decode cX12_atom 107 = .ok (.if_icmp .ne 10, 3) := by decide +kernel
theorem dX12_atom_110 : decode cX12_atom 110 = .ok (.aload_n 0, 1) := by decide +kernel
theorem dX12_atom_111 : decode cX12_atom 111 = .ok (.invokevirtual 129, 3) := by decide +kernel
theorem dX12_atom_114 : decode cX12_atom 114 = .ok (.pop, 1) := by decide +kernel
theorem dX12_atom_115 : decode cX12_atom 115 = .ok (.iconst 0, 1) := by decide +kernel
theorem dX12_atom_116 : decode cX12_atom 116 = .ok (.ireturn, 1) := by decide +kernel
theorem dX12_atom_117 : decode cX12_atom 117 = .ok (.bipush 10, 2) := by decide +kernel
theorem dX12_atom_119 : decode cX12_atom 119 = .ok (.iload_n 2, 1) := by decide +kernel
theorem dX12_atom_120 : decode cX12_atom 120 = .ok (.imul, 1) := by decide +kernel
theorem dX12_atom_121 : decode cX12_atom 121 = .ok (.aload_n 0, 1) := by decide +kernel
theorem dX12_atom_122 : decode cX12_atom 122 = .ok (.getfield 23, 3) := by decide +kernel
theorem dX12_atom_125 : decode cX12_atom 125 = .ok (.aload_n 0, 1) := by decide +kernel
theorem dX12_atom_126 : decode cX12_atom 126 = .ok (.getfield 120, 3) := by decide +kernel
theorem dX12_atom_129 : decode cX12_atom 129 = .ok (.aload_n 0, 1) := by decide +kernel
theorem dX12_atom_130 : decode cX12_atom 130 = .ok (.getfield 114, 3) := by decide +kernel
theorem dX12_atom_133 : decode cX12_atom 133 = .ok (.iadd, 1) := by decide +kernel
theorem dX12_atom_134 : decode cX12_atom 134 = .ok (.baload, 1) := by decide +kernel
theorem dX12_atom_135 : decode cX12_atom 135 = .ok (.iadd, 1) := by decide +kernel
theorem dX12_atom_136 : decode cX12_atom 136 = .ok (.bipush 48, 2) := by decide +kernel
theorem dX12_atom_138 : decode cX12_atom 138 = .ok (.isub, 1) := by decide +kernel
theorem dX12_atom_139 : decode cX12_atom 139 = .ok (.istore_n 2, 1) := by decide +kernel
theorem dX12_atom_140 : decode cX12_atom 140 = .ok (.aload_n 0, 1) := by decide +kernel
theorem dX12_atom_141 : decode cX12_atom 141 = .ok (.dup, 1) := by decide +kernel
theorem dX12_atom_142 : decode cX12_atom 142 = .ok (.getfield 114, 3) := by decide +kernel
theorem dX12_atom_145 : decode cX12_atom 145 = .ok (.iconst 1, 1) := by decide +kernel
theorem dX12_atom_146 : decode cX12_atom 146 = .ok (.iadd, 1) := by decide +kernel
theorem dX12_atom_147 : decode cX12_atom 147 = .ok (.putfield 114, 3) := by decide +kernel
theorem dX12_atom_150 : decode cX12_atom 150 = .ok (.iinc 3 1, 3) := by decide +kernel
theorem dX12_atom_153 : decode cX12_atom 153 = .ok (.goto (-63), 3) := by decide +kernel
theorem dX12_atom_156 : decode cX12_atom 156 = .ok (.iload_n 2, 1) := by decide +kernel
theorem dX12_atom_157 : decode cX12_atom 157 = .ok (.ireturn, 1) := by decide +kernel
theorem dX12_term_0 : decode cX12_term 0 = .ok (.aload_n 0, 1) := by decide +kernel
theorem dX12_term_1 : decode cX12_term 1 = .ok (.invokevirtual 166, 3) := by decide +kernel
theorem dX12_term_4 : decode cX12_term 4 = .ok (.istore_n 1, 1) := by decide +kernel
theorem dX12_term_5 : decode cX12_term 5 = .ok (.aload_n 0, 1) := by decide +kernel
theorem dX12_term_6 : decode cX12_term 6 = .ok (.getfield 123, 3) := by decide +kernel
theorem dX12_term_9 : decode cX12_term 9 = .ok (.iconst (-1), 1) := by decide +kernel
theorem dX12_term_10 : decode cX12_term 10 = .ok (.if_icmp .ne 84, 3) := by decide +kernel
theorem dX12_term_13 : decode cX12_term 13 = .ok (.aload_n 0, 1) := by decide +kernel
theorem dX12_term_14 : decode cX12_term 14 = .ok (.invokevirtual 133, 3) := by decide +kernel
theorem dX12_term_17 : decode cX12_term 17 = .ok (.bipush 42, 2) := by decide +kernel
theorem dX12_term_19 : decode cX12_term 19 = .ok (.if_icmp .eq 12, 3) := by decide +kernel
theorem dX12_term_22 : decode cX12_term 22 = .ok (.aload_n 0, 1) := by decide +kernel
theorem dX12_term_23 : decode cX12_term 23 = .ok (.invokevirtual 133, 3) := by decide +kernel
theorem dX12_term_26 : decode cX12_term 26 = .ok (.bipush 47, 2) := by decide +kernel
theorem dX12_term_28 : decode cX12_term 28 = .ok (.if_icmp .ne 66, 3) := by decide +kernel
theorem dX12_term_31 : decode cX12_term 31 = .ok (.aload_n 0, 1) := by decide +kernel
theorem dX12_term_32 : decode cX12_term 32 = .ok (.invokevirtual 133, 3) := by decide +kernel
theorem dX12_term_35 : decode cX12_term 35 = .ok (.bipush 42, 2) := by decide +kernel
theorem dX12_term_37 : decode cX12_term 37 = .ok (.if_icmp .ne 7, 3) := by decide +kernel
theorem dX12_term_40 : decode cX12_term 40 = .ok (.iconst 1, 1) := by decide +kernel
theorem dX12_term_41 : decode cX12_term 41 = .ok (.goto 4, 3) := by decide +kernel
theorem dX12_term_44 : decode cX12_term 44 = .ok (.iconst 0, 1) := by decide +kernel
theorem dX12_term_45 : decode cX12_term 45 = .ok (.istore_n 2, 1) := by decide +kernel
theorem dX12_term_46 : decode cX12_term 46 = .ok (.aload_n 0, 1) := by decide +kernel
theorem dX12_term_47 : decode cX12_term 47 = .ok (.dup, 1) := by decide +kernel
theorem dX12_term_48 : decode cX12_term 48 = .ok (.getfield 114, 3) := by decide +kernel
theorem dX12_term_51 : decode cX12_term 51 = .ok (.iconst 1, 1) := by decide +kernel
theorem dX12_term_52 : decode cX12_term 52 = .ok (.iadd, 1) := by decide +kernel
theorem dX12_term_53 : decode cX12_term 53 = .ok (.putfield 114, 3) := by decide +kernel
theorem dX12_term_56 : decode cX12_term 56 = .ok (.aload_n 0, 1) := by decide +kernel
theorem dX12_term_57 : decode cX12_term 57 = .ok (.invokevirtual 166, 3) := by decide +kernel
theorem dX12_term_60 : decode cX12_term 60 = .ok (.i2l, 1) := by decide +kernel
theorem dX12_term_61 : decode cX12_term 61 = .ok (.lstore_n 3, 1) := by decide +kernel
theorem dX12_term_62 : decode cX12_term 62 = .ok (.iload_n 2, 1) := by decide +kernel
theorem dX12_term_63 : decode cX12_term 63 = .ok (.ifCond .eq 10, 3) := by decide +kernel
theorem dX12_term_66 : decode cX12_term 66 = .ok (.iload_n 1, 1) := by decide +kernel
theorem dX12_term_67 : decode cX12_term 67 = .ok (.i2l, 1) := by decide +kernel
theorem dX12_term_68 : decode cX12_term 68 = .ok (.lload_n 3, 1) := by decide +kernel
theorem dX12_term_69 : decode cX12_term 69 = .ok (.lmul, 1) := by decide +kernel
theorem dX12_term_70 : decode cX12_term 70 = .ok (.goto 17, 3) := by decide +kernel
theorem dX12_term_73 : decode cX12_term 73 = .ok (.lload_n 3, 1) := by decide +kernel
theorem dX12_term_74 : decode cX12_term 74 = .ok (.lconst 0, 1) := by decide +kernel
theorem dX12_term_75 : decode cX12_term 75 = .ok (.lcmp, 1) := by decide +kernel
theorem dX12_term_76 : decode cX12_term 76 = .ok (.ifCond .ne 7, 3) := by decide +kernel
theorem dX12_term_79 : decode cX12_term 79 = .ok (.lconst 0, 1) := by decide +kernel
theorem dX12_term_80 : decode cX12_term 80 = .ok (.goto 7, 3) := by decide +kernel
theorem dX12_term_83 : decode cX12_term 83 = .ok (.iload_n 1, 1) := by decide +kernel
theorem dX12_term_84 : decode cX12_term 84 = .ok (.i2l, 1) := by decide +kernel
theorem dX12_term_85 : decode cX12_term 85 = .ok (.lload_n 3, 1) := by decide +kernel
theorem dX12_term_86 : decode cX12_term 86 = .ok (.ldiv, 1) := by decide +kernel
theorem dX12_term_87 : decode cX12_term 87 = .ok (.invokestatic 169, 3) := by decide +kernel
theorem dX12_term_90 : decode cX12_term 90 = .ok (.istore_n 1, 1) := by decide +kernel
theorem dX12_term_91 : decode cX12_term 91 = .ok (.goto (-86), 3) := by decide +kernel
theorem dX12_term_94 : decode cX12_term 94 = .ok (.iload_n 1, 1) := by decide +kernel
theorem dX12_term_95 : decode cX12_term 95 = .ok (.ireturn, 1) := by decide +kernel
theorem dX12_sum_0 : decode cX12_sum 0 = .ok (.aload_n 0, 1) := by decide +kernel
theorem dX12_sum_1 : decode cX12_sum 1 = .ok (.invokevirtual 173, 3) := by decide +kernel
theorem dX12_sum_4 : decode cX12_sum 4 = .ok (.istore_n 1, 1) := by decide +kernel
theorem dX12_sum_5 : decode cX12_sum 5 = .ok (.aload_n 0, 1) := by decide +kernel
theorem dX12_sum_6 : decode cX12_sum 6 = .ok (.getfield 123, 3) := by decide +kernel
theorem dX12_sum_9 : decode cX12_sum 9 = .ok (.iconst (-1), 1) := by decide +kernel
theorem dX12_sum_10 : decode cX12_sum 10 = .ok (.if_icmp .ne 74, 3) := by decide +kernel
theorem dX12_sum_13 : decode cX12_sum 13 = .ok (.aload_n 0, 1) := by decide +kernel
theorem dX12_sum_14 : decode cX12_sum 14 = .ok (.invokevirtual 133, 3) := by decide +kernel
theorem dX12_sum_17 : decode cX12_sum 17 = .ok (.bipush 43, 2) := by decide +kernel
theorem dX12_sum_19 : decode cX12_sum 19 = .ok (.if_icmp .eq 12, 3) := by decide +kernel
theorem dX12_sum_22 : decode cX12_sum 22 = .ok (.aload_n 0, 1) := by decide +kernel
theorem dX12_sum_23 : decode cX12_sum 23 = .ok (.invokevirtual 133, 3) := by decide +kernel
theorem dX12_sum_26 : decode cX12_sum 26 = .ok (.bipush 45, 2) := by decide +kernel
theorem dX12_sum_28 : decode cX12_sum 28 = .ok (.if_icmp .ne 56, 3) := by decide +kernel
theorem dX12_sum_31 : decode cX12_sum 31 = .ok (.aload_n 0, 1) := by decide +kernel
theorem dX12_sum_32 : decode cX12_sum 32 = .ok (.invokevirtual 133, 3) := by decide +kernel
theorem dX12_sum_35 : decode cX12_sum 35 = .ok (.bipush 43, 2) := by decide +kernel
theorem dX12_sum_37 : decode cX12_sum 37 = .ok (.if_icmp .ne 7, 3) := by decide +kernel
theorem dX12_sum_40 : decode cX12_sum 40 = .ok (.iconst 1, 1) := by decide +kernel
theorem dX12_sum_41 : decode cX12_sum 41 = .ok (.goto 4, 3) := by decide +kernel
theorem dX12_sum_44 : decode cX12_sum 44 = .ok (.iconst 0, 1) := by decide +kernel
theorem dX12_sum_45 : decode cX12_sum 45 = .ok (.istore_n 2, 1) := by decide +kernel
theorem dX12_sum_46 : decode cX12_sum 46 = .ok (.aload_n 0, 1) := by decide +kernel
theorem dX12_sum_47 : decode cX12_sum 47 = .ok (.dup, 1) := by decide +kernel
theorem dX12_sum_48 : decode cX12_sum 48 = .ok (.getfield 114, 3) := by decide +kernel
theorem dX12_sum_51 : decode cX12_sum 51 = .ok (.iconst 1, 1) := by decide +kernel
theorem dX12_sum_52 : decode cX12_sum 52 = .ok (.iadd, 1) := by decide +kernel
theorem dX12_sum_53 : decode cX12_sum 53 = .ok (.putfield 114, 3) := by decide +kernel
theorem dX12_sum_56 : decode cX12_sum 56 = .ok (.aload_n 0, 1) := by decide +kernel
theorem dX12_sum_57 : decode cX12_sum 57 = .ok (.invokevirtual 173, 3) := by decide +kernel
theorem dX12_sum_60 : decode cX12_sum 60 = .ok (.i2l, 1) := by decide +kernel
theorem dX12_sum_61 : decode cX12_sum 61 = .ok (.lstore_n 3, 1) := by decide +kernel
theorem dX12_sum_62 : decode cX12_sum 62 = .ok (.iload_n 2, 1) := by decide +kernel
theorem dX12_sum_63 : decode cX12_sum 63 = .ok (.ifCond .eq 10, 3) := by decide +kernel
theorem dX12_sum_66 : decode cX12_sum 66 = .ok (.iload_n 1, 1) := by decide +kernel
theorem dX12_sum_67 : decode cX12_sum 67 = .ok (.i2l, 1) := by decide +kernel
theorem dX12_sum_68 : decode cX12_sum 68 = .ok (.lload_n 3, 1) := by decide +kernel
theorem dX12_sum_69 : decode cX12_sum 69 = .ok (.ladd, 1) := by decide +kernel
theorem dX12_sum_70 : decode cX12_sum 70 = .ok (.goto 7, 3) := by decide +kernel
theorem dX12_sum_73 : decode cX12_sum 73 = .ok (.iload_n 1, 1) := by decide +kernel
theorem dX12_sum_74 : decode cX12_sum 74 = .ok (.i2l, 1) := by decide +kernel
theorem dX12_sum_75 : decode cX12_sum 75 = .ok (.lload_n 3, 1) := by decide +kernel
theorem dX12_sum_76 : decode cX12_sum 76 = .ok (.lsub, 1) := by decide +kernel
theorem dX12_sum_77 : decode cX12_sum 77 = .ok (.invokestatic 169, 3) := by decide +kernel
theorem dX12_sum_80 : decode cX12_sum 80 = .ok (.istore_n 1, 1) := by decide +kernel
theorem dX12_sum_81 : decode cX12_sum 81 = .ok (.goto (-76), 3) := by decide +kernel
theorem dX12_sum_84 : decode cX12_sum 84 = .ok (.iload_n 1, 1) := by decide +kernel
theorem dX12_sum_85 : decode cX12_sum 85 = .ok (.ireturn, 1) := by decide +kernel
theorem dX12_isSign_0 : decode cX12_isSign 0 = .ok (.iload_n 0, 1) := by decide +kernel
theorem dX12_isSign_1 : decode cX12_isSign 1 = .ok (.bipush 61, 2) := by decide +kernel
theorem dX12_isSign_3 : decode cX12_isSign 3 = .ok (.if_icmp .eq 15, 3) := by decide +kernel
theorem dX12_isSign_6 : decode cX12_isSign 6 = .ok (.iload_n 0, 1) := by decide +kernel
theorem dX12_isSign_7 : decode cX12_isSign 7 = .ok (.bipush 60, 2) := by decide +kernel
theorem dX12_isSign_9 : decode cX12_isSign 9 = .ok (.if_icmp .eq 9, 3) := by decide +kernel
theorem dX12_isSign_12 : decode cX12_isSign 12 = .ok (.iload_n 0, 1) := by decide +kernel
theorem dX12_isSign_13 : decode cX12_isSign 13 = .ok (.bipush 62, 2) := by decide +kernel
theorem dX12_isSign_15 : decode cX12_isSign 15 = .ok (.if_icmp .ne 7, 3) := by decide +kernel
theorem dX12_isSign_18 : decode cX12_isSign 18 = .ok (.iconst 1, 1) := by decide +kernel
theorem dX12_isSign_19 : decode cX12_isSign 19 = .ok (.goto 4, 3) := by decide +kernel
theorem dX12_isSign_22 : decode cX12_isSign 22 = .ok (.iconst 0, 1) := by decide +kernel
theorem dX12_isSign_23 : decode cX12_isSign 23 = .ok (.ireturn, 1) := by decide +kernel
theorem dX12_compares_0 : decode cX12_compares 0 = .ok (.iload_n 1, 1) := by decide +kernel
theorem dX12_compares_1 : decode cX12_compares 1 = .ok (.ifCond .eq 7, 3) := by decide +kernel
theorem dX12_compares_4 : decode cX12_compares 4 = .ok (.iload_n 2, 1) := by decide +kernel
theorem dX12_compares_5 : decode cX12_compares 5 = .ok (.goto 7, 3) := by decide +kernel
theorem dX12_compares_8 : decode cX12_compares 8 = .ok (.aload_n 0, 1) := by decide +kernel
theorem dX12_compares_9 : decode cX12_compares 9 = .ok (.invokevirtual 156, 3) := by decide +kernel
theorem dX12_compares_12 : decode cX12_compares 12 = .ok (.istore_n 3, 1) := by decide +kernel
theorem dX12_compares_13 : decode cX12_compares 13 = .ok (.aload_n 0, 1) := by decide +kernel
theorem dX12_compares_14 : decode cX12_compares 14 = .ok (.getfield 123, 3) := by decide +kernel
theorem dX12_compares_17 : decode cX12_compares 17 = .ok (.iconst (-1), 1) := by decide +kernel
theorem dX12_compares_18 : decode cX12_compares 18 = .ok (.if_icmp .eq 5, 3) := by decide +kernel
theorem dX12_compares_21 : decode cX12_compares 21 = .ok (.iconst 0, 1) := by decide +kernel
theorem dX12_compares_22 : decode cX12_compares 22 = .ok (.ireturn, 1) := by decide +kernel
theorem dX12_compares_23 : decode cX12_compares 23 = .ok (.aload_n 0, 1) := by decide +kernel
theorem dX12_compares_24 : decode cX12_compares 24 = .ok (.invokevirtual 133, 3) := by decide +kernel
theorem dX12_compares_27 : decode cX12_compares 27 = .ok (.istore 4, 2) := by decide +kernel
theorem dX12_compares_29 : decode cX12_compares 29 = .ok (.iload 4, 2) := by decide +kernel
theorem dX12_compares_31 : decode cX12_compares 31 = .ok (.invokestatic 176, 3) := by decide +kernel
theorem dX12_compares_34 : decode cX12_compares 34 = .ok (.ifCond .ne 8, 3) := by decide +kernel
theorem dX12_compares_37 : decode cX12_compares 37 = .ok (.aload_n 0, 1) := by decide +kernel
theorem dX12_compares_38 : decode cX12_compares 38 = .ok (.invokevirtual 129, 3) := by decide +kernel
theorem dX12_compares_41 : decode cX12_compares 41 = .ok (.ireturn, 1) := by decide +kernel
theorem dX12_compares_42 : decode cX12_compares 42 = .ok (.aload_n 0, 1) := by decide +kernel
theorem dX12_compares_43 : decode cX12_compares 43 = .ok (.dup, 1) := by decide +kernel
theorem dX12_compares_44 : decode cX12_compares 44 = .ok (.getfield 114, 3) := by decide +kernel
theorem dX12_compares_47 : decode cX12_compares 47 = .ok (.iconst 1, 1) := by decide +kernel
theorem dX12_compares_48 : decode cX12_compares 48 = .ok (.iadd, 1) := by decide +kernel
theorem dX12_compares_49 : decode cX12_compares 49 = .ok (.putfield 114, 3) := by decide +kernel
theorem dX12_compares_52 : decode cX12_compares 52 = .ok (.aload_n 0, 1) := by decide +kernel
theorem dX12_compares_53 : decode cX12_compares 53 = .ok (.invokevirtual 156, 3) := by decide +kernel
theorem dX12_compares_56 : decode cX12_compares 56 = .ok (.istore 5, 2) := by decide +kernel
theorem dX12_compares_58 : decode cX12_compares 58 = .ok (.iload 4, 2) := by decide +kernel
theorem dX12_compares_60 : decode cX12_compares 60 = .ok (.bipush 61, 2) := by decide +kernel
theorem dX12_compares_62 : decode cX12_compares 62 = .ok (.if_icmp .ne 17, 3) := by decide +kernel
theorem dX12_compares_65 : decode cX12_compares 65 = .ok (.iload_n 3, 1) := by decide +kernel
theorem dX12_compares_66 : decode cX12_compares 66 = .ok (.iload 5, 2) := by decide +kernel
theorem dX12_compares_68 : decode cX12_compares 68 = .ok (.if_icmp .ne 7, 3) := by decide +kernel
theorem dX12_compares_71 : decode cX12_compares 71 = .ok (.iconst 1, 1) := by decide +kernel
theorem dX12_compares_72 : decode cX12_compares 72 = .ok (.goto 39, 3) := by decide +kernel
theorem dX12_compares_75 : decode cX12_compares 75 = .ok (.iconst 0, 1) := by decide +kernel
theorem dX12_compares_76 : decode cX12_compares 76 = .ok (.goto 35, 3) := by decide +kernel
theorem dX12_compares_79 : decode cX12_compares 79 = .ok (.iload 4, 2) := by decide +kernel
theorem dX12_compares_81 : decode cX12_compares 81 = .ok (.bipush 60, 2) := by decide +kernel
theorem dX12_compares_83 : decode cX12_compares 83 = .ok (.if_icmp .ne 17, 3) := by decide +kernel
theorem dX12_compares_86 : decode cX12_compares 86 = .ok (.iload_n 3, 1) := by decide +kernel
theorem dX12_compares_87 : decode cX12_compares 87 = .ok (.iload 5, 2) := by decide +kernel
theorem dX12_compares_89 : decode cX12_compares 89 = .ok (.if_icmp .ge 7, 3) := by decide +kernel
theorem dX12_compares_92 : decode cX12_compares 92 = .ok (.iconst 1, 1) := by decide +kernel
theorem dX12_compares_93 : decode cX12_compares 93 = .ok (.goto 18, 3) := by decide +kernel
theorem dX12_compares_96 : decode cX12_compares 96 = .ok (.iconst 0, 1) := by decide +kernel
theorem dX12_compares_97 : decode cX12_compares 97 = .ok (.goto 14, 3) := by decide +kernel
theorem dX12_compares_100 : decode cX12_compares 100 = .ok (.iload_n 3, 1) := by decide +kernel
theorem dX12_compares_101 : decode cX12_compares 101 = .ok (.iload 5, 2) := by decide +kernel
theorem dX12_compares_103 : decode cX12_compares 103 = .ok (.if_icmp .le 7, 3) := by decide +kernel
theorem dX12_compares_106 : decode cX12_compares 106 = .ok (.iconst 1, 1) := by decide +kernel
theorem dX12_compares_107 : decode cX12_compares 107 = .ok (.goto 4, 3) := by decide +kernel
theorem dX12_compares_110 : decode cX12_compares 110 = .ok (.iconst 0, 1) := by decide +kernel
theorem dX12_compares_111 : decode cX12_compares 111 = .ok (.ireturn, 1) := by decide +kernel
theorem dX12_unit_0 : decode cX12_unit 0 = .ok (.aload_n 0, 1) := by decide +kernel
theorem dX12_unit_1 : decode cX12_unit 1 = .ok (.invokevirtual 133, 3) := by decide +kernel
theorem dX12_unit_4 : decode cX12_unit 4 = .ok (.istore_n 1, 1) := by decide +kernel
theorem dX12_unit_5 : decode cX12_unit 5 = .ok (.iload_n 1, 1) := by decide +kernel
theorem dX12_unit_6 : decode cX12_unit 6 = .ok (.bipush 33, 2) := by decide +kernel
theorem dX12_unit_8 : decode cX12_unit 8 = .ok (.if_icmp .ne 37, 3) := by decide +kernel
theorem dX12_unit_11 : decode cX12_unit 11 = .ok (.aload_n 0, 1) := by decide +kernel
theorem dX12_unit_12 : decode cX12_unit 12 = .ok (.invokevirtual 153, 3) := by decide +kernel
theorem dX12_unit_15 : decode cX12_unit 15 = .ok (.ifCond .ne 5, 3) := by decide +kernel
theorem dX12_unit_18 : decode cX12_unit 18 = .ok (.iconst 0, 1) := by decide +kernel
theorem dX12_unit_19 : decode cX12_unit 19 = .ok (.ireturn, 1) := by decide +kernel
theorem dX12_unit_20 : decode cX12_unit 20 = .ok (.aload_n 0, 1) := by decide +kernel
theorem dX12_unit_21 : decode cX12_unit 21 = .ok (.invokevirtual 179, 3) := by decide +kernel
theorem dX12_unit_24 : decode cX12_unit 24 = .ok (.istore_n 2, 1) := by decide +kernel
theorem dX12_unit_25 : decode cX12_unit 25 = .ok (.aload_n 0, 1) := by decide +kernel
theorem dX12_unit_26 : decode cX12_unit 26 = .ok (.dup, 1) := by decide +kernel
theorem dX12_unit_27 : decode cX12_unit 27 = .ok (.getfield 126, 3) := by decide +kernel
theorem dX12_unit_30 : decode cX12_unit 30 = .ok (.iconst 1, 1) := by decide +kernel
theorem dX12_unit_31 : decode cX12_unit 31 = .ok (.isub, 1) := by decide +kernel
theorem dX12_unit_32 : decode cX12_unit 32 = .ok (.putfield 126, 3) := by decide +kernel
theorem dX12_unit_35 : decode cX12_unit 35 = .ok (.iload_n 2, 1) := by decide +kernel
theorem dX12_unit_36 : decode cX12_unit 36 = .ok (.ifCond .ne 7, 3) := by decide +kernel
theorem dX12_unit_39 : decode cX12_unit 39 = .ok (.iconst 1, 1) := by decide +kernel
theorem dX12_unit_40 : decode cX12_unit 40 = .ok (.goto 4, 3) := by decide +kernel
theorem dX12_unit_43 : decode cX12_unit 43 = .ok (.iconst 0, 1) := by decide +kernel
theorem dX12_unit_44 : decode cX12_unit 44 = .ok (.ireturn, 1) := by decide +kernel
theorem dX12_unit_45 : decode cX12_unit 45 = .ok (.iload_n 1, 1) := by decide +kernel
theorem dX12_unit_46 : decode cX12_unit 46 = .ok (.bipush 40, 2) := by decide +kernel
theorem dX12_unit_48 : decode cX12_unit 48 = .ok (.if_icmp .ne 42, 3) := by decide +kernel
theorem dX12_unit_51 : decode cX12_unit 51 = .ok (.aload_n 0, 1) := by decide +kernel
theorem dX12_unit_52 : decode cX12_unit 52 = .ok (.invokevirtual 153, 3) := by decide +kernel
theorem dX12_unit_55 : decode cX12_unit 55 = .ok (.ifCond .ne 5, 3) := by decide +kernel
theorem dX12_unit_58 : decode cX12_unit 58 = .ok (.iconst 0, 1) := by decide +kernel
theorem dX12_unit_59 : decode cX12_unit 59 = .ok (.ireturn, 1) := by decide +kernel
theorem dX12_unit_60 : decode cX12_unit 60 = .ok (.aload_n 0, 1) := by decide +kernel
theorem dX12_unit_61 : decode cX12_unit 61 = .ok (.iconst 0, 1) := by decide +kernel
theorem dX12_unit_62 : decode cX12_unit 62 = .ok (.iconst 0, 1) := by decide +kernel
theorem dX12_unit_63 : decode cX12_unit 63 = .ok (.invokevirtual 182, 3) := by decide +kernel
theorem dX12_unit_66 : decode cX12_unit 66 = .ok (.istore_n 2, 1) := by decide +kernel
theorem dX12_unit_67 : decode cX12_unit 67 = .ok (.aload_n 0, 1) := by decide +kernel
theorem dX12_unit_68 : decode cX12_unit 68 = .ok (.bipush 41, 2) := by decide +kernel
theorem dX12_unit_70 : decode cX12_unit 70 = .ok (.invokevirtual 159, 3) := by decide +kernel
theorem dX12_unit_73 : decode cX12_unit 73 = .ok (.ifCond .ne 5, 3) := by decide +kernel
theorem dX12_unit_76 : decode cX12_unit 76 = .ok (.iconst 0, 1) := by decide +kernel
theorem dX12_unit_77 : decode cX12_unit 77 = .ok (.ireturn, 1) := by decide +kernel
theorem dX12_unit_78 : decode cX12_unit 78 = .ok (.aload_n 0, 1) := by decide +kernel
theorem dX12_unit_79 : decode cX12_unit 79 = .ok (.dup, 1) := by decide +kernel
theorem dX12_unit_80 : decode cX12_unit 80 = .ok (.getfield 126, 3) := by decide +kernel
theorem dX12_unit_83 : decode cX12_unit 83 = .ok (.iconst 1, 1) := by decide +kernel
theorem dX12_unit_84 : decode cX12_unit 84 = .ok (.isub, 1) := by decide +kernel
theorem dX12_unit_85 : decode cX12_unit 85 = .ok (.putfield 126, 3) := by decide +kernel
theorem dX12_unit_88 : decode cX12_unit 88 = .ok (.iload_n 2, 1) := by decide +kernel
theorem dX12_unit_89 : decode cX12_unit 89 = .ok (.ireturn, 1) := by decide +kernel
theorem dX12_unit_90 : decode cX12_unit 90 = .ok (.aload_n 0, 1) := by decide +kernel
theorem dX12_unit_91 : decode cX12_unit 91 = .ok (.iconst 0, 1) := by decide +kernel
theorem dX12_unit_92 : decode cX12_unit 92 = .ok (.iconst 0, 1) := by decide +kernel
theorem dX12_unit_93 : decode cX12_unit 93 = .ok (.invokevirtual 186, 3) := by decide +kernel
theorem dX12_unit_96 : decode cX12_unit 96 = .ok (.ireturn, 1) := by decide +kernel
theorem dX12_part_0 : decode cX12_part 0 = .ok (.iload_n 1, 1) := by decide +kernel
theorem dX12_part_1 : decode cX12_part 1 = .ok (.ifCond .eq 12, 3) := by decide +kernel
theorem dX12_part_4 : decode cX12_part 4 = .ok (.aload_n 0, 1) := by decide +kernel
theorem dX12_part_5 : decode cX12_part 5 = .ok (.iconst 1, 1) := by decide +kernel
theorem dX12_part_6 : decode cX12_part 6 = .ok (.iload_n 2, 1) := by decide +kernel
theorem dX12_part_7 : decode cX12_part 7 = .ok (.invokevirtual 186, 3) := by decide +kernel
theorem dX12_part_10 : decode cX12_part 10 = .ok (.goto 7, 3) := by decide +kernel
theorem dX12_part_13 : decode cX12_part 13 = .ok (.aload_n 0, 1) := by decide +kernel
theorem dX12_part_14 : decode cX12_part 14 = .ok (.invokevirtual 179, 3) := by decide +kernel
theorem dX12_part_17 : decode cX12_part 17 = .ok (.istore_n 3, 1) := by decide +kernel
theorem dX12_part_18 : decode cX12_part 18 = .ok (.aload_n 0, 1) := by decide +kernel
theorem dX12_part_19 : decode cX12_part 19 = .ok (.getfield 123, 3) := by decide +kernel
theorem dX12_part_22 : decode cX12_part 22 = .ok (.iconst (-1), 1) := by decide +kernel
theorem dX12_part_23 : decode cX12_part 23 = .ok (.if_icmp .ne 46, 3) := by decide +kernel
theorem dX12_part_26 : decode cX12_part 26 = .ok (.aload_n 0, 1) := by decide +kernel
theorem dX12_part_27 : decode cX12_part 27 = .ok (.invokevirtual 133, 3) := by decide +kernel
theorem dX12_part_30 : decode cX12_part 30 = .ok (.bipush 38, 2) := by decide +kernel
theorem dX12_part_32 : decode cX12_part 32 = .ok (.if_icmp .ne 37, 3) := by decide +kernel
theorem dX12_part_35 : decode cX12_part 35 = .ok (.aload_n 0, 1) := by decide +kernel
theorem dX12_part_36 : decode cX12_part 36 = .ok (.dup, 1) := by decide +kernel
theorem dX12_part_37 : decode cX12_part 37 = .ok (.getfield 114, 3) := by decide +kernel
theorem dX12_part_40 : decode cX12_part 40 = .ok (.iconst 1, 1) := by decide +kernel
theorem dX12_part_41 : decode cX12_part 41 = .ok (.iadd, 1) := by decide +kernel
theorem dX12_part_42 : decode cX12_part 42 = .ok (.putfield 114, 3) := by decide +kernel
theorem dX12_part_45 : decode cX12_part 45 = .ok (.aload_n 0, 1) := by decide +kernel
theorem dX12_part_46 : decode cX12_part 46 = .ok (.invokevirtual 179, 3) := by decide +kernel
theorem dX12_part_49 : decode cX12_part 49 = .ok (.istore 4, 2) := by decide +kernel
theorem dX12_part_51 : decode cX12_part 51 = .ok (.iload_n 3, 1) := by decide +kernel
theorem dX12_part_52 : decode cX12_part 52 = .ok (.ifCond .eq 12, 3) := by decide +kernel
theorem dX12_part_55 : decode cX12_part 55 = .ok (.iload 4, 2) := by decide +kernel
theorem dX12_part_57 : decode cX12_part 57 = .ok (.ifCond .eq 7, 3) := by decide +kernel
theorem dX12_part_60 : decode cX12_part 60 = .ok (.iconst 1, 1) := by decide +kernel
theorem dX12_part_61 : decode cX12_part 61 = .ok (.goto 4, 3) := by decide +kernel
theorem dX12_part_64 : decode cX12_part 64 = .ok (.iconst 0, 1) := by decide +kernel
theorem dX12_part_65 : decode cX12_part 65 = .ok (.istore_n 3, 1) := by decide +kernel
theorem dX12_part_66 : decode cX12_part 66 = .ok (.goto (-48), 3) := by decide +kernel
theorem dX12_part_69 : decode cX12_part 69 = .ok (.iload_n 3, 1) := by decide +kernel
theorem dX12_part_70 : decode cX12_part 70 = .ok (.ireturn, 1) := by decide +kernel
theorem dX12_condition_0 : decode cX12_condition 0 = .ok (.aload_n 0, 1) := by decide +kernel
theorem dX12_condition_1 : decode cX12_condition 1 = .ok (.iload_n 1, 1) := by decide +kernel
theorem dX12_condition_2 : decode cX12_condition 2 = .ok (.iload_n 2, 1) := by decide +kernel
theorem dX12_condition_3 : decode cX12_condition 3 = .ok (.invokevirtual 189, 3) := by decide +kernel
theorem dX12_condition_6 : decode cX12_condition 6 = .ok (.istore_n 3, 1) := by decide +kernel
theorem dX12_condition_7 : decode cX12_condition 7 = .ok (.aload_n 0, 1) := by decide +kernel
theorem dX12_condition_8 : decode cX12_condition 8 = .ok (.getfield 123, 3) := by decide +kernel
theorem dX12_condition_11 : decode cX12_condition 11 = .ok (.iconst (-1), 1) := by decide +kernel
theorem dX12_condition_12 : decode cX12_condition 12 = .ok (.if_icmp .ne 48, 3) := by decide +kernel
theorem dX12_condition_15 : decode cX12_condition 15 = .ok (.aload_n 0, 1) := by decide +kernel
theorem dX12_condition_16 : decode cX12_condition 16 = .ok (.invokevirtual 133, 3) := by decide +kernel
theorem dX12_condition_19 : decode cX12_condition 19 = .ok (.bipush 124, 2) := by decide +kernel
theorem dX12_condition_21 : decode cX12_condition 21 = .ok (.if_icmp .ne 39, 3) := by decide +kernel
theorem dX12_condition_24 : decode cX12_condition 24 = .ok (.aload_n 0, 1) := by decide +kernel
theorem dX12_condition_25 : decode cX12_condition 25 = .ok (.dup, 1) := by decide +kernel
theorem dX12_condition_26 : decode cX12_condition 26 = .ok (.getfield 114, 3) := by decide +kernel
theorem dX12_condition_29 : decode cX12_condition 29 = .ok (.iconst 1, 1) := by decide +kernel
theorem dX12_condition_30 : decode cX12_condition 30 = .ok (.iadd, 1) := by decide +kernel
theorem dX12_condition_31 : decode cX12_condition 31 = .ok (.putfield 114, 3) := by decide +kernel
theorem dX12_condition_34 : decode cX12_condition 34 = .ok (.aload_n 0, 1) := by decide +kernel
theorem dX12_condition_35 : decode cX12_condition 35 = .ok (.iconst 0, 1) := by decide +kernel
theorem dX12_condition_36 : decode cX12_condition 36 = .ok (.iconst 0, 1) := by decide +kernel
theorem dX12_condition_37 : decode cX12_condition 37 = .ok (.invokevirtual 189, 3) := by decide +kernel
theorem dX12_condition_40 : decode cX12_condition 40 = .ok (.istore 4, 2) := by decide +kernel
theorem dX12_condition_42 : decode cX12_condition 42 = .ok (.iload_n 3, 1) := by decide +kernel
theorem dX12_condition_43 : decode cX12_condition 43 = .ok (.ifCond .ne 8, 3) := by decide +kernel
theorem dX12_condition_46 : decode cX12_condition 46 = .ok (.iload 4, 2) := by decide +kernel
theorem dX12_condition_48 : decode cX12_condition 48 = .ok (.ifCond .eq 7, 3) := by decide +kernel
theorem dX12_condition_51 : decode cX12_condition 51 = .ok (.iconst 1, 1) := by decide +kernel
theorem dX12_condition_52 : decode cX12_condition 52 = .ok (.goto 4, 3) := by decide +kernel
theorem dX12_condition_55 : decode cX12_condition 55 = .ok (.iconst 0, 1) := by decide +kernel
theorem dX12_condition_56 : decode cX12_condition 56 = .ok (.istore_n 3, 1) := by decide +kernel
theorem dX12_condition_57 : decode cX12_condition 57 = .ok (.goto (-50), 3) := by decide +kernel
theorem dX12_condition_60 : decode cX12_condition 60 = .ok (.iload_n 3, 1) := by decide +kernel
theorem dX12_condition_61 : decode cX12_condition 61 = .ok (.ireturn, 1) := by decide +kernel
theorem dX12_clause_0 : decode cX12_clause 0 = .ok (.aload_n 0, 1) := by decide +kernel
theorem dX12_clause_1 : decode cX12_clause 1 = .ok (.invokevirtual 133, 3) := by decide +kernel
theorem dX12_clause_4 : decode cX12_clause 4 = .ok (.istore_n 1, 1) := by decide +kernel
theorem dX12_clause_5 : decode cX12_clause 5 = .ok (.ldc 26, 2) := by decide +kernel
theorem dX12_clause_7 : decode cX12_clause 7 = .ok (.iload_n 1, 1) := by decide +kernel
theorem dX12_clause_8 : decode cX12_clause 8 = .ok (.invokestatic 149, 3) := by decide +kernel
theorem dX12_clause_11 : decode cX12_clause 11 = .ok (.ifCond .ne 9, 3) := by decide +kernel
theorem dX12_clause_14 : decode cX12_clause 14 = .ok (.aload_n 0, 1) := by decide +kernel
theorem dX12_clause_15 : decode cX12_clause 15 = .ok (.invokevirtual 129, 3) := by decide +kernel
theorem dX12_clause_18 : decode cX12_clause 18 = .ok (.pop, 1) := by decide +kernel
theorem dX12_clause_19 : decode cX12_clause 19 = .ok (.return_, 1) := by decide +kernel
theorem dX12_clause_20 : decode cX12_clause 20 = .ok (.aload_n 0, 1) := by decide +kernel
theorem dX12_clause_21 : decode cX12_clause 21 = .ok (.dup, 1) := by decide +kernel
theorem dX12_clause_22 : decode cX12_clause 22 = .ok (.getfield 114, 3) := by decide +kernel
theorem dX12_clause_25 : decode cX12_clause 25 = .ok (.iconst 1, 1) := by decide +kernel
theorem dX12_clause_26 : decode cX12_clause 26 = .ok (.iadd, 1) := by decide +kernel
theorem dX12_clause_27 : decode cX12_clause 27 = .ok (.putfield 114, 3) := by decide +kernel
theorem dX12_clause_30 : decode cX12_clause 30 = .ok (.aload_n 0, 1) := by decide +kernel
theorem dX12_clause_31 : decode cX12_clause 31 = .ok (.bipush 58, 2) := by decide +kernel
theorem dX12_clause_33 : decode cX12_clause 33 = .ok (.invokevirtual 159, 3) := by decide +kernel
theorem dX12_clause_36 : decode cX12_clause 36 = .ok (.ifCond .ne 4, 3) := by decide +kernel
theorem dX12_clause_39 : decode cX12_clause 39 = .ok (.return_, 1) := by decide +kernel
theorem dX12_clause_40 : decode cX12_clause 40 = .ok (.iconst 1, 1) := by decide +kernel
theorem dX12_clause_41 : decode cX12_clause 41 = .ok (.istore_n 2, 1) := by decide +kernel
theorem dX12_clause_42 : decode cX12_clause 42 = .ok (.iconst 0, 1) := by decide +kernel
theorem dX12_clause_43 : decode cX12_clause 43 = .ok (.istore_n 3, 1) := by decide +kernel
theorem dX12_clause_44 : decode cX12_clause 44 = .ok (.aload_n 0, 1) := by decide +kernel
theorem dX12_clause_45 : decode cX12_clause 45 = .ok (.invokevirtual 133, 3) := by decide +kernel
theorem dX12_clause_48 : decode cX12_clause 48 = .ok (.istore 4, 2) := by decide +kernel
theorem dX12_clause_50 : decode cX12_clause 50 = .ok (.iload 4, 2) := by decide +kernel
theorem dX12_clause_52 : decode cX12_clause 52 = .ok (.bipush 33, 2) := by decide +kernel
theorem dX12_clause_54 : decode cX12_clause 54 = .ok (.if_icmp .eq 10, 3) := by decide +kernel
theorem dX12_clause_57 : decode cX12_clause 57 = .ok (.iload 4, 2) := by decide +kernel
theorem dX12_clause_59 : decode cX12_clause 59 = .ok (.bipush 40, 2) := by decide +kernel
theorem dX12_clause_61 : decode cX12_clause 61 = .ok (.if_icmp .ne 28, 3) := by decide +kernel
theorem dX12_clause_64 : decode cX12_clause 64 = .ok (.aload_n 0, 1) := by decide +kernel
theorem dX12_clause_65 : decode cX12_clause 65 = .ok (.iconst 0, 1) := by decide +kernel
theorem dX12_clause_66 : decode cX12_clause 66 = .ok (.iconst 0, 1) := by decide +kernel
theorem dX12_clause_67 : decode cX12_clause 67 = .ok (.invokevirtual 182, 3) := by decide +kernel
theorem dX12_clause_70 : decode cX12_clause 70 = .ok (.istore_n 2, 1) := by decide +kernel
theorem dX12_clause_71 : decode cX12_clause 71 = .ok (.aload_n 0, 1) := by decide +kernel
theorem dX12_clause_72 : decode cX12_clause 72 = .ok (.bipush 63, 2) := by decide +kernel
theorem dX12_clause_74 : decode cX12_clause 74 = .ok (.invokevirtual 159, 3) := by decide +kernel
theorem dX12_clause_77 : decode cX12_clause 77 = .ok (.ifCond .ne 4, 3) := by decide +kernel
theorem dX12_clause_80 : decode cX12_clause 80 = .ok (.return_, 1) := by decide +kernel
theorem dX12_clause_81 : decode cX12_clause 81 = .ok (.aload_n 0, 1) := by decide +kernel
theorem dX12_clause_82 : decode cX12_clause 82 = .ok (.invokevirtual 156, 3) := by decide +kernel
theorem dX12_clause_85 : decode cX12_clause 85 = .ok (.istore_n 3, 1) := by decide +kernel
theorem dX12_clause_86 : decode cX12_clause 86 = .ok (.goto 48, 3) := by decide +kernel
theorem dX12_clause_89 : decode cX12_clause 89 = .ok (.aload_n 0, 1) := by decide +kernel
theorem dX12_clause_90 : decode cX12_clause 90 = .ok (.invokevirtual 156, 3) := by decide +kernel
theorem dX12_clause_93 : decode cX12_clause 93 = .ok (.istore_n 3, 1) := by decide +kernel
theorem dX12_clause_94 : decode cX12_clause 94 = .ok (.aload_n 0, 1) := by decide +kernel
theorem dX12_clause_95 : decode cX12_clause 95 = .ok (.getfield 123, 3) := by decide +kernel
theorem dX12_clause_98 : decode cX12_clause 98 = .ok (.iconst (-1), 1) := by decide +kernel
theorem dX12_clause_99 : decode cX12_clause 99 = .ok (.if_icmp .ne 35, 3) := by decide +kernel
theorem dX12_clause_102 : decode cX12_clause 102 = .ok (.aload_n 0, 1) := by decide +kernel
theorem dX12_clause_103 : decode cX12_clause 103 = .ok (.invokevirtual 133, 3) := by decide +kernel
theorem dX12_clause_106 : decode cX12_clause 106 = .ok (.invokestatic 176, 3) := by decide +kernel
theorem dX12_clause_109 : decode cX12_clause 109 = .ok (.ifCond .eq 25, 3) := by decide +kernel
theorem dX12_clause_112 : decode cX12_clause 112 = .ok (.aload_n 0, 1) := by decide +kernel
theorem dX12_clause_113 : decode cX12_clause 113 = .ok (.iconst 1, 1) := by decide +kernel
theorem dX12_clause_114 : decode cX12_clause 114 = .ok (.iload_n 3, 1) := by decide +kernel
theorem dX12_clause_115 : decode cX12_clause 115 = .ok (.invokevirtual 182, 3) := by decide +kernel
theorem dX12_clause_118 : decode cX12_clause 118 = .ok (.istore_n 2, 1) := by decide +kernel
theorem dX12_clause_119 : decode cX12_clause 119 = .ok (.aload_n 0, 1) := by decide +kernel
theorem dX12_clause_120 : decode cX12_clause 120 = .ok (.bipush 63, 2) := by decide +kernel
theorem dX12_clause_122 : decode cX12_clause 122 = .ok (.invokevirtual 159, 3) := by decide +kernel
theorem dX12_clause_125 : decode cX12_clause 125 = .ok (.ifCond .ne 4, 3) := by decide +kernel
theorem dX12_clause_128 : decode cX12_clause 128 = .ok (.return_, 1) := by decide +kernel
theorem dX12_clause_129 : decode cX12_clause 129 = .ok (.aload_n 0, 1) := by decide +kernel
theorem dX12_clause_130 : decode cX12_clause 130 = .ok (.invokevirtual 156, 3) := by decide +kernel
theorem dX12_clause_133 : decode cX12_clause 133 = .ok (.istore_n 3, 1) := by decide +kernel
theorem dX12_clause_134 : decode cX12_clause 134 = .ok (.aload_n 0, 1) := by decide +kernel
theorem dX12_clause_135 : decode cX12_clause 135 = .ok (.getfield 123, 3) := by decide +kernel
theorem dX12_clause_138 : decode cX12_clause 138 = .ok (.iconst (-1), 1) := by decide +kernel
theorem dX12_clause_139 : decode cX12_clause 139 = .ok (.if_icmp .ne 22, 3) := by decide +kernel
theorem dX12_clause_142 : decode cX12_clause 142 = .ok (.aload_n 0, 1) := by decide +kernel
theorem dX12_clause_143 : decode cX12_clause 143 = .ok (.getfield 192, 3) := by decide +kernel
theorem dX12_clause_146 : decode cX12_clause 146 = .ok (.ifCond .ne 15, 3) := by decide +kernel
theorem dX12_clause_149 : decode cX12_clause 149 = .ok (.iload_n 1, 1) := by decide +kernel
theorem dX12_clause_150 : decode cX12_clause 150 = .ok (.aload_n 0, 1) := by decide +kernel
theorem dX12_clause_151 : decode cX12_clause 151 = .ok (.getfield 196, 3) := by decide +kernel
theorem dX12_clause_154 : decode cX12_clause 154 = .ok (.if_icmp .ne 7, 3) := by decide +kernel
theorem dX12_clause_157 : decode cX12_clause 157 = .ok (.iload_n 2, 1) := by decide +kernel
theorem dX12_clause_158 : decode cX12_clause 158 = .ok (.ifCond .ne 4, 3) := by decide +kernel
theorem dX12_clause_161 : decode cX12_clause 161 = .ok (.return_, 1) := by decide +kernel
theorem dX12_clause_162 : decode cX12_clause 162 = .ok (.aload_n 0, 1) := by decide +kernel
theorem dX12_clause_163 : decode cX12_clause 163 = .ok (.iconst 1, 1) := by decide +kernel
theorem dX12_clause_164 : decode cX12_clause 164 = .ok (.putfield 192, 3) := by decide +kernel
theorem dX12_clause_167 : decode cX12_clause 167 = .ok (.aload_n 0, 1) := by decide +kernel
theorem dX12_clause_168 : decode cX12_clause 168 = .ok (.iload_n 3, 1) := by decide +kernel
theorem dX12_clause_169 : decode cX12_clause 169 = .ok (.putfield 199, 3) := by decide +kernel
theorem dX12_clause_172 : decode cX12_clause 172 = .ok (.return_, 1) := by decide +kernel
theorem dX12_starts_0 : decode cX12_starts 0 = .ok (.aload_n 0, 1) := by decide +kernel
theorem dX12_starts_1 : decode cX12_starts 1 = .ok (.aload_n 1, 1) := by decide +kernel
theorem dX12_starts_2 : decode cX12_starts 2 = .ok (.putfield 23, 3) := by decide +kernel
theorem dX12_starts_5 : decode cX12_starts 5 = .ok (.aload_n 0, 1) := by decide +kernel
theorem dX12_starts_6 : decode cX12_starts 6 = .ok (.iload_n 2, 1) := by decide +kernel
theorem dX12_starts_7 : decode cX12_starts 7 = .ok (.putfield 120, 3) := by decide +kernel
theorem dX12_starts_10 : decode cX12_starts 10 = .ok (.aload_n 0, 1) := by decide +kernel
theorem dX12_starts_11 : decode cX12_starts 11 = .ok (.iload_n 3, 1) := by decide +kernel
theorem dX12_starts_12 : decode cX12_starts 12 = .ok (.putfield 117, 3) := by decide +kernel
theorem dX12_starts_15 : decode cX12_starts 15 = .ok (.aload_n 0, 1) := by decide +kernel
theorem dX12_starts_16 : decode cX12_starts 16 = .ok (.iconst 0, 1) := by decide +kernel
theorem dX12_starts_17 : decode cX12_starts 17 = .ok (.putfield 114, 3) := by decide +kernel
theorem dX12_starts_20 : decode cX12_starts 20 = .ok (.aload_n 0, 1) := by decide +kernel
theorem dX12_starts_21 : decode cX12_starts 21 = .ok (.iconst (-1), 1) := by decide +kernel
theorem dX12_starts_22 : decode cX12_starts 22 = .ok (.putfield 123, 3) := by decide +kernel
theorem dX12_starts_25 : decode cX12_starts 25 = .ok (.return_, 1) := by decide +kernel
theorem dX12_goThrough_0 : decode cX12_goThrough 0 = .ok (.aload_n 0, 1) := by decide +kernel
theorem dX12_goThrough_1 : decode cX12_goThrough 1 = .ok (.aload_n 1, 1) := by decide +kernel
theorem dX12_goThrough_2 : decode cX12_goThrough 2 = .ok (.iload_n 2, 1) := by decide +kernel
theorem dX12_goThrough_3 : decode cX12_goThrough 3 = .ok (.iload_n 3, 1) := by decide +kernel
theorem dX12_goThrough_4 : decode cX12_goThrough 4 = .ok (.invokevirtual 202, 3) := by decide +kernel
theorem dX12_goThrough_7 : decode cX12_goThrough 7 = .ok (.aload_n 0, 1) := by decide +kernel
theorem dX12_goThrough_8 : decode cX12_goThrough 8 = .ok (.bipush 121, 2) := by decide +kernel
theorem dX12_goThrough_10 : decode cX12_goThrough 10 = .ok (.putfield 196, 3) := by decide +kernel
theorem dX12_goThrough_13 : decode cX12_goThrough 13 = .ok (.aload_n 0, 1) := by decide +kernel
theorem dX12_goThrough_14 : decode cX12_goThrough 14 = .ok (.iconst 0, 1) := by decide +kernel
theorem dX12_goThrough_15 : decode cX12_goThrough 15 = .ok (.putfield 126, 3) := by decide +kernel
theorem dX12_goThrough_18 : decode cX12_goThrough 18 = .ok (.aload_n 0, 1) := by decide +kernel
theorem dX12_goThrough_19 : decode cX12_goThrough 19 = .ok (.iconst 0, 1) := by decide +kernel
theorem dX12_goThrough_20 : decode cX12_goThrough 20 = .ok (.putfield 192, 3) := by decide +kernel
theorem dX12_goThrough_23 : decode cX12_goThrough 23 = .ok (.aload_n 0, 1) := by decide +kernel
theorem dX12_goThrough_24 : decode cX12_goThrough 24 = .ok (.iconst 0, 1) := by decide +kernel
theorem dX12_goThrough_25 : decode cX12_goThrough 25 = .ok (.putfield 199, 3) := by decide +kernel
theorem dX12_goThrough_28 : decode cX12_goThrough 28 = .ok (.aload_n 0, 1) := by decide +kernel
theorem dX12_goThrough_29 : decode cX12_goThrough 29 = .ok (.invokevirtual 206, 3) := by decide +kernel
theorem dX12_goThrough_32 : decode cX12_goThrough 32 = .ok (.aload_n 0, 1) := by decide +kernel
theorem dX12_goThrough_33 : decode cX12_goThrough 33 = .ok (.getfield 123, 3) := by decide +kernel
theorem dX12_goThrough_36 : decode cX12_goThrough 36 = .ok (.iconst (-1), 1) := by decide +kernel
theorem dX12_goThrough_37 : decode cX12_goThrough 37 = .ok (.if_icmp .ne 29, 3) := by decide +kernel
theorem dX12_goThrough_40 : decode cX12_goThrough 40 = .ok (.aload_n 0, 1) := by decide +kernel
theorem dX12_goThrough_41 : decode cX12_goThrough 41 = .ok (.invokevirtual 133, 3) := by decide +kernel
theorem dX12_goThrough_44 : decode cX12_goThrough 44 = .ok (.bipush 59, 2) := by decide +kernel
theorem dX12_goThrough_46 : decode cX12_goThrough 46 = .ok (.if_icmp .ne 20, 3) := by decide +kernel
theorem dX12_goThrough_49 : decode cX12_goThrough 49 = .ok (.aload_n 0, 1) := by decide +kernel
theorem dX12_goThrough_50 : decode cX12_goThrough 50 = .ok (.dup, 1) := by decide +kernel
theorem dX12_goThrough_51 : decode cX12_goThrough 51 = .ok (.getfield 114, 3) := by decide +kernel
theorem dX12_goThrough_54 : decode cX12_goThrough 54 = .ok (.iconst 1, 1) := by decide +kernel
theorem dX12_goThrough_55 : decode cX12_goThrough 55 = .ok (.iadd, 1) := by decide +kernel
theorem dX12_goThrough_56 : decode cX12_goThrough 56 = .ok (.putfield 114, 3) := by decide +kernel
theorem dX12_goThrough_59 : decode cX12_goThrough 59 = .ok (.aload_n 0, 1) := by decide +kernel
theorem dX12_goThrough_60 : decode cX12_goThrough 60 = .ok (.invokevirtual 206, 3) := by decide +kernel
theorem dX12_goThrough_63 : decode cX12_goThrough 63 = .ok (.goto (-31), 3) := by decide +kernel
theorem dX12_goThrough_66 : decode cX12_goThrough 66 = .ok (.aload_n 0, 1) := by decide +kernel
theorem dX12_goThrough_67 : decode cX12_goThrough 67 = .ok (.getfield 123, 3) := by decide +kernel
theorem dX12_goThrough_70 : decode cX12_goThrough 70 = .ok (.iconst (-1), 1) := by decide +kernel
theorem dX12_goThrough_71 : decode cX12_goThrough 71 = .ok (.if_icmp .ne 16, 3) := by decide +kernel
theorem dX12_goThrough_74 : decode cX12_goThrough 74 = .ok (.aload_n 0, 1) := by decide +kernel
theorem dX12_goThrough_75 : decode cX12_goThrough 75 = .ok (.invokevirtual 133, 3) := by decide +kernel
theorem dX12_goThrough_78 : decode cX12_goThrough 78 = .ok (.iconst (-1), 1) := by decide +kernel
theorem dX12_goThrough_79 : decode cX12_goThrough 79 = .ok (.if_icmp .eq 8, 3) := by decide +kernel
theorem dX12_goThrough_82 : decode cX12_goThrough 82 = .ok (.aload_n 0, 1) := by decide +kernel
theorem dX12_goThrough_83 : decode cX12_goThrough 83 = .ok (.invokevirtual 129, 3) := by decide +kernel
theorem dX12_goThrough_86 : decode cX12_goThrough 86 = .ok (.pop, 1) := by decide +kernel
theorem dX12_goThrough_87 : decode cX12_goThrough 87 = .ok (.return_, 1) := by decide +kernel
theorem dX12_here_0 : decode cX12_here 0 = .ok (.aload_n 0, 1) := by decide +kernel
theorem dX12_here_1 : decode cX12_here 1 = .ok (.getfield 114, 3) := by decide +kernel
theorem dX12_here_4 : decode cX12_here 4 = .ok (.aload_n 0, 1) := by decide +kernel
theorem dX12_here_5 : decode cX12_here 5 = .ok (.getfield 117, 3) := by decide +kernel
theorem dX12_here_8 : decode cX12_here 8 = .ok (.if_icmp .ge 24, 3) := by decide +kernel
theorem dX12_here_11 : decode cX12_here 11 = .ok (.aload_n 0, 1) := by decide +kernel
theorem dX12_here_12 : decode cX12_here 12 = .ok (.getfield 23, 3) := by decide +kernel
theorem dX12_here_15 : decode cX12_here 15 = .ok (.aload_n 0, 1) := by decide +kernel
theorem dX12_here_16 : decode cX12_here 16 = .ok (.getfield 120, 3) := by decide +kernel
theorem dX12_here_19 : decode cX12_here 19 = .ok (.aload_n 0, 1) := by decide +kernel
theorem dX12_here_20 : decode cX12_here 20 = .ok (.getfield 114, 3) := by decide +kernel
theorem dX12_here_23 : decode cX12_here 23 = .ok (.iadd, 1) := by decide +kernel
theorem dX12_here_24 : decode cX12_here 24 = .ok (.baload, 1) := by decide +kernel
theorem dX12_here_25 : decode cX12_here 25 = .ok (.sipush 255, 3) := by decide +kernel
theorem dX12_here_28 : decode cX12_here 28 = .ok (.iand, 1) := by decide +kernel
theorem dX12_here_29 : decode cX12_here 29 = .ok (.goto 4, 3) := by decide +kernel
theorem dX12_here_32 : decode cX12_here 32 = .ok (.iconst (-1), 1) := by decide +kernel
theorem dX12_here_33 : decode cX12_here 33 = .ok (.ireturn, 1) := by decide +kernel
theorem dX12_spotOf_0 : decode cX12_spotOf 0 = .ok (.iconst 0, 1) := by decide +kernel
theorem dX12_spotOf_1 : decode cX12_spotOf 1 = .ok (.istore_n 2, 1) := by decide +kernel
theorem dX12_spotOf_2 : decode cX12_spotOf 2 = .ok (.iload_n 2, 1) := by decide +kernel
theorem dX12_spotOf_3 : decode cX12_spotOf 3 = .ok (.aload_n 0, 1) := by decide +kernel
theorem dX12_spotOf_4 : decode cX12_spotOf 4 = .ok (.invokevirtual 94, 3) := by decide +kernel
theorem dX12_spotOf_7 : decode cX12_spotOf 7 = .ok (.if_icmp .ge 20, 3) := by decide +kernel
theorem dX12_spotOf_10 : decode cX12_spotOf 10 = .ok (.aload_n 0, 1) := by decide +kernel
theorem dX12_spotOf_11 : decode cX12_spotOf 11 = .ok (.iload_n 2, 1) := by decide +kernel
theorem dX12_spotOf_12 : decode cX12_spotOf 12 = .ok (.invokevirtual 100, 3) := by decide +kernel
theorem dX12_spotOf_15 : decode cX12_spotOf 15 = .ok (.iload_n 1, 1) := by decide +kernel
theorem dX12_spotOf_16 : decode cX12_spotOf 16 = .ok (.if_icmp .ne 5, 3) := by decide +kernel
theorem dX12_spotOf_19 : decode cX12_spotOf 19 = .ok (.iload_n 2, 1) := by decide +kernel
theorem dX12_spotOf_20 : decode cX12_spotOf 20 = .ok (.ireturn, 1) := by decide +kernel
theorem dX12_spotOf_21 : decode cX12_spotOf 21 = .ok (.iinc 2 1, 3) := by decide +kernel
theorem dX12_spotOf_24 : decode cX12_spotOf 24 = .ok (.goto (-22), 3) := by decide +kernel
theorem dX12_spotOf_27 : decode cX12_spotOf 27 = .ok (.iconst (-1), 1) := by decide +kernel
theorem dX12_spotOf_28 : decode cX12_spotOf 28 = .ok (.ireturn, 1) := by decide +kernel
theorem dX12_number_0 : decode cX12_number 0 = .ok (.aload_n 0, 1) := by decide +kernel
theorem dX12_number_1 : decode cX12_number 1 = .ok (.invokevirtual 133, 3) := by decide +kernel
theorem dX12_number_4 : decode cX12_number 4 = .ok (.istore_n 3, 1) := by decide +kernel
theorem dX12_number_5 : decode cX12_number 5 = .ok (.aload_n 0, 1) := by decide +kernel
theorem dX12_number_6 : decode cX12_number 6 = .ok (.invokevirtual 163, 3) := by decide +kernel
theorem dX12_number_9 : decode cX12_number 9 = .ok (.ifCond .ne 10, 3) := by decide +kernel
theorem dX12_number_12 : decode cX12_number 12 = .ok (.aload_n 0, 1) := by decide +kernel
theorem dX12_number_13 : decode cX12_number 13 = .ok (.invokevirtual 129, 3) := by decide +kernel
theorem dX12_number_16 : decode cX12_number 16 = .ok (.pop, 1) := by decide +kernel
theorem dX12_number_17 : decode cX12_number 17 = .ok (.iconst 0, 1) := by decide +kernel
theorem dX12_number_18 : decode cX12_number 18 = .ok (.ireturn, 1) := by decide +kernel
theorem dX12_number_19 : decode cX12_number 19 = .ok (.iload_n 3, 1) := by decide +kernel
theorem dX12_number_20 : decode cX12_number 20 = .ok (.bipush 48, 2) := by decide +kernel
theorem dX12_number_22 : decode cX12_number 22 = .ok (.isub, 1) := by decide +kernel
theorem dX12_number_23 : decode cX12_number 23 = .ok (.istore 4, 2) := by decide +kernel
theorem dX12_number_25 : decode cX12_number 25 = .ok (.aload_n 0, 1) := by decide +kernel
theorem dX12_number_26 : decode cX12_number 26 = .ok (.dup, 1) := by decide +kernel
theorem dX12_number_27 : decode cX12_number 27 = .ok (.getfield 114, 3) := by decide +kernel
theorem dX12_number_30 : decode cX12_number 30 = .ok (.iconst 1, 1) := by decide +kernel
theorem dX12_number_31 : decode cX12_number 31 = .ok (.iadd, 1) := by decide +kernel
theorem dX12_number_32 : decode cX12_number 32 = .ok (.putfield 114, 3) := by decide +kernel
theorem dX12_number_35 : decode cX12_number 35 = .ok (.aload_n 0, 1) := by decide +kernel
theorem dX12_number_36 : decode cX12_number 36 = .ok (.invokevirtual 163, 3) := by decide +kernel
theorem dX12_number_39 : decode cX12_number 39 = .ok (.ifCond .eq 28, 3) := by decide +kernel
theorem dX12_number_42 : decode cX12_number 42 = .ok (.bipush 10, 2) := by decide +kernel
theorem dX12_number_44 : decode cX12_number 44 = .ok (.iload 4, 2) := by decide +kernel
theorem dX12_number_46 : decode cX12_number 46 = .ok (.imul, 1) := by decide +kernel
theorem dX12_number_47 : decode cX12_number 47 = .ok (.aload_n 0, 1) := by decide +kernel
theorem dX12_number_48 : decode cX12_number 48 = .ok (.invokevirtual 209, 3) := by decide +kernel
theorem dX12_number_51 : decode cX12_number 51 = .ok (.iadd, 1) := by decide +kernel
theorem dX12_number_52 : decode cX12_number 52 = .ok (.bipush 48, 2) := by decide +kernel
theorem dX12_number_54 : decode cX12_number 54 = .ok (.isub, 1) := by decide +kernel
theorem dX12_number_55 : decode cX12_number 55 = .ok (.istore 4, 2) := by decide +kernel
theorem dX12_number_57 : decode cX12_number 57 = .ok (.aload_n 0, 1) := by decide +kernel
theorem dX12_number_58 : decode cX12_number 58 = .ok (.dup, 1) := by decide +kernel
theorem dX12_number_59 : decode cX12_number 59 = .ok (.getfield 114, 3) := by decide +kernel
theorem dX12_number_62 : decode cX12_number 62 = .ok (.iconst 1, 1) := by decide +kernel
theorem dX12_number_63 : decode cX12_number 63 = .ok (.iadd, 1) := by decide +kernel
theorem dX12_number_64 : decode cX12_number 64 = .ok (.putfield 114, 3) := by decide +kernel
theorem dX12_number_67 : decode cX12_number 67 = .ok (.aload_n 0, 1) := by decide +kernel
theorem dX12_number_68 : decode cX12_number 68 = .ok (.invokevirtual 163, 3) := by decide +kernel
theorem dX12_number_71 : decode cX12_number 71 = .ok (.ifCond .eq 10, 3) := by decide +kernel
theorem dX12_number_74 : decode cX12_number 74 = .ok (.aload_n 0, 1) := by decide +kernel
theorem dX12_number_75 : decode cX12_number 75 = .ok (.invokevirtual 129, 3) := by decide +kernel
theorem dX12_number_78 : decode cX12_number 78 = .ok (.pop, 1) := by decide +kernel
theorem dX12_number_79 : decode cX12_number 79 = .ok (.iconst 0, 1) := by decide +kernel
theorem dX12_number_80 : decode cX12_number 80 = .ok (.ireturn, 1) := by decide +kernel
theorem dX12_number_81 : decode cX12_number 81 = .ok (.iload 4, 2) := by decide +kernel
theorem dX12_number_83 : decode cX12_number 83 = .ok (.i2l, 1) := by decide +kernel
theorem dX12_number_84 : decode cX12_number 84 = .ok (.iload_n 1, 1) := by decide +kernel
theorem dX12_number_85 : decode cX12_number 85 = .ok (.i2l, 1) := by decide +kernel
theorem dX12_number_86 : decode cX12_number 86 = .ok (.iload_n 2, 1) := by decide +kernel
theorem dX12_number_87 : decode cX12_number 87 = .ok (.i2l, 1) := by decide +kernel
theorem dX12_number_88 : decode cX12_number 88 = .ok (.invokestatic 212, 3) := by decide +kernel
theorem dX12_number_91 : decode cX12_number 91 = .ok (.ifCond .ne 18, 3) := by decide +kernel
theorem dX12_number_94 : decode cX12_number 94 = .ok (.aload_n 0, 1) := by decide +kernel
theorem dX12_number_95 : decode cX12_number 95 = .ok (.dup, 1) := by decide +kernel
theorem dX12_number_96 : decode cX12_number 96 = .ok (.getfield 114, 3) := by decide +kernel
theorem dX12_number_99 : decode cX12_number 99 = .ok (.iconst 1, 1) := by decide +kernel
theorem dX12_number_100 : decode cX12_number 100 = .ok (.isub, 1) := by decide +kernel
theorem dX12_number_101 : decode cX12_number 101 = .ok (.putfield 114, 3) := by decide +kernel
theorem dX12_number_104 : decode cX12_number 104 = .ok (.aload_n 0, 1) := by decide +kernel
theorem dX12_number_105 : decode cX12_number 105 = .ok (.invokevirtual 129, 3) := by decide +kernel
theorem dX12_number_108 : decode cX12_number 108 = .ok (.pop, 1) := by decide +kernel
theorem dX12_number_109 : decode cX12_number 109 = .ok (.iload 4, 2) := by decide +kernel
theorem dX12_number_111 : decode cX12_number 111 = .ok (.ireturn, 1) := by decide +kernel
theorem dX12_mostOf_0 : decode cX12_mostOf 0 = .ok (.iload_n 0, 1) := by decide +kernel
theorem dX12_mostOf_1 : decode cX12_mostOf 1 = .ok (.bipush 115, 2) := by decide +kernel
theorem dX12_mostOf_3 : decode cX12_mostOf 3 = .ok (.if_icmp .ne 13, 3) := by decide +kernel
theorem dX12_mostOf_6 : decode cX12_mostOf 6 = .ok (.iload_n 1, 1) := by decide +kernel
theorem dX12_mostOf_7 : decode cX12_mostOf 7 = .ok (.iconst 1, 1) := by decide +kernel
theorem dX12_mostOf_8 : decode cX12_mostOf 8 = .ok (.if_icmp .ne 8, 3) := by decide +kernel
theorem dX12_mostOf_11 : decode cX12_mostOf 11 = .ok (.bipush 99, 2) := by decide +kernel
theorem dX12_mostOf_13 : decode cX12_mostOf 13 = .ok (.goto 21, 3) := by decide +kernel
theorem dX12_mostOf_16 : decode cX12_mostOf 16 = .ok (.iload_n 0, 1) := by decide +kernel
theorem dX12_mostOf_17 : decode cX12_mostOf 17 = .ok (.bipush 99, 2) := by decide +kernel
theorem dX12_mostOf_19 : decode cX12_mostOf 19 = .ok (.if_icmp .ne 13, 3) := by decide +kernel
theorem dX12_mostOf_22 : decode cX12_mostOf 22 = .ok (.iload_n 1, 1) := by decide +kernel
theorem dX12_mostOf_23 : decode cX12_mostOf 23 = .ok (.iconst 2, 1) := by decide +kernel
theorem dX12_mostOf_24 : decode cX12_mostOf 24 = .ok (.if_icmp .ne 8, 3) := by decide +kernel
theorem dX12_mostOf_27 : decode cX12_mostOf 27 = .ok (.bipush 8, 2) := by decide +kernel
theorem dX12_mostOf_29 : decode cX12_mostOf 29 = .ok (.goto 5, 3) := by decide +kernel
theorem dX12_mostOf_32 : decode cX12_mostOf 32 = .ok (.bipush 9, 2) := by decide +kernel
theorem dX12_mostOf_34 : decode cX12_mostOf 34 = .ok (.ireturn, 1) := by decide +kernel
theorem dX12_usual_0 : decode cX12_usual 0 = .ok (.iload_n 0, 1) := by decide +kernel
theorem dX12_usual_1 : decode cX12_usual 1 = .ok (.bipush 115, 2) := by decide +kernel
theorem dX12_usual_3 : decode cX12_usual 3 = .ok (.if_icmp .ne 14, 3) := by decide +kernel
theorem dX12_usual_6 : decode cX12_usual 6 = .ok (.iload_n 1, 1) := by decide +kernel
theorem dX12_usual_7 : decode cX12_usual 7 = .ok (.ifCond .ne 7, 3) := by decide +kernel
theorem dX12_usual_10 : decode cX12_usual 10 = .ok (.iconst 1, 1) := by decide +kernel
theorem dX12_usual_11 : decode cX12_usual 11 = .ok (.goto 5, 3) := by decide +kernel
theorem dX12_usual_14 : decode cX12_usual 14 = .ok (.bipush 20, 2) := by decide +kernel
theorem dX12_usual_16 : decode cX12_usual 16 = .ok (.ireturn, 1) := by decide +kernel
theorem dX12_usual_17 : decode cX12_usual 17 = .ok (.iload_n 0, 1) := by decide +kernel
theorem dX12_usual_18 : decode cX12_usual 18 = .ok (.bipush 116, 2) := by decide +kernel
theorem dX12_usual_20 : decode cX12_usual 20 = .ok (.if_icmp .ne 5, 3) := by decide +kernel
theorem dX12_usual_23 : decode cX12_usual 23 = .ok (.iconst 1, 1) := by decide +kernel
theorem dX12_usual_24 : decode cX12_usual 24 = .ok (.ireturn, 1) := by decide +kernel
theorem dX12_usual_25 : decode cX12_usual 25 = .ok (.iload_n 1, 1) := by decide +kernel
theorem dX12_usual_26 : decode cX12_usual 26 = .ok (.ifCond .ne 7, 3) := by decide +kernel
theorem dX12_usual_29 : decode cX12_usual 29 = .ok (.iconst 5, 1) := by decide +kernel
theorem dX12_usual_30 : decode cX12_usual 30 = .ok (.goto 14, 3) := by decide +kernel
theorem dX12_usual_33 : decode cX12_usual 33 = .ok (.iload_n 1, 1) := by decide +kernel
theorem dX12_usual_34 : decode cX12_usual 34 = .ok (.iconst 1, 1) := by decide +kernel
theorem dX12_usual_35 : decode cX12_usual 35 = .ok (.if_icmp .ne 7, 3) := by decide +kernel
theorem dX12_usual_38 : decode cX12_usual 38 = .ok (.iconst 1, 1) := by decide +kernel
theorem dX12_usual_39 : decode cX12_usual 39 = .ok (.goto 5, 3) := by decide +kernel
theorem dX12_usual_42 : decode cX12_usual 42 = .ok (.bipush 8, 2) := by decide +kernel
theorem dX12_usual_44 : decode cX12_usual 44 = .ok (.ireturn, 1) := by decide +kernel
theorem dX12_readItems_0 : decode cX12_readItems 0 = .ok (.iconst 0, 1) := by decide +kernel
theorem dX12_readItems_1 : decode cX12_readItems 1 = .ok (.istore 5, 2) := by decide +kernel
theorem dX12_readItems_3 : decode cX12_readItems 3 = .ok (.iload 5, 2) := by decide +kernel
theorem dX12_readItems_5 : decode cX12_readItems 5 = .ok (.aload 4, 2) := by decide +kernel
theorem dX12_readItems_7 : decode cX12_readItems 7 = .ok (.invokevirtual 94, 3) := by decide +kernel
theorem dX12_readItems_10 : decode cX12_readItems 10 = .ok (.if_icmp .ge 21, 3) := by decide +kernel
theorem dX12_readItems_13 : decode cX12_readItems 13 = .ok (.aload_n 2, 1) := by decide +kernel
theorem dX12_readItems_14 : decode cX12_readItems 14 = .ok (.iload_n 3, 1) := by decide +kernel
theorem dX12_readItems_15 : decode cX12_readItems 15 = .ok (.iload 5, 2) := by decide +kernel
theorem dX12_readItems_17 : decode cX12_readItems 17 = .ok (.iadd, 1) := by decide +kernel
theorem dX12_readItems_18 : decode cX12_readItems 18 = .ok (.iload_n 1, 1) := by decide +kernel
theorem dX12_readItems_19 : decode cX12_readItems 19 = .ok (.iload 5, 2) := by decide +kernel
theorem dX12_readItems_21 : decode cX12_readItems 21 = .ok (.invokestatic 216, 3) := by decide +kernel
theorem dX12_readItems_24 : decode cX12_readItems 24 = .ok (.iastore, 1) := by decide +kernel
theorem dX12_readItems_25 : decode cX12_readItems 25 = .ok (.iinc 5 1, 3) := by decide +kernel
theorem dX12_readItems_28 : decode cX12_readItems 28 = .ok (.goto (-25), 3) := by decide +kernel
theorem dX12_readItems_31 : decode cX12_readItems 31 = .ok (.iconst 0, 1) := by decide +kernel
theorem dX12_readItems_32 : decode cX12_readItems 32 = .ok (.istore 5, 2) := by decide +kernel
theorem dX12_readItems_34 : decode cX12_readItems 34 = .ok (.aload 4, 2) := by decide +kernel
theorem dX12_readItems_36 : decode cX12_readItems 36 = .ok (.aload_n 0, 1) := by decide +kernel
theorem dX12_readItems_37 : decode cX12_readItems 37 = .ok (.invokevirtual 133, 3) := by decide +kernel
theorem dX12_readItems_40 : decode cX12_readItems 40 = .ok (.invokestatic 220, 3) := by decide +kernel
theorem dX12_readItems_43 : decode cX12_readItems 43 = .ok (.istore 6, 2) := by decide +kernel
theorem dX12_readItems_45 : decode cX12_readItems 45 = .ok (.iload 6, 2) := by decide +kernel
theorem dX12_readItems_47 : decode cX12_readItems 47 = .ok (.iconst (-1), 1) := by decide +kernel
theorem dX12_readItems_48 : decode cX12_readItems 48 = .ok (.if_icmp .eq 100, 3) := by decide +kernel
theorem dX12_readItems_51 : decode cX12_readItems 51 = .ok (.aload_n 0, 1) := by decide +kernel
theorem dX12_readItems_52 : decode cX12_readItems 52 = .ok (.getfield 123, 3) := by decide +kernel
theorem dX12_readItems_55 : decode cX12_readItems 55 = .ok (.iconst (-1), 1) := by decide +kernel
theorem dX12_readItems_56 : decode cX12_readItems 56 = .ok (.if_icmp .ne 92, 3) := by decide +kernel
theorem dX12_readItems_59 : decode cX12_readItems 59 = .ok (.iload 5, 2) := by decide +kernel
theorem dX12_readItems_61 : decode cX12_readItems 61 = .ok (.iload 6, 2) := by decide +kernel
theorem dX12_readItems_63 : decode cX12_readItems 63 = .ok (.invokestatic 224, 3) := by decide +kernel
theorem dX12_readItems_66 : decode cX12_readItems 66 = .ok (.ifCond .eq 9, 3) := by decide +kernel
theorem dX12_readItems_69 : decode cX12_readItems 69 = .ok (.aload_n 0, 1) := by decide +kernel
theorem dX12_readItems_70 : decode cX12_readItems 70 = .ok (.invokevirtual 129, 3) := by decide +kernel
theorem dX12_readItems_73 : decode cX12_readItems 73 = .ok (.pop, 1) := by decide +kernel
theorem dX12_readItems_74 : decode cX12_readItems 74 = .ok (.return_, 1) := by decide +kernel
theorem dX12_readItems_75 : decode cX12_readItems 75 = .ok (.iload 5, 2) := by decide +kernel
theorem dX12_readItems_77 : decode cX12_readItems 77 = .ok (.iconst 1, 1) := by decide +kernel
theorem dX12_readItems_78 : decode cX12_readItems 78 = .ok (.iload 6, 2) := by decide +kernel
theorem dX12_readItems_80 : decode cX12_readItems 80 = .ok (.ishl, 1) := by decide +kernel
theorem dX12_readItems_81 : decode cX12_readItems 81 = .ok (.ior, 1) := by decide +kernel
theorem dX12_readItems_82 : decode cX12_readItems 82 = .ok (.istore 5, 2) := by decide +kernel
theorem dX12_readItems_84 : decode cX12_readItems 84 = .ok (.aload_n 0, 1) := by decide +kernel
theorem dX12_readItems_85 : decode cX12_readItems 85 = .ok (.dup, 1) := by decide +kernel
theorem dX12_readItems_86 : decode cX12_readItems 86 = .ok (.getfield 114, 3) := by decide +kernel
theorem dX12_readItems_89 : decode cX12_readItems 89 = .ok (.iconst 1, 1) := by decide +kernel
theorem dX12_readItems_90 : decode cX12_readItems 90 = .ok (.iadd, 1) := by decide +kernel
theorem dX12_readItems_91 : decode cX12_readItems 91 = .ok (.putfield 114, 3) := by decide +kernel
theorem dX12_readItems_94 : decode cX12_readItems 94 = .ok (.aload_n 2, 1) := by decide +kernel
theorem dX12_readItems_95 : decode cX12_readItems 95 = .ok (.iload_n 3, 1) := by decide +kernel
theorem dX12_readItems_96 : decode cX12_readItems 96 = .ok (.iload 6, 2) := by decide +kernel
theorem dX12_readItems_98 : decode cX12_readItems 98 = .ok (.iadd, 1) := by decide +kernel
theorem dX12_readItems_99 : decode cX12_readItems 99 = .ok (.aload_n 0, 1) := by decide +kernel
theorem dX12_readItems_100 : decode cX12_readItems 100 = .ok (.iload_n 1, 1) := by decide +kernel
theorem dX12_readItems_101 : decode cX12_readItems 101 = .ok (.bipush 99, 2) := by decide +kernel
theorem dX12_readItems_103 : decode cX12_readItems 103 = .ok (.if_icmp .ne 12, 3) := by decide +kernel
theorem dX12_readItems_106 : decode cX12_readItems 106 = .ok (.iload 6, 2) := by decide +kernel
theorem dX12_readItems_108 : decode cX12_readItems 108 = .ok (.ifCond .ne 7, 3) := by decide +kernel
theorem dX12_readItems_111 : decode cX12_readItems 111 = .ok (.iconst 1, 1) := by decide +kernel
theorem dX12_readItems_112 : decode cX12_readItems 112 = .ok (.goto 4, 3) := by decide +kernel
theorem dX12_readItems_115 : decode cX12_readItems 115 = .ok (.iconst 0, 1) := by decide +kernel
theorem dX12_readItems_116 : decode cX12_readItems 116 = .ok (.iload_n 1, 1) := by decide +kernel
theorem dX12_readItems_117 : decode cX12_readItems 117 = .ok (.iload 6, 2) := by decide +kernel
theorem dX12_readItems_119 : decode cX12_readItems 119 = .ok (.invokestatic 228, 3) := by decide +kernel
theorem dX12_readItems_122 : decode cX12_readItems 122 = .ok (.invokevirtual 231, 3) := by decide +kernel
theorem dX12_readItems_125 : decode cX12_readItems 125 = .ok (.iastore, 1) := by decide +kernel
theorem dX12_readItems_126 : decode cX12_readItems 126 = .ok (.aload_n 0, 1) := by decide +kernel
theorem dX12_readItems_127 : decode cX12_readItems 127 = .ok (.getfield 123, 3) := by decide +kernel
theorem dX12_readItems_130 : decode cX12_readItems 130 = .ok (.iconst (-1), 1) := by decide +kernel
theorem dX12_readItems_131 : decode cX12_readItems 131 = .ok (.if_icmp .ne (-86), 3) := by decide +kernel
theorem dX12_readItems_134 : decode cX12_readItems 134 = .ok (.aload 4, 2) := by decide +kernel
theorem dX12_readItems_136 : decode cX12_readItems 136 = .ok (.aload_n 0, 1) := by decide +kernel
theorem dX12_readItems_137 : decode cX12_readItems 137 = .ok (.invokevirtual 133, 3) := by decide +kernel
theorem dX12_readItems_140 : decode cX12_readItems 140 = .ok (.invokestatic 220, 3) := by decide +kernel
theorem dX12_readItems_143 : decode cX12_readItems 143 = .ok (.istore 6, 2) := by decide +kernel
theorem dX12_readItems_145 : decode cX12_readItems 145 = .ok (.goto (-100), 3) := by decide +kernel
theorem dX12_readItems_148 : decode cX12_readItems 148 = .ok (.return_, 1) := by decide +kernel
theorem dX12_isBehindColon_0 : decode cX12_isBehindColon 0 = .ok (.aload_n 0, 1) := by decide +kernel
theorem dX12_isBehindColon_1 : decode cX12_isBehindColon 1 = .ok (.getfield 123, 3) := by decide +kernel
theorem dX12_isBehindColon_4 : decode cX12_isBehindColon 4 = .ok (.iconst (-1), 1) := by decide +kernel
theorem dX12_isBehindColon_5 : decode cX12_isBehindColon 5 = .ok (.if_icmp .eq 5, 3) := by decide +kernel
theorem dX12_isBehindColon_8 : decode cX12_isBehindColon 8 = .ok (.iconst 0, 1) := by decide +kernel
theorem dX12_isBehindColon_9 : decode cX12_isBehindColon 9 = .ok (.ireturn, 1) := by decide +kernel
theorem dX12_isBehindColon_10 : decode cX12_isBehindColon 10 = .ok (.aload_n 0, 1) := by decide +kernel
theorem dX12_isBehindColon_11 : decode cX12_isBehindColon 11 = .ok (.invokevirtual 133, 3) := by decide +kernel
theorem dX12_isBehindColon_14 : decode cX12_isBehindColon 14 = .ok (.bipush 58, 2) := by decide +kernel
theorem dX12_isBehindColon_16 : decode cX12_isBehindColon 16 = .ok (.if_icmp .eq 10, 3) := by decide +kernel
theorem dX12_isBehindColon_19 : decode cX12_isBehindColon 19 = .ok (.aload_n 0, 1) := by decide +kernel
theorem dX12_isBehindColon_20 : decode cX12_isBehindColon 20 = .ok (.invokevirtual 129, 3) := by decide +kernel
theorem dX12_isBehindColon_23 : decode cX12_isBehindColon 23 = .ok (.pop, 1) := by decide +kernel
theorem dX12_isBehindColon_24 : decode cX12_isBehindColon 24 = .ok (.iconst 0, 1) := by decide +kernel
theorem dX12_isBehindColon_25 : decode cX12_isBehindColon 25 = .ok (.ireturn, 1) := by decide +kernel
theorem dX12_isBehindColon_26 : decode cX12_isBehindColon 26 = .ok (.aload_n 0, 1) := by decide +kernel
theorem dX12_isBehindColon_27 : decode cX12_isBehindColon 27 = .ok (.dup, 1) := by decide +kernel
theorem dX12_isBehindColon_28 : decode cX12_isBehindColon 28 = .ok (.getfield 114, 3) := by decide +kernel
theorem dX12_isBehindColon_31 : decode cX12_isBehindColon 31 = .ok (.iconst 1, 1) := by decide +kernel
theorem dX12_isBehindColon_32 : decode cX12_isBehindColon 32 = .ok (.iadd, 1) := by decide +kernel
theorem dX12_isBehindColon_33 : decode cX12_isBehindColon 33 = .ok (.putfield 114, 3) := by decide +kernel
theorem dX12_isBehindColon_36 : decode cX12_isBehindColon 36 = .ok (.iconst 1, 1) := by decide +kernel
theorem dX12_isBehindColon_37 : decode cX12_isBehindColon 37 = .ok (.ireturn, 1) := by decide +kernel
theorem dX12_readMarks_0 : decode cX12_readMarks 0 = .ok (.iconst 0, 1) := by decide +kernel
theorem dX12_readMarks_1 : decode cX12_readMarks 1 = .ok (.istore_n 1, 1) := by decide +kernel
theorem dX12_readMarks_2 : decode cX12_readMarks 2 = .ok (.ldc 234, 2) := by decide +kernel
theorem dX12_readMarks_4 : decode cX12_readMarks 4 = .ok (.aload_n 0, 1) := by decide +kernel
theorem dX12_readMarks_5 : decode cX12_readMarks 5 = .ok (.invokevirtual 133, 3) := by decide +kernel
theorem dX12_readMarks_8 : decode cX12_readMarks 8 = .ok (.invokestatic 220, 3) := by decide +kernel
theorem dX12_readMarks_11 : decode cX12_readMarks 11 = .ok (.istore_n 2, 1) := by decide +kernel
theorem dX12_readMarks_12 : decode cX12_readMarks 12 = .ok (.iload_n 2, 1) := by decide +kernel
theorem dX12_readMarks_13 : decode cX12_readMarks 13 = .ok (.iconst (-1), 1) := by decide +kernel
theorem dX12_readMarks_14 : decode cX12_readMarks 14 = .ok (.if_icmp .eq 47, 3) := by decide +kernel
theorem dX12_readMarks_17 : decode cX12_readMarks 17 = .ok (.iload_n 1, 1) := by decide +kernel
theorem dX12_readMarks_18 : decode cX12_readMarks 18 = .ok (.iload_n 2, 1) := by decide +kernel
theorem dX12_readMarks_19 : decode cX12_readMarks 19 = .ok (.invokestatic 224, 3) := by decide +kernel
theorem dX12_readMarks_22 : decode cX12_readMarks 22 = .ok (.ifCond .eq 10, 3) := by decide +kernel
theorem dX12_readMarks_25 : decode cX12_readMarks 25 = .ok (.aload_n 0, 1) := by decide +kernel
theorem dX12_readMarks_26 : decode cX12_readMarks 26 = .ok (.invokevirtual 129, 3) := by decide +kernel
theorem dX12_readMarks_29 : decode cX12_readMarks 29 = .ok (.pop, 1) := by decide +kernel
theorem dX12_readMarks_30 : decode cX12_readMarks 30 = .ok (.iload_n 1, 1) := by decide +kernel
theorem dX12_readMarks_31 : decode cX12_readMarks 31 = .ok (.ireturn, 1) := by decide +kernel
theorem dX12_readMarks_32 : decode cX12_readMarks 32 = .ok (.iload_n 1, 1) := by decide +kernel
theorem dX12_readMarks_33 : decode cX12_readMarks 33 = .ok (.iconst 1, 1) := by decide +kernel
theorem dX12_readMarks_34 : decode cX12_readMarks 34 = .ok (.iload_n 2, 1) := by decide +kernel
theorem dX12_readMarks_35 : decode cX12_readMarks 35 = .ok (.ishl, 1) := by decide +kernel
theorem dX12_readMarks_36 : decode cX12_readMarks 36 = .ok (.ior, 1) := by decide +kernel
theorem dX12_readMarks_37 : decode cX12_readMarks 37 = .ok (.istore_n 1, 1) := by decide +kernel
theorem dX12_readMarks_38 : decode cX12_readMarks 38 = .ok (.aload_n 0, 1) := by decide +kernel
theorem dX12_readMarks_39 : decode cX12_readMarks 39 = .ok (.dup, 1) := by decide +kernel
theorem dX12_readMarks_40 : decode cX12_readMarks 40 = .ok (.getfield 114, 3) := by decide +kernel
theorem dX12_readMarks_43 : decode cX12_readMarks 43 = .ok (.iconst 1, 1) := by decide +kernel
theorem dX12_readMarks_44 : decode cX12_readMarks 44 = .ok (.iadd, 1) := by decide +kernel
theorem dX12_readMarks_45 : decode cX12_readMarks 45 = .ok (.putfield 114, 3) := by decide +kernel
theorem dX12_readMarks_48 : decode cX12_readMarks 48 = .ok (.ldc 234, 2) := by decide +kernel
theorem dX12_readMarks_50 : decode cX12_readMarks 50 = .ok (.aload_n 0, 1) := by decide +kernel
theorem dX12_readMarks_51 : decode cX12_readMarks 51 = .ok (.invokevirtual 133, 3) := by decide +kernel
theorem dX12_readMarks_54 : decode cX12_readMarks 54 = .ok (.invokestatic 220, 3) := by decide +kernel
theorem dX12_readMarks_57 : decode cX12_readMarks 57 = .ok (.istore_n 2, 1) := by decide +kernel
theorem dX12_readMarks_58 : decode cX12_readMarks 58 = .ok (.goto (-46), 3) := by decide +kernel
theorem dX12_readMarks_61 : decode cX12_readMarks 61 = .ok (.iload_n 1, 1) := by decide +kernel
theorem dX12_readMarks_62 : decode cX12_readMarks 62 = .ok (.ireturn, 1) := by decide +kernel
theorem dX12_begins_0 : decode cX12_begins 0 = .ok (.ldc 236, 2) := by decide +kernel
theorem dX12_begins_2 : decode cX12_begins 2 = .ok (.iload_n 0, 1) := by decide +kernel
theorem dX12_begins_3 : decode cX12_begins 3 = .ok (.invokestatic 220, 3) := by decide +kernel
theorem dX12_begins_6 : decode cX12_begins 6 = .ok (.iconst (-1), 1) := by decide +kernel
theorem dX12_begins_7 : decode cX12_begins 7 = .ok (.if_icmp .eq 7, 3) := by decide +kernel
theorem dX12_begins_10 : decode cX12_begins 10 = .ok (.iconst 1, 1) := by decide +kernel
theorem dX12_begins_11 : decode cX12_begins 11 = .ok (.goto 4, 3) := by decide +kernel
theorem dX12_begins_14 : decode cX12_begins 14 = .ok (.iconst 0, 1) := by decide +kernel
theorem dX12_begins_15 : decode cX12_begins 15 = .ok (.ireturn, 1) := by decide +kernel
theorem dX12_readWords_0 : decode cX12_readWords 0 = .ok (.iconst 0, 1) := by decide +kernel
theorem dX12_readWords_1 : decode cX12_readWords 1 = .ok (.istore_n 3, 1) := by decide +kernel
theorem dX12_readWords_2 : decode cX12_readWords 2 = .ok (.iload_n 3, 1) := by decide +kernel
theorem dX12_readWords_3 : decode cX12_readWords 3 = .ok (.ifCond .eq 13, 3) := by decide +kernel
theorem dX12_readWords_6 : decode cX12_readWords 6 = .ok (.aload_n 0, 1) := by decide +kernel
theorem dX12_readWords_7 : decode cX12_readWords 7 = .ok (.invokevirtual 133, 3) := by decide +kernel
theorem dX12_readWords_10 : decode cX12_readWords 10 = .ok (.invokestatic 238, 3) := by decide +kernel
theorem dX12_readWords_13 : decode cX12_readWords 13 = .ok (.ifCond .eq 52, 3) := by decide +kernel
theorem dX12_readWords_16 : decode cX12_readWords 16 = .ok (.iload_n 3, 1) := by decide +kernel
theorem dX12_readWords_17 : decode cX12_readWords 17 = .ok (.bipush 6, 2) := by decide +kernel
theorem dX12_readWords_19 : decode cX12_readWords 19 = .ok (.if_icmp .eq 13, 3) := by decide +kernel
theorem dX12_readWords_22 : decode cX12_readWords 22 = .ok (.aload_n 0, 1) := by decide +kernel
theorem dX12_readWords_23 : decode cX12_readWords 23 = .ok (.invokevirtual 133, 3) := by decide +kernel
theorem dX12_readWords_26 : decode cX12_readWords 26 = .ok (.invokestatic 238, 3) := by decide +kernel
theorem dX12_readWords_29 : decode cX12_readWords 29 = .ok (.ifCond .ne 9, 3) := by decide +kernel
theorem dX12_readWords_32 : decode cX12_readWords 32 = .ok (.aload_n 0, 1) := by decide +kernel
theorem dX12_readWords_33 : decode cX12_readWords 33 = .ok (.invokevirtual 129, 3) := by decide +kernel
theorem dX12_readWords_36 : decode cX12_readWords 36 = .ok (.pop, 1) := by decide +kernel
theorem dX12_readWords_37 : decode cX12_readWords 37 = .ok (.return_, 1) := by decide +kernel
theorem dX12_readWords_38 : decode cX12_readWords 38 = .ok (.aload_n 0, 1) := by decide +kernel
theorem dX12_readWords_39 : decode cX12_readWords 39 = .ok (.aload_n 1, 1) := by decide +kernel
theorem dX12_readWords_40 : decode cX12_readWords 40 = .ok (.iload_n 2, 1) := by decide +kernel
theorem dX12_readWords_41 : decode cX12_readWords 41 = .ok (.iconst 1, 1) := by decide +kernel
theorem dX12_readWords_42 : decode cX12_readWords 42 = .ok (.iadd, 1) := by decide +kernel
theorem dX12_readWords_43 : decode cX12_readWords 43 = .ok (.iconst 2, 1) := by decide +kernel
theorem dX12_readWords_44 : decode cX12_readWords 44 = .ok (.iload_n 3, 1) := by decide +kernel
theorem dX12_readWords_45 : decode cX12_readWords 45 = .ok (.imul, 1) := by decide +kernel
theorem dX12_readWords_46 : decode cX12_readWords 46 = .ok (.iadd, 1) := by decide +kernel
theorem dX12_readWords_47 : decode cX12_readWords 47 = .ok (.invokevirtual 240, 3) := by decide +kernel
theorem dX12_readWords_50 : decode cX12_readWords 50 = .ok (.aload_n 0, 1) := by decide +kernel
theorem dX12_readWords_51 : decode cX12_readWords 51 = .ok (.getfield 123, 3) := by decide +kernel
theorem dX12_readWords_54 : decode cX12_readWords 54 = .ok (.iconst (-1), 1) := by decide +kernel
theorem dX12_readWords_55 : decode cX12_readWords 55 = .ok (.if_icmp .eq 4, 3) := by decide +kernel
theorem dX12_readWords_58 : decode cX12_readWords 58 = .ok (.return_, 1) := by decide +kernel
theorem dX12_readWords_59 : decode cX12_readWords 59 = .ok (.iinc 3 1, 3) := by decide +kernel
theorem dX12_readWords_62 : decode cX12_readWords 62 = .ok (.goto (-60), 3) := by decide +kernel
theorem dX12_readWords_65 : decode cX12_readWords 65 = .ok (.aload_n 1, 1) := by decide +kernel
theorem dX12_readWords_66 : decode cX12_readWords 66 = .ok (.iload_n 2, 1) := by decide +kernel
theorem dX12_readWords_67 : decode cX12_readWords 67 = .ok (.iload_n 3, 1) := by decide +kernel
theorem dX12_readWords_68 : decode cX12_readWords 68 = .ok (.iastore, 1) := by decide +kernel
theorem dX12_readWords_69 : decode cX12_readWords 69 = .ok (.return_, 1) := by decide +kernel
theorem dX12_readWord_0 : decode cX12_readWord 0 = .ok (.aload_n 0, 1) := by decide +kernel
theorem dX12_readWord_1 : decode cX12_readWord 1 = .ok (.invokevirtual 133, 3) := by decide +kernel
theorem dX12_readWord_4 : decode cX12_readWord 4 = .ok (.istore_n 3, 1) := by decide +kernel
theorem dX12_readWord_5 : decode cX12_readWord 5 = .ok (.iload_n 3, 1) := by decide +kernel
theorem dX12_readWord_6 : decode cX12_readWord 6 = .ok (.bipush 45, 2) := by decide +kernel
theorem dX12_readWord_8 : decode cX12_readWord 8 = .ok (.if_icmp .ne 7, 3) := by decide +kernel
theorem dX12_readWord_11 : decode cX12_readWord 11 = .ok (.iconst 1, 1) := by decide +kernel
theorem dX12_readWord_12 : decode cX12_readWord 12 = .ok (.goto 14, 3) := by decide +kernel
theorem dX12_readWord_15 : decode cX12_readWord 15 = .ok (.iload_n 3, 1) := by decide +kernel
theorem dX12_readWord_16 : decode cX12_readWord 16 = .ok (.bipush 62, 2) := by decide +kernel
theorem dX12_readWord_18 : decode cX12_readWord 18 = .ok (.if_icmp .ne 7, 3) := by decide +kernel
theorem dX12_readWord_21 : decode cX12_readWord 21 = .ok (.iconst 2, 1) := by decide +kernel
theorem dX12_readWord_22 : decode cX12_readWord 22 = .ok (.goto 4, 3) := by decide +kernel
theorem dX12_readWord_25 : decode cX12_readWord 25 = .ok (.iconst 0, 1) := by decide +kernel
theorem dX12_readWord_26 : decode cX12_readWord 26 = .ok (.istore 4, 2) := by decide +kernel
theorem dX12_readWord_28 : decode cX12_readWord 28 = .ok (.iload 4, 2) := by decide +kernel
theorem dX12_readWord_30 : decode cX12_readWord 30 = .ok (.ifCond .le 13, 3) := by decide +kernel
theorem dX12_readWord_33 : decode cX12_readWord 33 = .ok (.aload_n 0, 1) := by decide +kernel
theorem dX12_readWord_34 : decode cX12_readWord 34 = .ok (.dup, 1) := by decide +kernel
theorem dX12_readWord_35 : decode cX12_readWord 35 = .ok (.getfield 114, 3) := by decide +kernel
theorem dX12_readWord_38 : decode cX12_readWord 38 = .ok (.iconst 1, 1) := by decide +kernel
theorem dX12_readWord_39 : decode cX12_readWord 39 = .ok (.iadd, 1) := by decide +kernel
theorem dX12_readWord_40 : decode cX12_readWord 40 = .ok (.putfield 114, 3) := by decide +kernel
theorem dX12_readWord_43 : decode cX12_readWord 43 = .ok (.aload_n 0, 1) := by decide +kernel
theorem dX12_readWord_44 : decode cX12_readWord 44 = .ok (.invokevirtual 133, 3) := by decide +kernel
theorem dX12_readWord_47 : decode cX12_readWord 47 = .ok (.istore_n 3, 1) := by decide +kernel
theorem dX12_readWord_48 : decode cX12_readWord 48 = .ok (.iload 4, 2) := by decide +kernel
theorem dX12_readWord_50 : decode cX12_readWord 50 = .ok (.iconst 2, 1) := by decide +kernel
theorem dX12_readWord_51 : decode cX12_readWord 51 = .ok (.if_icmp .ne 21, 3) := by decide +kernel
theorem dX12_readWord_54 : decode cX12_readWord 54 = .ok (.aload_n 0, 1) := by decide +kernel
theorem dX12_readWord_55 : decode cX12_readWord 55 = .ok (.invokevirtual 163, 3) := by decide +kernel
theorem dX12_readWord_58 : decode cX12_readWord 58 = .ok (.ifCond .eq 10, 3) := by decide +kernel
theorem dX12_readWord_61 : decode cX12_readWord 61 = .ok (.iload_n 3, 1) := by decide +kernel
theorem dX12_readWord_62 : decode cX12_readWord 62 = .ok (.bipush 48, 2) := by decide +kernel
theorem dX12_readWord_64 : decode cX12_readWord 64 = .ok (.isub, 1) := by decide +kernel
theorem dX12_readWord_65 : decode cX12_readWord 65 = .ok (.goto 13, 3) := by decide +kernel
theorem dX12_readWord_68 : decode cX12_readWord 68 = .ok (.iconst (-1), 1) := by decide +kernel
theorem dX12_readWord_69 : decode cX12_readWord 69 = .ok (.goto 9, 3) := by decide +kernel
theorem dX12_readWord_72 : decode cX12_readWord 72 = .ok (.ldc 234, 2) := by decide +kernel
theorem dX12_readWord_74 : decode cX12_readWord 74 = .ok (.iload_n 3, 1) := by decide +kernel
theorem dX12_readWord_75 : decode cX12_readWord 75 = .ok (.invokestatic 220, 3) := by decide +kernel
theorem dX12_readWord_78 : decode cX12_readWord 78 = .ok (.istore 5, 2) := by decide +kernel
theorem dX12_readWord_80 : decode cX12_readWord 80 = .ok (.iload 5, 2) := by decide +kernel
theorem dX12_readWord_82 : decode cX12_readWord 82 = .ok (.iconst (-1), 1) := by decide +kernel
theorem dX12_readWord_83 : decode cX12_readWord 83 = .ok (.if_icmp .ne 9, 3) := by decide +kernel
theorem dX12_readWord_86 : decode cX12_readWord 86 = .ok (.aload_n 0, 1) := by decide +kernel
theorem dX12_readWord_87 : decode cX12_readWord 87 = .ok (.invokevirtual 129, 3) := by decide +kernel
theorem dX12_readWord_90 : decode cX12_readWord 90 = .ok (.pop, 1) := by decide +kernel
theorem dX12_readWord_91 : decode cX12_readWord 91 = .ok (.return_, 1) := by decide +kernel
theorem dX12_readWord_92 : decode cX12_readWord 92 = .ok (.aload_n 0, 1) := by decide +kernel
theorem dX12_readWord_93 : decode cX12_readWord 93 = .ok (.dup, 1) := by decide +kernel
theorem dX12_readWord_94 : decode cX12_readWord 94 = .ok (.getfield 114, 3) := by decide +kernel
theorem dX12_readWord_97 : decode cX12_readWord 97 = .ok (.iconst 1, 1) := by decide +kernel
theorem dX12_readWord_98 : decode cX12_readWord 98 = .ok (.iadd, 1) := by decide +kernel
theorem dX12_readWord_99 : decode cX12_readWord 99 = .ok (.putfield 114, 3) := by decide +kernel
theorem dX12_readWord_102 : decode cX12_readWord 102 = .ok (.aload_n 1, 1) := by decide +kernel
theorem dX12_readWord_103 : decode cX12_readWord 103 = .ok (.iload_n 2, 1) := by decide +kernel
theorem dX12_readWord_104 : decode cX12_readWord 104 = .ok (.iload 4, 2) := by decide +kernel
theorem dX12_readWord_106 : decode cX12_readWord 106 = .ok (.iastore, 1) := by decide +kernel
theorem dX12_readWord_107 : decode cX12_readWord 107 = .ok (.aload_n 1, 1) := by decide +kernel
theorem dX12_readWord_108 : decode cX12_readWord 108 = .ok (.iload_n 2, 1) := by decide +kernel
theorem dX12_readWord_109 : decode cX12_readWord 109 = .ok (.iconst 1, 1) := by decide +kernel
theorem dX12_readWord_110 : decode cX12_readWord 110 = .ok (.iadd, 1) := by decide +kernel
theorem dX12_readWord_111 : decode cX12_readWord 111 = .ok (.iload 5, 2) := by decide +kernel
theorem dX12_readWord_113 : decode cX12_readWord 113 = .ok (.iastore, 1) := by decide +kernel
theorem dX12_readWord_114 : decode cX12_readWord 114 = .ok (.return_, 1) := by decide +kernel
theorem dX12_readClause_0 : decode cX12_readClause 0 = .ok (.aload_n 0, 1) := by decide +kernel
theorem dX12_readClause_1 : decode cX12_readClause 1 = .ok (.invokevirtual 133, 3) := by decide +kernel
theorem dX12_readClause_4 : decode cX12_readClause 4 = .ok (.istore_n 1, 1) := by decide +kernel
theorem dX12_readClause_5 : decode cX12_readClause 5 = .ok (.iload_n 1, 1) := by decide +kernel
theorem dX12_readClause_6 : decode cX12_readClause 6 = .ok (.bipush 115, 2) := by decide +kernel
theorem dX12_readClause_8 : decode cX12_readClause 8 = .ok (.if_icmp .ne 10, 3) := by decide +kernel
theorem dX12_readClause_11 : decode cX12_readClause 11 = .ok (.aload_n 0, 1) := by decide +kernel
theorem dX12_readClause_12 : decode cX12_readClause 12 = .ok (.getfield 244, 3) := by decide +kernel
theorem dX12_readClause_15 : decode cX12_readClause 15 = .ok (.ifCond .eq 33, 3) := by decide +kernel
theorem dX12_readClause_18 : decode cX12_readClause 18 = .ok (.iload_n 1, 1) := by decide +kernel
theorem dX12_readClause_19 : decode cX12_readClause 19 = .ok (.bipush 116, 2) := by decide +kernel
theorem dX12_readClause_21 : decode cX12_readClause 21 = .ok (.if_icmp .ne 12, 3) := by decide +kernel
theorem dX12_readClause_24 : decode cX12_readClause 24 = .ok (.aload_n 0, 1) := by decide +kernel
theorem dX12_readClause_25 : decode cX12_readClause 25 = .ok (.getfield 247, 3) := by decide +kernel
theorem dX12_readClause_28 : decode cX12_readClause 28 = .ok (.bipush 8, 2) := by decide +kernel
theorem dX12_readClause_30 : decode cX12_readClause 30 = .ok (.if_icmp .lt 18, 3) := by decide +kernel
theorem dX12_readClause_33 : decode cX12_readClause 33 = .ok (.iload_n 1, 1) := by decide +kernel
theorem dX12_readClause_34 : decode cX12_readClause 34 = .ok (.bipush 99, 2) := by decide +kernel
theorem dX12_readClause_36 : decode cX12_readClause 36 = .ok (.if_icmp .ne 16, 3) := by decide +kernel
theorem dX12_readClause_39 : decode cX12_readClause 39 = .ok (.aload_n 0, 1) := by decide +kernel
theorem dX12_readClause_40 : decode cX12_readClause 40 = .ok (.getfield 250, 3) := by decide +kernel
theorem dX12_readClause_43 : decode cX12_readClause 43 = .ok (.bipush 6, 2) := by decide +kernel
theorem dX12_readClause_45 : decode cX12_readClause 45 = .ok (.if_icmp .ge 7, 3) := by decide +kernel
theorem dX12_readClause_48 : decode cX12_readClause 48 = .ok (.iconst 1, 1) := by decide +kernel
theorem dX12_readClause_49 : decode cX12_readClause 49 = .ok (.goto 4, 3) := by decide +kernel
theorem dX12_readClause_52 : decode cX12_readClause 52 = .ok (.iconst 0, 1) := by decide +kernel
theorem dX12_readClause_53 : decode cX12_readClause 53 = .ok (.istore_n 2, 1) := by decide +kernel
theorem dX12_readClause_54 : decode cX12_readClause 54 = .ok (.iload_n 2, 1) := by decide +kernel
theorem dX12_readClause_55 : decode cX12_readClause 55 = .ok (.ifCond .ne 9, 3) := by decide +kernel
theorem dX12_readClause_58 : decode cX12_readClause 58 = .ok (.aload_n 0, 1) := by decide +kernel
theorem dX12_readClause_59 : decode cX12_readClause 59 = .ok (.invokevirtual 129, 3) := by decide +kernel
theorem dX12_readClause_62 : decode cX12_readClause 62 = .ok (.pop, 1) := by decide +kernel
theorem dX12_readClause_63 : decode cX12_readClause 63 = .ok (.return_, 1) := by decide +kernel
theorem dX12_readClause_64 : decode cX12_readClause 64 = .ok (.aload_n 0, 1) := by decide +kernel
theorem dX12_readClause_65 : decode cX12_readClause 65 = .ok (.dup, 1) := by decide +kernel
theorem dX12_readClause_66 : decode cX12_readClause 66 = .ok (.getfield 114, 3) := by decide +kernel
theorem dX12_readClause_69 : decode cX12_readClause 69 = .ok (.iconst 1, 1) := by decide +kernel
theorem dX12_readClause_70 : decode cX12_readClause 70 = .ok (.iadd, 1) := by decide +kernel
theorem dX12_readClause_71 : decode cX12_readClause 71 = .ok (.putfield 114, 3) := by decide +kernel
theorem dX12_readClause_74 : decode cX12_readClause 74 = .ok (.iload_n 1, 1) := by decide +kernel
theorem dX12_readClause_75 : decode cX12_readClause 75 = .ok (.bipush 115, 2) := by decide +kernel
theorem dX12_readClause_77 : decode cX12_readClause 77 = .ok (.if_icmp .ne 23, 3) := by decide +kernel
theorem dX12_readClause_80 : decode cX12_readClause 80 = .ok (.aload_n 0, 1) := by decide +kernel
theorem dX12_readClause_81 : decode cX12_readClause 81 = .ok (.iconst 1, 1) := by decide +kernel
theorem dX12_readClause_82 : decode cX12_readClause 82 = .ok (.putfield 244, 3) := by decide +kernel
theorem dX12_readClause_85 : decode cX12_readClause 85 = .ok (.aload_n 0, 1) := by decide +kernel
theorem dX12_readClause_86 : decode cX12_readClause 86 = .ok (.iload_n 1, 1) := by decide +kernel
theorem dX12_readClause_87 : decode cX12_readClause 87 = .ok (.aload_n 0, 1) := by decide +kernel
theorem dX12_readClause_88 : decode cX12_readClause 88 = .ok (.getfield 40, 3) := by decide +kernel
theorem dX12_readClause_91 : decode cX12_readClause 91 = .ok (.iconst 0, 1) := by decide +kernel
theorem dX12_readClause_92 : decode cX12_readClause 92 = .ok (.ldc 253, 2) := by decide +kernel
theorem dX12_readClause_94 : decode cX12_readClause 94 = .ok (.invokevirtual 255, 3) := by decide +kernel
theorem dX12_readClause_97 : decode cX12_readClause 97 = .ok (.goto 123, 3) := by decide +kernel
theorem dX12_readClause_100 : decode cX12_readClause 100 = .ok (.iload_n 1, 1) := by decide +kernel
theorem dX12_readClause_101 : decode cX12_readClause 101 = .ok (.bipush 116, 2) := by decide +kernel
theorem dX12_readClause_103 : decode cX12_readClause 103 = .ok (.if_icmp .ne 60, 3) := by decide +kernel
theorem dX12_readClause_106 : decode cX12_readClause 106 = .ok (.aload_n 0, 1) := by decide +kernel
theorem dX12_readClause_107 : decode cX12_readClause 107 = .ok (.dup, 1) := by decide +kernel
theorem dX12_readClause_108 : decode cX12_readClause 108 = .ok (.getfield 247, 3) := by decide +kernel
theorem dX12_readClause_111 : decode cX12_readClause 111 = .ok (.iconst 1, 1) := by decide +kernel
theorem dX12_readClause_112 : decode cX12_readClause 112 = .ok (.iadd, 1) := by decide +kernel
theorem dX12_readClause_113 : decode cX12_readClause 113 = .ok (.putfield 247, 3) := by decide +kernel
theorem dX12_readClause_116 : decode cX12_readClause 116 = .ok (.aload_n 0, 1) := by decide +kernel
theorem dX12_readClause_117 : decode cX12_readClause 117 = .ok (.iload_n 1, 1) := by decide +kernel
theorem dX12_readClause_118 : decode cX12_readClause 118 = .ok (.aload_n 0, 1) := by decide +kernel
theorem dX12_readClause_119 : decode cX12_readClause 119 = .ok (.getfield 46, 3) := by decide +kernel
theorem dX12_readClause_122 : decode cX12_readClause 122 = .ok (.iconst 2, 1) := by decide +kernel
theorem dX12_readClause_123 : decode cX12_readClause 123 = .ok (.aload_n 0, 1) := by decide +kernel
theorem dX12_readClause_124 : decode cX12_readClause 124 = .ok (.getfield 247, 3) := by decide +kernel
theorem dX12_readClause_127 : decode cX12_readClause 127 = .ok (.iconst 1, 1) := by decide +kernel
theorem dX12_readClause_128 : decode cX12_readClause 128 = .ok (.isub, 1) := by decide +kernel
theorem dX12_readClause_129 : decode cX12_readClause 129 = .ok (.imul, 1) := by decide +kernel
theorem dX12_readClause_130 : decode cX12_readClause 130 = .ok (.ldc_w 259, 3) := by decide +kernel
theorem dX12_readClause_133 : decode cX12_readClause 133 = .ok (.invokevirtual 255, 3) := by decide +kernel
theorem dX12_readClause_136 : decode cX12_readClause 136 = .ok (.aload_n 0, 1) := by decide +kernel
theorem dX12_readClause_137 : decode cX12_readClause 137 = .ok (.invokevirtual 261, 3) := by decide +kernel
theorem dX12_readClause_140 : decode cX12_readClause 140 = .ok (.ifCond .eq 80, 3) := by decide +kernel
theorem dX12_readClause_143 : decode cX12_readClause 143 = .ok (.aload_n 0, 1) := by decide +kernel
theorem dX12_readClause_144 : decode cX12_readClause 144 = .ok (.getfield 46, 3) := by decide +kernel
theorem dX12_readClause_147 : decode cX12_readClause 147 = .ok (.iconst 2, 1) := by decide +kernel
theorem dX12_readClause_148 : decode cX12_readClause 148 = .ok (.aload_n 0, 1) := by decide +kernel
theorem dX12_readClause_149 : decode cX12_readClause 149 = .ok (.getfield 247, 3) := by decide +kernel
theorem dX12_readClause_152 : decode cX12_readClause 152 = .ok (.imul, 1) := by decide +kernel
theorem dX12_readClause_153 : decode cX12_readClause 153 = .ok (.iconst 1, 1) := by decide +kernel
theorem dX12_readClause_154 : decode cX12_readClause 154 = .ok (.isub, 1) := by decide +kernel
theorem dX12_readClause_155 : decode cX12_readClause 155 = .ok (.aload_n 0, 1) := by decide +kernel
theorem dX12_readClause_156 : decode cX12_readClause 156 = .ok (.invokevirtual 264, 3) := by decide +kernel
theorem dX12_readClause_159 : decode cX12_readClause 159 = .ok (.iastore, 1) := by decide +kernel
theorem dX12_readClause_160 : decode cX12_readClause 160 = .ok (.goto 60, 3) := by decide +kernel
theorem dX12_readClause_163 : decode cX12_readClause 163 = .ok (.aload_n 0, 1) := by decide +kernel
theorem dX12_readClause_164 : decode cX12_readClause 164 = .ok (.dup, 1) := by decide +kernel
theorem dX12_readClause_165 : decode cX12_readClause 165 = .ok (.getfield 250, 3) := by decide +kernel
theorem dX12_readClause_168 : decode cX12_readClause 168 = .ok (.iconst 1, 1) := by decide +kernel
theorem dX12_readClause_169 : decode cX12_readClause 169 = .ok (.iadd, 1) := by decide +kernel
theorem dX12_readClause_170 : decode cX12_readClause 170 = .ok (.putfield 250, 3) := by decide +kernel
theorem dX12_readClause_173 : decode cX12_readClause 173 = .ok (.aload_n 0, 1) := by decide +kernel
theorem dX12_readClause_174 : decode cX12_readClause 174 = .ok (.iload_n 1, 1) := by decide +kernel
theorem dX12_readClause_175 : decode cX12_readClause 175 = .ok (.aload_n 0, 1) := by decide +kernel
theorem dX12_readClause_176 : decode cX12_readClause 176 = .ok (.getfield 55, 3) := by decide +kernel
theorem dX12_readClause_179 : decode cX12_readClause 179 = .ok (.bipush 16, 2) := by decide +kernel
theorem dX12_readClause_181 : decode cX12_readClause 181 = .ok (.aload_n 0, 1) := by decide +kernel
theorem dX12_readClause_182 : decode cX12_readClause 182 = .ok (.getfield 250, 3) := by decide +kernel
theorem dX12_readClause_185 : decode cX12_readClause 185 = .ok (.iconst 1, 1) := by decide +kernel
theorem dX12_readClause_186 : decode cX12_readClause 186 = .ok (.isub, 1) := by decide +kernel
theorem dX12_readClause_187 : decode cX12_readClause 187 = .ok (.imul, 1) := by decide +kernel
theorem dX12_readClause_188 : decode cX12_readClause 188 = .ok (.ldc_w 267, 3) := by decide +kernel
theorem dX12_readClause_191 : decode cX12_readClause 191 = .ok (.invokevirtual 255, 3) := by decide +kernel
theorem dX12_readClause_194 : decode cX12_readClause 194 = .ok (.aload_n 0, 1) := by decide +kernel
theorem dX12_readClause_195 : decode cX12_readClause 195 = .ok (.invokevirtual 261, 3) := by decide +kernel
theorem dX12_readClause_198 : decode cX12_readClause 198 = .ok (.ifCond .eq 22, 3) := by decide +kernel
theorem dX12_readClause_201 : decode cX12_readClause 201 = .ok (.aload_n 0, 1) := by decide +kernel
theorem dX12_readClause_202 : decode cX12_readClause 202 = .ok (.aload_n 0, 1) := by decide +kernel
theorem dX12_readClause_203 : decode cX12_readClause 203 = .ok (.getfield 55, 3) := by decide +kernel
theorem dX12_readClause_206 : decode cX12_readClause 206 = .ok (.bipush 16, 2) := by decide +kernel
theorem dX12_readClause_208 : decode cX12_readClause 208 = .ok (.aload_n 0, 1) := by decide +kernel
theorem dX12_readClause_209 : decode cX12_readClause 209 = .ok (.getfield 250, 3) := by decide +kernel
theorem dX12_readClause_212 : decode cX12_readClause 212 = .ok (.iconst 1, 1) := by decide +kernel
theorem dX12_readClause_213 : decode cX12_readClause 213 = .ok (.isub, 1) := by decide +kernel
theorem dX12_readClause_214 : decode cX12_readClause 214 = .ok (.imul, 1) := by decide +kernel
theorem dX12_readClause_215 : decode cX12_readClause 215 = .ok (.iconst 3, 1) := by decide +kernel
theorem dX12_readClause_216 : decode cX12_readClause 216 = .ok (.iadd, 1) := by decide +kernel
theorem dX12_readClause_217 : decode cX12_readClause 217 = .ok (.invokevirtual 269, 3) := by decide +kernel
theorem dX12_readClause_220 : decode cX12_readClause 220 = .ok (.return_, 1) := by decide +kernel
theorem dX12_isWhole_0 : decode cX12_isWhole 0 = .ok (.iconst 0, 1) := by decide +kernel
theorem dX12_isWhole_1 : decode cX12_isWhole 1 = .ok (.istore_n 1, 1) := by decide +kernel
theorem dX12_isWhole_2 : decode cX12_isWhole 2 = .ok (.iconst 0, 1) := by decide +kernel
theorem dX12_isWhole_3 : decode cX12_isWhole 3 = .ok (.istore_n 2, 1) := by decide +kernel
theorem dX12_isWhole_4 : decode cX12_isWhole 4 = .ok (.iload_n 2, 1) := by decide +kernel
theorem dX12_isWhole_5 : decode cX12_isWhole 5 = .ok (.aload_n 0, 1) := by decide +kernel
theorem dX12_isWhole_6 : decode cX12_isWhole 6 = .ok (.getfield 250, 3) := by decide +kernel
theorem dX12_isWhole_9 : decode cX12_isWhole 9 = .ok (.if_icmp .ge 54, 3) := by decide +kernel
theorem dX12_isWhole_12 : decode cX12_isWhole 12 = .ok (.aload_n 0, 1) := by decide +kernel
theorem dX12_isWhole_13 : decode cX12_isWhole 13 = .ok (.getfield 55, 3) := by decide +kernel
theorem dX12_isWhole_16 : decode cX12_isWhole 16 = .ok (.bipush 16, 2) := by decide +kernel
theorem dX12_isWhole_18 : decode cX12_isWhole 18 = .ok (.iload_n 2, 1) := by decide +kernel
theorem dX12_isWhole_19 : decode cX12_isWhole 19 = .ok (.imul, 1) := by decide +kernel
theorem dX12_isWhole_20 : decode cX12_isWhole 20 = .ok (.iconst 2, 1) := by decide +kernel
theorem dX12_isWhole_21 : decode cX12_isWhole 21 = .ok (.iadd, 1) := by decide +kernel
theorem dX12_isWhole_22 : decode cX12_isWhole 22 = .ok (.iaload, 1) := by decide +kernel
theorem dX12_isWhole_23 : decode cX12_isWhole 23 = .ok (.istore_n 3, 1) := by decide +kernel
theorem dX12_isWhole_24 : decode cX12_isWhole 24 = .ok (.iload_n 3, 1) := by decide +kernel
theorem dX12_isWhole_25 : decode cX12_isWhole 25 = .ok (.bipush 8, 2) := by decide +kernel
theorem dX12_isWhole_27 : decode cX12_isWhole 27 = .ok (.if_icmp .ne 6, 3) := by decide +kernel
theorem dX12_isWhole_30 : decode cX12_isWhole 30 = .ok (.goto 27, 3) := by decide +kernel
theorem dX12_isWhole_33 : decode cX12_isWhole 33 = .ok (.iload_n 3, 1) := by decide +kernel
theorem dX12_isWhole_34 : decode cX12_isWhole 34 = .ok (.aload_n 0, 1) := by decide +kernel
theorem dX12_isWhole_35 : decode cX12_isWhole 35 = .ok (.getfield 247, 3) := by decide +kernel
theorem dX12_isWhole_38 : decode cX12_isWhole 38 = .ok (.if_icmp .ge 11, 3) := by decide +kernel
theorem dX12_isWhole_41 : decode cX12_isWhole 41 = .ok (.iload_n 1, 1) := by decide +kernel
theorem dX12_isWhole_42 : decode cX12_isWhole 42 = .ok (.iload_n 3, 1) := by decide +kernel
theorem dX12_isWhole_43 : decode cX12_isWhole 43 = .ok (.invokestatic 224, 3) := by decide +kernel
theorem dX12_isWhole_46 : decode cX12_isWhole 46 = .ok (.ifCond .eq 5, 3) := by decide +kernel
theorem dX12_isWhole_49 : decode cX12_isWhole 49 = .ok (.iconst 0, 1) := by decide +kernel
theorem dX12_isWhole_50 : decode cX12_isWhole 50 = .ok (.ireturn, 1) := by decide +kernel
theorem dX12_isWhole_51 : decode cX12_isWhole 51 = .ok (.iload_n 1, 1) := by decide +kernel
theorem dX12_isWhole_52 : decode cX12_isWhole 52 = .ok (.iconst 1, 1) := by decide +kernel
theorem dX12_isWhole_53 : decode cX12_isWhole 53 = .ok (.iload_n 3, 1) := by decide +kernel
theorem dX12_isWhole_54 : decode cX12_isWhole 54 = .ok (.ishl, 1) := by decide +kernel
theorem dX12_isWhole_55 : decode cX12_isWhole 55 = .ok (.ior, 1) := by decide +kernel
theorem dX12_isWhole_56 : decode cX12_isWhole 56 = .ok (.istore_n 1, 1) := by decide +kernel
theorem dX12_isWhole_57 : decode cX12_isWhole 57 = .ok (.iinc 2 1, 3) := by decide +kernel
theorem dX12_isWhole_60 : decode cX12_isWhole 60 = .ok (.goto (-56), 3) := by decide +kernel
theorem dX12_isWhole_63 : decode cX12_isWhole 63 = .ok (.aload_n 0, 1) := by decide +kernel
theorem dX12_isWhole_64 : decode cX12_isWhole 64 = .ok (.getfield 247, 3) := by decide +kernel
theorem dX12_isWhole_67 : decode cX12_isWhole 67 = .ok (.ifCond .le 14, 3) := by decide +kernel
theorem dX12_isWhole_70 : decode cX12_isWhole 70 = .ok (.aload_n 0, 1) := by decide +kernel
theorem dX12_isWhole_71 : decode cX12_isWhole 71 = .ok (.getfield 250, 3) := by decide +kernel
theorem dX12_isWhole_74 : decode cX12_isWhole 74 = .ok (.ifCond .le 7, 3) := by decide +kernel
theorem dX12_isWhole_77 : decode cX12_isWhole 77 = .ok (.iconst 1, 1) := by decide +kernel
theorem dX12_isWhole_78 : decode cX12_isWhole 78 = .ok (.goto 4, 3) := by decide +kernel
theorem dX12_isWhole_81 : decode cX12_isWhole 81 = .ok (.iconst 0, 1) := by decide +kernel
theorem dX12_isWhole_82 : decode cX12_isWhole 82 = .ok (.ireturn, 1) := by decide +kernel
theorem dX12_readCollection_0 : decode cX12_readCollection 0 = .ok (.aload_n 0, 1) := by decide +kernel
theorem dX12_readCollection_1 : decode cX12_readCollection 1 = .ok (.aload_n 0, 1) := by decide +kernel
theorem dX12_readCollection_2 : decode cX12_readCollection 2 = .ok (.getfield 9, 3) := by decide +kernel
theorem dX12_readCollection_5 : decode cX12_readCollection 5 = .ok (.iconst 0, 1) := by decide +kernel
theorem dX12_readCollection_6 : decode cX12_readCollection 6 = .ok (.aload_n 0, 1) := by decide +kernel
theorem dX12_readCollection_7 : decode cX12_readCollection 7 = .ok (.getfield 104, 3) := by decide +kernel
theorem dX12_readCollection_10 : decode cX12_readCollection 10 = .ok (.invokevirtual 202, 3) := by decide +kernel
theorem dX12_readCollection_13 : decode cX12_readCollection 13 = .ok (.aload_n 0, 1) := by decide +kernel
theorem dX12_readCollection_14 : decode cX12_readCollection 14 = .ok (.iconst 0, 1) := by decide +kernel
theorem dX12_readCollection_15 : decode cX12_readCollection 15 = .ok (.putfield 247, 3) := by decide +kernel
theorem dX12_readCollection_18 : decode cX12_readCollection 18 = .ok (.aload_n 0, 1) := by decide +kernel
theorem dX12_readCollection_19 : decode cX12_readCollection 19 = .ok (.iconst 0, 1) := by decide +kernel
theorem dX12_readCollection_20 : decode cX12_readCollection 20 = .ok (.putfield 250, 3) := by decide +kernel
theorem dX12_readCollection_23 : decode cX12_readCollection 23 = .ok (.aload_n 0, 1) := by decide +kernel
theorem dX12_readCollection_24 : decode cX12_readCollection 24 = .ok (.iconst 0, 1) := by decide +kernel
theorem dX12_readCollection_25 : decode cX12_readCollection 25 = .ok (.putfield 244, 3) := by decide +kernel
theorem dX12_readCollection_28 : decode cX12_readCollection 28 = .ok (.iconst 0, 1) := by decide +kernel
theorem dX12_readCollection_29 : decode cX12_readCollection 29 = .ok (.istore_n 1, 1) := by decide +kernel
theorem dX12_readCollection_30 : decode cX12_readCollection 30 = .ok (.iload_n 1, 1) := by decide +kernel
theorem dX12_readCollection_31 : decode cX12_readCollection 31 = .ok (.iconst 2, 1) := by decide +kernel
theorem dX12_readCollection_32 : decode cX12_readCollection 32 = .ok (.if_icmp .ge 21, 3) := by decide +kernel
theorem dX12_readCollection_35 : decode cX12_readCollection 35 = .ok (.aload_n 0, 1) := by decide +kernel
theorem dX12_readCollection_36 : decode cX12_readCollection 36 = .ok (.getfield 40, 3) := by decide +kernel
theorem dX12_readCollection_39 : decode cX12_readCollection 39 = .ok (.iload_n 1, 1) := by decide +kernel
theorem dX12_readCollection_40 : decode cX12_readCollection 40 = .ok (.bipush 115, 2) := by decide +kernel
theorem dX12_readCollection_42 : decode cX12_readCollection 42 = .ok (.iload_n 1, 1) := by decide +kernel
theorem dX12_readCollection_43 : decode cX12_readCollection 43 = .ok (.invokestatic 216, 3) := by decide +kernel
theorem dX12_readCollection_46 : decode cX12_readCollection 46 = .ok (.iastore, 1) := by decide +kernel
theorem dX12_readCollection_47 : decode cX12_readCollection 47 = .ok (.iinc 1 1, 3) := by decide +kernel
theorem dX12_readCollection_50 : decode cX12_readCollection 50 = .ok (.goto (-20), 3) := by decide +kernel
theorem dX12_readCollection_53 : decode cX12_readCollection 53 = .ok (.iconst 1, 1) := by decide +kernel
theorem dX12_readCollection_54 : decode cX12_readCollection 54 = .ok (.istore_n 1, 1) := by decide +kernel
theorem dX12_readCollection_55 : decode cX12_readCollection 55 = .ok (.iload_n 1, 1) := by decide +kernel
theorem dX12_readCollection_56 : decode cX12_readCollection 56 = .ok (.ifCond .eq 55, 3) := by decide +kernel
theorem dX12_readCollection_59 : decode cX12_readCollection 59 = .ok (.aload_n 0, 1) := by decide +kernel
theorem dX12_readCollection_60 : decode cX12_readCollection 60 = .ok (.getfield 123, 3) := by decide +kernel
theorem dX12_readCollection_63 : decode cX12_readCollection 63 = .ok (.iconst (-1), 1) := by decide +kernel
theorem dX12_readCollection_64 : decode cX12_readCollection 64 = .ok (.if_icmp .ne 47, 3) := by decide +kernel
theorem dX12_readCollection_67 : decode cX12_readCollection 67 = .ok (.aload_n 0, 1) := by decide +kernel
theorem dX12_readCollection_68 : decode cX12_readCollection 68 = .ok (.invokevirtual 272, 3) := by decide +kernel
theorem dX12_readCollection_71 : decode cX12_readCollection 71 = .ok (.aload_n 0, 1) := by decide +kernel
theorem dX12_readCollection_72 : decode cX12_readCollection 72 = .ok (.getfield 123, 3) := by decide +kernel
theorem dX12_readCollection_75 : decode cX12_readCollection 75 = .ok (.iconst (-1), 1) := by decide +kernel
theorem dX12_readCollection_76 : decode cX12_readCollection 76 = .ok (.if_icmp .ne 16, 3) := by decide +kernel
theorem dX12_readCollection_79 : decode cX12_readCollection 79 = .ok (.aload_n 0, 1) := by decide +kernel
theorem dX12_readCollection_80 : decode cX12_readCollection 80 = .ok (.invokevirtual 133, 3) := by decide +kernel
theorem dX12_readCollection_83 : decode cX12_readCollection 83 = .ok (.bipush 59, 2) := by decide +kernel
theorem dX12_readCollection_85 : decode cX12_readCollection 85 = .ok (.if_icmp .ne 7, 3) := by decide +kernel
theorem dX12_readCollection_88 : decode cX12_readCollection 88 = .ok (.iconst 1, 1) := by decide +kernel
theorem dX12_readCollection_89 : decode cX12_readCollection 89 = .ok (.goto 4, 3) := by decide +kernel
theorem dX12_readCollection_92 : decode cX12_readCollection 92 = .ok (.iconst 0, 1) := by decide +kernel
theorem dX12_readCollection_93 : decode cX12_readCollection 93 = .ok (.istore_n 1, 1) := by decide +kernel
theorem dX12_readCollection_94 : decode cX12_readCollection 94 = .ok (.iload_n 1, 1) := by decide +kernel
theorem dX12_readCollection_95 : decode cX12_readCollection 95 = .ok (.ifCond .eq (-40), 3) := by decide +kernel
theorem dX12_readCollection_98 : decode cX12_readCollection 98 = .ok (.aload_n 0, 1) := by decide +kernel
theorem dX12_readCollection_99 : decode cX12_readCollection 99 = .ok (.dup, 1) := by decide +kernel
theorem dX12_readCollection_100 : decode cX12_readCollection 100 = .ok (.getfield 114, 3) := by decide +kernel
theorem dX12_readCollection_103 : decode cX12_readCollection 103 = .ok (.iconst 1, 1) := by decide +kernel
theorem dX12_readCollection_104 : decode cX12_readCollection 104 = .ok (.iadd, 1) := by decide +kernel
theorem dX12_readCollection_105 : decode cX12_readCollection 105 = .ok (.putfield 114, 3) := by decide +kernel
theorem dX12_readCollection_108 : decode cX12_readCollection 108 = .ok (.goto (-53), 3) := by decide +kernel
theorem dX12_readCollection_111 : decode cX12_readCollection 111 = .ok (.aload_n 0, 1) := by decide +kernel
theorem dX12_readCollection_112 : decode cX12_readCollection 112 = .ok (.getfield 123, 3) := by decide +kernel
theorem dX12_readCollection_115 : decode cX12_readCollection 115 = .ok (.iconst (-1), 1) := by decide +kernel
theorem dX12_readCollection_116 : decode cX12_readCollection 116 = .ok (.if_icmp .ne 23, 3) := by decide +kernel
theorem dX12_readCollection_119 : decode cX12_readCollection 119 = .ok (.aload_n 0, 1) := by decide +kernel
theorem dX12_readCollection_120 : decode cX12_readCollection 120 = .ok (.invokevirtual 133, 3) := by decide +kernel
theorem dX12_readCollection_123 : decode cX12_readCollection 123 = .ok (.iconst (-1), 1) := by decide +kernel
theorem dX12_readCollection_124 : decode cX12_readCollection 124 = .ok (.if_icmp .ne 10, 3) := by decide +kernel
theorem dX12_readCollection_127 : decode cX12_readCollection 127 = .ok (.aload_n 0, 1) := by decide +kernel
theorem dX12_readCollection_128 : decode cX12_readCollection 128 = .ok (.invokevirtual 275, 3) := by decide +kernel
theorem dX12_readCollection_131 : decode cX12_readCollection 131 = .ok (.ifCond .ne 8, 3) := by decide +kernel
theorem dX12_readCollection_134 : decode cX12_readCollection 134 = .ok (.aload_n 0, 1) := by decide +kernel
theorem dX12_readCollection_135 : decode cX12_readCollection 135 = .ok (.invokevirtual 129, 3) := by decide +kernel
theorem dX12_readCollection_138 : decode cX12_readCollection 138 = .ok (.pop, 1) := by decide +kernel
theorem dX12_readCollection_139 : decode cX12_readCollection 139 = .ok (.return_, 1) := by decide +kernel
theorem dX12_fault_0 : decode cX12_fault 0 = .ok (.aload_n 0, 1) := by decide +kernel
theorem dX12_fault_1 : decode cX12_fault 1 = .ok (.iconst 0, 1) := by decide +kernel
theorem dX12_fault_2 : decode cX12_fault 2 = .ok (.putfield 91, 3) := by decide +kernel
theorem dX12_fault_5 : decode cX12_fault 5 = .ok (.iload_n 1, 1) := by decide +kernel
theorem dX12_fault_6 : decode cX12_fault 6 = .ok (.i2l, 1) := by decide +kernel
theorem dX12_fault_7 : decode cX12_fault 7 = .ok (.lconst 0, 1) := by decide +kernel
theorem dX12_fault_8 : decode cX12_fault 8 = .ok (.ldc2_w 278, 3) := by decide +kernel
theorem dX12_fault_11 : decode cX12_fault 11 = .ok (.invokestatic 212, 3) := by decide +kernel
theorem dX12_fault_14 : decode cX12_fault 14 = .ok (.ifCond .ne 6, 3) := by decide +kernel
theorem dX12_fault_17 : decode cX12_fault 17 = .ok (.bipush (-2), 2) := by decide +kernel
theorem dX12_fault_19 : decode cX12_fault 19 = .ok (.ireturn, 1) := by decide +kernel
theorem dX12_fault_20 : decode cX12_fault 20 = .ok (.iload_n 1, 1) := by decide +kernel
theorem dX12_fault_21 : decode cX12_fault 21 = .ok (.ifCond .ne 7, 3) := by decide +kernel
theorem dX12_fault_24 : decode cX12_fault 24 = .ok (.aload_n 0, 1) := by decide +kernel
theorem dX12_fault_25 : decode cX12_fault 25 = .ok (.invokevirtual 280, 3) := by decide +kernel
theorem dX12_fault_28 : decode cX12_fault 28 = .ok (.iload_n 1, 1) := by decide +kernel
theorem dX12_fault_29 : decode cX12_fault 29 = .ok (.iconst 1, 1) := by decide +kernel
theorem dX12_fault_30 : decode cX12_fault 30 = .ok (.if_icmp .ne 16, 3) := by decide +kernel
theorem dX12_fault_33 : decode cX12_fault 33 = .ok (.aload_n 0, 1) := by decide +kernel
theorem dX12_fault_34 : decode cX12_fault 34 = .ok (.aload_n 0, 1) := by decide +kernel
theorem dX12_fault_35 : decode cX12_fault 35 = .ok (.getfield 9, 3) := by decide +kernel
theorem dX12_fault_38 : decode cX12_fault 38 = .ok (.iconst 0, 1) := by decide +kernel
theorem dX12_fault_39 : decode cX12_fault 39 = .ok (.aload_n 0, 1) := by decide +kernel
theorem dX12_fault_40 : decode cX12_fault 40 = .ok (.getfield 104, 3) := by decide +kernel
theorem dX12_fault_43 : decode cX12_fault 43 = .ok (.invokevirtual 283, 3) := by decide +kernel
theorem dX12_fault_46 : decode cX12_fault 46 = .ok (.iload_n 1, 1) := by decide +kernel
theorem dX12_fault_47 : decode cX12_fault 47 = .ok (.iconst 2, 1) := by decide +kernel
theorem dX12_fault_48 : decode cX12_fault 48 = .ok (.if_icmp .ne 47, 3) := by decide +kernel
theorem dX12_fault_51 : decode cX12_fault 51 = .ok (.aload_n 0, 1) := by decide +kernel
theorem dX12_fault_52 : decode cX12_fault 52 = .ok (.aload_n 0, 1) := by decide +kernel
theorem dX12_fault_53 : decode cX12_fault 53 = .ok (.getfield 9, 3) := by decide +kernel
theorem dX12_fault_56 : decode cX12_fault 56 = .ok (.iconst 0, 1) := by decide +kernel
theorem dX12_fault_57 : decode cX12_fault 57 = .ok (.aload_n 0, 1) := by decide +kernel
theorem dX12_fault_58 : decode cX12_fault 58 = .ok (.getfield 104, 3) := by decide +kernel
theorem dX12_fault_61 : decode cX12_fault 61 = .ok (.invokevirtual 202, 3) := by decide +kernel
theorem dX12_fault_64 : decode cX12_fault 64 = .ok (.aload_n 0, 1) := by decide +kernel
theorem dX12_fault_65 : decode cX12_fault 65 = .ok (.aload_n 0, 1) := by decide +kernel
theorem dX12_fault_66 : decode cX12_fault 66 = .ok (.getfield 58, 3) := by decide +kernel
theorem dX12_fault_69 : decode cX12_fault 69 = .ok (.bipush 52, 2) := by decide +kernel
theorem dX12_fault_71 : decode cX12_fault 71 = .ok (.invokevirtual 269, 3) := by decide +kernel
theorem dX12_fault_74 : decode cX12_fault 74 = .ok (.aload_n 0, 1) := by decide +kernel
theorem dX12_fault_75 : decode cX12_fault 75 = .ok (.getfield 123, 3) := by decide +kernel
theorem dX12_fault_78 : decode cX12_fault 78 = .ok (.iconst (-1), 1) := by decide +kernel
theorem dX12_fault_79 : decode cX12_fault 79 = .ok (.if_icmp .ne 16, 3) := by decide +kernel
theorem dX12_fault_82 : decode cX12_fault 82 = .ok (.aload_n 0, 1) := by decide +kernel
theorem dX12_fault_83 : decode cX12_fault 83 = .ok (.invokevirtual 133, 3) := by decide +kernel
theorem dX12_fault_86 : decode cX12_fault 86 = .ok (.iconst (-1), 1) := by decide +kernel
theorem dX12_fault_87 : decode cX12_fault 87 = .ok (.if_icmp .eq 8, 3) := by decide +kernel
theorem dX12_fault_90 : decode cX12_fault 90 = .ok (.aload_n 0, 1) := by decide +kernel
theorem dX12_fault_91 : decode cX12_fault 91 = .ok (.invokevirtual 129, 3) := by decide +kernel
theorem dX12_fault_94 : decode cX12_fault 94 = .ok (.pop, 1) := by decide +kernel
theorem dX12_fault_95 : decode cX12_fault 95 = .ok (.aload_n 0, 1) := by decide +kernel
theorem dX12_fault_96 : decode cX12_fault 96 = .ok (.getfield 123, 3) := by decide +kernel
theorem dX12_fault_99 : decode cX12_fault 99 = .ok (.ireturn, 1) := by decide +kernel
theorem dX12_text_0 : decode cX12_text 0 = .ok (.aload_n 0, 1) := by decide +kernel
theorem dX12_text_1 : decode cX12_text 1 = .ok (.iconst 0, 1) := by decide +kernel
theorem dX12_text_2 : decode cX12_text 2 = .ok (.putfield 91, 3) := by decide +kernel
theorem dX12_text_5 : decode cX12_text 5 = .ok (.iload_n 1, 1) := by decide +kernel
theorem dX12_text_6 : decode cX12_text 6 = .ok (.i2l, 1) := by decide +kernel
theorem dX12_text_7 : decode cX12_text 7 = .ok (.lconst 0, 1) := by decide +kernel
theorem dX12_text_8 : decode cX12_text 8 = .ok (.ldc2_w 278, 3) := by decide +kernel
theorem dX12_text_11 : decode cX12_text 11 = .ok (.invokestatic 212, 3) := by decide +kernel
theorem dX12_text_14 : decode cX12_text 14 = .ok (.ifCond .eq 38, 3) := by decide +kernel
theorem dX12_text_17 : decode cX12_text 17 = .ok (.iload_n 1, 1) := by decide +kernel
theorem dX12_text_18 : decode cX12_text 18 = .ok (.iconst 1, 1) := by decide +kernel
theorem dX12_text_19 : decode cX12_text 19 = .ok (.if_icmp .ne 11, 3) := by decide +kernel
theorem dX12_text_22 : decode cX12_text 22 = .ok (.aload_n 0, 1) := by decide +kernel
theorem dX12_text_23 : decode cX12_text 23 = .ok (.getfield 286, 3) := by decide +kernel
theorem dX12_text_26 : decode cX12_text 26 = .ok (.iconst 4, 1) := by decide +kernel
theorem dX12_text_27 : decode cX12_text 27 = .ok (.if_icmp .eq 25, 3) := by decide +kernel
theorem dX12_text_30 : decode cX12_text 30 = .ok (.iload_n 1, 1) := by decide +kernel
theorem dX12_text_31 : decode cX12_text 31 = .ok (.iconst 2, 1) := by decide +kernel
theorem dX12_text_32 : decode cX12_text 32 = .ok (.if_icmp .ne 11, 3) := by decide +kernel
theorem dX12_text_35 : decode cX12_text 35 = .ok (.aload_n 0, 1) := by decide +kernel
theorem dX12_text_36 : decode cX12_text 36 = .ok (.getfield 289, 3) := by decide +kernel
theorem dX12_text_39 : decode cX12_text 39 = .ok (.iconst 4, 1) := by decide +kernel
theorem dX12_text_40 : decode cX12_text 40 = .ok (.if_icmp .eq 12, 3) := by decide +kernel
theorem dX12_text_43 : decode cX12_text 43 = .ok (.aload_n 0, 1) := by decide +kernel
theorem dX12_text_44 : decode cX12_text 44 = .ok (.iload_n 1, 1) := by decide +kernel
theorem dX12_text_45 : decode cX12_text 45 = .ok (.invokevirtual 292, 3) := by decide +kernel
theorem dX12_text_48 : decode cX12_text 48 = .ok (.iconst (-1), 1) := by decide +kernel
theorem dX12_text_49 : decode cX12_text 49 = .ok (.if_icmp .eq 5, 3) := by decide +kernel
theorem dX12_text_52 : decode cX12_text 52 = .ok (.iconst (-1), 1) := by decide +kernel
theorem dX12_text_53 : decode cX12_text 53 = .ok (.ireturn, 1) := by decide +kernel
theorem dX12_text_54 : decode cX12_text 54 = .ok (.aload_n 0, 1) := by decide +kernel
theorem dX12_text_55 : decode cX12_text 55 = .ok (.getfield 104, 3) := by decide +kernel
theorem dX12_text_58 : decode cX12_text 58 = .ok (.istore_n 2, 1) := by decide +kernel
theorem dX12_text_59 : decode cX12_text 59 = .ok (.aload_n 0, 1) := by decide +kernel
theorem dX12_text_60 : decode cX12_text 60 = .ok (.iconst 0, 1) := by decide +kernel
theorem dX12_text_61 : decode cX12_text 61 = .ok (.putfield 104, 3) := by decide +kernel
theorem dX12_text_64 : decode cX12_text 64 = .ok (.iload_n 1, 1) := by decide +kernel
theorem dX12_text_65 : decode cX12_text 65 = .ok (.iconst 1, 1) := by decide +kernel
theorem dX12_text_66 : decode cX12_text 66 = .ok (.if_icmp .ne 64, 3) := by decide +kernel
theorem dX12_text_69 : decode cX12_text 69 = .ok (.iconst 0, 1) := by decide +kernel
theorem dX12_text_70 : decode cX12_text 70 = .ok (.istore_n 3, 1) := by decide +kernel
theorem dX12_text_71 : decode cX12_text 71 = .ok (.iload_n 3, 1) := by decide +kernel
theorem dX12_text_72 : decode cX12_text 72 = .ok (.iload_n 2, 1) := by decide +kernel
theorem dX12_text_73 : decode cX12_text 73 = .ok (.if_icmp .ge 30, 3) := by decide +kernel
theorem dX12_text_76 : decode cX12_text 76 = .ok (.aload_n 0, 1) := by decide +kernel
theorem dX12_text_77 : decode cX12_text 77 = .ok (.getfield 13, 3) := by decide +kernel
theorem dX12_text_80 : decode cX12_text 80 = .ok (.sipush 240, 3) := by decide +kernel
theorem dX12_text_83 : decode cX12_text 83 = .ok (.aload_n 0, 1) := by decide +kernel
theorem dX12_text_84 : decode cX12_text 84 = .ok (.getfield 286, 3) := by decide +kernel
theorem dX12_text_87 : decode cX12_text 87 = .ok (.imul, 1) := by decide +kernel
theorem dX12_text_88 : decode cX12_text 88 = .ok (.iload_n 3, 1) := by decide +kernel
theorem dX12_text_89 : decode cX12_text 89 = .ok (.iadd, 1) := by decide +kernel
theorem dX12_text_90 : decode cX12_text 90 = .ok (.aload_n 0, 1) := by decide +kernel
theorem dX12_text_91 : decode cX12_text 91 = .ok (.getfield 9, 3) := by decide +kernel
theorem dX12_text_94 : decode cX12_text 94 = .ok (.iload_n 3, 1) := by decide +kernel
theorem dX12_text_95 : decode cX12_text 95 = .ok (.baload, 1) := by decide +kernel
theorem dX12_text_96 : decode cX12_text 96 = .ok (.bastore, 1) := by decide +kernel
theorem dX12_text_97 : decode cX12_text 97 = .ok (.iinc 3 1, 3) := by decide +kernel
theorem dX12_text_100 : decode cX12_text 100 = .ok (.goto (-29), 3) := by decide +kernel
theorem dX12_text_103 : decode cX12_text 103 = .ok (.aload_n 0, 1) := by decide +kernel
theorem dX12_text_104 : decode cX12_text 104 = .ok (.getfield 16, 3) := by decide +kernel
theorem dX12_text_107 : decode cX12_text 107 = .ok (.aload_n 0, 1) := by decide +kernel
theorem dX12_text_108 : decode cX12_text 108 = .ok (.getfield 286, 3) := by decide +kernel
theorem dX12_text_111 : decode cX12_text 111 = .ok (.iload_n 2, 1) := by decide +kernel
theorem dX12_text_112 : decode cX12_text 112 = .ok (.iastore, 1) := by decide +kernel
theorem dX12_text_113 : decode cX12_text 113 = .ok (.aload_n 0, 1) := by decide +kernel
theorem dX12_text_114 : decode cX12_text 114 = .ok (.dup, 1) := by decide +kernel
theorem dX12_text_115 : decode cX12_text 115 = .ok (.getfield 286, 3) := by decide +kernel
theorem dX12_text_118 : decode cX12_text 118 = .ok (.iconst 1, 1) := by decide +kernel
theorem dX12_text_119 : decode cX12_text 119 = .ok (.iadd, 1) := by decide +kernel
theorem dX12_text_120 : decode cX12_text 120 = .ok (.putfield 286, 3) := by decide +kernel
theorem dX12_text_123 : decode cX12_text 123 = .ok (.aload_n 0, 1) := by decide +kernel
theorem dX12_text_124 : decode cX12_text 124 = .ok (.getfield 286, 3) := by decide +kernel
theorem dX12_text_127 : decode cX12_text 127 = .ok (.iconst 1, 1) := by decide +kernel
theorem dX12_text_128 : decode cX12_text 128 = .ok (.isub, 1) := by decide +kernel
theorem dX12_text_129 : decode cX12_text 129 = .ok (.ireturn, 1) := by decide +kernel
theorem dX12_text_130 : decode cX12_text 130 = .ok (.iload_n 1, 1) := by decide +kernel
theorem dX12_text_131 : decode cX12_text 131 = .ok (.iconst 2, 1) := by decide +kernel
theorem dX12_text_132 : decode cX12_text 132 = .ok (.if_icmp .ne 57, 3) := by decide +kernel
theorem dX12_text_135 : decode cX12_text 135 = .ok (.iconst 0, 1) := by decide +kernel
theorem dX12_text_136 : decode cX12_text 136 = .ok (.istore_n 3, 1) := by decide +kernel
theorem dX12_text_137 : decode cX12_text 137 = .ok (.iload_n 3, 1) := by decide +kernel
theorem dX12_text_138 : decode cX12_text 138 = .ok (.bipush 12, 2) := by decide +kernel
theorem dX12_text_140 : decode cX12_text 140 = .ok (.if_icmp .gt 32, 3) := by decide +kernel
theorem dX12_text_143 : decode cX12_text 143 = .ok (.aload_n 0, 1) := by decide +kernel
theorem dX12_text_144 : decode cX12_text 144 = .ok (.getfield 58, 3) := by decide +kernel
theorem dX12_text_147 : decode cX12_text 147 = .ok (.bipush 13, 2) := by decide +kernel
theorem dX12_text_149 : decode cX12_text 149 = .ok (.aload_n 0, 1) := by decide +kernel
theorem dX12_text_150 : decode cX12_text 150 = .ok (.getfield 289, 3) := by decide +kernel
theorem dX12_text_153 : decode cX12_text 153 = .ok (.imul, 1) := by decide +kernel
theorem dX12_text_154 : decode cX12_text 154 = .ok (.iload_n 3, 1) := by decide +kernel
theorem dX12_text_155 : decode cX12_text 155 = .ok (.iadd, 1) := by decide +kernel
theorem dX12_text_156 : decode cX12_text 156 = .ok (.aload_n 0, 1) := by decide +kernel
theorem dX12_text_157 : decode cX12_text 157 = .ok (.getfield 58, 3) := by decide +kernel
theorem dX12_text_160 : decode cX12_text 160 = .ok (.bipush 52, 2) := by decide +kernel
theorem dX12_text_162 : decode cX12_text 162 = .ok (.iload_n 3, 1) := by decide +kernel
theorem dX12_text_163 : decode cX12_text 163 = .ok (.iadd, 1) := by decide +kernel
theorem dX12_text_164 : decode cX12_text 164 = .ok (.iaload, 1) := by decide +kernel
theorem dX12_text_165 : decode cX12_text 165 = .ok (.iastore, 1) := by decide +kernel
theorem dX12_text_166 : decode cX12_text 166 = .ok (.iinc 3 1, 3) := by decide +kernel
theorem dX12_text_169 : decode cX12_text 169 = .ok (.goto (-32), 3) := by decide +kernel
theorem dX12_text_172 : decode cX12_text 172 = .ok (.aload_n 0, 1) := by decide +kernel
theorem dX12_text_173 : decode cX12_text 173 = .ok (.dup, 1) := by decide +kernel
theorem dX12_text_174 : decode cX12_text 174 = .ok (.getfield 289, 3) := by decide +kernel
theorem dX12_text_177 : decode cX12_text 177 = .ok (.iconst 1, 1) := by decide +kernel
theorem dX12_text_178 : decode cX12_text 178 = .ok (.iadd, 1) := by decide +kernel
theorem dX12_text_179 : decode cX12_text 179 = .ok (.putfield 289, 3) := by decide +kernel
theorem dX12_text_182 : decode cX12_text 182 = .ok (.aload_n 0, 1) := by decide +kernel
theorem dX12_text_183 : decode cX12_text 183 = .ok (.getfield 289, 3) := by decide +kernel
theorem dX12_text_186 : decode cX12_text 186 = .ok (.iconst 1, 1) := by decide +kernel
theorem dX12_text_187 : decode cX12_text 187 = .ok (.isub, 1) := by decide +kernel
theorem dX12_text_188 : decode cX12_text 188 = .ok (.ireturn, 1) := by decide +kernel
theorem dX12_text_189 : decode cX12_text 189 = .ok (.aload_n 0, 1) := by decide +kernel
theorem dX12_text_190 : decode cX12_text 190 = .ok (.aload_n 0, 1) := by decide +kernel
theorem dX12_text_191 : decode cX12_text 191 = .ok (.getfield 247, 3) := by decide +kernel
theorem dX12_text_194 : decode cX12_text 194 = .ok (.putfield 294, 3) := by decide +kernel
theorem dX12_text_197 : decode cX12_text 197 = .ok (.aload_n 0, 1) := by decide +kernel
theorem dX12_text_198 : decode cX12_text 198 = .ok (.aload_n 0, 1) := by decide +kernel
theorem dX12_text_199 : decode cX12_text 199 = .ok (.getfield 250, 3) := by decide +kernel
theorem dX12_text_202 : decode cX12_text 202 = .ok (.putfield 297, 3) := by decide +kernel
theorem dX12_text_205 : decode cX12_text 205 = .ok (.iconst 0, 1) := by decide +kernel
theorem dX12_text_206 : decode cX12_text 206 = .ok (.istore_n 3, 1) := by decide +kernel
theorem dX12_text_207 : decode cX12_text 207 = .ok (.iload_n 3, 1) := by decide +kernel
theorem dX12_text_208 : decode cX12_text 208 = .ok (.iconst 2, 1) := by decide +kernel
theorem dX12_text_209 : decode cX12_text 209 = .ok (.if_icmp .ge 21, 3) := by decide +kernel
theorem dX12_text_212 : decode cX12_text 212 = .ok (.aload_n 0, 1) := by decide +kernel
theorem dX12_text_213 : decode cX12_text 213 = .ok (.getfield 37, 3) := by decide +kernel
theorem dX12_text_216 : decode cX12_text 216 = .ok (.iload_n 3, 1) := by decide +kernel
theorem dX12_text_217 : decode cX12_text 217 = .ok (.aload_n 0, 1) := by decide +kernel
theorem dX12_text_218 : decode cX12_text 218 = .ok (.getfield 40, 3) := by decide +kernel
theorem dX12_text_221 : decode cX12_text 221 = .ok (.iload_n 3, 1) := by decide +kernel
theorem dX12_text_222 : decode cX12_text 222 = .ok (.iaload, 1) := by decide +kernel
theorem dX12_text_223 : decode cX12_text 223 = .ok (.iastore, 1) := by decide +kernel
theorem dX12_text_224 : decode cX12_text 224 = .ok (.iinc 3 1, 3) := by decide +kernel
theorem dX12_text_227 : decode cX12_text 227 = .ok (.goto (-20), 3) := by decide +kernel
theorem dX12_text_230 : decode cX12_text 230 = .ok (.iconst 0, 1) := by decide +kernel
theorem dX12_text_231 : decode cX12_text 231 = .ok (.istore_n 3, 1) := by decide +kernel
theorem dX12_text_232 : decode cX12_text 232 = .ok (.iload_n 3, 1) := by decide +kernel
theorem dX12_text_233 : decode cX12_text 233 = .ok (.bipush 16, 2) := by decide +kernel
theorem dX12_text_235 : decode cX12_text 235 = .ok (.if_icmp .ge 21, 3) := by decide +kernel
theorem dX12_text_238 : decode cX12_text 238 = .ok (.aload_n 0, 1) := by decide +kernel
theorem dX12_text_239 : decode cX12_text 239 = .ok (.getfield 43, 3) := by decide +kernel
theorem dX12_text_242 : decode cX12_text 242 = .ok (.iload_n 3, 1) := by decide +kernel
theorem dX12_text_243 : decode cX12_text 243 = .ok (.aload_n 0, 1) := by decide +kernel
theorem dX12_text_244 : decode cX12_text 244 = .ok (.getfield 46, 3) := by decide +kernel
theorem dX12_text_247 : decode cX12_text 247 = .ok (.iload_n 3, 1) := by decide +kernel
theorem dX12_text_248 : decode cX12_text 248 = .ok (.iaload, 1) := by decide +kernel
theorem dX12_text_249 : decode cX12_text 249 = .ok (.iastore, 1) := by decide +kernel
theorem dX12_text_250 : decode cX12_text 250 = .ok (.iinc 3 1, 3) := by decide +kernel
theorem dX12_text_253 : decode cX12_text 253 = .ok (.goto (-21), 3) := by decide +kernel
theorem dX12_text_256 : decode cX12_text 256 = .ok (.iconst 0, 1) := by decide +kernel
theorem dX12_text_257 : decode cX12_text 257 = .ok (.istore_n 3, 1) := by decide +kernel
theorem dX12_text_258 : decode cX12_text 258 = .ok (.iload_n 3, 1) := by decide +kernel
theorem dX12_text_259 : decode cX12_text 259 = .ok (.bipush 96, 2) := by decide +kernel
theorem dX12_text_261 : decode cX12_text 261 = .ok (.if_icmp .ge 21, 3) := by decide +kernel
theorem dX12_text_264 : decode cX12_text 264 = .ok (.aload_n 0, 1) := by decide +kernel
theorem dX12_text_265 : decode cX12_text 265 = .ok (.getfield 52, 3) := by decide +kernel
theorem dX12_text_268 : decode cX12_text 268 = .ok (.iload_n 3, 1) := by decide +kernel
theorem dX12_text_269 : decode cX12_text 269 = .ok (.aload_n 0, 1) := by decide +kernel
theorem dX12_text_270 : decode cX12_text 270 = .ok (.getfield 55, 3) := by decide +kernel
theorem dX12_text_273 : decode cX12_text 273 = .ok (.iload_n 3, 1) := by decide +kernel
theorem dX12_text_274 : decode cX12_text 274 = .ok (.iaload, 1) := by decide +kernel
theorem dX12_text_275 : decode cX12_text 275 = .ok (.iastore, 1) := by decide +kernel
theorem dX12_text_276 : decode cX12_text 276 = .ok (.iinc 3 1, 3) := by decide +kernel
theorem dX12_text_279 : decode cX12_text 279 = .ok (.goto (-21), 3) := by decide +kernel
theorem dX12_text_282 : decode cX12_text 282 = .ok (.iconst 0, 1) := by decide +kernel
theorem dX12_text_283 : decode cX12_text 283 = .ok (.istore_n 3, 1) := by decide +kernel
theorem dX12_text_284 : decode cX12_text 284 = .ok (.iload_n 3, 1) := by decide +kernel
theorem dX12_text_285 : decode cX12_text 285 = .ok (.sipush 304, 3) := by decide +kernel
theorem dX12_text_288 : decode cX12_text 288 = .ok (.if_icmp .ge 16, 3) := by decide +kernel
theorem dX12_text_291 : decode cX12_text 291 = .ok (.aload_n 0, 1) := by decide +kernel
theorem dX12_text_292 : decode cX12_text 292 = .ok (.getfield 61, 3) := by decide +kernel
theorem dX12_text_295 : decode cX12_text 295 = .ok (.iload_n 3, 1) := by decide +kernel
theorem dX12_text_296 : decode cX12_text 296 = .ok (.iconst 0, 1) := by decide +kernel
theorem dX12_text_297 : decode cX12_text 297 = .ok (.iastore, 1) := by decide +kernel
theorem dX12_text_298 : decode cX12_text 298 = .ok (.iinc 3 1, 3) := by decide +kernel
theorem dX12_text_301 : decode cX12_text 301 = .ok (.goto (-17), 3) := by decide +kernel
theorem dX12_text_304 : decode cX12_text 304 = .ok (.iconst 0, 1) := by decide +kernel
theorem dX12_text_305 : decode cX12_text 305 = .ok (.istore_n 3, 1) := by decide +kernel
theorem dX12_text_306 : decode cX12_text 306 = .ok (.iload_n 3, 1) := by decide +kernel
theorem dX12_text_307 : decode cX12_text 307 = .ok (.aload_n 0, 1) := by decide +kernel
theorem dX12_text_308 : decode cX12_text 308 = .ok (.getfield 297, 3) := by decide +kernel
theorem dX12_text_311 : decode cX12_text 311 = .ok (.if_icmp .ge 76, 3) := by decide +kernel
theorem dX12_text_314 : decode cX12_text 314 = .ok (.aload_n 0, 1) := by decide +kernel
theorem dX12_text_315 : decode cX12_text 315 = .ok (.getfield 61, 3) := by decide +kernel
theorem dX12_text_318 : decode cX12_text 318 = .ok (.bipush 20, 2) := by decide +kernel
theorem dX12_text_320 : decode cX12_text 320 = .ok (.iload_n 3, 1) := by decide +kernel
theorem dX12_text_321 : decode cX12_text 321 = .ok (.imul, 1) := by decide +kernel
theorem dX12_text_322 : decode cX12_text 322 = .ok (.aload_n 0, 1) := by decide +kernel
theorem dX12_text_323 : decode cX12_text 323 = .ok (.getfield 52, 3) := by decide +kernel
theorem dX12_text_326 : decode cX12_text 326 = .ok (.bipush 16, 2) := by decide +kernel
theorem dX12_text_328 : decode cX12_text 328 = .ok (.iload_n 3, 1) := by decide +kernel
theorem dX12_text_329 : decode cX12_text 329 = .ok (.imul, 1) := by decide +kernel
theorem dX12_text_330 : decode cX12_text 330 = .ok (.iconst 2, 1) := by decide +kernel
theorem dX12_text_331 : decode cX12_text 331 = .ok (.iadd, 1) := by decide +kernel
theorem dX12_text_332 : decode cX12_text 332 = .ok (.iaload, 1) := by decide +kernel
theorem dX12_text_333 : decode cX12_text 333 = .ok (.bipush 8, 2) := by decide +kernel
theorem dX12_text_335 : decode cX12_text 335 = .ok (.if_icmp .ne 7, 3) := by decide +kernel
theorem dX12_text_338 : decode cX12_text 338 = .ok (.iconst (-1), 1) := by decide +kernel
theorem dX12_text_339 : decode cX12_text 339 = .ok (.goto 14, 3) := by decide +kernel
theorem dX12_text_342 : decode cX12_text 342 = .ok (.aload_n 0, 1) := by decide +kernel
theorem dX12_text_343 : decode cX12_text 343 = .ok (.getfield 52, 3) := by decide +kernel
theorem dX12_text_346 : decode cX12_text 346 = .ok (.bipush 16, 2) := by decide +kernel
theorem dX12_text_348 : decode cX12_text 348 = .ok (.iload_n 3, 1) := by decide +kernel
theorem dX12_text_349 : decode cX12_text 349 = .ok (.imul, 1) := by decide +kernel
theorem dX12_text_350 : decode cX12_text 350 = .ok (.iconst 2, 1) := by decide +kernel
theorem dX12_text_351 : decode cX12_text 351 = .ok (.iadd, 1) := by decide +kernel
theorem dX12_text_352 : decode cX12_text 352 = .ok (.iaload, 1) := by decide +kernel
theorem dX12_text_353 : decode cX12_text 353 = .ok (.iastore, 1) := by decide +kernel
theorem dX12_text_354 : decode cX12_text 354 = .ok (.aload_n 0, 1) := by decide +kernel
theorem dX12_text_355 : decode cX12_text 355 = .ok (.getfield 61, 3) := by decide +kernel
theorem dX12_text_358 : decode cX12_text 358 = .ok (.iload_n 3, 1) := by decide +kernel
theorem dX12_text_359 : decode cX12_text 359 = .ok (.aload_n 0, 1) := by decide +kernel
theorem dX12_text_360 : decode cX12_text 360 = .ok (.getfield 52, 3) := by decide +kernel
theorem dX12_text_363 : decode cX12_text 363 = .ok (.bipush 16, 2) := by decide +kernel
theorem dX12_text_365 : decode cX12_text 365 = .ok (.iload_n 3, 1) := by decide +kernel
theorem dX12_text_366 : decode cX12_text 366 = .ok (.imul, 1) := by decide +kernel
theorem dX12_text_367 : decode cX12_text 367 = .ok (.iconst 3, 1) := by decide +kernel
theorem dX12_text_368 : decode cX12_text 368 = .ok (.iadd, 1) := by decide +kernel
theorem dX12_text_369 : decode cX12_text 369 = .ok (.aload_n 0, 1) := by decide +kernel
theorem dX12_text_370 : decode cX12_text 370 = .ok (.getfield 52, 3) := by decide +kernel
theorem dX12_text_373 : decode cX12_text 373 = .ok (.bipush 16, 2) := by decide +kernel
theorem dX12_text_375 : decode cX12_text 375 = .ok (.iload_n 3, 1) := by decide +kernel
theorem dX12_text_376 : decode cX12_text 376 = .ok (.imul, 1) := by decide +kernel
theorem dX12_text_377 : decode cX12_text 377 = .ok (.iaload, 1) := by decide +kernel
theorem dX12_text_378 : decode cX12_text 378 = .ok (.invokestatic 300, 3) := by decide +kernel
theorem dX12_text_381 : decode cX12_text 381 = .ok (.iinc 3 1, 3) := by decide +kernel
theorem dX12_text_384 : decode cX12_text 384 = .ok (.goto (-78), 3) := by decide +kernel
theorem dX12_text_387 : decode cX12_text 387 = .ok (.aload_n 0, 1) := by decide +kernel
theorem dX12_text_388 : decode cX12_text 388 = .ok (.getfield 61, 3) := by decide +kernel
theorem dX12_text_391 : decode cX12_text 391 = .ok (.bipush 120, 2) := by decide +kernel
theorem dX12_text_393 : decode cX12_text 393 = .ok (.aload_n 0, 1) := by decide +kernel
theorem dX12_text_394 : decode cX12_text 394 = .ok (.getfield 37, 3) := by decide +kernel
theorem dX12_text_397 : decode cX12_text 397 = .ok (.iconst 0, 1) := by decide +kernel
theorem dX12_text_398 : decode cX12_text 398 = .ok (.iaload, 1) := by decide +kernel
theorem dX12_text_399 : decode cX12_text 399 = .ok (.iastore, 1) := by decide +kernel
theorem dX12_text_400 : decode cX12_text 400 = .ok (.aload_n 0, 1) := by decide +kernel
theorem dX12_text_401 : decode cX12_text 401 = .ok (.getfield 61, 3) := by decide +kernel
theorem dX12_text_404 : decode cX12_text 404 = .ok (.bipush 121, 2) := by decide +kernel
theorem dX12_text_406 : decode cX12_text 406 = .ok (.aload_n 0, 1) := by decide +kernel
theorem dX12_text_407 : decode cX12_text 407 = .ok (.getfield 37, 3) := by decide +kernel
theorem dX12_text_410 : decode cX12_text 410 = .ok (.iconst 1, 1) := by decide +kernel
theorem dX12_text_411 : decode cX12_text 411 = .ok (.iaload, 1) := by decide +kernel
theorem dX12_text_412 : decode cX12_text 412 = .ok (.iastore, 1) := by decide +kernel
theorem dX12_text_413 : decode cX12_text 413 = .ok (.aload_n 0, 1) := by decide +kernel
theorem dX12_text_414 : decode cX12_text 414 = .ok (.iconst 0, 1) := by decide +kernel
theorem dX12_text_415 : decode cX12_text 415 = .ok (.putfield 304, 3) := by decide +kernel
theorem dX12_text_418 : decode cX12_text 418 = .ok (.aload_n 0, 1) := by decide +kernel
theorem dX12_text_419 : decode cX12_text 419 = .ok (.iconst 0, 1) := by decide +kernel
theorem dX12_text_420 : decode cX12_text 420 = .ok (.putfield 307, 3) := by decide +kernel
theorem dX12_text_423 : decode cX12_text 423 = .ok (.aload_n 0, 1) := by decide +kernel
theorem dX12_text_424 : decode cX12_text 424 = .ok (.iconst 0, 1) := by decide +kernel
theorem dX12_text_425 : decode cX12_text 425 = .ok (.putfield 310, 3) := by decide +kernel
theorem dX12_text_428 : decode cX12_text 428 = .ok (.aload_n 0, 1) := by decide +kernel
theorem dX12_text_429 : decode cX12_text 429 = .ok (.getfield 297, 3) := by decide +kernel
theorem dX12_text_432 : decode cX12_text 432 = .ok (.ireturn, 1) := by decide +kernel
theorem dX12_lays_0 : decode cX12_lays 0 = .ok (.aload_n 2, 1) := by decide +kernel
theorem dX12_lays_1 : decode cX12_lays 1 = .ok (.iload_n 3, 1) := by decide +kernel
theorem dX12_lays_2 : decode cX12_lays 2 = .ok (.iaload, 1) := by decide +kernel
theorem dX12_lays_3 : decode cX12_lays 3 = .ok (.istore 5, 2) := by decide +kernel
theorem dX12_lays_5 : decode cX12_lays 5 = .ok (.aload_n 0, 1) := by decide +kernel
theorem dX12_lays_6 : decode cX12_lays 6 = .ok (.bipush 20, 2) := by decide +kernel
theorem dX12_lays_8 : decode cX12_lays 8 = .ok (.iload_n 1, 1) := by decide +kernel
theorem dX12_lays_9 : decode cX12_lays 9 = .ok (.imul, 1) := by decide +kernel
theorem dX12_lays_10 : decode cX12_lays 10 = .ok (.iconst 1, 1) := by decide +kernel
theorem dX12_lays_11 : decode cX12_lays 11 = .ok (.iadd, 1) := by decide +kernel
theorem dX12_lays_12 : decode cX12_lays 12 = .ok (.iload 5, 2) := by decide +kernel
theorem dX12_lays_14 : decode cX12_lays 14 = .ok (.iastore, 1) := by decide +kernel
theorem dX12_lays_15 : decode cX12_lays 15 = .ok (.iconst 0, 1) := by decide +kernel
theorem dX12_lays_16 : decode cX12_lays 16 = .ok (.istore 6, 2) := by decide +kernel
theorem dX12_lays_18 : decode cX12_lays 18 = .ok (.iload 6, 2) := by decide +kernel
theorem dX12_lays_20 : decode cX12_lays 20 = .ok (.iload 5, 2) := by decide +kernel
theorem dX12_lays_22 : decode cX12_lays 22 = .ok (.if_icmp .ge 70, 3) := by decide +kernel
theorem dX12_lays_25 : decode cX12_lays 25 = .ok (.aload_n 0, 1) := by decide +kernel
theorem dX12_lays_26 : decode cX12_lays 26 = .ok (.bipush 20, 2) := by decide +kernel
theorem dX12_lays_28 : decode cX12_lays 28 = .ok (.iload_n 1, 1) := by decide +kernel
theorem dX12_lays_29 : decode cX12_lays 29 = .ok (.imul, 1) := by decide +kernel
theorem dX12_lays_30 : decode cX12_lays 30 = .ok (.iconst 2, 1) := by decide +kernel
theorem dX12_lays_31 : decode cX12_lays 31 = .ok (.iadd, 1) := by decide +kernel
theorem dX12_lays_32 : decode cX12_lays 32 = .ok (.iconst 3, 1) := by decide +kernel
theorem dX12_lays_33 : decode cX12_lays 33 = .ok (.iload 6, 2) := by decide +kernel
theorem dX12_lays_35 : decode cX12_lays 35 = .ok (.imul, 1) := by decide +kernel
theorem dX12_lays_36 : decode cX12_lays 36 = .ok (.iadd, 1) := by decide +kernel
theorem dX12_lays_37 : decode cX12_lays 37 = .ok (.aload_n 2, 1) := by decide +kernel
theorem dX12_lays_38 : decode cX12_lays 38 = .ok (.iload_n 3, 1) := by decide +kernel
theorem dX12_lays_39 : decode cX12_lays 39 = .ok (.iconst 1, 1) := by decide +kernel
theorem dX12_lays_40 : decode cX12_lays 40 = .ok (.iadd, 1) := by decide +kernel
theorem dX12_lays_41 : decode cX12_lays 41 = .ok (.iconst 2, 1) := by decide +kernel
theorem dX12_lays_42 : decode cX12_lays 42 = .ok (.iload 6, 2) := by decide +kernel
theorem dX12_lays_44 : decode cX12_lays 44 = .ok (.imul, 1) := by decide +kernel
theorem dX12_lays_45 : decode cX12_lays 45 = .ok (.iadd, 1) := by decide +kernel
theorem dX12_lays_46 : decode cX12_lays 46 = .ok (.iaload, 1) := by decide +kernel
theorem dX12_lays_47 : decode cX12_lays 47 = .ok (.iastore, 1) := by decide +kernel
theorem dX12_lays_48 : decode cX12_lays 48 = .ok (.aload_n 0, 1) := by decide +kernel
theorem dX12_lays_49 : decode cX12_lays 49 = .ok (.bipush 20, 2) := by decide +kernel
theorem dX12_lays_51 : decode cX12_lays 51 = .ok (.iload_n 1, 1) := by decide +kernel
theorem dX12_lays_52 : decode cX12_lays 52 = .ok (.imul, 1) := by decide +kernel
theorem dX12_lays_53 : decode cX12_lays 53 = .ok (.iconst 3, 1) := by decide +kernel
theorem dX12_lays_54 : decode cX12_lays 54 = .ok (.iadd, 1) := by decide +kernel
theorem dX12_lays_55 : decode cX12_lays 55 = .ok (.iconst 3, 1) := by decide +kernel
theorem dX12_lays_56 : decode cX12_lays 56 = .ok (.iload 6, 2) := by decide +kernel
theorem dX12_lays_58 : decode cX12_lays 58 = .ok (.imul, 1) := by decide +kernel
theorem dX12_lays_59 : decode cX12_lays 59 = .ok (.iadd, 1) := by decide +kernel
theorem dX12_lays_60 : decode cX12_lays 60 = .ok (.aload_n 2, 1) := by decide +kernel
theorem dX12_lays_61 : decode cX12_lays 61 = .ok (.iload_n 3, 1) := by decide +kernel
theorem dX12_lays_62 : decode cX12_lays 62 = .ok (.iconst 2, 1) := by decide +kernel
theorem dX12_lays_63 : decode cX12_lays 63 = .ok (.iadd, 1) := by decide +kernel
theorem dX12_lays_64 : decode cX12_lays 64 = .ok (.iconst 2, 1) := by decide +kernel
theorem dX12_lays_65 : decode cX12_lays 65 = .ok (.iload 6, 2) := by decide +kernel
theorem dX12_lays_67 : decode cX12_lays 67 = .ok (.imul, 1) := by decide +kernel
theorem dX12_lays_68 : decode cX12_lays 68 = .ok (.iadd, 1) := by decide +kernel
theorem dX12_lays_69 : decode cX12_lays 69 = .ok (.iaload, 1) := by decide +kernel
theorem dX12_lays_70 : decode cX12_lays 70 = .ok (.iastore, 1) := by decide +kernel
theorem dX12_lays_71 : decode cX12_lays 71 = .ok (.aload_n 0, 1) := by decide +kernel
theorem dX12_lays_72 : decode cX12_lays 72 = .ok (.bipush 20, 2) := by decide +kernel
theorem dX12_lays_74 : decode cX12_lays 74 = .ok (.iload_n 1, 1) := by decide +kernel
theorem dX12_lays_75 : decode cX12_lays 75 = .ok (.imul, 1) := by decide +kernel
theorem dX12_lays_76 : decode cX12_lays 76 = .ok (.iconst 4, 1) := by decide +kernel
theorem dX12_lays_77 : decode cX12_lays 77 = .ok (.iadd, 1) := by decide +kernel
theorem dX12_lays_78 : decode cX12_lays 78 = .ok (.iconst 3, 1) := by decide +kernel
theorem dX12_lays_79 : decode cX12_lays 79 = .ok (.iload 6, 2) := by decide +kernel
theorem dX12_lays_81 : decode cX12_lays 81 = .ok (.imul, 1) := by decide +kernel
theorem dX12_lays_82 : decode cX12_lays 82 = .ok (.iadd, 1) := by decide +kernel
theorem dX12_lays_83 : decode cX12_lays 83 = .ok (.iload 4, 2) := by decide +kernel
theorem dX12_lays_85 : decode cX12_lays 85 = .ok (.iastore, 1) := by decide +kernel
theorem dX12_lays_86 : decode cX12_lays 86 = .ok (.iinc 6 1, 3) := by decide +kernel
theorem dX12_lays_89 : decode cX12_lays 89 = .ok (.goto (-71), 3) := by decide +kernel
theorem dX12_lays_92 : decode cX12_lays 92 = .ok (.return_, 1) := by decide +kernel
theorem dX12_copies_0 : decode cX12_copies 0 = .ok (.iconst 0, 1) := by decide +kernel
theorem dX12_copies_1 : decode cX12_copies 1 = .ok (.istore_n 2, 1) := by decide +kernel
theorem dX12_copies_2 : decode cX12_copies 2 = .ok (.iload_n 2, 1) := by decide +kernel
theorem dX12_copies_3 : decode cX12_copies 3 = .ok (.sipush 304, 3) := by decide +kernel
theorem dX12_copies_6 : decode cX12_copies 6 = .ok (.if_icmp .ge 15, 3) := by decide +kernel
theorem dX12_copies_9 : decode cX12_copies 9 = .ok (.aload_n 1, 1) := by decide +kernel
theorem dX12_copies_10 : decode cX12_copies 10 = .ok (.iload_n 2, 1) := by decide +kernel
theorem dX12_copies_11 : decode cX12_copies 11 = .ok (.aload_n 0, 1) := by decide +kernel
theorem dX12_copies_12 : decode cX12_copies 12 = .ok (.iload_n 2, 1) := by decide +kernel
theorem dX12_copies_13 : decode cX12_copies 13 = .ok (.iaload, 1) := by decide +kernel
theorem dX12_copies_14 : decode cX12_copies 14 = .ok (.iastore, 1) := by decide +kernel
theorem dX12_copies_15 : decode cX12_copies 15 = .ok (.iinc 2 1, 3) := by decide +kernel
theorem dX12_copies_18 : decode cX12_copies 18 = .ok (.goto (-16), 3) := by decide +kernel
theorem dX12_copies_21 : decode cX12_copies 21 = .ok (.return_, 1) := by decide +kernel
theorem dX12_isThing_0 : decode cX12_isThing 0 = .ok (.iload_n 1, 1) := by decide +kernel
theorem dX12_isThing_1 : decode cX12_isThing 1 = .ok (.ifCond .lt 15, 3) := by decide +kernel
theorem dX12_isThing_4 : decode cX12_isThing 4 = .ok (.iload_n 1, 1) := by decide +kernel
theorem dX12_isThing_5 : decode cX12_isThing 5 = .ok (.aload_n 0, 1) := by decide +kernel
theorem dX12_isThing_6 : decode cX12_isThing 6 = .ok (.getfield 294, 3) := by decide +kernel
theorem dX12_isThing_9 : decode cX12_isThing 9 = .ok (.if_icmp .ge 7, 3) := by decide +kernel
theorem dX12_isThing_12 : decode cX12_isThing 12 = .ok (.iconst 1, 1) := by decide +kernel
theorem dX12_isThing_13 : decode cX12_isThing 13 = .ok (.goto 4, 3) := by decide +kernel
theorem dX12_isThing_16 : decode cX12_isThing 16 = .ok (.iconst 0, 1) := by decide +kernel
theorem dX12_isThing_17 : decode cX12_isThing 17 = .ok (.ireturn, 1) := by decide +kernel
theorem dX12_isCard_0 : decode cX12_isCard 0 = .ok (.iload_n 1, 1) := by decide +kernel
theorem dX12_isCard_1 : decode cX12_isCard 1 = .ok (.ifCond .lt 15, 3) := by decide +kernel
theorem dX12_isCard_4 : decode cX12_isCard 4 = .ok (.iload_n 1, 1) := by decide +kernel
theorem dX12_isCard_5 : decode cX12_isCard 5 = .ok (.aload_n 0, 1) := by decide +kernel
theorem dX12_isCard_6 : decode cX12_isCard 6 = .ok (.getfield 297, 3) := by decide +kernel
theorem dX12_isCard_9 : decode cX12_isCard 9 = .ok (.if_icmp .ge 7, 3) := by decide +kernel
theorem dX12_isCard_12 : decode cX12_isCard 12 = .ok (.iconst 1, 1) := by decide +kernel
theorem dX12_isCard_13 : decode cX12_isCard 13 = .ok (.goto 4, 3) := by decide +kernel
theorem dX12_isCard_16 : decode cX12_isCard 16 = .ok (.iconst 0, 1) := by decide +kernel
theorem dX12_isCard_17 : decode cX12_isCard 17 = .ok (.ireturn, 1) := by decide +kernel
theorem dX12_wordsOf_0 : decode cX12_wordsOf 0 = .ok (.aload_n 0, 1) := by decide +kernel
theorem dX12_wordsOf_1 : decode cX12_wordsOf 1 = .ok (.bipush 20, 2) := by decide +kernel
theorem dX12_wordsOf_3 : decode cX12_wordsOf 3 = .ok (.iload_n 1, 1) := by decide +kernel
theorem dX12_wordsOf_4 : decode cX12_wordsOf 4 = .ok (.imul, 1) := by decide +kernel
theorem dX12_wordsOf_5 : decode cX12_wordsOf 5 = .ok (.iconst 1, 1) := by decide +kernel
theorem dX12_wordsOf_6 : decode cX12_wordsOf 6 = .ok (.iadd, 1) := by decide +kernel
theorem dX12_wordsOf_7 : decode cX12_wordsOf 7 = .ok (.iaload, 1) := by decide +kernel
theorem dX12_wordsOf_8 : decode cX12_wordsOf 8 = .ok (.ireturn, 1) := by decide +kernel
theorem dX12_sortOf_0 : decode cX12_sortOf 0 = .ok (.aload_n 0, 1) := by decide +kernel
theorem dX12_sortOf_1 : decode cX12_sortOf 1 = .ok (.bipush 20, 2) := by decide +kernel
theorem dX12_sortOf_3 : decode cX12_sortOf 3 = .ok (.iload_n 1, 1) := by decide +kernel
theorem dX12_sortOf_4 : decode cX12_sortOf 4 = .ok (.imul, 1) := by decide +kernel
theorem dX12_sortOf_5 : decode cX12_sortOf 5 = .ok (.iconst 2, 1) := by decide +kernel
theorem dX12_sortOf_6 : decode cX12_sortOf 6 = .ok (.iadd, 1) := by decide +kernel
theorem dX12_sortOf_7 : decode cX12_sortOf 7 = .ok (.iconst 3, 1) := by decide +kernel
theorem dX12_sortOf_8 : decode cX12_sortOf 8 = .ok (.iload_n 2, 1) := by decide +kernel
theorem dX12_sortOf_9 : decode cX12_sortOf 9 = .ok (.imul, 1) := by decide +kernel
theorem dX12_sortOf_10 : decode cX12_sortOf 10 = .ok (.iadd, 1) := by decide +kernel
theorem dX12_sortOf_11 : decode cX12_sortOf 11 = .ok (.iaload, 1) := by decide +kernel
theorem dX12_sortOf_12 : decode cX12_sortOf 12 = .ok (.ireturn, 1) := by decide +kernel
theorem dX12_whatOf_0 : decode cX12_whatOf 0 = .ok (.aload_n 0, 1) := by decide +kernel
theorem dX12_whatOf_1 : decode cX12_whatOf 1 = .ok (.bipush 20, 2) := by decide +kernel
theorem dX12_whatOf_3 : decode cX12_whatOf 3 = .ok (.iload_n 1, 1) := by decide +kernel
theorem dX12_whatOf_4 : decode cX12_whatOf 4 = .ok (.imul, 1) := by decide +kernel
theorem dX12_whatOf_5 : decode cX12_whatOf 5 = .ok (.iconst 3, 1) := by decide +kernel
theorem dX12_whatOf_6 : decode cX12_whatOf 6 = .ok (.iadd, 1) := by decide +kernel
theorem dX12_whatOf_7 : decode cX12_whatOf 7 = .ok (.iconst 3, 1) := by decide +kernel
theorem dX12_whatOf_8 : decode cX12_whatOf 8 = .ok (.iload_n 2, 1) := by decide +kernel
theorem dX12_whatOf_9 : decode cX12_whatOf 9 = .ok (.imul, 1) := by decide +kernel
theorem dX12_whatOf_10 : decode cX12_whatOf 10 = .ok (.iadd, 1) := by decide +kernel
theorem dX12_whatOf_11 : decode cX12_whatOf 11 = .ok (.iaload, 1) := by decide +kernel
theorem dX12_whatOf_12 : decode cX12_whatOf 12 = .ok (.ireturn, 1) := by decide +kernel
theorem dX12_inkOf_0 : decode cX12_inkOf 0 = .ok (.aload_n 0, 1) := by decide +kernel
theorem dX12_inkOf_1 : decode cX12_inkOf 1 = .ok (.bipush 20, 2) := by decide +kernel
theorem dX12_inkOf_3 : decode cX12_inkOf 3 = .ok (.iload_n 1, 1) := by decide +kernel
theorem dX12_inkOf_4 : decode cX12_inkOf 4 = .ok (.imul, 1) := by decide +kernel
theorem dX12_inkOf_5 : decode cX12_inkOf 5 = .ok (.iconst 4, 1) := by decide +kernel
theorem dX12_inkOf_6 : decode cX12_inkOf 6 = .ok (.iadd, 1) := by decide +kernel
theorem dX12_inkOf_7 : decode cX12_inkOf 7 = .ok (.iconst 3, 1) := by decide +kernel
theorem dX12_inkOf_8 : decode cX12_inkOf 8 = .ok (.iload_n 2, 1) := by decide +kernel
theorem dX12_inkOf_9 : decode cX12_inkOf 9 = .ok (.imul, 1) := by decide +kernel
theorem dX12_inkOf_10 : decode cX12_inkOf 10 = .ok (.iadd, 1) := by decide +kernel
theorem dX12_inkOf_11 : decode cX12_inkOf 11 = .ok (.iaload, 1) := by decide +kernel
theorem dX12_inkOf_12 : decode cX12_inkOf 12 = .ok (.ireturn, 1) := by decide +kernel
theorem dX12_marks_0 : decode cX12_marks 0 = .ok (.aload_n 0, 1) := by decide +kernel
theorem dX12_marks_1 : decode cX12_marks 1 = .ok (.getfield 43, 3) := by decide +kernel
theorem dX12_marks_4 : decode cX12_marks 4 = .ok (.iconst 2, 1) := by decide +kernel
theorem dX12_marks_5 : decode cX12_marks 5 = .ok (.iload_n 1, 1) := by decide +kernel
theorem dX12_marks_6 : decode cX12_marks 6 = .ok (.imul, 1) := by decide +kernel
theorem dX12_marks_7 : decode cX12_marks 7 = .ok (.iconst 1, 1) := by decide +kernel
theorem dX12_marks_8 : decode cX12_marks 8 = .ok (.iadd, 1) := by decide +kernel
theorem dX12_marks_9 : decode cX12_marks 9 = .ok (.iaload, 1) := by decide +kernel
theorem dX12_marks_10 : decode cX12_marks 10 = .ok (.ireturn, 1) := by decide +kernel
theorem dX12_isTrue_0 : decode cX12_isTrue 0 = .ok (.aload_n 1, 1) := by decide +kernel
theorem dX12_isTrue_1 : decode cX12_isTrue 1 = .ok (.iload_n 2, 1) := by decide +kernel
theorem dX12_isTrue_2 : decode cX12_isTrue 2 = .ok (.iload_n 3, 1) := by decide +kernel
theorem dX12_isTrue_3 : decode cX12_isTrue 3 = .ok (.invokestatic 313, 3) := by decide +kernel
theorem dX12_isTrue_6 : decode cX12_isTrue 6 = .ok (.istore 5, 2) := by decide +kernel
theorem dX12_isTrue_8 : decode cX12_isTrue 8 = .ok (.aload_n 1, 1) := by decide +kernel
theorem dX12_isTrue_9 : decode cX12_isTrue 9 = .ok (.iload_n 2, 1) := by decide +kernel
theorem dX12_isTrue_10 : decode cX12_isTrue 10 = .ok (.iload_n 3, 1) := by decide +kernel
theorem dX12_isTrue_11 : decode cX12_isTrue 11 = .ok (.invokestatic 317, 3) := by decide +kernel
theorem dX12_isTrue_14 : decode cX12_isTrue 14 = .ok (.iconst 2, 1) := by decide +kernel
theorem dX12_isTrue_15 : decode cX12_isTrue 15 = .ok (.if_icmp .ge 37, 3) := by decide +kernel
theorem dX12_isTrue_18 : decode cX12_isTrue 18 = .ok (.aload_n 0, 1) := by decide +kernel
theorem dX12_isTrue_19 : decode cX12_isTrue 19 = .ok (.iload 4, 2) := by decide +kernel
theorem dX12_isTrue_21 : decode cX12_isTrue 21 = .ok (.invokevirtual 320, 3) := by decide +kernel
theorem dX12_isTrue_24 : decode cX12_isTrue 24 = .ok (.iload 5, 2) := by decide +kernel
theorem dX12_isTrue_26 : decode cX12_isTrue 26 = .ok (.invokestatic 224, 3) := by decide +kernel
theorem dX12_isTrue_29 : decode cX12_isTrue 29 = .ok (.aload_n 1, 1) := by decide +kernel
theorem dX12_isTrue_30 : decode cX12_isTrue 30 = .ok (.iload_n 2, 1) := by decide +kernel
theorem dX12_isTrue_31 : decode cX12_isTrue 31 = .ok (.iload_n 3, 1) := by decide +kernel
theorem dX12_isTrue_32 : decode cX12_isTrue 32 = .ok (.invokestatic 317, 3) := by decide +kernel
theorem dX12_isTrue_35 : decode cX12_isTrue 35 = .ok (.ifCond .ne 7, 3) := by decide +kernel
theorem dX12_isTrue_38 : decode cX12_isTrue 38 = .ok (.iconst 1, 1) := by decide +kernel
theorem dX12_isTrue_39 : decode cX12_isTrue 39 = .ok (.goto 4, 3) := by decide +kernel
theorem dX12_isTrue_42 : decode cX12_isTrue 42 = .ok (.iconst 0, 1) := by decide +kernel
theorem dX12_isTrue_43 : decode cX12_isTrue 43 = .ok (.if_icmp .ne 7, 3) := by decide +kernel
theorem dX12_isTrue_46 : decode cX12_isTrue 46 = .ok (.iconst 1, 1) := by decide +kernel
theorem dX12_isTrue_47 : decode cX12_isTrue 47 = .ok (.goto 4, 3) := by decide +kernel
theorem dX12_isTrue_50 : decode cX12_isTrue 50 = .ok (.iconst 0, 1) := by decide +kernel
theorem dX12_isTrue_51 : decode cX12_isTrue 51 = .ok (.ireturn, 1) := by decide +kernel
theorem dX12_isTrue_52 : decode cX12_isTrue 52 = .ok (.iload 5, 2) := by decide +kernel
theorem dX12_isTrue_54 : decode cX12_isTrue 54 = .ok (.iload_n 2, 1) := by decide +kernel
theorem dX12_isTrue_55 : decode cX12_isTrue 55 = .ok (.if_icmp .ne 18, 3) := by decide +kernel
theorem dX12_isTrue_58 : decode cX12_isTrue 58 = .ok (.aload_n 0, 1) := by decide +kernel
theorem dX12_isTrue_59 : decode cX12_isTrue 59 = .ok (.iload 4, 2) := by decide +kernel
theorem dX12_isTrue_61 : decode cX12_isTrue 61 = .ok (.invokevirtual 320, 3) := by decide +kernel
theorem dX12_isTrue_64 : decode cX12_isTrue 64 = .ok (.ifCond .eq 7, 3) := by decide +kernel
theorem dX12_isTrue_67 : decode cX12_isTrue 67 = .ok (.iconst 1, 1) := by decide +kernel
theorem dX12_isTrue_68 : decode cX12_isTrue 68 = .ok (.goto 4, 3) := by decide +kernel
theorem dX12_isTrue_71 : decode cX12_isTrue 71 = .ok (.iconst 0, 1) := by decide +kernel
theorem dX12_isTrue_72 : decode cX12_isTrue 72 = .ok (.ireturn, 1) := by decide +kernel
theorem dX12_isTrue_73 : decode cX12_isTrue 73 = .ok (.iload 5, 2) := by decide +kernel
theorem dX12_isTrue_75 : decode cX12_isTrue 75 = .ok (.aload_n 0, 1) := by decide +kernel
theorem dX12_isTrue_76 : decode cX12_isTrue 76 = .ok (.getfield 297, 3) := by decide +kernel
theorem dX12_isTrue_79 : decode cX12_isTrue 79 = .ok (.if_icmp .ge 14, 3) := by decide +kernel
theorem dX12_isTrue_82 : decode cX12_isTrue 82 = .ok (.aload_n 1, 1) := by decide +kernel
theorem dX12_isTrue_83 : decode cX12_isTrue 83 = .ok (.bipush 20, 2) := by decide +kernel
theorem dX12_isTrue_85 : decode cX12_isTrue 85 = .ok (.iload 5, 2) := by decide +kernel
theorem dX12_isTrue_87 : decode cX12_isTrue 87 = .ok (.imul, 1) := by decide +kernel
theorem dX12_isTrue_88 : decode cX12_isTrue 88 = .ok (.iaload, 1) := by decide +kernel
theorem dX12_isTrue_89 : decode cX12_isTrue 89 = .ok (.iconst (-1), 1) := by decide +kernel
theorem dX12_isTrue_90 : decode cX12_isTrue 90 = .ok (.if_icmp .ne 5, 3) := by decide +kernel
theorem dX12_isTrue_93 : decode cX12_isTrue 93 = .ok (.iconst 0, 1) := by decide +kernel
theorem dX12_isTrue_94 : decode cX12_isTrue 94 = .ok (.ireturn, 1) := by decide +kernel
theorem dX12_isTrue_95 : decode cX12_isTrue 95 = .ok (.aload_n 0, 1) := by decide +kernel
theorem dX12_isTrue_96 : decode cX12_isTrue 96 = .ok (.iload 4, 2) := by decide +kernel
theorem dX12_isTrue_98 : decode cX12_isTrue 98 = .ok (.invokevirtual 320, 3) := by decide +kernel
theorem dX12_isTrue_101 : decode cX12_isTrue 101 = .ok (.aload_n 0, 1) := by decide +kernel
theorem dX12_isTrue_102 : decode cX12_isTrue 102 = .ok (.aload_n 1, 1) := by decide +kernel
theorem dX12_isTrue_103 : decode cX12_isTrue 103 = .ok (.bipush 20, 2) := by decide +kernel
theorem dX12_isTrue_105 : decode cX12_isTrue 105 = .ok (.iload 5, 2) := by decide +kernel
theorem dX12_isTrue_107 : decode cX12_isTrue 107 = .ok (.imul, 1) := by decide +kernel
theorem dX12_isTrue_108 : decode cX12_isTrue 108 = .ok (.iaload, 1) := by decide +kernel
theorem dX12_isTrue_109 : decode cX12_isTrue 109 = .ok (.invokevirtual 320, 3) := by decide +kernel
theorem dX12_isTrue_112 : decode cX12_isTrue 112 = .ok (.iand, 1) := by decide +kernel
theorem dX12_isTrue_113 : decode cX12_isTrue 113 = .ok (.ifCond .eq 7, 3) := by decide +kernel
theorem dX12_isTrue_116 : decode cX12_isTrue 116 = .ok (.iconst 1, 1) := by decide +kernel
theorem dX12_isTrue_117 : decode cX12_isTrue 117 = .ok (.goto 4, 3) := by decide +kernel
theorem dX12_isTrue_120 : decode cX12_isTrue 120 = .ok (.iconst 0, 1) := by decide +kernel
theorem dX12_isTrue_121 : decode cX12_isTrue 121 = .ok (.ireturn, 1) := by decide +kernel
theorem dX12_fitsIn_0 : decode cX12_fitsIn 0 = .ok (.iconst 0, 1) := by decide +kernel
theorem dX12_fitsIn_1 : decode cX12_fitsIn 1 = .ok (.istore 4, 2) := by decide +kernel
theorem dX12_fitsIn_3 : decode cX12_fitsIn 3 = .ok (.iload 4, 2) := by decide +kernel
theorem dX12_fitsIn_5 : decode cX12_fitsIn 5 = .ok (.aload_n 1, 1) := by decide +kernel
theorem dX12_fitsIn_6 : decode cX12_fitsIn 6 = .ok (.iload_n 2, 1) := by decide +kernel
theorem dX12_fitsIn_7 : decode cX12_fitsIn 7 = .ok (.invokestatic 323, 3) := by decide +kernel
theorem dX12_fitsIn_10 : decode cX12_fitsIn 10 = .ok (.if_icmp .ge 33, 3) := by decide +kernel
theorem dX12_fitsIn_13 : decode cX12_fitsIn 13 = .ok (.aload_n 1, 1) := by decide +kernel
theorem dX12_fitsIn_14 : decode cX12_fitsIn 14 = .ok (.iload_n 2, 1) := by decide +kernel
theorem dX12_fitsIn_15 : decode cX12_fitsIn 15 = .ok (.iload 4, 2) := by decide +kernel
theorem dX12_fitsIn_17 : decode cX12_fitsIn 17 = .ok (.invokestatic 327, 3) := by decide +kernel
theorem dX12_fitsIn_20 : decode cX12_fitsIn 20 = .ok (.ifCond .le 17, 3) := by decide +kernel
theorem dX12_fitsIn_23 : decode cX12_fitsIn 23 = .ok (.aload_n 0, 1) := by decide +kernel
theorem dX12_fitsIn_24 : decode cX12_fitsIn 24 = .ok (.aload_n 1, 1) := by decide +kernel
theorem dX12_fitsIn_25 : decode cX12_fitsIn 25 = .ok (.iload_n 2, 1) := by decide +kernel
theorem dX12_fitsIn_26 : decode cX12_fitsIn 26 = .ok (.iload 4, 2) := by decide +kernel
theorem dX12_fitsIn_28 : decode cX12_fitsIn 28 = .ok (.iload_n 3, 1) := by decide +kernel
theorem dX12_fitsIn_29 : decode cX12_fitsIn 29 = .ok (.invokevirtual 330, 3) := by decide +kernel
theorem dX12_fitsIn_32 : decode cX12_fitsIn 32 = .ok (.ifCond .ne 5, 3) := by decide +kernel
theorem dX12_fitsIn_35 : decode cX12_fitsIn 35 = .ok (.iconst 0, 1) := by decide +kernel
theorem dX12_fitsIn_36 : decode cX12_fitsIn 36 = .ok (.ireturn, 1) := by decide +kernel
theorem dX12_fitsIn_37 : decode cX12_fitsIn 37 = .ok (.iinc 4 1, 3) := by decide +kernel
theorem dX12_fitsIn_40 : decode cX12_fitsIn 40 = .ok (.goto (-37), 3) := by decide +kernel
theorem dX12_fitsIn_43 : decode cX12_fitsIn 43 = .ok (.iconst 1, 1) := by decide +kernel
theorem dX12_fitsIn_44 : decode cX12_fitsIn 44 = .ok (.ireturn, 1) := by decide +kernel
theorem dX12_isRight_0 : decode cX12_isRight 0 = .ok (.aload_n 1, 1) := by decide +kernel
theorem dX12_isRight_1 : decode cX12_isRight 1 = .ok (.bipush 20, 2) := by decide +kernel
theorem dX12_isRight_3 : decode cX12_isRight 3 = .ok (.iload_n 2, 1) := by decide +kernel
theorem dX12_isRight_4 : decode cX12_isRight 4 = .ok (.imul, 1) := by decide +kernel
theorem dX12_isRight_5 : decode cX12_isRight 5 = .ok (.iaload, 1) := by decide +kernel
theorem dX12_isRight_6 : decode cX12_isRight 6 = .ok (.iconst (-1), 1) := by decide +kernel
theorem dX12_isRight_7 : decode cX12_isRight 7 = .ok (.if_icmp .eq 22, 3) := by decide +kernel
theorem dX12_isRight_10 : decode cX12_isRight 10 = .ok (.aload_n 0, 1) := by decide +kernel
theorem dX12_isRight_11 : decode cX12_isRight 11 = .ok (.aload_n 1, 1) := by decide +kernel
theorem dX12_isRight_12 : decode cX12_isRight 12 = .ok (.iload_n 2, 1) := by decide +kernel
theorem dX12_isRight_13 : decode cX12_isRight 13 = .ok (.aload_n 1, 1) := by decide +kernel
theorem dX12_isRight_14 : decode cX12_isRight 14 = .ok (.bipush 20, 2) := by decide +kernel
theorem dX12_isRight_16 : decode cX12_isRight 16 = .ok (.iload_n 2, 1) := by decide +kernel
theorem dX12_isRight_17 : decode cX12_isRight 17 = .ok (.imul, 1) := by decide +kernel
theorem dX12_isRight_18 : decode cX12_isRight 18 = .ok (.iaload, 1) := by decide +kernel
theorem dX12_isRight_19 : decode cX12_isRight 19 = .ok (.invokevirtual 334, 3) := by decide +kernel
theorem dX12_isRight_22 : decode cX12_isRight 22 = .ok (.ifCond .eq 7, 3) := by decide +kernel
theorem dX12_isRight_25 : decode cX12_isRight 25 = .ok (.iconst 1, 1) := by decide +kernel
theorem dX12_isRight_26 : decode cX12_isRight 26 = .ok (.goto 4, 3) := by decide +kernel
theorem dX12_isRight_29 : decode cX12_isRight 29 = .ok (.iconst 0, 1) := by decide +kernel
theorem dX12_isRight_30 : decode cX12_isRight 30 = .ok (.ireturn, 1) := by decide +kernel
theorem dX12_cardOver_0 : decode cX12_cardOver 0 = .ok (.iconst 0, 1) := by decide +kernel
theorem dX12_cardOver_1 : decode cX12_cardOver 1 = .ok (.istore_n 3, 1) := by decide +kernel
theorem dX12_cardOver_2 : decode cX12_cardOver 2 = .ok (.iload_n 3, 1) := by decide +kernel
theorem dX12_cardOver_3 : decode cX12_cardOver 3 = .ok (.aload_n 0, 1) := by decide +kernel
theorem dX12_cardOver_4 : decode cX12_cardOver 4 = .ok (.getfield 297, 3) := by decide +kernel
theorem dX12_cardOver_7 : decode cX12_cardOver 7 = .ok (.if_icmp .ge 21, 3) := by decide +kernel
theorem dX12_cardOver_10 : decode cX12_cardOver 10 = .ok (.aload_n 1, 1) := by decide +kernel
theorem dX12_cardOver_11 : decode cX12_cardOver 11 = .ok (.bipush 20, 2) := by decide +kernel
theorem dX12_cardOver_13 : decode cX12_cardOver 13 = .ok (.iload_n 3, 1) := by decide +kernel
theorem dX12_cardOver_14 : decode cX12_cardOver 14 = .ok (.imul, 1) := by decide +kernel
theorem dX12_cardOver_15 : decode cX12_cardOver 15 = .ok (.iaload, 1) := by decide +kernel
theorem dX12_cardOver_16 : decode cX12_cardOver 16 = .ok (.iload_n 2, 1) := by decide +kernel
theorem dX12_cardOver_17 : decode cX12_cardOver 17 = .ok (.if_icmp .ne 5, 3) := by decide +kernel
theorem dX12_cardOver_20 : decode cX12_cardOver 20 = .ok (.iload_n 3, 1) := by decide +kernel
theorem dX12_cardOver_21 : decode cX12_cardOver 21 = .ok (.ireturn, 1) := by decide +kernel
theorem dX12_cardOver_22 : decode cX12_cardOver 22 = .ok (.iinc 3 1, 3) := by decide +kernel
theorem dX12_cardOver_25 : decode cX12_cardOver 25 = .ok (.goto (-23), 3) := by decide +kernel
theorem dX12_cardOver_28 : decode cX12_cardOver 28 = .ok (.iconst (-1), 1) := by decide +kernel
theorem dX12_cardOver_29 : decode cX12_cardOver 29 = .ok (.ireturn, 1) := by decide +kernel
theorem dX12_fadeOf_0 : decode cX12_fadeOf 0 = .ok (.aload_n 0, 1) := by decide +kernel
theorem dX12_fadeOf_1 : decode cX12_fadeOf 1 = .ok (.getfield 52, 3) := by decide +kernel
theorem dX12_fadeOf_4 : decode cX12_fadeOf 4 = .ok (.bipush 16, 2) := by decide +kernel
theorem dX12_fadeOf_6 : decode cX12_fadeOf 6 = .ok (.iload_n 2, 1) := by decide +kernel
theorem dX12_fadeOf_7 : decode cX12_fadeOf 7 = .ok (.imul, 1) := by decide +kernel
theorem dX12_fadeOf_8 : decode cX12_fadeOf 8 = .ok (.iconst 1, 1) := by decide +kernel
theorem dX12_fadeOf_9 : decode cX12_fadeOf 9 = .ok (.iadd, 1) := by decide +kernel
theorem dX12_fadeOf_10 : decode cX12_fadeOf 10 = .ok (.iaload, 1) := by decide +kernel
theorem dX12_fadeOf_11 : decode cX12_fadeOf 11 = .ok (.istore 4, 2) := by decide +kernel
theorem dX12_fadeOf_13 : decode cX12_fadeOf 13 = .ok (.aload_n 0, 1) := by decide +kernel
theorem dX12_fadeOf_14 : decode cX12_fadeOf 14 = .ok (.getfield 67, 3) := by decide +kernel
theorem dX12_fadeOf_17 : decode cX12_fadeOf 17 = .ok (.iconst (-1), 1) := by decide +kernel
theorem dX12_fadeOf_18 : decode cX12_fadeOf 18 = .ok (.if_icmp .ne 17, 3) := by decide +kernel
theorem dX12_fadeOf_21 : decode cX12_fadeOf 21 = .ok (.aload_n 1, 1) := by decide +kernel
theorem dX12_fadeOf_22 : decode cX12_fadeOf 22 = .ok (.bipush 120, 2) := by decide +kernel
theorem dX12_fadeOf_24 : decode cX12_fadeOf 24 = .ok (.iaload, 1) := by decide +kernel
theorem dX12_fadeOf_25 : decode cX12_fadeOf 25 = .ok (.ifCond .ne 7, 3) := by decide +kernel
theorem dX12_fadeOf_28 : decode cX12_fadeOf 28 = .ok (.iconst 0, 1) := by decide +kernel
theorem dX12_fadeOf_29 : decode cX12_fadeOf 29 = .ok (.goto 5, 3) := by decide +kernel
theorem dX12_fadeOf_32 : decode cX12_fadeOf 32 = .ok (.iload 4, 2) := by decide +kernel
theorem dX12_fadeOf_34 : decode cX12_fadeOf 34 = .ok (.ireturn, 1) := by decide +kernel
theorem dX12_fadeOf_35 : decode cX12_fadeOf 35 = .ok (.aload_n 0, 1) := by decide +kernel
theorem dX12_fadeOf_36 : decode cX12_fadeOf 36 = .ok (.getfield 20, 3) := by decide +kernel
theorem dX12_fadeOf_39 : decode cX12_fadeOf 39 = .ok (.bipush 105, 2) := by decide +kernel
theorem dX12_fadeOf_41 : decode cX12_fadeOf 41 = .ok (.aload_n 1, 1) := by decide +kernel
theorem dX12_fadeOf_42 : decode cX12_fadeOf 42 = .ok (.iload_n 2, 1) := by decide +kernel
theorem dX12_fadeOf_43 : decode cX12_fadeOf 43 = .ok (.iload_n 3, 1) := by decide +kernel
theorem dX12_fadeOf_44 : decode cX12_fadeOf 44 = .ok (.invokestatic 327, 3) := by decide +kernel
theorem dX12_fadeOf_47 : decode cX12_fadeOf 47 = .ok (.iastore, 1) := by decide +kernel
theorem dX12_fadeOf_48 : decode cX12_fadeOf 48 = .ok (.aload_n 0, 1) := by decide +kernel
theorem dX12_fadeOf_49 : decode cX12_fadeOf 49 = .ok (.getfield 20, 3) := by decide +kernel
theorem dX12_fadeOf_52 : decode cX12_fadeOf 52 = .ok (.bipush 102, 2) := by decide +kernel
theorem dX12_fadeOf_54 : decode cX12_fadeOf 54 = .ok (.iload 4, 2) := by decide +kernel
theorem dX12_fadeOf_56 : decode cX12_fadeOf 56 = .ok (.iastore, 1) := by decide +kernel
theorem dX12_fadeOf_57 : decode cX12_fadeOf 57 = .ok (.aload_n 0, 1) := by decide +kernel
theorem dX12_fadeOf_58 : decode cX12_fadeOf 58 = .ok (.getfield 20, 3) := by decide +kernel
theorem dX12_fadeOf_61 : decode cX12_fadeOf 61 = .ok (.bipush 108, 2) := by decide +kernel
theorem dX12_fadeOf_63 : decode cX12_fadeOf 63 = .ok (.aload_n 1, 1) := by decide +kernel
theorem dX12_fadeOf_64 : decode cX12_fadeOf 64 = .ok (.bipush 120, 2) := by decide +kernel
theorem dX12_fadeOf_66 : decode cX12_fadeOf 66 = .ok (.iaload, 1) := by decide +kernel
theorem dX12_fadeOf_67 : decode cX12_fadeOf 67 = .ok (.iastore, 1) := by decide +kernel
theorem dX12_fadeOf_68 : decode cX12_fadeOf 68 = .ok (.aload_n 0, 1) := by decide +kernel
theorem dX12_fadeOf_69 : decode cX12_fadeOf 69 = .ok (.getfield 20, 3) := by decide +kernel
theorem dX12_fadeOf_72 : decode cX12_fadeOf 72 = .ok (.bipush 112, 2) := by decide +kernel
theorem dX12_fadeOf_74 : decode cX12_fadeOf 74 = .ok (.iload_n 3, 1) := by decide +kernel
theorem dX12_fadeOf_75 : decode cX12_fadeOf 75 = .ok (.iastore, 1) := by decide +kernel
theorem dX12_fadeOf_76 : decode cX12_fadeOf 76 = .ok (.aload_n 0, 1) := by decide +kernel
theorem dX12_fadeOf_77 : decode cX12_fadeOf 77 = .ok (.getfield 20, 3) := by decide +kernel
theorem dX12_fadeOf_80 : decode cX12_fadeOf 80 = .ok (.bipush 107, 2) := by decide +kernel
theorem dX12_fadeOf_82 : decode cX12_fadeOf 82 = .ok (.aload_n 1, 1) := by decide +kernel
theorem dX12_fadeOf_83 : decode cX12_fadeOf 83 = .ok (.iload_n 2, 1) := by decide +kernel
theorem dX12_fadeOf_84 : decode cX12_fadeOf 84 = .ok (.iload_n 3, 1) := by decide +kernel
theorem dX12_fadeOf_85 : decode cX12_fadeOf 85 = .ok (.invokestatic 317, 3) := by decide +kernel
theorem dX12_fadeOf_88 : decode cX12_fadeOf 88 = .ok (.iastore, 1) := by decide +kernel
theorem dX12_fadeOf_89 : decode cX12_fadeOf 89 = .ok (.aload_n 0, 1) := by decide +kernel
theorem dX12_fadeOf_90 : decode cX12_fadeOf 90 = .ok (.getfield 20, 3) := by decide +kernel
theorem dX12_fadeOf_93 : decode cX12_fadeOf 93 = .ok (.bipush 100, 2) := by decide +kernel
theorem dX12_fadeOf_95 : decode cX12_fadeOf 95 = .ok (.aload_n 1, 1) := by decide +kernel
theorem dX12_fadeOf_96 : decode cX12_fadeOf 96 = .ok (.bipush 122, 2) := by decide +kernel
theorem dX12_fadeOf_98 : decode cX12_fadeOf 98 = .ok (.iaload, 1) := by decide +kernel
theorem dX12_fadeOf_99 : decode cX12_fadeOf 99 = .ok (.iastore, 1) := by decide +kernel
theorem dX12_fadeOf_100 : decode cX12_fadeOf 100 = .ok (.aload_n 0, 1) := by decide +kernel
theorem dX12_fadeOf_101 : decode cX12_fadeOf 101 = .ok (.aload_n 0, 1) := by decide +kernel
theorem dX12_fadeOf_102 : decode cX12_fadeOf 102 = .ok (.getfield 13, 3) := by decide +kernel
theorem dX12_fadeOf_105 : decode cX12_fadeOf 105 = .ok (.sipush 240, 3) := by decide +kernel
theorem dX12_fadeOf_108 : decode cX12_fadeOf 108 = .ok (.aload_n 0, 1) := by decide +kernel
theorem dX12_fadeOf_109 : decode cX12_fadeOf 109 = .ok (.getfield 67, 3) := by decide +kernel
theorem dX12_fadeOf_112 : decode cX12_fadeOf 112 = .ok (.imul, 1) := by decide +kernel
theorem dX12_fadeOf_113 : decode cX12_fadeOf 113 = .ok (.aload_n 0, 1) := by decide +kernel
theorem dX12_fadeOf_114 : decode cX12_fadeOf 114 = .ok (.getfield 16, 3) := by decide +kernel
theorem dX12_fadeOf_117 : decode cX12_fadeOf 117 = .ok (.aload_n 0, 1) := by decide +kernel
theorem dX12_fadeOf_118 : decode cX12_fadeOf 118 = .ok (.getfield 67, 3) := by decide +kernel
theorem dX12_fadeOf_121 : decode cX12_fadeOf 121 = .ok (.iaload, 1) := by decide +kernel
theorem dX12_fadeOf_122 : decode cX12_fadeOf 122 = .ok (.invokevirtual 283, 3) := by decide +kernel
theorem dX12_fadeOf_125 : decode cX12_fadeOf 125 = .ok (.iconst 0, 1) := by decide +kernel
theorem dX12_fadeOf_126 : decode cX12_fadeOf 126 = .ok (.bipush 9, 2) := by decide +kernel
theorem dX12_fadeOf_128 : decode cX12_fadeOf 128 = .ok (.aload_n 0, 1) := by decide +kernel
theorem dX12_fadeOf_129 : decode cX12_fadeOf 129 = .ok (.getfield 199, 3) := by decide +kernel
theorem dX12_fadeOf_132 : decode cX12_fadeOf 132 = .ok (.invokestatic 338, 3) := by decide +kernel
theorem dX12_fadeOf_135 : decode cX12_fadeOf 135 = .ok (.invokestatic 340, 3) := by decide +kernel
theorem dX12_fadeOf_138 : decode cX12_fadeOf 138 = .ok (.ireturn, 1) := by decide +kernel
theorem dX12_fades_0 : decode cX12_fades 0 = .ok (.iconst 0, 1) := by decide +kernel
theorem dX12_fades_1 : decode cX12_fades 1 = .ok (.istore_n 2, 1) := by decide +kernel
theorem dX12_fades_2 : decode cX12_fades 2 = .ok (.iconst 0, 1) := by decide +kernel
theorem dX12_fades_3 : decode cX12_fades 3 = .ok (.istore_n 3, 1) := by decide +kernel
theorem dX12_fades_4 : decode cX12_fades 4 = .ok (.iload_n 3, 1) := by decide +kernel
theorem dX12_fades_5 : decode cX12_fades 5 = .ok (.aload_n 0, 1) := by decide +kernel
theorem dX12_fades_6 : decode cX12_fades 6 = .ok (.getfield 297, 3) := by decide +kernel
theorem dX12_fades_9 : decode cX12_fades 9 = .ok (.if_icmp .ge 90, 3) := by decide +kernel
theorem dX12_fades_12 : decode cX12_fades 12 = .ok (.iconst 0, 1) := by decide +kernel
theorem dX12_fades_13 : decode cX12_fades 13 = .ok (.istore 4, 2) := by decide +kernel
theorem dX12_fades_15 : decode cX12_fades 15 = .ok (.iload 4, 2) := by decide +kernel
theorem dX12_fades_17 : decode cX12_fades 17 = .ok (.aload_n 1, 1) := by decide +kernel
theorem dX12_fades_18 : decode cX12_fades 18 = .ok (.iload_n 3, 1) := by decide +kernel
theorem dX12_fades_19 : decode cX12_fades 19 = .ok (.invokestatic 323, 3) := by decide +kernel
theorem dX12_fades_22 : decode cX12_fades 22 = .ok (.if_icmp .ge 71, 3) := by decide +kernel
theorem dX12_fades_25 : decode cX12_fades 25 = .ok (.aload_n 1, 1) := by decide +kernel
theorem dX12_fades_26 : decode cX12_fades 26 = .ok (.iload_n 3, 1) := by decide +kernel
theorem dX12_fades_27 : decode cX12_fades 27 = .ok (.iload 4, 2) := by decide +kernel
theorem dX12_fades_29 : decode cX12_fades 29 = .ok (.invokestatic 327, 3) := by decide +kernel
theorem dX12_fades_32 : decode cX12_fades 32 = .ok (.istore 5, 2) := by decide +kernel
theorem dX12_fades_34 : decode cX12_fades 34 = .ok (.iload 5, 2) := by decide +kernel
theorem dX12_fades_36 : decode cX12_fades 36 = .ok (.ifCond .ne 6, 3) := by decide +kernel
theorem dX12_fades_39 : decode cX12_fades 39 = .ok (.goto 48, 3) := by decide +kernel
theorem dX12_fades_42 : decode cX12_fades 42 = .ok (.iconst 0, 1) := by decide +kernel
theorem dX12_fades_43 : decode cX12_fades 43 = .ok (.iload 5, 2) := by decide +kernel
theorem dX12_fades_45 : decode cX12_fades 45 = .ok (.aload_n 0, 1) := by decide +kernel
theorem dX12_fades_46 : decode cX12_fades 46 = .ok (.aload_n 1, 1) := by decide +kernel
theorem dX12_fades_47 : decode cX12_fades 47 = .ok (.iload_n 3, 1) := by decide +kernel
theorem dX12_fades_48 : decode cX12_fades 48 = .ok (.iload 4, 2) := by decide +kernel
theorem dX12_fades_50 : decode cX12_fades 50 = .ok (.invokevirtual 342, 3) := by decide +kernel
theorem dX12_fades_53 : decode cX12_fades 53 = .ok (.isub, 1) := by decide +kernel
theorem dX12_fades_54 : decode cX12_fades 54 = .ok (.invokestatic 340, 3) := by decide +kernel
theorem dX12_fades_57 : decode cX12_fades 57 = .ok (.istore 6, 2) := by decide +kernel
theorem dX12_fades_59 : decode cX12_fades 59 = .ok (.aload_n 1, 1) := by decide +kernel
theorem dX12_fades_60 : decode cX12_fades 60 = .ok (.bipush 20, 2) := by decide +kernel
theorem dX12_fades_62 : decode cX12_fades 62 = .ok (.iload_n 3, 1) := by decide +kernel
theorem dX12_fades_63 : decode cX12_fades 63 = .ok (.imul, 1) := by decide +kernel
theorem dX12_fades_64 : decode cX12_fades 64 = .ok (.iconst 4, 1) := by decide +kernel
theorem dX12_fades_65 : decode cX12_fades 65 = .ok (.iadd, 1) := by decide +kernel
theorem dX12_fades_66 : decode cX12_fades 66 = .ok (.iconst 3, 1) := by decide +kernel
theorem dX12_fades_67 : decode cX12_fades 67 = .ok (.iload 4, 2) := by decide +kernel
theorem dX12_fades_69 : decode cX12_fades 69 = .ok (.imul, 1) := by decide +kernel
theorem dX12_fades_70 : decode cX12_fades 70 = .ok (.iadd, 1) := by decide +kernel
theorem dX12_fades_71 : decode cX12_fades 71 = .ok (.iload 6, 2) := by decide +kernel
theorem dX12_fades_73 : decode cX12_fades 73 = .ok (.iastore, 1) := by decide +kernel
theorem dX12_fades_74 : decode cX12_fades 74 = .ok (.iload_n 2, 1) := by decide +kernel
theorem dX12_fades_75 : decode cX12_fades 75 = .ok (.iload 6, 2) := by decide +kernel
theorem dX12_fades_77 : decode cX12_fades 77 = .ok (.ifCond .ne 7, 3) := by decide +kernel
theorem dX12_fades_80 : decode cX12_fades 80 = .ok (.iconst 1, 1) := by decide +kernel
theorem dX12_fades_81 : decode cX12_fades 81 = .ok (.goto 4, 3) := by decide +kernel
theorem dX12_fades_84 : decode cX12_fades 84 = .ok (.iconst 0, 1) := by decide +kernel
theorem dX12_fades_85 : decode cX12_fades 85 = .ok (.iadd, 1) := by decide +kernel
theorem dX12_fades_86 : decode cX12_fades 86 = .ok (.istore_n 2, 1) := by decide +kernel
theorem dX12_fades_87 : decode cX12_fades 87 = .ok (.iinc 4 1, 3) := by decide +kernel
theorem dX12_fades_90 : decode cX12_fades 90 = .ok (.goto (-75), 3) := by decide +kernel
theorem dX12_fades_93 : decode cX12_fades 93 = .ok (.iinc 3 1, 3) := by decide +kernel
theorem dX12_fades_96 : decode cX12_fades 96 = .ok (.goto (-92), 3) := by decide +kernel
theorem dX12_fades_99 : decode cX12_fades 99 = .ok (.iload_n 2, 1) := by decide +kernel
theorem dX12_fades_100 : decode cX12_fades 100 = .ok (.ireturn, 1) := by decide +kernel
theorem dX12_isChanged_0 : decode cX12_isChanged 0 = .ok (.iconst (-1), 1) := by decide +kernel
theorem dX12_isChanged_1 : decode cX12_isChanged 1 = .ok (.istore_n 3, 1) := by decide +kernel
theorem dX12_isChanged_2 : decode cX12_isChanged 2 = .ok (.iconst 0, 1) := by decide +kernel
theorem dX12_isChanged_3 : decode cX12_isChanged 3 = .ok (.istore 4, 2) := by decide +kernel
theorem dX12_isChanged_5 : decode cX12_isChanged 5 = .ok (.iload 4, 2) := by decide +kernel
theorem dX12_isChanged_7 : decode cX12_isChanged 7 = .ok (.aload_n 0, 1) := by decide +kernel
theorem dX12_isChanged_8 : decode cX12_isChanged 8 = .ok (.getfield 294, 3) := by decide +kernel
theorem dX12_isChanged_11 : decode cX12_isChanged 11 = .ok (.if_icmp .ge 78, 3) := by decide +kernel
theorem dX12_isChanged_14 : decode cX12_isChanged 14 = .ok (.aload_n 0, 1) := by decide +kernel
theorem dX12_isChanged_15 : decode cX12_isChanged 15 = .ok (.aload_n 1, 1) := by decide +kernel
theorem dX12_isChanged_16 : decode cX12_isChanged 16 = .ok (.iload 4, 2) := by decide +kernel
theorem dX12_isChanged_18 : decode cX12_isChanged 18 = .ok (.invokevirtual 345, 3) := by decide +kernel
theorem dX12_isChanged_21 : decode cX12_isChanged 21 = .ok (.iconst (-1), 1) := by decide +kernel
theorem dX12_isChanged_22 : decode cX12_isChanged 22 = .ok (.if_icmp .ne 61, 3) := by decide +kernel
theorem dX12_isChanged_25 : decode cX12_isChanged 25 = .ok (.aload_n 0, 1) := by decide +kernel
theorem dX12_isChanged_26 : decode cX12_isChanged 26 = .ok (.getfield 43, 3) := by decide +kernel
theorem dX12_isChanged_29 : decode cX12_isChanged 29 = .ok (.iconst 2, 1) := by decide +kernel
theorem dX12_isChanged_30 : decode cX12_isChanged 30 = .ok (.iload 4, 2) := by decide +kernel
theorem dX12_isChanged_32 : decode cX12_isChanged 32 = .ok (.imul, 1) := by decide +kernel
theorem dX12_isChanged_33 : decode cX12_isChanged 33 = .ok (.iaload, 1) := by decide +kernel
theorem dX12_isChanged_34 : decode cX12_isChanged 34 = .ok (.aload_n 1, 1) := by decide +kernel
theorem dX12_isChanged_35 : decode cX12_isChanged 35 = .ok (.bipush 121, 2) := by decide +kernel
theorem dX12_isChanged_37 : decode cX12_isChanged 37 = .ok (.iaload, 1) := by decide +kernel
theorem dX12_isChanged_38 : decode cX12_isChanged 38 = .ok (.if_icmp .gt 45, 3) := by decide +kernel
theorem dX12_isChanged_41 : decode cX12_isChanged 41 = .ok (.aload_n 0, 1) := by decide +kernel
theorem dX12_isChanged_42 : decode cX12_isChanged 42 = .ok (.aload_n 1, 1) := by decide +kernel
theorem dX12_isChanged_43 : decode cX12_isChanged 43 = .ok (.iload_n 2, 1) := by decide +kernel
theorem dX12_isChanged_44 : decode cX12_isChanged 44 = .ok (.iload 4, 2) := by decide +kernel
theorem dX12_isChanged_46 : decode cX12_isChanged 46 = .ok (.invokevirtual 334, 3) := by decide +kernel
theorem dX12_isChanged_49 : decode cX12_isChanged 49 = .ok (.ifCond .ne 6, 3) := by decide +kernel
theorem dX12_isChanged_52 : decode cX12_isChanged 52 = .ok (.goto 31, 3) := by decide +kernel
theorem dX12_isChanged_55 : decode cX12_isChanged 55 = .ok (.iload_n 3, 1) := by decide +kernel
theorem dX12_isChanged_56 : decode cX12_isChanged 56 = .ok (.iconst (-1), 1) := by decide +kernel
theorem dX12_isChanged_57 : decode cX12_isChanged 57 = .ok (.if_icmp .eq 23, 3) := by decide +kernel
theorem dX12_isChanged_60 : decode cX12_isChanged 60 = .ok (.aload_n 0, 1) := by decide +kernel
theorem dX12_isChanged_61 : decode cX12_isChanged 61 = .ok (.getfield 43, 3) := by decide +kernel
theorem dX12_isChanged_64 : decode cX12_isChanged 64 = .ok (.iconst 2, 1) := by decide +kernel
theorem dX12_isChanged_65 : decode cX12_isChanged 65 = .ok (.iload 4, 2) := by decide +kernel
theorem dX12_isChanged_67 : decode cX12_isChanged 67 = .ok (.imul, 1) := by decide +kernel
theorem dX12_isChanged_68 : decode cX12_isChanged 68 = .ok (.iaload, 1) := by decide +kernel
theorem dX12_isChanged_69 : decode cX12_isChanged 69 = .ok (.aload_n 0, 1) := by decide +kernel
theorem dX12_isChanged_70 : decode cX12_isChanged 70 = .ok (.getfield 43, 3) := by decide +kernel
theorem dX12_isChanged_73 : decode cX12_isChanged 73 = .ok (.iconst 2, 1) := by decide +kernel
theorem dX12_isChanged_74 : decode cX12_isChanged 74 = .ok (.iload_n 3, 1) := by decide +kernel
theorem dX12_isChanged_75 : decode cX12_isChanged 75 = .ok (.imul, 1) := by decide +kernel
theorem dX12_isChanged_76 : decode cX12_isChanged 76 = .ok (.iaload, 1) := by decide +kernel
theorem dX12_isChanged_77 : decode cX12_isChanged 77 = .ok (.if_icmp .ge 6, 3) := by decide +kernel
theorem dX12_isChanged_80 : decode cX12_isChanged 80 = .ok (.iload 4, 2) := by decide +kernel
theorem dX12_isChanged_82 : decode cX12_isChanged 82 = .ok (.istore_n 3, 1) := by decide +kernel
theorem dX12_isChanged_83 : decode cX12_isChanged 83 = .ok (.iinc 4 1, 3) := by decide +kernel
theorem dX12_isChanged_86 : decode cX12_isChanged 86 = .ok (.goto (-81), 3) := by decide +kernel
theorem dX12_isChanged_89 : decode cX12_isChanged 89 = .ok (.iload_n 3, 1) := by decide +kernel
theorem dX12_isChanged_90 : decode cX12_isChanged 90 = .ok (.iconst (-1), 1) := by decide +kernel
theorem dX12_isChanged_91 : decode cX12_isChanged 91 = .ok (.if_icmp .ne 5, 3) := by decide +kernel
theorem dX12_isChanged_94 : decode cX12_isChanged 94 = .ok (.iconst 0, 1) := by decide +kernel
theorem dX12_isChanged_95 : decode cX12_isChanged 95 = .ok (.ireturn, 1) := by decide +kernel
theorem dX12_isChanged_96 : decode cX12_isChanged 96 = .ok (.aload_n 1, 1) := by decide +kernel
theorem dX12_isChanged_97 : decode cX12_isChanged 97 = .ok (.bipush 20, 2) := by decide +kernel
theorem dX12_isChanged_99 : decode cX12_isChanged 99 = .ok (.iload_n 2, 1) := by decide +kernel
theorem dX12_isChanged_100 : decode cX12_isChanged 100 = .ok (.imul, 1) := by decide +kernel
theorem dX12_isChanged_101 : decode cX12_isChanged 101 = .ok (.iload_n 3, 1) := by decide +kernel
theorem dX12_isChanged_102 : decode cX12_isChanged 102 = .ok (.iastore, 1) := by decide +kernel
theorem dX12_isChanged_103 : decode cX12_isChanged 103 = .ok (.aload_n 1, 1) := by decide +kernel
theorem dX12_isChanged_104 : decode cX12_isChanged 104 = .ok (.bipush 121, 2) := by decide +kernel
theorem dX12_isChanged_106 : decode cX12_isChanged 106 = .ok (.dup2, 1) := by decide +kernel
theorem dX12_isChanged_107 : decode cX12_isChanged 107 = .ok (.iaload, 1) := by decide +kernel
theorem dX12_isChanged_108 : decode cX12_isChanged 108 = .ok (.aload_n 0, 1) := by decide +kernel
theorem dX12_isChanged_109 : decode cX12_isChanged 109 = .ok (.getfield 43, 3) := by decide +kernel
theorem dX12_isChanged_112 : decode cX12_isChanged 112 = .ok (.iconst 2, 1) := by decide +kernel
theorem dX12_isChanged_113 : decode cX12_isChanged 113 = .ok (.iload_n 3, 1) := by decide +kernel
theorem dX12_isChanged_114 : decode cX12_isChanged 114 = .ok (.imul, 1) := by decide +kernel
theorem dX12_isChanged_115 : decode cX12_isChanged 115 = .ok (.iaload, 1) := by decide +kernel
theorem dX12_isChanged_116 : decode cX12_isChanged 116 = .ok (.isub, 1) := by decide +kernel
theorem dX12_isChanged_117 : decode cX12_isChanged 117 = .ok (.iastore, 1) := by decide +kernel
theorem dX12_isChanged_118 : decode cX12_isChanged 118 = .ok (.iconst 1, 1) := by decide +kernel
theorem dX12_isChanged_119 : decode cX12_isChanged 119 = .ok (.ireturn, 1) := by decide +kernel
theorem dX12_goDay_0 : decode cX12_goDay 0 = .ok (.aload_n 0, 1) := by decide +kernel
theorem dX12_goDay_1 : decode cX12_goDay 1 = .ok (.aload_n 1, 1) := by decide +kernel
theorem dX12_goDay_2 : decode cX12_goDay 2 = .ok (.invokevirtual 348, 3) := by decide +kernel
theorem dX12_goDay_5 : decode cX12_goDay 5 = .ok (.istore_n 2, 1) := by decide +kernel
theorem dX12_goDay_6 : decode cX12_goDay 6 = .ok (.aload_n 1, 1) := by decide +kernel
theorem dX12_goDay_7 : decode cX12_goDay 7 = .ok (.bipush 122, 2) := by decide +kernel
theorem dX12_goDay_9 : decode cX12_goDay 9 = .ok (.dup2, 1) := by decide +kernel
theorem dX12_goDay_10 : decode cX12_goDay 10 = .ok (.iaload, 1) := by decide +kernel
theorem dX12_goDay_11 : decode cX12_goDay 11 = .ok (.iconst 1, 1) := by decide +kernel
theorem dX12_goDay_12 : decode cX12_goDay 12 = .ok (.iadd, 1) := by decide +kernel
theorem dX12_goDay_13 : decode cX12_goDay 13 = .ok (.iastore, 1) := by decide +kernel
theorem dX12_goDay_14 : decode cX12_goDay 14 = .ok (.iconst 0, 1) := by decide +kernel
theorem dX12_goDay_15 : decode cX12_goDay 15 = .ok (.istore_n 3, 1) := by decide +kernel
theorem dX12_goDay_16 : decode cX12_goDay 16 = .ok (.iconst 0, 1) := by decide +kernel
theorem dX12_goDay_17 : decode cX12_goDay 17 = .ok (.istore 4, 2) := by decide +kernel
theorem dX12_goDay_19 : decode cX12_goDay 19 = .ok (.iconst 0, 1) := by decide +kernel
theorem dX12_goDay_20 : decode cX12_goDay 20 = .ok (.istore 5, 2) := by decide +kernel
theorem dX12_goDay_22 : decode cX12_goDay 22 = .ok (.iload 5, 2) := by decide +kernel
theorem dX12_goDay_24 : decode cX12_goDay 24 = .ok (.aload_n 0, 1) := by decide +kernel
theorem dX12_goDay_25 : decode cX12_goDay 25 = .ok (.getfield 297, 3) := by decide +kernel
theorem dX12_goDay_28 : decode cX12_goDay 28 = .ok (.if_icmp .ge 37, 3) := by decide +kernel
theorem dX12_goDay_31 : decode cX12_goDay 31 = .ok (.aload_n 0, 1) := by decide +kernel
theorem dX12_goDay_32 : decode cX12_goDay 32 = .ok (.aload_n 1, 1) := by decide +kernel
theorem dX12_goDay_33 : decode cX12_goDay 33 = .ok (.iload 5, 2) := by decide +kernel
theorem dX12_goDay_35 : decode cX12_goDay 35 = .ok (.invokevirtual 352, 3) := by decide +kernel
theorem dX12_goDay_38 : decode cX12_goDay 38 = .ok (.ifCond .ne 21, 3) := by decide +kernel
theorem dX12_goDay_41 : decode cX12_goDay 41 = .ok (.iload_n 3, 1) := by decide +kernel
theorem dX12_goDay_42 : decode cX12_goDay 42 = .ok (.aload_n 0, 1) := by decide +kernel
theorem dX12_goDay_43 : decode cX12_goDay 43 = .ok (.aload_n 1, 1) := by decide +kernel
theorem dX12_goDay_44 : decode cX12_goDay 44 = .ok (.iload 5, 2) := by decide +kernel
theorem dX12_goDay_46 : decode cX12_goDay 46 = .ok (.invokevirtual 356, 3) := by decide +kernel
theorem dX12_goDay_49 : decode cX12_goDay 49 = .ok (.ifCond .eq 7, 3) := by decide +kernel
theorem dX12_goDay_52 : decode cX12_goDay 52 = .ok (.iconst 1, 1) := by decide +kernel
theorem dX12_goDay_53 : decode cX12_goDay 53 = .ok (.goto 4, 3) := by decide +kernel
theorem dX12_goDay_56 : decode cX12_goDay 56 = .ok (.iconst 0, 1) := by decide +kernel
theorem dX12_goDay_57 : decode cX12_goDay 57 = .ok (.iadd, 1) := by decide +kernel
theorem dX12_goDay_58 : decode cX12_goDay 58 = .ok (.istore_n 3, 1) := by decide +kernel
theorem dX12_goDay_59 : decode cX12_goDay 59 = .ok (.iinc 5 1, 3) := by decide +kernel
theorem dX12_goDay_62 : decode cX12_goDay 62 = .ok (.goto (-40), 3) := by decide +kernel
theorem dX12_goDay_65 : decode cX12_goDay 65 = .ok (.iconst 0, 1) := by decide +kernel
theorem dX12_goDay_66 : decode cX12_goDay 66 = .ok (.istore 5, 2) := by decide +kernel
theorem dX12_goDay_68 : decode cX12_goDay 68 = .ok (.iload 5, 2) := by decide +kernel
theorem dX12_goDay_70 : decode cX12_goDay 70 = .ok (.aload_n 0, 1) := by decide +kernel
theorem dX12_goDay_71 : decode cX12_goDay 71 = .ok (.getfield 297, 3) := by decide +kernel
theorem dX12_goDay_74 : decode cX12_goDay 74 = .ok (.if_icmp .ge 29, 3) := by decide +kernel
theorem dX12_goDay_77 : decode cX12_goDay 77 = .ok (.iload 4, 2) := by decide +kernel
theorem dX12_goDay_79 : decode cX12_goDay 79 = .ok (.aload_n 0, 1) := by decide +kernel
theorem dX12_goDay_80 : decode cX12_goDay 80 = .ok (.aload_n 1, 1) := by decide +kernel
theorem dX12_goDay_81 : decode cX12_goDay 81 = .ok (.iload 5, 2) := by decide +kernel
theorem dX12_goDay_83 : decode cX12_goDay 83 = .ok (.invokevirtual 352, 3) := by decide +kernel
theorem dX12_goDay_86 : decode cX12_goDay 86 = .ok (.ifCond .eq 7, 3) := by decide +kernel
theorem dX12_goDay_89 : decode cX12_goDay 89 = .ok (.iconst 0, 1) := by decide +kernel
theorem dX12_goDay_90 : decode cX12_goDay 90 = .ok (.goto 4, 3) := by decide +kernel
theorem dX12_goDay_93 : decode cX12_goDay 93 = .ok (.iconst 1, 1) := by decide +kernel
theorem dX12_goDay_94 : decode cX12_goDay 94 = .ok (.iadd, 1) := by decide +kernel
theorem dX12_goDay_95 : decode cX12_goDay 95 = .ok (.istore 4, 2) := by decide +kernel
theorem dX12_goDay_97 : decode cX12_goDay 97 = .ok (.iinc 5 1, 3) := by decide +kernel
theorem dX12_goDay_100 : decode cX12_goDay 100 = .ok (.goto (-32), 3) := by decide +kernel
theorem dX12_goDay_103 : decode cX12_goDay 103 = .ok (.aload_n 1, 1) := by decide +kernel
theorem dX12_goDay_104 : decode cX12_goDay 104 = .ok (.bipush 123, 2) := by decide +kernel
theorem dX12_goDay_106 : decode cX12_goDay 106 = .ok (.iaload, 1) := by decide +kernel
theorem dX12_goDay_107 : decode cX12_goDay 107 = .ok (.bipush 60, 2) := by decide +kernel
theorem dX12_goDay_109 : decode cX12_goDay 109 = .ok (.if_icmp .ne 44, 3) := by decide +kernel
theorem dX12_goDay_112 : decode cX12_goDay 112 = .ok (.iconst 1, 1) := by decide +kernel
theorem dX12_goDay_113 : decode cX12_goDay 113 = .ok (.istore 5, 2) := by decide +kernel
theorem dX12_goDay_115 : decode cX12_goDay 115 = .ok (.iload 5, 2) := by decide +kernel
theorem dX12_goDay_117 : decode cX12_goDay 117 = .ok (.sipush 177, 3) := by decide +kernel
theorem dX12_goDay_120 : decode cX12_goDay 120 = .ok (.if_icmp .gt 25, 3) := by decide +kernel
theorem dX12_goDay_123 : decode cX12_goDay 123 = .ok (.aload_n 1, 1) := by decide +kernel
theorem dX12_goDay_124 : decode cX12_goDay 124 = .ok (.bipush 123, 2) := by decide +kernel
theorem dX12_goDay_126 : decode cX12_goDay 126 = .ok (.iload 5, 2) := by decide +kernel
theorem dX12_goDay_128 : decode cX12_goDay 128 = .ok (.iadd, 1) := by decide +kernel
theorem dX12_goDay_129 : decode cX12_goDay 129 = .ok (.aload_n 1, 1) := by decide +kernel
theorem dX12_goDay_130 : decode cX12_goDay 130 = .ok (.bipush 123, 2) := by decide +kernel
theorem dX12_goDay_132 : decode cX12_goDay 132 = .ok (.iload 5, 2) := by decide +kernel
theorem dX12_goDay_134 : decode cX12_goDay 134 = .ok (.iadd, 1) := by decide +kernel
theorem dX12_goDay_135 : decode cX12_goDay 135 = .ok (.iconst 3, 1) := by decide +kernel
theorem dX12_goDay_136 : decode cX12_goDay 136 = .ok (.iadd, 1) := by decide +kernel
theorem dX12_goDay_137 : decode cX12_goDay 137 = .ok (.iaload, 1) := by decide +kernel
theorem dX12_goDay_138 : decode cX12_goDay 138 = .ok (.iastore, 1) := by decide +kernel
theorem dX12_goDay_139 : decode cX12_goDay 139 = .ok (.iinc 5 1, 3) := by decide +kernel
theorem dX12_goDay_142 : decode cX12_goDay 142 = .ok (.goto (-27), 3) := by decide +kernel
theorem dX12_goDay_145 : decode cX12_goDay 145 = .ok (.aload_n 1, 1) := by decide +kernel
theorem dX12_goDay_146 : decode cX12_goDay 146 = .ok (.bipush 123, 2) := by decide +kernel
theorem dX12_goDay_148 : decode cX12_goDay 148 = .ok (.dup2, 1) := by decide +kernel
theorem dX12_goDay_149 : decode cX12_goDay 149 = .ok (.iaload, 1) := by decide +kernel
theorem dX12_goDay_150 : decode cX12_goDay 150 = .ok (.iconst 1, 1) := by decide +kernel
theorem dX12_goDay_151 : decode cX12_goDay 151 = .ok (.isub, 1) := by decide +kernel
theorem dX12_goDay_152 : decode cX12_goDay 152 = .ok (.iastore, 1) := by decide +kernel
theorem dX12_goDay_153 : decode cX12_goDay 153 = .ok (.bipush 124, 2) := by decide +kernel
theorem dX12_goDay_155 : decode cX12_goDay 155 = .ok (.iconst 3, 1) := by decide +kernel
theorem dX12_goDay_156 : decode cX12_goDay 156 = .ok (.aload_n 1, 1) := by decide +kernel
theorem dX12_goDay_157 : decode cX12_goDay 157 = .ok (.bipush 123, 2) := by decide +kernel
theorem dX12_goDay_159 : decode cX12_goDay 159 = .ok (.iaload, 1) := by decide +kernel
theorem dX12_goDay_160 : decode cX12_goDay 160 = .ok (.imul, 1) := by decide +kernel
theorem dX12_goDay_161 : decode cX12_goDay 161 = .ok (.iadd, 1) := by decide +kernel
theorem dX12_goDay_162 : decode cX12_goDay 162 = .ok (.istore 5, 2) := by decide +kernel
theorem dX12_goDay_164 : decode cX12_goDay 164 = .ok (.aload_n 1, 1) := by decide +kernel
theorem dX12_goDay_165 : decode cX12_goDay 165 = .ok (.iload 5, 2) := by decide +kernel
theorem dX12_goDay_167 : decode cX12_goDay 167 = .ok (.iload_n 3, 1) := by decide +kernel
theorem dX12_goDay_168 : decode cX12_goDay 168 = .ok (.iastore, 1) := by decide +kernel
theorem dX12_goDay_169 : decode cX12_goDay 169 = .ok (.aload_n 1, 1) := by decide +kernel
theorem dX12_goDay_170 : decode cX12_goDay 170 = .ok (.iload 5, 2) := by decide +kernel
theorem dX12_goDay_172 : decode cX12_goDay 172 = .ok (.iconst 1, 1) := by decide +kernel
theorem dX12_goDay_173 : decode cX12_goDay 173 = .ok (.iadd, 1) := by decide +kernel
theorem dX12_goDay_174 : decode cX12_goDay 174 = .ok (.iload 4, 2) := by decide +kernel
theorem dX12_goDay_176 : decode cX12_goDay 176 = .ok (.iastore, 1) := by decide +kernel
theorem dX12_goDay_177 : decode cX12_goDay 177 = .ok (.aload_n 1, 1) := by decide +kernel
theorem dX12_goDay_178 : decode cX12_goDay 178 = .ok (.iload 5, 2) := by decide +kernel
theorem dX12_goDay_180 : decode cX12_goDay 180 = .ok (.iconst 2, 1) := by decide +kernel
theorem dX12_goDay_181 : decode cX12_goDay 181 = .ok (.iadd, 1) := by decide +kernel
theorem dX12_goDay_182 : decode cX12_goDay 182 = .ok (.iload_n 2, 1) := by decide +kernel
theorem dX12_goDay_183 : decode cX12_goDay 183 = .ok (.iastore, 1) := by decide +kernel
theorem dX12_goDay_184 : decode cX12_goDay 184 = .ok (.aload_n 1, 1) := by decide +kernel
theorem dX12_goDay_185 : decode cX12_goDay 185 = .ok (.bipush 123, 2) := by decide +kernel
theorem dX12_goDay_187 : decode cX12_goDay 187 = .ok (.dup2, 1) := by decide +kernel
theorem dX12_goDay_188 : decode cX12_goDay 188 = .ok (.iaload, 1) := by decide +kernel
theorem dX12_goDay_189 : decode cX12_goDay 189 = .ok (.iconst 1, 1) := by decide +kernel
theorem dX12_goDay_190 : decode cX12_goDay 190 = .ok (.iadd, 1) := by decide +kernel
theorem dX12_goDay_191 : decode cX12_goDay 191 = .ok (.iastore, 1) := by decide +kernel
theorem dX12_goDay_192 : decode cX12_goDay 192 = .ok (.return_, 1) := by decide +kernel
theorem dX12_thing_0 : decode cX12_thing 0 = .ok (.aload_n 0, 1) := by decide +kernel
theorem dX12_thing_1 : decode cX12_thing 1 = .ok (.aload_n 0, 1) := by decide +kernel
theorem dX12_thing_2 : decode cX12_thing 2 = .ok (.iload_n 1, 1) := by decide +kernel
theorem dX12_thing_3 : decode cX12_thing 3 = .ok (.invokevirtual 359, 3) := by decide +kernel
theorem dX12_thing_6 : decode cX12_thing 6 = .ok (.ifCond .eq 19, 3) := by decide +kernel
theorem dX12_thing_9 : decode cX12_thing 9 = .ok (.iload_n 2, 1) := by decide +kernel
theorem dX12_thing_10 : decode cX12_thing 10 = .ok (.i2l, 1) := by decide +kernel
theorem dX12_thing_11 : decode cX12_thing 11 = .ok (.lconst 0, 1) := by decide +kernel
theorem dX12_thing_12 : decode cX12_thing 12 = .ok (.ldc2_w 278, 3) := by decide +kernel
theorem dX12_thing_15 : decode cX12_thing 15 = .ok (.invokestatic 212, 3) := by decide +kernel
theorem dX12_thing_18 : decode cX12_thing 18 = .ok (.ifCond .eq 7, 3) := by decide +kernel
theorem dX12_thing_21 : decode cX12_thing 21 = .ok (.iconst 0, 1) := by decide +kernel
theorem dX12_thing_22 : decode cX12_thing 22 = .ok (.goto 4, 3) := by decide +kernel
theorem dX12_thing_25 : decode cX12_thing 25 = .ok (.iconst 1, 1) := by decide +kernel
theorem dX12_thing_26 : decode cX12_thing 26 = .ok (.putfield 91, 3) := by decide +kernel
theorem dX12_thing_29 : decode cX12_thing 29 = .ok (.aload_n 0, 1) := by decide +kernel
theorem dX12_thing_30 : decode cX12_thing 30 = .ok (.getfield 91, 3) := by decide +kernel
theorem dX12_thing_33 : decode cX12_thing 33 = .ok (.ifCond .le 5, 3) := by decide +kernel
theorem dX12_thing_36 : decode cX12_thing 36 = .ok (.iconst 0, 1) := by decide +kernel
theorem dX12_thing_37 : decode cX12_thing 37 = .ok (.ireturn, 1) := by decide +kernel
theorem dX12_thing_38 : decode cX12_thing 38 = .ok (.iload_n 2, 1) := by decide +kernel
theorem dX12_thing_39 : decode cX12_thing 39 = .ok (.iconst 2, 1) := by decide +kernel
theorem dX12_thing_40 : decode cX12_thing 40 = .ok (.if_icmp .ne 15, 3) := by decide +kernel
theorem dX12_thing_43 : decode cX12_thing 43 = .ok (.aload_n 0, 1) := by decide +kernel
theorem dX12_thing_44 : decode cX12_thing 44 = .ok (.aload_n 0, 1) := by decide +kernel
theorem dX12_thing_45 : decode cX12_thing 45 = .ok (.getfield 61, 3) := by decide +kernel
theorem dX12_thing_48 : decode cX12_thing 48 = .ok (.iload_n 1, 1) := by decide +kernel
theorem dX12_thing_49 : decode cX12_thing 49 = .ok (.invokevirtual 345, 3) := by decide +kernel
theorem dX12_thing_52 : decode cX12_thing 52 = .ok (.goto 13, 3) := by decide +kernel
theorem dX12_thing_55 : decode cX12_thing 55 = .ok (.aload_n 0, 1) := by decide +kernel
theorem dX12_thing_56 : decode cX12_thing 56 = .ok (.getfield 43, 3) := by decide +kernel
theorem dX12_thing_59 : decode cX12_thing 59 = .ok (.iconst 2, 1) := by decide +kernel
theorem dX12_thing_60 : decode cX12_thing 60 = .ok (.iload_n 1, 1) := by decide +kernel
theorem dX12_thing_61 : decode cX12_thing 61 = .ok (.imul, 1) := by decide +kernel
theorem dX12_thing_62 : decode cX12_thing 62 = .ok (.iload_n 2, 1) := by decide +kernel
theorem dX12_thing_63 : decode cX12_thing 63 = .ok (.iadd, 1) := by decide +kernel
theorem dX12_thing_64 : decode cX12_thing 64 = .ok (.iaload, 1) := by decide +kernel
theorem dX12_thing_65 : decode cX12_thing 65 = .ok (.ireturn, 1) := by decide +kernel
theorem dX12_card_0 : decode cX12_card 0 = .ok (.aload_n 0, 1) := by decide +kernel
theorem dX12_card_1 : decode cX12_card 1 = .ok (.iconst 0, 1) := by decide +kernel
theorem dX12_card_2 : decode cX12_card 2 = .ok (.putfield 91, 3) := by decide +kernel
theorem dX12_card_5 : decode cX12_card 5 = .ok (.aload_n 0, 1) := by decide +kernel
theorem dX12_card_6 : decode cX12_card 6 = .ok (.iload_n 1, 1) := by decide +kernel
theorem dX12_card_7 : decode cX12_card 7 = .ok (.invokevirtual 362, 3) := by decide +kernel
theorem dX12_card_10 : decode cX12_card 10 = .ok (.ifCond .eq 15, 3) := by decide +kernel
theorem dX12_card_13 : decode cX12_card 13 = .ok (.iload_n 2, 1) := by decide +kernel
theorem dX12_card_14 : decode cX12_card 14 = .ok (.i2l, 1) := by decide +kernel
theorem dX12_card_15 : decode cX12_card 15 = .ok (.lconst 0, 1) := by decide +kernel
theorem dX12_card_16 : decode cX12_card 16 = .ok (.ldc2_w 365, 3) := by decide +kernel
theorem dX12_card_19 : decode cX12_card 19 = .ok (.invokestatic 212, 3) := by decide +kernel
theorem dX12_card_22 : decode cX12_card 22 = .ok (.ifCond .ne 5, 3) := by decide +kernel
theorem dX12_card_25 : decode cX12_card 25 = .ok (.iconst (-1), 1) := by decide +kernel
theorem dX12_card_26 : decode cX12_card 26 = .ok (.ireturn, 1) := by decide +kernel
theorem dX12_card_27 : decode cX12_card 27 = .ok (.iload_n 2, 1) := by decide +kernel
theorem dX12_card_28 : decode cX12_card 28 = .ok (.ifCond .ne 15, 3) := by decide +kernel
theorem dX12_card_31 : decode cX12_card 31 = .ok (.aload_n 0, 1) := by decide +kernel
theorem dX12_card_32 : decode cX12_card 32 = .ok (.getfield 52, 3) := by decide +kernel
theorem dX12_card_35 : decode cX12_card 35 = .ok (.bipush 16, 2) := by decide +kernel
theorem dX12_card_37 : decode cX12_card 37 = .ok (.iload_n 1, 1) := by decide +kernel
theorem dX12_card_38 : decode cX12_card 38 = .ok (.imul, 1) := by decide +kernel
theorem dX12_card_39 : decode cX12_card 39 = .ok (.iconst 1, 1) := by decide +kernel
theorem dX12_card_40 : decode cX12_card 40 = .ok (.iadd, 1) := by decide +kernel
theorem dX12_card_41 : decode cX12_card 41 = .ok (.iaload, 1) := by decide +kernel
theorem dX12_card_42 : decode cX12_card 42 = .ok (.ireturn, 1) := by decide +kernel
theorem dX12_card_43 : decode cX12_card 43 = .ok (.iload_n 2, 1) := by decide +kernel
theorem dX12_card_44 : decode cX12_card 44 = .ok (.iconst 1, 1) := by decide +kernel
theorem dX12_card_45 : decode cX12_card 45 = .ok (.if_icmp .ne 15, 3) := by decide +kernel
theorem dX12_card_48 : decode cX12_card 48 = .ok (.aload_n 0, 1) := by decide +kernel
theorem dX12_card_49 : decode cX12_card 49 = .ok (.getfield 61, 3) := by decide +kernel
theorem dX12_card_52 : decode cX12_card 52 = .ok (.bipush 20, 2) := by decide +kernel
theorem dX12_card_54 : decode cX12_card 54 = .ok (.iload_n 1, 1) := by decide +kernel
theorem dX12_card_55 : decode cX12_card 55 = .ok (.imul, 1) := by decide +kernel
theorem dX12_card_56 : decode cX12_card 56 = .ok (.iaload, 1) := by decide +kernel
theorem dX12_card_57 : decode cX12_card 57 = .ok (.goto 36, 3) := by decide +kernel
theorem dX12_card_60 : decode cX12_card 60 = .ok (.iload_n 2, 1) := by decide +kernel
theorem dX12_card_61 : decode cX12_card 61 = .ok (.iconst 2, 1) := by decide +kernel
theorem dX12_card_62 : decode cX12_card 62 = .ok (.if_icmp .ne 14, 3) := by decide +kernel
theorem dX12_card_65 : decode cX12_card 65 = .ok (.aload_n 0, 1) := by decide +kernel
theorem dX12_card_66 : decode cX12_card 66 = .ok (.getfield 61, 3) := by decide +kernel
theorem dX12_card_69 : decode cX12_card 69 = .ok (.iload_n 1, 1) := by decide +kernel
theorem dX12_card_70 : decode cX12_card 70 = .ok (.invokestatic 323, 3) := by decide +kernel
theorem dX12_card_73 : decode cX12_card 73 = .ok (.goto 20, 3) := by decide +kernel
theorem dX12_card_76 : decode cX12_card 76 = .ok (.aload_n 0, 1) := by decide +kernel
theorem dX12_card_77 : decode cX12_card 77 = .ok (.aload_n 0, 1) := by decide +kernel
theorem dX12_card_78 : decode cX12_card 78 = .ok (.getfield 61, 3) := by decide +kernel
theorem dX12_card_81 : decode cX12_card 81 = .ok (.iload_n 1, 1) := by decide +kernel
theorem dX12_card_82 : decode cX12_card 82 = .ok (.invokevirtual 352, 3) := by decide +kernel
theorem dX12_card_85 : decode cX12_card 85 = .ok (.ifCond .eq 7, 3) := by decide +kernel
theorem dX12_card_88 : decode cX12_card 88 = .ok (.iconst 1, 1) := by decide +kernel
theorem dX12_card_89 : decode cX12_card 89 = .ok (.goto 4, 3) := by decide +kernel
theorem dX12_card_92 : decode cX12_card 92 = .ok (.iconst 0, 1) := by decide +kernel
theorem dX12_card_93 : decode cX12_card 93 = .ok (.ireturn, 1) := by decide +kernel
theorem dX12_word_0 : decode cX12_word 0 = .ok (.aload_n 0, 1) := by decide +kernel
theorem dX12_word_1 : decode cX12_word 1 = .ok (.iconst 0, 1) := by decide +kernel
theorem dX12_word_2 : decode cX12_word 2 = .ok (.putfield 91, 3) := by decide +kernel
theorem dX12_word_5 : decode cX12_word 5 = .ok (.aload_n 0, 1) := by decide +kernel
theorem dX12_word_6 : decode cX12_word 6 = .ok (.iload_n 1, 1) := by decide +kernel
theorem dX12_word_7 : decode cX12_word 7 = .ok (.invokevirtual 362, 3) := by decide +kernel
theorem dX12_word_10 : decode cX12_word 10 = .ok (.ifCond .eq 51, 3) := by decide +kernel
theorem dX12_word_13 : decode cX12_word 13 = .ok (.iload_n 2, 1) := by decide +kernel
theorem dX12_word_14 : decode cX12_word 14 = .ok (.ifCond .lt 47, 3) := by decide +kernel
theorem dX12_word_17 : decode cX12_word 17 = .ok (.iload_n 2, 1) := by decide +kernel
theorem dX12_word_18 : decode cX12_word 18 = .ok (.aload_n 0, 1) := by decide +kernel
theorem dX12_word_19 : decode cX12_word 19 = .ok (.getfield 61, 3) := by decide +kernel
theorem dX12_word_22 : decode cX12_word 22 = .ok (.iload_n 1, 1) := by decide +kernel
theorem dX12_word_23 : decode cX12_word 23 = .ok (.invokestatic 323, 3) := by decide +kernel
theorem dX12_word_26 : decode cX12_word 26 = .ok (.if_icmp .ge 35, 3) := by decide +kernel
theorem dX12_word_29 : decode cX12_word 29 = .ok (.iload_n 3, 1) := by decide +kernel
theorem dX12_word_30 : decode cX12_word 30 = .ok (.i2l, 1) := by decide +kernel
theorem dX12_word_31 : decode cX12_word 31 = .ok (.lconst 0, 1) := by decide +kernel
theorem dX12_word_32 : decode cX12_word 32 = .ok (.ldc2_w 278, 3) := by decide +kernel
theorem dX12_word_35 : decode cX12_word 35 = .ok (.invokestatic 212, 3) := by decide +kernel
theorem dX12_word_38 : decode cX12_word 38 = .ok (.ifCond .eq 23, 3) := by decide +kernel
theorem dX12_word_41 : decode cX12_word 41 = .ok (.aload_n 0, 1) := by decide +kernel
theorem dX12_word_42 : decode cX12_word 42 = .ok (.getfield 61, 3) := by decide +kernel
theorem dX12_word_45 : decode cX12_word 45 = .ok (.bipush 20, 2) := by decide +kernel
theorem dX12_word_47 : decode cX12_word 47 = .ok (.iload_n 1, 1) := by decide +kernel
theorem dX12_word_48 : decode cX12_word 48 = .ok (.imul, 1) := by decide +kernel
theorem dX12_word_49 : decode cX12_word 49 = .ok (.iconst 2, 1) := by decide +kernel
theorem dX12_word_50 : decode cX12_word 50 = .ok (.iadd, 1) := by decide +kernel
theorem dX12_word_51 : decode cX12_word 51 = .ok (.iconst 3, 1) := by decide +kernel
theorem dX12_word_52 : decode cX12_word 52 = .ok (.iload_n 2, 1) := by decide +kernel
theorem dX12_word_53 : decode cX12_word 53 = .ok (.imul, 1) := by decide +kernel
theorem dX12_word_54 : decode cX12_word 54 = .ok (.iadd, 1) := by decide +kernel
theorem dX12_word_55 : decode cX12_word 55 = .ok (.iload_n 3, 1) := by decide +kernel
theorem dX12_word_56 : decode cX12_word 56 = .ok (.iadd, 1) := by decide +kernel
theorem dX12_word_57 : decode cX12_word 57 = .ok (.iaload, 1) := by decide +kernel
theorem dX12_word_58 : decode cX12_word 58 = .ok (.goto 4, 3) := by decide +kernel
theorem dX12_word_61 : decode cX12_word 61 = .ok (.iconst (-1), 1) := by decide +kernel
theorem dX12_word_62 : decode cX12_word 62 = .ok (.ireturn, 1) := by decide +kernel
theorem dX12_law_0 : decode cX12_law 0 = .ok (.aload_n 0, 1) := by decide +kernel
theorem dX12_law_1 : decode cX12_law 1 = .ok (.iconst 0, 1) := by decide +kernel
theorem dX12_law_2 : decode cX12_law 2 = .ok (.putfield 91, 3) := by decide +kernel
theorem dX12_law_5 : decode cX12_law 5 = .ok (.iload_n 1, 1) := by decide +kernel
theorem dX12_law_6 : decode cX12_law 6 = .ok (.iconst (-1), 1) := by decide +kernel
theorem dX12_law_7 : decode cX12_law 7 = .ok (.if_icmp .eq 21, 3) := by decide +kernel
theorem dX12_law_10 : decode cX12_law 10 = .ok (.iload_n 1, 1) := by decide +kernel
theorem dX12_law_11 : decode cX12_law 11 = .ok (.i2l, 1) := by decide +kernel
theorem dX12_law_12 : decode cX12_law 12 = .ok (.lconst 0, 1) := by decide +kernel
theorem dX12_law_13 : decode cX12_law 13 = .ok (.aload_n 0, 1) := by decide +kernel
theorem dX12_law_14 : decode cX12_law 14 = .ok (.getfield 286, 3) := by decide +kernel
theorem dX12_law_17 : decode cX12_law 17 = .ok (.iconst 1, 1) := by decide +kernel
theorem dX12_law_18 : decode cX12_law 18 = .ok (.isub, 1) := by decide +kernel
theorem dX12_law_19 : decode cX12_law 19 = .ok (.i2l, 1) := by decide +kernel
theorem dX12_law_20 : decode cX12_law 20 = .ok (.invokestatic 212, 3) := by decide +kernel
theorem dX12_law_23 : decode cX12_law 23 = .ok (.ifCond .ne 5, 3) := by decide +kernel
theorem dX12_law_26 : decode cX12_law 26 = .ok (.iconst 0, 1) := by decide +kernel
theorem dX12_law_27 : decode cX12_law 27 = .ok (.ireturn, 1) := by decide +kernel
theorem dX12_law_28 : decode cX12_law 28 = .ok (.aload_n 0, 1) := by decide +kernel
theorem dX12_law_29 : decode cX12_law 29 = .ok (.iload_n 1, 1) := by decide +kernel
theorem dX12_law_30 : decode cX12_law 30 = .ok (.putfield 67, 3) := by decide +kernel
theorem dX12_law_33 : decode cX12_law 33 = .ok (.iconst 1, 1) := by decide +kernel
theorem dX12_law_34 : decode cX12_law 34 = .ok (.ireturn, 1) := by decide +kernel
theorem dX12_cleaner_0 : decode cX12_cleaner 0 = .ok (.aload_n 0, 1) := by decide +kernel
theorem dX12_cleaner_1 : decode cX12_cleaner 1 = .ok (.iconst 0, 1) := by decide +kernel
theorem dX12_cleaner_2 : decode cX12_cleaner 2 = .ok (.putfield 91, 3) := by decide +kernel
theorem dX12_cleaner_5 : decode cX12_cleaner 5 = .ok (.iload_n 1, 1) := by decide +kernel
theorem dX12_cleaner_6 : decode cX12_cleaner 6 = .ok (.i2l, 1) := by decide +kernel
theorem dX12_cleaner_7 : decode cX12_cleaner 7 = .ok (.lconst 0, 1) := by decide +kernel
theorem dX12_cleaner_8 : decode cX12_cleaner 8 = .ok (.ldc2_w 367, 3) := by decide +kernel
theorem dX12_cleaner_11 : decode cX12_cleaner 11 = .ok (.invokestatic 212, 3) := by decide +kernel
theorem dX12_cleaner_14 : decode cX12_cleaner 14 = .ok (.ifCond .eq 11, 3) := by decide +kernel
theorem dX12_cleaner_17 : decode cX12_cleaner 17 = .ok (.iload_n 1, 1) := by decide +kernel
theorem dX12_cleaner_18 : decode cX12_cleaner 18 = .ok (.aload_n 0, 1) := by decide +kernel
theorem dX12_cleaner_19 : decode cX12_cleaner 19 = .ok (.getfield 369, 3) := by decide +kernel
theorem dX12_cleaner_22 : decode cX12_cleaner 22 = .ok (.if_icmp .ne 5, 3) := by decide +kernel
theorem dX12_cleaner_25 : decode cX12_cleaner 25 = .ok (.iconst 0, 1) := by decide +kernel
theorem dX12_cleaner_26 : decode cX12_cleaner 26 = .ok (.ireturn, 1) := by decide +kernel
theorem dX12_cleaner_27 : decode cX12_cleaner 27 = .ok (.aload_n 0, 1) := by decide +kernel
theorem dX12_cleaner_28 : decode cX12_cleaner 28 = .ok (.iload_n 1, 1) := by decide +kernel
theorem dX12_cleaner_29 : decode cX12_cleaner 29 = .ok (.putfield 369, 3) := by decide +kernel
theorem dX12_cleaner_32 : decode cX12_cleaner 32 = .ok (.iconst 1, 1) := by decide +kernel
theorem dX12_cleaner_33 : decode cX12_cleaner 33 = .ok (.ireturn, 1) := by decide +kernel
theorem dX12_fits_0 : decode cX12_fits 0 = .ok (.aload_n 0, 1) := by decide +kernel
theorem dX12_fits_1 : decode cX12_fits 1 = .ok (.iconst 0, 1) := by decide +kernel
theorem dX12_fits_2 : decode cX12_fits 2 = .ok (.putfield 91, 3) := by decide +kernel
theorem dX12_fits_5 : decode cX12_fits 5 = .ok (.aload_n 0, 1) := by decide +kernel
theorem dX12_fits_6 : decode cX12_fits 6 = .ok (.iload_n 1, 1) := by decide +kernel
theorem dX12_fits_7 : decode cX12_fits 7 = .ok (.invokevirtual 362, 3) := by decide +kernel
theorem dX12_fits_10 : decode cX12_fits 10 = .ok (.ifCond .eq 32, 3) := by decide +kernel
theorem dX12_fits_13 : decode cX12_fits 13 = .ok (.aload_n 0, 1) := by decide +kernel
theorem dX12_fits_14 : decode cX12_fits 14 = .ok (.iload_n 2, 1) := by decide +kernel
theorem dX12_fits_15 : decode cX12_fits 15 = .ok (.invokevirtual 359, 3) := by decide +kernel
theorem dX12_fits_18 : decode cX12_fits 18 = .ok (.ifCond .eq 24, 3) := by decide +kernel
theorem dX12_fits_21 : decode cX12_fits 21 = .ok (.aload_n 0, 1) := by decide +kernel
theorem dX12_fits_22 : decode cX12_fits 22 = .ok (.aload_n 0, 1) := by decide +kernel
theorem dX12_fits_23 : decode cX12_fits 23 = .ok (.getfield 61, 3) := by decide +kernel
theorem dX12_fits_26 : decode cX12_fits 26 = .ok (.iload_n 1, 1) := by decide +kernel
theorem dX12_fits_27 : decode cX12_fits 27 = .ok (.iload_n 2, 1) := by decide +kernel
theorem dX12_fits_28 : decode cX12_fits 28 = .ok (.invokevirtual 334, 3) := by decide +kernel
theorem dX12_fits_31 : decode cX12_fits 31 = .ok (.ifCond .eq 7, 3) := by decide +kernel
theorem dX12_fits_34 : decode cX12_fits 34 = .ok (.iconst 1, 1) := by decide +kernel
theorem dX12_fits_35 : decode cX12_fits 35 = .ok (.goto 8, 3) := by decide +kernel
theorem dX12_fits_38 : decode cX12_fits 38 = .ok (.iconst 0, 1) := by decide +kernel
theorem dX12_fits_39 : decode cX12_fits 39 = .ok (.goto 4, 3) := by decide +kernel
theorem dX12_fits_42 : decode cX12_fits 42 = .ok (.iconst (-1), 1) := by decide +kernel
theorem dX12_fits_43 : decode cX12_fits 43 = .ok (.ireturn, 1) := by decide +kernel
theorem dX12_remember_0 : decode cX12_remember 0 = .ok (.aload_n 0, 1) := by decide +kernel
theorem dX12_remember_1 : decode cX12_remember 1 = .ok (.getfield 307, 3) := by decide +kernel
theorem dX12_remember_4 : decode cX12_remember 4 = .ok (.bipush 40, 2) := by decide +kernel
theorem dX12_remember_6 : decode cX12_remember 6 = .ok (.if_icmp .ne 44, 3) := by decide +kernel
theorem dX12_remember_9 : decode cX12_remember 9 = .ok (.iconst 0, 1) := by decide +kernel
theorem dX12_remember_10 : decode cX12_remember 10 = .ok (.istore_n 1, 1) := by decide +kernel
theorem dX12_remember_11 : decode cX12_remember 11 = .ok (.iload_n 1, 1) := by decide +kernel
theorem dX12_remember_12 : decode cX12_remember 12 = .ok (.sipush 11856, 3) := by decide +kernel
theorem dX12_remember_15 : decode cX12_remember 15 = .ok (.if_icmp .ge 25, 3) := by decide +kernel
theorem dX12_remember_18 : decode cX12_remember 18 = .ok (.aload_n 0, 1) := by decide +kernel
theorem dX12_remember_19 : decode cX12_remember 19 = .ok (.getfield 71, 3) := by decide +kernel
theorem dX12_remember_22 : decode cX12_remember 22 = .ok (.iload_n 1, 1) := by decide +kernel
theorem dX12_remember_23 : decode cX12_remember 23 = .ok (.aload_n 0, 1) := by decide +kernel
theorem dX12_remember_24 : decode cX12_remember 24 = .ok (.getfield 71, 3) := by decide +kernel
theorem dX12_remember_27 : decode cX12_remember 27 = .ok (.iload_n 1, 1) := by decide +kernel
theorem dX12_remember_28 : decode cX12_remember 28 = .ok (.sipush 304, 3) := by decide +kernel
theorem dX12_remember_31 : decode cX12_remember 31 = .ok (.iadd, 1) := by decide +kernel
theorem dX12_remember_32 : decode cX12_remember 32 = .ok (.iaload, 1) := by decide +kernel
theorem dX12_remember_33 : decode cX12_remember 33 = .ok (.iastore, 1) := by decide +kernel
theorem dX12_remember_34 : decode cX12_remember 34 = .ok (.iinc 1 1, 3) := by decide +kernel
theorem dX12_remember_37 : decode cX12_remember 37 = .ok (.goto (-26), 3) := by decide +kernel
theorem dX12_remember_40 : decode cX12_remember 40 = .ok (.aload_n 0, 1) := by decide +kernel
theorem dX12_remember_41 : decode cX12_remember 41 = .ok (.dup, 1) := by decide +kernel
theorem dX12_remember_42 : decode cX12_remember 42 = .ok (.getfield 307, 3) := by decide +kernel
theorem dX12_remember_45 : decode cX12_remember 45 = .ok (.iconst 1, 1) := by decide +kernel
theorem dX12_remember_46 : decode cX12_remember 46 = .ok (.isub, 1) := by decide +kernel
theorem dX12_remember_47 : decode cX12_remember 47 = .ok (.putfield 307, 3) := by decide +kernel
theorem dX12_remember_50 : decode cX12_remember 50 = .ok (.iconst 0, 1) := by decide +kernel
theorem dX12_remember_51 : decode cX12_remember 51 = .ok (.istore_n 1, 1) := by decide +kernel
theorem dX12_remember_52 : decode cX12_remember 52 = .ok (.iload_n 1, 1) := by decide +kernel
theorem dX12_remember_53 : decode cX12_remember 53 = .ok (.sipush 304, 3) := by decide +kernel
theorem dX12_remember_56 : decode cX12_remember 56 = .ok (.if_icmp .ge 30, 3) := by decide +kernel
theorem dX12_remember_59 : decode cX12_remember 59 = .ok (.aload_n 0, 1) := by decide +kernel
theorem dX12_remember_60 : decode cX12_remember 60 = .ok (.getfield 71, 3) := by decide +kernel
theorem dX12_remember_63 : decode cX12_remember 63 = .ok (.sipush 304, 3) := by decide +kernel
theorem dX12_remember_66 : decode cX12_remember 66 = .ok (.aload_n 0, 1) := by decide +kernel
theorem dX12_remember_67 : decode cX12_remember 67 = .ok (.getfield 307, 3) := by decide +kernel
theorem dX12_remember_70 : decode cX12_remember 70 = .ok (.imul, 1) := by decide +kernel
theorem dX12_remember_71 : decode cX12_remember 71 = .ok (.iload_n 1, 1) := by decide +kernel
theorem dX12_remember_72 : decode cX12_remember 72 = .ok (.iadd, 1) := by decide +kernel
theorem dX12_remember_73 : decode cX12_remember 73 = .ok (.aload_n 0, 1) := by decide +kernel
theorem dX12_remember_74 : decode cX12_remember 74 = .ok (.getfield 61, 3) := by decide +kernel
theorem dX12_remember_77 : decode cX12_remember 77 = .ok (.iload_n 1, 1) := by decide +kernel
theorem dX12_remember_78 : decode cX12_remember 78 = .ok (.iaload, 1) := by decide +kernel
theorem dX12_remember_79 : decode cX12_remember 79 = .ok (.iastore, 1) := by decide +kernel
theorem dX12_remember_80 : decode cX12_remember 80 = .ok (.iinc 1 1, 3) := by decide +kernel
theorem dX12_remember_83 : decode cX12_remember 83 = .ok (.goto (-31), 3) := by decide +kernel
theorem dX12_remember_86 : decode cX12_remember 86 = .ok (.aload_n 0, 1) := by decide +kernel
theorem dX12_remember_87 : decode cX12_remember 87 = .ok (.dup, 1) := by decide +kernel
theorem dX12_remember_88 : decode cX12_remember 88 = .ok (.getfield 307, 3) := by decide +kernel
theorem dX12_remember_91 : decode cX12_remember 91 = .ok (.iconst 1, 1) := by decide +kernel
theorem dX12_remember_92 : decode cX12_remember 92 = .ok (.iadd, 1) := by decide +kernel
theorem dX12_remember_93 : decode cX12_remember 93 = .ok (.putfield 307, 3) := by decide +kernel
theorem dX12_remember_96 : decode cX12_remember 96 = .ok (.return_, 1) := by decide +kernel
theorem dX12_put__0 : decode cX12_put_ 0 = .ok (.aload_n 0, 1) := by decide +kernel
theorem dX12_put__1 : decode cX12_put_ 1 = .ok (.iconst 0, 1) := by decide +kernel
theorem dX12_put__2 : decode cX12_put_ 2 = .ok (.putfield 91, 3) := by decide +kernel
theorem dX12_put__5 : decode cX12_put_ 5 = .ok (.aload_n 0, 1) := by decide +kernel
theorem dX12_put__6 : decode cX12_put_ 6 = .ok (.iload_n 1, 1) := by decide +kernel
theorem dX12_put__7 : decode cX12_put_ 7 = .ok (.invokevirtual 359, 3) := by decide +kernel
theorem dX12_put__10 : decode cX12_put_ 10 = .ok (.ifCond .eq 37, 3) := by decide +kernel
theorem dX12_put__13 : decode cX12_put_ 13 = .ok (.aload_n 0, 1) := by decide +kernel
theorem dX12_put__14 : decode cX12_put_ 14 = .ok (.iload_n 2, 1) := by decide +kernel
theorem dX12_put__15 : decode cX12_put_ 15 = .ok (.invokevirtual 362, 3) := by decide +kernel
theorem dX12_put__18 : decode cX12_put_ 18 = .ok (.ifCond .eq 29, 3) := by decide +kernel
theorem dX12_put__21 : decode cX12_put_ 21 = .ok (.aload_n 0, 1) := by decide +kernel
theorem dX12_put__22 : decode cX12_put_ 22 = .ok (.aload_n 0, 1) := by decide +kernel
theorem dX12_put__23 : decode cX12_put_ 23 = .ok (.getfield 61, 3) := by decide +kernel
theorem dX12_put__26 : decode cX12_put_ 26 = .ok (.iload_n 1, 1) := by decide +kernel
theorem dX12_put__27 : decode cX12_put_ 27 = .ok (.invokevirtual 345, 3) := by decide +kernel
theorem dX12_put__30 : decode cX12_put_ 30 = .ok (.iconst (-1), 1) := by decide +kernel
theorem dX12_put__31 : decode cX12_put_ 31 = .ok (.if_icmp .ne 16, 3) := by decide +kernel
theorem dX12_put__34 : decode cX12_put_ 34 = .ok (.aload_n 0, 1) := by decide +kernel
theorem dX12_put__35 : decode cX12_put_ 35 = .ok (.getfield 61, 3) := by decide +kernel
theorem dX12_put__38 : decode cX12_put_ 38 = .ok (.bipush 20, 2) := by decide +kernel
theorem dX12_put__40 : decode cX12_put_ 40 = .ok (.iload_n 2, 1) := by decide +kernel
theorem dX12_put__41 : decode cX12_put_ 41 = .ok (.imul, 1) := by decide +kernel
theorem dX12_put__42 : decode cX12_put_ 42 = .ok (.iaload, 1) := by decide +kernel
theorem dX12_put__43 : decode cX12_put_ 43 = .ok (.iconst (-1), 1) := by decide +kernel
theorem dX12_put__44 : decode cX12_put_ 44 = .ok (.if_icmp .eq 5, 3) := by decide +kernel
theorem dX12_put__47 : decode cX12_put_ 47 = .ok (.iconst (-1), 1) := by decide +kernel
theorem dX12_put__48 : decode cX12_put_ 48 = .ok (.ireturn, 1) := by decide +kernel
theorem dX12_put__49 : decode cX12_put_ 49 = .ok (.aload_n 0, 1) := by decide +kernel
theorem dX12_put__50 : decode cX12_put_ 50 = .ok (.invokevirtual 372, 3) := by decide +kernel
theorem dX12_put__53 : decode cX12_put_ 53 = .ok (.aload_n 0, 1) := by decide +kernel
theorem dX12_put__54 : decode cX12_put_ 54 = .ok (.getfield 61, 3) := by decide +kernel
theorem dX12_put__57 : decode cX12_put_ 57 = .ok (.bipush 20, 2) := by decide +kernel
theorem dX12_put__59 : decode cX12_put_ 59 = .ok (.iload_n 2, 1) := by decide +kernel
theorem dX12_put__60 : decode cX12_put_ 60 = .ok (.imul, 1) := by decide +kernel
theorem dX12_put__61 : decode cX12_put_ 61 = .ok (.iload_n 1, 1) := by decide +kernel
theorem dX12_put__62 : decode cX12_put_ 62 = .ok (.iastore, 1) := by decide +kernel
theorem dX12_put__63 : decode cX12_put_ 63 = .ok (.aload_n 0, 1) := by decide +kernel
theorem dX12_put__64 : decode cX12_put_ 64 = .ok (.getfield 307, 3) := by decide +kernel
theorem dX12_put__67 : decode cX12_put_ 67 = .ok (.ireturn, 1) := by decide +kernel
theorem dX12_take_0 : decode cX12_take 0 = .ok (.aload_n 0, 1) := by decide +kernel
theorem dX12_take_1 : decode cX12_take 1 = .ok (.iconst 0, 1) := by decide +kernel
theorem dX12_take_2 : decode cX12_take 2 = .ok (.putfield 91, 3) := by decide +kernel
theorem dX12_take_5 : decode cX12_take 5 = .ok (.aload_n 0, 1) := by decide +kernel
theorem dX12_take_6 : decode cX12_take 6 = .ok (.iload_n 1, 1) := by decide +kernel
theorem dX12_take_7 : decode cX12_take 7 = .ok (.invokevirtual 362, 3) := by decide +kernel
theorem dX12_take_10 : decode cX12_take 10 = .ok (.ifCond .eq 16, 3) := by decide +kernel
theorem dX12_take_13 : decode cX12_take 13 = .ok (.aload_n 0, 1) := by decide +kernel
theorem dX12_take_14 : decode cX12_take 14 = .ok (.getfield 61, 3) := by decide +kernel
theorem dX12_take_17 : decode cX12_take 17 = .ok (.bipush 20, 2) := by decide +kernel
theorem dX12_take_19 : decode cX12_take 19 = .ok (.iload_n 1, 1) := by decide +kernel
theorem dX12_take_20 : decode cX12_take 20 = .ok (.imul, 1) := by decide +kernel
theorem dX12_take_21 : decode cX12_take 21 = .ok (.iaload, 1) := by decide +kernel
theorem dX12_take_22 : decode cX12_take 22 = .ok (.iconst (-1), 1) := by decide +kernel
theorem dX12_take_23 : decode cX12_take 23 = .ok (.if_icmp .ne 5, 3) := by decide +kernel
theorem dX12_take_26 : decode cX12_take 26 = .ok (.iconst (-1), 1) := by decide +kernel
theorem dX12_take_27 : decode cX12_take 27 = .ok (.ireturn, 1) := by decide +kernel
theorem dX12_take_28 : decode cX12_take 28 = .ok (.aload_n 0, 1) := by decide +kernel
theorem dX12_take_29 : decode cX12_take 29 = .ok (.invokevirtual 372, 3) := by decide +kernel
theorem dX12_take_32 : decode cX12_take 32 = .ok (.aload_n 0, 1) := by decide +kernel
theorem dX12_take_33 : decode cX12_take 33 = .ok (.getfield 61, 3) := by decide +kernel
theorem dX12_take_36 : decode cX12_take 36 = .ok (.bipush 20, 2) := by decide +kernel
theorem dX12_take_38 : decode cX12_take 38 = .ok (.iload_n 1, 1) := by decide +kernel
theorem dX12_take_39 : decode cX12_take 39 = .ok (.imul, 1) := by decide +kernel
theorem dX12_take_40 : decode cX12_take 40 = .ok (.iaload, 1) := by decide +kernel
theorem dX12_take_41 : decode cX12_take 41 = .ok (.istore_n 2, 1) := by decide +kernel
theorem dX12_take_42 : decode cX12_take 42 = .ok (.aload_n 0, 1) := by decide +kernel
theorem dX12_take_43 : decode cX12_take 43 = .ok (.getfield 61, 3) := by decide +kernel
theorem dX12_take_46 : decode cX12_take 46 = .ok (.bipush 20, 2) := by decide +kernel
theorem dX12_take_48 : decode cX12_take 48 = .ok (.iload_n 1, 1) := by decide +kernel
theorem dX12_take_49 : decode cX12_take 49 = .ok (.imul, 1) := by decide +kernel
theorem dX12_take_50 : decode cX12_take 50 = .ok (.iconst (-1), 1) := by decide +kernel
theorem dX12_take_51 : decode cX12_take 51 = .ok (.iastore, 1) := by decide +kernel
theorem dX12_take_52 : decode cX12_take 52 = .ok (.iload_n 2, 1) := by decide +kernel
theorem dX12_take_53 : decode cX12_take 53 = .ok (.ireturn, 1) := by decide +kernel
theorem dX12_leftOf_0 : decode cX12_leftOf 0 = .ok (.iconst 0, 1) := by decide +kernel
theorem dX12_leftOf_1 : decode cX12_leftOf 1 = .ok (.istore_n 2, 1) := by decide +kernel
theorem dX12_leftOf_2 : decode cX12_leftOf 2 = .ok (.iconst 0, 1) := by decide +kernel
theorem dX12_leftOf_3 : decode cX12_leftOf 3 = .ok (.istore_n 3, 1) := by decide +kernel
theorem dX12_leftOf_4 : decode cX12_leftOf 4 = .ok (.iload_n 3, 1) := by decide +kernel
theorem dX12_leftOf_5 : decode cX12_leftOf 5 = .ok (.aload_n 0, 1) := by decide +kernel
theorem dX12_leftOf_6 : decode cX12_leftOf 6 = .ok (.iload_n 1, 1) := by decide +kernel
theorem dX12_leftOf_7 : decode cX12_leftOf 7 = .ok (.invokestatic 323, 3) := by decide +kernel
theorem dX12_leftOf_10 : decode cX12_leftOf 10 = .ok (.if_icmp .ge 26, 3) := by decide +kernel
theorem dX12_leftOf_13 : decode cX12_leftOf 13 = .ok (.iload_n 2, 1) := by decide +kernel
theorem dX12_leftOf_14 : decode cX12_leftOf 14 = .ok (.aload_n 0, 1) := by decide +kernel
theorem dX12_leftOf_15 : decode cX12_leftOf 15 = .ok (.iload_n 1, 1) := by decide +kernel
theorem dX12_leftOf_16 : decode cX12_leftOf 16 = .ok (.iload_n 3, 1) := by decide +kernel
theorem dX12_leftOf_17 : decode cX12_leftOf 17 = .ok (.invokestatic 327, 3) := by decide +kernel
theorem dX12_leftOf_20 : decode cX12_leftOf 20 = .ok (.ifCond .le 7, 3) := by decide +kernel
theorem dX12_leftOf_23 : decode cX12_leftOf 23 = .ok (.iconst 1, 1) := by decide +kernel
theorem dX12_leftOf_24 : decode cX12_leftOf 24 = .ok (.goto 4, 3) := by decide +kernel
theorem dX12_leftOf_27 : decode cX12_leftOf 27 = .ok (.iconst 0, 1) := by decide +kernel
theorem dX12_leftOf_28 : decode cX12_leftOf 28 = .ok (.iadd, 1) := by decide +kernel
theorem dX12_leftOf_29 : decode cX12_leftOf 29 = .ok (.istore_n 2, 1) := by decide +kernel
theorem dX12_leftOf_30 : decode cX12_leftOf 30 = .ok (.iinc 3 1, 3) := by decide +kernel
theorem dX12_leftOf_33 : decode cX12_leftOf 33 = .ok (.goto (-29), 3) := by decide +kernel
theorem dX12_leftOf_36 : decode cX12_leftOf 36 = .ok (.iload_n 2, 1) := by decide +kernel
theorem dX12_leftOf_37 : decode cX12_leftOf 37 = .ok (.ireturn, 1) := by decide +kernel
theorem dX12_copy_0 : decode cX12_copy 0 = .ok (.aload_n 0, 1) := by decide +kernel
theorem dX12_copy_1 : decode cX12_copy 1 = .ok (.iconst 0, 1) := by decide +kernel
theorem dX12_copy_2 : decode cX12_copy 2 = .ok (.putfield 91, 3) := by decide +kernel
theorem dX12_copy_5 : decode cX12_copy 5 = .ok (.aload_n 0, 1) := by decide +kernel
theorem dX12_copy_6 : decode cX12_copy 6 = .ok (.iload_n 1, 1) := by decide +kernel
theorem dX12_copy_7 : decode cX12_copy 7 = .ok (.invokevirtual 362, 3) := by decide +kernel
theorem dX12_copy_10 : decode cX12_copy 10 = .ok (.ifCond .eq 24, 3) := by decide +kernel
theorem dX12_copy_13 : decode cX12_copy 13 = .ok (.aload_n 0, 1) := by decide +kernel
theorem dX12_copy_14 : decode cX12_copy 14 = .ok (.getfield 61, 3) := by decide +kernel
theorem dX12_copy_17 : decode cX12_copy 17 = .ok (.bipush 121, 2) := by decide +kernel
theorem dX12_copy_19 : decode cX12_copy 19 = .ok (.iaload, 1) := by decide +kernel
theorem dX12_copy_20 : decode cX12_copy 20 = .ok (.ifCond .eq 14, 3) := by decide +kernel
theorem dX12_copy_23 : decode cX12_copy 23 = .ok (.aload_n 0, 1) := by decide +kernel
theorem dX12_copy_24 : decode cX12_copy 24 = .ok (.getfield 61, 3) := by decide +kernel
theorem dX12_copy_27 : decode cX12_copy 27 = .ok (.iload_n 1, 1) := by decide +kernel
theorem dX12_copy_28 : decode cX12_copy 28 = .ok (.invokestatic 375, 3) := by decide +kernel
theorem dX12_copy_31 : decode cX12_copy 31 = .ok (.ifCond .ne 5, 3) := by decide +kernel
theorem dX12_copy_34 : decode cX12_copy 34 = .ok (.iconst (-1), 1) := by decide +kernel
theorem dX12_copy_35 : decode cX12_copy 35 = .ok (.ireturn, 1) := by decide +kernel
theorem dX12_copy_36 : decode cX12_copy 36 = .ok (.aload_n 0, 1) := by decide +kernel
theorem dX12_copy_37 : decode cX12_copy 37 = .ok (.invokevirtual 372, 3) := by decide +kernel
theorem dX12_copy_40 : decode cX12_copy 40 = .ok (.aload_n 0, 1) := by decide +kernel
theorem dX12_copy_41 : decode cX12_copy 41 = .ok (.getfield 61, 3) := by decide +kernel
theorem dX12_copy_44 : decode cX12_copy 44 = .ok (.bipush 121, 2) := by decide +kernel
theorem dX12_copy_46 : decode cX12_copy 46 = .ok (.dup2, 1) := by decide +kernel
theorem dX12_copy_47 : decode cX12_copy 47 = .ok (.iaload, 1) := by decide +kernel
theorem dX12_copy_48 : decode cX12_copy 48 = .ok (.iconst 1, 1) := by decide +kernel
theorem dX12_copy_49 : decode cX12_copy 49 = .ok (.isub, 1) := by decide +kernel
theorem dX12_copy_50 : decode cX12_copy 50 = .ok (.iastore, 1) := by decide +kernel
theorem dX12_copy_51 : decode cX12_copy 51 = .ok (.iconst 0, 1) := by decide +kernel
theorem dX12_copy_52 : decode cX12_copy 52 = .ok (.istore_n 2, 1) := by decide +kernel
theorem dX12_copy_53 : decode cX12_copy 53 = .ok (.iload_n 2, 1) := by decide +kernel
theorem dX12_copy_54 : decode cX12_copy 54 = .ok (.aload_n 0, 1) := by decide +kernel
theorem dX12_copy_55 : decode cX12_copy 55 = .ok (.getfield 61, 3) := by decide +kernel
theorem dX12_copy_58 : decode cX12_copy 58 = .ok (.iload_n 1, 1) := by decide +kernel
theorem dX12_copy_59 : decode cX12_copy 59 = .ok (.invokestatic 323, 3) := by decide +kernel
theorem dX12_copy_62 : decode cX12_copy 62 = .ok (.if_icmp .ge 38, 3) := by decide +kernel
theorem dX12_copy_65 : decode cX12_copy 65 = .ok (.aload_n 0, 1) := by decide +kernel
theorem dX12_copy_66 : decode cX12_copy 66 = .ok (.getfield 61, 3) := by decide +kernel
theorem dX12_copy_69 : decode cX12_copy 69 = .ok (.iload_n 1, 1) := by decide +kernel
theorem dX12_copy_70 : decode cX12_copy 70 = .ok (.iload_n 2, 1) := by decide +kernel
theorem dX12_copy_71 : decode cX12_copy 71 = .ok (.invokestatic 327, 3) := by decide +kernel
theorem dX12_copy_74 : decode cX12_copy 74 = .ok (.ifCond .le 20, 3) := by decide +kernel
theorem dX12_copy_77 : decode cX12_copy 77 = .ok (.aload_n 0, 1) := by decide +kernel
theorem dX12_copy_78 : decode cX12_copy 78 = .ok (.getfield 61, 3) := by decide +kernel
theorem dX12_copy_81 : decode cX12_copy 81 = .ok (.bipush 20, 2) := by decide +kernel
theorem dX12_copy_83 : decode cX12_copy 83 = .ok (.iload_n 1, 1) := by decide +kernel
theorem dX12_copy_84 : decode cX12_copy 84 = .ok (.imul, 1) := by decide +kernel
theorem dX12_copy_85 : decode cX12_copy 85 = .ok (.iconst 4, 1) := by decide +kernel
theorem dX12_copy_86 : decode cX12_copy 86 = .ok (.iadd, 1) := by decide +kernel
theorem dX12_copy_87 : decode cX12_copy 87 = .ok (.iconst 3, 1) := by decide +kernel
theorem dX12_copy_88 : decode cX12_copy 88 = .ok (.iload_n 2, 1) := by decide +kernel
theorem dX12_copy_89 : decode cX12_copy 89 = .ok (.imul, 1) := by decide +kernel
theorem dX12_copy_90 : decode cX12_copy 90 = .ok (.iadd, 1) := by decide +kernel
theorem dX12_copy_91 : decode cX12_copy 91 = .ok (.bipush 9, 2) := by decide +kernel
theorem dX12_copy_93 : decode cX12_copy 93 = .ok (.iastore, 1) := by decide +kernel
theorem dX12_copy_94 : decode cX12_copy 94 = .ok (.iinc 2 1, 3) := by decide +kernel
theorem dX12_copy_97 : decode cX12_copy 97 = .ok (.goto (-44), 3) := by decide +kernel
theorem dX12_copy_100 : decode cX12_copy 100 = .ok (.aload_n 0, 1) := by decide +kernel
theorem dX12_copy_101 : decode cX12_copy 101 = .ok (.getfield 61, 3) := by decide +kernel
theorem dX12_copy_104 : decode cX12_copy 104 = .ok (.bipush 121, 2) := by decide +kernel
theorem dX12_copy_106 : decode cX12_copy 106 = .ok (.iaload, 1) := by decide +kernel
theorem dX12_copy_107 : decode cX12_copy 107 = .ok (.ireturn, 1) := by decide +kernel
theorem dX12_lamp_0 : decode cX12_lamp 0 = .ok (.aload_n 0, 1) := by decide +kernel
theorem dX12_lamp_1 : decode cX12_lamp 1 = .ok (.iconst 0, 1) := by decide +kernel
theorem dX12_lamp_2 : decode cX12_lamp 2 = .ok (.putfield 91, 3) := by decide +kernel
theorem dX12_lamp_5 : decode cX12_lamp 5 = .ok (.aload_n 0, 1) := by decide +kernel
theorem dX12_lamp_6 : decode cX12_lamp 6 = .ok (.iload_n 1, 1) := by decide +kernel
theorem dX12_lamp_7 : decode cX12_lamp 7 = .ok (.invokevirtual 362, 3) := by decide +kernel
theorem dX12_lamp_10 : decode cX12_lamp 10 = .ok (.ifCond .eq 14, 3) := by decide +kernel
theorem dX12_lamp_13 : decode cX12_lamp 13 = .ok (.aload_n 0, 1) := by decide +kernel
theorem dX12_lamp_14 : decode cX12_lamp 14 = .ok (.getfield 61, 3) := by decide +kernel
theorem dX12_lamp_17 : decode cX12_lamp 17 = .ok (.iload_n 1, 1) := by decide +kernel
theorem dX12_lamp_18 : decode cX12_lamp 18 = .ok (.invokestatic 375, 3) := by decide +kernel
theorem dX12_lamp_21 : decode cX12_lamp 21 = .ok (.ifCond .ne 5, 3) := by decide +kernel
theorem dX12_lamp_24 : decode cX12_lamp 24 = .ok (.iconst (-1), 1) := by decide +kernel
theorem dX12_lamp_25 : decode cX12_lamp 25 = .ok (.ireturn, 1) := by decide +kernel
theorem dX12_lamp_26 : decode cX12_lamp 26 = .ok (.aload_n 0, 1) := by decide +kernel
theorem dX12_lamp_27 : decode cX12_lamp 27 = .ok (.invokevirtual 372, 3) := by decide +kernel
theorem dX12_lamp_30 : decode cX12_lamp 30 = .ok (.iconst 0, 1) := by decide +kernel
theorem dX12_lamp_31 : decode cX12_lamp 31 = .ok (.istore_n 2, 1) := by decide +kernel
theorem dX12_lamp_32 : decode cX12_lamp 32 = .ok (.iload_n 2, 1) := by decide +kernel
theorem dX12_lamp_33 : decode cX12_lamp 33 = .ok (.aload_n 0, 1) := by decide +kernel
theorem dX12_lamp_34 : decode cX12_lamp 34 = .ok (.getfield 61, 3) := by decide +kernel
theorem dX12_lamp_37 : decode cX12_lamp 37 = .ok (.iload_n 1, 1) := by decide +kernel
theorem dX12_lamp_38 : decode cX12_lamp 38 = .ok (.invokestatic 323, 3) := by decide +kernel
theorem dX12_lamp_41 : decode cX12_lamp 41 = .ok (.if_icmp .ge 44, 3) := by decide +kernel
theorem dX12_lamp_44 : decode cX12_lamp 44 = .ok (.aload_n 0, 1) := by decide +kernel
theorem dX12_lamp_45 : decode cX12_lamp 45 = .ok (.getfield 61, 3) := by decide +kernel
theorem dX12_lamp_48 : decode cX12_lamp 48 = .ok (.bipush 20, 2) := by decide +kernel
theorem dX12_lamp_50 : decode cX12_lamp 50 = .ok (.iload_n 1, 1) := by decide +kernel
theorem dX12_lamp_51 : decode cX12_lamp 51 = .ok (.imul, 1) := by decide +kernel
theorem dX12_lamp_52 : decode cX12_lamp 52 = .ok (.iconst 4, 1) := by decide +kernel
theorem dX12_lamp_53 : decode cX12_lamp 53 = .ok (.iadd, 1) := by decide +kernel
theorem dX12_lamp_54 : decode cX12_lamp 54 = .ok (.iconst 3, 1) := by decide +kernel
theorem dX12_lamp_55 : decode cX12_lamp 55 = .ok (.iload_n 2, 1) := by decide +kernel
theorem dX12_lamp_56 : decode cX12_lamp 56 = .ok (.imul, 1) := by decide +kernel
theorem dX12_lamp_57 : decode cX12_lamp 57 = .ok (.iadd, 1) := by decide +kernel
theorem dX12_lamp_58 : decode cX12_lamp 58 = .ok (.dup2, 1) := by decide +kernel
theorem dX12_lamp_59 : decode cX12_lamp 59 = .ok (.iaload, 1) := by decide +kernel
theorem dX12_lamp_60 : decode cX12_lamp 60 = .ok (.aload_n 0, 1) := by decide +kernel
theorem dX12_lamp_61 : decode cX12_lamp 61 = .ok (.getfield 61, 3) := by decide +kernel
theorem dX12_lamp_64 : decode cX12_lamp 64 = .ok (.iload_n 1, 1) := by decide +kernel
theorem dX12_lamp_65 : decode cX12_lamp 65 = .ok (.iload_n 2, 1) := by decide +kernel
theorem dX12_lamp_66 : decode cX12_lamp 66 = .ok (.invokestatic 327, 3) := by decide +kernel
theorem dX12_lamp_69 : decode cX12_lamp 69 = .ok (.ifCond .le 7, 3) := by decide +kernel
theorem dX12_lamp_72 : decode cX12_lamp 72 = .ok (.iconst 1, 1) := by decide +kernel
theorem dX12_lamp_73 : decode cX12_lamp 73 = .ok (.goto 4, 3) := by decide +kernel
theorem dX12_lamp_76 : decode cX12_lamp 76 = .ok (.iconst 0, 1) := by decide +kernel
theorem dX12_lamp_77 : decode cX12_lamp 77 = .ok (.isub, 1) := by decide +kernel
theorem dX12_lamp_78 : decode cX12_lamp 78 = .ok (.iastore, 1) := by decide +kernel
theorem dX12_lamp_79 : decode cX12_lamp 79 = .ok (.iinc 2 1, 3) := by decide +kernel
theorem dX12_lamp_82 : decode cX12_lamp 82 = .ok (.goto (-50), 3) := by decide +kernel
theorem dX12_lamp_85 : decode cX12_lamp 85 = .ok (.aload_n 0, 1) := by decide +kernel
theorem dX12_lamp_86 : decode cX12_lamp 86 = .ok (.getfield 61, 3) := by decide +kernel
theorem dX12_lamp_89 : decode cX12_lamp 89 = .ok (.iload_n 1, 1) := by decide +kernel
theorem dX12_lamp_90 : decode cX12_lamp 90 = .ok (.invokestatic 375, 3) := by decide +kernel
theorem dX12_lamp_93 : decode cX12_lamp 93 = .ok (.ireturn, 1) := by decide +kernel
theorem dX12_light_0 : decode cX12_light 0 = .ok (.aload_n 0, 1) := by decide +kernel
theorem dX12_light_1 : decode cX12_light 1 = .ok (.iconst 0, 1) := by decide +kernel
theorem dX12_light_2 : decode cX12_light 2 = .ok (.putfield 91, 3) := by decide +kernel
theorem dX12_light_5 : decode cX12_light 5 = .ok (.aload_n 0, 1) := by decide +kernel
theorem dX12_light_6 : decode cX12_light 6 = .ok (.getfield 297, 3) := by decide +kernel
theorem dX12_light_9 : decode cX12_light 9 = .ok (.ifCond .eq 26, 3) := by decide +kernel
theorem dX12_light_12 : decode cX12_light 12 = .ok (.iload_n 1, 1) := by decide +kernel
theorem dX12_light_13 : decode cX12_light 13 = .ok (.i2l, 1) := by decide +kernel
theorem dX12_light_14 : decode cX12_light 14 = .ok (.lconst 0, 1) := by decide +kernel
theorem dX12_light_15 : decode cX12_light 15 = .ok (.ldc2_w 378, 3) := by decide +kernel
theorem dX12_light_18 : decode cX12_light 18 = .ok (.invokestatic 212, 3) := by decide +kernel
theorem dX12_light_21 : decode cX12_light 21 = .ok (.ifCond .eq 14, 3) := by decide +kernel
theorem dX12_light_24 : decode cX12_light 24 = .ok (.iload_n 1, 1) := by decide +kernel
theorem dX12_light_25 : decode cX12_light 25 = .ok (.aload_n 0, 1) := by decide +kernel
theorem dX12_light_26 : decode cX12_light 26 = .ok (.getfield 61, 3) := by decide +kernel
theorem dX12_light_29 : decode cX12_light 29 = .ok (.bipush 120, 2) := by decide +kernel
theorem dX12_light_31 : decode cX12_light 31 = .ok (.iaload, 1) := by decide +kernel
theorem dX12_light_32 : decode cX12_light 32 = .ok (.if_icmp .ne 5, 3) := by decide +kernel
theorem dX12_light_35 : decode cX12_light 35 = .ok (.iconst 0, 1) := by decide +kernel
theorem dX12_light_36 : decode cX12_light 36 = .ok (.ireturn, 1) := by decide +kernel
theorem dX12_light_37 : decode cX12_light 37 = .ok (.aload_n 0, 1) := by decide +kernel
theorem dX12_light_38 : decode cX12_light 38 = .ok (.invokevirtual 372, 3) := by decide +kernel
theorem dX12_light_41 : decode cX12_light 41 = .ok (.aload_n 0, 1) := by decide +kernel
theorem dX12_light_42 : decode cX12_light 42 = .ok (.getfield 61, 3) := by decide +kernel
theorem dX12_light_45 : decode cX12_light 45 = .ok (.bipush 120, 2) := by decide +kernel
theorem dX12_light_47 : decode cX12_light 47 = .ok (.iload_n 1, 1) := by decide +kernel
theorem dX12_light_48 : decode cX12_light 48 = .ok (.iastore, 1) := by decide +kernel
theorem dX12_light_49 : decode cX12_light 49 = .ok (.iconst 1, 1) := by decide +kernel
theorem dX12_light_50 : decode cX12_light 50 = .ok (.ireturn, 1) := by decide +kernel
theorem dX12_isReading_0 : decode cX12_isReading 0 = .ok (.iload_n 1, 1) := by decide +kernel
theorem dX12_isReading_1 : decode cX12_isReading 1 = .ok (.ifCond .lt 15, 3) := by decide +kernel
theorem dX12_isReading_4 : decode cX12_isReading 4 = .ok (.iload_n 1, 1) := by decide +kernel
theorem dX12_isReading_5 : decode cX12_isReading 5 = .ok (.aload_n 0, 1) := by decide +kernel
theorem dX12_isReading_6 : decode cX12_isReading 6 = .ok (.getfield 289, 3) := by decide +kernel
theorem dX12_isReading_9 : decode cX12_isReading 9 = .ok (.if_icmp .ge 7, 3) := by decide +kernel
theorem dX12_isReading_12 : decode cX12_isReading 12 = .ok (.iconst 1, 1) := by decide +kernel
theorem dX12_isReading_13 : decode cX12_isReading 13 = .ok (.goto 4, 3) := by decide +kernel
theorem dX12_isReading_16 : decode cX12_isReading 16 = .ok (.iconst 0, 1) := by decide +kernel
theorem dX12_isReading_17 : decode cX12_isReading 17 = .ok (.ireturn, 1) := by decide +kernel
theorem dX12_write_0 : decode cX12_write 0 = .ok (.aload_n 0, 1) := by decide +kernel
theorem dX12_write_1 : decode cX12_write 1 = .ok (.iconst 0, 1) := by decide +kernel
theorem dX12_write_2 : decode cX12_write 2 = .ok (.putfield 91, 3) := by decide +kernel
theorem dX12_write_5 : decode cX12_write 5 = .ok (.aload_n 0, 1) := by decide +kernel
theorem dX12_write_6 : decode cX12_write 6 = .ok (.iload_n 1, 1) := by decide +kernel
theorem dX12_write_7 : decode cX12_write 7 = .ok (.invokevirtual 362, 3) := by decide +kernel
theorem dX12_write_10 : decode cX12_write 10 = .ok (.ifCond .eq 24, 3) := by decide +kernel
theorem dX12_write_13 : decode cX12_write 13 = .ok (.aload_n 0, 1) := by decide +kernel
theorem dX12_write_14 : decode cX12_write 14 = .ok (.iload_n 2, 1) := by decide +kernel
theorem dX12_write_15 : decode cX12_write 15 = .ok (.invokevirtual 380, 3) := by decide +kernel
theorem dX12_write_18 : decode cX12_write 18 = .ok (.ifCond .eq 16, 3) := by decide +kernel
theorem dX12_write_21 : decode cX12_write 21 = .ok (.aload_n 0, 1) := by decide +kernel
theorem dX12_write_22 : decode cX12_write 22 = .ok (.getfield 61, 3) := by decide +kernel
theorem dX12_write_25 : decode cX12_write 25 = .ok (.bipush 20, 2) := by decide +kernel
theorem dX12_write_27 : decode cX12_write 27 = .ok (.iload_n 1, 1) := by decide +kernel
theorem dX12_write_28 : decode cX12_write 28 = .ok (.imul, 1) := by decide +kernel
theorem dX12_write_29 : decode cX12_write 29 = .ok (.iaload, 1) := by decide +kernel
theorem dX12_write_30 : decode cX12_write 30 = .ok (.iconst (-1), 1) := by decide +kernel
theorem dX12_write_31 : decode cX12_write 31 = .ok (.if_icmp .eq 5, 3) := by decide +kernel
theorem dX12_write_34 : decode cX12_write 34 = .ok (.iconst (-1), 1) := by decide +kernel
theorem dX12_write_35 : decode cX12_write 35 = .ok (.ireturn, 1) := by decide +kernel
theorem dX12_write_36 : decode cX12_write 36 = .ok (.aload_n 0, 1) := by decide +kernel
theorem dX12_write_37 : decode cX12_write 37 = .ok (.invokevirtual 372, 3) := by decide +kernel
theorem dX12_write_40 : decode cX12_write 40 = .ok (.aload_n 0, 1) := by decide +kernel
theorem dX12_write_41 : decode cX12_write 41 = .ok (.getfield 61, 3) := by decide +kernel
theorem dX12_write_44 : decode cX12_write 44 = .ok (.iload_n 1, 1) := by decide +kernel
theorem dX12_write_45 : decode cX12_write 45 = .ok (.aload_n 0, 1) := by decide +kernel
theorem dX12_write_46 : decode cX12_write 46 = .ok (.getfield 58, 3) := by decide +kernel
theorem dX12_write_49 : decode cX12_write 49 = .ok (.bipush 13, 2) := by decide +kernel
theorem dX12_write_51 : decode cX12_write 51 = .ok (.iload_n 2, 1) := by decide +kernel
theorem dX12_write_52 : decode cX12_write 52 = .ok (.imul, 1) := by decide +kernel
theorem dX12_write_53 : decode cX12_write 53 = .ok (.bipush 9, 2) := by decide +kernel
theorem dX12_write_55 : decode cX12_write 55 = .ok (.invokestatic 300, 3) := by decide +kernel
theorem dX12_write_58 : decode cX12_write 58 = .ok (.aload_n 0, 1) := by decide +kernel
theorem dX12_write_59 : decode cX12_write 59 = .ok (.getfield 61, 3) := by decide +kernel
theorem dX12_write_62 : decode cX12_write 62 = .ok (.iload_n 1, 1) := by decide +kernel
theorem dX12_write_63 : decode cX12_write 63 = .ok (.invokestatic 323, 3) := by decide +kernel
theorem dX12_write_66 : decode cX12_write 66 = .ok (.ireturn, 1) := by decide +kernel
theorem dX12_days_0 : decode cX12_days 0 = .ok (.aload_n 0, 1) := by decide +kernel
theorem dX12_days_1 : decode cX12_days 1 = .ok (.iconst 0, 1) := by decide +kernel
theorem dX12_days_2 : decode cX12_days 2 = .ok (.putfield 91, 3) := by decide +kernel
theorem dX12_days_5 : decode cX12_days 5 = .ok (.aload_n 0, 1) := by decide +kernel
theorem dX12_days_6 : decode cX12_days 6 = .ok (.getfield 297, 3) := by decide +kernel
theorem dX12_days_9 : decode cX12_days 9 = .ok (.ifCond .eq 15, 3) := by decide +kernel
theorem dX12_days_12 : decode cX12_days 12 = .ok (.iload_n 1, 1) := by decide +kernel
theorem dX12_days_13 : decode cX12_days 13 = .ok (.i2l, 1) := by decide +kernel
theorem dX12_days_14 : decode cX12_days 14 = .ok (.lconst 1, 1) := by decide +kernel
theorem dX12_days_15 : decode cX12_days 15 = .ok (.ldc2_w 383, 3) := by decide +kernel
theorem dX12_days_18 : decode cX12_days 18 = .ok (.invokestatic 212, 3) := by decide +kernel
theorem dX12_days_21 : decode cX12_days 21 = .ok (.ifCond .ne 5, 3) := by decide +kernel
theorem dX12_days_24 : decode cX12_days 24 = .ok (.iconst (-1), 1) := by decide +kernel
theorem dX12_days_25 : decode cX12_days 25 = .ok (.ireturn, 1) := by decide +kernel
theorem dX12_days_26 : decode cX12_days 26 = .ok (.iconst 0, 1) := by decide +kernel
theorem dX12_days_27 : decode cX12_days 27 = .ok (.istore_n 2, 1) := by decide +kernel
theorem dX12_days_28 : decode cX12_days 28 = .ok (.iload_n 2, 1) := by decide +kernel
theorem dX12_days_29 : decode cX12_days 29 = .ok (.iload_n 1, 1) := by decide +kernel
theorem dX12_days_30 : decode cX12_days 30 = .ok (.if_icmp .ge 21, 3) := by decide +kernel
theorem dX12_days_33 : decode cX12_days 33 = .ok (.aload_n 0, 1) := by decide +kernel
theorem dX12_days_34 : decode cX12_days 34 = .ok (.invokevirtual 372, 3) := by decide +kernel
theorem dX12_days_37 : decode cX12_days 37 = .ok (.aload_n 0, 1) := by decide +kernel
theorem dX12_days_38 : decode cX12_days 38 = .ok (.aload_n 0, 1) := by decide +kernel
theorem dX12_days_39 : decode cX12_days 39 = .ok (.getfield 61, 3) := by decide +kernel
theorem dX12_days_42 : decode cX12_days 42 = .ok (.invokevirtual 385, 3) := by decide +kernel
theorem dX12_days_45 : decode cX12_days 45 = .ok (.iinc 2 1, 3) := by decide +kernel
theorem dX12_days_48 : decode cX12_days 48 = .ok (.goto (-20), 3) := by decide +kernel
theorem dX12_days_51 : decode cX12_days 51 = .ok (.aload_n 0, 1) := by decide +kernel
theorem dX12_days_52 : decode cX12_days 52 = .ok (.getfield 61, 3) := by decide +kernel
theorem dX12_days_55 : decode cX12_days 55 = .ok (.bipush 122, 2) := by decide +kernel
theorem dX12_days_57 : decode cX12_days 57 = .ok (.iaload, 1) := by decide +kernel
theorem dX12_days_58 : decode cX12_days 58 = .ok (.ireturn, 1) := by decide +kernel
theorem dX12_draw_0 : decode cX12_draw 0 = .ok (.aload_n 0, 1) := by decide +kernel
theorem dX12_draw_1 : decode cX12_draw 1 = .ok (.aload_n 0, 1) := by decide +kernel
theorem dX12_draw_2 : decode cX12_draw 2 = .ok (.getfield 389, 3) := by decide +kernel
theorem dX12_draw_5 : decode cX12_draw 5 = .ok (.ldc2_w 393, 3) := by decide +kernel
theorem dX12_draw_8 : decode cX12_draw 8 = .ok (.lmul, 1) := by decide +kernel
theorem dX12_draw_9 : decode cX12_draw 9 = .ok (.ldc2_w 395, 3) := by decide +kernel
theorem dX12_draw_12 : decode cX12_draw 12 = .ok (.ladd, 1) := by decide +kernel
theorem dX12_draw_13 : decode cX12_draw 13 = .ok (.putfield 389, 3) := by decide +kernel
theorem dX12_draw_16 : decode cX12_draw 16 = .ok (.aload_n 0, 1) := by decide +kernel
theorem dX12_draw_17 : decode cX12_draw 17 = .ok (.getfield 389, 3) := by decide +kernel
theorem dX12_draw_20 : decode cX12_draw 20 = .ok (.bipush 33, 2) := by decide +kernel
theorem dX12_draw_22 : decode cX12_draw 22 = .ok (.lushr, 1) := by decide +kernel
theorem dX12_draw_23 : decode cX12_draw 23 = .ok (.iload_n 1, 1) := by decide +kernel
theorem dX12_draw_24 : decode cX12_draw 24 = .ok (.i2l, 1) := by decide +kernel
theorem dX12_draw_25 : decode cX12_draw 25 = .ok (.lrem, 1) := by decide +kernel
theorem dX12_draw_26 : decode cX12_draw 26 = .ok (.l2i, 1) := by decide +kernel
theorem dX12_draw_27 : decode cX12_draw 27 = .ok (.ireturn, 1) := by decide +kernel
theorem dX12_decades_0 : decode cX12_decades 0 = .ok (.aload_n 0, 1) := by decide +kernel
theorem dX12_decades_1 : decode cX12_decades 1 = .ok (.iconst 0, 1) := by decide +kernel
theorem dX12_decades_2 : decode cX12_decades 2 = .ok (.putfield 91, 3) := by decide +kernel
theorem dX12_decades_5 : decode cX12_decades 5 = .ok (.aload_n 0, 1) := by decide +kernel
theorem dX12_decades_6 : decode cX12_decades 6 = .ok (.getfield 297, 3) := by decide +kernel
theorem dX12_decades_9 : decode cX12_decades 9 = .ok (.ifCond .eq 15, 3) := by decide +kernel
theorem dX12_decades_12 : decode cX12_decades 12 = .ok (.iload_n 1, 1) := by decide +kernel
theorem dX12_decades_13 : decode cX12_decades 13 = .ok (.i2l, 1) := by decide +kernel
theorem dX12_decades_14 : decode cX12_decades 14 = .ok (.lconst 1, 1) := by decide +kernel
theorem dX12_decades_15 : decode cX12_decades 15 = .ok (.ldc2_w 383, 3) := by decide +kernel
theorem dX12_decades_18 : decode cX12_decades 18 = .ok (.invokestatic 212, 3) := by decide +kernel
theorem dX12_decades_21 : decode cX12_decades 21 = .ok (.ifCond .ne 5, 3) := by decide +kernel
theorem dX12_decades_24 : decode cX12_decades 24 = .ok (.iconst (-1), 1) := by decide +kernel
theorem dX12_decades_25 : decode cX12_decades 25 = .ok (.ireturn, 1) := by decide +kernel
theorem dX12_decades_26 : decode cX12_decades 26 = .ok (.aload_n 0, 1) := by decide +kernel
theorem dX12_decades_27 : decode cX12_decades 27 = .ok (.lload_n 2, 1) := by decide +kernel
theorem dX12_decades_28 : decode cX12_decades 28 = .ok (.putfield 389, 3) := by decide +kernel
theorem dX12_decades_31 : decode cX12_decades 31 = .ok (.iconst 0, 1) := by decide +kernel
theorem dX12_decades_32 : decode cX12_decades 32 = .ok (.istore 4, 2) := by decide +kernel
theorem dX12_decades_34 : decode cX12_decades 34 = .ok (.iload 4, 2) := by decide +kernel
theorem dX12_decades_36 : decode cX12_decades 36 = .ok (.iload_n 1, 1) := by decide +kernel
theorem dX12_decades_37 : decode cX12_decades 37 = .ok (.if_icmp .ge 98, 3) := by decide +kernel
theorem dX12_decades_40 : decode cX12_decades 40 = .ok (.aload_n 0, 1) := by decide +kernel
theorem dX12_decades_41 : decode cX12_decades 41 = .ok (.invokevirtual 372, 3) := by decide +kernel
theorem dX12_decades_44 : decode cX12_decades 44 = .ok (.aload_n 0, 1) := by decide +kernel
theorem dX12_decades_45 : decode cX12_decades 45 = .ok (.bipush 100, 2) := by decide +kernel
theorem dX12_decades_47 : decode cX12_decades 47 = .ok (.invokevirtual 397, 3) := by decide +kernel
theorem dX12_decades_50 : decode cX12_decades 50 = .ok (.aload_n 0, 1) := by decide +kernel
theorem dX12_decades_51 : decode cX12_decades 51 = .ok (.getfield 369, 3) := by decide +kernel
theorem dX12_decades_54 : decode cX12_decades 54 = .ok (.if_icmp .ge 67, 3) := by decide +kernel
theorem dX12_decades_57 : decode cX12_decades 57 = .ok (.aload_n 0, 1) := by decide +kernel
theorem dX12_decades_58 : decode cX12_decades 58 = .ok (.aload_n 0, 1) := by decide +kernel
theorem dX12_decades_59 : decode cX12_decades 59 = .ok (.getfield 297, 3) := by decide +kernel
theorem dX12_decades_62 : decode cX12_decades 62 = .ok (.invokevirtual 397, 3) := by decide +kernel
theorem dX12_decades_65 : decode cX12_decades 65 = .ok (.istore 5, 2) := by decide +kernel
theorem dX12_decades_67 : decode cX12_decades 67 = .ok (.aload_n 0, 1) := by decide +kernel
theorem dX12_decades_68 : decode cX12_decades 68 = .ok (.aload_n 0, 1) := by decide +kernel
theorem dX12_decades_69 : decode cX12_decades 69 = .ok (.getfield 297, 3) := by decide +kernel
theorem dX12_decades_72 : decode cX12_decades 72 = .ok (.invokevirtual 397, 3) := by decide +kernel
theorem dX12_decades_75 : decode cX12_decades 75 = .ok (.istore 6, 2) := by decide +kernel
theorem dX12_decades_77 : decode cX12_decades 77 = .ok (.aload_n 0, 1) := by decide +kernel
theorem dX12_decades_78 : decode cX12_decades 78 = .ok (.getfield 61, 3) := by decide +kernel
theorem dX12_decades_81 : decode cX12_decades 81 = .ok (.bipush 20, 2) := by decide +kernel
theorem dX12_decades_83 : decode cX12_decades 83 = .ok (.iload 5, 2) := by decide +kernel
theorem dX12_decades_85 : decode cX12_decades 85 = .ok (.imul, 1) := by decide +kernel
theorem dX12_decades_86 : decode cX12_decades 86 = .ok (.iaload, 1) := by decide +kernel
theorem dX12_decades_87 : decode cX12_decades 87 = .ok (.istore 7, 2) := by decide +kernel
theorem dX12_decades_89 : decode cX12_decades 89 = .ok (.aload_n 0, 1) := by decide +kernel
theorem dX12_decades_90 : decode cX12_decades 90 = .ok (.getfield 61, 3) := by decide +kernel
theorem dX12_decades_93 : decode cX12_decades 93 = .ok (.bipush 20, 2) := by decide +kernel
theorem dX12_decades_95 : decode cX12_decades 95 = .ok (.iload 5, 2) := by decide +kernel
theorem dX12_decades_97 : decode cX12_decades 97 = .ok (.imul, 1) := by decide +kernel
theorem dX12_decades_98 : decode cX12_decades 98 = .ok (.aload_n 0, 1) := by decide +kernel
theorem dX12_decades_99 : decode cX12_decades 99 = .ok (.getfield 61, 3) := by decide +kernel
theorem dX12_decades_102 : decode cX12_decades 102 = .ok (.bipush 20, 2) := by decide +kernel
theorem dX12_decades_104 : decode cX12_decades 104 = .ok (.iload 6, 2) := by decide +kernel
theorem dX12_decades_106 : decode cX12_decades 106 = .ok (.imul, 1) := by decide +kernel
theorem dX12_decades_107 : decode cX12_decades 107 = .ok (.iaload, 1) := by decide +kernel
theorem dX12_decades_108 : decode cX12_decades 108 = .ok (.iastore, 1) := by decide +kernel
theorem dX12_decades_109 : decode cX12_decades 109 = .ok (.aload_n 0, 1) := by decide +kernel
theorem dX12_decades_110 : decode cX12_decades 110 = .ok (.getfield 61, 3) := by decide +kernel
theorem dX12_decades_113 : decode cX12_decades 113 = .ok (.bipush 20, 2) := by decide +kernel
theorem dX12_decades_115 : decode cX12_decades 115 = .ok (.iload 6, 2) := by decide +kernel
theorem dX12_decades_117 : decode cX12_decades 117 = .ok (.imul, 1) := by decide +kernel
theorem dX12_decades_118 : decode cX12_decades 118 = .ok (.iload 7, 2) := by decide +kernel
theorem dX12_decades_120 : decode cX12_decades 120 = .ok (.iastore, 1) := by decide +kernel
theorem dX12_decades_121 : decode cX12_decades 121 = .ok (.aload_n 0, 1) := by decide +kernel
theorem dX12_decades_122 : decode cX12_decades 122 = .ok (.aload_n 0, 1) := by decide +kernel
theorem dX12_decades_123 : decode cX12_decades 123 = .ok (.getfield 61, 3) := by decide +kernel
theorem dX12_decades_126 : decode cX12_decades 126 = .ok (.invokevirtual 385, 3) := by decide +kernel
theorem dX12_decades_129 : decode cX12_decades 129 = .ok (.iinc 4 1, 3) := by decide +kernel
theorem dX12_decades_132 : decode cX12_decades 132 = .ok (.goto (-98), 3) := by decide +kernel
theorem dX12_decades_135 : decode cX12_decades 135 = .ok (.aload_n 0, 1) := by decide +kernel
theorem dX12_decades_136 : decode cX12_decades 136 = .ok (.getfield 61, 3) := by decide +kernel
theorem dX12_decades_139 : decode cX12_decades 139 = .ok (.bipush 122, 2) := by decide +kernel
theorem dX12_decades_141 : decode cX12_decades 141 = .ok (.iaload, 1) := by decide +kernel
theorem dX12_decades_142 : decode cX12_decades 142 = .ok (.ireturn, 1) := by decide +kernel
theorem dX12_undo_0 : decode cX12_undo 0 = .ok (.aload_n 0, 1) := by decide +kernel
theorem dX12_undo_1 : decode cX12_undo 1 = .ok (.iconst 0, 1) := by decide +kernel
theorem dX12_undo_2 : decode cX12_undo 2 = .ok (.putfield 91, 3) := by decide +kernel
theorem dX12_undo_5 : decode cX12_undo 5 = .ok (.aload_n 0, 1) := by decide +kernel
theorem dX12_undo_6 : decode cX12_undo 6 = .ok (.getfield 307, 3) := by decide +kernel
theorem dX12_undo_9 : decode cX12_undo 9 = .ok (.ifCond .ne 5, 3) := by decide +kernel
theorem dX12_undo_12 : decode cX12_undo 12 = .ok (.iconst (-1), 1) := by decide +kernel
theorem dX12_undo_13 : decode cX12_undo 13 = .ok (.ireturn, 1) := by decide +kernel
theorem dX12_undo_14 : decode cX12_undo 14 = .ok (.aload_n 0, 1) := by decide +kernel
theorem dX12_undo_15 : decode cX12_undo 15 = .ok (.dup, 1) := by decide +kernel
theorem dX12_undo_16 : decode cX12_undo 16 = .ok (.getfield 307, 3) := by decide +kernel
theorem dX12_undo_19 : decode cX12_undo 19 = .ok (.iconst 1, 1) := by decide +kernel
theorem dX12_undo_20 : decode cX12_undo 20 = .ok (.isub, 1) := by decide +kernel
theorem dX12_undo_21 : decode cX12_undo 21 = .ok (.putfield 307, 3) := by decide +kernel
theorem dX12_undo_24 : decode cX12_undo 24 = .ok (.iconst 0, 1) := by decide +kernel
theorem dX12_undo_25 : decode cX12_undo 25 = .ok (.istore_n 1, 1) := by decide +kernel
theorem dX12_undo_26 : decode cX12_undo 26 = .ok (.iload_n 1, 1) := by decide +kernel
theorem dX12_undo_27 : decode cX12_undo 27 = .ok (.sipush 304, 3) := by decide +kernel
theorem dX12_undo_30 : decode cX12_undo 30 = .ok (.if_icmp .ge 30, 3) := by decide +kernel
theorem dX12_undo_33 : decode cX12_undo 33 = .ok (.aload_n 0, 1) := by decide +kernel
theorem dX12_undo_34 : decode cX12_undo 34 = .ok (.getfield 61, 3) := by decide +kernel
theorem dX12_undo_37 : decode cX12_undo 37 = .ok (.iload_n 1, 1) := by decide +kernel
theorem dX12_undo_38 : decode cX12_undo 38 = .ok (.aload_n 0, 1) := by decide +kernel
theorem dX12_undo_39 : decode cX12_undo 39 = .ok (.getfield 71, 3) := by decide +kernel
theorem dX12_undo_42 : decode cX12_undo 42 = .ok (.sipush 304, 3) := by decide +kernel
theorem dX12_undo_45 : decode cX12_undo 45 = .ok (.aload_n 0, 1) := by decide +kernel
theorem dX12_undo_46 : decode cX12_undo 46 = .ok (.getfield 307, 3) := by decide +kernel
theorem dX12_undo_49 : decode cX12_undo 49 = .ok (.imul, 1) := by decide +kernel
theorem dX12_undo_50 : decode cX12_undo 50 = .ok (.iload_n 1, 1) := by decide +kernel
theorem dX12_undo_51 : decode cX12_undo 51 = .ok (.iadd, 1) := by decide +kernel
theorem dX12_undo_52 : decode cX12_undo 52 = .ok (.iaload, 1) := by decide +kernel
theorem dX12_undo_53 : decode cX12_undo 53 = .ok (.iastore, 1) := by decide +kernel
theorem dX12_undo_54 : decode cX12_undo 54 = .ok (.iinc 1 1, 3) := by decide +kernel
theorem dX12_undo_57 : decode cX12_undo 57 = .ok (.goto (-31), 3) := by decide +kernel
theorem dX12_undo_60 : decode cX12_undo 60 = .ok (.aload_n 0, 1) := by decide +kernel
theorem dX12_undo_61 : decode cX12_undo 61 = .ok (.getfield 307, 3) := by decide +kernel
theorem dX12_undo_64 : decode cX12_undo 64 = .ok (.ireturn, 1) := by decide +kernel
theorem dX12_log_0 : decode cX12_log 0 = .ok (.aload_n 0, 1) := by decide +kernel
theorem dX12_log_1 : decode cX12_log 1 = .ok (.iconst 0, 1) := by decide +kernel
theorem dX12_log_2 : decode cX12_log 2 = .ok (.putfield 91, 3) := by decide +kernel
theorem dX12_log_5 : decode cX12_log 5 = .ok (.iload_n 1, 1) := by decide +kernel
theorem dX12_log_6 : decode cX12_log 6 = .ok (.i2l, 1) := by decide +kernel
theorem dX12_log_7 : decode cX12_log 7 = .ok (.lconst 0, 1) := by decide +kernel
theorem dX12_log_8 : decode cX12_log 8 = .ok (.aload_n 0, 1) := by decide +kernel
theorem dX12_log_9 : decode cX12_log 9 = .ok (.getfield 61, 3) := by decide +kernel
theorem dX12_log_12 : decode cX12_log 12 = .ok (.bipush 123, 2) := by decide +kernel
theorem dX12_log_14 : decode cX12_log 14 = .ok (.iaload, 1) := by decide +kernel
theorem dX12_log_15 : decode cX12_log 15 = .ok (.iconst 1, 1) := by decide +kernel
theorem dX12_log_16 : decode cX12_log 16 = .ok (.isub, 1) := by decide +kernel
theorem dX12_log_17 : decode cX12_log 17 = .ok (.i2l, 1) := by decide +kernel
theorem dX12_log_18 : decode cX12_log 18 = .ok (.invokestatic 212, 3) := by decide +kernel
theorem dX12_log_21 : decode cX12_log 21 = .ok (.ifCond .eq 41, 3) := by decide +kernel
theorem dX12_log_24 : decode cX12_log 24 = .ok (.iload_n 2, 1) := by decide +kernel
theorem dX12_log_25 : decode cX12_log 25 = .ok (.i2l, 1) := by decide +kernel
theorem dX12_log_26 : decode cX12_log 26 = .ok (.lconst 0, 1) := by decide +kernel
theorem dX12_log_27 : decode cX12_log 27 = .ok (.ldc2_w 278, 3) := by decide +kernel
theorem dX12_log_30 : decode cX12_log 30 = .ok (.invokestatic 212, 3) := by decide +kernel
theorem dX12_log_33 : decode cX12_log 33 = .ok (.ifCond .eq 29, 3) := by decide +kernel
theorem dX12_log_36 : decode cX12_log 36 = .ok (.aload_n 0, 1) := by decide +kernel
theorem dX12_log_37 : decode cX12_log 37 = .ok (.getfield 61, 3) := by decide +kernel
theorem dX12_log_40 : decode cX12_log 40 = .ok (.bipush 124, 2) := by decide +kernel
theorem dX12_log_42 : decode cX12_log 42 = .ok (.iconst 3, 1) := by decide +kernel
theorem dX12_log_43 : decode cX12_log 43 = .ok (.aload_n 0, 1) := by decide +kernel
theorem dX12_log_44 : decode cX12_log 44 = .ok (.getfield 61, 3) := by decide +kernel
theorem dX12_log_47 : decode cX12_log 47 = .ok (.bipush 123, 2) := by decide +kernel
theorem dX12_log_49 : decode cX12_log 49 = .ok (.iaload, 1) := by decide +kernel
theorem dX12_log_50 : decode cX12_log 50 = .ok (.iconst 1, 1) := by decide +kernel
theorem dX12_log_51 : decode cX12_log 51 = .ok (.isub, 1) := by decide +kernel
theorem dX12_log_52 : decode cX12_log 52 = .ok (.iload_n 1, 1) := by decide +kernel
theorem dX12_log_53 : decode cX12_log 53 = .ok (.isub, 1) := by decide +kernel
theorem dX12_log_54 : decode cX12_log 54 = .ok (.imul, 1) := by decide +kernel
theorem dX12_log_55 : decode cX12_log 55 = .ok (.iadd, 1) := by decide +kernel
theorem dX12_log_56 : decode cX12_log 56 = .ok (.iload_n 2, 1) := by decide +kernel
theorem dX12_log_57 : decode cX12_log 57 = .ok (.iadd, 1) := by decide +kernel
theorem dX12_log_58 : decode cX12_log 58 = .ok (.iaload, 1) := by decide +kernel
theorem dX12_log_59 : decode cX12_log 59 = .ok (.goto 4, 3) := by decide +kernel
theorem dX12_log_62 : decode cX12_log 62 = .ok (.iconst (-1), 1) := by decide +kernel
theorem dX12_log_63 : decode cX12_log 63 = .ok (.ireturn, 1) := by decide +kernel
theorem dX12_reading_0 : decode cX12_reading 0 = .ok (.aload_n 0, 1) := by decide +kernel
theorem dX12_reading_1 : decode cX12_reading 1 = .ok (.iconst 0, 1) := by decide +kernel
theorem dX12_reading_2 : decode cX12_reading 2 = .ok (.putfield 91, 3) := by decide +kernel
theorem dX12_reading_5 : decode cX12_reading 5 = .ok (.aload_n 0, 1) := by decide +kernel
theorem dX12_reading_6 : decode cX12_reading 6 = .ok (.iload_n 1, 1) := by decide +kernel
theorem dX12_reading_7 : decode cX12_reading 7 = .ok (.invokevirtual 380, 3) := by decide +kernel
theorem dX12_reading_10 : decode cX12_reading 10 = .ok (.ifCond .eq 50, 3) := by decide +kernel
theorem dX12_reading_13 : decode cX12_reading 13 = .ok (.iload_n 2, 1) := by decide +kernel
theorem dX12_reading_14 : decode cX12_reading 14 = .ok (.ifCond .lt 46, 3) := by decide +kernel
theorem dX12_reading_17 : decode cX12_reading 17 = .ok (.iload_n 2, 1) := by decide +kernel
theorem dX12_reading_18 : decode cX12_reading 18 = .ok (.aload_n 0, 1) := by decide +kernel
theorem dX12_reading_19 : decode cX12_reading 19 = .ok (.getfield 58, 3) := by decide +kernel
theorem dX12_reading_22 : decode cX12_reading 22 = .ok (.bipush 13, 2) := by decide +kernel
theorem dX12_reading_24 : decode cX12_reading 24 = .ok (.iload_n 1, 1) := by decide +kernel
theorem dX12_reading_25 : decode cX12_reading 25 = .ok (.imul, 1) := by decide +kernel
theorem dX12_reading_26 : decode cX12_reading 26 = .ok (.iaload, 1) := by decide +kernel
theorem dX12_reading_27 : decode cX12_reading 27 = .ok (.if_icmp .ge 33, 3) := by decide +kernel
theorem dX12_reading_30 : decode cX12_reading 30 = .ok (.iload_n 3, 1) := by decide +kernel
theorem dX12_reading_31 : decode cX12_reading 31 = .ok (.i2l, 1) := by decide +kernel
theorem dX12_reading_32 : decode cX12_reading 32 = .ok (.lconst 0, 1) := by decide +kernel
theorem dX12_reading_33 : decode cX12_reading 33 = .ok (.lconst 1, 1) := by decide +kernel
theorem dX12_reading_34 : decode cX12_reading 34 = .ok (.invokestatic 212, 3) := by decide +kernel
theorem dX12_reading_37 : decode cX12_reading 37 = .ok (.ifCond .eq 23, 3) := by decide +kernel
theorem dX12_reading_40 : decode cX12_reading 40 = .ok (.aload_n 0, 1) := by decide +kernel
theorem dX12_reading_41 : decode cX12_reading 41 = .ok (.getfield 58, 3) := by decide +kernel
theorem dX12_reading_44 : decode cX12_reading 44 = .ok (.bipush 13, 2) := by decide +kernel
theorem dX12_reading_46 : decode cX12_reading 46 = .ok (.iload_n 1, 1) := by decide +kernel
theorem dX12_reading_47 : decode cX12_reading 47 = .ok (.imul, 1) := by decide +kernel
theorem dX12_reading_48 : decode cX12_reading 48 = .ok (.iconst 1, 1) := by decide +kernel
theorem dX12_reading_49 : decode cX12_reading 49 = .ok (.iadd, 1) := by decide +kernel
theorem dX12_reading_50 : decode cX12_reading 50 = .ok (.iconst 2, 1) := by decide +kernel
theorem dX12_reading_51 : decode cX12_reading 51 = .ok (.iload_n 2, 1) := by decide +kernel
theorem dX12_reading_52 : decode cX12_reading 52 = .ok (.imul, 1) := by decide +kernel
theorem dX12_reading_53 : decode cX12_reading 53 = .ok (.iadd, 1) := by decide +kernel
theorem dX12_reading_54 : decode cX12_reading 54 = .ok (.iload_n 3, 1) := by decide +kernel
theorem dX12_reading_55 : decode cX12_reading 55 = .ok (.iadd, 1) := by decide +kernel
theorem dX12_reading_56 : decode cX12_reading 56 = .ok (.iaload, 1) := by decide +kernel
theorem dX12_reading_57 : decode cX12_reading 57 = .ok (.goto 4, 3) := by decide +kernel
theorem dX12_reading_60 : decode cX12_reading 60 = .ok (.iconst (-1), 1) := by decide +kernel
theorem dX12_reading_61 : decode cX12_reading 61 = .ok (.ireturn, 1) := by decide +kernel
theorem dX12_right_0 : decode cX12_right 0 = .ok (.aload_n 0, 1) := by decide +kernel
theorem dX12_right_1 : decode cX12_right 1 = .ok (.iconst 0, 1) := by decide +kernel
theorem dX12_right_2 : decode cX12_right 2 = .ok (.putfield 91, 3) := by decide +kernel
theorem dX12_right_5 : decode cX12_right 5 = .ok (.aload_n 0, 1) := by decide +kernel
theorem dX12_right_6 : decode cX12_right 6 = .ok (.getfield 297, 3) := by decide +kernel
theorem dX12_right_9 : decode cX12_right 9 = .ok (.ifCond .ne 5, 3) := by decide +kernel
theorem dX12_right_12 : decode cX12_right 12 = .ok (.iconst (-1), 1) := by decide +kernel
theorem dX12_right_13 : decode cX12_right 13 = .ok (.ireturn, 1) := by decide +kernel
theorem dX12_right_14 : decode cX12_right 14 = .ok (.iconst 0, 1) := by decide +kernel
theorem dX12_right_15 : decode cX12_right 15 = .ok (.istore_n 1, 1) := by decide +kernel
theorem dX12_right_16 : decode cX12_right 16 = .ok (.iconst 0, 1) := by decide +kernel
theorem dX12_right_17 : decode cX12_right 17 = .ok (.istore_n 2, 1) := by decide +kernel
theorem dX12_right_18 : decode cX12_right 18 = .ok (.iload_n 2, 1) := by decide +kernel
theorem dX12_right_19 : decode cX12_right 19 = .ok (.aload_n 0, 1) := by decide +kernel
theorem dX12_right_20 : decode cX12_right 20 = .ok (.getfield 297, 3) := by decide +kernel
theorem dX12_right_23 : decode cX12_right 23 = .ok (.if_icmp .ge 31, 3) := by decide +kernel
theorem dX12_right_26 : decode cX12_right 26 = .ok (.iload_n 1, 1) := by decide +kernel
theorem dX12_right_27 : decode cX12_right 27 = .ok (.aload_n 0, 1) := by decide +kernel
theorem dX12_right_28 : decode cX12_right 28 = .ok (.aload_n 0, 1) := by decide +kernel
theorem dX12_right_29 : decode cX12_right 29 = .ok (.getfield 61, 3) := by decide +kernel
theorem dX12_right_32 : decode cX12_right 32 = .ok (.iload_n 2, 1) := by decide +kernel
theorem dX12_right_33 : decode cX12_right 33 = .ok (.invokevirtual 352, 3) := by decide +kernel
theorem dX12_right_36 : decode cX12_right 36 = .ok (.ifCond .eq 9, 3) := by decide +kernel
theorem dX12_right_39 : decode cX12_right 39 = .ok (.iconst 1, 1) := by decide +kernel
theorem dX12_right_40 : decode cX12_right 40 = .ok (.iload_n 2, 1) := by decide +kernel
theorem dX12_right_41 : decode cX12_right 41 = .ok (.ishl, 1) := by decide +kernel
theorem dX12_right_42 : decode cX12_right 42 = .ok (.goto 4, 3) := by decide +kernel
theorem dX12_right_45 : decode cX12_right 45 = .ok (.iconst 0, 1) := by decide +kernel
theorem dX12_right_46 : decode cX12_right 46 = .ok (.ior, 1) := by decide +kernel
theorem dX12_right_47 : decode cX12_right 47 = .ok (.istore_n 1, 1) := by decide +kernel
theorem dX12_right_48 : decode cX12_right 48 = .ok (.iinc 2 1, 3) := by decide +kernel
theorem dX12_right_51 : decode cX12_right 51 = .ok (.goto (-33), 3) := by decide +kernel
theorem dX12_right_54 : decode cX12_right 54 = .ok (.iload_n 1, 1) := by decide +kernel
theorem dX12_right_55 : decode cX12_right 55 = .ok (.ireturn, 1) := by decide +kernel
theorem dX12_goMatch_0 : decode cX12_goMatch 0 = .ok (.iload_n 3, 1) := by decide +kernel
theorem dX12_goMatch_1 : decode cX12_goMatch 1 = .ok (.aload_n 0, 1) := by decide +kernel
theorem dX12_goMatch_2 : decode cX12_goMatch 2 = .ok (.getfield 297, 3) := by decide +kernel
theorem dX12_goMatch_5 : decode cX12_goMatch 5 = .ok (.iadd, 1) := by decide +kernel
theorem dX12_goMatch_6 : decode cX12_goMatch 6 = .ok (.iload_n 1, 1) := by decide +kernel
theorem dX12_goMatch_7 : decode cX12_goMatch 7 = .ok (.isub, 1) := by decide +kernel
theorem dX12_goMatch_8 : decode cX12_goMatch 8 = .ok (.aload_n 0, 1) := by decide +kernel
theorem dX12_goMatch_9 : decode cX12_goMatch 9 = .ok (.getfield 400, 3) := by decide +kernel
theorem dX12_goMatch_12 : decode cX12_goMatch 12 = .ok (.if_icmp .ge 4, 3) := by decide +kernel
theorem dX12_goMatch_15 : decode cX12_goMatch 15 = .ok (.return_, 1) := by decide +kernel
theorem dX12_goMatch_16 : decode cX12_goMatch 16 = .ok (.iload_n 1, 1) := by decide +kernel
theorem dX12_goMatch_17 : decode cX12_goMatch 17 = .ok (.aload_n 0, 1) := by decide +kernel
theorem dX12_goMatch_18 : decode cX12_goMatch 18 = .ok (.getfield 297, 3) := by decide +kernel
theorem dX12_goMatch_21 : decode cX12_goMatch 21 = .ok (.if_icmp .ne 95, 3) := by decide +kernel
theorem dX12_goMatch_24 : decode cX12_goMatch 24 = .ok (.iload_n 3, 1) := by decide +kernel
theorem dX12_goMatch_25 : decode cX12_goMatch 25 = .ok (.aload_n 0, 1) := by decide +kernel
theorem dX12_goMatch_26 : decode cX12_goMatch 26 = .ok (.getfield 400, 3) := by decide +kernel
theorem dX12_goMatch_29 : decode cX12_goMatch 29 = .ok (.if_icmp .ne 13, 3) := by decide +kernel
theorem dX12_goMatch_32 : decode cX12_goMatch 32 = .ok (.iload 4, 2) := by decide +kernel
theorem dX12_goMatch_34 : decode cX12_goMatch 34 = .ok (.aload_n 0, 1) := by decide +kernel
theorem dX12_goMatch_35 : decode cX12_goMatch 35 = .ok (.getfield 403, 3) := by decide +kernel
theorem dX12_goMatch_38 : decode cX12_goMatch 38 = .ok (.if_icmp .lt 4, 3) := by decide +kernel
theorem dX12_goMatch_41 : decode cX12_goMatch 41 = .ok (.return_, 1) := by decide +kernel
theorem dX12_goMatch_42 : decode cX12_goMatch 42 = .ok (.iconst 0, 1) := by decide +kernel
theorem dX12_goMatch_43 : decode cX12_goMatch 43 = .ok (.istore 6, 2) := by decide +kernel
theorem dX12_goMatch_45 : decode cX12_goMatch 45 = .ok (.iload 6, 2) := by decide +kernel
theorem dX12_goMatch_47 : decode cX12_goMatch 47 = .ok (.aload_n 0, 1) := by decide +kernel
theorem dX12_goMatch_48 : decode cX12_goMatch 48 = .ok (.getfield 297, 3) := by decide +kernel
theorem dX12_goMatch_51 : decode cX12_goMatch 51 = .ok (.if_icmp .ge 47, 3) := by decide +kernel
theorem dX12_goMatch_54 : decode cX12_goMatch 54 = .ok (.aload_n 0, 1) := by decide +kernel
theorem dX12_goMatch_55 : decode cX12_goMatch 55 = .ok (.getfield 64, 3) := by decide +kernel
theorem dX12_goMatch_58 : decode cX12_goMatch 58 = .ok (.bipush 20, 2) := by decide +kernel
theorem dX12_goMatch_60 : decode cX12_goMatch 60 = .ok (.iload 6, 2) := by decide +kernel
theorem dX12_goMatch_62 : decode cX12_goMatch 62 = .ok (.imul, 1) := by decide +kernel
theorem dX12_goMatch_63 : decode cX12_goMatch 63 = .ok (.iaload, 1) := by decide +kernel
theorem dX12_goMatch_64 : decode cX12_goMatch 64 = .ok (.iconst (-1), 1) := by decide +kernel
theorem dX12_goMatch_65 : decode cX12_goMatch 65 = .ok (.if_icmp .eq 27, 3) := by decide +kernel
theorem dX12_goMatch_68 : decode cX12_goMatch 68 = .ok (.aload_n 0, 1) := by decide +kernel
theorem dX12_goMatch_69 : decode cX12_goMatch 69 = .ok (.aload_n 0, 1) := by decide +kernel
theorem dX12_goMatch_70 : decode cX12_goMatch 70 = .ok (.getfield 64, 3) := by decide +kernel
theorem dX12_goMatch_73 : decode cX12_goMatch 73 = .ok (.iload 6, 2) := by decide +kernel
theorem dX12_goMatch_75 : decode cX12_goMatch 75 = .ok (.aload_n 0, 1) := by decide +kernel
theorem dX12_goMatch_76 : decode cX12_goMatch 76 = .ok (.getfield 64, 3) := by decide +kernel
theorem dX12_goMatch_79 : decode cX12_goMatch 79 = .ok (.bipush 20, 2) := by decide +kernel
theorem dX12_goMatch_81 : decode cX12_goMatch 81 = .ok (.iload 6, 2) := by decide +kernel
theorem dX12_goMatch_83 : decode cX12_goMatch 83 = .ok (.imul, 1) := by decide +kernel
theorem dX12_goMatch_84 : decode cX12_goMatch 84 = .ok (.iaload, 1) := by decide +kernel
theorem dX12_goMatch_85 : decode cX12_goMatch 85 = .ok (.invokevirtual 334, 3) := by decide +kernel
theorem dX12_goMatch_88 : decode cX12_goMatch 88 = .ok (.ifCond .ne 4, 3) := by decide +kernel
theorem dX12_goMatch_91 : decode cX12_goMatch 91 = .ok (.return_, 1) := by decide +kernel
theorem dX12_goMatch_92 : decode cX12_goMatch 92 = .ok (.iinc 6 1, 3) := by decide +kernel
theorem dX12_goMatch_95 : decode cX12_goMatch 95 = .ok (.goto (-50), 3) := by decide +kernel
theorem dX12_goMatch_98 : decode cX12_goMatch 98 = .ok (.aload_n 0, 1) := by decide +kernel
theorem dX12_goMatch_99 : decode cX12_goMatch 99 = .ok (.iload 5, 2) := by decide +kernel
theorem dX12_goMatch_101 : decode cX12_goMatch 101 = .ok (.putfield 406, 3) := by decide +kernel
theorem dX12_goMatch_104 : decode cX12_goMatch 104 = .ok (.aload_n 0, 1) := by decide +kernel
theorem dX12_goMatch_105 : decode cX12_goMatch 105 = .ok (.iload_n 3, 1) := by decide +kernel
theorem dX12_goMatch_106 : decode cX12_goMatch 106 = .ok (.putfield 400, 3) := by decide +kernel
theorem dX12_goMatch_109 : decode cX12_goMatch 109 = .ok (.aload_n 0, 1) := by decide +kernel
theorem dX12_goMatch_110 : decode cX12_goMatch 110 = .ok (.iload 4, 2) := by decide +kernel
theorem dX12_goMatch_112 : decode cX12_goMatch 112 = .ok (.putfield 403, 3) := by decide +kernel
theorem dX12_goMatch_115 : decode cX12_goMatch 115 = .ok (.return_, 1) := by decide +kernel
theorem dX12_goMatch_116 : decode cX12_goMatch 116 = .ok (.iconst 0, 1) := by decide +kernel
theorem dX12_goMatch_117 : decode cX12_goMatch 117 = .ok (.istore 6, 2) := by decide +kernel
theorem dX12_goMatch_119 : decode cX12_goMatch 119 = .ok (.iload 6, 2) := by decide +kernel
theorem dX12_goMatch_121 : decode cX12_goMatch 121 = .ok (.aload_n 0, 1) := by decide +kernel
theorem dX12_goMatch_122 : decode cX12_goMatch 122 = .ok (.getfield 294, 3) := by decide +kernel
theorem dX12_goMatch_125 : decode cX12_goMatch 125 = .ok (.if_icmp .ge 68, 3) := by decide +kernel
theorem dX12_goMatch_128 : decode cX12_goMatch 128 = .ok (.iload_n 2, 1) := by decide +kernel
theorem dX12_goMatch_129 : decode cX12_goMatch 129 = .ok (.iload 6, 2) := by decide +kernel
theorem dX12_goMatch_131 : decode cX12_goMatch 131 = .ok (.invokestatic 224, 3) := by decide +kernel
theorem dX12_goMatch_134 : decode cX12_goMatch 134 = .ok (.ifCond .eq 6, 3) := by decide +kernel
theorem dX12_goMatch_137 : decode cX12_goMatch 137 = .ok (.goto 50, 3) := by decide +kernel
theorem dX12_goMatch_140 : decode cX12_goMatch 140 = .ok (.aload_n 0, 1) := by decide +kernel
theorem dX12_goMatch_141 : decode cX12_goMatch 141 = .ok (.getfield 64, 3) := by decide +kernel
theorem dX12_goMatch_144 : decode cX12_goMatch 144 = .ok (.bipush 20, 2) := by decide +kernel
theorem dX12_goMatch_146 : decode cX12_goMatch 146 = .ok (.iload_n 1, 1) := by decide +kernel
theorem dX12_goMatch_147 : decode cX12_goMatch 147 = .ok (.imul, 1) := by decide +kernel
theorem dX12_goMatch_148 : decode cX12_goMatch 148 = .ok (.iload 6, 2) := by decide +kernel
theorem dX12_goMatch_150 : decode cX12_goMatch 150 = .ok (.iastore, 1) := by decide +kernel
theorem dX12_goMatch_151 : decode cX12_goMatch 151 = .ok (.aload_n 0, 1) := by decide +kernel
theorem dX12_goMatch_152 : decode cX12_goMatch 152 = .ok (.iload_n 1, 1) := by decide +kernel
theorem dX12_goMatch_153 : decode cX12_goMatch 153 = .ok (.iconst 1, 1) := by decide +kernel
theorem dX12_goMatch_154 : decode cX12_goMatch 154 = .ok (.iadd, 1) := by decide +kernel
theorem dX12_goMatch_155 : decode cX12_goMatch 155 = .ok (.iload_n 2, 1) := by decide +kernel
theorem dX12_goMatch_156 : decode cX12_goMatch 156 = .ok (.iconst 1, 1) := by decide +kernel
theorem dX12_goMatch_157 : decode cX12_goMatch 157 = .ok (.iload 6, 2) := by decide +kernel
theorem dX12_goMatch_159 : decode cX12_goMatch 159 = .ok (.ishl, 1) := by decide +kernel
theorem dX12_goMatch_160 : decode cX12_goMatch 160 = .ok (.ior, 1) := by decide +kernel
theorem dX12_goMatch_161 : decode cX12_goMatch 161 = .ok (.iload_n 3, 1) := by decide +kernel
theorem dX12_goMatch_162 : decode cX12_goMatch 162 = .ok (.iconst 1, 1) := by decide +kernel
theorem dX12_goMatch_163 : decode cX12_goMatch 163 = .ok (.iadd, 1) := by decide +kernel
theorem dX12_goMatch_164 : decode cX12_goMatch 164 = .ok (.iload 4, 2) := by decide +kernel
theorem dX12_goMatch_166 : decode cX12_goMatch 166 = .ok (.aload_n 0, 1) := by decide +kernel
theorem dX12_goMatch_167 : decode cX12_goMatch 167 = .ok (.getfield 43, 3) := by decide +kernel
theorem dX12_goMatch_170 : decode cX12_goMatch 170 = .ok (.iconst 2, 1) := by decide +kernel
theorem dX12_goMatch_171 : decode cX12_goMatch 171 = .ok (.iload 6, 2) := by decide +kernel
theorem dX12_goMatch_173 : decode cX12_goMatch 173 = .ok (.imul, 1) := by decide +kernel
theorem dX12_goMatch_174 : decode cX12_goMatch 174 = .ok (.iaload, 1) := by decide +kernel
theorem dX12_goMatch_175 : decode cX12_goMatch 175 = .ok (.iadd, 1) := by decide +kernel
theorem dX12_goMatch_176 : decode cX12_goMatch 176 = .ok (.bipush 10, 2) := by decide +kernel
theorem dX12_goMatch_178 : decode cX12_goMatch 178 = .ok (.iload 5, 2) := by decide +kernel
theorem dX12_goMatch_180 : decode cX12_goMatch 180 = .ok (.imul, 1) := by decide +kernel
theorem dX12_goMatch_181 : decode cX12_goMatch 181 = .ok (.iload 6, 2) := by decide +kernel
theorem dX12_goMatch_183 : decode cX12_goMatch 183 = .ok (.iadd, 1) := by decide +kernel
theorem dX12_goMatch_184 : decode cX12_goMatch 184 = .ok (.invokevirtual 409, 3) := by decide +kernel
theorem dX12_goMatch_187 : decode cX12_goMatch 187 = .ok (.iinc 6 1, 3) := by decide +kernel
theorem dX12_goMatch_190 : decode cX12_goMatch 190 = .ok (.goto (-71), 3) := by decide +kernel
theorem dX12_goMatch_193 : decode cX12_goMatch 193 = .ok (.aload_n 0, 1) := by decide +kernel
theorem dX12_goMatch_194 : decode cX12_goMatch 194 = .ok (.getfield 64, 3) := by decide +kernel
theorem dX12_goMatch_197 : decode cX12_goMatch 197 = .ok (.bipush 20, 2) := by decide +kernel
theorem dX12_goMatch_199 : decode cX12_goMatch 199 = .ok (.iload_n 1, 1) := by decide +kernel
theorem dX12_goMatch_200 : decode cX12_goMatch 200 = .ok (.imul, 1) := by decide +kernel
theorem dX12_goMatch_201 : decode cX12_goMatch 201 = .ok (.iconst (-1), 1) := by decide +kernel
theorem dX12_goMatch_202 : decode cX12_goMatch 202 = .ok (.iastore, 1) := by decide +kernel
theorem dX12_goMatch_203 : decode cX12_goMatch 203 = .ok (.aload_n 0, 1) := by decide +kernel
theorem dX12_goMatch_204 : decode cX12_goMatch 204 = .ok (.iload_n 1, 1) := by decide +kernel
theorem dX12_goMatch_205 : decode cX12_goMatch 205 = .ok (.iconst 1, 1) := by decide +kernel
theorem dX12_goMatch_206 : decode cX12_goMatch 206 = .ok (.iadd, 1) := by decide +kernel
theorem dX12_goMatch_207 : decode cX12_goMatch 207 = .ok (.iload_n 2, 1) := by decide +kernel
theorem dX12_goMatch_208 : decode cX12_goMatch 208 = .ok (.iload_n 3, 1) := by decide +kernel
theorem dX12_goMatch_209 : decode cX12_goMatch 209 = .ok (.iload 4, 2) := by decide +kernel
theorem dX12_goMatch_211 : decode cX12_goMatch 211 = .ok (.bipush 10, 2) := by decide +kernel
theorem dX12_goMatch_213 : decode cX12_goMatch 213 = .ok (.iload 5, 2) := by decide +kernel
theorem dX12_goMatch_215 : decode cX12_goMatch 215 = .ok (.imul, 1) := by decide +kernel
theorem dX12_goMatch_216 : decode cX12_goMatch 216 = .ok (.bipush 9, 2) := by decide +kernel
theorem dX12_goMatch_218 : decode cX12_goMatch 218 = .ok (.iadd, 1) := by decide +kernel
theorem dX12_goMatch_219 : decode cX12_goMatch 219 = .ok (.invokevirtual 409, 3) := by decide +kernel
theorem dX12_goMatch_222 : decode cX12_goMatch 222 = .ok (.return_, 1) := by decide +kernel
theorem dX12_matched_0 : decode cX12_matched 0 = .ok (.aload_n 0, 1) := by decide +kernel
theorem dX12_matched_1 : decode cX12_matched 1 = .ok (.iconst 0, 1) := by decide +kernel
theorem dX12_matched_2 : decode cX12_matched 2 = .ok (.putfield 91, 3) := by decide +kernel
theorem dX12_matched_5 : decode cX12_matched 5 = .ok (.aload_n 0, 1) := by decide +kernel
theorem dX12_matched_6 : decode cX12_matched 6 = .ok (.getfield 297, 3) := by decide +kernel
theorem dX12_matched_9 : decode cX12_matched 9 = .ok (.ifCond .eq 15, 3) := by decide +kernel
theorem dX12_matched_12 : decode cX12_matched 12 = .ok (.iload_n 1, 1) := by decide +kernel
theorem dX12_matched_13 : decode cX12_matched 13 = .ok (.i2l, 1) := by decide +kernel
theorem dX12_matched_14 : decode cX12_matched 14 = .ok (.lconst 0, 1) := by decide +kernel
theorem dX12_matched_15 : decode cX12_matched 15 = .ok (.ldc2_w 278, 3) := by decide +kernel
theorem dX12_matched_18 : decode cX12_matched 18 = .ok (.invokestatic 212, 3) := by decide +kernel
theorem dX12_matched_21 : decode cX12_matched 21 = .ok (.ifCond .ne 5, 3) := by decide +kernel
theorem dX12_matched_24 : decode cX12_matched 24 = .ok (.iconst (-1), 1) := by decide +kernel
theorem dX12_matched_25 : decode cX12_matched 25 = .ok (.ireturn, 1) := by decide +kernel
theorem dX12_matched_26 : decode cX12_matched 26 = .ok (.aload_n 0, 1) := by decide +kernel
theorem dX12_matched_27 : decode cX12_matched 27 = .ok (.getfield 61, 3) := by decide +kernel
theorem dX12_matched_30 : decode cX12_matched 30 = .ok (.aload_n 0, 1) := by decide +kernel
theorem dX12_matched_31 : decode cX12_matched 31 = .ok (.getfield 64, 3) := by decide +kernel
theorem dX12_matched_34 : decode cX12_matched 34 = .ok (.invokestatic 413, 3) := by decide +kernel
