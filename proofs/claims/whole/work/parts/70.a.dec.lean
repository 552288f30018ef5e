theorem dX0_init_0 : decode cX0_init 0 = .ok (.aload_n 0, 1) := by decide +kernel
theorem dX0_init_1 : decode cX0_init 1 = .ok (.invokespecial 3, 3) := by decide +kernel
theorem dX0_init_4 : decode cX0_init 4 = .ok (.aload_n 0, 1) := by decide +kernel
theorem dX0_init_5 : decode cX0_init 5 = .ok (.sipush 128, 3) := by decide +kernel
theorem dX0_init_8 : decode cX0_init 8 = .ok (.newarray .int, 2) := by decide +kernel
theorem dX0_init_10 : decode cX0_init 10 = .ok (.putfield 11, 3) := by decide +kernel
theorem dX0_init_13 : decode cX0_init 13 = .ok (.aload_n 0, 1) := by decide +kernel
theorem dX0_init_14 : decode cX0_init 14 = .ok (.bipush 6, 2) := by decide +kernel
theorem dX0_init_16 : decode cX0_init 16 = .ok (.newarray .int, 2) := by decide +kernel
theorem dX0_init_18 : decode cX0_init 18 = .ok (.putfield 15, 3) := by decide +kernel
theorem dX0_init_21 : decode cX0_init 21 = .ok (.aload_n 0, 1) := by decide +kernel
theorem dX0_init_22 : decode cX0_init 22 = .ok (.aload_n 1, 1) := by decide +kernel
theorem dX0_init_23 : decode cX0_init 23 = .ok (.putfield 18, 3) := by decide +kernel
theorem dX0_init_26 : decode cX0_init 26 = .ok (.aload_n 0, 1) := by decide +kernel
theorem dX0_init_27 : decode cX0_init 27 = .ok (.aload_n 2, 1) := by decide +kernel
theorem dX0_init_28 : decode cX0_init 28 = .ok (.putfield 22, 3) := by decide +kernel
theorem dX0_init_31 : decode cX0_init 31 = .ok (.return_, 1) := by decide +kernel
theorem dX0_passDay_0 : decode cX0_passDay 0 = .ok (.aload_n 0, 1) := by decide +kernel
theorem dX0_passDay_1 : decode cX0_passDay 1 = .ok (.getfield 18, 3) := by decide +kernel
theorem dX0_passDay_4 : decode cX0_passDay 4 = .ok (.getfield 26, 3) := by decide +kernel
theorem dX0_passDay_7 : decode cX0_passDay 7 = .ok (.astore_n 1, 1) := by decide +kernel
theorem dX0_passDay_8 : decode cX0_passDay 8 = .ok (.aload_n 0, 1) := by decide +kernel
theorem dX0_passDay_9 : decode cX0_passDay 9 = .ok (.getfield 18, 3) := by decide +kernel
theorem dX0_passDay_12 : decode cX0_passDay 12 = .ok (.invokevirtual 32, 3) := by decide +kernel
theorem dX0_passDay_15 : decode cX0_passDay 15 = .ok (.istore_n 2, 1) := by decide +kernel
theorem dX0_passDay_16 : decode cX0_passDay 16 = .ok (.iconst 0, 1) := by decide +kernel
theorem dX0_passDay_17 : decode cX0_passDay 17 = .ok (.istore_n 3, 1) := by decide +kernel
theorem dX0_passDay_18 : decode cX0_passDay 18 = .ok (.iload_n 3, 1) := by decide +kernel
theorem dX0_passDay_19 : decode cX0_passDay 19 = .ok (.aload_n 0, 1) := by decide +kernel
theorem dX0_passDay_20 : decode cX0_passDay 20 = .ok (.getfield 18, 3) := by decide +kernel
theorem dX0_passDay_23 : decode cX0_passDay 23 = .ok (.getfield 36, 3) := by decide +kernel
theorem dX0_passDay_26 : decode cX0_passDay 26 = .ok (.if_icmp .ge 14, 3) := by decide +kernel
theorem dX0_passDay_29 : decode cX0_passDay 29 = .ok (.aload_n 0, 1) := by decide +kernel
theorem dX0_passDay_30 : decode cX0_passDay 30 = .ok (.iload_n 3, 1) := by decide +kernel
theorem dX0_passDay_31 : decode cX0_passDay 31 = .ok (.invokevirtual 40, 3) := by decide +kernel
theorem dX0_passDay_34 : decode cX0_passDay 34 = .ok (.iinc 3 1, 3) := by decide +kernel
theorem dX0_passDay_37 : decode cX0_passDay 37 = .ok (.goto (-19), 3) := by decide +kernel
theorem dX0_passDay_40 : decode cX0_passDay 40 = .ok (.aload_n 0, 1) := by decide +kernel
theorem dX0_passDay_41 : decode cX0_passDay 41 = .ok (.getfield 18, 3) := by decide +kernel
theorem dX0_passDay_44 : decode cX0_passDay 44 = .ok (.invokevirtual 32, 3) := by decide +kernel
theorem dX0_passDay_47 : decode cX0_passDay 47 = .ok (.iload_n 2, 1) := by decide +kernel
theorem dX0_passDay_48 : decode cX0_passDay 48 = .ok (.isub, 1) := by decide +kernel
theorem dX0_passDay_49 : decode cX0_passDay 49 = .ok (.istore_n 3, 1) := by decide +kernel
theorem dX0_passDay_50 : decode cX0_passDay 50 = .ok (.aload_n 1, 1) := by decide +kernel
theorem dX0_passDay_51 : decode cX0_passDay 51 = .ok (.getfield 44, 3) := by decide +kernel
theorem dX0_passDay_54 : decode cX0_passDay 54 = .ok (.istore 4, 2) := by decide +kernel
theorem dX0_passDay_56 : decode cX0_passDay 56 = .ok (.aload_n 1, 1) := by decide +kernel
theorem dX0_passDay_57 : decode cX0_passDay 57 = .ok (.dup, 1) := by decide +kernel
theorem dX0_passDay_58 : decode cX0_passDay 58 = .ok (.getfield 44, 3) := by decide +kernel
theorem dX0_passDay_61 : decode cX0_passDay 61 = .ok (.iconst 1, 1) := by decide +kernel
theorem dX0_passDay_62 : decode cX0_passDay 62 = .ok (.iadd, 1) := by decide +kernel
theorem dX0_passDay_63 : decode cX0_passDay 63 = .ok (.putfield 44, 3) := by decide +kernel
theorem dX0_passDay_66 : decode cX0_passDay 66 = .ok (.aload_n 0, 1) := by decide +kernel
theorem dX0_passDay_67 : decode cX0_passDay 67 = .ok (.invokevirtual 49, 3) := by decide +kernel
theorem dX0_passDay_70 : decode cX0_passDay 70 = .ok (.istore 5, 2) := by decide +kernel
theorem dX0_passDay_72 : decode cX0_passDay 72 = .ok (.aload_n 0, 1) := by decide +kernel
theorem dX0_passDay_73 : decode cX0_passDay 73 = .ok (.getfield 11, 3) := by decide +kernel
theorem dX0_passDay_76 : decode cX0_passDay 76 = .ok (.iload 4, 2) := by decide +kernel
theorem dX0_passDay_78 : decode cX0_passDay 78 = .ok (.bipush 127, 2) := by decide +kernel
theorem dX0_passDay_80 : decode cX0_passDay 80 = .ok (.iand, 1) := by decide +kernel
theorem dX0_passDay_81 : decode cX0_passDay 81 = .ok (.iload 5, 2) := by decide +kernel
theorem dX0_passDay_83 : decode cX0_passDay 83 = .ok (.bipush 16, 2) := by decide +kernel
theorem dX0_passDay_85 : decode cX0_passDay 85 = .ok (.aload_n 0, 1) := by decide +kernel
theorem dX0_passDay_86 : decode cX0_passDay 86 = .ok (.getfield 18, 3) := by decide +kernel
theorem dX0_passDay_89 : decode cX0_passDay 89 = .ok (.invokevirtual 52, 3) := by decide +kernel
theorem dX0_passDay_92 : decode cX0_passDay 92 = .ok (.imul, 1) := by decide +kernel
theorem dX0_passDay_93 : decode cX0_passDay 93 = .ok (.iadd, 1) := by decide +kernel
theorem dX0_passDay_94 : decode cX0_passDay 94 = .ok (.sipush 256, 3) := by decide +kernel
theorem dX0_passDay_97 : decode cX0_passDay 97 = .ok (.iload_n 3, 1) := by decide +kernel
theorem dX0_passDay_98 : decode cX0_passDay 98 = .ok (.imul, 1) := by decide +kernel
theorem dX0_passDay_99 : decode cX0_passDay 99 = .ok (.iadd, 1) := by decide +kernel
theorem dX0_passDay_100 : decode cX0_passDay 100 = .ok (.iastore, 1) := by decide +kernel
theorem dX0_passDay_101 : decode cX0_passDay 101 = .ok (.return_, 1) := by decide +kernel
theorem dX0_fadeCard_0 : decode cX0_fadeCard 0 = .ok (.aload_n 0, 1) := by decide +kernel
theorem dX0_fadeCard_1 : decode cX0_fadeCard 1 = .ok (.getfield 18, 3) := by decide +kernel
theorem dX0_fadeCard_4 : decode cX0_fadeCard 4 = .ok (.getfield 26, 3) := by decide +kernel
theorem dX0_fadeCard_7 : decode cX0_fadeCard 7 = .ok (.getfield 55, 3) := by decide +kernel
theorem dX0_fadeCard_10 : decode cX0_fadeCard 10 = .ok (.astore_n 2, 1) := by decide +kernel
theorem dX0_fadeCard_11 : decode cX0_fadeCard 11 = .ok (.iconst 0, 1) := by decide +kernel
theorem dX0_fadeCard_12 : decode cX0_fadeCard 12 = .ok (.istore_n 3, 1) := by decide +kernel
theorem dX0_fadeCard_13 : decode cX0_fadeCard 13 = .ok (.iload_n 3, 1) := by decide +kernel
theorem dX0_fadeCard_14 : decode cX0_fadeCard 14 = .ok (.aload_n 2, 1) := by decide +kernel
theorem dX0_fadeCard_15 : decode cX0_fadeCard 15 = .ok (.getfield 59, 3) := by decide +kernel
theorem dX0_fadeCard_18 : decode cX0_fadeCard 18 = .ok (.iload_n 1, 1) := by decide +kernel
theorem dX0_fadeCard_19 : decode cX0_fadeCard 19 = .ok (.iaload, 1) := by decide +kernel
theorem dX0_fadeCard_20 : decode cX0_fadeCard 20 = .ok (.if_icmp .ge 47, 3) := by decide +kernel
theorem dX0_fadeCard_23 : decode cX0_fadeCard 23 = .ok (.iload_n 1, 1) := by decide +kernel
theorem dX0_fadeCard_24 : decode cX0_fadeCard 24 = .ok (.bipush 6, 2) := by decide +kernel
theorem dX0_fadeCard_26 : decode cX0_fadeCard 26 = .ok (.imul, 1) := by decide +kernel
theorem dX0_fadeCard_27 : decode cX0_fadeCard 27 = .ok (.iload_n 3, 1) := by decide +kernel
theorem dX0_fadeCard_28 : decode cX0_fadeCard 28 = .ok (.iadd, 1) := by decide +kernel
theorem dX0_fadeCard_29 : decode cX0_fadeCard 29 = .ok (.istore 4, 2) := by decide +kernel
theorem dX0_fadeCard_31 : decode cX0_fadeCard 31 = .ok (.aload_n 2, 1) := by decide +kernel
theorem dX0_fadeCard_32 : decode cX0_fadeCard 32 = .ok (.getfield 64, 3) := by decide +kernel
theorem dX0_fadeCard_35 : decode cX0_fadeCard 35 = .ok (.iload 4, 2) := by decide +kernel
theorem dX0_fadeCard_37 : decode cX0_fadeCard 37 = .ok (.aload_n 0, 1) := by decide +kernel
theorem dX0_fadeCard_38 : decode cX0_fadeCard 38 = .ok (.iload_n 1, 1) := by decide +kernel
theorem dX0_fadeCard_39 : decode cX0_fadeCard 39 = .ok (.iload_n 3, 1) := by decide +kernel
theorem dX0_fadeCard_40 : decode cX0_fadeCard 40 = .ok (.aload_n 2, 1) := by decide +kernel
theorem dX0_fadeCard_41 : decode cX0_fadeCard 41 = .ok (.getfield 64, 3) := by decide +kernel
theorem dX0_fadeCard_44 : decode cX0_fadeCard 44 = .ok (.iload 4, 2) := by decide +kernel
theorem dX0_fadeCard_46 : decode cX0_fadeCard 46 = .ok (.iaload, 1) := by decide +kernel
theorem dX0_fadeCard_47 : decode cX0_fadeCard 47 = .ok (.aload_n 0, 1) := by decide +kernel
theorem dX0_fadeCard_48 : decode cX0_fadeCard 48 = .ok (.getfield 18, 3) := by decide +kernel
theorem dX0_fadeCard_51 : decode cX0_fadeCard 51 = .ok (.getfield 26, 3) := by decide +kernel
theorem dX0_fadeCard_54 : decode cX0_fadeCard 54 = .ok (.getfield 44, 3) := by decide +kernel
theorem dX0_fadeCard_57 : decode cX0_fadeCard 57 = .ok (.invokevirtual 67, 3) := by decide +kernel
theorem dX0_fadeCard_60 : decode cX0_fadeCard 60 = .ok (.iastore, 1) := by decide +kernel
theorem dX0_fadeCard_61 : decode cX0_fadeCard 61 = .ok (.iinc 3 1, 3) := by decide +kernel
theorem dX0_fadeCard_64 : decode cX0_fadeCard 64 = .ok (.goto (-51), 3) := by decide +kernel
theorem dX0_fadeCard_67 : decode cX0_fadeCard 67 = .ok (.return_, 1) := by decide +kernel
theorem dX0_inkAfter_0 : decode cX0_inkAfter 0 = .ok (.iload_n 3, 1) := by decide +kernel
theorem dX0_inkAfter_1 : decode cX0_inkAfter 1 = .ok (.ifCond .gt 5, 3) := by decide +kernel
theorem dX0_inkAfter_4 : decode cX0_inkAfter 4 = .ok (.iconst 0, 1) := by decide +kernel
theorem dX0_inkAfter_5 : decode cX0_inkAfter 5 = .ok (.ireturn, 1) := by decide +kernel
theorem dX0_inkAfter_6 : decode cX0_inkAfter 6 = .ok (.aload_n 0, 1) := by decide +kernel
theorem dX0_inkAfter_7 : decode cX0_inkAfter 7 = .ok (.getfield 18, 3) := by decide +kernel
theorem dX0_inkAfter_10 : decode cX0_inkAfter 10 = .ok (.getfield 26, 3) := by decide +kernel
theorem dX0_inkAfter_13 : decode cX0_inkAfter 13 = .ok (.getfield 71, 3) := by decide +kernel
theorem dX0_inkAfter_16 : decode cX0_inkAfter 16 = .ok (.ifCond .le 15, 3) := by decide +kernel
theorem dX0_inkAfter_19 : decode cX0_inkAfter 19 = .ok (.aload_n 0, 1) := by decide +kernel
theorem dX0_inkAfter_20 : decode cX0_inkAfter 20 = .ok (.getfield 18, 3) := by decide +kernel
theorem dX0_inkAfter_23 : decode cX0_inkAfter 23 = .ok (.getfield 74, 3) := by decide +kernel
theorem dX0_inkAfter_26 : decode cX0_inkAfter 26 = .ok (.iload_n 1, 1) := by decide +kernel
theorem dX0_inkAfter_27 : decode cX0_inkAfter 27 = .ok (.iaload, 1) := by decide +kernel
theorem dX0_inkAfter_28 : decode cX0_inkAfter 28 = .ok (.goto 4, 3) := by decide +kernel
theorem dX0_inkAfter_31 : decode cX0_inkAfter 31 = .ok (.iconst 0, 1) := by decide +kernel
theorem dX0_inkAfter_32 : decode cX0_inkAfter 32 = .ok (.istore 5, 2) := by decide +kernel
theorem dX0_inkAfter_34 : decode cX0_inkAfter 34 = .ok (.aload_n 0, 1) := by decide +kernel
theorem dX0_inkAfter_35 : decode cX0_inkAfter 35 = .ok (.getfield 22, 3) := by decide +kernel
theorem dX0_inkAfter_38 : decode cX0_inkAfter 38 = .ok (.getfield 77, 3) := by decide +kernel
theorem dX0_inkAfter_41 : decode cX0_inkAfter 41 = .ok (.iconst (-1), 1) := by decide +kernel
theorem dX0_inkAfter_42 : decode cX0_inkAfter 42 = .ok (.if_icmp .eq 109, 3) := by decide +kernel
theorem dX0_inkAfter_45 : decode cX0_inkAfter 45 = .ok (.aload_n 0, 1) := by decide +kernel
theorem dX0_inkAfter_46 : decode cX0_inkAfter 46 = .ok (.getfield 22, 3) := by decide +kernel
theorem dX0_inkAfter_49 : decode cX0_inkAfter 49 = .ok (.getfield 82, 3) := by decide +kernel
theorem dX0_inkAfter_52 : decode cX0_inkAfter 52 = .ok (.iconst 0, 1) := by decide +kernel
theorem dX0_inkAfter_53 : decode cX0_inkAfter 53 = .ok (.iload_n 3, 1) := by decide +kernel
theorem dX0_inkAfter_54 : decode cX0_inkAfter 54 = .ok (.iastore, 1) := by decide +kernel
theorem dX0_inkAfter_55 : decode cX0_inkAfter 55 = .ok (.aload_n 0, 1) := by decide +kernel
theorem dX0_inkAfter_56 : decode cX0_inkAfter 56 = .ok (.getfield 22, 3) := by decide +kernel
theorem dX0_inkAfter_59 : decode cX0_inkAfter 59 = .ok (.getfield 82, 3) := by decide +kernel
theorem dX0_inkAfter_62 : decode cX0_inkAfter 62 = .ok (.iconst 1, 1) := by decide +kernel
theorem dX0_inkAfter_63 : decode cX0_inkAfter 63 = .ok (.aload_n 0, 1) := by decide +kernel
theorem dX0_inkAfter_64 : decode cX0_inkAfter 64 = .ok (.getfield 18, 3) := by decide +kernel
theorem dX0_inkAfter_67 : decode cX0_inkAfter 67 = .ok (.getfield 74, 3) := by decide +kernel
theorem dX0_inkAfter_70 : decode cX0_inkAfter 70 = .ok (.iload_n 1, 1) := by decide +kernel
theorem dX0_inkAfter_71 : decode cX0_inkAfter 71 = .ok (.iaload, 1) := by decide +kernel
theorem dX0_inkAfter_72 : decode cX0_inkAfter 72 = .ok (.iastore, 1) := by decide +kernel
theorem dX0_inkAfter_73 : decode cX0_inkAfter 73 = .ok (.aload_n 0, 1) := by decide +kernel
theorem dX0_inkAfter_74 : decode cX0_inkAfter 74 = .ok (.getfield 22, 3) := by decide +kernel
theorem dX0_inkAfter_77 : decode cX0_inkAfter 77 = .ok (.getfield 82, 3) := by decide +kernel
theorem dX0_inkAfter_80 : decode cX0_inkAfter 80 = .ok (.iconst 2, 1) := by decide +kernel
theorem dX0_inkAfter_81 : decode cX0_inkAfter 81 = .ok (.aload_n 0, 1) := by decide +kernel
theorem dX0_inkAfter_82 : decode cX0_inkAfter 82 = .ok (.getfield 18, 3) := by decide +kernel
theorem dX0_inkAfter_85 : decode cX0_inkAfter 85 = .ok (.getfield 26, 3) := by decide +kernel
theorem dX0_inkAfter_88 : decode cX0_inkAfter 88 = .ok (.getfield 71, 3) := by decide +kernel
theorem dX0_inkAfter_91 : decode cX0_inkAfter 91 = .ok (.iastore, 1) := by decide +kernel
theorem dX0_inkAfter_92 : decode cX0_inkAfter 92 = .ok (.aload_n 0, 1) := by decide +kernel
theorem dX0_inkAfter_93 : decode cX0_inkAfter 93 = .ok (.getfield 22, 3) := by decide +kernel
theorem dX0_inkAfter_96 : decode cX0_inkAfter 96 = .ok (.getfield 82, 3) := by decide +kernel
theorem dX0_inkAfter_99 : decode cX0_inkAfter 99 = .ok (.iconst 3, 1) := by decide +kernel
theorem dX0_inkAfter_100 : decode cX0_inkAfter 100 = .ok (.iload_n 2, 1) := by decide +kernel
theorem dX0_inkAfter_101 : decode cX0_inkAfter 101 = .ok (.iastore, 1) := by decide +kernel
theorem dX0_inkAfter_102 : decode cX0_inkAfter 102 = .ok (.aload_n 0, 1) := by decide +kernel
theorem dX0_inkAfter_103 : decode cX0_inkAfter 103 = .ok (.getfield 22, 3) := by decide +kernel
theorem dX0_inkAfter_106 : decode cX0_inkAfter 106 = .ok (.getfield 82, 3) := by decide +kernel
theorem dX0_inkAfter_109 : decode cX0_inkAfter 109 = .ok (.iconst 4, 1) := by decide +kernel
theorem dX0_inkAfter_110 : decode cX0_inkAfter 110 = .ok (.aload_n 0, 1) := by decide +kernel
theorem dX0_inkAfter_111 : decode cX0_inkAfter 111 = .ok (.getfield 18, 3) := by decide +kernel
theorem dX0_inkAfter_114 : decode cX0_inkAfter 114 = .ok (.getfield 26, 3) := by decide +kernel
theorem dX0_inkAfter_117 : decode cX0_inkAfter 117 = .ok (.getfield 55, 3) := by decide +kernel
theorem dX0_inkAfter_120 : decode cX0_inkAfter 120 = .ok (.getfield 85, 3) := by decide +kernel
theorem dX0_inkAfter_123 : decode cX0_inkAfter 123 = .ok (.iload_n 1, 1) := by decide +kernel
theorem dX0_inkAfter_124 : decode cX0_inkAfter 124 = .ok (.bipush 6, 2) := by decide +kernel
theorem dX0_inkAfter_126 : decode cX0_inkAfter 126 = .ok (.imul, 1) := by decide +kernel
theorem dX0_inkAfter_127 : decode cX0_inkAfter 127 = .ok (.iload_n 2, 1) := by decide +kernel
theorem dX0_inkAfter_128 : decode cX0_inkAfter 128 = .ok (.iadd, 1) := by decide +kernel
theorem dX0_inkAfter_129 : decode cX0_inkAfter 129 = .ok (.iaload, 1) := by decide +kernel
theorem dX0_inkAfter_130 : decode cX0_inkAfter 130 = .ok (.iastore, 1) := by decide +kernel
theorem dX0_inkAfter_131 : decode cX0_inkAfter 131 = .ok (.aload_n 0, 1) := by decide +kernel
theorem dX0_inkAfter_132 : decode cX0_inkAfter 132 = .ok (.getfield 22, 3) := by decide +kernel
theorem dX0_inkAfter_135 : decode cX0_inkAfter 135 = .ok (.getfield 82, 3) := by decide +kernel
theorem dX0_inkAfter_138 : decode cX0_inkAfter 138 = .ok (.iconst 5, 1) := by decide +kernel
theorem dX0_inkAfter_139 : decode cX0_inkAfter 139 = .ok (.iload 4, 2) := by decide +kernel
theorem dX0_inkAfter_141 : decode cX0_inkAfter 141 = .ok (.iastore, 1) := by decide +kernel
theorem dX0_inkAfter_142 : decode cX0_inkAfter 142 = .ok (.aload_n 0, 1) := by decide +kernel
theorem dX0_inkAfter_143 : decode cX0_inkAfter 143 = .ok (.getfield 22, 3) := by decide +kernel
theorem dX0_inkAfter_146 : decode cX0_inkAfter 146 = .ok (.invokevirtual 88, 3) := by decide +kernel
theorem dX0_inkAfter_149 : decode cX0_inkAfter 149 = .ok (.istore 5, 2) := by decide +kernel
theorem dX0_inkAfter_151 : decode cX0_inkAfter 151 = .ok (.iconst 0, 1) := by decide +kernel
theorem dX0_inkAfter_152 : decode cX0_inkAfter 152 = .ok (.iload_n 3, 1) := by decide +kernel
theorem dX0_inkAfter_153 : decode cX0_inkAfter 153 = .ok (.iconst 0, 1) := by decide +kernel
theorem dX0_inkAfter_154 : decode cX0_inkAfter 154 = .ok (.bipush 9, 2) := by decide +kernel
theorem dX0_inkAfter_156 : decode cX0_inkAfter 156 = .ok (.iload 5, 2) := by decide +kernel
theorem dX0_inkAfter_158 : decode cX0_inkAfter 158 = .ok (.invokestatic 91, 3) := by decide +kernel
theorem dX0_inkAfter_161 : decode cX0_inkAfter 161 = .ok (.invokestatic 97, 3) := by decide +kernel
theorem dX0_inkAfter_164 : decode cX0_inkAfter 164 = .ok (.isub, 1) := by decide +kernel
theorem dX0_inkAfter_165 : decode cX0_inkAfter 165 = .ok (.invokestatic 97, 3) := by decide +kernel
theorem dX0_inkAfter_168 : decode cX0_inkAfter 168 = .ok (.ireturn, 1) := by decide +kernel
theorem dX0_changeThings_0 : decode cX0_changeThings 0 = .ok (.iconst 0, 1) := by decide +kernel
theorem dX0_changeThings_1 : decode cX0_changeThings 1 = .ok (.istore_n 1, 1) := by decide +kernel
theorem dX0_changeThings_2 : decode cX0_changeThings 2 = .ok (.iconst 0, 1) := by decide +kernel
theorem dX0_changeThings_3 : decode cX0_changeThings 3 = .ok (.istore_n 2, 1) := by decide +kernel
theorem dX0_changeThings_4 : decode cX0_changeThings 4 = .ok (.iload_n 2, 1) := by decide +kernel
theorem dX0_changeThings_5 : decode cX0_changeThings 5 = .ok (.aload_n 0, 1) := by decide +kernel
theorem dX0_changeThings_6 : decode cX0_changeThings 6 = .ok (.getfield 18, 3) := by decide +kernel
theorem dX0_changeThings_9 : decode cX0_changeThings 9 = .ok (.getfield 36, 3) := by decide +kernel
theorem dX0_changeThings_12 : decode cX0_changeThings 12 = .ok (.if_icmp .ge 74, 3) := by decide +kernel
theorem dX0_changeThings_15 : decode cX0_changeThings 15 = .ok (.aload_n 0, 1) := by decide +kernel
theorem dX0_changeThings_16 : decode cX0_changeThings 16 = .ok (.getfield 18, 3) := by decide +kernel
theorem dX0_changeThings_19 : decode cX0_changeThings 19 = .ok (.iload_n 2, 1) := by decide +kernel
theorem dX0_changeThings_20 : decode cX0_changeThings 20 = .ok (.invokevirtual 100, 3) := by decide +kernel
theorem dX0_changeThings_23 : decode cX0_changeThings 23 = .ok (.ifCond .ne 57, 3) := by decide +kernel
theorem dX0_changeThings_26 : decode cX0_changeThings 26 = .ok (.aload_n 0, 1) := by decide +kernel
theorem dX0_changeThings_27 : decode cX0_changeThings 27 = .ok (.getfield 18, 3) := by decide +kernel
theorem dX0_changeThings_30 : decode cX0_changeThings 30 = .ok (.iload_n 2, 1) := by decide +kernel
theorem dX0_changeThings_31 : decode cX0_changeThings 31 = .ok (.invokevirtual 104, 3) := by decide +kernel
theorem dX0_changeThings_34 : decode cX0_changeThings 34 = .ok (.istore_n 3, 1) := by decide +kernel
theorem dX0_changeThings_35 : decode cX0_changeThings 35 = .ok (.iload_n 3, 1) := by decide +kernel
theorem dX0_changeThings_36 : decode cX0_changeThings 36 = .ok (.iconst (-1), 1) := by decide +kernel
theorem dX0_changeThings_37 : decode cX0_changeThings 37 = .ok (.if_icmp .eq 43, 3) := by decide +kernel
theorem dX0_changeThings_40 : decode cX0_changeThings 40 = .ok (.aload_n 0, 1) := by decide +kernel
theorem dX0_changeThings_41 : decode cX0_changeThings 41 = .ok (.getfield 18, 3) := by decide +kernel
theorem dX0_changeThings_44 : decode cX0_changeThings 44 = .ok (.getfield 26, 3) := by decide +kernel
theorem dX0_changeThings_47 : decode cX0_changeThings 47 = .ok (.getfield 108, 3) := by decide +kernel
theorem dX0_changeThings_50 : decode cX0_changeThings 50 = .ok (.iload_n 2, 1) := by decide +kernel
theorem dX0_changeThings_51 : decode cX0_changeThings 51 = .ok (.iload_n 3, 1) := by decide +kernel
theorem dX0_changeThings_52 : decode cX0_changeThings 52 = .ok (.iastore, 1) := by decide +kernel
theorem dX0_changeThings_53 : decode cX0_changeThings 53 = .ok (.aload_n 0, 1) := by decide +kernel
theorem dX0_changeThings_54 : decode cX0_changeThings 54 = .ok (.getfield 18, 3) := by decide +kernel
theorem dX0_changeThings_57 : decode cX0_changeThings 57 = .ok (.getfield 26, 3) := by decide +kernel
theorem dX0_changeThings_60 : decode cX0_changeThings 60 = .ok (.dup, 1) := by decide +kernel
theorem dX0_changeThings_61 : decode cX0_changeThings 61 = .ok (.getfield 111, 3) := by decide +kernel
theorem dX0_changeThings_64 : decode cX0_changeThings 64 = .ok (.aload_n 0, 1) := by decide +kernel
theorem dX0_changeThings_65 : decode cX0_changeThings 65 = .ok (.getfield 18, 3) := by decide +kernel
theorem dX0_changeThings_68 : decode cX0_changeThings 68 = .ok (.getfield 114, 3) := by decide +kernel
theorem dX0_changeThings_71 : decode cX0_changeThings 71 = .ok (.iload_n 3, 1) := by decide +kernel
theorem dX0_changeThings_72 : decode cX0_changeThings 72 = .ok (.iaload, 1) := by decide +kernel
theorem dX0_changeThings_73 : decode cX0_changeThings 73 = .ok (.isub, 1) := by decide +kernel
theorem dX0_changeThings_74 : decode cX0_changeThings 74 = .ok (.putfield 111, 3) := by decide +kernel
theorem dX0_changeThings_77 : decode cX0_changeThings 77 = .ok (.iinc 1 1, 3) := by decide +kernel
theorem dX0_changeThings_80 : decode cX0_changeThings 80 = .ok (.iinc 2 1, 3) := by decide +kernel
theorem dX0_changeThings_83 : decode cX0_changeThings 83 = .ok (.goto (-79), 3) := by decide +kernel
theorem dX0_changeThings_86 : decode cX0_changeThings 86 = .ok (.iload_n 1, 1) := by decide +kernel
theorem dX0_changeThings_87 : decode cX0_changeThings 87 = .ok (.ireturn, 1) := by decide +kernel
theorem dX0_logLength_0 : decode cX0_logLength 0 = .ok (.bipush 60, 2) := by decide +kernel
theorem dX0_logLength_2 : decode cX0_logLength 2 = .ok (.aload_n 0, 1) := by decide +kernel
theorem dX0_logLength_3 : decode cX0_logLength 3 = .ok (.getfield 18, 3) := by decide +kernel
theorem dX0_logLength_6 : decode cX0_logLength 6 = .ok (.getfield 26, 3) := by decide +kernel
theorem dX0_logLength_9 : decode cX0_logLength 9 = .ok (.getfield 44, 3) := by decide +kernel
theorem dX0_logLength_12 : decode cX0_logLength 12 = .ok (.invokestatic 91, 3) := by decide +kernel
theorem dX0_logLength_15 : decode cX0_logLength 15 = .ok (.ireturn, 1) := by decide +kernel
theorem dX0_logged_0 : decode cX0_logged 0 = .ok (.iload_n 1, 1) := by decide +kernel
theorem dX0_logged_1 : decode cX0_logged 1 = .ok (.ifCond .lt 20, 3) := by decide +kernel
theorem dX0_logged_4 : decode cX0_logged 4 = .ok (.iload_n 1, 1) := by decide +kernel
theorem dX0_logged_5 : decode cX0_logged 5 = .ok (.aload_n 0, 1) := by decide +kernel
theorem dX0_logged_6 : decode cX0_logged 6 = .ok (.invokevirtual 117, 3) := by decide +kernel
theorem dX0_logged_9 : decode cX0_logged 9 = .ok (.if_icmp .ge 12, 3) := by decide +kernel
theorem dX0_logged_12 : decode cX0_logged 12 = .ok (.iload_n 2, 1) := by decide +kernel
theorem dX0_logged_13 : decode cX0_logged 13 = .ok (.ifCond .lt 8, 3) := by decide +kernel
theorem dX0_logged_16 : decode cX0_logged 16 = .ok (.iload_n 2, 1) := by decide +kernel
theorem dX0_logged_17 : decode cX0_logged 17 = .ok (.iconst 2, 1) := by decide +kernel
theorem dX0_logged_18 : decode cX0_logged 18 = .ok (.if_icmp .le 5, 3) := by decide +kernel
theorem dX0_logged_21 : decode cX0_logged 21 = .ok (.iconst (-1), 1) := by decide +kernel
theorem dX0_logged_22 : decode cX0_logged 22 = .ok (.ireturn, 1) := by decide +kernel
theorem dX0_logged_23 : decode cX0_logged 23 = .ok (.aload_n 0, 1) := by decide +kernel
theorem dX0_logged_24 : decode cX0_logged 24 = .ok (.getfield 11, 3) := by decide +kernel
theorem dX0_logged_27 : decode cX0_logged 27 = .ok (.aload_n 0, 1) := by decide +kernel
theorem dX0_logged_28 : decode cX0_logged 28 = .ok (.getfield 18, 3) := by decide +kernel
theorem dX0_logged_31 : decode cX0_logged 31 = .ok (.getfield 26, 3) := by decide +kernel
theorem dX0_logged_34 : decode cX0_logged 34 = .ok (.getfield 44, 3) := by decide +kernel
theorem dX0_logged_37 : decode cX0_logged 37 = .ok (.iconst 1, 1) := by decide +kernel
theorem dX0_logged_38 : decode cX0_logged 38 = .ok (.isub, 1) := by decide +kernel
theorem dX0_logged_39 : decode cX0_logged 39 = .ok (.iload_n 1, 1) := by decide +kernel
theorem dX0_logged_40 : decode cX0_logged 40 = .ok (.isub, 1) := by decide +kernel
theorem dX0_logged_41 : decode cX0_logged 41 = .ok (.bipush 127, 2) := by decide +kernel
theorem dX0_logged_43 : decode cX0_logged 43 = .ok (.iand, 1) := by decide +kernel
theorem dX0_logged_44 : decode cX0_logged 44 = .ok (.iaload, 1) := by decide +kernel
theorem dX0_logged_45 : decode cX0_logged 45 = .ok (.istore_n 3, 1) := by decide +kernel
theorem dX0_logged_46 : decode cX0_logged 46 = .ok (.iload_n 2, 1) := by decide +kernel
theorem dX0_logged_47 : decode cX0_logged 47 = .ok (.ifCond .ne 8, 3) := by decide +kernel
theorem dX0_logged_50 : decode cX0_logged 50 = .ok (.iload_n 3, 1) := by decide +kernel
theorem dX0_logged_51 : decode cX0_logged 51 = .ok (.bipush 15, 2) := by decide +kernel
theorem dX0_logged_53 : decode cX0_logged 53 = .ok (.iand, 1) := by decide +kernel
theorem dX0_logged_54 : decode cX0_logged 54 = .ok (.ireturn, 1) := by decide +kernel
theorem dX0_logged_55 : decode cX0_logged 55 = .ok (.iload_n 2, 1) := by decide +kernel
theorem dX0_logged_56 : decode cX0_logged 56 = .ok (.iconst 1, 1) := by decide +kernel
theorem dX0_logged_57 : decode cX0_logged 57 = .ok (.if_icmp .ne 12, 3) := by decide +kernel
theorem dX0_logged_60 : decode cX0_logged 60 = .ok (.iload_n 3, 1) := by decide +kernel
theorem dX0_logged_61 : decode cX0_logged 61 = .ok (.iconst 4, 1) := by decide +kernel
theorem dX0_logged_62 : decode cX0_logged 62 = .ok (.ishr, 1) := by decide +kernel
theorem dX0_logged_63 : decode cX0_logged 63 = .ok (.bipush 15, 2) := by decide +kernel
theorem dX0_logged_65 : decode cX0_logged 65 = .ok (.iand, 1) := by decide +kernel
theorem dX0_logged_66 : decode cX0_logged 66 = .ok (.goto 7, 3) := by decide +kernel
theorem dX0_logged_69 : decode cX0_logged 69 = .ok (.iload_n 3, 1) := by decide +kernel
theorem dX0_logged_70 : decode cX0_logged 70 = .ok (.bipush 8, 2) := by decide +kernel
theorem dX0_logged_72 : decode cX0_logged 72 = .ok (.ishr, 1) := by decide +kernel
theorem dX0_logged_73 : decode cX0_logged 73 = .ok (.ireturn, 1) := by decide +kernel
theorem dX0_daysTillBlank_0 : decode cX0_daysTillBlank 0 = .ok (.aload_n 0, 1) := by decide +kernel
theorem dX0_daysTillBlank_1 : decode cX0_daysTillBlank 1 = .ok (.getfield 18, 3) := by decide +kernel
theorem dX0_daysTillBlank_4 : decode cX0_daysTillBlank 4 = .ok (.getfield 26, 3) := by decide +kernel
theorem dX0_daysTillBlank_7 : decode cX0_daysTillBlank 7 = .ok (.astore_n 2, 1) := by decide +kernel
theorem dX0_daysTillBlank_8 : decode cX0_daysTillBlank 8 = .ok (.aload_n 2, 1) := by decide +kernel
theorem dX0_daysTillBlank_9 : decode cX0_daysTillBlank 9 = .ok (.getfield 55, 3) := by decide +kernel
theorem dX0_daysTillBlank_12 : decode cX0_daysTillBlank 12 = .ok (.getfield 59, 3) := by decide +kernel
theorem dX0_daysTillBlank_15 : decode cX0_daysTillBlank 15 = .ok (.iload_n 1, 1) := by decide +kernel
theorem dX0_daysTillBlank_16 : decode cX0_daysTillBlank 16 = .ok (.iaload, 1) := by decide +kernel
theorem dX0_daysTillBlank_17 : decode cX0_daysTillBlank 17 = .ok (.istore_n 3, 1) := by decide +kernel
theorem dX0_daysTillBlank_18 : decode cX0_daysTillBlank 18 = .ok (.iconst 0, 1) := by decide +kernel
theorem dX0_daysTillBlank_19 : decode cX0_daysTillBlank 19 = .ok (.istore 4, 2) := by decide +kernel
theorem dX0_daysTillBlank_21 : decode cX0_daysTillBlank 21 = .ok (.iload 4, 2) := by decide +kernel
theorem dX0_daysTillBlank_23 : decode cX0_daysTillBlank 23 = .ok (.iload_n 3, 1) := by decide +kernel
theorem dX0_daysTillBlank_24 : decode cX0_daysTillBlank 24 = .ok (.if_icmp .ge 31, 3) := by decide +kernel
theorem dX0_daysTillBlank_27 : decode cX0_daysTillBlank 27 = .ok (.aload_n 0, 1) := by decide +kernel
theorem dX0_daysTillBlank_28 : decode cX0_daysTillBlank 28 = .ok (.getfield 15, 3) := by decide +kernel
theorem dX0_daysTillBlank_31 : decode cX0_daysTillBlank 31 = .ok (.iload 4, 2) := by decide +kernel
theorem dX0_daysTillBlank_33 : decode cX0_daysTillBlank 33 = .ok (.aload_n 2, 1) := by decide +kernel
theorem dX0_daysTillBlank_34 : decode cX0_daysTillBlank 34 = .ok (.getfield 55, 3) := by decide +kernel
theorem dX0_daysTillBlank_37 : decode cX0_daysTillBlank 37 = .ok (.getfield 64, 3) := by decide +kernel
theorem dX0_daysTillBlank_40 : decode cX0_daysTillBlank 40 = .ok (.iload_n 1, 1) := by decide +kernel
theorem dX0_daysTillBlank_41 : decode cX0_daysTillBlank 41 = .ok (.bipush 6, 2) := by decide +kernel
theorem dX0_daysTillBlank_43 : decode cX0_daysTillBlank 43 = .ok (.imul, 1) := by decide +kernel
theorem dX0_daysTillBlank_44 : decode cX0_daysTillBlank 44 = .ok (.iload 4, 2) := by decide +kernel
theorem dX0_daysTillBlank_46 : decode cX0_daysTillBlank 46 = .ok (.iadd, 1) := by decide +kernel
theorem dX0_daysTillBlank_47 : decode cX0_daysTillBlank 47 = .ok (.iaload, 1) := by decide +kernel
theorem dX0_daysTillBlank_48 : decode cX0_daysTillBlank 48 = .ok (.iastore, 1) := by decide +kernel
theorem dX0_daysTillBlank_49 : decode cX0_daysTillBlank 49 = .ok (.iinc 4 1, 3) := by decide +kernel
theorem dX0_daysTillBlank_52 : decode cX0_daysTillBlank 52 = .ok (.goto (-31), 3) := by decide +kernel
theorem dX0_daysTillBlank_55 : decode cX0_daysTillBlank 55 = .ok (.iconst 0, 1) := by decide +kernel
theorem dX0_daysTillBlank_56 : decode cX0_daysTillBlank 56 = .ok (.istore 4, 2) := by decide +kernel
theorem dX0_daysTillBlank_58 : decode cX0_daysTillBlank 58 = .ok (.iload 4, 2) := by decide +kernel
theorem dX0_daysTillBlank_60 : decode cX0_daysTillBlank 60 = .ok (.bipush 99, 2) := by decide +kernel
theorem dX0_daysTillBlank_62 : decode cX0_daysTillBlank 62 = .ok (.if_icmp .gt 75, 3) := by decide +kernel
theorem dX0_daysTillBlank_65 : decode cX0_daysTillBlank 65 = .ok (.iconst 0, 1) := by decide +kernel
theorem dX0_daysTillBlank_66 : decode cX0_daysTillBlank 66 = .ok (.istore 5, 2) := by decide +kernel
theorem dX0_daysTillBlank_68 : decode cX0_daysTillBlank 68 = .ok (.iconst 0, 1) := by decide +kernel
theorem dX0_daysTillBlank_69 : decode cX0_daysTillBlank 69 = .ok (.istore 6, 2) := by decide +kernel
theorem dX0_daysTillBlank_71 : decode cX0_daysTillBlank 71 = .ok (.iload 6, 2) := by decide +kernel
theorem dX0_daysTillBlank_73 : decode cX0_daysTillBlank 73 = .ok (.iload_n 3, 1) := by decide +kernel
theorem dX0_daysTillBlank_74 : decode cX0_daysTillBlank 74 = .ok (.if_icmp .ge 49, 3) := by decide +kernel
theorem dX0_daysTillBlank_77 : decode cX0_daysTillBlank 77 = .ok (.iload 5, 2) := by decide +kernel
theorem dX0_daysTillBlank_79 : decode cX0_daysTillBlank 79 = .ok (.aload_n 0, 1) := by decide +kernel
theorem dX0_daysTillBlank_80 : decode cX0_daysTillBlank 80 = .ok (.getfield 15, 3) := by decide +kernel
theorem dX0_daysTillBlank_83 : decode cX0_daysTillBlank 83 = .ok (.iload 6, 2) := by decide +kernel
theorem dX0_daysTillBlank_85 : decode cX0_daysTillBlank 85 = .ok (.iaload, 1) := by decide +kernel
theorem dX0_daysTillBlank_86 : decode cX0_daysTillBlank 86 = .ok (.iadd, 1) := by decide +kernel
theorem dX0_daysTillBlank_87 : decode cX0_daysTillBlank 87 = .ok (.istore 5, 2) := by decide +kernel
theorem dX0_daysTillBlank_89 : decode cX0_daysTillBlank 89 = .ok (.aload_n 0, 1) := by decide +kernel
theorem dX0_daysTillBlank_90 : decode cX0_daysTillBlank 90 = .ok (.getfield 15, 3) := by decide +kernel
theorem dX0_daysTillBlank_93 : decode cX0_daysTillBlank 93 = .ok (.iload 6, 2) := by decide +kernel
theorem dX0_daysTillBlank_95 : decode cX0_daysTillBlank 95 = .ok (.aload_n 0, 1) := by decide +kernel
theorem dX0_daysTillBlank_96 : decode cX0_daysTillBlank 96 = .ok (.iload_n 1, 1) := by decide +kernel
theorem dX0_daysTillBlank_97 : decode cX0_daysTillBlank 97 = .ok (.iload 6, 2) := by decide +kernel
theorem dX0_daysTillBlank_99 : decode cX0_daysTillBlank 99 = .ok (.aload_n 0, 1) := by decide +kernel
theorem dX0_daysTillBlank_100 : decode cX0_daysTillBlank 100 = .ok (.getfield 15, 3) := by decide +kernel
theorem dX0_daysTillBlank_103 : decode cX0_daysTillBlank 103 = .ok (.iload 6, 2) := by decide +kernel
theorem dX0_daysTillBlank_105 : decode cX0_daysTillBlank 105 = .ok (.iaload, 1) := by decide +kernel
theorem dX0_daysTillBlank_106 : decode cX0_daysTillBlank 106 = .ok (.aload_n 2, 1) := by decide +kernel
theorem dX0_daysTillBlank_107 : decode cX0_daysTillBlank 107 = .ok (.getfield 44, 3) := by decide +kernel
theorem dX0_daysTillBlank_110 : decode cX0_daysTillBlank 110 = .ok (.iload 4, 2) := by decide +kernel
theorem dX0_daysTillBlank_112 : decode cX0_daysTillBlank 112 = .ok (.iadd, 1) := by decide +kernel
theorem dX0_daysTillBlank_113 : decode cX0_daysTillBlank 113 = .ok (.invokevirtual 67, 3) := by decide +kernel
theorem dX0_daysTillBlank_116 : decode cX0_daysTillBlank 116 = .ok (.iastore, 1) := by decide +kernel
theorem dX0_daysTillBlank_117 : decode cX0_daysTillBlank 117 = .ok (.iinc 6 1, 3) := by decide +kernel
theorem dX0_daysTillBlank_120 : decode cX0_daysTillBlank 120 = .ok (.goto (-49), 3) := by decide +kernel
theorem dX0_daysTillBlank_123 : decode cX0_daysTillBlank 123 = .ok (.iload 5, 2) := by decide +kernel
theorem dX0_daysTillBlank_125 : decode cX0_daysTillBlank 125 = .ok (.ifCond .ne 6, 3) := by decide +kernel
theorem dX0_daysTillBlank_128 : decode cX0_daysTillBlank 128 = .ok (.iload 4, 2) := by decide +kernel
theorem dX0_daysTillBlank_130 : decode cX0_daysTillBlank 130 = .ok (.ireturn, 1) := by decide +kernel
theorem dX0_daysTillBlank_131 : decode cX0_daysTillBlank 131 = .ok (.iinc 4 1, 3) := by decide +kernel
theorem dX0_daysTillBlank_134 : decode cX0_daysTillBlank 134 = .ok (.goto (-76), 3) := by decide +kernel
theorem dX0_daysTillBlank_137 : decode cX0_daysTillBlank 137 = .ok (.iconst (-1), 1) := by decide +kernel
theorem dX0_daysTillBlank_138 : decode cX0_daysTillBlank 138 = .ok (.ireturn, 1) := by decide +kernel
theorem dX1_init_0 : decode cX1_init 0 = .ok (.aload_n 0, 1) := by decide +kernel
theorem dX1_init_1 : decode cX1_init 1 = .ok (.invokespecial 3, 3) := by decide +kernel
theorem dX1_init_4 : decode cX1_init 4 = .ok (.aload_n 0, 1) := by decide +kernel
theorem dX1_init_5 : decode cX1_init 5 = .ok (.iconst 0, 1) := by decide +kernel
theorem dX1_init_6 : decode cX1_init 6 = .ok (.putfield 9, 3) := by decide +kernel
theorem dX1_init_9 : decode cX1_init 9 = .ok (.aload_n 0, 1) := by decide +kernel
theorem dX1_init_10 : decode cX1_init 10 = .ok (.iconst 0, 1) := by decide +kernel
theorem dX1_init_11 : decode cX1_init 11 = .ok (.putfield 15, 3) := by decide +kernel
theorem dX1_init_14 : decode cX1_init 14 = .ok (.aload_n 0, 1) := by decide +kernel
theorem dX1_init_15 : decode cX1_init 15 = .ok (.bipush 8, 2) := by decide +kernel
theorem dX1_init_17 : decode cX1_init 17 = .ok (.newarray .int, 2) := by decide +kernel
theorem dX1_init_19 : decode cX1_init 19 = .ok (.putfield 18, 3) := by decide +kernel
theorem dX1_init_22 : decode cX1_init 22 = .ok (.aload_n 0, 1) := by decide +kernel
theorem dX1_init_23 : decode cX1_init 23 = .ok (.bipush 8, 2) := by decide +kernel
theorem dX1_init_25 : decode cX1_init 25 = .ok (.newarray .int, 2) := by decide +kernel
theorem dX1_init_27 : decode cX1_init 27 = .ok (.putfield 22, 3) := by decide +kernel
theorem dX1_init_30 : decode cX1_init 30 = .ok (.aload_n 0, 1) := by decide +kernel
theorem dX1_init_31 : decode cX1_init 31 = .ok (.bipush 6, 2) := by decide +kernel
theorem dX1_init_33 : decode cX1_init 33 = .ok (.newarray .int, 2) := by decide +kernel
theorem dX1_init_35 : decode cX1_init 35 = .ok (.putfield 25, 3) := by decide +kernel
theorem dX1_init_38 : decode cX1_init 38 = .ok (.aload_n 0, 1) := by decide +kernel
theorem dX1_init_39 : decode cX1_init 39 = .ok (.new 28, 3) := by decide +kernel
theorem dX1_init_42 : decode cX1_init 42 = .ok (.dup, 1) := by decide +kernel
theorem dX1_init_43 : decode cX1_init 43 = .ok (.invokespecial 30, 3) := by decide +kernel
theorem dX1_init_46 : decode cX1_init 46 = .ok (.putfield 31, 3) := by decide +kernel
theorem dX1_init_49 : decode cX1_init 49 = .ok (.return_, 1) := by decide +kernel
theorem dX1_takeAll_0 : decode cX1_takeAll 0 = .ok (.aload_n 0, 1) := by decide +kernel
theorem dX1_takeAll_1 : decode cX1_takeAll 1 = .ok (.aload_n 1, 1) := by decide +kernel
theorem dX1_takeAll_2 : decode cX1_takeAll 2 = .ok (.getfield 9, 3) := by decide +kernel
theorem dX1_takeAll_5 : decode cX1_takeAll 5 = .ok (.putfield 9, 3) := by decide +kernel
theorem dX1_takeAll_8 : decode cX1_takeAll 8 = .ok (.aload_n 0, 1) := by decide +kernel
theorem dX1_takeAll_9 : decode cX1_takeAll 9 = .ok (.aload_n 1, 1) := by decide +kernel
theorem dX1_takeAll_10 : decode cX1_takeAll 10 = .ok (.getfield 15, 3) := by decide +kernel
theorem dX1_takeAll_13 : decode cX1_takeAll 13 = .ok (.putfield 15, 3) := by decide +kernel
theorem dX1_takeAll_16 : decode cX1_takeAll 16 = .ok (.aload_n 1, 1) := by decide +kernel
theorem dX1_takeAll_17 : decode cX1_takeAll 17 = .ok (.getfield 18, 3) := by decide +kernel
theorem dX1_takeAll_20 : decode cX1_takeAll 20 = .ok (.iconst 0, 1) := by decide +kernel
theorem dX1_takeAll_21 : decode cX1_takeAll 21 = .ok (.aload_n 0, 1) := by decide +kernel
theorem dX1_takeAll_22 : decode cX1_takeAll 22 = .ok (.getfield 18, 3) := by decide +kernel
theorem dX1_takeAll_25 : decode cX1_takeAll 25 = .ok (.iconst 0, 1) := by decide +kernel
theorem dX1_takeAll_26 : decode cX1_takeAll 26 = .ok (.bipush 8, 2) := by decide +kernel
theorem dX1_takeAll_28 : decode cX1_takeAll 28 = .ok (.invokestatic 35, 3) := by decide +kernel
theorem dX1_takeAll_31 : decode cX1_takeAll 31 = .ok (.aload_n 1, 1) := by decide +kernel
theorem dX1_takeAll_32 : decode cX1_takeAll 32 = .ok (.getfield 22, 3) := by decide +kernel
theorem dX1_takeAll_35 : decode cX1_takeAll 35 = .ok (.iconst 0, 1) := by decide +kernel
theorem dX1_takeAll_36 : decode cX1_takeAll 36 = .ok (.aload_n 0, 1) := by decide +kernel
theorem dX1_takeAll_37 : decode cX1_takeAll 37 = .ok (.getfield 22, 3) := by decide +kernel
theorem dX1_takeAll_40 : decode cX1_takeAll 40 = .ok (.iconst 0, 1) := by decide +kernel
theorem dX1_takeAll_41 : decode cX1_takeAll 41 = .ok (.bipush 8, 2) := by decide +kernel
theorem dX1_takeAll_43 : decode cX1_takeAll 43 = .ok (.invokestatic 35, 3) := by decide +kernel
theorem dX1_takeAll_46 : decode cX1_takeAll 46 = .ok (.aload_n 1, 1) := by decide +kernel
theorem dX1_takeAll_47 : decode cX1_takeAll 47 = .ok (.getfield 25, 3) := by decide +kernel
theorem dX1_takeAll_50 : decode cX1_takeAll 50 = .ok (.iconst 0, 1) := by decide +kernel
theorem dX1_takeAll_51 : decode cX1_takeAll 51 = .ok (.aload_n 0, 1) := by decide +kernel
theorem dX1_takeAll_52 : decode cX1_takeAll 52 = .ok (.getfield 25, 3) := by decide +kernel
theorem dX1_takeAll_55 : decode cX1_takeAll 55 = .ok (.iconst 0, 1) := by decide +kernel
theorem dX1_takeAll_56 : decode cX1_takeAll 56 = .ok (.bipush 6, 2) := by decide +kernel
theorem dX1_takeAll_58 : decode cX1_takeAll 58 = .ok (.invokestatic 35, 3) := by decide +kernel
theorem dX1_takeAll_61 : decode cX1_takeAll 61 = .ok (.aload_n 0, 1) := by decide +kernel
theorem dX1_takeAll_62 : decode cX1_takeAll 62 = .ok (.getfield 31, 3) := by decide +kernel
theorem dX1_takeAll_65 : decode cX1_takeAll 65 = .ok (.aload_n 1, 1) := by decide +kernel
theorem dX1_takeAll_66 : decode cX1_takeAll 66 = .ok (.getfield 31, 3) := by decide +kernel
theorem dX1_takeAll_69 : decode cX1_takeAll 69 = .ok (.invokevirtual 41, 3) := by decide +kernel
theorem dX1_takeAll_72 : decode cX1_takeAll 72 = .ok (.return_, 1) := by decide +kernel
theorem dX1_isNone_0 : decode cX1_isNone 0 = .ok (.aload_n 0, 1) := by decide +kernel
theorem dX1_isNone_1 : decode cX1_isNone 1 = .ok (.getfield 15, 3) := by decide +kernel
theorem dX1_isNone_4 : decode cX1_isNone 4 = .ok (.ifCond .ne 7, 3) := by decide +kernel
theorem dX1_isNone_7 : decode cX1_isNone 7 = .ok (.iconst 1, 1) := by decide +kernel
theorem dX1_isNone_8 : decode cX1_isNone 8 = .ok (.goto 4, 3) := by decide +kernel
theorem dX1_isNone_11 : decode cX1_isNone 11 = .ok (.iconst 0, 1) := by decide +kernel
theorem dX1_isNone_12 : decode cX1_isNone 12 = .ok (.ireturn, 1) := by decide +kernel
theorem dX1_isThing_0 : decode cX1_isThing 0 = .ok (.iload_n 1, 1) := by decide +kernel
theorem dX1_isThing_1 : decode cX1_isThing 1 = .ok (.ifCond .lt 21, 3) := by decide +kernel
theorem dX1_isThing_4 : decode cX1_isThing 4 = .ok (.iload_n 1, 1) := by decide +kernel
theorem dX1_isThing_5 : decode cX1_isThing 5 = .ok (.aload_n 0, 1) := by decide +kernel
theorem dX1_isThing_6 : decode cX1_isThing 6 = .ok (.getfield 9, 3) := by decide +kernel
theorem dX1_isThing_9 : decode cX1_isThing 9 = .ok (.if_icmp .ge 13, 3) := by decide +kernel
theorem dX1_isThing_12 : decode cX1_isThing 12 = .ok (.iload_n 1, 1) := by decide +kernel
theorem dX1_isThing_13 : decode cX1_isThing 13 = .ok (.bipush 8, 2) := by decide +kernel
theorem dX1_isThing_15 : decode cX1_isThing 15 = .ok (.if_icmp .ge 7, 3) := by decide +kernel
theorem dX1_isThing_18 : decode cX1_isThing 18 = .ok (.iconst 1, 1) := by decide +kernel
theorem dX1_isThing_19 : decode cX1_isThing 19 = .ok (.goto 4, 3) := by decide +kernel
theorem dX1_isThing_22 : decode cX1_isThing 22 = .ok (.iconst 0, 1) := by decide +kernel
theorem dX1_isThing_23 : decode cX1_isThing 23 = .ok (.ireturn, 1) := by decide +kernel
theorem dX1_isCard_0 : decode cX1_isCard 0 = .ok (.iload_n 1, 1) := by decide +kernel
theorem dX1_isCard_1 : decode cX1_isCard 1 = .ok (.ifCond .lt 21, 3) := by decide +kernel
theorem dX1_isCard_4 : decode cX1_isCard 4 = .ok (.iload_n 1, 1) := by decide +kernel
theorem dX1_isCard_5 : decode cX1_isCard 5 = .ok (.aload_n 0, 1) := by decide +kernel
theorem dX1_isCard_6 : decode cX1_isCard 6 = .ok (.getfield 15, 3) := by decide +kernel
theorem dX1_isCard_9 : decode cX1_isCard 9 = .ok (.if_icmp .ge 13, 3) := by decide +kernel
theorem dX1_isCard_12 : decode cX1_isCard 12 = .ok (.iload_n 1, 1) := by decide +kernel
theorem dX1_isCard_13 : decode cX1_isCard 13 = .ok (.bipush 6, 2) := by decide +kernel
theorem dX1_isCard_15 : decode cX1_isCard 15 = .ok (.if_icmp .ge 7, 3) := by decide +kernel
theorem dX1_isCard_18 : decode cX1_isCard 18 = .ok (.iconst 1, 1) := by decide +kernel
theorem dX1_isCard_19 : decode cX1_isCard 19 = .ok (.goto 4, 3) := by decide +kernel
theorem dX1_isCard_22 : decode cX1_isCard 22 = .ok (.iconst 0, 1) := by decide +kernel
theorem dX1_isCard_23 : decode cX1_isCard 23 = .ok (.ireturn, 1) := by decide +kernel
theorem dX1_cardOver_0 : decode cX1_cardOver 0 = .ok (.iconst 0, 1) := by decide +kernel
theorem dX1_cardOver_1 : decode cX1_cardOver 1 = .ok (.istore_n 2, 1) := by decide +kernel
theorem dX1_cardOver_2 : decode cX1_cardOver 2 = .ok (.iload_n 2, 1) := by decide +kernel
theorem dX1_cardOver_3 : decode cX1_cardOver 3 = .ok (.aload_n 0, 1) := by decide +kernel
theorem dX1_cardOver_4 : decode cX1_cardOver 4 = .ok (.getfield 15, 3) := by decide +kernel
theorem dX1_cardOver_7 : decode cX1_cardOver 7 = .ok (.if_icmp .ge 24, 3) := by decide +kernel
theorem dX1_cardOver_10 : decode cX1_cardOver 10 = .ok (.aload_n 0, 1) := by decide +kernel
theorem dX1_cardOver_11 : decode cX1_cardOver 11 = .ok (.getfield 31, 3) := by decide +kernel
theorem dX1_cardOver_14 : decode cX1_cardOver 14 = .ok (.getfield 45, 3) := by decide +kernel
theorem dX1_cardOver_17 : decode cX1_cardOver 17 = .ok (.iload_n 2, 1) := by decide +kernel
theorem dX1_cardOver_18 : decode cX1_cardOver 18 = .ok (.iaload, 1) := by decide +kernel
theorem dX1_cardOver_19 : decode cX1_cardOver 19 = .ok (.iload_n 1, 1) := by decide +kernel
theorem dX1_cardOver_20 : decode cX1_cardOver 20 = .ok (.if_icmp .ne 5, 3) := by decide +kernel
theorem dX1_cardOver_23 : decode cX1_cardOver 23 = .ok (.iload_n 2, 1) := by decide +kernel
theorem dX1_cardOver_24 : decode cX1_cardOver 24 = .ok (.ireturn, 1) := by decide +kernel
theorem dX1_cardOver_25 : decode cX1_cardOver 25 = .ok (.iinc 2 1, 3) := by decide +kernel
theorem dX1_cardOver_28 : decode cX1_cardOver 28 = .ok (.goto (-26), 3) := by decide +kernel
theorem dX1_cardOver_31 : decode cX1_cardOver 31 = .ok (.iconst (-1), 1) := by decide +kernel
theorem dX1_cardOver_32 : decode cX1_cardOver 32 = .ok (.ireturn, 1) := by decide +kernel
theorem dX1_isFit_0 : decode cX1_isFit 0 = .ok (.aload_n 0, 1) := by decide +kernel
theorem dX1_isFit_1 : decode cX1_isFit 1 = .ok (.iload_n 1, 1) := by decide +kernel
theorem dX1_isFit_2 : decode cX1_isFit 2 = .ok (.invokevirtual 48, 3) := by decide +kernel
theorem dX1_isFit_5 : decode cX1_isFit 5 = .ok (.ifCond .eq 11, 3) := by decide +kernel
theorem dX1_isFit_8 : decode cX1_isFit 8 = .ok (.aload_n 0, 1) := by decide +kernel
theorem dX1_isFit_9 : decode cX1_isFit 9 = .ok (.iload_n 2, 1) := by decide +kernel
theorem dX1_isFit_10 : decode cX1_isFit 10 = .ok (.invokevirtual 52, 3) := by decide +kernel
theorem dX1_isFit_13 : decode cX1_isFit 13 = .ok (.ifCond .ne 5, 3) := by decide +kernel
theorem dX1_isFit_16 : decode cX1_isFit 16 = .ok (.iconst 0, 1) := by decide +kernel
theorem dX1_isFit_17 : decode cX1_isFit 17 = .ok (.ireturn, 1) := by decide +kernel
theorem dX1_isFit_18 : decode cX1_isFit 18 = .ok (.aload_n 0, 1) := by decide +kernel
theorem dX1_isFit_19 : decode cX1_isFit 19 = .ok (.getfield 22, 3) := by decide +kernel
theorem dX1_isFit_22 : decode cX1_isFit 22 = .ok (.iload_n 2, 1) := by decide +kernel
theorem dX1_isFit_23 : decode cX1_isFit 23 = .ok (.iaload, 1) := by decide +kernel
theorem dX1_isFit_24 : decode cX1_isFit 24 = .ok (.istore_n 3, 1) := by decide +kernel
theorem dX1_isFit_25 : decode cX1_isFit 25 = .ok (.iconst 0, 1) := by decide +kernel
theorem dX1_isFit_26 : decode cX1_isFit 26 = .ok (.istore 4, 2) := by decide +kernel
theorem dX1_isFit_28 : decode cX1_isFit 28 = .ok (.iload 4, 2) := by decide +kernel
theorem dX1_isFit_30 : decode cX1_isFit 30 = .ok (.aload_n 0, 1) := by decide +kernel
theorem dX1_isFit_31 : decode cX1_isFit 31 = .ok (.getfield 31, 3) := by decide +kernel
theorem dX1_isFit_34 : decode cX1_isFit 34 = .ok (.getfield 55, 3) := by decide +kernel
theorem dX1_isFit_37 : decode cX1_isFit 37 = .ok (.getfield 59, 3) := by decide +kernel
theorem dX1_isFit_40 : decode cX1_isFit 40 = .ok (.iload_n 1, 1) := by decide +kernel
theorem dX1_isFit_41 : decode cX1_isFit 41 = .ok (.iaload, 1) := by decide +kernel
theorem dX1_isFit_42 : decode cX1_isFit 42 = .ok (.if_icmp .ge 47, 3) := by decide +kernel
theorem dX1_isFit_45 : decode cX1_isFit 45 = .ok (.iload_n 1, 1) := by decide +kernel
theorem dX1_isFit_46 : decode cX1_isFit 46 = .ok (.bipush 6, 2) := by decide +kernel
theorem dX1_isFit_48 : decode cX1_isFit 48 = .ok (.imul, 1) := by decide +kernel
theorem dX1_isFit_49 : decode cX1_isFit 49 = .ok (.iload 4, 2) := by decide +kernel
theorem dX1_isFit_51 : decode cX1_isFit 51 = .ok (.iadd, 1) := by decide +kernel
theorem dX1_isFit_52 : decode cX1_isFit 52 = .ok (.istore 5, 2) := by decide +kernel
theorem dX1_isFit_54 : decode cX1_isFit 54 = .ok (.aload_n 0, 1) := by decide +kernel
theorem dX1_isFit_55 : decode cX1_isFit 55 = .ok (.getfield 31, 3) := by decide +kernel
theorem dX1_isFit_58 : decode cX1_isFit 58 = .ok (.getfield 55, 3) := by decide +kernel
theorem dX1_isFit_61 : decode cX1_isFit 61 = .ok (.getfield 64, 3) := by decide +kernel
theorem dX1_isFit_64 : decode cX1_isFit 64 = .ok (.iload 5, 2) := by decide +kernel
theorem dX1_isFit_66 : decode cX1_isFit 66 = .ok (.iaload, 1) := by decide +kernel
theorem dX1_isFit_67 : decode cX1_isFit 67 = .ok (.ifCond .le 16, 3) := by decide +kernel
theorem dX1_isFit_70 : decode cX1_isFit 70 = .ok (.aload_n 0, 1) := by decide +kernel
theorem dX1_isFit_71 : decode cX1_isFit 71 = .ok (.iload 5, 2) := by decide +kernel
theorem dX1_isFit_73 : decode cX1_isFit 73 = .ok (.iload_n 1, 1) := by decide +kernel
theorem dX1_isFit_74 : decode cX1_isFit 74 = .ok (.iload_n 3, 1) := by decide +kernel
theorem dX1_isFit_75 : decode cX1_isFit 75 = .ok (.invokevirtual 67, 3) := by decide +kernel
theorem dX1_isFit_78 : decode cX1_isFit 78 = .ok (.ifCond .ne 5, 3) := by decide +kernel
theorem dX1_isFit_81 : decode cX1_isFit 81 = .ok (.iconst 0, 1) := by decide +kernel
theorem dX1_isFit_82 : decode cX1_isFit 82 = .ok (.ireturn, 1) := by decide +kernel
theorem dX1_isFit_83 : decode cX1_isFit 83 = .ok (.iinc 4 1, 3) := by decide +kernel
theorem dX1_isFit_86 : decode cX1_isFit 86 = .ok (.goto (-58), 3) := by decide +kernel
theorem dX1_isFit_89 : decode cX1_isFit 89 = .ok (.iconst 1, 1) := by decide +kernel
theorem dX1_isFit_90 : decode cX1_isFit 90 = .ok (.ireturn, 1) := by decide +kernel
theorem dX1_isTrue_0 : decode cX1_isTrue 0 = .ok (.aload_n 0, 1) := by decide +kernel
theorem dX1_isTrue_1 : decode cX1_isTrue 1 = .ok (.getfield 31, 3) := by decide +kernel
theorem dX1_isTrue_4 : decode cX1_isTrue 4 = .ok (.getfield 55, 3) := by decide +kernel
theorem dX1_isTrue_7 : decode cX1_isTrue 7 = .ok (.getfield 71, 3) := by decide +kernel
theorem dX1_isTrue_10 : decode cX1_isTrue 10 = .ok (.iload_n 1, 1) := by decide +kernel
theorem dX1_isTrue_11 : decode cX1_isTrue 11 = .ok (.iaload, 1) := by decide +kernel
theorem dX1_isTrue_12 : decode cX1_isTrue 12 = .ok (.istore 4, 2) := by decide +kernel
theorem dX1_isTrue_14 : decode cX1_isTrue 14 = .ok (.aload_n 0, 1) := by decide +kernel
theorem dX1_isTrue_15 : decode cX1_isTrue 15 = .ok (.getfield 31, 3) := by decide +kernel
theorem dX1_isTrue_18 : decode cX1_isTrue 18 = .ok (.getfield 55, 3) := by decide +kernel
theorem dX1_isTrue_21 : decode cX1_isTrue 21 = .ok (.getfield 74, 3) := by decide +kernel
theorem dX1_isTrue_24 : decode cX1_isTrue 24 = .ok (.iload_n 1, 1) := by decide +kernel
theorem dX1_isTrue_25 : decode cX1_isTrue 25 = .ok (.iaload, 1) := by decide +kernel
theorem dX1_isTrue_26 : decode cX1_isTrue 26 = .ok (.lookupswitch 57 #[(0, 26), (1, 42)], 26) := by decide +kernel
theorem dX1_isTrue_52 : decode cX1_isTrue 52 = .ok (.iload_n 3, 1) := by decide +kernel
theorem dX1_isTrue_53 : decode cX1_isTrue 53 = .ok (.iload 4, 2) := by decide +kernel
theorem dX1_isTrue_55 : decode cX1_isTrue 55 = .ok (.ishr, 1) := by decide +kernel
theorem dX1_isTrue_56 : decode cX1_isTrue 56 = .ok (.iconst 1, 1) := by decide +kernel
theorem dX1_isTrue_57 : decode cX1_isTrue 57 = .ok (.iand, 1) := by decide +kernel
theorem dX1_isTrue_58 : decode cX1_isTrue 58 = .ok (.iconst 1, 1) := by decide +kernel
theorem dX1_isTrue_59 : decode cX1_isTrue 59 = .ok (.if_icmp .ne 7, 3) := by decide +kernel
theorem dX1_isTrue_62 : decode cX1_isTrue 62 = .ok (.iconst 1, 1) := by decide +kernel
theorem dX1_isTrue_63 : decode cX1_isTrue 63 = .ok (.goto 4, 3) := by decide +kernel
theorem dX1_isTrue_66 : decode cX1_isTrue 66 = .ok (.iconst 0, 1) := by decide +kernel
theorem dX1_isTrue_67 : decode cX1_isTrue 67 = .ok (.ireturn, 1) := by decide +kernel
theorem dX1_isTrue_68 : decode cX1_isTrue 68 = .ok (.iload_n 3, 1) := by decide +kernel
theorem dX1_isTrue_69 : decode cX1_isTrue 69 = .ok (.iload 4, 2) := by decide +kernel
theorem dX1_isTrue_71 : decode cX1_isTrue 71 = .ok (.ishr, 1) := by decide +kernel
theorem dX1_isTrue_72 : decode cX1_isTrue 72 = .ok (.iconst 1, 1) := by decide +kernel
theorem dX1_isTrue_73 : decode cX1_isTrue 73 = .ok (.iand, 1) := by decide +kernel
theorem dX1_isTrue_74 : decode cX1_isTrue 74 = .ok (.ifCond .ne 7, 3) := by decide +kernel
theorem dX1_isTrue_77 : decode cX1_isTrue 77 = .ok (.iconst 1, 1) := by decide +kernel
theorem dX1_isTrue_78 : decode cX1_isTrue 78 = .ok (.goto 4, 3) := by decide +kernel
theorem dX1_isTrue_81 : decode cX1_isTrue 81 = .ok (.iconst 0, 1) := by decide +kernel
theorem dX1_isTrue_82 : decode cX1_isTrue 82 = .ok (.ireturn, 1) := by decide +kernel
theorem dX1_isTrue_83 : decode cX1_isTrue 83 = .ok (.iload 4, 2) := by decide +kernel
theorem dX1_isTrue_85 : decode cX1_isTrue 85 = .ok (.iload_n 2, 1) := by decide +kernel
theorem dX1_isTrue_86 : decode cX1_isTrue 86 = .ok (.if_icmp .ne 15, 3) := by decide +kernel
theorem dX1_isTrue_89 : decode cX1_isTrue 89 = .ok (.iload_n 3, 1) := by decide +kernel
theorem dX1_isTrue_90 : decode cX1_isTrue 90 = .ok (.ifCond .eq 7, 3) := by decide +kernel
theorem dX1_isTrue_93 : decode cX1_isTrue 93 = .ok (.iconst 1, 1) := by decide +kernel
theorem dX1_isTrue_94 : decode cX1_isTrue 94 = .ok (.goto 23, 3) := by decide +kernel
theorem dX1_isTrue_97 : decode cX1_isTrue 97 = .ok (.iconst 0, 1) := by decide +kernel
theorem dX1_isTrue_98 : decode cX1_isTrue 98 = .ok (.goto 19, 3) := by decide +kernel
theorem dX1_isTrue_101 : decode cX1_isTrue 101 = .ok (.aload_n 0, 1) := by decide +kernel
theorem dX1_isTrue_102 : decode cX1_isTrue 102 = .ok (.iload 4, 2) := by decide +kernel
theorem dX1_isTrue_104 : decode cX1_isTrue 104 = .ok (.invokevirtual 77, 3) := by decide +kernel
theorem dX1_isTrue_107 : decode cX1_isTrue 107 = .ok (.iload_n 3, 1) := by decide +kernel
theorem dX1_isTrue_108 : decode cX1_isTrue 108 = .ok (.iand, 1) := by decide +kernel
theorem dX1_isTrue_109 : decode cX1_isTrue 109 = .ok (.ifCond .eq 7, 3) := by decide +kernel
theorem dX1_isTrue_112 : decode cX1_isTrue 112 = .ok (.iconst 1, 1) := by decide +kernel
theorem dX1_isTrue_113 : decode cX1_isTrue 113 = .ok (.goto 4, 3) := by decide +kernel
theorem dX1_isTrue_116 : decode cX1_isTrue 116 = .ok (.iconst 0, 1) := by decide +kernel
theorem dX1_isTrue_117 : decode cX1_isTrue 117 = .ok (.ireturn, 1) := by decide +kernel
theorem dX1_marksUnder_0 : decode cX1_marksUnder 0 = .ok (.iload_n 1, 1) := by decide +kernel
theorem dX1_marksUnder_1 : decode cX1_marksUnder 1 = .ok (.ifCond .lt 11, 3) := by decide +kernel
theorem dX1_marksUnder_4 : decode cX1_marksUnder 4 = .ok (.iload_n 1, 1) := by decide +kernel
theorem dX1_marksUnder_5 : decode cX1_marksUnder 5 = .ok (.aload_n 0, 1) := by decide +kernel
theorem dX1_marksUnder_6 : decode cX1_marksUnder 6 = .ok (.getfield 15, 3) := by decide +kernel
theorem dX1_marksUnder_9 : decode cX1_marksUnder 9 = .ok (.if_icmp .lt 5, 3) := by decide +kernel
theorem dX1_marksUnder_12 : decode cX1_marksUnder 12 = .ok (.iconst 0, 1) := by decide +kernel
theorem dX1_marksUnder_13 : decode cX1_marksUnder 13 = .ok (.ireturn, 1) := by decide +kernel
theorem dX1_marksUnder_14 : decode cX1_marksUnder 14 = .ok (.aload_n 0, 1) := by decide +kernel
theorem dX1_marksUnder_15 : decode cX1_marksUnder 15 = .ok (.getfield 31, 3) := by decide +kernel
theorem dX1_marksUnder_18 : decode cX1_marksUnder 18 = .ok (.getfield 45, 3) := by decide +kernel
theorem dX1_marksUnder_21 : decode cX1_marksUnder 21 = .ok (.iload_n 1, 1) := by decide +kernel
theorem dX1_marksUnder_22 : decode cX1_marksUnder 22 = .ok (.iaload, 1) := by decide +kernel
theorem dX1_marksUnder_23 : decode cX1_marksUnder 23 = .ok (.istore_n 2, 1) := by decide +kernel
theorem dX1_marksUnder_24 : decode cX1_marksUnder 24 = .ok (.iload_n 2, 1) := by decide +kernel
theorem dX1_marksUnder_25 : decode cX1_marksUnder 25 = .ok (.ifCond .lt 11, 3) := by decide +kernel
theorem dX1_marksUnder_28 : decode cX1_marksUnder 28 = .ok (.iload_n 2, 1) := by decide +kernel
theorem dX1_marksUnder_29 : decode cX1_marksUnder 29 = .ok (.aload_n 0, 1) := by decide +kernel
theorem dX1_marksUnder_30 : decode cX1_marksUnder 30 = .ok (.getfield 9, 3) := by decide +kernel
theorem dX1_marksUnder_33 : decode cX1_marksUnder 33 = .ok (.if_icmp .lt 7, 3) := by decide +kernel
theorem dX1_marksUnder_36 : decode cX1_marksUnder 36 = .ok (.iconst 0, 1) := by decide +kernel
theorem dX1_marksUnder_37 : decode cX1_marksUnder 37 = .ok (.goto 9, 3) := by decide +kernel
theorem dX1_marksUnder_40 : decode cX1_marksUnder 40 = .ok (.aload_n 0, 1) := by decide +kernel
theorem dX1_marksUnder_41 : decode cX1_marksUnder 41 = .ok (.getfield 22, 3) := by decide +kernel
theorem dX1_marksUnder_44 : decode cX1_marksUnder 44 = .ok (.iload_n 2, 1) := by decide +kernel
theorem dX1_marksUnder_45 : decode cX1_marksUnder 45 = .ok (.iaload, 1) := by decide +kernel
theorem dX1_marksUnder_46 : decode cX1_marksUnder 46 = .ok (.ireturn, 1) := by decide +kernel
theorem dX1_isRight_0 : decode cX1_isRight 0 = .ok (.aload_n 0, 1) := by decide +kernel
theorem dX1_isRight_1 : decode cX1_isRight 1 = .ok (.iload_n 1, 1) := by decide +kernel
theorem dX1_isRight_2 : decode cX1_isRight 2 = .ok (.invokevirtual 48, 3) := by decide +kernel
theorem dX1_isRight_5 : decode cX1_isRight 5 = .ok (.ifCond .eq 24, 3) := by decide +kernel
theorem dX1_isRight_8 : decode cX1_isRight 8 = .ok (.aload_n 0, 1) := by decide +kernel
theorem dX1_isRight_9 : decode cX1_isRight 9 = .ok (.iload_n 1, 1) := by decide +kernel
theorem dX1_isRight_10 : decode cX1_isRight 10 = .ok (.aload_n 0, 1) := by decide +kernel
theorem dX1_isRight_11 : decode cX1_isRight 11 = .ok (.getfield 31, 3) := by decide +kernel
theorem dX1_isRight_14 : decode cX1_isRight 14 = .ok (.getfield 45, 3) := by decide +kernel
theorem dX1_isRight_17 : decode cX1_isRight 17 = .ok (.iload_n 1, 1) := by decide +kernel
theorem dX1_isRight_18 : decode cX1_isRight 18 = .ok (.iaload, 1) := by decide +kernel
theorem dX1_isRight_19 : decode cX1_isRight 19 = .ok (.invokevirtual 81, 3) := by decide +kernel
theorem dX1_isRight_22 : decode cX1_isRight 22 = .ok (.ifCond .eq 7, 3) := by decide +kernel
theorem dX1_isRight_25 : decode cX1_isRight 25 = .ok (.iconst 1, 1) := by decide +kernel
theorem dX1_isRight_26 : decode cX1_isRight 26 = .ok (.goto 4, 3) := by decide +kernel
theorem dX1_isRight_29 : decode cX1_isRight 29 = .ok (.iconst 0, 1) := by decide +kernel
theorem dX1_isRight_30 : decode cX1_isRight 30 = .ok (.ireturn, 1) := by decide +kernel
theorem dX1_suitedThings_0 : decode cX1_suitedThings 0 = .ok (.iconst 0, 1) := by decide +kernel
theorem dX1_suitedThings_1 : decode cX1_suitedThings 1 = .ok (.istore_n 2, 1) := by decide +kernel
theorem dX1_suitedThings_2 : decode cX1_suitedThings 2 = .ok (.iconst 0, 1) := by decide +kernel
theorem dX1_suitedThings_3 : decode cX1_suitedThings 3 = .ok (.istore_n 3, 1) := by decide +kernel
theorem dX1_suitedThings_4 : decode cX1_suitedThings 4 = .ok (.iload_n 3, 1) := by decide +kernel
theorem dX1_suitedThings_5 : decode cX1_suitedThings 5 = .ok (.aload_n 0, 1) := by decide +kernel
theorem dX1_suitedThings_6 : decode cX1_suitedThings 6 = .ok (.getfield 9, 3) := by decide +kernel
theorem dX1_suitedThings_9 : decode cX1_suitedThings 9 = .ok (.if_icmp .ge 24, 3) := by decide +kernel
theorem dX1_suitedThings_12 : decode cX1_suitedThings 12 = .ok (.aload_n 0, 1) := by decide +kernel
theorem dX1_suitedThings_13 : decode cX1_suitedThings 13 = .ok (.iload_n 1, 1) := by decide +kernel
theorem dX1_suitedThings_14 : decode cX1_suitedThings 14 = .ok (.iload_n 3, 1) := by decide +kernel
theorem dX1_suitedThings_15 : decode cX1_suitedThings 15 = .ok (.invokevirtual 81, 3) := by decide +kernel
theorem dX1_suitedThings_18 : decode cX1_suitedThings 18 = .ok (.ifCond .eq 9, 3) := by decide +kernel
theorem dX1_suitedThings_21 : decode cX1_suitedThings 21 = .ok (.iload_n 2, 1) := by decide +kernel
theorem dX1_suitedThings_22 : decode cX1_suitedThings 22 = .ok (.iconst 1, 1) := by decide +kernel
theorem dX1_suitedThings_23 : decode cX1_suitedThings 23 = .ok (.iload_n 3, 1) := by decide +kernel
theorem dX1_suitedThings_24 : decode cX1_suitedThings 24 = .ok (.ishl, 1) := by decide +kernel
theorem dX1_suitedThings_25 : decode cX1_suitedThings 25 = .ok (.ior, 1) := by decide +kernel
theorem dX1_suitedThings_26 : decode cX1_suitedThings 26 = .ok (.istore_n 2, 1) := by decide +kernel
theorem dX1_suitedThings_27 : decode cX1_suitedThings 27 = .ok (.iinc 3 1, 3) := by decide +kernel
theorem dX1_suitedThings_30 : decode cX1_suitedThings 30 = .ok (.goto (-26), 3) := by decide +kernel
theorem dX1_suitedThings_33 : decode cX1_suitedThings 33 = .ok (.iload_n 2, 1) := by decide +kernel
theorem dX1_suitedThings_34 : decode cX1_suitedThings 34 = .ok (.ireturn, 1) := by decide +kernel
theorem dX1_cheapestFor_0 : decode cX1_cheapestFor 0 = .ok (.iconst (-1), 1) := by decide +kernel
theorem dX1_cheapestFor_1 : decode cX1_cheapestFor 1 = .ok (.istore_n 2, 1) := by decide +kernel
theorem dX1_cheapestFor_2 : decode cX1_cheapestFor 2 = .ok (.iconst 0, 1) := by decide +kernel
theorem dX1_cheapestFor_3 : decode cX1_cheapestFor 3 = .ok (.istore_n 3, 1) := by decide +kernel
theorem dX1_cheapestFor_4 : decode cX1_cheapestFor 4 = .ok (.iload_n 3, 1) := by decide +kernel
theorem dX1_cheapestFor_5 : decode cX1_cheapestFor 5 = .ok (.aload_n 0, 1) := by decide +kernel
theorem dX1_cheapestFor_6 : decode cX1_cheapestFor 6 = .ok (.getfield 9, 3) := by decide +kernel
theorem dX1_cheapestFor_9 : decode cX1_cheapestFor 9 = .ok (.if_icmp .ge 65, 3) := by decide +kernel
theorem dX1_cheapestFor_12 : decode cX1_cheapestFor 12 = .ok (.aload_n 0, 1) := by decide +kernel
theorem dX1_cheapestFor_13 : decode cX1_cheapestFor 13 = .ok (.getfield 18, 3) := by decide +kernel
theorem dX1_cheapestFor_16 : decode cX1_cheapestFor 16 = .ok (.iload_n 3, 1) := by decide +kernel
theorem dX1_cheapestFor_17 : decode cX1_cheapestFor 17 = .ok (.iaload, 1) := by decide +kernel
theorem dX1_cheapestFor_18 : decode cX1_cheapestFor 18 = .ok (.aload_n 0, 1) := by decide +kernel
theorem dX1_cheapestFor_19 : decode cX1_cheapestFor 19 = .ok (.getfield 31, 3) := by decide +kernel
theorem dX1_cheapestFor_22 : decode cX1_cheapestFor 22 = .ok (.getfield 85, 3) := by decide +kernel
theorem dX1_cheapestFor_25 : decode cX1_cheapestFor 25 = .ok (.if_icmp .gt 43, 3) := by decide +kernel
theorem dX1_cheapestFor_28 : decode cX1_cheapestFor 28 = .ok (.iload_n 2, 1) := by decide +kernel
theorem dX1_cheapestFor_29 : decode cX1_cheapestFor 29 = .ok (.iconst (-1), 1) := by decide +kernel
theorem dX1_cheapestFor_30 : decode cX1_cheapestFor 30 = .ok (.if_icmp .eq 18, 3) := by decide +kernel
theorem dX1_cheapestFor_33 : decode cX1_cheapestFor 33 = .ok (.aload_n 0, 1) := by decide +kernel
theorem dX1_cheapestFor_34 : decode cX1_cheapestFor 34 = .ok (.getfield 18, 3) := by decide +kernel
theorem dX1_cheapestFor_37 : decode cX1_cheapestFor 37 = .ok (.iload_n 3, 1) := by decide +kernel
theorem dX1_cheapestFor_38 : decode cX1_cheapestFor 38 = .ok (.iaload, 1) := by decide +kernel
theorem dX1_cheapestFor_39 : decode cX1_cheapestFor 39 = .ok (.aload_n 0, 1) := by decide +kernel
theorem dX1_cheapestFor_40 : decode cX1_cheapestFor 40 = .ok (.getfield 18, 3) := by decide +kernel
theorem dX1_cheapestFor_43 : decode cX1_cheapestFor 43 = .ok (.iload_n 2, 1) := by decide +kernel
theorem dX1_cheapestFor_44 : decode cX1_cheapestFor 44 = .ok (.iaload, 1) := by decide +kernel
theorem dX1_cheapestFor_45 : decode cX1_cheapestFor 45 = .ok (.if_icmp .ge 23, 3) := by decide +kernel
theorem dX1_cheapestFor_48 : decode cX1_cheapestFor 48 = .ok (.aload_n 0, 1) := by decide +kernel
theorem dX1_cheapestFor_49 : decode cX1_cheapestFor 49 = .ok (.iload_n 3, 1) := by decide +kernel
theorem dX1_cheapestFor_50 : decode cX1_cheapestFor 50 = .ok (.invokevirtual 88, 3) := by decide +kernel
theorem dX1_cheapestFor_53 : decode cX1_cheapestFor 53 = .ok (.iconst (-1), 1) := by decide +kernel
theorem dX1_cheapestFor_54 : decode cX1_cheapestFor 54 = .ok (.if_icmp .ne 14, 3) := by decide +kernel
theorem dX1_cheapestFor_57 : decode cX1_cheapestFor 57 = .ok (.aload_n 0, 1) := by decide +kernel
theorem dX1_cheapestFor_58 : decode cX1_cheapestFor 58 = .ok (.iload_n 1, 1) := by decide +kernel
theorem dX1_cheapestFor_59 : decode cX1_cheapestFor 59 = .ok (.iload_n 3, 1) := by decide +kernel
theorem dX1_cheapestFor_60 : decode cX1_cheapestFor 60 = .ok (.invokevirtual 81, 3) := by decide +kernel
theorem dX1_cheapestFor_63 : decode cX1_cheapestFor 63 = .ok (.ifCond .eq 5, 3) := by decide +kernel
theorem dX1_cheapestFor_66 : decode cX1_cheapestFor 66 = .ok (.iload_n 3, 1) := by decide +kernel
theorem dX1_cheapestFor_67 : decode cX1_cheapestFor 67 = .ok (.istore_n 2, 1) := by decide +kernel
theorem dX1_cheapestFor_68 : decode cX1_cheapestFor 68 = .ok (.iinc 3 1, 3) := by decide +kernel
theorem dX1_cheapestFor_71 : decode cX1_cheapestFor 71 = .ok (.goto (-67), 3) := by decide +kernel
theorem dX1_cheapestFor_74 : decode cX1_cheapestFor 74 = .ok (.iload_n 2, 1) := by decide +kernel
theorem dX1_cheapestFor_75 : decode cX1_cheapestFor 75 = .ok (.ireturn, 1) := by decide +kernel
theorem dX1_goneWords_0 : decode cX1_goneWords 0 = .ok (.iconst 0, 1) := by decide +kernel
theorem dX1_goneWords_1 : decode cX1_goneWords 1 = .ok (.istore_n 1, 1) := by decide +kernel
theorem dX1_goneWords_2 : decode cX1_goneWords 2 = .ok (.iconst 0, 1) := by decide +kernel
theorem dX1_goneWords_3 : decode cX1_goneWords 3 = .ok (.istore_n 2, 1) := by decide +kernel
theorem dX1_goneWords_4 : decode cX1_goneWords 4 = .ok (.iload_n 2, 1) := by decide +kernel
theorem dX1_goneWords_5 : decode cX1_goneWords 5 = .ok (.aload_n 0, 1) := by decide +kernel
theorem dX1_goneWords_6 : decode cX1_goneWords 6 = .ok (.getfield 15, 3) := by decide +kernel
theorem dX1_goneWords_9 : decode cX1_goneWords 9 = .ok (.if_icmp .ge 36, 3) := by decide +kernel
theorem dX1_goneWords_12 : decode cX1_goneWords 12 = .ok (.iload_n 1, 1) := by decide +kernel
theorem dX1_goneWords_13 : decode cX1_goneWords 13 = .ok (.aload_n 0, 1) := by decide +kernel
theorem dX1_goneWords_14 : decode cX1_goneWords 14 = .ok (.getfield 31, 3) := by decide +kernel
theorem dX1_goneWords_17 : decode cX1_goneWords 17 = .ok (.getfield 55, 3) := by decide +kernel
theorem dX1_goneWords_20 : decode cX1_goneWords 20 = .ok (.getfield 59, 3) := by decide +kernel
theorem dX1_goneWords_23 : decode cX1_goneWords 23 = .ok (.iload_n 2, 1) := by decide +kernel
theorem dX1_goneWords_24 : decode cX1_goneWords 24 = .ok (.iaload, 1) := by decide +kernel
theorem dX1_goneWords_25 : decode cX1_goneWords 25 = .ok (.aload_n 0, 1) := by decide +kernel
theorem dX1_goneWords_26 : decode cX1_goneWords 26 = .ok (.getfield 31, 3) := by decide +kernel
theorem dX1_goneWords_29 : decode cX1_goneWords 29 = .ok (.getfield 55, 3) := by decide +kernel
theorem dX1_goneWords_32 : decode cX1_goneWords 32 = .ok (.iload_n 2, 1) := by decide +kernel
theorem dX1_goneWords_33 : decode cX1_goneWords 33 = .ok (.invokevirtual 91, 3) := by decide +kernel
theorem dX1_goneWords_36 : decode cX1_goneWords 36 = .ok (.isub, 1) := by decide +kernel
theorem dX1_goneWords_37 : decode cX1_goneWords 37 = .ok (.iadd, 1) := by decide +kernel
theorem dX1_goneWords_38 : decode cX1_goneWords 38 = .ok (.istore_n 1, 1) := by decide +kernel
theorem dX1_goneWords_39 : decode cX1_goneWords 39 = .ok (.iinc 2 1, 3) := by decide +kernel
theorem dX1_goneWords_42 : decode cX1_goneWords 42 = .ok (.goto (-38), 3) := by decide +kernel
theorem dX1_goneWords_45 : decode cX1_goneWords 45 = .ok (.iload_n 1, 1) := by decide +kernel
theorem dX1_goneWords_46 : decode cX1_goneWords 46 = .ok (.ireturn, 1) := by decide +kernel
theorem dX1_wrongCards_0 : decode cX1_wrongCards 0 = .ok (.iconst 0, 1) := by decide +kernel
theorem dX1_wrongCards_1 : decode cX1_wrongCards 1 = .ok (.istore_n 1, 1) := by decide +kernel
theorem dX1_wrongCards_2 : decode cX1_wrongCards 2 = .ok (.iconst 0, 1) := by decide +kernel
theorem dX1_wrongCards_3 : decode cX1_wrongCards 3 = .ok (.istore_n 2, 1) := by decide +kernel
theorem dX1_wrongCards_4 : decode cX1_wrongCards 4 = .ok (.iload_n 2, 1) := by decide +kernel
theorem dX1_wrongCards_5 : decode cX1_wrongCards 5 = .ok (.aload_n 0, 1) := by decide +kernel
theorem dX1_wrongCards_6 : decode cX1_wrongCards 6 = .ok (.getfield 15, 3) := by decide +kernel
theorem dX1_wrongCards_9 : decode cX1_wrongCards 9 = .ok (.if_icmp .ge 20, 3) := by decide +kernel
theorem dX1_wrongCards_12 : decode cX1_wrongCards 12 = .ok (.aload_n 0, 1) := by decide +kernel
theorem dX1_wrongCards_13 : decode cX1_wrongCards 13 = .ok (.iload_n 2, 1) := by decide +kernel
theorem dX1_wrongCards_14 : decode cX1_wrongCards 14 = .ok (.invokevirtual 94, 3) := by decide +kernel
theorem dX1_wrongCards_17 : decode cX1_wrongCards 17 = .ok (.ifCond .ne 6, 3) := by decide +kernel
theorem dX1_wrongCards_20 : decode cX1_wrongCards 20 = .ok (.iinc 1 1, 3) := by decide +kernel
theorem dX1_wrongCards_23 : decode cX1_wrongCards 23 = .ok (.iinc 2 1, 3) := by decide +kernel
theorem dX1_wrongCards_26 : decode cX1_wrongCards 26 = .ok (.goto (-22), 3) := by decide +kernel
theorem dX1_wrongCards_29 : decode cX1_wrongCards 29 = .ok (.iload_n 1, 1) := by decide +kernel
theorem dX1_wrongCards_30 : decode cX1_wrongCards 30 = .ok (.ireturn, 1) := by decide +kernel
theorem dX1_reachedFrom_0 : decode cX1_reachedFrom 0 = .ok (.aload_n 0, 1) := by decide +kernel
theorem dX1_reachedFrom_1 : decode cX1_reachedFrom 1 = .ok (.getfield 31, 3) := by decide +kernel
theorem dX1_reachedFrom_4 : decode cX1_reachedFrom 4 = .ok (.getfield 55, 3) := by decide +kernel
theorem dX1_reachedFrom_7 : decode cX1_reachedFrom 7 = .ok (.iload_n 1, 1) := by decide +kernel
theorem dX1_reachedFrom_8 : decode cX1_reachedFrom 8 = .ok (.iconst 2, 1) := by decide +kernel
theorem dX1_reachedFrom_9 : decode cX1_reachedFrom 9 = .ok (.invokevirtual 97, 3) := by decide +kernel
theorem dX1_reachedFrom_12 : decode cX1_reachedFrom 12 = .ok (.istore_n 2, 1) := by decide +kernel
theorem dX1_reachedFrom_13 : decode cX1_reachedFrom 13 = .ok (.iconst 0, 1) := by decide +kernel
theorem dX1_reachedFrom_14 : decode cX1_reachedFrom 14 = .ok (.istore_n 3, 1) := by decide +kernel
theorem dX1_reachedFrom_15 : decode cX1_reachedFrom 15 = .ok (.iload_n 3, 1) := by decide +kernel
theorem dX1_reachedFrom_16 : decode cX1_reachedFrom 16 = .ok (.aload_n 0, 1) := by decide +kernel
theorem dX1_reachedFrom_17 : decode cX1_reachedFrom 17 = .ok (.getfield 15, 3) := by decide +kernel
theorem dX1_reachedFrom_20 : decode cX1_reachedFrom 20 = .ok (.if_icmp .ge 53, 3) := by decide +kernel
theorem dX1_reachedFrom_23 : decode cX1_reachedFrom 23 = .ok (.iconst 0, 1) := by decide +kernel
theorem dX1_reachedFrom_24 : decode cX1_reachedFrom 24 = .ok (.istore 4, 2) := by decide +kernel
theorem dX1_reachedFrom_26 : decode cX1_reachedFrom 26 = .ok (.iload 4, 2) := by decide +kernel
theorem dX1_reachedFrom_28 : decode cX1_reachedFrom 28 = .ok (.aload_n 0, 1) := by decide +kernel
theorem dX1_reachedFrom_29 : decode cX1_reachedFrom 29 = .ok (.getfield 15, 3) := by decide +kernel
theorem dX1_reachedFrom_32 : decode cX1_reachedFrom 32 = .ok (.if_icmp .ge 35, 3) := by decide +kernel
theorem dX1_reachedFrom_35 : decode cX1_reachedFrom 35 = .ok (.iload_n 2, 1) := by decide +kernel
theorem dX1_reachedFrom_36 : decode cX1_reachedFrom 36 = .ok (.iload 4, 2) := by decide +kernel
theorem dX1_reachedFrom_38 : decode cX1_reachedFrom 38 = .ok (.ishr, 1) := by decide +kernel
theorem dX1_reachedFrom_39 : decode cX1_reachedFrom 39 = .ok (.iconst 1, 1) := by decide +kernel
theorem dX1_reachedFrom_40 : decode cX1_reachedFrom 40 = .ok (.iand, 1) := by decide +kernel
theorem dX1_reachedFrom_41 : decode cX1_reachedFrom 41 = .ok (.iconst 1, 1) := by decide +kernel
theorem dX1_reachedFrom_42 : decode cX1_reachedFrom 42 = .ok (.if_icmp .ne 19, 3) := by decide +kernel
theorem dX1_reachedFrom_45 : decode cX1_reachedFrom 45 = .ok (.iload_n 2, 1) := by decide +kernel
theorem dX1_reachedFrom_46 : decode cX1_reachedFrom 46 = .ok (.aload_n 0, 1) := by decide +kernel
theorem dX1_reachedFrom_47 : decode cX1_reachedFrom 47 = .ok (.getfield 31, 3) := by decide +kernel
theorem dX1_reachedFrom_50 : decode cX1_reachedFrom 50 = .ok (.getfield 55, 3) := by decide +kernel
theorem dX1_reachedFrom_53 : decode cX1_reachedFrom 53 = .ok (.iload 4, 2) := by decide +kernel
theorem dX1_reachedFrom_55 : decode cX1_reachedFrom 55 = .ok (.iconst 2, 1) := by decide +kernel
theorem dX1_reachedFrom_56 : decode cX1_reachedFrom 56 = .ok (.invokevirtual 97, 3) := by decide +kernel
theorem dX1_reachedFrom_59 : decode cX1_reachedFrom 59 = .ok (.ior, 1) := by decide +kernel
theorem dX1_reachedFrom_60 : decode cX1_reachedFrom 60 = .ok (.istore_n 2, 1) := by decide +kernel
theorem dX1_reachedFrom_61 : decode cX1_reachedFrom 61 = .ok (.iinc 4 1, 3) := by decide +kernel
theorem dX1_reachedFrom_64 : decode cX1_reachedFrom 64 = .ok (.goto (-38), 3) := by decide +kernel
theorem dX1_reachedFrom_67 : decode cX1_reachedFrom 67 = .ok (.iinc 3 1, 3) := by decide +kernel
theorem dX1_reachedFrom_70 : decode cX1_reachedFrom 70 = .ok (.goto (-55), 3) := by decide +kernel
theorem dX1_reachedFrom_73 : decode cX1_reachedFrom 73 = .ok (.iload_n 2, 1) := by decide +kernel
theorem dX1_reachedFrom_74 : decode cX1_reachedFrom 74 = .ok (.ireturn, 1) := by decide +kernel
theorem dX1_isToldAlone_0 : decode cX1_isToldAlone 0 = .ok (.iconst 0, 1) := by decide +kernel
theorem dX1_isToldAlone_1 : decode cX1_isToldAlone 1 = .ok (.istore_n 3, 1) := by decide +kernel
theorem dX1_isToldAlone_2 : decode cX1_isToldAlone 2 = .ok (.iload_n 3, 1) := by decide +kernel
theorem dX1_isToldAlone_3 : decode cX1_isToldAlone 3 = .ok (.aload_n 0, 1) := by decide +kernel
theorem dX1_isToldAlone_4 : decode cX1_isToldAlone 4 = .ok (.getfield 9, 3) := by decide +kernel
theorem dX1_isToldAlone_7 : decode cX1_isToldAlone 7 = .ok (.if_icmp .ge 34, 3) := by decide +kernel
theorem dX1_isToldAlone_10 : decode cX1_isToldAlone 10 = .ok (.iload_n 3, 1) := by decide +kernel
theorem dX1_isToldAlone_11 : decode cX1_isToldAlone 11 = .ok (.iload_n 1, 1) := by decide +kernel
theorem dX1_isToldAlone_12 : decode cX1_isToldAlone 12 = .ok (.if_icmp .eq 23, 3) := by decide +kernel
theorem dX1_isToldAlone_15 : decode cX1_isToldAlone 15 = .ok (.aload_n 0, 1) := by decide +kernel
theorem dX1_isToldAlone_16 : decode cX1_isToldAlone 16 = .ok (.getfield 22, 3) := by decide +kernel
theorem dX1_isToldAlone_19 : decode cX1_isToldAlone 19 = .ok (.iload_n 1, 1) := by decide +kernel
theorem dX1_isToldAlone_20 : decode cX1_isToldAlone 20 = .ok (.iaload, 1) := by decide +kernel
theorem dX1_isToldAlone_21 : decode cX1_isToldAlone 21 = .ok (.aload_n 0, 1) := by decide +kernel
theorem dX1_isToldAlone_22 : decode cX1_isToldAlone 22 = .ok (.getfield 22, 3) := by decide +kernel
theorem dX1_isToldAlone_25 : decode cX1_isToldAlone 25 = .ok (.iload_n 3, 1) := by decide +kernel
theorem dX1_isToldAlone_26 : decode cX1_isToldAlone 26 = .ok (.iaload, 1) := by decide +kernel
theorem dX1_isToldAlone_27 : decode cX1_isToldAlone 27 = .ok (.ixor, 1) := by decide +kernel
theorem dX1_isToldAlone_28 : decode cX1_isToldAlone 28 = .ok (.iload_n 2, 1) := by decide +kernel
theorem dX1_isToldAlone_29 : decode cX1_isToldAlone 29 = .ok (.iand, 1) := by decide +kernel
theorem dX1_isToldAlone_30 : decode cX1_isToldAlone 30 = .ok (.ifCond .ne 5, 3) := by decide +kernel
theorem dX1_isToldAlone_33 : decode cX1_isToldAlone 33 = .ok (.iconst 0, 1) := by decide +kernel
theorem dX1_isToldAlone_34 : decode cX1_isToldAlone 34 = .ok (.ireturn, 1) := by decide +kernel
theorem dX1_isToldAlone_35 : decode cX1_isToldAlone 35 = .ok (.iinc 3 1, 3) := by decide +kernel
theorem dX1_isToldAlone_38 : decode cX1_isToldAlone 38 = .ok (.goto (-36), 3) := by decide +kernel
theorem dX1_isToldAlone_41 : decode cX1_isToldAlone 41 = .ok (.iconst 1, 1) := by decide +kernel
theorem dX1_isToldAlone_42 : decode cX1_isToldAlone 42 = .ok (.ireturn, 1) := by decide +kernel
theorem dX2_init_0 : decode cX2_init 0 = .ok (.aload_n 0, 1) := by decide +kernel
theorem dX2_init_1 : decode cX2_init 1 = .ok (.invokespecial 3, 3) := by decide +kernel
theorem dX2_init_4 : decode cX2_init 4 = .ok (.aload_n 0, 1) := by decide +kernel
theorem dX2_init_5 : decode cX2_init 5 = .ok (.iconst 0, 1) := by decide +kernel
theorem dX2_init_6 : decode cX2_init 6 = .ok (.putfield 9, 3) := by decide +kernel
theorem dX2_init_9 : decode cX2_init 9 = .ok (.aload_n 0, 1) := by decide +kernel
theorem dX2_init_10 : decode cX2_init 10 = .ok (.bipush 10, 2) := by decide +kernel
theorem dX2_init_12 : decode cX2_init 12 = .ok (.newarray .int, 2) := by decide +kernel
theorem dX2_init_14 : decode cX2_init 14 = .ok (.putfield 15, 3) := by decide +kernel
theorem dX2_init_17 : decode cX2_init 17 = .ok (.aload_n 0, 1) := by decide +kernel
theorem dX2_init_18 : decode cX2_init 18 = .ok (.bipush 10, 2) := by decide +kernel
theorem dX2_init_20 : decode cX2_init 20 = .ok (.newarray .int, 2) := by decide +kernel
theorem dX2_init_22 : decode cX2_init 22 = .ok (.putfield 19, 3) := by decide +kernel
theorem dX2_init_25 : decode cX2_init 25 = .ok (.aload_n 0, 1) := by decide +kernel
theorem dX2_init_26 : decode cX2_init 26 = .ok (.bipush 10, 2) := by decide +kernel
theorem dX2_init_28 : decode cX2_init 28 = .ok (.newarray .boolean, 2) := by decide +kernel
theorem dX2_init_30 : decode cX2_init 30 = .ok (.putfield 22, 3) := by decide +kernel
theorem dX2_init_33 : decode cX2_init 33 = .ok (.aload_n 0, 1) := by decide +kernel
theorem dX2_init_34 : decode cX2_init 34 = .ok (.bipush 8, 2) := by decide +kernel
theorem dX2_init_36 : decode cX2_init 36 = .ok (.newarray .int, 2) := by decide +kernel
theorem dX2_init_38 : decode cX2_init 38 = .ok (.putfield 26, 3) := by decide +kernel
theorem dX2_init_41 : decode cX2_init 41 = .ok (.aload_n 0, 1) := by decide +kernel
theorem dX2_init_42 : decode cX2_init 42 = .ok (.iconst 0, 1) := by decide +kernel
theorem dX2_init_43 : decode cX2_init 43 = .ok (.putfield 29, 3) := by decide +kernel
theorem dX2_init_46 : decode cX2_init 46 = .ok (.aload_n 0, 1) := by decide +kernel
theorem dX2_init_47 : decode cX2_init 47 = .ok (.iconst 0, 1) := by decide +kernel
theorem dX2_init_48 : decode cX2_init 48 = .ok (.putfield 32, 3) := by decide +kernel
theorem dX2_init_51 : decode cX2_init 51 = .ok (.aload_n 0, 1) := by decide +kernel
theorem dX2_init_52 : decode cX2_init 52 = .ok (.iconst 0, 1) := by decide +kernel
theorem dX2_init_53 : decode cX2_init 53 = .ok (.putfield 35, 3) := by decide +kernel
theorem dX2_init_56 : decode cX2_init 56 = .ok (.aload_n 0, 1) := by decide +kernel
theorem dX2_init_57 : decode cX2_init 57 = .ok (.iconst 0, 1) := by decide +kernel
theorem dX2_init_58 : decode cX2_init 58 = .ok (.putfield 38, 3) := by decide +kernel
theorem dX2_init_61 : decode cX2_init 61 = .ok (.aload_n 0, 1) := by decide +kernel
theorem dX2_init_62 : decode cX2_init 62 = .ok (.iconst 0, 1) := by decide +kernel
theorem dX2_init_63 : decode cX2_init 63 = .ok (.putfield 41, 3) := by decide +kernel
theorem dX2_init_66 : decode cX2_init 66 = .ok (.aload_n 0, 1) := by decide +kernel
theorem dX2_init_67 : decode cX2_init 67 = .ok (.iconst 0, 1) := by decide +kernel
theorem dX2_init_68 : decode cX2_init 68 = .ok (.putfield 44, 3) := by decide +kernel
theorem dX2_init_71 : decode cX2_init 71 = .ok (.aload_n 0, 1) := by decide +kernel
theorem dX2_init_72 : decode cX2_init 72 = .ok (.iconst 0, 1) := by decide +kernel
theorem dX2_init_73 : decode cX2_init 73 = .ok (.putfield 47, 3) := by decide +kernel
theorem dX2_init_76 : decode cX2_init 76 = .ok (.aload_n 0, 1) := by decide +kernel
theorem dX2_init_77 : decode cX2_init 77 = .ok (.aload_n 1, 1) := by decide +kernel
theorem dX2_init_78 : decode cX2_init 78 = .ok (.putfield 50, 3) := by decide +kernel
theorem dX2_init_81 : decode cX2_init 81 = .ok (.return_, 1) := by decide +kernel
theorem dX2_forget_0 : decode cX2_forget 0 = .ok (.aload_n 0, 1) := by decide +kernel
theorem dX2_forget_1 : decode cX2_forget 1 = .ok (.iconst 0, 1) := by decide +kernel
theorem dX2_forget_2 : decode cX2_forget 2 = .ok (.putfield 9, 3) := by decide +kernel
theorem dX2_forget_5 : decode cX2_forget 5 = .ok (.return_, 1) := by decide +kernel
theorem dX2_note_0 : decode cX2_note 0 = .ok (.aload_n 0, 1) := by decide +kernel
theorem dX2_note_1 : decode cX2_note 1 = .ok (.getfield 9, 3) := by decide +kernel
theorem dX2_note_4 : decode cX2_note 4 = .ok (.bipush 10, 2) := by decide +kernel
theorem dX2_note_6 : decode cX2_note 6 = .ok (.if_icmp .lt 5, 3) := by decide +kernel
theorem dX2_note_9 : decode cX2_note 9 = .ok (.iconst (-1), 1) := by decide +kernel
theorem dX2_note_10 : decode cX2_note 10 = .ok (.ireturn, 1) := by decide +kernel
theorem dX2_note_11 : decode cX2_note 11 = .ok (.aload_n 0, 1) := by decide +kernel
theorem dX2_note_12 : decode cX2_note 12 = .ok (.getfield 15, 3) := by decide +kernel
theorem dX2_note_15 : decode cX2_note 15 = .ok (.aload_n 0, 1) := by decide +kernel
theorem dX2_note_16 : decode cX2_note 16 = .ok (.getfield 9, 3) := by decide +kernel
theorem dX2_note_19 : decode cX2_note 19 = .ok (.iload_n 1, 1) := by decide +kernel
theorem dX2_note_20 : decode cX2_note 20 = .ok (.iastore, 1) := by decide +kernel
theorem dX2_note_21 : decode cX2_note 21 = .ok (.aload_n 0, 1) := by decide +kernel
theorem dX2_note_22 : decode cX2_note 22 = .ok (.getfield 19, 3) := by decide +kernel
theorem dX2_note_25 : decode cX2_note 25 = .ok (.aload_n 0, 1) := by decide +kernel
theorem dX2_note_26 : decode cX2_note 26 = .ok (.getfield 9, 3) := by decide +kernel
theorem dX2_note_29 : decode cX2_note 29 = .ok (.iload_n 2, 1) := by decide +kernel
theorem dX2_note_30 : decode cX2_note 30 = .ok (.iastore, 1) := by decide +kernel
theorem dX2_note_31 : decode cX2_note 31 = .ok (.aload_n 0, 1) := by decide +kernel
theorem dX2_note_32 : decode cX2_note 32 = .ok (.getfield 22, 3) := by decide +kernel
theorem dX2_note_35 : decode cX2_note 35 = .ok (.aload_n 0, 1) := by decide +kernel
theorem dX2_note_36 : decode cX2_note 36 = .ok (.getfield 9, 3) := by decide +kernel
theorem dX2_note_39 : decode cX2_note 39 = .ok (.iload_n 3, 1) := by decide +kernel
theorem dX2_note_40 : decode cX2_note 40 = .ok (.bastore, 1) := by decide +kernel
theorem dX2_note_41 : decode cX2_note 41 = .ok (.aload_n 0, 1) := by decide +kernel
theorem dX2_note_42 : decode cX2_note 42 = .ok (.dup, 1) := by decide +kernel
theorem dX2_note_43 : decode cX2_note 43 = .ok (.getfield 9, 3) := by decide +kernel
theorem dX2_note_46 : decode cX2_note 46 = .ok (.iconst 1, 1) := by decide +kernel
theorem dX2_note_47 : decode cX2_note 47 = .ok (.iadd, 1) := by decide +kernel
theorem dX2_note_48 : decode cX2_note 48 = .ok (.putfield 9, 3) := by decide +kernel
theorem dX2_note_51 : decode cX2_note 51 = .ok (.aload_n 0, 1) := by decide +kernel
theorem dX2_note_52 : decode cX2_note 52 = .ok (.getfield 9, 3) := by decide +kernel
theorem dX2_note_55 : decode cX2_note 55 = .ok (.ireturn, 1) := by decide +kernel
theorem dX2_aim_0 : decode cX2_aim 0 = .ok (.aload_n 0, 1) := by decide +kernel
theorem dX2_aim_1 : decode cX2_aim 1 = .ok (.getfield 50, 3) := by decide +kernel
theorem dX2_aim_4 : decode cX2_aim 4 = .ok (.iload_n 1, 1) := by decide +kernel
theorem dX2_aim_5 : decode cX2_aim 5 = .ok (.invokevirtual 54, 3) := by decide +kernel
theorem dX2_aim_8 : decode cX2_aim 8 = .ok (.ifCond .ne 5, 3) := by decide +kernel
theorem dX2_aim_11 : decode cX2_aim 11 = .ok (.iconst 0, 1) := by decide +kernel
theorem dX2_aim_12 : decode cX2_aim 12 = .ok (.ireturn, 1) := by decide +kernel
theorem dX2_aim_13 : decode cX2_aim 13 = .ok (.aload_n 0, 1) := by decide +kernel
theorem dX2_aim_14 : decode cX2_aim 14 = .ok (.getfield 50, 3) := by decide +kernel
theorem dX2_aim_17 : decode cX2_aim 17 = .ok (.getfield 60, 3) := by decide +kernel
theorem dX2_aim_20 : decode cX2_aim 20 = .ok (.getfield 64, 3) := by decide +kernel
theorem dX2_aim_23 : decode cX2_aim 23 = .ok (.astore_n 2, 1) := by decide +kernel
theorem dX2_aim_24 : decode cX2_aim 24 = .ok (.aload_n 0, 1) := by decide +kernel
theorem dX2_aim_25 : decode cX2_aim 25 = .ok (.aload_n 2, 1) := by decide +kernel
theorem dX2_aim_26 : decode cX2_aim 26 = .ok (.getfield 70, 3) := by decide +kernel
theorem dX2_aim_29 : decode cX2_aim 29 = .ok (.iload_n 1, 1) := by decide +kernel
theorem dX2_aim_30 : decode cX2_aim 30 = .ok (.iaload, 1) := by decide +kernel
theorem dX2_aim_31 : decode cX2_aim 31 = .ok (.aload_n 2, 1) := by decide +kernel
theorem dX2_aim_32 : decode cX2_aim 32 = .ok (.iload_n 1, 1) := by decide +kernel
theorem dX2_aim_33 : decode cX2_aim 33 = .ok (.invokevirtual 75, 3) := by decide +kernel
theorem dX2_aim_36 : decode cX2_aim 36 = .ok (.isub, 1) := by decide +kernel
theorem dX2_aim_37 : decode cX2_aim 37 = .ok (.putfield 32, 3) := by decide +kernel
theorem dX2_aim_40 : decode cX2_aim 40 = .ok (.aload_n 0, 1) := by decide +kernel
theorem dX2_aim_41 : decode cX2_aim 41 = .ok (.getfield 32, 3) := by decide +kernel
theorem dX2_aim_44 : decode cX2_aim 44 = .ok (.iconst 3, 1) := by decide +kernel
theorem dX2_aim_45 : decode cX2_aim 45 = .ok (.if_icmp .le 5, 3) := by decide +kernel
theorem dX2_aim_48 : decode cX2_aim 48 = .ok (.iconst 0, 1) := by decide +kernel
theorem dX2_aim_49 : decode cX2_aim 49 = .ok (.ireturn, 1) := by decide +kernel
theorem dX2_aim_50 : decode cX2_aim 50 = .ok (.aload_n 0, 1) := by decide +kernel
theorem dX2_aim_51 : decode cX2_aim 51 = .ok (.iload_n 1, 1) := by decide +kernel
theorem dX2_aim_52 : decode cX2_aim 52 = .ok (.putfield 29, 3) := by decide +kernel
theorem dX2_aim_55 : decode cX2_aim 55 = .ok (.aload_n 0, 1) := by decide +kernel
theorem dX2_aim_56 : decode cX2_aim 56 = .ok (.aload_n 2, 1) := by decide +kernel
theorem dX2_aim_57 : decode cX2_aim 57 = .ok (.iload_n 1, 1) := by decide +kernel
theorem dX2_aim_58 : decode cX2_aim 58 = .ok (.iconst 0, 1) := by decide +kernel
theorem dX2_aim_59 : decode cX2_aim 59 = .ok (.invokevirtual 79, 3) := by decide +kernel
theorem dX2_aim_62 : decode cX2_aim 62 = .ok (.putfield 38, 3) := by decide +kernel
theorem dX2_aim_65 : decode cX2_aim 65 = .ok (.aload_n 0, 1) := by decide +kernel
theorem dX2_aim_66 : decode cX2_aim 66 = .ok (.aload_n 2, 1) := by decide +kernel
theorem dX2_aim_67 : decode cX2_aim 67 = .ok (.iload_n 1, 1) := by decide +kernel
theorem dX2_aim_68 : decode cX2_aim 68 = .ok (.iconst 1, 1) := by decide +kernel
theorem dX2_aim_69 : decode cX2_aim 69 = .ok (.invokevirtual 79, 3) := by decide +kernel
theorem dX2_aim_72 : decode cX2_aim 72 = .ok (.putfield 41, 3) := by decide +kernel
theorem dX2_aim_75 : decode cX2_aim 75 = .ok (.aload_n 0, 1) := by decide +kernel
theorem dX2_aim_76 : decode cX2_aim 76 = .ok (.iconst 1, 1) := by decide +kernel
theorem dX2_aim_77 : decode cX2_aim 77 = .ok (.putfield 35, 3) := by decide +kernel
theorem dX2_aim_80 : decode cX2_aim 80 = .ok (.iconst 0, 1) := by decide +kernel
theorem dX2_aim_81 : decode cX2_aim 81 = .ok (.istore_n 3, 1) := by decide +kernel
theorem dX2_aim_82 : decode cX2_aim 82 = .ok (.iload_n 3, 1) := by decide +kernel
theorem dX2_aim_83 : decode cX2_aim 83 = .ok (.aload_n 0, 1) := by decide +kernel
theorem dX2_aim_84 : decode cX2_aim 84 = .ok (.getfield 32, 3) := by decide +kernel
theorem dX2_aim_87 : decode cX2_aim 87 = .ok (.if_icmp .ge 20, 3) := by decide +kernel
theorem dX2_aim_90 : decode cX2_aim 90 = .ok (.aload_n 0, 1) := by decide +kernel
theorem dX2_aim_91 : decode cX2_aim 91 = .ok (.dup, 1) := by decide +kernel
theorem dX2_aim_92 : decode cX2_aim 92 = .ok (.getfield 35, 3) := by decide +kernel
theorem dX2_aim_95 : decode cX2_aim 95 = .ok (.bipush 12, 2) := by decide +kernel
theorem dX2_aim_97 : decode cX2_aim 97 = .ok (.imul, 1) := by decide +kernel
theorem dX2_aim_98 : decode cX2_aim 98 = .ok (.putfield 35, 3) := by decide +kernel
theorem dX2_aim_101 : decode cX2_aim 101 = .ok (.iinc 3 1, 3) := by decide +kernel
theorem dX2_aim_104 : decode cX2_aim 104 = .ok (.goto (-22), 3) := by decide +kernel
theorem dX2_aim_107 : decode cX2_aim 107 = .ok (.iconst 1, 1) := by decide +kernel
theorem dX2_aim_108 : decode cX2_aim 108 = .ok (.ireturn, 1) := by decide +kernel
theorem dX2_countRows_0 : decode cX2_countRows 0 = .ok (.iconst 0, 1) := by decide +kernel
theorem dX2_countRows_1 : decode cX2_countRows 1 = .ok (.istore_n 1, 1) := by decide +kernel
theorem dX2_countRows_2 : decode cX2_countRows 2 = .ok (.iconst 0, 1) := by decide +kernel
theorem dX2_countRows_3 : decode cX2_countRows 3 = .ok (.istore_n 2, 1) := by decide +kernel
theorem dX2_countRows_4 : decode cX2_countRows 4 = .ok (.iload_n 2, 1) := by decide +kernel
theorem dX2_countRows_5 : decode cX2_countRows 5 = .ok (.aload_n 0, 1) := by decide +kernel
theorem dX2_countRows_6 : decode cX2_countRows 6 = .ok (.getfield 35, 3) := by decide +kernel
theorem dX2_countRows_9 : decode cX2_countRows 9 = .ok (.if_icmp .ge 20, 3) := by decide +kernel
theorem dX2_countRows_12 : decode cX2_countRows 12 = .ok (.aload_n 0, 1) := by decide +kernel
theorem dX2_countRows_13 : decode cX2_countRows 13 = .ok (.iload_n 2, 1) := by decide +kernel
theorem dX2_countRows_14 : decode cX2_countRows 14 = .ok (.invokevirtual 83, 3) := by decide +kernel
theorem dX2_countRows_17 : decode cX2_countRows 17 = .ok (.ifCond .eq 6, 3) := by decide +kernel
theorem dX2_countRows_20 : decode cX2_countRows 20 = .ok (.iinc 1 1, 3) := by decide +kernel
theorem dX2_countRows_23 : decode cX2_countRows 23 = .ok (.iinc 2 1, 3) := by decide +kernel
theorem dX2_countRows_26 : decode cX2_countRows 26 = .ok (.goto (-22), 3) := by decide +kernel
theorem dX2_countRows_29 : decode cX2_countRows 29 = .ok (.iload_n 1, 1) := by decide +kernel
theorem dX2_countRows_30 : decode cX2_countRows 30 = .ok (.ireturn, 1) := by decide +kernel
theorem dX2_findRow_0 : decode cX2_findRow 0 = .ok (.iconst 0, 1) := by decide +kernel
theorem dX2_findRow_1 : decode cX2_findRow 1 = .ok (.istore_n 2, 1) := by decide +kernel
theorem dX2_findRow_2 : decode cX2_findRow 2 = .ok (.iconst 0, 1) := by decide +kernel
theorem dX2_findRow_3 : decode cX2_findRow 3 = .ok (.istore_n 3, 1) := by decide +kernel
theorem dX2_findRow_4 : decode cX2_findRow 4 = .ok (.iload_n 3, 1) := by decide +kernel
theorem dX2_findRow_5 : decode cX2_findRow 5 = .ok (.aload_n 0, 1) := by decide +kernel
theorem dX2_findRow_6 : decode cX2_findRow 6 = .ok (.getfield 35, 3) := by decide +kernel
theorem dX2_findRow_9 : decode cX2_findRow 9 = .ok (.if_icmp .ge 27, 3) := by decide +kernel
theorem dX2_findRow_12 : decode cX2_findRow 12 = .ok (.aload_n 0, 1) := by decide +kernel
theorem dX2_findRow_13 : decode cX2_findRow 13 = .ok (.iload_n 3, 1) := by decide +kernel
theorem dX2_findRow_14 : decode cX2_findRow 14 = .ok (.invokevirtual 83, 3) := by decide +kernel
theorem dX2_findRow_17 : decode cX2_findRow 17 = .ok (.ifCond .eq 13, 3) := by decide +kernel
theorem dX2_findRow_20 : decode cX2_findRow 20 = .ok (.iload_n 2, 1) := by decide +kernel
theorem dX2_findRow_21 : decode cX2_findRow 21 = .ok (.iload_n 1, 1) := by decide +kernel
theorem dX2_findRow_22 : decode cX2_findRow 22 = .ok (.if_icmp .ne 5, 3) := by decide +kernel
theorem dX2_findRow_25 : decode cX2_findRow 25 = .ok (.iload_n 3, 1) := by decide +kernel
theorem dX2_findRow_26 : decode cX2_findRow 26 = .ok (.ireturn, 1) := by decide +kernel
theorem dX2_findRow_27 : decode cX2_findRow 27 = .ok (.iinc 2 1, 3) := by decide +kernel
theorem dX2_findRow_30 : decode cX2_findRow 30 = .ok (.iinc 3 1, 3) := by decide +kernel
theorem dX2_findRow_33 : decode cX2_findRow 33 = .ok (.goto (-29), 3) := by decide +kernel
theorem dX2_findRow_36 : decode cX2_findRow 36 = .ok (.iconst (-1), 1) := by decide +kernel
theorem dX2_findRow_37 : decode cX2_findRow 37 = .ok (.ireturn, 1) := by decide +kernel
theorem dX2_evenThing_0 : decode cX2_evenThing 0 = .ok (.iconst 0, 1) := by decide +kernel
theorem dX2_evenThing_1 : decode cX2_evenThing 1 = .ok (.istore_n 1, 1) := by decide +kernel
theorem dX2_evenThing_2 : decode cX2_evenThing 2 = .ok (.iload_n 1, 1) := by decide +kernel
theorem dX2_evenThing_3 : decode cX2_evenThing 3 = .ok (.bipush 8, 2) := by decide +kernel
theorem dX2_evenThing_5 : decode cX2_evenThing 5 = .ok (.if_icmp .ge 16, 3) := by decide +kernel
theorem dX2_evenThing_8 : decode cX2_evenThing 8 = .ok (.aload_n 0, 1) := by decide +kernel
theorem dX2_evenThing_9 : decode cX2_evenThing 9 = .ok (.getfield 26, 3) := by decide +kernel
theorem dX2_evenThing_12 : decode cX2_evenThing 12 = .ok (.iload_n 1, 1) := by decide +kernel
theorem dX2_evenThing_13 : decode cX2_evenThing 13 = .ok (.iconst 0, 1) := by decide +kernel
theorem dX2_evenThing_14 : decode cX2_evenThing 14 = .ok (.iastore, 1) := by decide +kernel
theorem dX2_evenThing_15 : decode cX2_evenThing 15 = .ok (.iinc 1 1, 3) := by decide +kernel
theorem dX2_evenThing_18 : decode cX2_evenThing 18 = .ok (.goto (-16), 3) := by decide +kernel
theorem dX2_evenThing_21 : decode cX2_evenThing 21 = .ok (.iconst 0, 1) := by decide +kernel
theorem dX2_evenThing_22 : decode cX2_evenThing 22 = .ok (.istore_n 1, 1) := by decide +kernel
theorem dX2_evenThing_23 : decode cX2_evenThing 23 = .ok (.iconst 0, 1) := by decide +kernel
theorem dX2_evenThing_24 : decode cX2_evenThing 24 = .ok (.istore_n 2, 1) := by decide +kernel
theorem dX2_evenThing_25 : decode cX2_evenThing 25 = .ok (.iload_n 2, 1) := by decide +kernel
theorem dX2_evenThing_26 : decode cX2_evenThing 26 = .ok (.aload_n 0, 1) := by decide +kernel
theorem dX2_evenThing_27 : decode cX2_evenThing 27 = .ok (.getfield 35, 3) := by decide +kernel
theorem dX2_evenThing_30 : decode cX2_evenThing 30 = .ok (.if_icmp .ge 61, 3) := by decide +kernel
theorem dX2_evenThing_33 : decode cX2_evenThing 33 = .ok (.aload_n 0, 1) := by decide +kernel
theorem dX2_evenThing_34 : decode cX2_evenThing 34 = .ok (.iload_n 2, 1) := by decide +kernel
theorem dX2_evenThing_35 : decode cX2_evenThing 35 = .ok (.invokevirtual 83, 3) := by decide +kernel
theorem dX2_evenThing_38 : decode cX2_evenThing 38 = .ok (.ifCond .eq 47, 3) := by decide +kernel
theorem dX2_evenThing_41 : decode cX2_evenThing 41 = .ok (.iinc 1 1, 3) := by decide +kernel
theorem dX2_evenThing_44 : decode cX2_evenThing 44 = .ok (.iconst 0, 1) := by decide +kernel
theorem dX2_evenThing_45 : decode cX2_evenThing 45 = .ok (.istore_n 3, 1) := by decide +kernel
theorem dX2_evenThing_46 : decode cX2_evenThing 46 = .ok (.iload_n 3, 1) := by decide +kernel
theorem dX2_evenThing_47 : decode cX2_evenThing 47 = .ok (.aload_n 0, 1) := by decide +kernel
theorem dX2_evenThing_48 : decode cX2_evenThing 48 = .ok (.getfield 50, 3) := by decide +kernel
theorem dX2_evenThing_51 : decode cX2_evenThing 51 = .ok (.getfield 86, 3) := by decide +kernel
theorem dX2_evenThing_54 : decode cX2_evenThing 54 = .ok (.if_icmp .ge 31, 3) := by decide +kernel
theorem dX2_evenThing_57 : decode cX2_evenThing 57 = .ok (.aload_n 0, 1) := by decide +kernel
theorem dX2_evenThing_58 : decode cX2_evenThing 58 = .ok (.getfield 26, 3) := by decide +kernel
theorem dX2_evenThing_61 : decode cX2_evenThing 61 = .ok (.iload_n 3, 1) := by decide +kernel
theorem dX2_evenThing_62 : decode cX2_evenThing 62 = .ok (.dup2, 1) := by decide +kernel
theorem dX2_evenThing_63 : decode cX2_evenThing 63 = .ok (.iaload, 1) := by decide +kernel
theorem dX2_evenThing_64 : decode cX2_evenThing 64 = .ok (.aload_n 0, 1) := by decide +kernel
theorem dX2_evenThing_65 : decode cX2_evenThing 65 = .ok (.iload_n 3, 1) := by decide +kernel
theorem dX2_evenThing_66 : decode cX2_evenThing 66 = .ok (.invokevirtual 88, 3) := by decide +kernel
theorem dX2_evenThing_69 : decode cX2_evenThing 69 = .ok (.ifCond .eq 7, 3) := by decide +kernel
theorem dX2_evenThing_72 : decode cX2_evenThing 72 = .ok (.iconst 1, 1) := by decide +kernel
theorem dX2_evenThing_73 : decode cX2_evenThing 73 = .ok (.goto 4, 3) := by decide +kernel
theorem dX2_evenThing_76 : decode cX2_evenThing 76 = .ok (.iconst 0, 1) := by decide +kernel
theorem dX2_evenThing_77 : decode cX2_evenThing 77 = .ok (.iadd, 1) := by decide +kernel
theorem dX2_evenThing_78 : decode cX2_evenThing 78 = .ok (.iastore, 1) := by decide +kernel
theorem dX2_evenThing_79 : decode cX2_evenThing 79 = .ok (.iinc 3 1, 3) := by decide +kernel
theorem dX2_evenThing_82 : decode cX2_evenThing 82 = .ok (.goto (-36), 3) := by decide +kernel
theorem dX2_evenThing_85 : decode cX2_evenThing 85 = .ok (.iinc 2 1, 3) := by decide +kernel
theorem dX2_evenThing_88 : decode cX2_evenThing 88 = .ok (.goto (-63), 3) := by decide +kernel
theorem dX2_evenThing_91 : decode cX2_evenThing 91 = .ok (.iconst (-1), 1) := by decide +kernel
theorem dX2_evenThing_92 : decode cX2_evenThing 92 = .ok (.istore_n 2, 1) := by decide +kernel
theorem dX2_evenThing_93 : decode cX2_evenThing 93 = .ok (.iconst 0, 1) := by decide +kernel
theorem dX2_evenThing_94 : decode cX2_evenThing 94 = .ok (.istore_n 3, 1) := by decide +kernel
theorem dX2_evenThing_95 : decode cX2_evenThing 95 = .ok (.iconst 0, 1) := by decide +kernel
theorem dX2_evenThing_96 : decode cX2_evenThing 96 = .ok (.istore 4, 2) := by decide +kernel
theorem dX2_evenThing_98 : decode cX2_evenThing 98 = .ok (.iload 4, 2) := by decide +kernel
theorem dX2_evenThing_100 : decode cX2_evenThing 100 = .ok (.aload_n 0, 1) := by decide +kernel
theorem dX2_evenThing_101 : decode cX2_evenThing 101 = .ok (.getfield 50, 3) := by decide +kernel
theorem dX2_evenThing_104 : decode cX2_evenThing 104 = .ok (.getfield 86, 3) := by decide +kernel
theorem dX2_evenThing_107 : decode cX2_evenThing 107 = .ok (.if_icmp .ge 46, 3) := by decide +kernel
theorem dX2_evenThing_110 : decode cX2_evenThing 110 = .ok (.iload_n 1, 1) := by decide +kernel
theorem dX2_evenThing_111 : decode cX2_evenThing 111 = .ok (.ifCond .le 42, 3) := by decide +kernel
theorem dX2_evenThing_114 : decode cX2_evenThing 114 = .ok (.iconst 2, 1) := by decide +kernel
theorem dX2_evenThing_115 : decode cX2_evenThing 115 = .ok (.aload_n 0, 1) := by decide +kernel
theorem dX2_evenThing_116 : decode cX2_evenThing 116 = .ok (.getfield 26, 3) := by decide +kernel
theorem dX2_evenThing_119 : decode cX2_evenThing 119 = .ok (.iload 4, 2) := by decide +kernel
theorem dX2_evenThing_121 : decode cX2_evenThing 121 = .ok (.iaload, 1) := by decide +kernel
theorem dX2_evenThing_122 : decode cX2_evenThing 122 = .ok (.imul, 1) := by decide +kernel
theorem dX2_evenThing_123 : decode cX2_evenThing 123 = .ok (.iload_n 1, 1) := by decide +kernel
theorem dX2_evenThing_124 : decode cX2_evenThing 124 = .ok (.isub, 1) := by decide +kernel
theorem dX2_evenThing_125 : decode cX2_evenThing 125 = .ok (.invokestatic 91, 3) := by decide +kernel
theorem dX2_evenThing_128 : decode cX2_evenThing 128 = .ok (.istore 5, 2) := by decide +kernel
theorem dX2_evenThing_130 : decode cX2_evenThing 130 = .ok (.iload_n 2, 1) := by decide +kernel
theorem dX2_evenThing_131 : decode cX2_evenThing 131 = .ok (.iconst (-1), 1) := by decide +kernel
theorem dX2_evenThing_132 : decode cX2_evenThing 132 = .ok (.if_icmp .eq 9, 3) := by decide +kernel
theorem dX2_evenThing_135 : decode cX2_evenThing 135 = .ok (.iload 5, 2) := by decide +kernel
theorem dX2_evenThing_137 : decode cX2_evenThing 137 = .ok (.iload_n 3, 1) := by decide +kernel
theorem dX2_evenThing_138 : decode cX2_evenThing 138 = .ok (.if_icmp .ge 9, 3) := by decide +kernel
theorem dX2_evenThing_141 : decode cX2_evenThing 141 = .ok (.iload 4, 2) := by decide +kernel
theorem dX2_evenThing_143 : decode cX2_evenThing 143 = .ok (.istore_n 2, 1) := by decide +kernel
theorem dX2_evenThing_144 : decode cX2_evenThing 144 = .ok (.iload 5, 2) := by decide +kernel
theorem dX2_evenThing_146 : decode cX2_evenThing 146 = .ok (.istore_n 3, 1) := by decide +kernel
theorem dX2_evenThing_147 : decode cX2_evenThing 147 = .ok (.iinc 4 1, 3) := by decide +kernel
theorem dX2_evenThing_150 : decode cX2_evenThing 150 = .ok (.goto (-52), 3) := by decide +kernel
theorem dX2_evenThing_153 : decode cX2_evenThing 153 = .ok (.iload_n 2, 1) := by decide +kernel
theorem dX2_evenThing_154 : decode cX2_evenThing 154 = .ok (.ireturn, 1) := by decide +kernel
theorem dX2_kindestRow_0 : decode cX2_kindestRow 0 = .ok (.iconst (-1), 1) := by decide +kernel
theorem dX2_kindestRow_1 : decode cX2_kindestRow 1 = .ok (.istore_n 1, 1) := by decide +kernel
theorem dX2_kindestRow_2 : decode cX2_kindestRow 2 = .ok (.iconst 0, 1) := by decide +kernel
theorem dX2_kindestRow_3 : decode cX2_kindestRow 3 = .ok (.istore_n 2, 1) := by decide +kernel
theorem dX2_kindestRow_4 : decode cX2_kindestRow 4 = .ok (.iconst 0, 1) := by decide +kernel
theorem dX2_kindestRow_5 : decode cX2_kindestRow 5 = .ok (.istore_n 3, 1) := by decide +kernel
theorem dX2_kindestRow_6 : decode cX2_kindestRow 6 = .ok (.iload_n 3, 1) := by decide +kernel
theorem dX2_kindestRow_7 : decode cX2_kindestRow 7 = .ok (.aload_n 0, 1) := by decide +kernel
theorem dX2_kindestRow_8 : decode cX2_kindestRow 8 = .ok (.getfield 35, 3) := by decide +kernel
theorem dX2_kindestRow_11 : decode cX2_kindestRow 11 = .ok (.if_icmp .ge 40, 3) := by decide +kernel
theorem dX2_kindestRow_14 : decode cX2_kindestRow 14 = .ok (.aload_n 0, 1) := by decide +kernel
theorem dX2_kindestRow_15 : decode cX2_kindestRow 15 = .ok (.iload_n 3, 1) := by decide +kernel
theorem dX2_kindestRow_16 : decode cX2_kindestRow 16 = .ok (.invokevirtual 83, 3) := by decide +kernel
theorem dX2_kindestRow_19 : decode cX2_kindestRow 19 = .ok (.ifCond .eq 26, 3) := by decide +kernel
theorem dX2_kindestRow_22 : decode cX2_kindestRow 22 = .ok (.aload_n 0, 1) := by decide +kernel
theorem dX2_kindestRow_23 : decode cX2_kindestRow 23 = .ok (.iload_n 3, 1) := by decide +kernel
theorem dX2_kindestRow_24 : decode cX2_kindestRow 24 = .ok (.invokevirtual 96, 3) := by decide +kernel
theorem dX2_kindestRow_27 : decode cX2_kindestRow 27 = .ok (.istore 4, 2) := by decide +kernel
theorem dX2_kindestRow_29 : decode cX2_kindestRow 29 = .ok (.iload_n 1, 1) := by decide +kernel
theorem dX2_kindestRow_30 : decode cX2_kindestRow 30 = .ok (.iconst (-1), 1) := by decide +kernel
theorem dX2_kindestRow_31 : decode cX2_kindestRow 31 = .ok (.if_icmp .eq 9, 3) := by decide +kernel
theorem dX2_kindestRow_34 : decode cX2_kindestRow 34 = .ok (.iload 4, 2) := by decide +kernel
theorem dX2_kindestRow_36 : decode cX2_kindestRow 36 = .ok (.iload_n 2, 1) := by decide +kernel
theorem dX2_kindestRow_37 : decode cX2_kindestRow 37 = .ok (.if_icmp .le 8, 3) := by decide +kernel
theorem dX2_kindestRow_40 : decode cX2_kindestRow 40 = .ok (.iload_n 3, 1) := by decide +kernel
theorem dX2_kindestRow_41 : decode cX2_kindestRow 41 = .ok (.istore_n 1, 1) := by decide +kernel
theorem dX2_kindestRow_42 : decode cX2_kindestRow 42 = .ok (.iload 4, 2) := by decide +kernel
theorem dX2_kindestRow_44 : decode cX2_kindestRow 44 = .ok (.istore_n 2, 1) := by decide +kernel
theorem dX2_kindestRow_45 : decode cX2_kindestRow 45 = .ok (.iinc 3 1, 3) := by decide +kernel
theorem dX2_kindestRow_48 : decode cX2_kindestRow 48 = .ok (.goto (-42), 3) := by decide +kernel
theorem dX2_kindestRow_51 : decode cX2_kindestRow 51 = .ok (.iload_n 1, 1) := by decide +kernel
theorem dX2_kindestRow_52 : decode cX2_kindestRow 52 = .ok (.ireturn, 1) := by decide +kernel
theorem dX2_thingsFitting_0 : decode cX2_thingsFitting 0 = .ok (.aload_n 0, 1) := by decide +kernel
theorem dX2_thingsFitting_1 : decode cX2_thingsFitting 1 = .ok (.iload_n 1, 1) := by decide +kernel
theorem dX2_thingsFitting_2 : decode cX2_thingsFitting 2 = .ok (.invokevirtual 99, 3) := by decide +kernel
theorem dX2_thingsFitting_5 : decode cX2_thingsFitting 5 = .ok (.iconst 0, 1) := by decide +kernel
theorem dX2_thingsFitting_6 : decode cX2_thingsFitting 6 = .ok (.istore_n 2, 1) := by decide +kernel
theorem dX2_thingsFitting_7 : decode cX2_thingsFitting 7 = .ok (.iconst 0, 1) := by decide +kernel
theorem dX2_thingsFitting_8 : decode cX2_thingsFitting 8 = .ok (.istore_n 3, 1) := by decide +kernel
theorem dX2_thingsFitting_9 : decode cX2_thingsFitting 9 = .ok (.iload_n 3, 1) := by decide +kernel
theorem dX2_thingsFitting_10 : decode cX2_thingsFitting 10 = .ok (.aload_n 0, 1) := by decide +kernel
theorem dX2_thingsFitting_11 : decode cX2_thingsFitting 11 = .ok (.getfield 50, 3) := by decide +kernel
theorem dX2_thingsFitting_14 : decode cX2_thingsFitting 14 = .ok (.getfield 86, 3) := by decide +kernel
theorem dX2_thingsFitting_17 : decode cX2_thingsFitting 17 = .ok (.if_icmp .ge 25, 3) := by decide +kernel
theorem dX2_thingsFitting_20 : decode cX2_thingsFitting 20 = .ok (.iload_n 2, 1) := by decide +kernel
theorem dX2_thingsFitting_21 : decode cX2_thingsFitting 21 = .ok (.aload_n 0, 1) := by decide +kernel
theorem dX2_thingsFitting_22 : decode cX2_thingsFitting 22 = .ok (.iload_n 3, 1) := by decide +kernel
theorem dX2_thingsFitting_23 : decode cX2_thingsFitting 23 = .ok (.invokevirtual 88, 3) := by decide +kernel
theorem dX2_thingsFitting_26 : decode cX2_thingsFitting 26 = .ok (.ifCond .eq 7, 3) := by decide +kernel
theorem dX2_thingsFitting_29 : decode cX2_thingsFitting 29 = .ok (.iconst 1, 1) := by decide +kernel
theorem dX2_thingsFitting_30 : decode cX2_thingsFitting 30 = .ok (.goto 4, 3) := by decide +kernel
theorem dX2_thingsFitting_33 : decode cX2_thingsFitting 33 = .ok (.iconst 0, 1) := by decide +kernel
theorem dX2_thingsFitting_34 : decode cX2_thingsFitting 34 = .ok (.iadd, 1) := by decide +kernel
theorem dX2_thingsFitting_35 : decode cX2_thingsFitting 35 = .ok (.istore_n 2, 1) := by decide +kernel
theorem dX2_thingsFitting_36 : decode cX2_thingsFitting 36 = .ok (.iinc 3 1, 3) := by decide +kernel
theorem dX2_thingsFitting_39 : decode cX2_thingsFitting 39 = .ok (.goto (-30), 3) := by decide +kernel
theorem dX2_thingsFitting_42 : decode cX2_thingsFitting 42 = .ok (.iload_n 2, 1) := by decide +kernel
theorem dX2_thingsFitting_43 : decode cX2_thingsFitting 43 = .ok (.ireturn, 1) := by decide +kernel
theorem dX2_layOut_0 : decode cX2_layOut 0 = .ok (.aload_n 0, 1) := by decide +kernel
theorem dX2_layOut_1 : decode cX2_layOut 1 = .ok (.aload_n 0, 1) := by decide +kernel
theorem dX2_layOut_2 : decode cX2_layOut 2 = .ok (.getfield 38, 3) := by decide +kernel
theorem dX2_layOut_5 : decode cX2_layOut 5 = .ok (.putfield 44, 3) := by decide +kernel
theorem dX2_layOut_8 : decode cX2_layOut 8 = .ok (.aload_n 0, 1) := by decide +kernel
theorem dX2_layOut_9 : decode cX2_layOut 9 = .ok (.aload_n 0, 1) := by decide +kernel
theorem dX2_layOut_10 : decode cX2_layOut 10 = .ok (.getfield 41, 3) := by decide +kernel
theorem dX2_layOut_13 : decode cX2_layOut 13 = .ok (.putfield 47, 3) := by decide +kernel
theorem dX2_layOut_16 : decode cX2_layOut 16 = .ok (.iload_n 1, 1) := by decide +kernel
theorem dX2_layOut_17 : decode cX2_layOut 17 = .ok (.istore_n 2, 1) := by decide +kernel
theorem dX2_layOut_18 : decode cX2_layOut 18 = .ok (.iconst 0, 1) := by decide +kernel
theorem dX2_layOut_19 : decode cX2_layOut 19 = .ok (.istore_n 3, 1) := by decide +kernel
theorem dX2_layOut_20 : decode cX2_layOut 20 = .ok (.iload_n 3, 1) := by decide +kernel
theorem dX2_layOut_21 : decode cX2_layOut 21 = .ok (.aload_n 0, 1) := by decide +kernel
theorem dX2_layOut_22 : decode cX2_layOut 22 = .ok (.getfield 32, 3) := by decide +kernel
theorem dX2_layOut_25 : decode cX2_layOut 25 = .ok (.if_icmp .ge 59, 3) := by decide +kernel
theorem dX2_layOut_28 : decode cX2_layOut 28 = .ok (.iload_n 2, 1) := by decide +kernel
theorem dX2_layOut_29 : decode cX2_layOut 29 = .ok (.bipush 12, 2) := by decide +kernel
theorem dX2_layOut_31 : decode cX2_layOut 31 = .ok (.irem, 1) := by decide +kernel
theorem dX2_layOut_32 : decode cX2_layOut 32 = .ok (.istore 4, 2) := by decide +kernel
theorem dX2_layOut_34 : decode cX2_layOut 34 = .ok (.iload_n 2, 1) := by decide +kernel
theorem dX2_layOut_35 : decode cX2_layOut 35 = .ok (.bipush 12, 2) := by decide +kernel
theorem dX2_layOut_37 : decode cX2_layOut 37 = .ok (.idiv, 1) := by decide +kernel
theorem dX2_layOut_38 : decode cX2_layOut 38 = .ok (.istore_n 2, 1) := by decide +kernel
theorem dX2_layOut_39 : decode cX2_layOut 39 = .ok (.iload 4, 2) := by decide +kernel
theorem dX2_layOut_41 : decode cX2_layOut 41 = .ok (.bipush 6, 2) := by decide +kernel
theorem dX2_layOut_43 : decode cX2_layOut 43 = .ok (.if_icmp .ge 19, 3) := by decide +kernel
theorem dX2_layOut_46 : decode cX2_layOut 46 = .ok (.aload_n 0, 1) := by decide +kernel
theorem dX2_layOut_47 : decode cX2_layOut 47 = .ok (.dup, 1) := by decide +kernel
theorem dX2_layOut_48 : decode cX2_layOut 48 = .ok (.getfield 44, 3) := by decide +kernel
theorem dX2_layOut_51 : decode cX2_layOut 51 = .ok (.iconst 1, 1) := by decide +kernel
theorem dX2_layOut_52 : decode cX2_layOut 52 = .ok (.iload 4, 2) := by decide +kernel
theorem dX2_layOut_54 : decode cX2_layOut 54 = .ok (.ishl, 1) := by decide +kernel
theorem dX2_layOut_55 : decode cX2_layOut 55 = .ok (.ior, 1) := by decide +kernel
theorem dX2_layOut_56 : decode cX2_layOut 56 = .ok (.putfield 44, 3) := by decide +kernel
theorem dX2_layOut_59 : decode cX2_layOut 59 = .ok (.goto 19, 3) := by decide +kernel
theorem dX2_layOut_62 : decode cX2_layOut 62 = .ok (.aload_n 0, 1) := by decide +kernel
theorem dX2_layOut_63 : decode cX2_layOut 63 = .ok (.dup, 1) := by decide +kernel
theorem dX2_layOut_64 : decode cX2_layOut 64 = .ok (.getfield 47, 3) := by decide +kernel
theorem dX2_layOut_67 : decode cX2_layOut 67 = .ok (.iconst 1, 1) := by decide +kernel
theorem dX2_layOut_68 : decode cX2_layOut 68 = .ok (.iload 4, 2) := by decide +kernel
theorem dX2_layOut_70 : decode cX2_layOut 70 = .ok (.bipush 6, 2) := by decide +kernel
theorem dX2_layOut_72 : decode cX2_layOut 72 = .ok (.isub, 1) := by decide +kernel
theorem dX2_layOut_73 : decode cX2_layOut 73 = .ok (.ishl, 1) := by decide +kernel
theorem dX2_layOut_74 : decode cX2_layOut 74 = .ok (.ior, 1) := by decide +kernel
theorem dX2_layOut_75 : decode cX2_layOut 75 = .ok (.putfield 47, 3) := by decide +kernel
theorem dX2_layOut_78 : decode cX2_layOut 78 = .ok (.iinc 3 1, 3) := by decide +kernel
theorem dX2_layOut_81 : decode cX2_layOut 81 = .ok (.goto (-61), 3) := by decide +kernel
theorem dX2_layOut_84 : decode cX2_layOut 84 = .ok (.return_, 1) := by decide +kernel
theorem dX2_isRow_0 : decode cX2_isRow 0 = .ok (.aload_n 0, 1) := by decide +kernel
theorem dX2_isRow_1 : decode cX2_isRow 1 = .ok (.iload_n 1, 1) := by decide +kernel
theorem dX2_isRow_2 : decode cX2_isRow 2 = .ok (.invokevirtual 99, 3) := by decide +kernel
theorem dX2_isRow_5 : decode cX2_isRow 5 = .ok (.iconst 0, 1) := by decide +kernel
theorem dX2_isRow_6 : decode cX2_isRow 6 = .ok (.istore_n 2, 1) := by decide +kernel
theorem dX2_isRow_7 : decode cX2_isRow 7 = .ok (.iload_n 2, 1) := by decide +kernel
theorem dX2_isRow_8 : decode cX2_isRow 8 = .ok (.aload_n 0, 1) := by decide +kernel
theorem dX2_isRow_9 : decode cX2_isRow 9 = .ok (.getfield 9, 3) := by decide +kernel
theorem dX2_isRow_12 : decode cX2_isRow 12 = .ok (.if_icmp .ge 43, 3) := by decide +kernel
theorem dX2_isRow_15 : decode cX2_isRow 15 = .ok (.aload_n 0, 1) := by decide +kernel
theorem dX2_isRow_16 : decode cX2_isRow 16 = .ok (.getfield 19, 3) := by decide +kernel
theorem dX2_isRow_19 : decode cX2_isRow 19 = .ok (.iload_n 2, 1) := by decide +kernel
theorem dX2_isRow_20 : decode cX2_isRow 20 = .ok (.iaload, 1) := by decide +kernel
theorem dX2_isRow_21 : decode cX2_isRow 21 = .ok (.aload_n 0, 1) := by decide +kernel
theorem dX2_isRow_22 : decode cX2_isRow 22 = .ok (.getfield 29, 3) := by decide +kernel
theorem dX2_isRow_25 : decode cX2_isRow 25 = .ok (.if_icmp .ne 24, 3) := by decide +kernel
theorem dX2_isRow_28 : decode cX2_isRow 28 = .ok (.aload_n 0, 1) := by decide +kernel
theorem dX2_isRow_29 : decode cX2_isRow 29 = .ok (.aload_n 0, 1) := by decide +kernel
theorem dX2_isRow_30 : decode cX2_isRow 30 = .ok (.getfield 15, 3) := by decide +kernel
theorem dX2_isRow_33 : decode cX2_isRow 33 = .ok (.iload_n 2, 1) := by decide +kernel
theorem dX2_isRow_34 : decode cX2_isRow 34 = .ok (.iaload, 1) := by decide +kernel
theorem dX2_isRow_35 : decode cX2_isRow 35 = .ok (.invokevirtual 88, 3) := by decide +kernel
theorem dX2_isRow_38 : decode cX2_isRow 38 = .ok (.aload_n 0, 1) := by decide +kernel
theorem dX2_isRow_39 : decode cX2_isRow 39 = .ok (.getfield 22, 3) := by decide +kernel
theorem dX2_isRow_42 : decode cX2_isRow 42 = .ok (.iload_n 2, 1) := by decide +kernel
theorem dX2_isRow_43 : decode cX2_isRow 43 = .ok (.baload, 1) := by decide +kernel
theorem dX2_isRow_44 : decode cX2_isRow 44 = .ok (.if_icmp .eq 5, 3) := by decide +kernel
theorem dX2_isRow_47 : decode cX2_isRow 47 = .ok (.iconst 0, 1) := by decide +kernel
theorem dX2_isRow_48 : decode cX2_isRow 48 = .ok (.ireturn, 1) := by decide +kernel
theorem dX2_isRow_49 : decode cX2_isRow 49 = .ok (.iinc 2 1, 3) := by decide +kernel
theorem dX2_isRow_52 : decode cX2_isRow 52 = .ok (.goto (-45), 3) := by decide +kernel
theorem dX2_isRow_55 : decode cX2_isRow 55 = .ok (.iconst 1, 1) := by decide +kernel
theorem dX2_isRow_56 : decode cX2_isRow 56 = .ok (.ireturn, 1) := by decide +kernel
theorem dX2_wouldFit_0 : decode cX2_wouldFit 0 = .ok (.aload_n 0, 1) := by decide +kernel
theorem dX2_wouldFit_1 : decode cX2_wouldFit 1 = .ok (.getfield 50, 3) := by decide +kernel
theorem dX2_wouldFit_4 : decode cX2_wouldFit 4 = .ok (.iload_n 1, 1) := by decide +kernel
theorem dX2_wouldFit_5 : decode cX2_wouldFit 5 = .ok (.invokevirtual 103, 3) := by decide +kernel
theorem dX2_wouldFit_8 : decode cX2_wouldFit 8 = .ok (.ifCond .ne 5, 3) := by decide +kernel
theorem dX2_wouldFit_11 : decode cX2_wouldFit 11 = .ok (.iconst 0, 1) := by decide +kernel
theorem dX2_wouldFit_12 : decode cX2_wouldFit 12 = .ok (.ireturn, 1) := by decide +kernel
theorem dX2_wouldFit_13 : decode cX2_wouldFit 13 = .ok (.aload_n 0, 1) := by decide +kernel
theorem dX2_wouldFit_14 : decode cX2_wouldFit 14 = .ok (.getfield 50, 3) := by decide +kernel
theorem dX2_wouldFit_17 : decode cX2_wouldFit 17 = .ok (.getfield 106, 3) := by decide +kernel
theorem dX2_wouldFit_20 : decode cX2_wouldFit 20 = .ok (.iload_n 1, 1) := by decide +kernel
theorem dX2_wouldFit_21 : decode cX2_wouldFit 21 = .ok (.iaload, 1) := by decide +kernel
theorem dX2_wouldFit_22 : decode cX2_wouldFit 22 = .ok (.istore_n 2, 1) := by decide +kernel
theorem dX2_wouldFit_23 : decode cX2_wouldFit 23 = .ok (.iload_n 2, 1) := by decide +kernel
theorem dX2_wouldFit_24 : decode cX2_wouldFit 24 = .ok (.aload_n 0, 1) := by decide +kernel
theorem dX2_wouldFit_25 : decode cX2_wouldFit 25 = .ok (.getfield 44, 3) := by decide +kernel
theorem dX2_wouldFit_28 : decode cX2_wouldFit 28 = .ok (.iand, 1) := by decide +kernel
theorem dX2_wouldFit_29 : decode cX2_wouldFit 29 = .ok (.aload_n 0, 1) := by decide +kernel
theorem dX2_wouldFit_30 : decode cX2_wouldFit 30 = .ok (.getfield 44, 3) := by decide +kernel
theorem dX2_wouldFit_33 : decode cX2_wouldFit 33 = .ok (.if_icmp .ne 16, 3) := by decide +kernel
theorem dX2_wouldFit_36 : decode cX2_wouldFit 36 = .ok (.iload_n 2, 1) := by decide +kernel
theorem dX2_wouldFit_37 : decode cX2_wouldFit 37 = .ok (.aload_n 0, 1) := by decide +kernel
theorem dX2_wouldFit_38 : decode cX2_wouldFit 38 = .ok (.getfield 47, 3) := by decide +kernel
theorem dX2_wouldFit_41 : decode cX2_wouldFit 41 = .ok (.iand, 1) := by decide +kernel
theorem dX2_wouldFit_42 : decode cX2_wouldFit 42 = .ok (.ifCond .ne 7, 3) := by decide +kernel
theorem dX2_wouldFit_45 : decode cX2_wouldFit 45 = .ok (.iconst 1, 1) := by decide +kernel
theorem dX2_wouldFit_46 : decode cX2_wouldFit 46 = .ok (.goto 4, 3) := by decide +kernel
theorem dX2_wouldFit_49 : decode cX2_wouldFit 49 = .ok (.iconst 0, 1) := by decide +kernel
theorem dX2_wouldFit_50 : decode cX2_wouldFit 50 = .ok (.ireturn, 1) := by decide +kernel
theorem dX3_init_0 : decode cX3_init 0 = .ok (.aload_n 0, 1) := by decide +kernel
theorem dX3_init_1 : decode cX3_init 1 = .ok (.invokespecial 3, 3) := by decide +kernel
theorem dX3_init_4 : decode cX3_init 4 = .ok (.aload_n 0, 1) := by decide +kernel
theorem dX3_init_5 : decode cX3_init 5 = .ok (.iconst 0, 1) := by decide +kernel
theorem dX3_init_6 : decode cX3_init 6 = .ok (.putfield 9, 3) := by decide +kernel
theorem dX3_init_9 : decode cX3_init 9 = .ok (.aload_n 0, 1) := by decide +kernel
theorem dX3_init_10 : decode cX3_init 10 = .ok (.iconst 0, 1) := by decide +kernel
theorem dX3_init_11 : decode cX3_init 11 = .ok (.putfield 15, 3) := by decide +kernel
theorem dX3_init_14 : decode cX3_init 14 = .ok (.aload_n 0, 1) := by decide +kernel
theorem dX3_init_15 : decode cX3_init 15 = .ok (.bipush 40, 2) := by decide +kernel
theorem dX3_init_17 : decode cX3_init 17 = .ok (.anewarray 18, 3) := by decide +kernel
theorem dX3_init_20 : decode cX3_init 20 = .ok (.putfield 20, 3) := by decide +kernel
theorem dX3_init_23 : decode cX3_init 23 = .ok (.iconst 0, 1) := by decide +kernel
theorem dX3_init_24 : decode cX3_init 24 = .ok (.istore_n 1, 1) := by decide +kernel
theorem dX3_init_25 : decode cX3_init 25 = .ok (.iload_n 1, 1) := by decide +kernel
theorem dX3_init_26 : decode cX3_init 26 = .ok (.bipush 40, 2) := by decide +kernel
theorem dX3_init_28 : decode cX3_init 28 = .ok (.if_icmp .ge 22, 3) := by decide +kernel
theorem dX3_init_31 : decode cX3_init 31 = .ok (.aload_n 0, 1) := by decide +kernel
theorem dX3_init_32 : decode cX3_init 32 = .ok (.getfield 20, 3) := by decide +kernel
theorem dX3_init_35 : decode cX3_init 35 = .ok (.iload_n 1, 1) := by decide +kernel
theorem dX3_init_36 : decode cX3_init 36 = .ok (.new 18, 3) := by decide +kernel
theorem dX3_init_39 : decode cX3_init 39 = .ok (.dup, 1) := by decide +kernel
theorem dX3_init_40 : decode cX3_init 40 = .ok (.invokespecial 24, 3) := by decide +kernel
theorem dX3_init_43 : decode cX3_init 43 = .ok (.aastore, 1) := by decide +kernel
theorem dX3_init_44 : decode cX3_init 44 = .ok (.iinc 1 1, 3) := by decide +kernel
theorem dX3_init_47 : decode cX3_init 47 = .ok (.goto (-22), 3) := by decide +kernel
theorem dX3_init_50 : decode cX3_init 50 = .ok (.return_, 1) := by decide +kernel
theorem dX3_forget_0 : decode cX3_forget 0 = .ok (.aload_n 0, 1) := by decide +kernel
theorem dX3_forget_1 : decode cX3_forget 1 = .ok (.iconst 0, 1) := by decide +kernel
theorem dX3_forget_2 : decode cX3_forget 2 = .ok (.putfield 9, 3) := by decide +kernel
theorem dX3_forget_5 : decode cX3_forget 5 = .ok (.return_, 1) := by decide +kernel
theorem dX3_keep_0 : decode cX3_keep 0 = .ok (.aload_n 0, 1) := by decide +kernel
theorem dX3_keep_1 : decode cX3_keep 1 = .ok (.getfield 20, 3) := by decide +kernel
theorem dX3_keep_4 : decode cX3_keep 4 = .ok (.aload_n 0, 1) := by decide +kernel
theorem dX3_keep_5 : decode cX3_keep 5 = .ok (.getfield 15, 3) := by decide +kernel
theorem dX3_keep_8 : decode cX3_keep 8 = .ok (.aaload, 1) := by decide +kernel
theorem dX3_keep_9 : decode cX3_keep 9 = .ok (.aload_n 1, 1) := by decide +kernel
theorem dX3_keep_10 : decode cX3_keep 10 = .ok (.invokevirtual 25, 3) := by decide +kernel
theorem dX3_keep_13 : decode cX3_keep 13 = .ok (.aload_n 0, 1) := by decide +kernel
theorem dX3_keep_14 : decode cX3_keep 14 = .ok (.aload_n 0, 1) := by decide +kernel
theorem dX3_keep_15 : decode cX3_keep 15 = .ok (.getfield 15, 3) := by decide +kernel
theorem dX3_keep_18 : decode cX3_keep 18 = .ok (.iconst 1, 1) := by decide +kernel
theorem dX3_keep_19 : decode cX3_keep 19 = .ok (.iadd, 1) := by decide +kernel
theorem dX3_keep_20 : decode cX3_keep 20 = .ok (.bipush 40, 2) := by decide +kernel
theorem dX3_keep_22 : decode cX3_keep 22 = .ok (.irem, 1) := by decide +kernel
theorem dX3_keep_23 : decode cX3_keep 23 = .ok (.putfield 15, 3) := by decide +kernel
theorem dX3_keep_26 : decode cX3_keep 26 = .ok (.aload_n 0, 1) := by decide +kernel
theorem dX3_keep_27 : decode cX3_keep 27 = .ok (.bipush 40, 2) := by decide +kernel
theorem dX3_keep_29 : decode cX3_keep 29 = .ok (.aload_n 0, 1) := by decide +kernel
theorem dX3_keep_30 : decode cX3_keep 30 = .ok (.getfield 9, 3) := by decide +kernel
theorem dX3_keep_33 : decode cX3_keep 33 = .ok (.iconst 1, 1) := by decide +kernel
theorem dX3_keep_34 : decode cX3_keep 34 = .ok (.iadd, 1) := by decide +kernel
theorem dX3_keep_35 : decode cX3_keep 35 = .ok (.invokestatic 29, 3) := by decide +kernel
theorem dX3_keep_38 : decode cX3_keep 38 = .ok (.putfield 9, 3) := by decide +kernel
theorem dX3_keep_41 : decode cX3_keep 41 = .ok (.return_, 1) := by decide +kernel
theorem dX3_undoInto_0 : decode cX3_undoInto 0 = .ok (.aload_n 0, 1) := by decide +kernel
theorem dX3_undoInto_1 : decode cX3_undoInto 1 = .ok (.getfield 9, 3) := by decide +kernel
theorem dX3_undoInto_4 : decode cX3_undoInto 4 = .ok (.ifCond .ne 5, 3) := by decide +kernel
theorem dX3_undoInto_7 : decode cX3_undoInto 7 = .ok (.iconst (-1), 1) := by decide +kernel
theorem dX3_undoInto_8 : decode cX3_undoInto 8 = .ok (.ireturn, 1) := by decide +kernel
theorem dX3_undoInto_9 : decode cX3_undoInto 9 = .ok (.aload_n 0, 1) := by decide +kernel
theorem dX3_undoInto_10 : decode cX3_undoInto 10 = .ok (.aload_n 0, 1) := by decide +kernel
theorem dX3_undoInto_11 : decode cX3_undoInto 11 = .ok (.getfield 15, 3) := by decide +kernel
theorem dX3_undoInto_14 : decode cX3_undoInto 14 = .ok (.bipush 40, 2) := by decide +kernel
theorem dX3_undoInto_16 : decode cX3_undoInto 16 = .ok (.iadd, 1) := by decide +kernel
theorem dX3_undoInto_17 : decode cX3_undoInto 17 = .ok (.iconst 1, 1) := by decide +kernel
theorem dX3_undoInto_18 : decode cX3_undoInto 18 = .ok (.isub, 1) := by decide +kernel
theorem dX3_undoInto_19 : decode cX3_undoInto 19 = .ok (.bipush 40, 2) := by decide +kernel
theorem dX3_undoInto_21 : decode cX3_undoInto 21 = .ok (.irem, 1) := by decide +kernel
theorem dX3_undoInto_22 : decode cX3_undoInto 22 = .ok (.putfield 15, 3) := by decide +kernel
theorem dX3_undoInto_25 : decode cX3_undoInto 25 = .ok (.aload_n 0, 1) := by decide +kernel
theorem dX3_undoInto_26 : decode cX3_undoInto 26 = .ok (.dup, 1) := by decide +kernel
theorem dX3_undoInto_27 : decode cX3_undoInto 27 = .ok (.getfield 9, 3) := by decide +kernel
theorem dX3_undoInto_30 : decode cX3_undoInto 30 = .ok (.iconst 1, 1) := by decide +kernel
theorem dX3_undoInto_31 : decode cX3_undoInto 31 = .ok (.isub, 1) := by decide +kernel
theorem dX3_undoInto_32 : decode cX3_undoInto 32 = .ok (.putfield 9, 3) := by decide +kernel
theorem dX3_undoInto_35 : decode cX3_undoInto 35 = .ok (.aload_n 1, 1) := by decide +kernel
theorem dX3_undoInto_36 : decode cX3_undoInto 36 = .ok (.aload_n 0, 1) := by decide +kernel
theorem dX3_undoInto_37 : decode cX3_undoInto 37 = .ok (.getfield 20, 3) := by decide +kernel
theorem dX3_undoInto_40 : decode cX3_undoInto 40 = .ok (.aload_n 0, 1) := by decide +kernel
theorem dX3_undoInto_41 : decode cX3_undoInto 41 = .ok (.getfield 15, 3) := by decide +kernel
theorem dX3_undoInto_44 : decode cX3_undoInto 44 = .ok (.aaload, 1) := by decide +kernel
theorem dX3_undoInto_45 : decode cX3_undoInto 45 = .ok (.invokevirtual 25, 3) := by decide +kernel
theorem dX3_undoInto_48 : decode cX3_undoInto 48 = .ok (.aload_n 0, 1) := by decide +kernel
theorem dX3_undoInto_49 : decode cX3_undoInto 49 = .ok (.getfield 9, 3) := by decide +kernel
theorem dX3_undoInto_52 : decode cX3_undoInto 52 = .ok (.ireturn, 1) := by decide +kernel
theorem dX4_init_0 : decode cX4_init 0 = .ok (.aload_n 0, 1) := by decide +kernel
theorem dX4_init_1 : decode cX4_init 1 = .ok (.invokespecial 3, 3) := by decide +kernel
theorem dX4_init_4 : decode cX4_init 4 = .ok (.aload_n 0, 1) := by decide +kernel
theorem dX4_init_5 : decode cX4_init 5 = .ok (.sipush 240, 3) := by decide +kernel
theorem dX4_init_8 : decode cX4_init 8 = .ok (.newarray .int, 2) := by decide +kernel
theorem dX4_init_10 : decode cX4_init 10 = .ok (.putfield 11, 3) := by decide +kernel
theorem dX4_init_13 : decode cX4_init 13 = .ok (.aload_n 0, 1) := by decide +kernel
theorem dX4_init_14 : decode cX4_init 14 = .ok (.iconst 0, 1) := by decide +kernel
theorem dX4_init_15 : decode cX4_init 15 = .ok (.putfield 17, 3) := by decide +kernel
theorem dX4_init_18 : decode cX4_init 18 = .ok (.aload_n 0, 1) := by decide +kernel
theorem dX4_init_19 : decode cX4_init 19 = .ok (.aload_n 1, 1) := by decide +kernel
theorem dX4_init_20 : decode cX4_init 20 = .ok (.putfield 21, 3) := by decide +kernel
theorem dX4_init_23 : decode cX4_init 23 = .ok (.return_, 1) := by decide +kernel
theorem dX4_readLaw_0 : decode cX4_readLaw 0 = .ok (.aload_n 0, 1) := by decide +kernel
theorem dX4_readLaw_1 : decode cX4_readLaw 1 = .ok (.getfield 21, 3) := by decide +kernel
theorem dX4_readLaw_4 : decode cX4_readLaw 4 = .ok (.invokevirtual 25, 3) := by decide +kernel
theorem dX4_readLaw_7 : decode cX4_readLaw 7 = .ok (.aload_n 0, 1) := by decide +kernel
theorem dX4_readLaw_8 : decode cX4_readLaw 8 = .ok (.iconst 0, 1) := by decide +kernel
theorem dX4_readLaw_9 : decode cX4_readLaw 9 = .ok (.putfield 17, 3) := by decide +kernel
theorem dX4_readLaw_12 : decode cX4_readLaw 12 = .ok (.iconst 0, 1) := by decide +kernel
theorem dX4_readLaw_13 : decode cX4_readLaw 13 = .ok (.istore_n 1, 1) := by decide +kernel
theorem dX4_readLaw_14 : decode cX4_readLaw 14 = .ok (.iload_n 1, 1) := by decide +kernel
theorem dX4_readLaw_15 : decode cX4_readLaw 15 = .ok (.sipush 240, 3) := by decide +kernel
theorem dX4_readLaw_18 : decode cX4_readLaw 18 = .ok (.if_icmp .gt 56, 3) := by decide +kernel
theorem dX4_readLaw_21 : decode cX4_readLaw 21 = .ok (.aload_n 0, 1) := by decide +kernel
theorem dX4_readLaw_22 : decode cX4_readLaw 22 = .ok (.invokevirtual 28, 3) := by decide +kernel
theorem dX4_readLaw_25 : decode cX4_readLaw 25 = .ok (.ifCond .eq 12, 3) := by decide +kernel
theorem dX4_readLaw_28 : decode cX4_readLaw 28 = .ok (.aload_n 0, 1) := by decide +kernel
theorem dX4_readLaw_29 : decode cX4_readLaw 29 = .ok (.bipush (-22), 2) := by decide +kernel
theorem dX4_readLaw_31 : decode cX4_readLaw 31 = .ok (.invokevirtual 34, 3) := by decide +kernel
theorem dX4_readLaw_34 : decode cX4_readLaw 34 = .ok (.ifCond .ne 5, 3) := by decide +kernel
theorem dX4_readLaw_37 : decode cX4_readLaw 37 = .ok (.iconst 0, 1) := by decide +kernel
theorem dX4_readLaw_38 : decode cX4_readLaw 38 = .ok (.ireturn, 1) := by decide +kernel
theorem dX4_readLaw_39 : decode cX4_readLaw 39 = .ok (.aload_n 0, 1) := by decide +kernel
theorem dX4_readLaw_40 : decode cX4_readLaw 40 = .ok (.getfield 21, 3) := by decide +kernel
theorem dX4_readLaw_43 : decode cX4_readLaw 43 = .ok (.bipush 59, 2) := by decide +kernel
theorem dX4_readLaw_45 : decode cX4_readLaw 45 = .ok (.invokevirtual 38, 3) := by decide +kernel
theorem dX4_readLaw_48 : decode cX4_readLaw 48 = .ok (.ifCond .ne 20, 3) := by decide +kernel
theorem dX4_readLaw_51 : decode cX4_readLaw 51 = .ok (.aload_n 0, 1) := by decide +kernel
theorem dX4_readLaw_52 : decode cX4_readLaw 52 = .ok (.getfield 21, 3) := by decide +kernel
theorem dX4_readLaw_55 : decode cX4_readLaw 55 = .ok (.invokevirtual 41, 3) := by decide +kernel
theorem dX4_readLaw_58 : decode cX4_readLaw 58 = .ok (.iconst (-1), 1) := by decide +kernel
theorem dX4_readLaw_59 : decode cX4_readLaw 59 = .ok (.if_icmp .ne 7, 3) := by decide +kernel
theorem dX4_readLaw_62 : decode cX4_readLaw 62 = .ok (.iconst 1, 1) := by decide +kernel
theorem dX4_readLaw_63 : decode cX4_readLaw 63 = .ok (.goto 4, 3) := by decide +kernel
theorem dX4_readLaw_66 : decode cX4_readLaw 66 = .ok (.iconst 0, 1) := by decide +kernel
theorem dX4_readLaw_67 : decode cX4_readLaw 67 = .ok (.ireturn, 1) := by decide +kernel
theorem dX4_readLaw_68 : decode cX4_readLaw 68 = .ok (.iinc 1 1, 3) := by decide +kernel
theorem dX4_readLaw_71 : decode cX4_readLaw 71 = .ok (.goto (-57), 3) := by decide +kernel
theorem dX4_readLaw_74 : decode cX4_readLaw 74 = .ok (.iconst 0, 1) := by decide +kernel
theorem dX4_readLaw_75 : decode cX4_readLaw 75 = .ok (.ireturn, 1) := by decide +kernel
theorem dX4_emit_0 : decode cX4_emit 0 = .ok (.aload_n 0, 1) := by decide +kernel
theorem dX4_emit_1 : decode cX4_emit 1 = .ok (.getfield 17, 3) := by decide +kernel
theorem dX4_emit_4 : decode cX4_emit 4 = .ok (.aload_n 0, 1) := by decide +kernel
theorem dX4_emit_5 : decode cX4_emit 5 = .ok (.getfield 11, 3) := by decide +kernel
theorem dX4_emit_8 : decode cX4_emit 8 = .ok (.arraylength, 1) := by decide +kernel
theorem dX4_emit_9 : decode cX4_emit 9 = .ok (.if_icmp .lt 5, 3) := by decide +kernel
theorem dX4_emit_12 : decode cX4_emit 12 = .ok (.iconst 0, 1) := by decide +kernel
theorem dX4_emit_13 : decode cX4_emit 13 = .ok (.ireturn, 1) := by decide +kernel
theorem dX4_emit_14 : decode cX4_emit 14 = .ok (.aload_n 0, 1) := by decide +kernel
theorem dX4_emit_15 : decode cX4_emit 15 = .ok (.getfield 11, 3) := by decide +kernel
theorem dX4_emit_18 : decode cX4_emit 18 = .ok (.aload_n 0, 1) := by decide +kernel
theorem dX4_emit_19 : decode cX4_emit 19 = .ok (.getfield 17, 3) := by decide +kernel
theorem dX4_emit_22 : decode cX4_emit 22 = .ok (.iload_n 1, 1) := by decide +kernel
theorem dX4_emit_23 : decode cX4_emit 23 = .ok (.iastore, 1) := by decide +kernel
theorem dX4_emit_24 : decode cX4_emit 24 = .ok (.aload_n 0, 1) := by decide +kernel
theorem dX4_emit_25 : decode cX4_emit 25 = .ok (.dup, 1) := by decide +kernel
theorem dX4_emit_26 : decode cX4_emit 26 = .ok (.getfield 17, 3) := by decide +kernel
theorem dX4_emit_29 : decode cX4_emit 29 = .ok (.iconst 1, 1) := by decide +kernel
theorem dX4_emit_30 : decode cX4_emit 30 = .ok (.iadd, 1) := by decide +kernel
theorem dX4_emit_31 : decode cX4_emit 31 = .ok (.putfield 17, 3) := by decide +kernel
theorem dX4_emit_34 : decode cX4_emit 34 = .ok (.iconst 1, 1) := by decide +kernel
theorem dX4_emit_35 : decode cX4_emit 35 = .ok (.ireturn, 1) := by decide +kernel
theorem dX4_readClause_0 : decode cX4_readClause 0 = .ok (.aload_n 0, 1) := by decide +kernel
theorem dX4_readClause_1 : decode cX4_readClause 1 = .ok (.getfield 21, 3) := by decide +kernel
theorem dX4_readClause_4 : decode cX4_readClause 4 = .ok (.bipush 121, 2) := by decide +kernel
theorem dX4_readClause_6 : decode cX4_readClause 6 = .ok (.invokevirtual 38, 3) := by decide +kernel
theorem dX4_readClause_9 : decode cX4_readClause 9 = .ok (.ifCond .eq 15, 3) := by decide +kernel
theorem dX4_readClause_12 : decode cX4_readClause 12 = .ok (.aload_n 0, 1) := by decide +kernel
theorem dX4_readClause_13 : decode cX4_readClause 13 = .ok (.getfield 21, 3) := by decide +kernel
theorem dX4_readClause_16 : decode cX4_readClause 16 = .ok (.bipush 58, 2) := by decide +kernel
theorem dX4_readClause_18 : decode cX4_readClause 18 = .ok (.invokevirtual 38, 3) := by decide +kernel
theorem dX4_readClause_21 : decode cX4_readClause 21 = .ok (.ifCond .ne 5, 3) := by decide +kernel
theorem dX4_readClause_24 : decode cX4_readClause 24 = .ok (.iconst 0, 1) := by decide +kernel
theorem dX4_readClause_25 : decode cX4_readClause 25 = .ok (.ireturn, 1) := by decide +kernel
theorem dX4_readClause_26 : decode cX4_readClause 26 = .ok (.aload_n 0, 1) := by decide +kernel
theorem dX4_readClause_27 : decode cX4_readClause 27 = .ok (.getfield 21, 3) := by decide +kernel
theorem dX4_readClause_30 : decode cX4_readClause 30 = .ok (.invokevirtual 41, 3) := by decide +kernel
theorem dX4_readClause_33 : decode cX4_readClause 33 = .ok (.istore_n 1, 1) := by decide +kernel
theorem dX4_readClause_34 : decode cX4_readClause 34 = .ok (.iload_n 1, 1) := by decide +kernel
theorem dX4_readClause_35 : decode cX4_readClause 35 = .ok (.bipush 33, 2) := by decide +kernel
theorem dX4_readClause_37 : decode cX4_readClause 37 = .ok (.if_icmp .eq 9, 3) := by decide +kernel
theorem dX4_readClause_40 : decode cX4_readClause 40 = .ok (.iload_n 1, 1) := by decide +kernel
theorem dX4_readClause_41 : decode cX4_readClause 41 = .ok (.bipush 40, 2) := by decide +kernel
theorem dX4_readClause_43 : decode cX4_readClause 43 = .ok (.if_icmp .ne 7, 3) := by decide +kernel
theorem dX4_readClause_46 : decode cX4_readClause 46 = .ok (.iconst 1, 1) := by decide +kernel
theorem dX4_readClause_47 : decode cX4_readClause 47 = .ok (.goto 4, 3) := by decide +kernel
theorem dX4_readClause_50 : decode cX4_readClause 50 = .ok (.iconst 0, 1) := by decide +kernel
theorem dX4_readClause_51 : decode cX4_readClause 51 = .ok (.istore_n 2, 1) := by decide +kernel
theorem dX4_readClause_52 : decode cX4_readClause 52 = .ok (.iload_n 2, 1) := by decide +kernel
theorem dX4_readClause_53 : decode cX4_readClause 53 = .ok (.ifCond .ne 29, 3) := by decide +kernel
theorem dX4_readClause_56 : decode cX4_readClause 56 = .ok (.aload_n 0, 1) := by decide +kernel
theorem dX4_readClause_57 : decode cX4_readClause 57 = .ok (.iconst 0, 1) := by decide +kernel
theorem dX4_readClause_58 : decode cX4_readClause 58 = .ok (.invokevirtual 45, 3) := by decide +kernel
theorem dX4_readClause_61 : decode cX4_readClause 61 = .ok (.ifCond .ne 5, 3) := by decide +kernel
theorem dX4_readClause_64 : decode cX4_readClause 64 = .ok (.iconst 0, 1) := by decide +kernel
theorem dX4_readClause_65 : decode cX4_readClause 65 = .ok (.ireturn, 1) := by decide +kernel
theorem dX4_readClause_66 : decode cX4_readClause 66 = .ok (.aload_n 0, 1) := by decide +kernel
theorem dX4_readClause_67 : decode cX4_readClause 67 = .ok (.aload_n 0, 1) := by decide +kernel
theorem dX4_readClause_68 : decode cX4_readClause 68 = .ok (.getfield 21, 3) := by decide +kernel
theorem dX4_readClause_71 : decode cX4_readClause 71 = .ok (.invokevirtual 41, 3) := by decide +kernel
theorem dX4_readClause_74 : decode cX4_readClause 74 = .ok (.invokevirtual 48, 3) := by decide +kernel
theorem dX4_readClause_77 : decode cX4_readClause 77 = .ok (.ifCond .ne 5, 3) := by decide +kernel
theorem dX4_readClause_80 : decode cX4_readClause 80 = .ok (.iconst 1, 1) := by decide +kernel
theorem dX4_readClause_81 : decode cX4_readClause 81 = .ok (.ireturn, 1) := by decide +kernel
theorem dX4_readClause_82 : decode cX4_readClause 82 = .ok (.iload_n 2, 1) := by decide +kernel
theorem dX4_readClause_83 : decode cX4_readClause 83 = .ok (.ifCond .eq 11, 3) := by decide +kernel
theorem dX4_readClause_86 : decode cX4_readClause 86 = .ok (.aload_n 0, 1) := by decide +kernel
theorem dX4_readClause_87 : decode cX4_readClause 87 = .ok (.iconst 0, 1) := by decide +kernel
theorem dX4_readClause_88 : decode cX4_readClause 88 = .ok (.invokevirtual 51, 3) := by decide +kernel
theorem dX4_readClause_91 : decode cX4_readClause 91 = .ok (.goto 8, 3) := by decide +kernel
theorem dX4_readClause_94 : decode cX4_readClause 94 = .ok (.aload_n 0, 1) := by decide +kernel
theorem dX4_readClause_95 : decode cX4_readClause 95 = .ok (.iconst 0, 1) := by decide +kernel
theorem dX4_readClause_96 : decode cX4_readClause 96 = .ok (.invokevirtual 54, 3) := by decide +kernel
theorem dX4_readClause_99 : decode cX4_readClause 99 = .ok (.istore_n 3, 1) := by decide +kernel
theorem dX4_readClause_100 : decode cX4_readClause 100 = .ok (.iload_n 3, 1) := by decide +kernel
theorem dX4_readClause_101 : decode cX4_readClause 101 = .ok (.ifCond .eq 44, 3) := by decide +kernel
theorem dX4_readClause_104 : decode cX4_readClause 104 = .ok (.aload_n 0, 1) := by decide +kernel
theorem dX4_readClause_105 : decode cX4_readClause 105 = .ok (.iconst 0, 1) := by decide +kernel
theorem dX4_readClause_106 : decode cX4_readClause 106 = .ok (.invokevirtual 57, 3) := by decide +kernel
theorem dX4_readClause_109 : decode cX4_readClause 109 = .ok (.ifCond .eq 36, 3) := by decide +kernel
theorem dX4_readClause_112 : decode cX4_readClause 112 = .ok (.aload_n 0, 1) := by decide +kernel
theorem dX4_readClause_113 : decode cX4_readClause 113 = .ok (.getfield 21, 3) := by decide +kernel
theorem dX4_readClause_116 : decode cX4_readClause 116 = .ok (.bipush 63, 2) := by decide +kernel
theorem dX4_readClause_118 : decode cX4_readClause 118 = .ok (.invokevirtual 38, 3) := by decide +kernel
theorem dX4_readClause_121 : decode cX4_readClause 121 = .ok (.ifCond .eq 24, 3) := by decide +kernel
theorem dX4_readClause_124 : decode cX4_readClause 124 = .ok (.aload_n 0, 1) := by decide +kernel
theorem dX4_readClause_125 : decode cX4_readClause 125 = .ok (.bipush (-21), 2) := by decide +kernel
theorem dX4_readClause_127 : decode cX4_readClause 127 = .ok (.invokevirtual 34, 3) := by decide +kernel
theorem dX4_readClause_130 : decode cX4_readClause 130 = .ok (.ifCond .eq 15, 3) := by decide +kernel
theorem dX4_readClause_133 : decode cX4_readClause 133 = .ok (.aload_n 0, 1) := by decide +kernel
theorem dX4_readClause_134 : decode cX4_readClause 134 = .ok (.iconst 0, 1) := by decide +kernel
theorem dX4_readClause_135 : decode cX4_readClause 135 = .ok (.invokevirtual 45, 3) := by decide +kernel
theorem dX4_readClause_138 : decode cX4_readClause 138 = .ok (.ifCond .eq 7, 3) := by decide +kernel
theorem dX4_readClause_141 : decode cX4_readClause 141 = .ok (.iconst 1, 1) := by decide +kernel
theorem dX4_readClause_142 : decode cX4_readClause 142 = .ok (.goto 4, 3) := by decide +kernel
theorem dX4_readClause_145 : decode cX4_readClause 145 = .ok (.iconst 0, 1) := by decide +kernel
theorem dX4_readClause_146 : decode cX4_readClause 146 = .ok (.ireturn, 1) := by decide +kernel
theorem dX4_isComparing_0 : decode cX4_isComparing 0 = .ok (.iload_n 1, 1) := by decide +kernel
theorem dX4_isComparing_1 : decode cX4_isComparing 1 = .ok (.bipush 61, 2) := by decide +kernel
theorem dX4_isComparing_3 : decode cX4_isComparing 3 = .ok (.if_icmp .eq 15, 3) := by decide +kernel
theorem dX4_isComparing_6 : decode cX4_isComparing 6 = .ok (.iload_n 1, 1) := by decide +kernel
theorem dX4_isComparing_7 : decode cX4_isComparing 7 = .ok (.bipush 60, 2) := by decide +kernel
theorem dX4_isComparing_9 : decode cX4_isComparing 9 = .ok (.if_icmp .eq 9, 3) := by decide +kernel
theorem dX4_isComparing_12 : decode cX4_isComparing 12 = .ok (.iload_n 1, 1) := by decide +kernel
theorem dX4_isComparing_13 : decode cX4_isComparing 13 = .ok (.bipush 62, 2) := by decide +kernel
theorem dX4_isComparing_15 : decode cX4_isComparing 15 = .ok (.if_icmp .ne 7, 3) := by decide +kernel
theorem dX4_isComparing_18 : decode cX4_isComparing 18 = .ok (.iconst 1, 1) := by decide +kernel
theorem dX4_isComparing_19 : decode cX4_isComparing 19 = .ok (.goto 4, 3) := by decide +kernel
theorem dX4_isComparing_22 : decode cX4_isComparing 22 = .ok (.iconst 0, 1) := by decide +kernel
theorem dX4_isComparing_23 : decode cX4_isComparing 23 = .ok (.ireturn, 1) := by decide +kernel
theorem dX4_readUnit_0 : decode cX4_readUnit 0 = .ok (.aload_n 0, 1) := by decide +kernel
theorem dX4_readUnit_1 : decode cX4_readUnit 1 = .ok (.getfield 21, 3) := by decide +kernel
theorem dX4_readUnit_4 : decode cX4_readUnit 4 = .ok (.invokevirtual 41, 3) := by decide +kernel
theorem dX4_readUnit_7 : decode cX4_readUnit 7 = .ok (.istore_n 2, 1) := by decide +kernel
theorem dX4_readUnit_8 : decode cX4_readUnit 8 = .ok (.iload_n 2, 1) := by decide +kernel
theorem dX4_readUnit_9 : decode cX4_readUnit 9 = .ok (.bipush 33, 2) := by decide +kernel
theorem dX4_readUnit_11 : decode cX4_readUnit 11 = .ok (.if_icmp .eq 31, 3) := by decide +kernel
theorem dX4_readUnit_14 : decode cX4_readUnit 14 = .ok (.iload_n 2, 1) := by decide +kernel
theorem dX4_readUnit_15 : decode cX4_readUnit 15 = .ok (.bipush 40, 2) := by decide +kernel
theorem dX4_readUnit_17 : decode cX4_readUnit 17 = .ok (.if_icmp .eq 25, 3) := by decide +kernel
theorem dX4_readUnit_20 : decode cX4_readUnit 20 = .ok (.aload_n 0, 1) := by decide +kernel
theorem dX4_readUnit_21 : decode cX4_readUnit 21 = .ok (.iload_n 1, 1) := by decide +kernel
theorem dX4_readUnit_22 : decode cX4_readUnit 22 = .ok (.invokevirtual 45, 3) := by decide +kernel
theorem dX4_readUnit_25 : decode cX4_readUnit 25 = .ok (.ifCond .eq 15, 3) := by decide +kernel
theorem dX4_readUnit_28 : decode cX4_readUnit 28 = .ok (.aload_n 0, 1) := by decide +kernel
theorem dX4_readUnit_29 : decode cX4_readUnit 29 = .ok (.iload_n 1, 1) := by decide +kernel
theorem dX4_readUnit_30 : decode cX4_readUnit 30 = .ok (.invokevirtual 54, 3) := by decide +kernel
theorem dX4_readUnit_33 : decode cX4_readUnit 33 = .ok (.ifCond .eq 7, 3) := by decide +kernel
theorem dX4_readUnit_36 : decode cX4_readUnit 36 = .ok (.iconst 1, 1) := by decide +kernel
theorem dX4_readUnit_37 : decode cX4_readUnit 37 = .ok (.goto 4, 3) := by decide +kernel
theorem dX4_readUnit_40 : decode cX4_readUnit 40 = .ok (.iconst 0, 1) := by decide +kernel
theorem dX4_readUnit_41 : decode cX4_readUnit 41 = .ok (.ireturn, 1) := by decide +kernel
theorem dX4_readUnit_42 : decode cX4_readUnit 42 = .ok (.iload_n 1, 1) := by decide +kernel
theorem dX4_readUnit_43 : decode cX4_readUnit 43 = .ok (.bipush 6, 2) := by decide +kernel
theorem dX4_readUnit_45 : decode cX4_readUnit 45 = .ok (.if_icmp .lt 5, 3) := by decide +kernel
theorem dX4_readUnit_48 : decode cX4_readUnit 48 = .ok (.iconst 0, 1) := by decide +kernel
theorem dX4_readUnit_49 : decode cX4_readUnit 49 = .ok (.ireturn, 1) := by decide +kernel
theorem dX4_readUnit_50 : decode cX4_readUnit 50 = .ok (.aload_n 0, 1) := by decide +kernel
theorem dX4_readUnit_51 : decode cX4_readUnit 51 = .ok (.getfield 21, 3) := by decide +kernel
theorem dX4_readUnit_54 : decode cX4_readUnit 54 = .ok (.invokevirtual 60, 3) := by decide +kernel
theorem dX4_readUnit_57 : decode cX4_readUnit 57 = .ok (.iload_n 2, 1) := by decide +kernel
theorem dX4_readUnit_58 : decode cX4_readUnit 58 = .ok (.bipush 33, 2) := by decide +kernel
theorem dX4_readUnit_60 : decode cX4_readUnit 60 = .ok (.if_icmp .ne 28, 3) := by decide +kernel
theorem dX4_readUnit_63 : decode cX4_readUnit 63 = .ok (.aload_n 0, 1) := by decide +kernel
theorem dX4_readUnit_64 : decode cX4_readUnit 64 = .ok (.iload_n 1, 1) := by decide +kernel
theorem dX4_readUnit_65 : decode cX4_readUnit 65 = .ok (.iconst 1, 1) := by decide +kernel
theorem dX4_readUnit_66 : decode cX4_readUnit 66 = .ok (.iadd, 1) := by decide +kernel
theorem dX4_readUnit_67 : decode cX4_readUnit 67 = .ok (.invokevirtual 51, 3) := by decide +kernel
theorem dX4_readUnit_70 : decode cX4_readUnit 70 = .ok (.ifCond .eq 16, 3) := by decide +kernel
theorem dX4_readUnit_73 : decode cX4_readUnit 73 = .ok (.aload_n 0, 1) := by decide +kernel
theorem dX4_readUnit_74 : decode cX4_readUnit 74 = .ok (.bipush (-20), 2) := by decide +kernel
theorem dX4_readUnit_76 : decode cX4_readUnit 76 = .ok (.invokevirtual 34, 3) := by decide +kernel
theorem dX4_readUnit_79 : decode cX4_readUnit 79 = .ok (.ifCond .eq 7, 3) := by decide +kernel
theorem dX4_readUnit_82 : decode cX4_readUnit 82 = .ok (.iconst 1, 1) := by decide +kernel
theorem dX4_readUnit_83 : decode cX4_readUnit 83 = .ok (.goto 4, 3) := by decide +kernel
theorem dX4_readUnit_86 : decode cX4_readUnit 86 = .ok (.iconst 0, 1) := by decide +kernel
theorem dX4_readUnit_87 : decode cX4_readUnit 87 = .ok (.ireturn, 1) := by decide +kernel
theorem dX4_readUnit_88 : decode cX4_readUnit 88 = .ok (.aload_n 0, 1) := by decide +kernel
theorem dX4_readUnit_89 : decode cX4_readUnit 89 = .ok (.iload_n 1, 1) := by decide +kernel
theorem dX4_readUnit_90 : decode cX4_readUnit 90 = .ok (.iconst 1, 1) := by decide +kernel
theorem dX4_readUnit_91 : decode cX4_readUnit 91 = .ok (.iadd, 1) := by decide +kernel
theorem dX4_readUnit_92 : decode cX4_readUnit 92 = .ok (.invokevirtual 51, 3) := by decide +kernel
theorem dX4_readUnit_95 : decode cX4_readUnit 95 = .ok (.ifCond .eq 29, 3) := by decide +kernel
theorem dX4_readUnit_98 : decode cX4_readUnit 98 = .ok (.aload_n 0, 1) := by decide +kernel
theorem dX4_readUnit_99 : decode cX4_readUnit 99 = .ok (.iload_n 1, 1) := by decide +kernel
theorem dX4_readUnit_100 : decode cX4_readUnit 100 = .ok (.iconst 1, 1) := by decide +kernel
theorem dX4_readUnit_101 : decode cX4_readUnit 101 = .ok (.iadd, 1) := by decide +kernel
theorem dX4_readUnit_102 : decode cX4_readUnit 102 = .ok (.invokevirtual 57, 3) := by decide +kernel
theorem dX4_readUnit_105 : decode cX4_readUnit 105 = .ok (.ifCond .eq 19, 3) := by decide +kernel
theorem dX4_readUnit_108 : decode cX4_readUnit 108 = .ok (.aload_n 0, 1) := by decide +kernel
theorem dX4_readUnit_109 : decode cX4_readUnit 109 = .ok (.getfield 21, 3) := by decide +kernel
theorem dX4_readUnit_112 : decode cX4_readUnit 112 = .ok (.bipush 41, 2) := by decide +kernel
theorem dX4_readUnit_114 : decode cX4_readUnit 114 = .ok (.invokevirtual 38, 3) := by decide +kernel
theorem dX4_readUnit_117 : decode cX4_readUnit 117 = .ok (.ifCond .eq 7, 3) := by decide +kernel
theorem dX4_readUnit_120 : decode cX4_readUnit 120 = .ok (.iconst 1, 1) := by decide +kernel
theorem dX4_readUnit_121 : decode cX4_readUnit 121 = .ok (.goto 4, 3) := by decide +kernel
theorem dX4_readUnit_124 : decode cX4_readUnit 124 = .ok (.iconst 0, 1) := by decide +kernel
theorem dX4_readUnit_125 : decode cX4_readUnit 125 = .ok (.ireturn, 1) := by decide +kernel
theorem dX4_readMoreUnits_0 : decode cX4_readMoreUnits 0 = .ok (.iconst 0, 1) := by decide +kernel
theorem dX4_readMoreUnits_1 : decode cX4_readMoreUnits 1 = .ok (.istore_n 2, 1) := by decide +kernel
theorem dX4_readMoreUnits_2 : decode cX4_readMoreUnits 2 = .ok (.iconst 0, 1) := by decide +kernel
theorem dX4_readMoreUnits_3 : decode cX4_readMoreUnits 3 = .ok (.istore_n 3, 1) := by decide +kernel
theorem dX4_readMoreUnits_4 : decode cX4_readMoreUnits 4 = .ok (.iload_n 3, 1) := by decide +kernel
theorem dX4_readMoreUnits_5 : decode cX4_readMoreUnits 5 = .ok (.sipush 240, 3) := by decide +kernel
theorem dX4_readMoreUnits_8 : decode cX4_readMoreUnits 8 = .ok (.if_icmp .gt 92, 3) := by decide +kernel
theorem dX4_readMoreUnits_11 : decode cX4_readMoreUnits 11 = .ok (.aload_n 0, 1) := by decide +kernel
theorem dX4_readMoreUnits_12 : decode cX4_readMoreUnits 12 = .ok (.getfield 21, 3) := by decide +kernel
theorem dX4_readMoreUnits_15 : decode cX4_readMoreUnits 15 = .ok (.invokevirtual 41, 3) := by decide +kernel
theorem dX4_readMoreUnits_18 : decode cX4_readMoreUnits 18 = .ok (.istore 4, 2) := by decide +kernel
theorem dX4_readMoreUnits_20 : decode cX4_readMoreUnits 20 = .ok (.iload 4, 2) := by decide +kernel
theorem dX4_readMoreUnits_22 : decode cX4_readMoreUnits 22 = .ok (.bipush 38, 2) := by decide +kernel
theorem dX4_readMoreUnits_24 : decode cX4_readMoreUnits 24 = .ok (.if_icmp .eq 13, 3) := by decide +kernel
theorem dX4_readMoreUnits_27 : decode cX4_readMoreUnits 27 = .ok (.iload 4, 2) := by decide +kernel
theorem dX4_readMoreUnits_29 : decode cX4_readMoreUnits 29 = .ok (.bipush 124, 2) := by decide +kernel
theorem dX4_readMoreUnits_31 : decode cX4_readMoreUnits 31 = .ok (.if_icmp .eq 6, 3) := by decide +kernel
theorem dX4_readMoreUnits_34 : decode cX4_readMoreUnits 34 = .ok (.goto 66, 3) := by decide +kernel
theorem dX4_readMoreUnits_37 : decode cX4_readMoreUnits 37 = .ok (.aload_n 0, 1) := by decide +kernel
theorem dX4_readMoreUnits_38 : decode cX4_readMoreUnits 38 = .ok (.getfield 21, 3) := by decide +kernel
theorem dX4_readMoreUnits_41 : decode cX4_readMoreUnits 41 = .ok (.invokevirtual 60, 3) := by decide +kernel
theorem dX4_readMoreUnits_44 : decode cX4_readMoreUnits 44 = .ok (.iload 4, 2) := by decide +kernel
theorem dX4_readMoreUnits_46 : decode cX4_readMoreUnits 46 = .ok (.bipush 124, 2) := by decide +kernel
theorem dX4_readMoreUnits_48 : decode cX4_readMoreUnits 48 = .ok (.if_icmp .ne 20, 3) := by decide +kernel
theorem dX4_readMoreUnits_51 : decode cX4_readMoreUnits 51 = .ok (.iload_n 2, 1) := by decide +kernel
theorem dX4_readMoreUnits_52 : decode cX4_readMoreUnits 52 = .ok (.ifCond .eq 14, 3) := by decide +kernel
theorem dX4_readMoreUnits_55 : decode cX4_readMoreUnits 55 = .ok (.aload_n 0, 1) := by decide +kernel
theorem dX4_readMoreUnits_56 : decode cX4_readMoreUnits 56 = .ok (.bipush (-19), 2) := by decide +kernel
theorem dX4_readMoreUnits_58 : decode cX4_readMoreUnits 58 = .ok (.invokevirtual 34, 3) := by decide +kernel
theorem dX4_readMoreUnits_61 : decode cX4_readMoreUnits 61 = .ok (.ifCond .ne 5, 3) := by decide +kernel
theorem dX4_readMoreUnits_64 : decode cX4_readMoreUnits 64 = .ok (.iconst 0, 1) := by decide +kernel
theorem dX4_readMoreUnits_65 : decode cX4_readMoreUnits 65 = .ok (.ireturn, 1) := by decide +kernel
theorem dX4_readMoreUnits_66 : decode cX4_readMoreUnits 66 = .ok (.iconst 1, 1) := by decide +kernel
theorem dX4_readMoreUnits_67 : decode cX4_readMoreUnits 67 = .ok (.istore_n 2, 1) := by decide +kernel
theorem dX4_readMoreUnits_68 : decode cX4_readMoreUnits 68 = .ok (.aload_n 0, 1) := by decide +kernel
theorem dX4_readMoreUnits_69 : decode cX4_readMoreUnits 69 = .ok (.iload_n 1, 1) := by decide +kernel
theorem dX4_readMoreUnits_70 : decode cX4_readMoreUnits 70 = .ok (.invokevirtual 51, 3) := by decide +kernel
theorem dX4_readMoreUnits_73 : decode cX4_readMoreUnits 73 = .ok (.ifCond .eq 19, 3) := by decide +kernel
theorem dX4_readMoreUnits_76 : decode cX4_readMoreUnits 76 = .ok (.iload 4, 2) := by decide +kernel
theorem dX4_readMoreUnits_78 : decode cX4_readMoreUnits 78 = .ok (.bipush 38, 2) := by decide +kernel
theorem dX4_readMoreUnits_80 : decode cX4_readMoreUnits 80 = .ok (.if_icmp .ne 14, 3) := by decide +kernel
theorem dX4_readMoreUnits_83 : decode cX4_readMoreUnits 83 = .ok (.aload_n 0, 1) := by decide +kernel
theorem dX4_readMoreUnits_84 : decode cX4_readMoreUnits 84 = .ok (.bipush (-18), 2) := by decide +kernel
theorem dX4_readMoreUnits_86 : decode cX4_readMoreUnits 86 = .ok (.invokevirtual 34, 3) := by decide +kernel
theorem dX4_readMoreUnits_89 : decode cX4_readMoreUnits 89 = .ok (.ifCond .ne 5, 3) := by decide +kernel
theorem dX4_readMoreUnits_92 : decode cX4_readMoreUnits 92 = .ok (.iconst 0, 1) := by decide +kernel
theorem dX4_readMoreUnits_93 : decode cX4_readMoreUnits 93 = .ok (.ireturn, 1) := by decide +kernel
theorem dX4_readMoreUnits_94 : decode cX4_readMoreUnits 94 = .ok (.iinc 3 1, 3) := by decide +kernel
theorem dX4_readMoreUnits_97 : decode cX4_readMoreUnits 97 = .ok (.goto (-93), 3) := by decide +kernel
theorem dX4_readMoreUnits_100 : decode cX4_readMoreUnits 100 = .ok (.iload_n 2, 1) := by decide +kernel
theorem dX4_readMoreUnits_101 : decode cX4_readMoreUnits 101 = .ok (.ifCond .eq 12, 3) := by decide +kernel
theorem dX4_readMoreUnits_104 : decode cX4_readMoreUnits 104 = .ok (.aload_n 0, 1) := by decide +kernel
theorem dX4_readMoreUnits_105 : decode cX4_readMoreUnits 105 = .ok (.bipush (-19), 2) := by decide +kernel
theorem dX4_readMoreUnits_107 : decode cX4_readMoreUnits 107 = .ok (.invokevirtual 34, 3) := by decide +kernel
theorem dX4_readMoreUnits_110 : decode cX4_readMoreUnits 110 = .ok (.ifCond .eq 7, 3) := by decide +kernel
theorem dX4_readMoreUnits_113 : decode cX4_readMoreUnits 113 = .ok (.iconst 1, 1) := by decide +kernel
theorem dX4_readMoreUnits_114 : decode cX4_readMoreUnits 114 = .ok (.goto 4, 3) := by decide +kernel
theorem dX4_readMoreUnits_117 : decode cX4_readMoreUnits 117 = .ok (.iconst 0, 1) := by decide +kernel
theorem dX4_readMoreUnits_118 : decode cX4_readMoreUnits 118 = .ok (.ireturn, 1) := by decide +kernel
theorem dX4_readComparison_0 : decode cX4_readComparison 0 = .ok (.aload_n 0, 1) := by decide +kernel
theorem dX4_readComparison_1 : decode cX4_readComparison 1 = .ok (.getfield 21, 3) := by decide +kernel
theorem dX4_readComparison_4 : decode cX4_readComparison 4 = .ok (.invokevirtual 41, 3) := by decide +kernel
theorem dX4_readComparison_7 : decode cX4_readComparison 7 = .ok (.istore_n 2, 1) := by decide +kernel
theorem dX4_readComparison_8 : decode cX4_readComparison 8 = .ok (.aload_n 0, 1) := by decide +kernel
theorem dX4_readComparison_9 : decode cX4_readComparison 9 = .ok (.iload_n 2, 1) := by decide +kernel
theorem dX4_readComparison_10 : decode cX4_readComparison 10 = .ok (.invokevirtual 48, 3) := by decide +kernel
theorem dX4_readComparison_13 : decode cX4_readComparison 13 = .ok (.ifCond .ne 5, 3) := by decide +kernel
theorem dX4_readComparison_16 : decode cX4_readComparison 16 = .ok (.iconst 0, 1) := by decide +kernel
theorem dX4_readComparison_17 : decode cX4_readComparison 17 = .ok (.ireturn, 1) := by decide +kernel
theorem dX4_readComparison_18 : decode cX4_readComparison 18 = .ok (.aload_n 0, 1) := by decide +kernel
theorem dX4_readComparison_19 : decode cX4_readComparison 19 = .ok (.getfield 21, 3) := by decide +kernel
theorem dX4_readComparison_22 : decode cX4_readComparison 22 = .ok (.invokevirtual 60, 3) := by decide +kernel
theorem dX4_readComparison_25 : decode cX4_readComparison 25 = .ok (.iload_n 2, 1) := by decide +kernel
theorem dX4_readComparison_26 : decode cX4_readComparison 26 = .ok (.bipush 61, 2) := by decide +kernel
theorem dX4_readComparison_28 : decode cX4_readComparison 28 = .ok (.if_icmp .ne 8, 3) := by decide +kernel
theorem dX4_readComparison_31 : decode cX4_readComparison 31 = .ok (.bipush (-15), 2) := by decide +kernel
theorem dX4_readComparison_33 : decode cX4_readComparison 33 = .ok (.goto 16, 3) := by decide +kernel
theorem dX4_readComparison_36 : decode cX4_readComparison 36 = .ok (.iload_n 2, 1) := by decide +kernel
theorem dX4_readComparison_37 : decode cX4_readComparison 37 = .ok (.bipush 60, 2) := by decide +kernel
theorem dX4_readComparison_39 : decode cX4_readComparison 39 = .ok (.if_icmp .ne 8, 3) := by decide +kernel
theorem dX4_readComparison_42 : decode cX4_readComparison 42 = .ok (.bipush (-16), 2) := by decide +kernel
theorem dX4_readComparison_44 : decode cX4_readComparison 44 = .ok (.goto 5, 3) := by decide +kernel
theorem dX4_readComparison_47 : decode cX4_readComparison 47 = .ok (.bipush (-17), 2) := by decide +kernel
theorem dX4_readComparison_49 : decode cX4_readComparison 49 = .ok (.istore_n 3, 1) := by decide +kernel
theorem dX4_readComparison_50 : decode cX4_readComparison 50 = .ok (.aload_n 0, 1) := by decide +kernel
theorem dX4_readComparison_51 : decode cX4_readComparison 51 = .ok (.iload_n 1, 1) := by decide +kernel
theorem dX4_readComparison_52 : decode cX4_readComparison 52 = .ok (.invokevirtual 45, 3) := by decide +kernel
theorem dX4_readComparison_55 : decode cX4_readComparison 55 = .ok (.ifCond .eq 15, 3) := by decide +kernel
theorem dX4_readComparison_58 : decode cX4_readComparison 58 = .ok (.aload_n 0, 1) := by decide +kernel
theorem dX4_readComparison_59 : decode cX4_readComparison 59 = .ok (.iload_n 3, 1) := by decide +kernel
theorem dX4_readComparison_60 : decode cX4_readComparison 60 = .ok (.invokevirtual 34, 3) := by decide +kernel
theorem dX4_readComparison_63 : decode cX4_readComparison 63 = .ok (.ifCond .eq 7, 3) := by decide +kernel
theorem dX4_readComparison_66 : decode cX4_readComparison 66 = .ok (.iconst 1, 1) := by decide +kernel
theorem dX4_readComparison_67 : decode cX4_readComparison 67 = .ok (.goto 4, 3) := by decide +kernel
theorem dX4_readComparison_70 : decode cX4_readComparison 70 = .ok (.iconst 0, 1) := by decide +kernel
theorem dX4_readComparison_71 : decode cX4_readComparison 71 = .ok (.ireturn, 1) := by decide +kernel
theorem dX4_readSum_0 : decode cX4_readSum 0 = .ok (.aload_n 0, 1) := by decide +kernel
theorem dX4_readSum_1 : decode cX4_readSum 1 = .ok (.iload_n 1, 1) := by decide +kernel
theorem dX4_readSum_2 : decode cX4_readSum 2 = .ok (.invokevirtual 63, 3) := by decide +kernel
theorem dX4_readSum_5 : decode cX4_readSum 5 = .ok (.ifCond .ne 5, 3) := by decide +kernel
theorem dX4_readSum_8 : decode cX4_readSum 8 = .ok (.iconst 0, 1) := by decide +kernel
theorem dX4_readSum_9 : decode cX4_readSum 9 = .ok (.ireturn, 1) := by decide +kernel
theorem dX4_readSum_10 : decode cX4_readSum 10 = .ok (.iconst 0, 1) := by decide +kernel
theorem dX4_readSum_11 : decode cX4_readSum 11 = .ok (.istore_n 2, 1) := by decide +kernel
theorem dX4_readSum_12 : decode cX4_readSum 12 = .ok (.iconst 0, 1) := by decide +kernel
theorem dX4_readSum_13 : decode cX4_readSum 13 = .ok (.istore_n 3, 1) := by decide +kernel
theorem dX4_readSum_14 : decode cX4_readSum 14 = .ok (.iload_n 3, 1) := by decide +kernel
theorem dX4_readSum_15 : decode cX4_readSum 15 = .ok (.sipush 240, 3) := by decide +kernel
theorem dX4_readSum_18 : decode cX4_readSum 18 = .ok (.if_icmp .gt 109, 3) := by decide +kernel
theorem dX4_readSum_21 : decode cX4_readSum 21 = .ok (.aload_n 0, 1) := by decide +kernel
theorem dX4_readSum_22 : decode cX4_readSum 22 = .ok (.aload_n 0, 1) := by decide +kernel
theorem dX4_readSum_23 : decode cX4_readSum 23 = .ok (.getfield 21, 3) := by decide +kernel
theorem dX4_readSum_26 : decode cX4_readSum 26 = .ok (.invokevirtual 41, 3) := by decide +kernel
theorem dX4_readSum_29 : decode cX4_readSum 29 = .ok (.invokevirtual 66, 3) := by decide +kernel
theorem dX4_readSum_32 : decode cX4_readSum 32 = .ok (.istore 4, 2) := by decide +kernel
theorem dX4_readSum_34 : decode cX4_readSum 34 = .ok (.iload 4, 2) := by decide +kernel
theorem dX4_readSum_36 : decode cX4_readSum 36 = .ok (.ifCond .ne 6, 3) := by decide +kernel
theorem dX4_readSum_39 : decode cX4_readSum 39 = .ok (.goto 88, 3) := by decide +kernel
theorem dX4_readSum_42 : decode cX4_readSum 42 = .ok (.iload 4, 2) := by decide +kernel
theorem dX4_readSum_44 : decode cX4_readSum 44 = .ok (.bipush (-11), 2) := by decide +kernel
theorem dX4_readSum_46 : decode cX4_readSum 46 = .ok (.if_icmp .eq 10, 3) := by decide +kernel
theorem dX4_readSum_49 : decode cX4_readSum 49 = .ok (.iload 4, 2) := by decide +kernel
theorem dX4_readSum_51 : decode cX4_readSum 51 = .ok (.bipush (-12), 2) := by decide +kernel
theorem dX4_readSum_53 : decode cX4_readSum 53 = .ok (.if_icmp .ne 7, 3) := by decide +kernel
theorem dX4_readSum_56 : decode cX4_readSum 56 = .ok (.iconst 1, 1) := by decide +kernel
theorem dX4_readSum_57 : decode cX4_readSum 57 = .ok (.goto 4, 3) := by decide +kernel
theorem dX4_readSum_60 : decode cX4_readSum 60 = .ok (.iconst 0, 1) := by decide +kernel
theorem dX4_readSum_61 : decode cX4_readSum 61 = .ok (.istore 5, 2) := by decide +kernel
theorem dX4_readSum_63 : decode cX4_readSum 63 = .ok (.aload_n 0, 1) := by decide +kernel
theorem dX4_readSum_64 : decode cX4_readSum 64 = .ok (.getfield 21, 3) := by decide +kernel
theorem dX4_readSum_67 : decode cX4_readSum 67 = .ok (.invokevirtual 60, 3) := by decide +kernel
theorem dX4_readSum_70 : decode cX4_readSum 70 = .ok (.iload 5, 2) := by decide +kernel
theorem dX4_readSum_72 : decode cX4_readSum 72 = .ok (.ifCond .eq 17, 3) := by decide +kernel
theorem dX4_readSum_75 : decode cX4_readSum 75 = .ok (.iload_n 2, 1) := by decide +kernel
theorem dX4_readSum_76 : decode cX4_readSum 76 = .ok (.ifCond .eq 13, 3) := by decide +kernel
theorem dX4_readSum_79 : decode cX4_readSum 79 = .ok (.aload_n 0, 1) := by decide +kernel
theorem dX4_readSum_80 : decode cX4_readSum 80 = .ok (.iload_n 2, 1) := by decide +kernel
theorem dX4_readSum_81 : decode cX4_readSum 81 = .ok (.invokevirtual 34, 3) := by decide +kernel
theorem dX4_readSum_84 : decode cX4_readSum 84 = .ok (.ifCond .ne 5, 3) := by decide +kernel
theorem dX4_readSum_87 : decode cX4_readSum 87 = .ok (.iconst 0, 1) := by decide +kernel
theorem dX4_readSum_88 : decode cX4_readSum 88 = .ok (.ireturn, 1) := by decide +kernel
theorem dX4_readSum_89 : decode cX4_readSum 89 = .ok (.aload_n 0, 1) := by decide +kernel
theorem dX4_readSum_90 : decode cX4_readSum 90 = .ok (.iload_n 1, 1) := by decide +kernel
theorem dX4_readSum_91 : decode cX4_readSum 91 = .ok (.invokevirtual 63, 3) := by decide +kernel
theorem dX4_readSum_94 : decode cX4_readSum 94 = .ok (.ifCond .eq 17, 3) := by decide +kernel
theorem dX4_readSum_97 : decode cX4_readSum 97 = .ok (.iload 5, 2) := by decide +kernel
theorem dX4_readSum_99 : decode cX4_readSum 99 = .ok (.ifCond .ne 14, 3) := by decide +kernel
theorem dX4_readSum_102 : decode cX4_readSum 102 = .ok (.aload_n 0, 1) := by decide +kernel
theorem dX4_readSum_103 : decode cX4_readSum 103 = .ok (.iload 4, 2) := by decide +kernel
theorem dX4_readSum_105 : decode cX4_readSum 105 = .ok (.invokevirtual 34, 3) := by decide +kernel
theorem dX4_readSum_108 : decode cX4_readSum 108 = .ok (.ifCond .ne 5, 3) := by decide +kernel
theorem dX4_readSum_111 : decode cX4_readSum 111 = .ok (.iconst 0, 1) := by decide +kernel
theorem dX4_readSum_112 : decode cX4_readSum 112 = .ok (.ireturn, 1) := by decide +kernel
theorem dX4_readSum_113 : decode cX4_readSum 113 = .ok (.iload 5, 2) := by decide +kernel
theorem dX4_readSum_115 : decode cX4_readSum 115 = .ok (.ifCond .eq 6, 3) := by decide +kernel
theorem dX4_readSum_118 : decode cX4_readSum 118 = .ok (.iload 4, 2) := by decide +kernel
theorem dX4_readSum_120 : decode cX4_readSum 120 = .ok (.istore_n 2, 1) := by decide +kernel
theorem dX4_readSum_121 : decode cX4_readSum 121 = .ok (.iinc 3 1, 3) := by decide +kernel
theorem dX4_readSum_124 : decode cX4_readSum 124 = .ok (.goto (-110), 3) := by decide +kernel
theorem dX4_readSum_127 : decode cX4_readSum 127 = .ok (.iload_n 2, 1) := by decide +kernel
theorem dX4_readSum_128 : decode cX4_readSum 128 = .ok (.ifCond .eq 11, 3) := by decide +kernel
theorem dX4_readSum_131 : decode cX4_readSum 131 = .ok (.aload_n 0, 1) := by decide +kernel
theorem dX4_readSum_132 : decode cX4_readSum 132 = .ok (.iload_n 2, 1) := by decide +kernel
theorem dX4_readSum_133 : decode cX4_readSum 133 = .ok (.invokevirtual 34, 3) := by decide +kernel
theorem dX4_readSum_136 : decode cX4_readSum 136 = .ok (.ifCond .eq 7, 3) := by decide +kernel
theorem dX4_readSum_139 : decode cX4_readSum 139 = .ok (.iconst 1, 1) := by decide +kernel
theorem dX4_readSum_140 : decode cX4_readSum 140 = .ok (.goto 4, 3) := by decide +kernel
theorem dX4_readSum_143 : decode cX4_readSum 143 = .ok (.iconst 0, 1) := by decide +kernel
theorem dX4_readSum_144 : decode cX4_readSum 144 = .ok (.ireturn, 1) := by decide +kernel
theorem dX4_joining_0 : decode cX4_joining 0 = .ok (.iload_n 1, 1) := by decide +kernel
theorem dX4_joining_1 : decode cX4_joining 1 = .ok (.tableswitch 51 42 47 #[45, 39, 51, 42, 51, 48], 39) := by decide +kernel
theorem dX4_joining_40 : decode cX4_joining 40 = .ok (.bipush (-11), 2) := by decide +kernel
theorem dX4_joining_42 : decode cX4_joining 42 = .ok (.ireturn, 1) := by decide +kernel
theorem dX4_joining_43 : decode cX4_joining 43 = .ok (.bipush (-12), 2) := by decide +kernel
theorem dX4_joining_45 : decode cX4_joining 45 = .ok (.ireturn, 1) := by decide +kernel
theorem dX4_joining_46 : decode cX4_joining 46 = .ok (.bipush (-13), 2) := by decide +kernel
theorem dX4_joining_48 : decode cX4_joining 48 = .ok (.ireturn, 1) := by decide +kernel
theorem dX4_joining_49 : decode cX4_joining 49 = .ok (.bipush (-14), 2) := by decide +kernel
theorem dX4_joining_51 : decode cX4_joining 51 = .ok (.ireturn, 1) := by decide +kernel
theorem dX4_joining_52 : decode cX4_joining 52 = .ok (.iconst 0, 1) := by decide +kernel
theorem dX4_joining_53 : decode cX4_joining 53 = .ok (.ireturn, 1) := by decide +kernel
theorem dX4_readAtom_0 : decode cX4_readAtom 0 = .ok (.aload_n 0, 1) := by decide +kernel
theorem dX4_readAtom_1 : decode cX4_readAtom 1 = .ok (.getfield 21, 3) := by decide +kernel
theorem dX4_readAtom_4 : decode cX4_readAtom 4 = .ok (.invokevirtual 41, 3) := by decide +kernel
theorem dX4_readAtom_7 : decode cX4_readAtom 7 = .ok (.istore_n 2, 1) := by decide +kernel
theorem dX4_readAtom_8 : decode cX4_readAtom 8 = .ok (.iload_n 2, 1) := by decide +kernel
theorem dX4_readAtom_9 : decode cX4_readAtom 9 = .ok (.bipush 91, 2) := by decide +kernel
theorem dX4_readAtom_11 : decode cX4_readAtom 11 = .ok (.if_icmp .ne 51, 3) := by decide +kernel
theorem dX4_readAtom_14 : decode cX4_readAtom 14 = .ok (.iload_n 1, 1) := by decide +kernel
theorem dX4_readAtom_15 : decode cX4_readAtom 15 = .ok (.bipush 6, 2) := by decide +kernel
theorem dX4_readAtom_17 : decode cX4_readAtom 17 = .ok (.if_icmp .lt 5, 3) := by decide +kernel
theorem dX4_readAtom_20 : decode cX4_readAtom 20 = .ok (.iconst 0, 1) := by decide +kernel
theorem dX4_readAtom_21 : decode cX4_readAtom 21 = .ok (.ireturn, 1) := by decide +kernel
theorem dX4_readAtom_22 : decode cX4_readAtom 22 = .ok (.aload_n 0, 1) := by decide +kernel
theorem dX4_readAtom_23 : decode cX4_readAtom 23 = .ok (.getfield 21, 3) := by decide +kernel
theorem dX4_readAtom_26 : decode cX4_readAtom 26 = .ok (.invokevirtual 60, 3) := by decide +kernel
theorem dX4_readAtom_29 : decode cX4_readAtom 29 = .ok (.aload_n 0, 1) := by decide +kernel
theorem dX4_readAtom_30 : decode cX4_readAtom 30 = .ok (.iload_n 1, 1) := by decide +kernel
theorem dX4_readAtom_31 : decode cX4_readAtom 31 = .ok (.iconst 1, 1) := by decide +kernel
theorem dX4_readAtom_32 : decode cX4_readAtom 32 = .ok (.iadd, 1) := by decide +kernel
theorem dX4_readAtom_33 : decode cX4_readAtom 33 = .ok (.invokevirtual 45, 3) := by decide +kernel
theorem dX4_readAtom_36 : decode cX4_readAtom 36 = .ok (.ifCond .eq 15, 3) := by decide +kernel
theorem dX4_readAtom_39 : decode cX4_readAtom 39 = .ok (.aload_n 0, 1) := by decide +kernel
theorem dX4_readAtom_40 : decode cX4_readAtom 40 = .ok (.getfield 21, 3) := by decide +kernel
theorem dX4_readAtom_43 : decode cX4_readAtom 43 = .ok (.invokevirtual 41, 3) := by decide +kernel
theorem dX4_readAtom_46 : decode cX4_readAtom 46 = .ok (.bipush 93, 2) := by decide +kernel
theorem dX4_readAtom_48 : decode cX4_readAtom 48 = .ok (.if_icmp .eq 5, 3) := by decide +kernel
theorem dX4_readAtom_51 : decode cX4_readAtom 51 = .ok (.iconst 0, 1) := by decide +kernel
theorem dX4_readAtom_52 : decode cX4_readAtom 52 = .ok (.ireturn, 1) := by decide +kernel
theorem dX4_readAtom_53 : decode cX4_readAtom 53 = .ok (.aload_n 0, 1) := by decide +kernel
theorem dX4_readAtom_54 : decode cX4_readAtom 54 = .ok (.getfield 21, 3) := by decide +kernel
theorem dX4_readAtom_57 : decode cX4_readAtom 57 = .ok (.invokevirtual 60, 3) := by decide +kernel
theorem dX4_readAtom_60 : decode cX4_readAtom 60 = .ok (.iconst 1, 1) := by decide +kernel
theorem dX4_readAtom_61 : decode cX4_readAtom 61 = .ok (.ireturn, 1) := by decide +kernel
theorem dX4_readAtom_62 : decode cX4_readAtom 62 = .ok (.iload_n 2, 1) := by decide +kernel
theorem dX4_readAtom_63 : decode cX4_readAtom 63 = .ok (.iconst (-1), 1) := by decide +kernel
theorem dX4_readAtom_64 : decode cX4_readAtom 64 = .ok (.if_icmp .ne 7, 3) := by decide +kernel
theorem dX4_readAtom_67 : decode cX4_readAtom 67 = .ok (.iconst (-1), 1) := by decide +kernel
theorem dX4_readAtom_68 : decode cX4_readAtom 68 = .ok (.goto 10, 3) := by decide +kernel
theorem dX4_readAtom_71 : decode cX4_readAtom 71 = .ok (.ldc 70, 2) := by decide +kernel
theorem dX4_readAtom_73 : decode cX4_readAtom 73 = .ok (.iload_n 2, 1) := by decide +kernel
theorem dX4_readAtom_74 : decode cX4_readAtom 74 = .ok (.i2c, 1) := by decide +kernel
theorem dX4_readAtom_75 : decode cX4_readAtom 75 = .ok (.invokevirtual 72, 3) := by decide +kernel
theorem dX4_readAtom_78 : decode cX4_readAtom 78 = .ok (.istore_n 3, 1) := by decide +kernel
theorem dX4_readAtom_79 : decode cX4_readAtom 79 = .ok (.iload_n 3, 1) := by decide +kernel
theorem dX4_readAtom_80 : decode cX4_readAtom 80 = .ok (.ifCond .lt 18, 3) := by decide +kernel
theorem dX4_readAtom_83 : decode cX4_readAtom 83 = .ok (.aload_n 0, 1) := by decide +kernel
theorem dX4_readAtom_84 : decode cX4_readAtom 84 = .ok (.getfield 21, 3) := by decide +kernel
theorem dX4_readAtom_87 : decode cX4_readAtom 87 = .ok (.invokevirtual 60, 3) := by decide +kernel
theorem dX4_readAtom_90 : decode cX4_readAtom 90 = .ok (.aload_n 0, 1) := by decide +kernel
theorem dX4_readAtom_91 : decode cX4_readAtom 91 = .ok (.iconst (-1), 1) := by decide +kernel
theorem dX4_readAtom_92 : decode cX4_readAtom 92 = .ok (.iload_n 3, 1) := by decide +kernel
theorem dX4_readAtom_93 : decode cX4_readAtom 93 = .ok (.isub, 1) := by decide +kernel
theorem dX4_readAtom_94 : decode cX4_readAtom 94 = .ok (.invokevirtual 34, 3) := by decide +kernel
theorem dX4_readAtom_97 : decode cX4_readAtom 97 = .ok (.ireturn, 1) := by decide +kernel
theorem dX4_readAtom_98 : decode cX4_readAtom 98 = .ok (.aload_n 0, 1) := by decide +kernel
theorem dX4_readAtom_99 : decode cX4_readAtom 99 = .ok (.getfield 21, 3) := by decide +kernel
theorem dX4_readAtom_102 : decode cX4_readAtom 102 = .ok (.iconst 4, 1) := by decide +kernel
theorem dX4_readAtom_103 : decode cX4_readAtom 103 = .ok (.iconst 0, 1) := by decide +kernel
theorem dX4_readAtom_104 : decode cX4_readAtom 104 = .ok (.sipush 9999, 3) := by decide +kernel
theorem dX4_readAtom_107 : decode cX4_readAtom 107 = .ok (.invokevirtual 77, 3) := by decide +kernel
theorem dX4_readAtom_110 : decode cX4_readAtom 110 = .ok (.istore 4, 2) := by decide +kernel
theorem dX4_readAtom_112 : decode cX4_readAtom 112 = .ok (.iload 4, 2) := by decide +kernel
theorem dX4_readAtom_114 : decode cX4_readAtom 114 = .ok (.iconst (-1), 1) := by decide +kernel
theorem dX4_readAtom_115 : decode cX4_readAtom 115 = .ok (.if_icmp .eq 16, 3) := by decide +kernel
theorem dX4_readAtom_118 : decode cX4_readAtom 118 = .ok (.aload_n 0, 1) := by decide +kernel
theorem dX4_readAtom_119 : decode cX4_readAtom 119 = .ok (.iload 4, 2) := by decide +kernel
theorem dX4_readAtom_121 : decode cX4_readAtom 121 = .ok (.invokevirtual 34, 3) := by decide +kernel
theorem dX4_readAtom_124 : decode cX4_readAtom 124 = .ok (.ifCond .eq 7, 3) := by decide +kernel
theorem dX4_readAtom_127 : decode cX4_readAtom 127 = .ok (.iconst 1, 1) := by decide +kernel
theorem dX4_readAtom_128 : decode cX4_readAtom 128 = .ok (.goto 4, 3) := by decide +kernel
theorem dX4_readAtom_131 : decode cX4_readAtom 131 = .ok (.iconst 0, 1) := by decide +kernel
theorem dX4_readAtom_132 : decode cX4_readAtom 132 = .ok (.ireturn, 1) := by decide +kernel
theorem dX5_init_0 : decode cX5_init 0 = .ok (.aload_n 0, 1) := by decide +kernel
theorem dX5_init_1 : decode cX5_init 1 = .ok (.invokespecial 3, 3) := by decide +kernel
theorem dX5_init_4 : decode cX5_init 4 = .ok (.aload_n 0, 1) := by decide +kernel
theorem dX5_init_5 : decode cX5_init 5 = .ok (.iconst 0, 1) := by decide +kernel
theorem dX5_init_6 : decode cX5_init 6 = .ok (.putfield 9, 3) := by decide +kernel
theorem dX5_init_9 : decode cX5_init 9 = .ok (.aload_n 0, 1) := by decide +kernel
theorem dX5_init_10 : decode cX5_init 10 = .ok (.iconst (-1), 1) := by decide +kernel
theorem dX5_init_11 : decode cX5_init 11 = .ok (.putfield 15, 3) := by decide +kernel
theorem dX5_init_14 : decode cX5_init 14 = .ok (.aload_n 0, 1) := by decide +kernel
theorem dX5_init_15 : decode cX5_init 15 = .ok (.bipush 6, 2) := by decide +kernel
theorem dX5_init_17 : decode cX5_init 17 = .ok (.newarray .int, 2) := by decide +kernel
theorem dX5_init_19 : decode cX5_init 19 = .ok (.putfield 18, 3) := by decide +kernel
theorem dX5_init_22 : decode cX5_init 22 = .ok (.aload_n 0, 1) := by decide +kernel
theorem dX5_init_23 : decode cX5_init 23 = .ok (.iconst 4, 1) := by decide +kernel
theorem dX5_init_24 : decode cX5_init 24 = .ok (.sipush 240, 3) := by decide +kernel
theorem dX5_init_27 : decode cX5_init 27 = .ok (.multianewarray 24 2, 4) := by decide +kernel
theorem dX5_init_31 : decode cX5_init 31 = .ok (.putfield 26, 3) := by decide +kernel
theorem dX5_init_34 : decode cX5_init 34 = .ok (.aload_n 0, 1) := by decide +kernel
theorem dX5_init_35 : decode cX5_init 35 = .ok (.iconst 4, 1) := by decide +kernel
theorem dX5_init_36 : decode cX5_init 36 = .ok (.newarray .int, 2) := by decide +kernel
theorem dX5_init_38 : decode cX5_init 38 = .ok (.putfield 29, 3) := by decide +kernel
theorem dX5_init_41 : decode cX5_init 41 = .ok (.aload_n 0, 1) := by decide +kernel
theorem dX5_init_42 : decode cX5_init 42 = .ok (.bipush 32, 2) := by decide +kernel
theorem dX5_init_44 : decode cX5_init 44 = .ok (.newarray .int, 2) := by decide +kernel
theorem dX5_init_46 : decode cX5_init 46 = .ok (.putfield 32, 3) := by decide +kernel
theorem dX5_init_49 : decode cX5_init 49 = .ok (.return_, 1) := by decide +kernel
theorem dX5_keepNext_0 : decode cX5_keepNext 0 = .ok (.aload_n 0, 1) := by decide +kernel
theorem dX5_keepNext_1 : decode cX5_keepNext 1 = .ok (.getfield 9, 3) := by decide +kernel
theorem dX5_keepNext_4 : decode cX5_keepNext 4 = .ok (.iconst 4, 1) := by decide +kernel
theorem dX5_keepNext_5 : decode cX5_keepNext 5 = .ok (.if_icmp .ge 20, 3) := by decide +kernel
theorem dX5_keepNext_8 : decode cX5_keepNext 8 = .ok (.iload_n 2, 1) := by decide +kernel
theorem dX5_keepNext_9 : decode cX5_keepNext 9 = .ok (.ifCond .lt 16, 3) := by decide +kernel
theorem dX5_keepNext_12 : decode cX5_keepNext 12 = .ok (.iload_n 2, 1) := by decide +kernel
theorem dX5_keepNext_13 : decode cX5_keepNext 13 = .ok (.sipush 240, 3) := by decide +kernel
theorem dX5_keepNext_16 : decode cX5_keepNext 16 = .ok (.if_icmp .gt 9, 3) := by decide +kernel
theorem dX5_keepNext_19 : decode cX5_keepNext 19 = .ok (.iload_n 2, 1) := by decide +kernel
theorem dX5_keepNext_20 : decode cX5_keepNext 20 = .ok (.aload_n 1, 1) := by decide +kernel
theorem dX5_keepNext_21 : decode cX5_keepNext 21 = .ok (.arraylength, 1) := by decide +kernel
theorem dX5_keepNext_22 : decode cX5_keepNext 22 = .ok (.if_icmp .le 5, 3) := by decide +kernel
theorem dX5_keepNext_25 : decode cX5_keepNext 25 = .ok (.iconst (-1), 1) := by decide +kernel
theorem dX5_keepNext_26 : decode cX5_keepNext 26 = .ok (.ireturn, 1) := by decide +kernel
theorem dX5_keepNext_27 : decode cX5_keepNext 27 = .ok (.aload_n 1, 1) := by decide +kernel
theorem dX5_keepNext_28 : decode cX5_keepNext 28 = .ok (.iconst 0, 1) := by decide +kernel
theorem dX5_keepNext_29 : decode cX5_keepNext 29 = .ok (.aload_n 0, 1) := by decide +kernel
theorem dX5_keepNext_30 : decode cX5_keepNext 30 = .ok (.getfield 26, 3) := by decide +kernel
theorem dX5_keepNext_33 : decode cX5_keepNext 33 = .ok (.aload_n 0, 1) := by decide +kernel
theorem dX5_keepNext_34 : decode cX5_keepNext 34 = .ok (.getfield 9, 3) := by decide +kernel
theorem dX5_keepNext_37 : decode cX5_keepNext 37 = .ok (.aaload, 1) := by decide +kernel
theorem dX5_keepNext_38 : decode cX5_keepNext 38 = .ok (.iconst 0, 1) := by decide +kernel
theorem dX5_keepNext_39 : decode cX5_keepNext 39 = .ok (.iload_n 2, 1) := by decide +kernel
theorem dX5_keepNext_40 : decode cX5_keepNext 40 = .ok (.invokestatic 35, 3) := by decide +kernel
theorem dX5_keepNext_43 : decode cX5_keepNext 43 = .ok (.aload_n 0, 1) := by decide +kernel
theorem dX5_keepNext_44 : decode cX5_keepNext 44 = .ok (.getfield 29, 3) := by decide +kernel
theorem dX5_keepNext_47 : decode cX5_keepNext 47 = .ok (.aload_n 0, 1) := by decide +kernel
theorem dX5_keepNext_48 : decode cX5_keepNext 48 = .ok (.getfield 9, 3) := by decide +kernel
theorem dX5_keepNext_51 : decode cX5_keepNext 51 = .ok (.iload_n 2, 1) := by decide +kernel
theorem dX5_keepNext_52 : decode cX5_keepNext 52 = .ok (.iastore, 1) := by decide +kernel
theorem dX5_keepNext_53 : decode cX5_keepNext 53 = .ok (.aload_n 0, 1) := by decide +kernel
theorem dX5_keepNext_54 : decode cX5_keepNext 54 = .ok (.dup, 1) := by decide +kernel
theorem dX5_keepNext_55 : decode cX5_keepNext 55 = .ok (.getfield 9, 3) := by decide +kernel
theorem dX5_keepNext_58 : decode cX5_keepNext 58 = .ok (.iconst 1, 1) := by decide +kernel
theorem dX5_keepNext_59 : decode cX5_keepNext 59 = .ok (.iadd, 1) := by decide +kernel
theorem dX5_keepNext_60 : decode cX5_keepNext 60 = .ok (.putfield 9, 3) := by decide +kernel
theorem dX5_keepNext_63 : decode cX5_keepNext 63 = .ok (.aload_n 0, 1) := by decide +kernel
theorem dX5_keepNext_64 : decode cX5_keepNext 64 = .ok (.getfield 9, 3) := by decide +kernel
theorem dX5_keepNext_67 : decode cX5_keepNext 67 = .ok (.iconst 1, 1) := by decide +kernel
theorem dX5_keepNext_68 : decode cX5_keepNext 68 = .ok (.isub, 1) := by decide +kernel
theorem dX5_keepNext_69 : decode cX5_keepNext 69 = .ok (.ireturn, 1) := by decide +kernel
theorem dX5_worth_0 : decode cX5_worth 0 = .ok (.aload_n 0, 1) := by decide +kernel
theorem dX5_worth_1 : decode cX5_worth 1 = .ok (.getfield 15, 3) := by decide +kernel
theorem dX5_worth_4 : decode cX5_worth 4 = .ok (.ifCond .lt 14, 3) := by decide +kernel
theorem dX5_worth_7 : decode cX5_worth 7 = .ok (.aload_n 0, 1) := by decide +kernel
theorem dX5_worth_8 : decode cX5_worth 8 = .ok (.getfield 15, 3) := by decide +kernel
theorem dX5_worth_11 : decode cX5_worth 11 = .ok (.aload_n 0, 1) := by decide +kernel
theorem dX5_worth_12 : decode cX5_worth 12 = .ok (.getfield 9, 3) := by decide +kernel
theorem dX5_worth_15 : decode cX5_worth 15 = .ok (.if_icmp .lt 5, 3) := by decide +kernel
theorem dX5_worth_18 : decode cX5_worth 18 = .ok (.iconst 0, 1) := by decide +kernel
theorem dX5_worth_19 : decode cX5_worth 19 = .ok (.ireturn, 1) := by decide +kernel
theorem dX5_worth_20 : decode cX5_worth 20 = .ok (.aload_n 0, 1) := by decide +kernel
theorem dX5_worth_21 : decode cX5_worth 21 = .ok (.getfield 26, 3) := by decide +kernel
theorem dX5_worth_24 : decode cX5_worth 24 = .ok (.aload_n 0, 1) := by decide +kernel
theorem dX5_worth_25 : decode cX5_worth 25 = .ok (.getfield 15, 3) := by decide +kernel
theorem dX5_worth_28 : decode cX5_worth 28 = .ok (.aaload, 1) := by decide +kernel
theorem dX5_worth_29 : decode cX5_worth 29 = .ok (.astore_n 1, 1) := by decide +kernel
theorem dX5_worth_30 : decode cX5_worth 30 = .ok (.iconst 0, 1) := by decide +kernel
theorem dX5_worth_31 : decode cX5_worth 31 = .ok (.istore_n 2, 1) := by decide +kernel
theorem dX5_worth_32 : decode cX5_worth 32 = .ok (.iconst 0, 1) := by decide +kernel
theorem dX5_worth_33 : decode cX5_worth 33 = .ok (.istore_n 3, 1) := by decide +kernel
theorem dX5_worth_34 : decode cX5_worth 34 = .ok (.iload_n 3, 1) := by decide +kernel
theorem dX5_worth_35 : decode cX5_worth 35 = .ok (.aload_n 0, 1) := by decide +kernel
theorem dX5_worth_36 : decode cX5_worth 36 = .ok (.getfield 29, 3) := by decide +kernel
theorem dX5_worth_39 : decode cX5_worth 39 = .ok (.aload_n 0, 1) := by decide +kernel
theorem dX5_worth_40 : decode cX5_worth 40 = .ok (.getfield 15, 3) := by decide +kernel
theorem dX5_worth_43 : decode cX5_worth 43 = .ok (.iaload, 1) := by decide +kernel
theorem dX5_worth_44 : decode cX5_worth 44 = .ok (.if_icmp .ge 177, 3) := by decide +kernel
theorem dX5_worth_47 : decode cX5_worth 47 = .ok (.aload_n 1, 1) := by decide +kernel
theorem dX5_worth_48 : decode cX5_worth 48 = .ok (.iload_n 3, 1) := by decide +kernel
theorem dX5_worth_49 : decode cX5_worth 49 = .ok (.iaload, 1) := by decide +kernel
theorem dX5_worth_50 : decode cX5_worth 50 = .ok (.istore 4, 2) := by decide +kernel
theorem dX5_worth_52 : decode cX5_worth 52 = .ok (.iload 4, 2) := by decide +kernel
theorem dX5_worth_54 : decode cX5_worth 54 = .ok (.bipush (-22), 2) := by decide +kernel
theorem dX5_worth_56 : decode cX5_worth 56 = .ok (.if_icmp .ne 10, 3) := by decide +kernel
theorem dX5_worth_59 : decode cX5_worth 59 = .ok (.aload_n 0, 1) := by decide +kernel
theorem dX5_worth_60 : decode cX5_worth 60 = .ok (.getfield 32, 3) := by decide +kernel
theorem dX5_worth_63 : decode cX5_worth 63 = .ok (.iconst 0, 1) := by decide +kernel
theorem dX5_worth_64 : decode cX5_worth 64 = .ok (.iaload, 1) := by decide +kernel
theorem dX5_worth_65 : decode cX5_worth 65 = .ok (.ireturn, 1) := by decide +kernel
theorem dX5_worth_66 : decode cX5_worth 66 = .ok (.iload 4, 2) := by decide +kernel
theorem dX5_worth_68 : decode cX5_worth 68 = .ok (.bipush (-21), 2) := by decide +kernel
theorem dX5_worth_70 : decode cX5_worth 70 = .ok (.if_icmp .ne 23, 3) := by decide +kernel
theorem dX5_worth_73 : decode cX5_worth 73 = .ok (.iconst 0, 1) := by decide +kernel
theorem dX5_worth_74 : decode cX5_worth 74 = .ok (.istore_n 2, 1) := by decide +kernel
theorem dX5_worth_75 : decode cX5_worth 75 = .ok (.aload_n 0, 1) := by decide +kernel
theorem dX5_worth_76 : decode cX5_worth 76 = .ok (.getfield 32, 3) := by decide +kernel
theorem dX5_worth_79 : decode cX5_worth 79 = .ok (.iconst 0, 1) := by decide +kernel
theorem dX5_worth_80 : decode cX5_worth 80 = .ok (.iaload, 1) := by decide +kernel
theorem dX5_worth_81 : decode cX5_worth 81 = .ok (.ifCond .ne 134, 3) := by decide +kernel
theorem dX5_worth_84 : decode cX5_worth 84 = .ok (.aload_n 0, 1) := by decide +kernel
theorem dX5_worth_85 : decode cX5_worth 85 = .ok (.iload_n 3, 1) := by decide +kernel
theorem dX5_worth_86 : decode cX5_worth 86 = .ok (.invokevirtual 41, 3) := by decide +kernel
theorem dX5_worth_89 : decode cX5_worth 89 = .ok (.istore_n 3, 1) := by decide +kernel
theorem dX5_worth_90 : decode cX5_worth 90 = .ok (.goto 125, 3) := by decide +kernel
theorem dX5_worth_93 : decode cX5_worth 93 = .ok (.iload 4, 2) := by decide +kernel
theorem dX5_worth_95 : decode cX5_worth 95 = .ok (.bipush (-6), 2) := by decide +kernel
theorem dX5_worth_97 : decode cX5_worth 97 = .ok (.if_icmp .lt 45, 3) := by decide +kernel
theorem dX5_worth_100 : decode cX5_worth 100 = .ok (.iload_n 2, 1) := by decide +kernel
theorem dX5_worth_101 : decode cX5_worth 101 = .ok (.aload_n 0, 1) := by decide +kernel
theorem dX5_worth_102 : decode cX5_worth 102 = .ok (.getfield 32, 3) := by decide +kernel
theorem dX5_worth_105 : decode cX5_worth 105 = .ok (.arraylength, 1) := by decide +kernel
theorem dX5_worth_106 : decode cX5_worth 106 = .ok (.if_icmp .lt 5, 3) := by decide +kernel
theorem dX5_worth_109 : decode cX5_worth 109 = .ok (.iconst 0, 1) := by decide +kernel
theorem dX5_worth_110 : decode cX5_worth 110 = .ok (.ireturn, 1) := by decide +kernel
theorem dX5_worth_111 : decode cX5_worth 111 = .ok (.aload_n 0, 1) := by decide +kernel
theorem dX5_worth_112 : decode cX5_worth 112 = .ok (.getfield 32, 3) := by decide +kernel
theorem dX5_worth_115 : decode cX5_worth 115 = .ok (.iload_n 2, 1) := by decide +kernel
theorem dX5_worth_116 : decode cX5_worth 116 = .ok (.iload 4, 2) := by decide +kernel
theorem dX5_worth_118 : decode cX5_worth 118 = .ok (.ifCond .lt 8, 3) := by decide +kernel
theorem dX5_worth_121 : decode cX5_worth 121 = .ok (.iload 4, 2) := by decide +kernel
theorem dX5_worth_123 : decode cX5_worth 123 = .ok (.goto 12, 3) := by decide +kernel
theorem dX5_worth_126 : decode cX5_worth 126 = .ok (.aload_n 0, 1) := by decide +kernel
theorem dX5_worth_127 : decode cX5_worth 127 = .ok (.getfield 18, 3) := by decide +kernel
theorem dX5_worth_130 : decode cX5_worth 130 = .ok (.iconst (-1), 1) := by decide +kernel
theorem dX5_worth_131 : decode cX5_worth 131 = .ok (.iload 4, 2) := by decide +kernel
theorem dX5_worth_133 : decode cX5_worth 133 = .ok (.isub, 1) := by decide +kernel
theorem dX5_worth_134 : decode cX5_worth 134 = .ok (.iaload, 1) := by decide +kernel
theorem dX5_worth_135 : decode cX5_worth 135 = .ok (.iastore, 1) := by decide +kernel
theorem dX5_worth_136 : decode cX5_worth 136 = .ok (.iinc 2 1, 3) := by decide +kernel
theorem dX5_worth_139 : decode cX5_worth 139 = .ok (.goto 76, 3) := by decide +kernel
theorem dX5_worth_142 : decode cX5_worth 142 = .ok (.iload 4, 2) := by decide +kernel
theorem dX5_worth_144 : decode cX5_worth 144 = .ok (.bipush (-20), 2) := by decide +kernel
theorem dX5_worth_146 : decode cX5_worth 146 = .ok (.if_icmp .ne 31, 3) := by decide +kernel
theorem dX5_worth_149 : decode cX5_worth 149 = .ok (.iload_n 2, 1) := by decide +kernel
theorem dX5_worth_150 : decode cX5_worth 150 = .ok (.iconst 1, 1) := by decide +kernel
theorem dX5_worth_151 : decode cX5_worth 151 = .ok (.if_icmp .ge 5, 3) := by decide +kernel
theorem dX5_worth_154 : decode cX5_worth 154 = .ok (.iconst 0, 1) := by decide +kernel
theorem dX5_worth_155 : decode cX5_worth 155 = .ok (.ireturn, 1) := by decide +kernel
theorem dX5_worth_156 : decode cX5_worth 156 = .ok (.aload_n 0, 1) := by decide +kernel
theorem dX5_worth_157 : decode cX5_worth 157 = .ok (.getfield 32, 3) := by decide +kernel
theorem dX5_worth_160 : decode cX5_worth 160 = .ok (.iload_n 2, 1) := by decide +kernel
theorem dX5_worth_161 : decode cX5_worth 161 = .ok (.iconst 1, 1) := by decide +kernel
theorem dX5_worth_162 : decode cX5_worth 162 = .ok (.isub, 1) := by decide +kernel
theorem dX5_worth_163 : decode cX5_worth 163 = .ok (.iconst 1, 1) := by decide +kernel
theorem dX5_worth_164 : decode cX5_worth 164 = .ok (.aload_n 0, 1) := by decide +kernel
theorem dX5_worth_165 : decode cX5_worth 165 = .ok (.getfield 32, 3) := by decide +kernel
theorem dX5_worth_168 : decode cX5_worth 168 = .ok (.iload_n 2, 1) := by decide +kernel
theorem dX5_worth_169 : decode cX5_worth 169 = .ok (.iconst 1, 1) := by decide +kernel
theorem dX5_worth_170 : decode cX5_worth 170 = .ok (.isub, 1) := by decide +kernel
theorem dX5_worth_171 : decode cX5_worth 171 = .ok (.iaload, 1) := by decide +kernel
theorem dX5_worth_172 : decode cX5_worth 172 = .ok (.isub, 1) := by decide +kernel
theorem dX5_worth_173 : decode cX5_worth 173 = .ok (.iastore, 1) := by decide +kernel
theorem dX5_worth_174 : decode cX5_worth 174 = .ok (.goto 41, 3) := by decide +kernel
theorem dX5_worth_177 : decode cX5_worth 177 = .ok (.iload_n 2, 1) := by decide +kernel
theorem dX5_worth_178 : decode cX5_worth 178 = .ok (.iconst 2, 1) := by decide +kernel
theorem dX5_worth_179 : decode cX5_worth 179 = .ok (.if_icmp .ge 5, 3) := by decide +kernel
theorem dX5_worth_182 : decode cX5_worth 182 = .ok (.iconst 0, 1) := by decide +kernel
theorem dX5_worth_183 : decode cX5_worth 183 = .ok (.ireturn, 1) := by decide +kernel
theorem dX5_worth_184 : decode cX5_worth 184 = .ok (.iinc 2 (-1), 3) := by decide +kernel
theorem dX5_worth_187 : decode cX5_worth 187 = .ok (.aload_n 0, 1) := by decide +kernel
theorem dX5_worth_188 : decode cX5_worth 188 = .ok (.getfield 32, 3) := by decide +kernel
theorem dX5_worth_191 : decode cX5_worth 191 = .ok (.iload_n 2, 1) := by decide +kernel
theorem dX5_worth_192 : decode cX5_worth 192 = .ok (.iconst 1, 1) := by decide +kernel
theorem dX5_worth_193 : decode cX5_worth 193 = .ok (.isub, 1) := by decide +kernel
theorem dX5_worth_194 : decode cX5_worth 194 = .ok (.aload_n 0, 1) := by decide +kernel
theorem dX5_worth_195 : decode cX5_worth 195 = .ok (.iload 4, 2) := by decide +kernel
theorem dX5_worth_197 : decode cX5_worth 197 = .ok (.aload_n 0, 1) := by decide +kernel
theorem dX5_worth_198 : decode cX5_worth 198 = .ok (.getfield 32, 3) := by decide +kernel
theorem dX5_worth_201 : decode cX5_worth 201 = .ok (.iload_n 2, 1) := by decide +kernel
theorem dX5_worth_202 : decode cX5_worth 202 = .ok (.iconst 1, 1) := by decide +kernel
theorem dX5_worth_203 : decode cX5_worth 203 = .ok (.isub, 1) := by decide +kernel
theorem dX5_worth_204 : decode cX5_worth 204 = .ok (.iaload, 1) := by decide +kernel
theorem dX5_worth_205 : decode cX5_worth 205 = .ok (.aload_n 0, 1) := by decide +kernel
theorem dX5_worth_206 : decode cX5_worth 206 = .ok (.getfield 32, 3) := by decide +kernel
theorem dX5_worth_209 : decode cX5_worth 209 = .ok (.iload_n 2, 1) := by decide +kernel
theorem dX5_worth_210 : decode cX5_worth 210 = .ok (.iaload, 1) := by decide +kernel
theorem dX5_worth_211 : decode cX5_worth 211 = .ok (.invokevirtual 45, 3) := by decide +kernel
theorem dX5_worth_214 : decode cX5_worth 214 = .ok (.iastore, 1) := by decide +kernel
theorem dX5_worth_215 : decode cX5_worth 215 = .ok (.iinc 3 1, 3) := by decide +kernel
theorem dX5_worth_218 : decode cX5_worth 218 = .ok (.goto (-184), 3) := by decide +kernel
theorem dX5_worth_221 : decode cX5_worth 221 = .ok (.iconst 0, 1) := by decide +kernel
theorem dX5_worth_222 : decode cX5_worth 222 = .ok (.ireturn, 1) := by decide +kernel
theorem dX5_clauseEnd_0 : decode cX5_clauseEnd 0 = .ok (.iload_n 1, 1) := by decide +kernel
theorem dX5_clauseEnd_1 : decode cX5_clauseEnd 1 = .ok (.istore_n 2, 1) := by decide +kernel
theorem dX5_clauseEnd_2 : decode cX5_clauseEnd 2 = .ok (.iload_n 2, 1) := by decide +kernel
theorem dX5_clauseEnd_3 : decode cX5_clauseEnd 3 = .ok (.aload_n 0, 1) := by decide +kernel
theorem dX5_clauseEnd_4 : decode cX5_clauseEnd 4 = .ok (.getfield 29, 3) := by decide +kernel
theorem dX5_clauseEnd_7 : decode cX5_clauseEnd 7 = .ok (.aload_n 0, 1) := by decide +kernel
theorem dX5_clauseEnd_8 : decode cX5_clauseEnd 8 = .ok (.getfield 15, 3) := by decide +kernel
theorem dX5_clauseEnd_11 : decode cX5_clauseEnd 11 = .ok (.iaload, 1) := by decide +kernel
theorem dX5_clauseEnd_12 : decode cX5_clauseEnd 12 = .ok (.if_icmp .ge 25, 3) := by decide +kernel
theorem dX5_clauseEnd_15 : decode cX5_clauseEnd 15 = .ok (.aload_n 0, 1) := by decide +kernel
theorem dX5_clauseEnd_16 : decode cX5_clauseEnd 16 = .ok (.getfield 26, 3) := by decide +kernel
theorem dX5_clauseEnd_19 : decode cX5_clauseEnd 19 = .ok (.aload_n 0, 1) := by decide +kernel
theorem dX5_clauseEnd_20 : decode cX5_clauseEnd 20 = .ok (.getfield 15, 3) := by decide +kernel
theorem dX5_clauseEnd_23 : decode cX5_clauseEnd 23 = .ok (.aaload, 1) := by decide +kernel
theorem dX5_clauseEnd_24 : decode cX5_clauseEnd 24 = .ok (.iload_n 2, 1) := by decide +kernel
theorem dX5_clauseEnd_25 : decode cX5_clauseEnd 25 = .ok (.iaload, 1) := by decide +kernel
theorem dX5_clauseEnd_26 : decode cX5_clauseEnd 26 = .ok (.bipush (-22), 2) := by decide +kernel
theorem dX5_clauseEnd_28 : decode cX5_clauseEnd 28 = .ok (.if_icmp .eq 9, 3) := by decide +kernel
theorem dX5_clauseEnd_31 : decode cX5_clauseEnd 31 = .ok (.iinc 2 1, 3) := by decide +kernel
theorem dX5_clauseEnd_34 : decode cX5_clauseEnd 34 = .ok (.goto (-32), 3) := by decide +kernel
theorem dX5_clauseEnd_37 : decode cX5_clauseEnd 37 = .ok (.iload_n 2, 1) := by decide +kernel
theorem dX5_clauseEnd_38 : decode cX5_clauseEnd 38 = .ok (.ireturn, 1) := by decide +kernel
theorem dX5_join_0 : decode cX5_join 0 = .ok (.iload_n 1, 1) := by decide +kernel
theorem dX5_join_1 : decode cX5_join 1 = .ok (.tableswitch 129 (-18) (-11) #[125, 114, 103, 92, 75, 65, 56, 47], 47) := by decide +kernel
theorem dX5_join_48 : decode cX5_join 48 = .ok (.aload_n 0, 1) := by decide +kernel
theorem dX5_join_49 : decode cX5_join 49 = .ok (.iload_n 2, 1) := by decide +kernel
theorem dX5_join_50 : decode cX5_join 50 = .ok (.iload_n 3, 1) := by decide +kernel
theorem dX5_join_51 : decode cX5_join 51 = .ok (.iadd, 1) := by decide +kernel
theorem dX5_join_52 : decode cX5_join 52 = .ok (.i2l, 1) := by decide +kernel
theorem dX5_join_53 : decode cX5_join 53 = .ok (.invokevirtual 49, 3) := by decide +kernel
theorem dX5_join_56 : decode cX5_join 56 = .ok (.ireturn, 1) := by decide +kernel
theorem dX5_join_57 : decode cX5_join 57 = .ok (.aload_n 0, 1) := by decide +kernel
theorem dX5_join_58 : decode cX5_join 58 = .ok (.iload_n 2, 1) := by decide +kernel
theorem dX5_join_59 : decode cX5_join 59 = .ok (.iload_n 3, 1) := by decide +kernel
theorem dX5_join_60 : decode cX5_join 60 = .ok (.isub, 1) := by decide +kernel
theorem dX5_join_61 : decode cX5_join 61 = .ok (.i2l, 1) := by decide +kernel
theorem dX5_join_62 : decode cX5_join 62 = .ok (.invokevirtual 49, 3) := by decide +kernel
theorem dX5_join_65 : decode cX5_join 65 = .ok (.ireturn, 1) := by decide +kernel
theorem dX5_join_66 : decode cX5_join 66 = .ok (.aload_n 0, 1) := by decide +kernel
theorem dX5_join_67 : decode cX5_join 67 = .ok (.iload_n 2, 1) := by decide +kernel
theorem dX5_join_68 : decode cX5_join 68 = .ok (.i2l, 1) := by decide +kernel
theorem dX5_join_69 : decode cX5_join 69 = .ok (.iload_n 3, 1) := by decide +kernel
theorem dX5_join_70 : decode cX5_join 70 = .ok (.i2l, 1) := by decide +kernel
theorem dX5_join_71 : decode cX5_join 71 = .ok (.lmul, 1) := by decide +kernel
theorem dX5_join_72 : decode cX5_join 72 = .ok (.invokevirtual 49, 3) := by decide +kernel
theorem dX5_join_75 : decode cX5_join 75 = .ok (.ireturn, 1) := by decide +kernel
theorem dX5_join_76 : decode cX5_join 76 = .ok (.iload_n 3, 1) := by decide +kernel
theorem dX5_join_77 : decode cX5_join 77 = .ok (.ifCond .ne 7, 3) := by decide +kernel
theorem dX5_join_80 : decode cX5_join 80 = .ok (.iconst 0, 1) := by decide +kernel
theorem dX5_join_81 : decode cX5_join 81 = .ok (.goto 11, 3) := by decide +kernel
theorem dX5_join_84 : decode cX5_join 84 = .ok (.aload_n 0, 1) := by decide +kernel
theorem dX5_join_85 : decode cX5_join 85 = .ok (.iload_n 2, 1) := by decide +kernel
theorem dX5_join_86 : decode cX5_join 86 = .ok (.iload_n 3, 1) := by decide +kernel
theorem dX5_join_87 : decode cX5_join 87 = .ok (.idiv, 1) := by decide +kernel
theorem dX5_join_88 : decode cX5_join 88 = .ok (.i2l, 1) := by decide +kernel
theorem dX5_join_89 : decode cX5_join 89 = .ok (.invokevirtual 49, 3) := by decide +kernel
theorem dX5_join_92 : decode cX5_join 92 = .ok (.ireturn, 1) := by decide +kernel
theorem dX5_join_93 : decode cX5_join 93 = .ok (.iload_n 2, 1) := by decide +kernel
theorem dX5_join_94 : decode cX5_join 94 = .ok (.iload_n 3, 1) := by decide +kernel
theorem dX5_join_95 : decode cX5_join 95 = .ok (.if_icmp .ne 7, 3) := by decide +kernel
theorem dX5_join_98 : decode cX5_join 98 = .ok (.iconst 1, 1) := by decide +kernel
theorem dX5_join_99 : decode cX5_join 99 = .ok (.goto 4, 3) := by decide +kernel
theorem dX5_join_102 : decode cX5_join 102 = .ok (.iconst 0, 1) := by decide +kernel
theorem dX5_join_103 : decode cX5_join 103 = .ok (.ireturn, 1) := by decide +kernel
theorem dX5_join_104 : decode cX5_join 104 = .ok (.iload_n 2, 1) := by decide +kernel
theorem dX5_join_105 : decode cX5_join 105 = .ok (.iload_n 3, 1) := by decide +kernel
theorem dX5_join_106 : decode cX5_join 106 = .ok (.if_icmp .ge 7, 3) := by decide +kernel
theorem dX5_join_109 : decode cX5_join 109 = .ok (.iconst 1, 1) := by decide +kernel
theorem dX5_join_110 : decode cX5_join 110 = .ok (.goto 4, 3) := by decide +kernel
theorem dX5_join_113 : decode cX5_join 113 = .ok (.iconst 0, 1) := by decide +kernel
theorem dX5_join_114 : decode cX5_join 114 = .ok (.ireturn, 1) := by decide +kernel
theorem dX5_join_115 : decode cX5_join 115 = .ok (.iload_n 2, 1) := by decide +kernel
theorem dX5_join_116 : decode cX5_join 116 = .ok (.iload_n 3, 1) := by decide +kernel
theorem dX5_join_117 : decode cX5_join 117 = .ok (.if_icmp .le 7, 3) := by decide +kernel
theorem dX5_join_120 : decode cX5_join 120 = .ok (.iconst 1, 1) := by decide +kernel
theorem dX5_join_121 : decode cX5_join 121 = .ok (.goto 4, 3) := by decide +kernel
theorem dX5_join_124 : decode cX5_join 124 = .ok (.iconst 0, 1) := by decide +kernel
theorem dX5_join_125 : decode cX5_join 125 = .ok (.ireturn, 1) := by decide +kernel
theorem dX5_join_126 : decode cX5_join 126 = .ok (.iload_n 2, 1) := by decide +kernel
theorem dX5_join_127 : decode cX5_join 127 = .ok (.iload_n 3, 1) := by decide +kernel
theorem dX5_join_128 : decode cX5_join 128 = .ok (.iand, 1) := by decide +kernel
theorem dX5_join_129 : decode cX5_join 129 = .ok (.ireturn, 1) := by decide +kernel
theorem dX5_join_130 : decode cX5_join 130 = .ok (.iload_n 2, 1) := by decide +kernel
theorem dX5_join_131 : decode cX5_join 131 = .ok (.iload_n 3, 1) := by decide +kernel
theorem dX5_join_132 : decode cX5_join 132 = .ok (.ior, 1) := by decide +kernel
theorem dX5_join_133 : decode cX5_join 133 = .ok (.ireturn, 1) := by decide +kernel
theorem dX5_within_0 : decode cX5_within 0 = .ok (.ldc2_w 53, 3) := by decide +kernel
theorem dX5_within_3 : decode cX5_within 3 = .ok (.ldc2_w 55, 3) := by decide +kernel
theorem dX5_within_6 : decode cX5_within 6 = .ok (.lload_n 1, 1) := by decide +kernel
theorem dX5_within_7 : decode cX5_within 7 = .ok (.invokestatic 57, 3) := by decide +kernel
theorem dX5_within_10 : decode cX5_within 10 = .ok (.invokestatic 63, 3) := by decide +kernel
theorem dX5_within_13 : decode cX5_within 13 = .ok (.l2i, 1) := by decide +kernel
theorem dX5_within_14 : decode cX5_within 14 = .ok (.ireturn, 1) := by decide +kernel
theorem dX6_init_0 : decode cX6_init 0 = .ok (.aload_n 0, 1) := by decide +kernel
theorem dX6_init_1 : decode cX6_init 1 = .ok (.invokespecial 3, 3) := by decide +kernel
theorem dX6_init_4 : decode cX6_init 4 = .ok (.aload_n 0, 1) := by decide +kernel
theorem dX6_init_5 : decode cX6_init 5 = .ok (.iconst 0, 1) := by decide +kernel
theorem dX6_init_6 : decode cX6_init 6 = .ok (.putfield 9, 3) := by decide +kernel
theorem dX6_init_9 : decode cX6_init 9 = .ok (.aload_n 0, 1) := by decide +kernel
theorem dX6_init_10 : decode cX6_init 10 = .ok (.iconst 0, 1) := by decide +kernel
theorem dX6_init_11 : decode cX6_init 11 = .ok (.putfield 15, 3) := by decide +kernel
theorem dX6_init_14 : decode cX6_init 14 = .ok (.aload_n 0, 1) := by decide +kernel
theorem dX6_init_15 : decode cX6_init 15 = .ok (.iconst 0, 1) := by decide +kernel
theorem dX6_init_16 : decode cX6_init 16 = .ok (.putfield 18, 3) := by decide +kernel
theorem dX6_init_19 : decode cX6_init 19 = .ok (.aload_n 0, 1) := by decide +kernel
theorem dX6_init_20 : decode cX6_init 20 = .ok (.bipush 8, 2) := by decide +kernel
theorem dX6_init_22 : decode cX6_init 22 = .ok (.newarray .int, 2) := by decide +kernel
theorem dX6_init_24 : decode cX6_init 24 = .ok (.putfield 21, 3) := by decide +kernel
theorem dX6_init_27 : decode cX6_init 27 = .ok (.aload_n 0, 1) := by decide +kernel
theorem dX6_init_28 : decode cX6_init 28 = .ok (.bipush 8, 2) := by decide +kernel
theorem dX6_init_30 : decode cX6_init 30 = .ok (.newarray .int, 2) := by decide +kernel
theorem dX6_init_32 : decode cX6_init 32 = .ok (.putfield 25, 3) := by decide +kernel
theorem dX6_init_35 : decode cX6_init 35 = .ok (.aload_n 0, 1) := by decide +kernel
theorem dX6_init_36 : decode cX6_init 36 = .ok (.bipush 6, 2) := by decide +kernel
theorem dX6_init_38 : decode cX6_init 38 = .ok (.newarray .int, 2) := by decide +kernel
theorem dX6_init_40 : decode cX6_init 40 = .ok (.putfield 28, 3) := by decide +kernel
theorem dX6_init_43 : decode cX6_init 43 = .ok (.aload_n 0, 1) := by decide +kernel
theorem dX6_init_44 : decode cX6_init 44 = .ok (.bipush 6, 2) := by decide +kernel
theorem dX6_init_46 : decode cX6_init 46 = .ok (.newarray .int, 2) := by decide +kernel
theorem dX6_init_48 : decode cX6_init 48 = .ok (.putfield 31, 3) := by decide +kernel
theorem dX6_init_51 : decode cX6_init 51 = .ok (.aload_n 0, 1) := by decide +kernel
theorem dX6_init_52 : decode cX6_init 52 = .ok (.bipush 6, 2) := by decide +kernel
theorem dX6_init_54 : decode cX6_init 54 = .ok (.newarray .int, 2) := by decide +kernel
theorem dX6_init_56 : decode cX6_init 56 = .ok (.putfield 34, 3) := by decide +kernel
theorem dX6_init_59 : decode cX6_init 59 = .ok (.aload_n 0, 1) := by decide +kernel
theorem dX6_init_60 : decode cX6_init 60 = .ok (.bipush 7, 2) := by decide +kernel
theorem dX6_init_62 : decode cX6_init 62 = .ok (.newarray .int, 2) := by decide +kernel
theorem dX6_init_64 : decode cX6_init 64 = .ok (.putfield 37, 3) := by decide +kernel
theorem dX6_init_67 : decode cX6_init 67 = .ok (.aload_n 0, 1) := by decide +kernel
theorem dX6_init_68 : decode cX6_init 68 = .ok (.bipush 6, 2) := by decide +kernel
theorem dX6_init_70 : decode cX6_init 70 = .ok (.newarray .int, 2) := by decide +kernel
theorem dX6_init_72 : decode cX6_init 72 = .ok (.putfield 40, 3) := by decide +kernel
theorem dX6_init_75 : decode cX6_init 75 = .ok (.aload_n 0, 1) := by decide +kernel
theorem dX6_init_76 : decode cX6_init 76 = .ok (.aload_n 1, 1) := by decide +kernel
theorem dX6_init_77 : decode cX6_init 77 = .ok (.putfield 43, 3) := by decide +kernel
theorem dX6_init_80 : decode cX6_init 80 = .ok (.return_, 1) := by decide +kernel
theorem dX6_findBest_0 : decode cX6_findBest 0 = .ok (.aload_n 0, 1) := by decide +kernel
theorem dX6_findBest_1 : decode cX6_findBest 1 = .ok (.invokevirtual 47, 3) := by decide +kernel
theorem dX6_findBest_4 : decode cX6_findBest 4 = .ok (.aload_n 0, 1) := by decide +kernel
theorem dX6_findBest_5 : decode cX6_findBest 5 = .ok (.iconst (-1), 1) := by decide +kernel
theorem dX6_findBest_6 : decode cX6_findBest 6 = .ok (.putfield 9, 3) := by decide +kernel
theorem dX6_findBest_9 : decode cX6_findBest 9 = .ok (.aload_n 0, 1) := by decide +kernel
theorem dX6_findBest_10 : decode cX6_findBest 10 = .ok (.iconst 0, 1) := by decide +kernel
theorem dX6_findBest_11 : decode cX6_findBest 11 = .ok (.putfield 15, 3) := by decide +kernel
theorem dX6_findBest_14 : decode cX6_findBest 14 = .ok (.aload_n 0, 1) := by decide +kernel
theorem dX6_findBest_15 : decode cX6_findBest 15 = .ok (.iconst 0, 1) := by decide +kernel
theorem dX6_findBest_16 : decode cX6_findBest 16 = .ok (.putfield 18, 3) := by decide +kernel
theorem dX6_findBest_19 : decode cX6_findBest 19 = .ok (.aload_n 0, 1) := by decide +kernel
theorem dX6_findBest_20 : decode cX6_findBest 20 = .ok (.iconst 0, 1) := by decide +kernel
theorem dX6_findBest_21 : decode cX6_findBest 21 = .ok (.iconst 0, 1) := by decide +kernel
theorem dX6_findBest_22 : decode cX6_findBest 22 = .ok (.iconst 0, 1) := by decide +kernel
theorem dX6_findBest_23 : decode cX6_findBest 23 = .ok (.iconst 0, 1) := by decide +kernel
theorem dX6_findBest_24 : decode cX6_findBest 24 = .ok (.iconst 0, 1) := by decide +kernel
theorem dX6_findBest_25 : decode cX6_findBest 25 = .ok (.invokevirtual 50, 3) := by decide +kernel
theorem dX6_findBest_28 : decode cX6_findBest 28 = .ok (.return_, 1) := by decide +kernel
theorem dX6_leastClash_0 : decode cX6_leastClash 0 = .ok (.aload_n 0, 1) := by decide +kernel
theorem dX6_leastClash_1 : decode cX6_leastClash 1 = .ok (.invokevirtual 47, 3) := by decide +kernel
theorem dX6_leastClash_4 : decode cX6_leastClash 4 = .ok (.iconst (-1), 1) := by decide +kernel
theorem dX6_leastClash_5 : decode cX6_leastClash 5 = .ok (.istore_n 1, 1) := by decide +kernel
theorem dX6_leastClash_6 : decode cX6_leastClash 6 = .ok (.iconst 1, 1) := by decide +kernel
theorem dX6_leastClash_7 : decode cX6_leastClash 7 = .ok (.istore_n 2, 1) := by decide +kernel
theorem dX6_leastClash_8 : decode cX6_leastClash 8 = .ok (.iload_n 2, 1) := by decide +kernel
theorem dX6_leastClash_9 : decode cX6_leastClash 9 = .ok (.iconst 1, 1) := by decide +kernel
theorem dX6_leastClash_10 : decode cX6_leastClash 10 = .ok (.aload_n 0, 1) := by decide +kernel
theorem dX6_leastClash_11 : decode cX6_leastClash 11 = .ok (.getfield 43, 3) := by decide +kernel
theorem dX6_leastClash_14 : decode cX6_leastClash 14 = .ok (.getfield 54, 3) := by decide +kernel
theorem dX6_leastClash_17 : decode cX6_leastClash 17 = .ok (.ishl, 1) := by decide +kernel
theorem dX6_leastClash_18 : decode cX6_leastClash 18 = .ok (.if_icmp .ge 37, 3) := by decide +kernel
theorem dX6_leastClash_21 : decode cX6_leastClash 21 = .ok (.iload_n 1, 1) := by decide +kernel
theorem dX6_leastClash_22 : decode cX6_leastClash 22 = .ok (.iconst (-1), 1) := by decide +kernel
theorem dX6_leastClash_23 : decode cX6_leastClash 23 = .ok (.if_icmp .eq 14, 3) := by decide +kernel
theorem dX6_leastClash_26 : decode cX6_leastClash 26 = .ok (.iload_n 2, 1) := by decide +kernel
theorem dX6_leastClash_27 : decode cX6_leastClash 27 = .ok (.invokestatic 59, 3) := by decide +kernel
theorem dX6_leastClash_30 : decode cX6_leastClash 30 = .ok (.iload_n 1, 1) := by decide +kernel
theorem dX6_leastClash_31 : decode cX6_leastClash 31 = .ok (.invokestatic 59, 3) := by decide +kernel
theorem dX6_leastClash_34 : decode cX6_leastClash 34 = .ok (.if_icmp .ge 15, 3) := by decide +kernel
theorem dX6_leastClash_37 : decode cX6_leastClash 37 = .ok (.aload_n 0, 1) := by decide +kernel
theorem dX6_leastClash_38 : decode cX6_leastClash 38 = .ok (.iconst 0, 1) := by decide +kernel
theorem dX6_leastClash_39 : decode cX6_leastClash 39 = .ok (.iload_n 2, 1) := by decide +kernel
theorem dX6_leastClash_40 : decode cX6_leastClash 40 = .ok (.iconst 0, 1) := by decide +kernel
theorem dX6_leastClash_41 : decode cX6_leastClash 41 = .ok (.invokevirtual 65, 3) := by decide +kernel
theorem dX6_leastClash_44 : decode cX6_leastClash 44 = .ok (.ifCond .ne 5, 3) := by decide +kernel
theorem dX6_leastClash_47 : decode cX6_leastClash 47 = .ok (.iload_n 2, 1) := by decide +kernel
theorem dX6_leastClash_48 : decode cX6_leastClash 48 = .ok (.istore_n 1, 1) := by decide +kernel
theorem dX6_leastClash_49 : decode cX6_leastClash 49 = .ok (.iinc 2 1, 3) := by decide +kernel
theorem dX6_leastClash_52 : decode cX6_leastClash 52 = .ok (.goto (-44), 3) := by decide +kernel
theorem dX6_leastClash_55 : decode cX6_leastClash 55 = .ok (.iload_n 1, 1) := by decide +kernel
theorem dX6_leastClash_56 : decode cX6_leastClash 56 = .ok (.ireturn, 1) := by decide +kernel
theorem dX6_prepare_0 : decode cX6_prepare 0 = .ok (.iconst 0, 1) := by decide +kernel
theorem dX6_prepare_1 : decode cX6_prepare 1 = .ok (.istore_n 1, 1) := by decide +kernel
theorem dX6_prepare_2 : decode cX6_prepare 2 = .ok (.iload_n 1, 1) := by decide +kernel
theorem dX6_prepare_3 : decode cX6_prepare 3 = .ok (.aload_n 0, 1) := by decide +kernel
theorem dX6_prepare_4 : decode cX6_prepare 4 = .ok (.getfield 43, 3) := by decide +kernel
theorem dX6_prepare_7 : decode cX6_prepare 7 = .ok (.getfield 69, 3) := by decide +kernel
theorem dX6_prepare_10 : decode cX6_prepare 10 = .ok (.if_icmp .ge 20, 3) := by decide +kernel
theorem dX6_prepare_13 : decode cX6_prepare 13 = .ok (.aload_n 0, 1) := by decide +kernel
theorem dX6_prepare_14 : decode cX6_prepare 14 = .ok (.getfield 21, 3) := by decide +kernel
theorem dX6_prepare_17 : decode cX6_prepare 17 = .ok (.iload_n 1, 1) := by decide +kernel
theorem dX6_prepare_18 : decode cX6_prepare 18 = .ok (.aload_n 0, 1) := by decide +kernel
theorem dX6_prepare_19 : decode cX6_prepare 19 = .ok (.iload_n 1, 1) := by decide +kernel
theorem dX6_prepare_20 : decode cX6_prepare 20 = .ok (.invokevirtual 72, 3) := by decide +kernel
theorem dX6_prepare_23 : decode cX6_prepare 23 = .ok (.iastore, 1) := by decide +kernel
theorem dX6_prepare_24 : decode cX6_prepare 24 = .ok (.iinc 1 1, 3) := by decide +kernel
theorem dX6_prepare_27 : decode cX6_prepare 27 = .ok (.goto (-25), 3) := by decide +kernel
theorem dX6_prepare_30 : decode cX6_prepare 30 = .ok (.aload_n 0, 1) := by decide +kernel
theorem dX6_prepare_31 : decode cX6_prepare 31 = .ok (.invokevirtual 75, 3) := by decide +kernel
theorem dX6_prepare_34 : decode cX6_prepare 34 = .ok (.aload_n 0, 1) := by decide +kernel
theorem dX6_prepare_35 : decode cX6_prepare 35 = .ok (.getfield 43, 3) := by decide +kernel
theorem dX6_prepare_38 : decode cX6_prepare 38 = .ok (.getfield 78, 3) := by decide +kernel
theorem dX6_prepare_41 : decode cX6_prepare 41 = .ok (.getfield 82, 3) := by decide +kernel
theorem dX6_prepare_44 : decode cX6_prepare 44 = .ok (.astore_n 1, 1) := by decide +kernel
theorem dX6_prepare_45 : decode cX6_prepare 45 = .ok (.iconst 0, 1) := by decide +kernel
theorem dX6_prepare_46 : decode cX6_prepare 46 = .ok (.istore_n 2, 1) := by decide +kernel
theorem dX6_prepare_47 : decode cX6_prepare 47 = .ok (.iload_n 2, 1) := by decide +kernel
theorem dX6_prepare_48 : decode cX6_prepare 48 = .ok (.aload_n 0, 1) := by decide +kernel
theorem dX6_prepare_49 : decode cX6_prepare 49 = .ok (.getfield 43, 3) := by decide +kernel
theorem dX6_prepare_52 : decode cX6_prepare 52 = .ok (.getfield 54, 3) := by decide +kernel
theorem dX6_prepare_55 : decode cX6_prepare 55 = .ok (.if_icmp .ge 91, 3) := by decide +kernel
theorem dX6_prepare_58 : decode cX6_prepare 58 = .ok (.aload_n 1, 1) := by decide +kernel
theorem dX6_prepare_59 : decode cX6_prepare 59 = .ok (.iload_n 2, 1) := by decide +kernel
theorem dX6_prepare_60 : decode cX6_prepare 60 = .ok (.iconst 2, 1) := by decide +kernel
theorem dX6_prepare_61 : decode cX6_prepare 61 = .ok (.invokevirtual 88, 3) := by decide +kernel
theorem dX6_prepare_64 : decode cX6_prepare 64 = .ok (.istore_n 3, 1) := by decide +kernel
theorem dX6_prepare_65 : decode cX6_prepare 65 = .ok (.iload_n 3, 1) := by decide +kernel
theorem dX6_prepare_66 : decode cX6_prepare 66 = .ok (.aload_n 0, 1) := by decide +kernel
theorem dX6_prepare_67 : decode cX6_prepare 67 = .ok (.getfield 43, 3) := by decide +kernel
theorem dX6_prepare_70 : decode cX6_prepare 70 = .ok (.getfield 54, 3) := by decide +kernel
theorem dX6_prepare_73 : decode cX6_prepare 73 = .ok (.ishr, 1) := by decide +kernel
theorem dX6_prepare_74 : decode cX6_prepare 74 = .ok (.ifCond .eq 7, 3) := by decide +kernel
theorem dX6_prepare_77 : decode cX6_prepare 77 = .ok (.iconst 1, 1) := by decide +kernel
theorem dX6_prepare_78 : decode cX6_prepare 78 = .ok (.goto 4, 3) := by decide +kernel
theorem dX6_prepare_81 : decode cX6_prepare 81 = .ok (.iconst 0, 1) := by decide +kernel
theorem dX6_prepare_82 : decode cX6_prepare 82 = .ok (.istore 4, 2) := by decide +kernel
theorem dX6_prepare_84 : decode cX6_prepare 84 = .ok (.aload_n 0, 1) := by decide +kernel
theorem dX6_prepare_85 : decode cX6_prepare 85 = .ok (.getfield 28, 3) := by decide +kernel
theorem dX6_prepare_88 : decode cX6_prepare 88 = .ok (.iload_n 2, 1) := by decide +kernel
theorem dX6_prepare_89 : decode cX6_prepare 89 = .ok (.iload 4, 2) := by decide +kernel
theorem dX6_prepare_91 : decode cX6_prepare 91 = .ok (.ifCond .eq 7, 3) := by decide +kernel
theorem dX6_prepare_94 : decode cX6_prepare 94 = .ok (.iconst 0, 1) := by decide +kernel
theorem dX6_prepare_95 : decode cX6_prepare 95 = .ok (.goto 10, 3) := by decide +kernel
theorem dX6_prepare_98 : decode cX6_prepare 98 = .ok (.iload_n 3, 1) := by decide +kernel
theorem dX6_prepare_99 : decode cX6_prepare 99 = .ok (.iconst 1, 1) := by decide +kernel
theorem dX6_prepare_100 : decode cX6_prepare 100 = .ok (.iload_n 2, 1) := by decide +kernel
theorem dX6_prepare_101 : decode cX6_prepare 101 = .ok (.ishl, 1) := by decide +kernel
theorem dX6_prepare_102 : decode cX6_prepare 102 = .ok (.iconst (-1), 1) := by decide +kernel
theorem dX6_prepare_103 : decode cX6_prepare 103 = .ok (.ixor, 1) := by decide +kernel
theorem dX6_prepare_104 : decode cX6_prepare 104 = .ok (.iand, 1) := by decide +kernel
theorem dX6_prepare_105 : decode cX6_prepare 105 = .ok (.iastore, 1) := by decide +kernel
theorem dX6_prepare_106 : decode cX6_prepare 106 = .ok (.aload_n 0, 1) := by decide +kernel
theorem dX6_prepare_107 : decode cX6_prepare 107 = .ok (.getfield 34, 3) := by decide +kernel
theorem dX6_prepare_110 : decode cX6_prepare 110 = .ok (.iload_n 2, 1) := by decide +kernel
theorem dX6_prepare_111 : decode cX6_prepare 111 = .ok (.iload 4, 2) := by decide +kernel
theorem dX6_prepare_113 : decode cX6_prepare 113 = .ok (.ifCond .eq 7, 3) := by decide +kernel
theorem dX6_prepare_116 : decode cX6_prepare 116 = .ok (.iconst 0, 1) := by decide +kernel
theorem dX6_prepare_117 : decode cX6_prepare 117 = .ok (.goto 22, 3) := by decide +kernel
theorem dX6_prepare_120 : decode cX6_prepare 120 = .ok (.aload_n 0, 1) := by decide +kernel
theorem dX6_prepare_121 : decode cX6_prepare 121 = .ok (.iload_n 2, 1) := by decide +kernel
theorem dX6_prepare_122 : decode cX6_prepare 122 = .ok (.iload_n 3, 1) := by decide +kernel
theorem dX6_prepare_123 : decode cX6_prepare 123 = .ok (.iload_n 2, 1) := by decide +kernel
theorem dX6_prepare_124 : decode cX6_prepare 124 = .ok (.ishr, 1) := by decide +kernel
theorem dX6_prepare_125 : decode cX6_prepare 125 = .ok (.iconst 1, 1) := by decide +kernel
theorem dX6_prepare_126 : decode cX6_prepare 126 = .ok (.iand, 1) := by decide +kernel
theorem dX6_prepare_127 : decode cX6_prepare 127 = .ok (.iconst 1, 1) := by decide +kernel
theorem dX6_prepare_128 : decode cX6_prepare 128 = .ok (.if_icmp .ne 7, 3) := by decide +kernel
theorem dX6_prepare_131 : decode cX6_prepare 131 = .ok (.iconst 1, 1) := by decide +kernel
theorem dX6_prepare_132 : decode cX6_prepare 132 = .ok (.goto 4, 3) := by decide +kernel
theorem dX6_prepare_135 : decode cX6_prepare 135 = .ok (.iconst 0, 1) := by decide +kernel
theorem dX6_prepare_136 : decode cX6_prepare 136 = .ok (.invokevirtual 94, 3) := by decide +kernel
theorem dX6_prepare_139 : decode cX6_prepare 139 = .ok (.iastore, 1) := by decide +kernel
theorem dX6_prepare_140 : decode cX6_prepare 140 = .ok (.iinc 2 1, 3) := by decide +kernel
theorem dX6_prepare_143 : decode cX6_prepare 143 = .ok (.goto (-96), 3) := by decide +kernel
theorem dX6_prepare_146 : decode cX6_prepare 146 = .ok (.iconst 0, 1) := by decide +kernel
theorem dX6_prepare_147 : decode cX6_prepare 147 = .ok (.istore_n 2, 1) := by decide +kernel
theorem dX6_prepare_148 : decode cX6_prepare 148 = .ok (.iload_n 2, 1) := by decide +kernel
theorem dX6_prepare_149 : decode cX6_prepare 149 = .ok (.aload_n 0, 1) := by decide +kernel
theorem dX6_prepare_150 : decode cX6_prepare 150 = .ok (.getfield 43, 3) := by decide +kernel
theorem dX6_prepare_153 : decode cX6_prepare 153 = .ok (.getfield 54, 3) := by decide +kernel
theorem dX6_prepare_156 : decode cX6_prepare 156 = .ok (.if_icmp .ge 33, 3) := by decide +kernel
theorem dX6_prepare_159 : decode cX6_prepare 159 = .ok (.iconst 0, 1) := by decide +kernel
theorem dX6_prepare_160 : decode cX6_prepare 160 = .ok (.istore_n 3, 1) := by decide +kernel
theorem dX6_prepare_161 : decode cX6_prepare 161 = .ok (.iload_n 3, 1) := by decide +kernel
theorem dX6_prepare_162 : decode cX6_prepare 162 = .ok (.aload_n 0, 1) := by decide +kernel
theorem dX6_prepare_163 : decode cX6_prepare 163 = .ok (.getfield 43, 3) := by decide +kernel
theorem dX6_prepare_166 : decode cX6_prepare 166 = .ok (.getfield 54, 3) := by decide +kernel
theorem dX6_prepare_169 : decode cX6_prepare 169 = .ok (.if_icmp .ge 14, 3) := by decide +kernel
theorem dX6_prepare_172 : decode cX6_prepare 172 = .ok (.aload_n 0, 1) := by decide +kernel
theorem dX6_prepare_173 : decode cX6_prepare 173 = .ok (.iload_n 3, 1) := by decide +kernel
theorem dX6_prepare_174 : decode cX6_prepare 174 = .ok (.invokevirtual 98, 3) := by decide +kernel
theorem dX6_prepare_177 : decode cX6_prepare 177 = .ok (.iinc 3 1, 3) := by decide +kernel
theorem dX6_prepare_180 : decode cX6_prepare 180 = .ok (.goto (-19), 3) := by decide +kernel
theorem dX6_prepare_183 : decode cX6_prepare 183 = .ok (.iinc 2 1, 3) := by decide +kernel
theorem dX6_prepare_186 : decode cX6_prepare 186 = .ok (.goto (-38), 3) := by decide +kernel
theorem dX6_prepare_189 : decode cX6_prepare 189 = .ok (.aload_n 0, 1) := by decide +kernel
theorem dX6_prepare_190 : decode cX6_prepare 190 = .ok (.getfield 37, 3) := by decide +kernel
theorem dX6_prepare_193 : decode cX6_prepare 193 = .ok (.aload_n 0, 1) := by decide +kernel
theorem dX6_prepare_194 : decode cX6_prepare 194 = .ok (.getfield 43, 3) := by decide +kernel
theorem dX6_prepare_197 : decode cX6_prepare 197 = .ok (.getfield 54, 3) := by decide +kernel
theorem dX6_prepare_200 : decode cX6_prepare 200 = .ok (.iconst 0, 1) := by decide +kernel
theorem dX6_prepare_201 : decode cX6_prepare 201 = .ok (.iastore, 1) := by decide +kernel
theorem dX6_prepare_202 : decode cX6_prepare 202 = .ok (.aload_n 0, 1) := by decide +kernel
theorem dX6_prepare_203 : decode cX6_prepare 203 = .ok (.getfield 43, 3) := by decide +kernel
theorem dX6_prepare_206 : decode cX6_prepare 206 = .ok (.getfield 54, 3) := by decide +kernel
theorem dX6_prepare_209 : decode cX6_prepare 209 = .ok (.iconst 1, 1) := by decide +kernel
theorem dX6_prepare_210 : decode cX6_prepare 210 = .ok (.isub, 1) := by decide +kernel
theorem dX6_prepare_211 : decode cX6_prepare 211 = .ok (.istore_n 2, 1) := by decide +kernel
theorem dX6_prepare_212 : decode cX6_prepare 212 = .ok (.iload_n 2, 1) := by decide +kernel
theorem dX6_prepare_213 : decode cX6_prepare 213 = .ok (.ifCond .lt 49, 3) := by decide +kernel
theorem dX6_prepare_216 : decode cX6_prepare 216 = .ok (.aload_n 0, 1) := by decide +kernel
theorem dX6_prepare_217 : decode cX6_prepare 217 = .ok (.getfield 31, 3) := by decide +kernel
theorem dX6_prepare_220 : decode cX6_prepare 220 = .ok (.iload_n 2, 1) := by decide +kernel
theorem dX6_prepare_221 : decode cX6_prepare 221 = .ok (.aload_n 0, 1) := by decide +kernel
theorem dX6_prepare_222 : decode cX6_prepare 222 = .ok (.iload_n 2, 1) := by decide +kernel
theorem dX6_prepare_223 : decode cX6_prepare 223 = .ok (.invokevirtual 102, 3) := by decide +kernel
theorem dX6_prepare_226 : decode cX6_prepare 226 = .ok (.iastore, 1) := by decide +kernel
theorem dX6_prepare_227 : decode cX6_prepare 227 = .ok (.aload_n 0, 1) := by decide +kernel
theorem dX6_prepare_228 : decode cX6_prepare 228 = .ok (.getfield 37, 3) := by decide +kernel
theorem dX6_prepare_231 : decode cX6_prepare 231 = .ok (.iload_n 2, 1) := by decide +kernel
theorem dX6_prepare_232 : decode cX6_prepare 232 = .ok (.aload_n 0, 1) := by decide +kernel
theorem dX6_prepare_233 : decode cX6_prepare 233 = .ok (.getfield 37, 3) := by decide +kernel
theorem dX6_prepare_236 : decode cX6_prepare 236 = .ok (.iload_n 2, 1) := by decide +kernel
theorem dX6_prepare_237 : decode cX6_prepare 237 = .ok (.iconst 1, 1) := by decide +kernel
theorem dX6_prepare_238 : decode cX6_prepare 238 = .ok (.iadd, 1) := by decide +kernel
theorem dX6_prepare_239 : decode cX6_prepare 239 = .ok (.iaload, 1) := by decide +kernel
theorem dX6_prepare_240 : decode cX6_prepare 240 = .ok (.aload_n 0, 1) := by decide +kernel
theorem dX6_prepare_241 : decode cX6_prepare 241 = .ok (.getfield 34, 3) := by decide +kernel
theorem dX6_prepare_244 : decode cX6_prepare 244 = .ok (.iload_n 2, 1) := by decide +kernel
theorem dX6_prepare_245 : decode cX6_prepare 245 = .ok (.iaload, 1) := by decide +kernel
theorem dX6_prepare_246 : decode cX6_prepare 246 = .ok (.ifCond .ne 7, 3) := by decide +kernel
theorem dX6_prepare_249 : decode cX6_prepare 249 = .ok (.iconst 0, 1) := by decide +kernel
theorem dX6_prepare_250 : decode cX6_prepare 250 = .ok (.goto 4, 3) := by decide +kernel
theorem dX6_prepare_253 : decode cX6_prepare 253 = .ok (.iconst 1, 1) := by decide +kernel
theorem dX6_prepare_254 : decode cX6_prepare 254 = .ok (.iadd, 1) := by decide +kernel
theorem dX6_prepare_255 : decode cX6_prepare 255 = .ok (.iastore, 1) := by decide +kernel
theorem dX6_prepare_256 : decode cX6_prepare 256 = .ok (.iinc 2 (-1), 3) := by decide +kernel
theorem dX6_prepare_259 : decode cX6_prepare 259 = .ok (.goto (-47), 3) := by decide +kernel
theorem dX6_prepare_262 : decode cX6_prepare 262 = .ok (.return_, 1) := by decide +kernel
theorem dX6_alikeThings_0 : decode cX6_alikeThings 0 = .ok (.iconst 0, 1) := by decide +kernel
theorem dX6_alikeThings_1 : decode cX6_alikeThings 1 = .ok (.istore_n 2, 1) := by decide +kernel
theorem dX6_alikeThings_2 : decode cX6_alikeThings 2 = .ok (.iconst 0, 1) := by decide +kernel
theorem dX6_alikeThings_3 : decode cX6_alikeThings 3 = .ok (.istore_n 3, 1) := by decide +kernel
theorem dX6_alikeThings_4 : decode cX6_alikeThings 4 = .ok (.iload_n 3, 1) := by decide +kernel
theorem dX6_alikeThings_5 : decode cX6_alikeThings 5 = .ok (.aload_n 0, 1) := by decide +kernel
theorem dX6_alikeThings_6 : decode cX6_alikeThings 6 = .ok (.getfield 43, 3) := by decide +kernel
theorem dX6_alikeThings_9 : decode cX6_alikeThings 9 = .ok (.getfield 69, 3) := by decide +kernel
theorem dX6_alikeThings_12 : decode cX6_alikeThings 12 = .ok (.if_icmp .ge 42, 3) := by decide +kernel
theorem dX6_alikeThings_15 : decode cX6_alikeThings 15 = .ok (.iload_n 3, 1) := by decide +kernel
theorem dX6_alikeThings_16 : decode cX6_alikeThings 16 = .ok (.iload_n 1, 1) := by decide +kernel
theorem dX6_alikeThings_17 : decode cX6_alikeThings 17 = .ok (.if_icmp .eq 31, 3) := by decide +kernel
theorem dX6_alikeThings_20 : decode cX6_alikeThings 20 = .ok (.aload_n 0, 1) := by decide +kernel
theorem dX6_alikeThings_21 : decode cX6_alikeThings 21 = .ok (.getfield 43, 3) := by decide +kernel
theorem dX6_alikeThings_24 : decode cX6_alikeThings 24 = .ok (.getfield 105, 3) := by decide +kernel
theorem dX6_alikeThings_27 : decode cX6_alikeThings 27 = .ok (.iload_n 1, 1) := by decide +kernel
theorem dX6_alikeThings_28 : decode cX6_alikeThings 28 = .ok (.iaload, 1) := by decide +kernel
theorem dX6_alikeThings_29 : decode cX6_alikeThings 29 = .ok (.aload_n 0, 1) := by decide +kernel
theorem dX6_alikeThings_30 : decode cX6_alikeThings 30 = .ok (.getfield 43, 3) := by decide +kernel
theorem dX6_alikeThings_33 : decode cX6_alikeThings 33 = .ok (.getfield 105, 3) := by decide +kernel
theorem dX6_alikeThings_36 : decode cX6_alikeThings 36 = .ok (.iload_n 3, 1) := by decide +kernel
theorem dX6_alikeThings_37 : decode cX6_alikeThings 37 = .ok (.iaload, 1) := by decide +kernel
theorem dX6_alikeThings_38 : decode cX6_alikeThings 38 = .ok (.iand, 1) := by decide +kernel
theorem dX6_alikeThings_39 : decode cX6_alikeThings 39 = .ok (.ifCond .eq 9, 3) := by decide +kernel
theorem dX6_alikeThings_42 : decode cX6_alikeThings 42 = .ok (.iload_n 2, 1) := by decide +kernel
theorem dX6_alikeThings_43 : decode cX6_alikeThings 43 = .ok (.iconst 1, 1) := by decide +kernel
theorem dX6_alikeThings_44 : decode cX6_alikeThings 44 = .ok (.iload_n 3, 1) := by decide +kernel
theorem dX6_alikeThings_45 : decode cX6_alikeThings 45 = .ok (.ishl, 1) := by decide +kernel
theorem dX6_alikeThings_46 : decode cX6_alikeThings 46 = .ok (.ior, 1) := by decide +kernel
theorem dX6_alikeThings_47 : decode cX6_alikeThings 47 = .ok (.istore_n 2, 1) := by decide +kernel
theorem dX6_alikeThings_48 : decode cX6_alikeThings 48 = .ok (.iinc 3 1, 3) := by decide +kernel
theorem dX6_alikeThings_51 : decode cX6_alikeThings 51 = .ok (.goto (-47), 3) := by decide +kernel
theorem dX6_alikeThings_54 : decode cX6_alikeThings 54 = .ok (.iload_n 2, 1) := by decide +kernel
theorem dX6_alikeThings_55 : decode cX6_alikeThings 55 = .ok (.ireturn, 1) := by decide +kernel
theorem dX6_sortByPrice_0 : decode cX6_sortByPrice 0 = .ok (.iconst 0, 1) := by decide +kernel
theorem dX6_sortByPrice_1 : decode cX6_sortByPrice 1 = .ok (.istore_n 1, 1) := by decide +kernel
theorem dX6_sortByPrice_2 : decode cX6_sortByPrice 2 = .ok (.iload_n 1, 1) := by decide +kernel
theorem dX6_sortByPrice_3 : decode cX6_sortByPrice 3 = .ok (.aload_n 0, 1) := by decide +kernel
theorem dX6_sortByPrice_4 : decode cX6_sortByPrice 4 = .ok (.getfield 43, 3) := by decide +kernel
theorem dX6_sortByPrice_7 : decode cX6_sortByPrice 7 = .ok (.getfield 69, 3) := by decide +kernel
theorem dX6_sortByPrice_10 : decode cX6_sortByPrice 10 = .ok (.if_icmp .ge 70, 3) := by decide +kernel
theorem dX6_sortByPrice_13 : decode cX6_sortByPrice 13 = .ok (.iload_n 1, 1) := by decide +kernel
theorem dX6_sortByPrice_14 : decode cX6_sortByPrice 14 = .ok (.istore_n 2, 1) := by decide +kernel
theorem dX6_sortByPrice_15 : decode cX6_sortByPrice 15 = .ok (.iload_n 2, 1) := by decide +kernel
theorem dX6_sortByPrice_16 : decode cX6_sortByPrice 16 = .ok (.ifCond .le 51, 3) := by decide +kernel
theorem dX6_sortByPrice_19 : decode cX6_sortByPrice 19 = .ok (.aload_n 0, 1) := by decide +kernel
theorem dX6_sortByPrice_20 : decode cX6_sortByPrice 20 = .ok (.getfield 43, 3) := by decide +kernel
theorem dX6_sortByPrice_23 : decode cX6_sortByPrice 23 = .ok (.getfield 108, 3) := by decide +kernel
theorem dX6_sortByPrice_26 : decode cX6_sortByPrice 26 = .ok (.aload_n 0, 1) := by decide +kernel
theorem dX6_sortByPrice_27 : decode cX6_sortByPrice 27 = .ok (.getfield 25, 3) := by decide +kernel
theorem dX6_sortByPrice_30 : decode cX6_sortByPrice 30 = .ok (.iload_n 2, 1) := by decide +kernel
theorem dX6_sortByPrice_31 : decode cX6_sortByPrice 31 = .ok (.iconst 1, 1) := by decide +kernel
theorem dX6_sortByPrice_32 : decode cX6_sortByPrice 32 = .ok (.isub, 1) := by decide +kernel
theorem dX6_sortByPrice_33 : decode cX6_sortByPrice 33 = .ok (.iaload, 1) := by decide +kernel
theorem dX6_sortByPrice_34 : decode cX6_sortByPrice 34 = .ok (.iaload, 1) := by decide +kernel
theorem dX6_sortByPrice_35 : decode cX6_sortByPrice 35 = .ok (.aload_n 0, 1) := by decide +kernel
theorem dX6_sortByPrice_36 : decode cX6_sortByPrice 36 = .ok (.getfield 43, 3) := by decide +kernel
theorem dX6_sortByPrice_39 : decode cX6_sortByPrice 39 = .ok (.getfield 108, 3) := by decide +kernel
theorem dX6_sortByPrice_42 : decode cX6_sortByPrice 42 = .ok (.iload_n 1, 1) := by decide +kernel
theorem dX6_sortByPrice_43 : decode cX6_sortByPrice 43 = .ok (.iaload, 1) := by decide +kernel
theorem dX6_sortByPrice_44 : decode cX6_sortByPrice 44 = .ok (.if_icmp .le 23, 3) := by decide +kernel
theorem dX6_sortByPrice_47 : decode cX6_sortByPrice 47 = .ok (.aload_n 0, 1) := by decide +kernel
theorem dX6_sortByPrice_48 : decode cX6_sortByPrice 48 = .ok (.getfield 25, 3) := by decide +kernel
theorem dX6_sortByPrice_51 : decode cX6_sortByPrice 51 = .ok (.iload_n 2, 1) := by decide +kernel
theorem dX6_sortByPrice_52 : decode cX6_sortByPrice 52 = .ok (.aload_n 0, 1) := by decide +kernel
theorem dX6_sortByPrice_53 : decode cX6_sortByPrice 53 = .ok (.getfield 25, 3) := by decide +kernel
theorem dX6_sortByPrice_56 : decode cX6_sortByPrice 56 = .ok (.iload_n 2, 1) := by decide +kernel
theorem dX6_sortByPrice_57 : decode cX6_sortByPrice 57 = .ok (.iconst 1, 1) := by decide +kernel
theorem dX6_sortByPrice_58 : decode cX6_sortByPrice 58 = .ok (.isub, 1) := by decide +kernel
theorem dX6_sortByPrice_59 : decode cX6_sortByPrice 59 = .ok (.iaload, 1) := by decide +kernel
theorem dX6_sortByPrice_60 : decode cX6_sortByPrice 60 = .ok (.iastore, 1) := by decide +kernel
theorem dX6_sortByPrice_61 : decode cX6_sortByPrice 61 = .ok (.iinc 2 (-1), 3) := by decide +kernel
theorem dX6_sortByPrice_64 : decode cX6_sortByPrice 64 = .ok (.goto (-49), 3) := by decide +kernel
theorem dX6_sortByPrice_67 : decode cX6_sortByPrice 67 = .ok (.aload_n 0, 1) := by decide +kernel
theorem dX6_sortByPrice_68 : decode cX6_sortByPrice 68 = .ok (.getfield 25, 3) := by decide +kernel
theorem dX6_sortByPrice_71 : decode cX6_sortByPrice 71 = .ok (.iload_n 2, 1) := by decide +kernel
theorem dX6_sortByPrice_72 : decode cX6_sortByPrice 72 = .ok (.iload_n 1, 1) := by decide +kernel
theorem dX6_sortByPrice_73 : decode cX6_sortByPrice 73 = .ok (.iastore, 1) := by decide +kernel
theorem dX6_sortByPrice_74 : decode cX6_sortByPrice 74 = .ok (.iinc 1 1, 3) := by decide +kernel
theorem dX6_sortByPrice_77 : decode cX6_sortByPrice 77 = .ok (.goto (-75), 3) := by decide +kernel
theorem dX6_sortByPrice_80 : decode cX6_sortByPrice 80 = .ok (.return_, 1) := by decide +kernel
theorem dX6_ableThings_0 : decode cX6_ableThings 0 = .ok (.aload_n 0, 1) := by decide +kernel
theorem dX6_ableThings_1 : decode cX6_ableThings 1 = .ok (.getfield 43, 3) := by decide +kernel
theorem dX6_ableThings_4 : decode cX6_ableThings 4 = .ok (.getfield 78, 3) := by decide +kernel
theorem dX6_ableThings_7 : decode cX6_ableThings 7 = .ok (.getfield 82, 3) := by decide +kernel
theorem dX6_ableThings_10 : decode cX6_ableThings 10 = .ok (.iload_n 1, 1) := by decide +kernel
theorem dX6_ableThings_11 : decode cX6_ableThings 11 = .ok (.iconst 0, 1) := by decide +kernel
theorem dX6_ableThings_12 : decode cX6_ableThings 12 = .ok (.invokevirtual 88, 3) := by decide +kernel
theorem dX6_ableThings_15 : decode cX6_ableThings 15 = .ok (.istore_n 3, 1) := by decide +kernel
theorem dX6_ableThings_16 : decode cX6_ableThings 16 = .ok (.aload_n 0, 1) := by decide +kernel
theorem dX6_ableThings_17 : decode cX6_ableThings 17 = .ok (.getfield 43, 3) := by decide +kernel
theorem dX6_ableThings_20 : decode cX6_ableThings 20 = .ok (.getfield 78, 3) := by decide +kernel
theorem dX6_ableThings_23 : decode cX6_ableThings 23 = .ok (.getfield 82, 3) := by decide +kernel
theorem dX6_ableThings_26 : decode cX6_ableThings 26 = .ok (.iload_n 1, 1) := by decide +kernel
theorem dX6_ableThings_27 : decode cX6_ableThings 27 = .ok (.iconst 1, 1) := by decide +kernel
theorem dX6_ableThings_28 : decode cX6_ableThings 28 = .ok (.invokevirtual 88, 3) := by decide +kernel
theorem dX6_ableThings_31 : decode cX6_ableThings 31 = .ok (.istore 4, 2) := by decide +kernel
theorem dX6_ableThings_33 : decode cX6_ableThings 33 = .ok (.iconst 0, 1) := by decide +kernel
theorem dX6_ableThings_34 : decode cX6_ableThings 34 = .ok (.istore 5, 2) := by decide +kernel
theorem dX6_ableThings_36 : decode cX6_ableThings 36 = .ok (.iconst 0, 1) := by decide +kernel
theorem dX6_ableThings_37 : decode cX6_ableThings 37 = .ok (.istore 6, 2) := by decide +kernel
theorem dX6_ableThings_39 : decode cX6_ableThings 39 = .ok (.iload 6, 2) := by decide +kernel
theorem dX6_ableThings_41 : decode cX6_ableThings 41 = .ok (.aload_n 0, 1) := by decide +kernel
theorem dX6_ableThings_42 : decode cX6_ableThings 42 = .ok (.getfield 43, 3) := by decide +kernel
theorem dX6_ableThings_45 : decode cX6_ableThings 45 = .ok (.getfield 69, 3) := by decide +kernel
theorem dX6_ableThings_48 : decode cX6_ableThings 48 = .ok (.if_icmp .ge 55, 3) := by decide +kernel
theorem dX6_ableThings_51 : decode cX6_ableThings 51 = .ok (.aload_n 0, 1) := by decide +kernel
theorem dX6_ableThings_52 : decode cX6_ableThings 52 = .ok (.getfield 43, 3) := by decide +kernel
theorem dX6_ableThings_55 : decode cX6_ableThings 55 = .ok (.getfield 105, 3) := by decide +kernel
theorem dX6_ableThings_58 : decode cX6_ableThings 58 = .ok (.iload 6, 2) := by decide +kernel
theorem dX6_ableThings_60 : decode cX6_ableThings 60 = .ok (.iaload, 1) := by decide +kernel
theorem dX6_ableThings_61 : decode cX6_ableThings 61 = .ok (.istore 7, 2) := by decide +kernel
theorem dX6_ableThings_63 : decode cX6_ableThings 63 = .ok (.iload 7, 2) := by decide +kernel
theorem dX6_ableThings_65 : decode cX6_ableThings 65 = .ok (.iload_n 3, 1) := by decide +kernel
theorem dX6_ableThings_66 : decode cX6_ableThings 66 = .ok (.iand, 1) := by decide +kernel
theorem dX6_ableThings_67 : decode cX6_ableThings 67 = .ok (.iload_n 3, 1) := by decide +kernel
theorem dX6_ableThings_68 : decode cX6_ableThings 68 = .ok (.if_icmp .ne 29, 3) := by decide +kernel
theorem dX6_ableThings_71 : decode cX6_ableThings 71 = .ok (.iload 7, 2) := by decide +kernel
theorem dX6_ableThings_73 : decode cX6_ableThings 73 = .ok (.iload 4, 2) := by decide +kernel
theorem dX6_ableThings_75 : decode cX6_ableThings 75 = .ok (.iand, 1) := by decide +kernel
theorem dX6_ableThings_76 : decode cX6_ableThings 76 = .ok (.ifCond .ne 21, 3) := by decide +kernel
theorem dX6_ableThings_79 : decode cX6_ableThings 79 = .ok (.iload_n 2, 1) := by decide +kernel
theorem dX6_ableThings_80 : decode cX6_ableThings 80 = .ok (.ifCond .eq 8, 3) := by decide +kernel
theorem dX6_ableThings_83 : decode cX6_ableThings 83 = .ok (.iload 7, 2) := by decide +kernel
theorem dX6_ableThings_85 : decode cX6_ableThings 85 = .ok (.ifCond .eq 12, 3) := by decide +kernel
theorem dX6_ableThings_88 : decode cX6_ableThings 88 = .ok (.iload 5, 2) := by decide +kernel
theorem dX6_ableThings_90 : decode cX6_ableThings 90 = .ok (.iconst 1, 1) := by decide +kernel
theorem dX6_ableThings_91 : decode cX6_ableThings 91 = .ok (.iload 6, 2) := by decide +kernel
theorem dX6_ableThings_93 : decode cX6_ableThings 93 = .ok (.ishl, 1) := by decide +kernel
theorem dX6_ableThings_94 : decode cX6_ableThings 94 = .ok (.ior, 1) := by decide +kernel
theorem dX6_ableThings_95 : decode cX6_ableThings 95 = .ok (.istore 5, 2) := by decide +kernel
theorem dX6_ableThings_97 : decode cX6_ableThings 97 = .ok (.iinc 6 1, 3) := by decide +kernel
theorem dX6_ableThings_100 : decode cX6_ableThings 100 = .ok (.goto (-61), 3) := by decide +kernel
theorem dX6_ableThings_103 : decode cX6_ableThings 103 = .ok (.iload 5, 2) := by decide +kernel
theorem dX6_ableThings_105 : decode cX6_ableThings 105 = .ok (.ireturn, 1) := by decide +kernel
theorem dX6_narrow_0 : decode cX6_narrow 0 = .ok (.iconst 0, 1) := by decide +kernel
theorem dX6_narrow_1 : decode cX6_narrow 1 = .ok (.istore_n 2, 1) := by decide +kernel
theorem dX6_narrow_2 : decode cX6_narrow 2 = .ok (.iload_n 2, 1) := by decide +kernel
theorem dX6_narrow_3 : decode cX6_narrow 3 = .ok (.aload_n 0, 1) := by decide +kernel
theorem dX6_narrow_4 : decode cX6_narrow 4 = .ok (.getfield 43, 3) := by decide +kernel
theorem dX6_narrow_7 : decode cX6_narrow 7 = .ok (.getfield 54, 3) := by decide +kernel
theorem dX6_narrow_10 : decode cX6_narrow 10 = .ok (.if_icmp .ge 72, 3) := by decide +kernel
theorem dX6_narrow_13 : decode cX6_narrow 13 = .ok (.aload_n 0, 1) := by decide +kernel
theorem dX6_narrow_14 : decode cX6_narrow 14 = .ok (.getfield 28, 3) := by decide +kernel
theorem dX6_narrow_17 : decode cX6_narrow 17 = .ok (.iload_n 1, 1) := by decide +kernel
theorem dX6_narrow_18 : decode cX6_narrow 18 = .ok (.iaload, 1) := by decide +kernel
theorem dX6_narrow_19 : decode cX6_narrow 19 = .ok (.iload_n 2, 1) := by decide +kernel
theorem dX6_narrow_20 : decode cX6_narrow 20 = .ok (.ishr, 1) := by decide +kernel
theorem dX6_narrow_21 : decode cX6_narrow 21 = .ok (.iconst 1, 1) := by decide +kernel
theorem dX6_narrow_22 : decode cX6_narrow 22 = .ok (.iand, 1) := by decide +kernel
theorem dX6_narrow_23 : decode cX6_narrow 23 = .ok (.iconst 1, 1) := by decide +kernel
theorem dX6_narrow_24 : decode cX6_narrow 24 = .ok (.if_icmp .ne 52, 3) := by decide +kernel
theorem dX6_narrow_27 : decode cX6_narrow 27 = .ok (.iconst 0, 1) := by decide +kernel
theorem dX6_narrow_28 : decode cX6_narrow 28 = .ok (.istore_n 3, 1) := by decide +kernel
theorem dX6_narrow_29 : decode cX6_narrow 29 = .ok (.iload_n 3, 1) := by decide +kernel
theorem dX6_narrow_30 : decode cX6_narrow 30 = .ok (.aload_n 0, 1) := by decide +kernel
theorem dX6_narrow_31 : decode cX6_narrow 31 = .ok (.getfield 43, 3) := by decide +kernel
theorem dX6_narrow_34 : decode cX6_narrow 34 = .ok (.getfield 69, 3) := by decide +kernel
theorem dX6_narrow_37 : decode cX6_narrow 37 = .ok (.if_icmp .ge 39, 3) := by decide +kernel
theorem dX6_narrow_40 : decode cX6_narrow 40 = .ok (.aload_n 0, 1) := by decide +kernel
theorem dX6_narrow_41 : decode cX6_narrow 41 = .ok (.getfield 21, 3) := by decide +kernel
theorem dX6_narrow_44 : decode cX6_narrow 44 = .ok (.iload_n 3, 1) := by decide +kernel
theorem dX6_narrow_45 : decode cX6_narrow 45 = .ok (.iaload, 1) := by decide +kernel
theorem dX6_narrow_46 : decode cX6_narrow 46 = .ok (.aload_n 0, 1) := by decide +kernel
theorem dX6_narrow_47 : decode cX6_narrow 47 = .ok (.getfield 34, 3) := by decide +kernel
theorem dX6_narrow_50 : decode cX6_narrow 50 = .ok (.iload_n 2, 1) := by decide +kernel
theorem dX6_narrow_51 : decode cX6_narrow 51 = .ok (.iaload, 1) := by decide +kernel
theorem dX6_narrow_52 : decode cX6_narrow 52 = .ok (.iand, 1) := by decide +kernel
theorem dX6_narrow_53 : decode cX6_narrow 53 = .ok (.ifCond .ne 17, 3) := by decide +kernel
theorem dX6_narrow_56 : decode cX6_narrow 56 = .ok (.aload_n 0, 1) := by decide +kernel
theorem dX6_narrow_57 : decode cX6_narrow 57 = .ok (.getfield 34, 3) := by decide +kernel
theorem dX6_narrow_60 : decode cX6_narrow 60 = .ok (.iload_n 1, 1) := by decide +kernel
theorem dX6_narrow_61 : decode cX6_narrow 61 = .ok (.dup2, 1) := by decide +kernel
theorem dX6_narrow_62 : decode cX6_narrow 62 = .ok (.iaload, 1) := by decide +kernel
theorem dX6_narrow_63 : decode cX6_narrow 63 = .ok (.iconst 1, 1) := by decide +kernel
theorem dX6_narrow_64 : decode cX6_narrow 64 = .ok (.iload_n 3, 1) := by decide +kernel
theorem dX6_narrow_65 : decode cX6_narrow 65 = .ok (.ishl, 1) := by decide +kernel
theorem dX6_narrow_66 : decode cX6_narrow 66 = .ok (.iconst (-1), 1) := by decide +kernel
theorem dX6_narrow_67 : decode cX6_narrow 67 = .ok (.ixor, 1) := by decide +kernel
theorem dX6_narrow_68 : decode cX6_narrow 68 = .ok (.iand, 1) := by decide +kernel
theorem dX6_narrow_69 : decode cX6_narrow 69 = .ok (.iastore, 1) := by decide +kernel
theorem dX6_narrow_70 : decode cX6_narrow 70 = .ok (.iinc 3 1, 3) := by decide +kernel
theorem dX6_narrow_73 : decode cX6_narrow 73 = .ok (.goto (-44), 3) := by decide +kernel
theorem dX6_narrow_76 : decode cX6_narrow 76 = .ok (.iinc 2 1, 3) := by decide +kernel
theorem dX6_narrow_79 : decode cX6_narrow 79 = .ok (.goto (-77), 3) := by decide +kernel
theorem dX6_narrow_82 : decode cX6_narrow 82 = .ok (.return_, 1) := by decide +kernel
theorem dX6_linkedAhead_0 : decode cX6_linkedAhead 0 = .ok (.iconst 0, 1) := by decide +kernel
theorem dX6_linkedAhead_1 : decode cX6_linkedAhead 1 = .ok (.istore_n 2, 1) := by decide +kernel
theorem dX6_linkedAhead_2 : decode cX6_linkedAhead 2 = .ok (.iconst 0, 1) := by decide +kernel
theorem dX6_linkedAhead_3 : decode cX6_linkedAhead 3 = .ok (.istore_n 3, 1) := by decide +kernel
theorem dX6_linkedAhead_4 : decode cX6_linkedAhead 4 = .ok (.iload_n 3, 1) := by decide +kernel
theorem dX6_linkedAhead_5 : decode cX6_linkedAhead 5 = .ok (.iload_n 1, 1) := by decide +kernel
theorem dX6_linkedAhead_6 : decode cX6_linkedAhead 6 = .ok (.if_icmp .ge 43, 3) := by decide +kernel
theorem dX6_linkedAhead_9 : decode cX6_linkedAhead 9 = .ok (.aload_n 0, 1) := by decide +kernel
theorem dX6_linkedAhead_10 : decode cX6_linkedAhead 10 = .ok (.getfield 28, 3) := by decide +kernel
theorem dX6_linkedAhead_13 : decode cX6_linkedAhead 13 = .ok (.iload_n 1, 1) := by decide +kernel
theorem dX6_linkedAhead_14 : decode cX6_linkedAhead 14 = .ok (.iaload, 1) := by decide +kernel
theorem dX6_linkedAhead_15 : decode cX6_linkedAhead 15 = .ok (.iload_n 3, 1) := by decide +kernel
theorem dX6_linkedAhead_16 : decode cX6_linkedAhead 16 = .ok (.ishr, 1) := by decide +kernel
theorem dX6_linkedAhead_17 : decode cX6_linkedAhead 17 = .ok (.iconst 1, 1) := by decide +kernel
theorem dX6_linkedAhead_18 : decode cX6_linkedAhead 18 = .ok (.iand, 1) := by decide +kernel
theorem dX6_linkedAhead_19 : decode cX6_linkedAhead 19 = .ok (.iconst 1, 1) := by decide +kernel
theorem dX6_linkedAhead_20 : decode cX6_linkedAhead 20 = .ok (.if_icmp .eq 17, 3) := by decide +kernel
theorem dX6_linkedAhead_23 : decode cX6_linkedAhead 23 = .ok (.aload_n 0, 1) := by decide +kernel
theorem dX6_linkedAhead_24 : decode cX6_linkedAhead 24 = .ok (.getfield 28, 3) := by decide +kernel
theorem dX6_linkedAhead_27 : decode cX6_linkedAhead 27 = .ok (.iload_n 3, 1) := by decide +kernel
theorem dX6_linkedAhead_28 : decode cX6_linkedAhead 28 = .ok (.iaload, 1) := by decide +kernel
theorem dX6_linkedAhead_29 : decode cX6_linkedAhead 29 = .ok (.iload_n 1, 1) := by decide +kernel
theorem dX6_linkedAhead_30 : decode cX6_linkedAhead 30 = .ok (.ishr, 1) := by decide +kernel
theorem dX6_linkedAhead_31 : decode cX6_linkedAhead 31 = .ok (.iconst 1, 1) := by decide +kernel
theorem dX6_linkedAhead_32 : decode cX6_linkedAhead 32 = .ok (.iand, 1) := by decide +kernel
theorem dX6_linkedAhead_33 : decode cX6_linkedAhead 33 = .ok (.iconst 1, 1) := by decide +kernel
theorem dX6_linkedAhead_34 : decode cX6_linkedAhead 34 = .ok (.if_icmp .ne 9, 3) := by decide +kernel
theorem dX6_linkedAhead_37 : decode cX6_linkedAhead 37 = .ok (.iload_n 2, 1) := by decide +kernel
theorem dX6_linkedAhead_38 : decode cX6_linkedAhead 38 = .ok (.iconst 1, 1) := by decide +kernel
theorem dX6_linkedAhead_39 : decode cX6_linkedAhead 39 = .ok (.iload_n 3, 1) := by decide +kernel
theorem dX6_linkedAhead_40 : decode cX6_linkedAhead 40 = .ok (.ishl, 1) := by decide +kernel
theorem dX6_linkedAhead_41 : decode cX6_linkedAhead 41 = .ok (.ior, 1) := by decide +kernel
theorem dX6_linkedAhead_42 : decode cX6_linkedAhead 42 = .ok (.istore_n 2, 1) := by decide +kernel
theorem dX6_linkedAhead_43 : decode cX6_linkedAhead 43 = .ok (.iinc 3 1, 3) := by decide +kernel
theorem dX6_linkedAhead_46 : decode cX6_linkedAhead 46 = .ok (.goto (-42), 3) := by decide +kernel
theorem dX6_linkedAhead_49 : decode cX6_linkedAhead 49 = .ok (.iload_n 2, 1) := by decide +kernel
theorem dX6_linkedAhead_50 : decode cX6_linkedAhead 50 = .ok (.ireturn, 1) := by decide +kernel
theorem dX6_search_0 : decode cX6_search 0 = .ok (.iload_n 1, 1) := by decide +kernel
theorem dX6_search_1 : decode cX6_search 1 = .ok (.aload_n 0, 1) := by decide +kernel
theorem dX6_search_2 : decode cX6_search 2 = .ok (.getfield 43, 3) := by decide +kernel
theorem dX6_search_5 : decode cX6_search 5 = .ok (.getfield 54, 3) := by decide +kernel
theorem dX6_search_8 : decode cX6_search 8 = .ok (.if_icmp .le 7, 3) := by decide +kernel
theorem dX6_search_11 : decode cX6_search 11 = .ok (.iconst (-1), 1) := by decide +kernel
theorem dX6_search_12 : decode cX6_search 12 = .ok (.goto 11, 3) := by decide +kernel
theorem dX6_search_15 : decode cX6_search 15 = .ok (.iload_n 3, 1) := by decide +kernel
theorem dX6_search_16 : decode cX6_search 16 = .ok (.aload_n 0, 1) := by decide +kernel
theorem dX6_search_17 : decode cX6_search 17 = .ok (.getfield 37, 3) := by decide +kernel
theorem dX6_search_20 : decode cX6_search 20 = .ok (.iload_n 1, 1) := by decide +kernel
theorem dX6_search_21 : decode cX6_search 21 = .ok (.iaload, 1) := by decide +kernel
theorem dX6_search_22 : decode cX6_search 22 = .ok (.iadd, 1) := by decide +kernel
theorem dX6_search_23 : decode cX6_search 23 = .ok (.istore 6, 2) := by decide +kernel
theorem dX6_search_25 : decode cX6_search 25 = .ok (.iload 6, 2) := by decide +kernel
theorem dX6_search_27 : decode cX6_search 27 = .ok (.aload_n 0, 1) := by decide +kernel
theorem dX6_search_28 : decode cX6_search 28 = .ok (.getfield 9, 3) := by decide +kernel
theorem dX6_search_31 : decode cX6_search 31 = .ok (.if_icmp .lt 31, 3) := by decide +kernel
theorem dX6_search_34 : decode cX6_search 34 = .ok (.iload 6, 2) := by decide +kernel
theorem dX6_search_36 : decode cX6_search 36 = .ok (.aload_n 0, 1) := by decide +kernel
theorem dX6_search_37 : decode cX6_search 37 = .ok (.getfield 9, 3) := by decide +kernel
theorem dX6_search_40 : decode cX6_search 40 = .ok (.if_icmp .ne 23, 3) := by decide +kernel
theorem dX6_search_43 : decode cX6_search 43 = .ok (.iload 4, 2) := by decide +kernel
theorem dX6_search_45 : decode cX6_search 45 = .ok (.aload_n 0, 1) := by decide +kernel
theorem dX6_search_46 : decode cX6_search 46 = .ok (.iload_n 2, 1) := by decide +kernel
theorem dX6_search_47 : decode cX6_search 47 = .ok (.iload 6, 2) := by decide +kernel
theorem dX6_search_49 : decode cX6_search 49 = .ok (.iload_n 3, 1) := by decide +kernel
theorem dX6_search_50 : decode cX6_search 50 = .ok (.isub, 1) := by decide +kernel
theorem dX6_search_51 : decode cX6_search 51 = .ok (.invokevirtual 111, 3) := by decide +kernel
theorem dX6_search_54 : decode cX6_search 54 = .ok (.iadd, 1) := by decide +kernel
theorem dX6_search_55 : decode cX6_search 55 = .ok (.aload_n 0, 1) := by decide +kernel
theorem dX6_search_56 : decode cX6_search 56 = .ok (.getfield 15, 3) := by decide +kernel
theorem dX6_search_59 : decode cX6_search 59 = .ok (.if_icmp .lt 4, 3) := by decide +kernel
theorem dX6_search_62 : decode cX6_search 62 = .ok (.return_, 1) := by decide +kernel
theorem dX6_search_63 : decode cX6_search 63 = .ok (.iload_n 1, 1) := by decide +kernel
theorem dX6_search_64 : decode cX6_search 64 = .ok (.aload_n 0, 1) := by decide +kernel
theorem dX6_search_65 : decode cX6_search 65 = .ok (.getfield 43, 3) := by decide +kernel
theorem dX6_search_68 : decode cX6_search 68 = .ok (.getfield 54, 3) := by decide +kernel
theorem dX6_search_71 : decode cX6_search 71 = .ok (.if_icmp .lt 21, 3) := by decide +kernel
theorem dX6_search_74 : decode cX6_search 74 = .ok (.aload_n 0, 1) := by decide +kernel
theorem dX6_search_75 : decode cX6_search 75 = .ok (.iload_n 3, 1) := by decide +kernel
theorem dX6_search_76 : decode cX6_search 76 = .ok (.putfield 9, 3) := by decide +kernel
theorem dX6_search_79 : decode cX6_search 79 = .ok (.aload_n 0, 1) := by decide +kernel
theorem dX6_search_80 : decode cX6_search 80 = .ok (.iload 4, 2) := by decide +kernel
theorem dX6_search_82 : decode cX6_search 82 = .ok (.putfield 15, 3) := by decide +kernel
theorem dX6_search_85 : decode cX6_search 85 = .ok (.aload_n 0, 1) := by decide +kernel
theorem dX6_search_86 : decode cX6_search 86 = .ok (.iload 5, 2) := by decide +kernel
theorem dX6_search_88 : decode cX6_search 88 = .ok (.putfield 18, 3) := by decide +kernel
theorem dX6_search_91 : decode cX6_search 91 = .ok (.return_, 1) := by decide +kernel
theorem dX6_search_92 : decode cX6_search 92 = .ok (.aload_n 0, 1) := by decide +kernel
theorem dX6_search_93 : decode cX6_search 93 = .ok (.getfield 34, 3) := by decide +kernel
theorem dX6_search_96 : decode cX6_search 96 = .ok (.iload_n 1, 1) := by decide +kernel
theorem dX6_search_97 : decode cX6_search 97 = .ok (.iaload, 1) := by decide +kernel
theorem dX6_search_98 : decode cX6_search 98 = .ok (.iload_n 2, 1) := by decide +kernel
theorem dX6_search_99 : decode cX6_search 99 = .ok (.iconst (-1), 1) := by decide +kernel
theorem dX6_search_100 : decode cX6_search 100 = .ok (.ixor, 1) := by decide +kernel
theorem dX6_search_101 : decode cX6_search 101 = .ok (.iand, 1) := by decide +kernel
theorem dX6_search_102 : decode cX6_search 102 = .ok (.istore 7, 2) := by decide +kernel
theorem dX6_search_104 : decode cX6_search 104 = .ok (.iconst 0, 1) := by decide +kernel
theorem dX6_search_105 : decode cX6_search 105 = .ok (.istore 8, 2) := by decide +kernel
theorem dX6_search_107 : decode cX6_search 107 = .ok (.iload 8, 2) := by decide +kernel
theorem dX6_search_109 : decode cX6_search 109 = .ok (.aload_n 0, 1) := by decide +kernel
theorem dX6_search_110 : decode cX6_search 110 = .ok (.getfield 43, 3) := by decide +kernel
theorem dX6_search_113 : decode cX6_search 113 = .ok (.getfield 69, 3) := by decide +kernel
theorem dX6_search_116 : decode cX6_search 116 = .ok (.if_icmp .ge 75, 3) := by decide +kernel
theorem dX6_search_119 : decode cX6_search 119 = .ok (.iload 7, 2) := by decide +kernel
theorem dX6_search_121 : decode cX6_search 121 = .ok (.iload 8, 2) := by decide +kernel
theorem dX6_search_123 : decode cX6_search 123 = .ok (.ishr, 1) := by decide +kernel
theorem dX6_search_124 : decode cX6_search 124 = .ok (.iconst 1, 1) := by decide +kernel
theorem dX6_search_125 : decode cX6_search 125 = .ok (.iand, 1) := by decide +kernel
theorem dX6_search_126 : decode cX6_search 126 = .ok (.iconst 1, 1) := by decide +kernel
theorem dX6_search_127 : decode cX6_search 127 = .ok (.if_icmp .ne 58, 3) := by decide +kernel
theorem dX6_search_130 : decode cX6_search 130 = .ok (.aload_n 0, 1) := by decide +kernel
theorem dX6_search_131 : decode cX6_search 131 = .ok (.iload_n 1, 1) := by decide +kernel
theorem dX6_search_132 : decode cX6_search 132 = .ok (.iload 8, 2) := by decide +kernel
theorem dX6_search_134 : decode cX6_search 134 = .ok (.invokevirtual 114, 3) := by decide +kernel
theorem dX6_search_137 : decode cX6_search 137 = .ok (.ifCond .eq 48, 3) := by decide +kernel
theorem dX6_search_140 : decode cX6_search 140 = .ok (.aload_n 0, 1) := by decide +kernel
theorem dX6_search_141 : decode cX6_search 141 = .ok (.getfield 40, 3) := by decide +kernel
theorem dX6_search_144 : decode cX6_search 144 = .ok (.iload_n 1, 1) := by decide +kernel
theorem dX6_search_145 : decode cX6_search 145 = .ok (.iload 8, 2) := by decide +kernel
theorem dX6_search_147 : decode cX6_search 147 = .ok (.iastore, 1) := by decide +kernel
theorem dX6_search_148 : decode cX6_search 148 = .ok (.aload_n 0, 1) := by decide +kernel
theorem dX6_search_149 : decode cX6_search 149 = .ok (.iload_n 1, 1) := by decide +kernel
theorem dX6_search_150 : decode cX6_search 150 = .ok (.iconst 1, 1) := by decide +kernel
theorem dX6_search_151 : decode cX6_search 151 = .ok (.iadd, 1) := by decide +kernel
theorem dX6_search_152 : decode cX6_search 152 = .ok (.iload_n 2, 1) := by decide +kernel
theorem dX6_search_153 : decode cX6_search 153 = .ok (.iconst 1, 1) := by decide +kernel
theorem dX6_search_154 : decode cX6_search 154 = .ok (.iload 8, 2) := by decide +kernel
theorem dX6_search_156 : decode cX6_search 156 = .ok (.ishl, 1) := by decide +kernel
theorem dX6_search_157 : decode cX6_search 157 = .ok (.ior, 1) := by decide +kernel
theorem dX6_search_158 : decode cX6_search 158 = .ok (.iload_n 3, 1) := by decide +kernel
theorem dX6_search_159 : decode cX6_search 159 = .ok (.iconst 1, 1) := by decide +kernel
theorem dX6_search_160 : decode cX6_search 160 = .ok (.iadd, 1) := by decide +kernel
theorem dX6_search_161 : decode cX6_search 161 = .ok (.iload 4, 2) := by decide +kernel
theorem dX6_search_163 : decode cX6_search 163 = .ok (.aload_n 0, 1) := by decide +kernel
theorem dX6_search_164 : decode cX6_search 164 = .ok (.getfield 43, 3) := by decide +kernel
theorem dX6_search_167 : decode cX6_search 167 = .ok (.getfield 108, 3) := by decide +kernel
theorem dX6_search_170 : decode cX6_search 170 = .ok (.iload 8, 2) := by decide +kernel
theorem dX6_search_172 : decode cX6_search 172 = .ok (.iaload, 1) := by decide +kernel
theorem dX6_search_173 : decode cX6_search 173 = .ok (.iadd, 1) := by decide +kernel
theorem dX6_search_174 : decode cX6_search 174 = .ok (.iload 5, 2) := by decide +kernel
theorem dX6_search_176 : decode cX6_search 176 = .ok (.bipush 10, 2) := by decide +kernel
theorem dX6_search_178 : decode cX6_search 178 = .ok (.imul, 1) := by decide +kernel
theorem dX6_search_179 : decode cX6_search 179 = .ok (.iload 8, 2) := by decide +kernel
theorem dX6_search_181 : decode cX6_search 181 = .ok (.iadd, 1) := by decide +kernel
theorem dX6_search_182 : decode cX6_search 182 = .ok (.invokevirtual 50, 3) := by decide +kernel
theorem dX6_search_185 : decode cX6_search 185 = .ok (.iinc 8 1, 3) := by decide +kernel
theorem dX6_search_188 : decode cX6_search 188 = .ok (.goto (-81), 3) := by decide +kernel
theorem dX6_search_191 : decode cX6_search 191 = .ok (.aload_n 0, 1) := by decide +kernel
theorem dX6_search_192 : decode cX6_search 192 = .ok (.iload_n 1, 1) := by decide +kernel
theorem dX6_search_193 : decode cX6_search 193 = .ok (.iconst (-1), 1) := by decide +kernel
theorem dX6_search_194 : decode cX6_search 194 = .ok (.invokevirtual 114, 3) := by decide +kernel
theorem dX6_search_197 : decode cX6_search 197 = .ok (.ifCond .eq 29, 3) := by decide +kernel
theorem dX6_search_200 : decode cX6_search 200 = .ok (.aload_n 0, 1) := by decide +kernel
theorem dX6_search_201 : decode cX6_search 201 = .ok (.getfield 40, 3) := by decide +kernel
theorem dX6_search_204 : decode cX6_search 204 = .ok (.iload_n 1, 1) := by decide +kernel
theorem dX6_search_205 : decode cX6_search 205 = .ok (.iconst (-1), 1) := by decide +kernel
theorem dX6_search_206 : decode cX6_search 206 = .ok (.iastore, 1) := by decide +kernel
theorem dX6_search_207 : decode cX6_search 207 = .ok (.aload_n 0, 1) := by decide +kernel
theorem dX6_search_208 : decode cX6_search 208 = .ok (.iload_n 1, 1) := by decide +kernel
theorem dX6_search_209 : decode cX6_search 209 = .ok (.iconst 1, 1) := by decide +kernel
theorem dX6_search_210 : decode cX6_search 210 = .ok (.iadd, 1) := by decide +kernel
theorem dX6_search_211 : decode cX6_search 211 = .ok (.iload_n 2, 1) := by decide +kernel
theorem dX6_search_212 : decode cX6_search 212 = .ok (.iload_n 3, 1) := by decide +kernel
theorem dX6_search_213 : decode cX6_search 213 = .ok (.iload 4, 2) := by decide +kernel
theorem dX6_search_215 : decode cX6_search 215 = .ok (.iload 5, 2) := by decide +kernel
theorem dX6_search_217 : decode cX6_search 217 = .ok (.bipush 10, 2) := by decide +kernel
theorem dX6_search_219 : decode cX6_search 219 = .ok (.imul, 1) := by decide +kernel
theorem dX6_search_220 : decode cX6_search 220 = .ok (.bipush 9, 2) := by decide +kernel
theorem dX6_search_222 : decode cX6_search 222 = .ok (.iadd, 1) := by decide +kernel
theorem dX6_search_223 : decode cX6_search 223 = .ok (.invokevirtual 50, 3) := by decide +kernel
theorem dX6_search_226 : decode cX6_search 226 = .ok (.return_, 1) := by decide +kernel
theorem dX6_leastPrices_0 : decode cX6_leastPrices 0 = .ok (.iconst 0, 1) := by decide +kernel
theorem dX6_leastPrices_1 : decode cX6_leastPrices 1 = .ok (.istore_n 3, 1) := by decide +kernel
theorem dX6_leastPrices_2 : decode cX6_leastPrices 2 = .ok (.iconst 0, 1) := by decide +kernel
theorem dX6_leastPrices_3 : decode cX6_leastPrices 3 = .ok (.istore 4, 2) := by decide +kernel
theorem dX6_leastPrices_5 : decode cX6_leastPrices 5 = .ok (.iconst 0, 1) := by decide +kernel
theorem dX6_leastPrices_6 : decode cX6_leastPrices 6 = .ok (.istore 5, 2) := by decide +kernel
theorem dX6_leastPrices_8 : decode cX6_leastPrices 8 = .ok (.iload 5, 2) := by decide +kernel
theorem dX6_leastPrices_10 : decode cX6_leastPrices 10 = .ok (.aload_n 0, 1) := by decide +kernel
theorem dX6_leastPrices_11 : decode cX6_leastPrices 11 = .ok (.getfield 43, 3) := by decide +kernel
theorem dX6_leastPrices_14 : decode cX6_leastPrices 14 = .ok (.getfield 69, 3) := by decide +kernel
theorem dX6_leastPrices_17 : decode cX6_leastPrices 17 = .ok (.if_icmp .ge 50, 3) := by decide +kernel
theorem dX6_leastPrices_20 : decode cX6_leastPrices 20 = .ok (.iload 4, 2) := by decide +kernel
theorem dX6_leastPrices_22 : decode cX6_leastPrices 22 = .ok (.iload_n 2, 1) := by decide +kernel
theorem dX6_leastPrices_23 : decode cX6_leastPrices 23 = .ok (.if_icmp .ge 44, 3) := by decide +kernel
theorem dX6_leastPrices_26 : decode cX6_leastPrices 26 = .ok (.iload_n 1, 1) := by decide +kernel
theorem dX6_leastPrices_27 : decode cX6_leastPrices 27 = .ok (.aload_n 0, 1) := by decide +kernel
theorem dX6_leastPrices_28 : decode cX6_leastPrices 28 = .ok (.getfield 25, 3) := by decide +kernel
theorem dX6_leastPrices_31 : decode cX6_leastPrices 31 = .ok (.iload 5, 2) := by decide +kernel
theorem dX6_leastPrices_33 : decode cX6_leastPrices 33 = .ok (.iaload, 1) := by decide +kernel
theorem dX6_leastPrices_34 : decode cX6_leastPrices 34 = .ok (.ishr, 1) := by decide +kernel
theorem dX6_leastPrices_35 : decode cX6_leastPrices 35 = .ok (.iconst 1, 1) := by decide +kernel
theorem dX6_leastPrices_36 : decode cX6_leastPrices 36 = .ok (.iand, 1) := by decide +kernel
theorem dX6_leastPrices_37 : decode cX6_leastPrices 37 = .ok (.ifCond .ne 24, 3) := by decide +kernel
theorem dX6_leastPrices_40 : decode cX6_leastPrices 40 = .ok (.iload_n 3, 1) := by decide +kernel
theorem dX6_leastPrices_41 : decode cX6_leastPrices 41 = .ok (.aload_n 0, 1) := by decide +kernel
theorem dX6_leastPrices_42 : decode cX6_leastPrices 42 = .ok (.getfield 43, 3) := by decide +kernel
theorem dX6_leastPrices_45 : decode cX6_leastPrices 45 = .ok (.getfield 108, 3) := by decide +kernel
theorem dX6_leastPrices_48 : decode cX6_leastPrices 48 = .ok (.aload_n 0, 1) := by decide +kernel
theorem dX6_leastPrices_49 : decode cX6_leastPrices 49 = .ok (.getfield 25, 3) := by decide +kernel
theorem dX6_leastPrices_52 : decode cX6_leastPrices 52 = .ok (.iload 5, 2) := by decide +kernel
theorem dX6_leastPrices_54 : decode cX6_leastPrices 54 = .ok (.iaload, 1) := by decide +kernel
theorem dX6_leastPrices_55 : decode cX6_leastPrices 55 = .ok (.iaload, 1) := by decide +kernel
theorem dX6_leastPrices_56 : decode cX6_leastPrices 56 = .ok (.iadd, 1) := by decide +kernel
theorem dX6_leastPrices_57 : decode cX6_leastPrices 57 = .ok (.istore_n 3, 1) := by decide +kernel
theorem dX6_leastPrices_58 : decode cX6_leastPrices 58 = .ok (.iinc 4 1, 3) := by decide +kernel
theorem dX6_leastPrices_61 : decode cX6_leastPrices 61 = .ok (.iinc 5 1, 3) := by decide +kernel
theorem dX6_leastPrices_64 : decode cX6_leastPrices 64 = .ok (.goto (-56), 3) := by decide +kernel
theorem dX6_leastPrices_67 : decode cX6_leastPrices 67 = .ok (.iload_n 3, 1) := by decide +kernel
theorem dX6_leastPrices_68 : decode cX6_leastPrices 68 = .ok (.ireturn, 1) := by decide +kernel
theorem dX6_canAll_0 : decode cX6_canAll 0 = .ok (.iload_n 1, 1) := by decide +kernel
theorem dX6_canAll_1 : decode cX6_canAll 1 = .ok (.aload_n 0, 1) := by decide +kernel
theorem dX6_canAll_2 : decode cX6_canAll 2 = .ok (.getfield 43, 3) := by decide +kernel
theorem dX6_canAll_5 : decode cX6_canAll 5 = .ok (.getfield 54, 3) := by decide +kernel
theorem dX6_canAll_8 : decode cX6_canAll 8 = .ok (.if_icmp .lt 5, 3) := by decide +kernel
theorem dX6_canAll_11 : decode cX6_canAll 11 = .ok (.iconst 1, 1) := by decide +kernel
theorem dX6_canAll_12 : decode cX6_canAll 12 = .ok (.ireturn, 1) := by decide +kernel
theorem dX6_canAll_13 : decode cX6_canAll 13 = .ok (.iload_n 2, 1) := by decide +kernel
theorem dX6_canAll_14 : decode cX6_canAll 14 = .ok (.iload_n 1, 1) := by decide +kernel
theorem dX6_canAll_15 : decode cX6_canAll 15 = .ok (.ishr, 1) := by decide +kernel
theorem dX6_canAll_16 : decode cX6_canAll 16 = .ok (.iconst 1, 1) := by decide +kernel
theorem dX6_canAll_17 : decode cX6_canAll 17 = .ok (.iand, 1) := by decide +kernel
theorem dX6_canAll_18 : decode cX6_canAll 18 = .ok (.ifCond .ne 37, 3) := by decide +kernel
theorem dX6_canAll_21 : decode cX6_canAll 21 = .ok (.aload_n 0, 1) := by decide +kernel
theorem dX6_canAll_22 : decode cX6_canAll 22 = .ok (.getfield 40, 3) := by decide +kernel
theorem dX6_canAll_25 : decode cX6_canAll 25 = .ok (.iload_n 1, 1) := by decide +kernel
theorem dX6_canAll_26 : decode cX6_canAll 26 = .ok (.iconst (-1), 1) := by decide +kernel
theorem dX6_canAll_27 : decode cX6_canAll 27 = .ok (.iastore, 1) := by decide +kernel
theorem dX6_canAll_28 : decode cX6_canAll 28 = .ok (.aload_n 0, 1) := by decide +kernel
theorem dX6_canAll_29 : decode cX6_canAll 29 = .ok (.iload_n 1, 1) := by decide +kernel
theorem dX6_canAll_30 : decode cX6_canAll 30 = .ok (.iconst (-1), 1) := by decide +kernel
theorem dX6_canAll_31 : decode cX6_canAll 31 = .ok (.invokevirtual 114, 3) := by decide +kernel
theorem dX6_canAll_34 : decode cX6_canAll 34 = .ok (.ifCond .eq 19, 3) := by decide +kernel
theorem dX6_canAll_37 : decode cX6_canAll 37 = .ok (.aload_n 0, 1) := by decide +kernel
theorem dX6_canAll_38 : decode cX6_canAll 38 = .ok (.iload_n 1, 1) := by decide +kernel
theorem dX6_canAll_39 : decode cX6_canAll 39 = .ok (.iconst 1, 1) := by decide +kernel
theorem dX6_canAll_40 : decode cX6_canAll 40 = .ok (.iadd, 1) := by decide +kernel
theorem dX6_canAll_41 : decode cX6_canAll 41 = .ok (.iload_n 2, 1) := by decide +kernel
theorem dX6_canAll_42 : decode cX6_canAll 42 = .ok (.iload_n 3, 1) := by decide +kernel
theorem dX6_canAll_43 : decode cX6_canAll 43 = .ok (.invokevirtual 65, 3) := by decide +kernel
theorem dX6_canAll_46 : decode cX6_canAll 46 = .ok (.ifCond .eq 7, 3) := by decide +kernel
theorem dX6_canAll_49 : decode cX6_canAll 49 = .ok (.iconst 1, 1) := by decide +kernel
theorem dX6_canAll_50 : decode cX6_canAll 50 = .ok (.goto 4, 3) := by decide +kernel
theorem dX6_canAll_53 : decode cX6_canAll 53 = .ok (.iconst 0, 1) := by decide +kernel
theorem dX6_canAll_54 : decode cX6_canAll 54 = .ok (.ireturn, 1) := by decide +kernel
theorem dX6_canAll_55 : decode cX6_canAll 55 = .ok (.aload_n 0, 1) := by decide +kernel
theorem dX6_canAll_56 : decode cX6_canAll 56 = .ok (.getfield 34, 3) := by decide +kernel
theorem dX6_canAll_59 : decode cX6_canAll 59 = .ok (.iload_n 1, 1) := by decide +kernel
theorem dX6_canAll_60 : decode cX6_canAll 60 = .ok (.iaload, 1) := by decide +kernel
theorem dX6_canAll_61 : decode cX6_canAll 61 = .ok (.iload_n 3, 1) := by decide +kernel
theorem dX6_canAll_62 : decode cX6_canAll 62 = .ok (.iconst (-1), 1) := by decide +kernel
theorem dX6_canAll_63 : decode cX6_canAll 63 = .ok (.ixor, 1) := by decide +kernel
theorem dX6_canAll_64 : decode cX6_canAll 64 = .ok (.iand, 1) := by decide +kernel
theorem dX6_canAll_65 : decode cX6_canAll 65 = .ok (.istore 4, 2) := by decide +kernel
theorem dX6_canAll_67 : decode cX6_canAll 67 = .ok (.iconst 0, 1) := by decide +kernel
theorem dX6_canAll_68 : decode cX6_canAll 68 = .ok (.istore 5, 2) := by decide +kernel
theorem dX6_canAll_70 : decode cX6_canAll 70 = .ok (.iload 5, 2) := by decide +kernel
theorem dX6_canAll_72 : decode cX6_canAll 72 = .ok (.aload_n 0, 1) := by decide +kernel
theorem dX6_canAll_73 : decode cX6_canAll 73 = .ok (.getfield 43, 3) := by decide +kernel
theorem dX6_canAll_76 : decode cX6_canAll 76 = .ok (.getfield 69, 3) := by decide +kernel
theorem dX6_canAll_79 : decode cX6_canAll 79 = .ok (.if_icmp .ge 57, 3) := by decide +kernel
theorem dX6_canAll_82 : decode cX6_canAll 82 = .ok (.iload 4, 2) := by decide +kernel
theorem dX6_canAll_84 : decode cX6_canAll 84 = .ok (.iload 5, 2) := by decide +kernel
theorem dX6_canAll_86 : decode cX6_canAll 86 = .ok (.ishr, 1) := by decide +kernel
theorem dX6_canAll_87 : decode cX6_canAll 87 = .ok (.iconst 1, 1) := by decide +kernel
theorem dX6_canAll_88 : decode cX6_canAll 88 = .ok (.iand, 1) := by decide +kernel
theorem dX6_canAll_89 : decode cX6_canAll 89 = .ok (.iconst 1, 1) := by decide +kernel
theorem dX6_canAll_90 : decode cX6_canAll 90 = .ok (.if_icmp .ne 40, 3) := by decide +kernel
theorem dX6_canAll_93 : decode cX6_canAll 93 = .ok (.aload_n 0, 1) := by decide +kernel
theorem dX6_canAll_94 : decode cX6_canAll 94 = .ok (.iload_n 1, 1) := by decide +kernel
theorem dX6_canAll_95 : decode cX6_canAll 95 = .ok (.iload 5, 2) := by decide +kernel
theorem dX6_canAll_97 : decode cX6_canAll 97 = .ok (.invokevirtual 114, 3) := by decide +kernel
theorem dX6_canAll_100 : decode cX6_canAll 100 = .ok (.ifCond .eq 30, 3) := by decide +kernel
theorem dX6_canAll_103 : decode cX6_canAll 103 = .ok (.aload_n 0, 1) := by decide +kernel
theorem dX6_canAll_104 : decode cX6_canAll 104 = .ok (.getfield 40, 3) := by decide +kernel
theorem dX6_canAll_107 : decode cX6_canAll 107 = .ok (.iload_n 1, 1) := by decide +kernel
theorem dX6_canAll_108 : decode cX6_canAll 108 = .ok (.iload 5, 2) := by decide +kernel
theorem dX6_canAll_110 : decode cX6_canAll 110 = .ok (.iastore, 1) := by decide +kernel
theorem dX6_canAll_111 : decode cX6_canAll 111 = .ok (.aload_n 0, 1) := by decide +kernel
theorem dX6_canAll_112 : decode cX6_canAll 112 = .ok (.iload_n 1, 1) := by decide +kernel
theorem dX6_canAll_113 : decode cX6_canAll 113 = .ok (.iconst 1, 1) := by decide +kernel
theorem dX6_canAll_114 : decode cX6_canAll 114 = .ok (.iadd, 1) := by decide +kernel
theorem dX6_canAll_115 : decode cX6_canAll 115 = .ok (.iload_n 2, 1) := by decide +kernel
theorem dX6_canAll_116 : decode cX6_canAll 116 = .ok (.iload_n 3, 1) := by decide +kernel
theorem dX6_canAll_117 : decode cX6_canAll 117 = .ok (.iconst 1, 1) := by decide +kernel
theorem dX6_canAll_118 : decode cX6_canAll 118 = .ok (.iload 5, 2) := by decide +kernel
theorem dX6_canAll_120 : decode cX6_canAll 120 = .ok (.ishl, 1) := by decide +kernel
theorem dX6_canAll_121 : decode cX6_canAll 121 = .ok (.ior, 1) := by decide +kernel
theorem dX6_canAll_122 : decode cX6_canAll 122 = .ok (.invokevirtual 65, 3) := by decide +kernel
theorem dX6_canAll_125 : decode cX6_canAll 125 = .ok (.ifCond .eq 5, 3) := by decide +kernel
theorem dX6_canAll_128 : decode cX6_canAll 128 = .ok (.iconst 1, 1) := by decide +kernel
theorem dX6_canAll_129 : decode cX6_canAll 129 = .ok (.ireturn, 1) := by decide +kernel
theorem dX6_canAll_130 : decode cX6_canAll 130 = .ok (.iinc 5 1, 3) := by decide +kernel
theorem dX6_canAll_133 : decode cX6_canAll 133 = .ok (.goto (-63), 3) := by decide +kernel
theorem dX6_canAll_136 : decode cX6_canAll 136 = .ok (.iconst 0, 1) := by decide +kernel
theorem dX6_canAll_137 : decode cX6_canAll 137 = .ok (.ireturn, 1) := by decide +kernel
theorem dX6_agrees_0 : decode cX6_agrees 0 = .ok (.aload_n 0, 1) := by decide +kernel
theorem dX6_agrees_1 : decode cX6_agrees 1 = .ok (.getfield 31, 3) := by decide +kernel
theorem dX6_agrees_4 : decode cX6_agrees 4 = .ok (.iload_n 1, 1) := by decide +kernel
theorem dX6_agrees_5 : decode cX6_agrees 5 = .ok (.iaload, 1) := by decide +kernel
theorem dX6_agrees_6 : decode cX6_agrees 6 = .ok (.ifCond .ne 5, 3) := by decide +kernel
theorem dX6_agrees_9 : decode cX6_agrees 9 = .ok (.iconst 1, 1) := by decide +kernel
theorem dX6_agrees_10 : decode cX6_agrees 10 = .ok (.ireturn, 1) := by decide +kernel
theorem dX6_agrees_11 : decode cX6_agrees 11 = .ok (.iconst 0, 1) := by decide +kernel
theorem dX6_agrees_12 : decode cX6_agrees 12 = .ok (.istore_n 3, 1) := by decide +kernel
theorem dX6_agrees_13 : decode cX6_agrees 13 = .ok (.iload_n 3, 1) := by decide +kernel
theorem dX6_agrees_14 : decode cX6_agrees 14 = .ok (.iload_n 1, 1) := by decide +kernel
theorem dX6_agrees_15 : decode cX6_agrees 15 = .ok (.if_icmp .ge 107, 3) := by decide +kernel
theorem dX6_agrees_18 : decode cX6_agrees 18 = .ok (.aload_n 0, 1) := by decide +kernel
theorem dX6_agrees_19 : decode cX6_agrees 19 = .ok (.getfield 40, 3) := by decide +kernel
theorem dX6_agrees_22 : decode cX6_agrees 22 = .ok (.iload_n 3, 1) := by decide +kernel
theorem dX6_agrees_23 : decode cX6_agrees 23 = .ok (.iaload, 1) := by decide +kernel
theorem dX6_agrees_24 : decode cX6_agrees 24 = .ok (.istore 4, 2) := by decide +kernel
theorem dX6_agrees_26 : decode cX6_agrees 26 = .ok (.iload_n 2, 1) := by decide +kernel
theorem dX6_agrees_27 : decode cX6_agrees 27 = .ok (.iconst (-1), 1) := by decide +kernel
theorem dX6_agrees_28 : decode cX6_agrees 28 = .ok (.if_icmp .eq 21, 3) := by decide +kernel
theorem dX6_agrees_31 : decode cX6_agrees 31 = .ok (.aload_n 0, 1) := by decide +kernel
theorem dX6_agrees_32 : decode cX6_agrees 32 = .ok (.getfield 28, 3) := by decide +kernel
theorem dX6_agrees_35 : decode cX6_agrees 35 = .ok (.iload_n 1, 1) := by decide +kernel
theorem dX6_agrees_36 : decode cX6_agrees 36 = .ok (.iaload, 1) := by decide +kernel
theorem dX6_agrees_37 : decode cX6_agrees 37 = .ok (.iload_n 3, 1) := by decide +kernel
theorem dX6_agrees_38 : decode cX6_agrees 38 = .ok (.ishr, 1) := by decide +kernel
theorem dX6_agrees_39 : decode cX6_agrees 39 = .ok (.iconst 1, 1) := by decide +kernel
theorem dX6_agrees_40 : decode cX6_agrees 40 = .ok (.iand, 1) := by decide +kernel
theorem dX6_agrees_41 : decode cX6_agrees 41 = .ok (.iconst 1, 1) := by decide +kernel
theorem dX6_agrees_42 : decode cX6_agrees 42 = .ok (.if_icmp .ne 7, 3) := by decide +kernel
theorem dX6_agrees_45 : decode cX6_agrees 45 = .ok (.iconst 1, 1) := by decide +kernel
theorem dX6_agrees_46 : decode cX6_agrees 46 = .ok (.goto 4, 3) := by decide +kernel
theorem dX6_agrees_49 : decode cX6_agrees 49 = .ok (.iconst 0, 1) := by decide +kernel
theorem dX6_agrees_50 : decode cX6_agrees 50 = .ok (.istore 5, 2) := by decide +kernel
theorem dX6_agrees_52 : decode cX6_agrees 52 = .ok (.iload 4, 2) := by decide +kernel
theorem dX6_agrees_54 : decode cX6_agrees 54 = .ok (.iconst (-1), 1) := by decide +kernel
theorem dX6_agrees_55 : decode cX6_agrees 55 = .ok (.if_icmp .eq 21, 3) := by decide +kernel
theorem dX6_agrees_58 : decode cX6_agrees 58 = .ok (.aload_n 0, 1) := by decide +kernel
theorem dX6_agrees_59 : decode cX6_agrees 59 = .ok (.getfield 28, 3) := by decide +kernel
theorem dX6_agrees_62 : decode cX6_agrees 62 = .ok (.iload_n 3, 1) := by decide +kernel
theorem dX6_agrees_63 : decode cX6_agrees 63 = .ok (.iaload, 1) := by decide +kernel
theorem dX6_agrees_64 : decode cX6_agrees 64 = .ok (.iload_n 1, 1) := by decide +kernel
theorem dX6_agrees_65 : decode cX6_agrees 65 = .ok (.ishr, 1) := by decide +kernel
theorem dX6_agrees_66 : decode cX6_agrees 66 = .ok (.iconst 1, 1) := by decide +kernel
theorem dX6_agrees_67 : decode cX6_agrees 67 = .ok (.iand, 1) := by decide +kernel
theorem dX6_agrees_68 : decode cX6_agrees 68 = .ok (.iconst 1, 1) := by decide +kernel
theorem dX6_agrees_69 : decode cX6_agrees 69 = .ok (.if_icmp .ne 7, 3) := by decide +kernel
theorem dX6_agrees_72 : decode cX6_agrees 72 = .ok (.iconst 1, 1) := by decide +kernel
theorem dX6_agrees_73 : decode cX6_agrees 73 = .ok (.goto 4, 3) := by decide +kernel
theorem dX6_agrees_76 : decode cX6_agrees 76 = .ok (.iconst 0, 1) := by decide +kernel
theorem dX6_agrees_77 : decode cX6_agrees 77 = .ok (.istore 6, 2) := by decide +kernel
theorem dX6_agrees_79 : decode cX6_agrees 79 = .ok (.iload 5, 2) := by decide +kernel
theorem dX6_agrees_81 : decode cX6_agrees 81 = .ok (.ifCond .ne 8, 3) := by decide +kernel
theorem dX6_agrees_84 : decode cX6_agrees 84 = .ok (.iload 6, 2) := by decide +kernel
theorem dX6_agrees_86 : decode cX6_agrees 86 = .ok (.ifCond .eq 30, 3) := by decide +kernel
theorem dX6_agrees_89 : decode cX6_agrees 89 = .ok (.iload_n 2, 1) := by decide +kernel
theorem dX6_agrees_90 : decode cX6_agrees 90 = .ok (.iconst (-1), 1) := by decide +kernel
theorem dX6_agrees_91 : decode cX6_agrees 91 = .ok (.if_icmp .eq 23, 3) := by decide +kernel
theorem dX6_agrees_94 : decode cX6_agrees 94 = .ok (.iload 4, 2) := by decide +kernel
theorem dX6_agrees_96 : decode cX6_agrees 96 = .ok (.iconst (-1), 1) := by decide +kernel
theorem dX6_agrees_97 : decode cX6_agrees 97 = .ok (.if_icmp .eq 17, 3) := by decide +kernel
theorem dX6_agrees_100 : decode cX6_agrees 100 = .ok (.aload_n 0, 1) := by decide +kernel
theorem dX6_agrees_101 : decode cX6_agrees 101 = .ok (.getfield 21, 3) := by decide +kernel
theorem dX6_agrees_104 : decode cX6_agrees 104 = .ok (.iload_n 2, 1) := by decide +kernel
theorem dX6_agrees_105 : decode cX6_agrees 105 = .ok (.iaload, 1) := by decide +kernel
theorem dX6_agrees_106 : decode cX6_agrees 106 = .ok (.iload 4, 2) := by decide +kernel
theorem dX6_agrees_108 : decode cX6_agrees 108 = .ok (.ishr, 1) := by decide +kernel
theorem dX6_agrees_109 : decode cX6_agrees 109 = .ok (.iconst 1, 1) := by decide +kernel
theorem dX6_agrees_110 : decode cX6_agrees 110 = .ok (.iand, 1) := by decide +kernel
theorem dX6_agrees_111 : decode cX6_agrees 111 = .ok (.ifCond .ne 5, 3) := by decide +kernel
theorem dX6_agrees_114 : decode cX6_agrees 114 = .ok (.iconst 0, 1) := by decide +kernel
theorem dX6_agrees_115 : decode cX6_agrees 115 = .ok (.ireturn, 1) := by decide +kernel
theorem dX6_agrees_116 : decode cX6_agrees 116 = .ok (.iinc 3 1, 3) := by decide +kernel
theorem dX6_agrees_119 : decode cX6_agrees 119 = .ok (.goto (-106), 3) := by decide +kernel
theorem dX6_agrees_122 : decode cX6_agrees 122 = .ok (.iconst 1, 1) := by decide +kernel
theorem dX6_agrees_123 : decode cX6_agrees 123 = .ok (.ireturn, 1) := by decide +kernel
theorem dX7_init_0 : decode cX7_init 0 = .ok (.aload_n 0, 1) := by decide +kernel
theorem dX7_init_1 : decode cX7_init 1 = .ok (.invokespecial 3, 3) := by decide +kernel
theorem dX7_init_4 : decode cX7_init 4 = .ok (.aload_n 0, 1) := by decide +kernel
theorem dX7_init_5 : decode cX7_init 5 = .ok (.new 9, 3) := by decide +kernel
theorem dX7_init_8 : decode cX7_init 8 = .ok (.dup, 1) := by decide +kernel
theorem dX7_init_9 : decode cX7_init 9 = .ok (.bipush 6, 2) := by decide +kernel
theorem dX7_init_11 : decode cX7_init 11 = .ok (.invokespecial 11, 3) := by decide +kernel
theorem dX7_init_14 : decode cX7_init 14 = .ok (.putfield 14, 3) := by decide +kernel
theorem dX7_init_17 : decode cX7_init 17 = .ok (.aload_n 0, 1) := by decide +kernel
theorem dX7_init_18 : decode cX7_init 18 = .ok (.bipush 6, 2) := by decide +kernel
theorem dX7_init_20 : decode cX7_init 20 = .ok (.newarray .int, 2) := by decide +kernel
theorem dX7_init_22 : decode cX7_init 22 = .ok (.putfield 20, 3) := by decide +kernel
theorem dX7_init_25 : decode cX7_init 25 = .ok (.aload_n 0, 1) := by decide +kernel
theorem dX7_init_26 : decode cX7_init 26 = .ok (.iconst 0, 1) := by decide +kernel
theorem dX7_init_27 : decode cX7_init 27 = .ok (.putfield 24, 3) := by decide +kernel
theorem dX7_init_30 : decode cX7_init 30 = .ok (.aload_n 0, 1) := by decide +kernel
theorem dX7_init_31 : decode cX7_init 31 = .ok (.iconst 0, 1) := by decide +kernel
theorem dX7_init_32 : decode cX7_init 32 = .ok (.putfield 28, 3) := by decide +kernel
theorem dX7_init_35 : decode cX7_init 35 = .ok (.aload_n 0, 1) := by decide +kernel
theorem dX7_init_36 : decode cX7_init 36 = .ok (.iconst 0, 1) := by decide +kernel
theorem dX7_init_37 : decode cX7_init 37 = .ok (.putfield 31, 3) := by decide +kernel
theorem dX7_init_40 : decode cX7_init 40 = .ok (.return_, 1) := by decide +kernel
theorem dX7_takeAll_0 : decode cX7_takeAll 0 = .ok (.aload_n 0, 1) := by decide +kernel
theorem dX7_takeAll_1 : decode cX7_takeAll 1 = .ok (.getfield 14, 3) := by decide +kernel
theorem dX7_takeAll_4 : decode cX7_takeAll 4 = .ok (.aload_n 1, 1) := by decide +kernel
theorem dX7_takeAll_5 : decode cX7_takeAll 5 = .ok (.getfield 14, 3) := by decide +kernel
theorem dX7_takeAll_8 : decode cX7_takeAll 8 = .ok (.invokevirtual 34, 3) := by decide +kernel
theorem dX7_takeAll_11 : decode cX7_takeAll 11 = .ok (.aload_n 1, 1) := by decide +kernel
theorem dX7_takeAll_12 : decode cX7_takeAll 12 = .ok (.getfield 20, 3) := by decide +kernel
theorem dX7_takeAll_15 : decode cX7_takeAll 15 = .ok (.iconst 0, 1) := by decide +kernel
theorem dX7_takeAll_16 : decode cX7_takeAll 16 = .ok (.aload_n 0, 1) := by decide +kernel
theorem dX7_takeAll_17 : decode cX7_takeAll 17 = .ok (.getfield 20, 3) := by decide +kernel
theorem dX7_takeAll_20 : decode cX7_takeAll 20 = .ok (.iconst 0, 1) := by decide +kernel
theorem dX7_takeAll_21 : decode cX7_takeAll 21 = .ok (.bipush 6, 2) := by decide +kernel
theorem dX7_takeAll_23 : decode cX7_takeAll 23 = .ok (.invokestatic 38, 3) := by decide +kernel
theorem dX7_takeAll_26 : decode cX7_takeAll 26 = .ok (.aload_n 0, 1) := by decide +kernel
theorem dX7_takeAll_27 : decode cX7_takeAll 27 = .ok (.aload_n 1, 1) := by decide +kernel
theorem dX7_takeAll_28 : decode cX7_takeAll 28 = .ok (.getfield 24, 3) := by decide +kernel
theorem dX7_takeAll_31 : decode cX7_takeAll 31 = .ok (.putfield 24, 3) := by decide +kernel
theorem dX7_takeAll_34 : decode cX7_takeAll 34 = .ok (.aload_n 0, 1) := by decide +kernel
theorem dX7_takeAll_35 : decode cX7_takeAll 35 = .ok (.aload_n 1, 1) := by decide +kernel
theorem dX7_takeAll_36 : decode cX7_takeAll 36 = .ok (.getfield 28, 3) := by decide +kernel
theorem dX7_takeAll_39 : decode cX7_takeAll 39 = .ok (.putfield 28, 3) := by decide +kernel
theorem dX7_takeAll_42 : decode cX7_takeAll 42 = .ok (.aload_n 0, 1) := by decide +kernel
theorem dX7_takeAll_43 : decode cX7_takeAll 43 = .ok (.aload_n 1, 1) := by decide +kernel
theorem dX7_takeAll_44 : decode cX7_takeAll 44 = .ok (.getfield 31, 3) := by decide +kernel
theorem dX7_takeAll_47 : decode cX7_takeAll 47 = .ok (.putfield 31, 3) := by decide +kernel
theorem dX7_takeAll_50 : decode cX7_takeAll 50 = .ok (.return_, 1) := by decide +kernel
theorem dX8_init_0 : decode cX8_init 0 = .ok (.aload_n 0, 1) := by decide +kernel
theorem dX8_init_1 : decode cX8_init 1 = .ok (.invokespecial 3, 3) := by decide +kernel
theorem dX8_init_4 : decode cX8_init 4 = .ok (.aload_n 0, 1) := by decide +kernel
theorem dX8_init_5 : decode cX8_init 5 = .ok (.sipush 240, 3) := by decide +kernel
theorem dX8_init_8 : decode cX8_init 8 = .ok (.newarray .int, 2) := by decide +kernel
theorem dX8_init_10 : decode cX8_init 10 = .ok (.putfield 11, 3) := by decide +kernel
theorem dX8_init_13 : decode cX8_init 13 = .ok (.aload_n 0, 1) := by decide +kernel
theorem dX8_init_14 : decode cX8_init 14 = .ok (.iconst 0, 1) := by decide +kernel
theorem dX8_init_15 : decode cX8_init 15 = .ok (.putfield 15, 3) := by decide +kernel
theorem dX8_init_18 : decode cX8_init 18 = .ok (.aload_n 0, 1) := by decide +kernel
theorem dX8_init_19 : decode cX8_init 19 = .ok (.iconst 0, 1) := by decide +kernel
theorem dX8_init_20 : decode cX8_init 20 = .ok (.putfield 19, 3) := by decide +kernel
theorem dX8_init_23 : decode cX8_init 23 = .ok (.return_, 1) := by decide +kernel
theorem dX8_solidBytes_0 : decode cX8_solidBytes 0 = .ok (.iconst 0, 1) := by decide +kernel
theorem dX8_solidBytes_1 : decode cX8_solidBytes 1 = .ok (.istore_n 2, 1) := by decide +kernel
theorem dX8_solidBytes_2 : decode cX8_solidBytes 2 = .ok (.bipush 24, 2) := by decide +kernel
theorem dX8_solidBytes_4 : decode cX8_solidBytes 4 = .ok (.istore_n 3, 1) := by decide +kernel
theorem dX8_solidBytes_5 : decode cX8_solidBytes 5 = .ok (.iload_n 3, 1) := by decide +kernel
theorem dX8_solidBytes_6 : decode cX8_solidBytes 6 = .ok (.ifCond .lt 22, 3) := by decide +kernel
theorem dX8_solidBytes_9 : decode cX8_solidBytes 9 = .ok (.iload_n 1, 1) := by decide +kernel
theorem dX8_solidBytes_10 : decode cX8_solidBytes 10 = .ok (.iload_n 3, 1) := by decide +kernel
theorem dX8_solidBytes_11 : decode cX8_solidBytes 11 = .ok (.iushr, 1) := by decide +kernel
theorem dX8_solidBytes_12 : decode cX8_solidBytes 12 = .ok (.sipush 255, 3) := by decide +kernel
theorem dX8_solidBytes_15 : decode cX8_solidBytes 15 = .ok (.iand, 1) := by decide +kernel
theorem dX8_solidBytes_16 : decode cX8_solidBytes 16 = .ok (.ifCond .eq 6, 3) := by decide +kernel
theorem dX8_solidBytes_19 : decode cX8_solidBytes 19 = .ok (.iinc 2 1, 3) := by decide +kernel
theorem dX8_solidBytes_22 : decode cX8_solidBytes 22 = .ok (.iinc 3 (-8), 3) := by decide +kernel
theorem dX8_solidBytes_25 : decode cX8_solidBytes 25 = .ok (.goto (-20), 3) := by decide +kernel
theorem dX8_solidBytes_28 : decode cX8_solidBytes 28 = .ok (.iload_n 2, 1) := by decide +kernel
theorem dX8_solidBytes_29 : decode cX8_solidBytes 29 = .ok (.ireturn, 1) := by decide +kernel
theorem dX8_append_0 : decode cX8_append 0 = .ok (.bipush 24, 2) := by decide +kernel
theorem dX8_append_2 : decode cX8_append 2 = .ok (.istore_n 2, 1) := by decide +kernel
theorem dX8_append_3 : decode cX8_append 3 = .ok (.iload_n 2, 1) := by decide +kernel
theorem dX8_append_4 : decode cX8_append 4 = .ok (.ifCond .lt 51, 3) := by decide +kernel
theorem dX8_append_7 : decode cX8_append 7 = .ok (.iload_n 1, 1) := by decide +kernel
theorem dX8_append_8 : decode cX8_append 8 = .ok (.iload_n 2, 1) := by decide +kernel
theorem dX8_append_9 : decode cX8_append 9 = .ok (.iushr, 1) := by decide +kernel
theorem dX8_append_10 : decode cX8_append 10 = .ok (.sipush 255, 3) := by decide +kernel
theorem dX8_append_13 : decode cX8_append 13 = .ok (.iand, 1) := by decide +kernel
theorem dX8_append_14 : decode cX8_append 14 = .ok (.istore_n 3, 1) := by decide +kernel
theorem dX8_append_15 : decode cX8_append 15 = .ok (.iload_n 3, 1) := by decide +kernel
theorem dX8_append_16 : decode cX8_append 16 = .ok (.ifCond .eq 33, 3) := by decide +kernel
theorem dX8_append_19 : decode cX8_append 19 = .ok (.aload_n 0, 1) := by decide +kernel
theorem dX8_append_20 : decode cX8_append 20 = .ok (.getfield 15, 3) := by decide +kernel
theorem dX8_append_23 : decode cX8_append 23 = .ok (.sipush 240, 3) := by decide +kernel
theorem dX8_append_26 : decode cX8_append 26 = .ok (.if_icmp .ge 23, 3) := by decide +kernel
theorem dX8_append_29 : decode cX8_append 29 = .ok (.aload_n 0, 1) := by decide +kernel
theorem dX8_append_30 : decode cX8_append 30 = .ok (.getfield 11, 3) := by decide +kernel
theorem dX8_append_33 : decode cX8_append 33 = .ok (.aload_n 0, 1) := by decide +kernel
theorem dX8_append_34 : decode cX8_append 34 = .ok (.getfield 15, 3) := by decide +kernel
theorem dX8_append_37 : decode cX8_append 37 = .ok (.iload_n 3, 1) := by decide +kernel
theorem dX8_append_38 : decode cX8_append 38 = .ok (.iastore, 1) := by decide +kernel
theorem dX8_append_39 : decode cX8_append 39 = .ok (.aload_n 0, 1) := by decide +kernel
theorem dX8_append_40 : decode cX8_append 40 = .ok (.dup, 1) := by decide +kernel
theorem dX8_append_41 : decode cX8_append 41 = .ok (.getfield 15, 3) := by decide +kernel
theorem dX8_append_44 : decode cX8_append 44 = .ok (.iconst 1, 1) := by decide +kernel
theorem dX8_append_45 : decode cX8_append 45 = .ok (.iadd, 1) := by decide +kernel
theorem dX8_append_46 : decode cX8_append 46 = .ok (.putfield 15, 3) := by decide +kernel
theorem dX8_append_49 : decode cX8_append 49 = .ok (.iinc 2 (-8), 3) := by decide +kernel
theorem dX8_append_52 : decode cX8_append 52 = .ok (.goto (-49), 3) := by decide +kernel
theorem dX8_append_55 : decode cX8_append 55 = .ok (.return_, 1) := by decide +kernel
theorem dX8_rewind_0 : decode cX8_rewind 0 = .ok (.aload_n 0, 1) := by decide +kernel
theorem dX8_rewind_1 : decode cX8_rewind 1 = .ok (.iconst 0, 1) := by decide +kernel
theorem dX8_rewind_2 : decode cX8_rewind 2 = .ok (.putfield 19, 3) := by decide +kernel
theorem dX8_rewind_5 : decode cX8_rewind 5 = .ok (.return_, 1) := by decide +kernel
theorem dX8_peek_0 : decode cX8_peek 0 = .ok (.aload_n 0, 1) := by decide +kernel
theorem dX8_peek_1 : decode cX8_peek 1 = .ok (.getfield 19, 3) := by decide +kernel
theorem dX8_peek_4 : decode cX8_peek 4 = .ok (.aload_n 0, 1) := by decide +kernel
theorem dX8_peek_5 : decode cX8_peek 5 = .ok (.getfield 15, 3) := by decide +kernel
theorem dX8_peek_8 : decode cX8_peek 8 = .ok (.if_icmp .ge 30, 3) := by decide +kernel
theorem dX8_peek_11 : decode cX8_peek 11 = .ok (.aload_n 0, 1) := by decide +kernel
theorem dX8_peek_12 : decode cX8_peek 12 = .ok (.getfield 11, 3) := by decide +kernel
theorem dX8_peek_15 : decode cX8_peek 15 = .ok (.aload_n 0, 1) := by decide +kernel
theorem dX8_peek_16 : decode cX8_peek 16 = .ok (.getfield 19, 3) := by decide +kernel
theorem dX8_peek_19 : decode cX8_peek 19 = .ok (.iaload, 1) := by decide +kernel
theorem dX8_peek_20 : decode cX8_peek 20 = .ok (.bipush 32, 2) := by decide +kernel
theorem dX8_peek_22 : decode cX8_peek 22 = .ok (.if_icmp .ne 16, 3) := by decide +kernel
theorem dX8_peek_25 : decode cX8_peek 25 = .ok (.aload_n 0, 1) := by decide +kernel
theorem dX8_peek_26 : decode cX8_peek 26 = .ok (.dup, 1) := by decide +kernel
theorem dX8_peek_27 : decode cX8_peek 27 = .ok (.getfield 19, 3) := by decide +kernel
theorem dX8_peek_30 : decode cX8_peek 30 = .ok (.iconst 1, 1) := by decide +kernel
theorem dX8_peek_31 : decode cX8_peek 31 = .ok (.iadd, 1) := by decide +kernel
theorem dX8_peek_32 : decode cX8_peek 32 = .ok (.putfield 19, 3) := by decide +kernel
theorem dX8_peek_35 : decode cX8_peek 35 = .ok (.goto (-35), 3) := by decide +kernel
theorem dX8_peek_38 : decode cX8_peek 38 = .ok (.aload_n 0, 1) := by decide +kernel
theorem dX8_peek_39 : decode cX8_peek 39 = .ok (.getfield 19, 3) := by decide +kernel
theorem dX8_peek_42 : decode cX8_peek 42 = .ok (.aload_n 0, 1) := by decide +kernel
theorem dX8_peek_43 : decode cX8_peek 43 = .ok (.getfield 15, 3) := by decide +kernel
theorem dX8_peek_46 : decode cX8_peek 46 = .ok (.if_icmp .ge 15, 3) := by decide +kernel
theorem dX8_peek_49 : decode cX8_peek 49 = .ok (.aload_n 0, 1) := by decide +kernel
theorem dX8_peek_50 : decode cX8_peek 50 = .ok (.getfield 11, 3) := by decide +kernel
theorem dX8_peek_53 : decode cX8_peek 53 = .ok (.aload_n 0, 1) := by decide +kernel
theorem dX8_peek_54 : decode cX8_peek 54 = .ok (.getfield 19, 3) := by decide +kernel
theorem dX8_peek_57 : decode cX8_peek 57 = .ok (.iaload, 1) := by decide +kernel
theorem dX8_peek_58 : decode cX8_peek 58 = .ok (.goto 4, 3) := by decide +kernel
theorem dX8_peek_61 : decode cX8_peek 61 = .ok (.iconst (-1), 1) := by decide +kernel
theorem dX8_peek_62 : decode cX8_peek 62 = .ok (.ireturn, 1) := by decide +kernel
theorem dX8_step_0 : decode cX8_step 0 = .ok (.aload_n 0, 1) := by decide +kernel
theorem dX8_step_1 : decode cX8_step 1 = .ok (.getfield 19, 3) := by decide +kernel
theorem dX8_step_4 : decode cX8_step 4 = .ok (.aload_n 0, 1) := by decide +kernel
theorem dX8_step_5 : decode cX8_step 5 = .ok (.getfield 15, 3) := by decide +kernel
theorem dX8_step_8 : decode cX8_step 8 = .ok (.if_icmp .ge 13, 3) := by decide +kernel
theorem dX8_step_11 : decode cX8_step 11 = .ok (.aload_n 0, 1) := by decide +kernel
theorem dX8_step_12 : decode cX8_step 12 = .ok (.dup, 1) := by decide +kernel
theorem dX8_step_13 : decode cX8_step 13 = .ok (.getfield 19, 3) := by decide +kernel
theorem dX8_step_16 : decode cX8_step 16 = .ok (.iconst 1, 1) := by decide +kernel
theorem dX8_step_17 : decode cX8_step 17 = .ok (.iadd, 1) := by decide +kernel
theorem dX8_step_18 : decode cX8_step 18 = .ok (.putfield 19, 3) := by decide +kernel
theorem dX8_step_21 : decode cX8_step 21 = .ok (.return_, 1) := by decide +kernel
theorem dX8_accept_0 : decode cX8_accept 0 = .ok (.aload_n 0, 1) := by decide +kernel
theorem dX8_accept_1 : decode cX8_accept 1 = .ok (.invokevirtual 22, 3) := by decide +kernel
theorem dX8_accept_4 : decode cX8_accept 4 = .ok (.iload_n 1, 1) := by decide +kernel
theorem dX8_accept_5 : decode cX8_accept 5 = .ok (.if_icmp .eq 5, 3) := by decide +kernel
theorem dX8_accept_8 : decode cX8_accept 8 = .ok (.iconst 0, 1) := by decide +kernel
theorem dX8_accept_9 : decode cX8_accept 9 = .ok (.ireturn, 1) := by decide +kernel
theorem dX8_accept_10 : decode cX8_accept 10 = .ok (.aload_n 0, 1) := by decide +kernel
theorem dX8_accept_11 : decode cX8_accept 11 = .ok (.invokevirtual 26, 3) := by decide +kernel
theorem dX8_accept_14 : decode cX8_accept 14 = .ok (.iconst 1, 1) := by decide +kernel
theorem dX8_accept_15 : decode cX8_accept 15 = .ok (.ireturn, 1) := by decide +kernel
theorem dX8_readNumber_0 : decode cX8_readNumber 0 = .ok (.iconst 0, 1) := by decide +kernel
theorem dX8_readNumber_1 : decode cX8_readNumber 1 = .ok (.istore 4, 2) := by decide +kernel
theorem dX8_readNumber_3 : decode cX8_readNumber 3 = .ok (.iconst 0, 1) := by decide +kernel
theorem dX8_readNumber_4 : decode cX8_readNumber 4 = .ok (.istore 5, 2) := by decide +kernel
theorem dX8_readNumber_6 : decode cX8_readNumber 6 = .ok (.aload_n 0, 1) := by decide +kernel
theorem dX8_readNumber_7 : decode cX8_readNumber 7 = .ok (.getfield 19, 3) := by decide +kernel
theorem dX8_readNumber_10 : decode cX8_readNumber 10 = .ok (.aload_n 0, 1) := by decide +kernel
theorem dX8_readNumber_11 : decode cX8_readNumber 11 = .ok (.getfield 15, 3) := by decide +kernel
theorem dX8_readNumber_14 : decode cX8_readNumber 14 = .ok (.if_icmp .ge 75, 3) := by decide +kernel
theorem dX8_readNumber_17 : decode cX8_readNumber 17 = .ok (.aload_n 0, 1) := by decide +kernel
theorem dX8_readNumber_18 : decode cX8_readNumber 18 = .ok (.getfield 11, 3) := by decide +kernel
theorem dX8_readNumber_21 : decode cX8_readNumber 21 = .ok (.aload_n 0, 1) := by decide +kernel
theorem dX8_readNumber_22 : decode cX8_readNumber 22 = .ok (.getfield 19, 3) := by decide +kernel
theorem dX8_readNumber_25 : decode cX8_readNumber 25 = .ok (.iaload, 1) := by decide +kernel
theorem dX8_readNumber_26 : decode cX8_readNumber 26 = .ok (.bipush 48, 2) := by decide +kernel
